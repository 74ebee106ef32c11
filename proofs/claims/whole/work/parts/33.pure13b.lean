-- may
def mr (N : Nat → Int32) (p s a : Int32) (k : Nat) : Bool := !(decide (N (81 + 4 * k) = p) || decide (N (81 + (4 * k + 1)) = p)) || !decide (N (81 + (4 * k + 2)) = s) || sb N k p a
theorem C_artL {σ : Sta} {N : Nat → Int32} {n yr u nn nb : Nat} (hv : VR σ.1 1 N n yr u nn nb) (p s a : Int32) : ∀ (d k fu : Nat), k + d = nb → d < fu → allB (mr N p s a) k = true → X0_artFits_L9 55 1 fu p s a (nI k) σ = some (bi (allB (mr N p s a) nb), σ)
  | d, k, 0, _, h, _ => by omega
  | 0, k, fu + 1, hk, _, ha => by
    have h6 := hv.nb6
    have e : k = nb := by omega
    subst e
    rw [X0_artFits_L9, fI_e, hv.sb, if_neg (nI_nlt (Nat.le_refl _) (by omega)), ha]
    rfl
  | d + 1, k, fu + 1, hk, hf, ha => by
    have h6 := hv.nb6
    have hk2 : k < nb := by omega
    have ih := C_artL hv p s a d (k + 1) fu (by omega) (by omega)
    have ea : allB (mr N p s a) (k + 1) = mr N p s a k := by rw [allB, ha, Bool.true_and]
    rw [ea] at ih
    have c0 := C_cell0 (σ := σ) (r := 1 + 11) hv.sb h6 hk2
    have c1 := C_cell1 (σ := σ) (r := 1 + 11) hv.sb h6 hk2
    have c2 := C_cell2 (σ := σ) (r := 1 + 11) hv.sb h6 hk2
    rw [show σ.1 (1 + 11 + 1) (4 * k) = N (81 + 4 * k) from hv.be (4 * k) (by omega)] at c0
    rw [show σ.1 (1 + 11 + 1) (4 * k + 1) = N (81 + (4 * k + 1)) from hv.be (4 * k + 1) (by omega)] at c1
    rw [show σ.1 (1 + 11 + 1) (4 * k + 2) = N (81 + (4 * k + 2)) from hv.be (4 * k + 2) (by omega)] at c2
    have step : ∀ b : Bool, (decide (N (81 + 4 * k) = p) || decide (N (81 + (4 * k + 1)) = p)) = b → X0_artFits_L48 55 1 (X0_artFits_L9 55 1 fu) p s a (nI k) (bi b) σ = some (bi (allB (mr N p s a) nb), σ) := by
      intro b hb
      rw [X0_artFits_L48, bi_if, nI_1]
      rw [mr, hb] at ih
      cases b with
      | false => exact ih rfl
      | true =>
        rw [if_pos rfl, cA_of c2]
        by_cases q : N (81 + (4 * k + 2)) = s
        · rw [if_pos q, cA_of (C_so hv hk2 p a), bi_if]
          cases q2 : sb N k p a with
          | true => exact ih (by rw [q2, Bool.or_true])
          | false =>
            have e0 : allB (mr N p s a) (k + 1) = false := by
              rw [ea, mr, hb, decide_eq_true q, q2]
              rfl
            have e1 := allB_f e0 d
            rw [show k + 1 + d = nb by omega] at e1
            rw [e1]
            rfl
        · rw [if_neg q]
          exact ih (by rw [decide_eq_false q]; simp)
    rw [X0_artFits_L9, fI_e, hv.sb, if_pos (nI_lt (by omega) (by omega)), cA_of c0]
    by_cases q1 : N (81 + 4 * k) = p
    · rw [if_pos q1]
      exact step true (by rw [decide_eq_true q1, Bool.true_or])
    · rw [if_neg q1, cA_of c1]
      by_cases q2 : N (81 + (4 * k + 1)) = p
      · rw [if_pos q2]
        exact step true (by rw [decide_eq_true q2, Bool.or_true])
      · rw [if_neg q2]
        exact step false (by rw [decide_eq_false q1, decide_eq_false q2]; rfl)
theorem lt10 {k : Nat} (h : k < 10) : nI k < 10 := nI_lt (b := 10) h (by decide)
theorem C_mayL {σ : Sta} {N : Nat → Int32} {n yr u nn nb : Nat} (hv : VR σ.1 1 N n yr u nn nb) (p s : Int32) : ∀ (d a fu : Nat), a + d = 10 → d < fu → X11_may_L27 fu p s (bO (fun a => allB (mr N p s (nI a)) nb) a) (nI a) σ = some (bO (fun a => allB (mr N p s (nI a)) nb) 10, σ)
  | d, k, 0, _, h => by omega
  | 0, k, fu + 1, hk, _ => by
    have e : k = 10 := by omega
    subst e
    rw [X11_may_L27, if_neg (by decide)]
  | d + 1, k, fu + 1, hk, hf => by
    have ih := C_mayL hv p s d (k + 1) fu (by omega) (by omega)
    have h6 := hv.nb6
    rw [X11_may_L27, if_pos (lt10 (by omega)), cA_of (show X0_artFits 55 1 p s (nI k) σ = _ from C_artL hv p s (nI k) nb 0 FU (by omega) (by show nb < 300; omega) rfl), bi_if, nI_1]
    rw [bO] at ih
    cases q : allB (mr N p s (nI k)) nb with
    | true =>
      simp only [q, if_true] at ih ⊢
      exact ih
    | false =>
      simp only [q, Bool.false_eq_true, if_false] at ih ⊢
      exact ih
theorem M_mayR {σ : Sta} {S : Nat → Nat → Int32} {r n yr u nn nb : Nat} (hv : VR S r (σ.1 83) n yr u nn nb) {a : Nat} (ha : a < 10) (p s z : Int32) (K : Int32 → Int32 → Int32 → Int32 → Sta → Option (Int32 × Sta)) : ∀ (d k fu : Nat), k + d = nb → d < fu → X12_may_L40 K fu p s z (nI a) (bi (allB (mr (σ.1 83) p s (nI a)) k)) (nI k) σ = K p s (if allB (mr (σ.1 83) p s (nI a)) nb then z ||| ((1 : Int32) <<< (nI a &&& 31)) else z) (nI (a + 1)) σ
  | d, i, 0, _, h => by omega
  | 0, i, fu + 1, hi, _ => by
    have h6 := hv.nb6
    have e : i = nb := by omega
    subst e
    rw [X12_may_L40, aI2, hv.N2, if_neg (nI_nlt (Nat.le_refl _) (by omega)), bi_if, Int32.or_zero, nI_1]
    cases allB (mr (σ.1 83) p s (nI a)) i <;> rfl
  | d + 1, k, fu + 1, hk, hf => by
    have h6 := hv.nb6
    have hk2 : k < nb := by omega
    have ih := M_mayR hv ha p s z K d (k + 1) fu (by omega) (by omega)
    rw [allB] at ih
    have step : ∀ b : Bool, (decide (σ.1 83 (81 + 4 * k) = p) || decide (σ.1 83 (81 + (4 * k + 1)) = p)) = b → X12_may_L90 K (X12_may_L40 K fu) p s z (nI a) (bi (allB (mr (σ.1 83) p s (nI a)) k)) (nI k) (bi b) σ = K p s (if allB (mr (σ.1 83) p s (nI a)) nb then z ||| ((1 : Int32) <<< (nI a &&& 31)) else z) (nI (a + 1)) σ := by
      intro b hb
      rw [X12_may_L90, nI_1]
      cases hA : allB (mr (σ.1 83) p s (nI a)) k with
      | false =>
        rw [hA, Bool.false_and] at ih
        exact ih
      | true =>
        rw [hA, Bool.true_and] at ih
        rw [if_neg (show ¬ bi true = 0 by decide), bi_if]
        cases b with
        | false =>
          have em : mr (σ.1 83) p s (nI a) k = true := by rw [mr, hb]; simp
          rw [em, show bi true = 1 from rfl] at ih
          exact ih
        | true =>
          rw [if_pos rfl, aB2 (by omega)]
          by_cases q : σ.1 83 (81 + (4 * k + 2)) = s
          · rw [if_pos q, cA_of (M_so hv hk2 p ha), bi_if]
            cases q2 : sb (σ.1 83) k p (nI a) with
            | true =>
              have em : mr (σ.1 83) p s (nI a) k = true := by rw [mr, q2, Bool.or_true]
              rw [em, show bi true = 1 from rfl] at ih
              exact ih
            | false =>
              have em : mr (σ.1 83) p s (nI a) k = false := by rw [mr, hb, decide_eq_true q, q2]; rfl
              rw [em, show bi false = 0 from rfl] at ih
              exact ih
          · rw [if_neg q]
            have em : mr (σ.1 83) p s (nI a) k = true := by rw [mr, decide_eq_false q]; simp
            rw [em, show bi true = 1 from rfl] at ih
            exact ih
    rw [X12_may_L40, aI2, hv.N2, if_pos (nI_lt (by omega) (by omega)), aB0 (by omega), aB1 (by omega)]
    by_cases q1 : σ.1 83 (81 + 4 * k) = p
    · rw [if_pos q1]
      exact step true (by rw [decide_eq_true q1, Bool.true_or])
    · rw [if_neg q1]
      by_cases q2 : σ.1 83 (81 + (4 * k + 1)) = p
      · rw [if_pos q2]
        exact step true (by rw [decide_eq_true q2, Bool.or_true])
      · rw [if_neg q2]
        exact step false (by rw [decide_eq_false q1, decide_eq_false q2]; rfl)
theorem M_mayL {σ : Sta} {S : Nat → Nat → Int32} {r n yr u nn nb : Nat} (hv : VR S r (σ.1 83) n yr u nn nb) (p s : Int32) : ∀ (d a fu : Nat), a + d = 10 → d < fu → X12_may_L27 fu p s (bO (fun a => allB (mr (σ.1 83) p s (nI a)) nb) a) (nI a) σ = some (bO (fun a => allB (mr (σ.1 83) p s (nI a)) nb) 10, σ)
  | d, k, 0, _, h => by omega
  | 0, k, fu + 1, hk, _ => by
    have e : k = 10 := by omega
    subst e
    rw [X12_may_L27, if_neg (by decide)]
  | d + 1, k, fu + 1, hk, hf => by
    have ih := M_mayL hv p s d (k + 1) fu (by omega) (by omega)
    have h6 := hv.nb6
    rw [X12_may_L27, if_pos (lt10 (by omega))]
    exact (M_mayR hv (a := k) (by omega) p s _ _ nb 0 FU (by omega) (by show nb < 300; omega)).trans ih

theorem P_may {σ : Sta} (h : Inv σ) (x1 x2 : Int32) : Pair (X11_may x1 x2) (X12_may x1 x2) σ := by
  obtain ⟨n, yr, u, nn, nb, hv⟩ := h.1
  have b0 : (badC σ).1 83 0 = nI n := by rw [badC_83]; exact hv.N0
  have b4 : (badC σ).1 83 4 = nI yr := by rw [badC_83]; exact hv.N4
  by_cases e0 : inB x1 0 (nI n - 1) = true
  rotate_left
  · rw [Bool.not_eq_true] at e0; exact pair_bad (a := -2) h (by simp only [X11_may, C_isOne_b hv.s10, e0, cA_e, bi_if, within_b, C_isArt_b, C_bad, Bool.false_eq_true, ite_false, ite_true, if_true, if_false]) (by simp only [X12_may, M_isOne_b b0, e0, cA_e, bi_if, M_isYear_b, M_isSort_b, in_01, in_02, in_05, in_06, in_07, in_09, in_30, in_60, in_99, in_12, M_bad, Bool.false_eq_true, ite_false, ite_true, if_true, if_false])
  by_cases e1 : inB x2 0 2 = true
  rotate_left
  · rw [Bool.not_eq_true] at e1; exact pair_bad (a := -2) h (by simp only [X11_may, C_isOne_b hv.s10, e0, e1, cA_e, bi_if, within_b, C_isArt_b, C_bad, Bool.false_eq_true, ite_false, ite_true, if_true, if_false]) (by simp only [X12_may, M_isOne_b b0, e0, e1, cA_e, bi_if, M_isYear_b, M_isSort_b, in_01, in_02, in_05, in_06, in_07, in_09, in_30, in_60, in_99, in_12, M_bad, Bool.false_eq_true, ite_false, ite_true, if_true, if_false])
  obtain ⟨j0, hj0, rfl⟩ := inB_1 hv.n6 e0
  obtain ⟨j1, hj1, rfl⟩ := inB_n (m := 2) (by decide) e1
  refine pair_q h (a := bO (fun a => allB (mr (σ.1 83) (nI j0) (nI j1) (nI a)) nb) 10) ?_ (fun τ hτ => ?_)
  · simp only [X11_may, C_isOne_b hv.s10, e0, e1, cA_e, bi_if, within_b, C_isArt_b, C_bad, Bool.false_eq_true, ite_false, ite_true, if_true, if_false]
    exact ⟨σ, C_mayL hv (nI j0) (nI j1) 10 0 FU rfl (by decide), FrQ.rf σ⟩
  · have t83 : τ.1 83 = σ.1 83 := hτ.at (by unfold isQ; omega)
    have t0 : τ.1 83 0 = nI n := by rw [t83]; exact hv.N0
    have t4 : τ.1 83 4 = nI yr := by rw [t83]; exact hv.N4
    have tv : VR σ.1 1 (τ.1 83) n yr u nn nb := by rw [t83]; exact hv
    simp only [X12_may, M_isOne_b t0, e0, e1, cA_e, bi_if, M_isYear_b, M_isSort_b, in_01, in_02, in_05, in_06, in_07, in_09, in_30, in_60, in_99, in_12, M_bad, Bool.false_eq_true, ite_false, ite_true, if_true, if_false]
    have := M_mayL tv (nI j0) (nI j1) 10 0 FU rfl (by decide)
    rw [t83] at this
    exact ⟨τ, this, FrQ.rf τ⟩
