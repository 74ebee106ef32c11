/-! PURE HALF 12: what one is, what to offer, how good one may be, clashes, the handicap -/
def allB (f : Nat → Bool) : Nat → Bool
  | 0 => true
  | m + 1 => allB f m && f m
theorem allB_f {f : Nat → Bool} {r : Nat} (h : allB f r = false) : ∀ d, allB f (r + d) = false
  | 0 => h
  | d + 1 => by
    show (allB f (r + d) && f (r + d)) = false
    rw [allB_f h d]
    rfl
def bO (f : Nat → Bool) : Nat → Int32
  | 0 => 0
  | k + 1 => if f k then bO f k ||| ((1 : Int32) <<< (nI k &&& 31)) else bO f k
theorem C_cell {σ : Sta} {r m i c : Nat} (h1 : σ.1 r 1 = nI m) (hm : m ≤ 6) (hi : i < m) (hc : c < 4) : X9_cell r (nI i) (nI c) σ = some (σ.1 (r + 1) (4 * i + c), σ) := by
  rw [X9_cell, if_neg (nI_pos (by omega)), fI_e, h1, if_pos (nI_lt hi (by omega)), if_neg (nI_pos (by omega)), if_pos (show nI c < 4 from nI_lt (b := 4) hc (by decide)), x4, nI_add, aI_n _ (by omega)]
theorem C_cell0 {σ : Sta} {r m i : Nat} (h1 : σ.1 r 1 = nI m) (hm : m ≤ 6) (hi : i < m) : X9_cell r (nI i) (0 : Int32) σ = some (σ.1 (r + 1) (4 * i), σ) := C_cell (c := 0) h1 hm hi (by decide)
theorem C_cell1 {σ : Sta} {r m i : Nat} (h1 : σ.1 r 1 = nI m) (hm : m ≤ 6) (hi : i < m) : X9_cell r (nI i) (1 : Int32) σ = some (σ.1 (r + 1) (4 * i + 1), σ) := C_cell (c := 1) h1 hm hi (by decide)
theorem C_cell2 {σ : Sta} {r m i : Nat} (h1 : σ.1 r 1 = nI m) (hm : m ≤ 6) (hi : i < m) : X9_cell r (nI i) (2 : Int32) σ = some (σ.1 (r + 1) (4 * i + 2), σ) := C_cell (c := 2) h1 hm hi (by decide)
theorem C_cell3 {σ : Sta} {r m i : Nat} (h1 : σ.1 r 1 = nI m) (hm : m ≤ 6) (hi : i < m) : X9_cell r (nI i) (3 : Int32) σ = some (σ.1 (r + 1) (4 * i + 3), σ) := C_cell (c := 3) h1 hm hi (by decide)
theorem lt6 {k : Nat} (h : k < 6) : nI k < 6 := nI_lt (b := 6) h (by decide)
theorem nlt6 : ¬ nI 6 < (6 : Int32) := by decide
theorem e57 (r : Nat) : (57 : Int32) + (4 : Int32) * nI r = nI (57 + 4 * r) := by
  rw [x4', show (57 : Int32) = nI 57 from rfl, nI_add]
theorem e57c (r : Nat) (c : Nat) : nI (57 + 4 * r) + nI c = nI (57 + (4 * r + c)) := by rw [nI_add, Nat.add_assoc]
theorem e81 (r : Nat) : (81 : Int32) + (4 : Int32) * nI r = nI (81 + 4 * r) := by
  rw [x4', show (81 : Int32) = nI 81 from rfl, nI_add]
theorem e81c (r : Nat) (c : Nat) : nI (81 + 4 * r) + nI c = nI (81 + (4 * r + c)) := by rw [nI_add, Nat.add_assoc]
/-- a note, and a kind -/
def fit (N : Nat → Int32) (p : Int32) (k r : Nat) : Bool := !decide (N (57 + 4 * r) = p) || (wantsP k (N (57 + (4 * r + 1))) (N (57 + (4 * r + 2))) == decide (N (57 + (4 * r + 3)) = 1))
theorem C_kindFits {σ : Sta} {N : Nat → Int32} {n yr u nn nb : Nat} (hv : VR σ.1 1 N n yr u nn nb) {k : Nat} (hk : k < 6) (p : Int32) : ∀ (d r fu : Nat), r + d = nn → d < fu → allB (fit N p k) r = true → X0_kindFits_L3 55 10 fu p (nI k) (nI r) σ = some (bi (allB (fit N p k) nn), σ)
  | d, r, 0, _, h, _ => by omega
  | 0, r, fu + 1, hr, _, ha => by
    have e : r = nn := by omega
    subst e
    have h6 := hv.nn6
    rw [X0_kindFits_L3, fI_e, show σ.1 10 1 = nI r from hv.sn, if_neg (nI_nlt (Nat.le_refl _) (by omega)), ha]
    rfl
  | d + 1, r, fu + 1, hr, hf, ha => by
    have h6 := hv.nn6
    have hr2 : r < nn := by omega
    have c0 := C_cell0 (σ := σ) (r := 10) hv.sn h6 hr2
    have c1 := C_cell1 (σ := σ) (r := 10) hv.sn h6 hr2
    have c2 := C_cell2 (σ := σ) (r := 10) hv.sn h6 hr2
    have c3 := C_cell3 (σ := σ) (r := 10) hv.sn h6 hr2
    rw [show σ.1 (10 + 1) (4 * r) = N (57 + 4 * r) from hv.no (4 * r) (by omega)] at c0
    rw [show σ.1 (10 + 1) (4 * r + 1) = N (57 + (4 * r + 1)) from hv.no (4 * r + 1) (by omega)] at c1
    rw [show σ.1 (10 + 1) (4 * r + 2) = N (57 + (4 * r + 2)) from hv.no (4 * r + 2) (by omega)] at c2
    rw [show σ.1 (10 + 1) (4 * r + 3) = N (57 + (4 * r + 3)) from hv.no (4 * r + 3) (by omega)] at c3
    have step : ∀ b : Bool, decide (N (57 + (4 * r + 3)) = 1) = b → X0_kindFits_L28 55 10 (X0_kindFits_L3 55 10 fu) p (nI k) (nI r) (bi b) σ = some (bi (allB (fit N p k) nn), σ) := by
      intro b hb
      have ih := C_kindFits hv hk p d (r + 1) fu (by omega) (by omega)
      have ea : allB (fit N p k) (r + 1) = fit N p k r := by rw [allB, ha, Bool.true_and]
      rw [ea] at ih
      rw [X0_kindFits_L28, cA_of c0, nI_1]
      by_cases q1 : N (57 + 4 * r) = p
      · rw [if_pos q1, aR_n k hk, cA_of c1, cA_of c2, cA_of (V_wants_e hk _ _ _)]
        have ef : fit N p k r = (wantsP k (N (57 + (4 * r + 1))) (N (57 + (4 * r + 2))) == b) := by
          rw [fit, hb, decide_eq_true q1]
          rfl
        by_cases q2 : wantsP k (N (57 + (4 * r + 1))) (N (57 + (4 * r + 2))) = b
        · rw [if_pos (by rw [q2])]
          exact ih (by rw [ef, q2]; exact beq_self_eq_true b)
        · have en : ¬ bi (wantsP k (N (57 + (4 * r + 1))) (N (57 + (4 * r + 2)))) = bi b := by
            intro q
            apply q2
            revert q
            generalize wantsP k (N (57 + (4 * r + 1))) (N (57 + (4 * r + 2))) = w
            cases w <;> cases b <;> decide
          rw [if_neg en]
          have e0 : allB (fit N p k) (r + 1) = false := by
            rw [ea, ef]
            exact beq_false_of_ne q2
          have e1 := allB_f e0 d
          rw [show r + 1 + d = nn by omega] at e1
          rw [e1]
          rfl
      · rw [if_neg q1]
        exact ih (by rw [fit, decide_eq_false q1]; rfl)
    rw [X0_kindFits_L3, fI_e, show σ.1 10 1 = nI nn from hv.sn, if_pos (nI_lt (by omega) (by omega)), cA_of c3]
    by_cases q : N (57 + (4 * r + 3)) = 1
    · rw [if_pos q]
      exact step true (decide_eq_true q)
    · rw [if_neg q]
      exact step false (decide_eq_false q)
theorem C_kinds {σ : Sta} {N : Nat → Int32} {n yr u nn nb : Nat} (hv : VR σ.1 1 N n yr u nn nb) (p : Int32) : ∀ (d k fu : Nat), k + d = 6 → d < fu → X0_kindsThatFit_L5 55 10 fu p (bO (fun k => allB (fit N p k) nn) k) (nI k) σ = some (bO (fun k => allB (fit N p k) nn) 6, σ)
  | d, k, 0, _, h => by omega
  | 0, k, fu + 1, hk, _ => by
    have e : k = 6 := by omega
    subst e
    rw [X0_kindsThatFit_L5, if_neg nlt6]
  | d + 1, k, fu + 1, hk, hf => by
    have ih := C_kinds hv p d (k + 1) fu (by omega) (by omega)
    have h6 := hv.nn6
    rw [X0_kindsThatFit_L5, if_pos (lt6 (by omega)), cA_of (show X0_kindFits 55 10 p (nI k) σ = _ from C_kindFits hv (by omega) p nn 0 FU (by omega) (by show nn < 300; omega) rfl), bi_if, nI_1]
    rw [bO] at ih
    cases q : allB (fit N p k) nn with
    | true =>
      simp only [q, if_true] at ih ⊢
      exact ih
    | false =>
      simp only [q, Bool.false_eq_true, if_false] at ih ⊢
      exact ih
theorem M_kindsR {σ : Sta} {S : Nat → Nat → Int32} {r n yr u nn nb : Nat} (hv : VR S r (σ.1 83) n yr u nn nb) {k : Nat} (hk : k < 6) (p z : Int32) (K : Int32 → Int32 → Int32 → Sta → Option (Int32 × Sta)) : ∀ (d i fu : Nat), i + d = nn → d < fu → X12_kindsOf_L16 K fu p z (nI k) (bi (allB (fit (σ.1 83) p k) i)) (nI i) σ = K p (if allB (fit (σ.1 83) p k) nn then z ||| ((1 : Int32) <<< (nI k &&& 31)) else z) (nI (k + 1)) σ
  | d, i, 0, _, h => by omega
  | 0, i, fu + 1, hi, _ => by
    have h6 := hv.nn6
    have e : i = nn := by omega
    subst e
    rw [X12_kindsOf_L16, aI1, hv.N1, if_neg (nI_nlt (Nat.le_refl _) (by omega)), bi_if, Int32.or_zero, nI_1]
    cases allB (fit (σ.1 83) p k) i <;> rfl
  | d + 1, i, fu + 1, hi, hf => by
    have h6 := hv.nn6
    have ih := M_kindsR hv hk p z K d (i + 1) fu (by omega) (by omega)
    rw [allB] at ih
    rw [X12_kindsOf_L16, aI1, hv.N1, if_pos (nI_lt (by omega) (by omega)), nI_1]
    cases ha : allB (fit (σ.1 83) p k) i with
    | false =>
      rw [ha, Bool.false_and] at ih
      exact ih
    | true =>
      rw [ha, Bool.true_and] at ih
      rw [if_neg (show ¬ bi true = 0 by decide), e57, aI_n _ (by omega)]
      by_cases q1 : σ.1 83 (57 + 4 * i) = p
      · rw [if_pos q1, show (1 : Int32) = nI 1 from rfl, show (2 : Int32) = nI 2 from rfl, show (3 : Int32) = nI 3 from rfl, e57c, e57c, e57c, aI_n _ (by omega), aI_n _ (by omega), cA_of (M_triesAs hk _ _ σ), aI_n _ (by omega)]
        have step : ∀ b : Bool, decide (σ.1 83 (57 + (4 * i + 3)) = 1) = b → X12_kindsOf_L92 K (X12_kindsOf_L16 K fu) p z (nI k) (nI i) (bi b) (bi (wantsP k (σ.1 83 (57 + (4 * i + 1))) (σ.1 83 (57 + (4 * i + 2))))) σ = K p (if allB (fit (σ.1 83) p k) nn then z ||| ((1 : Int32) <<< (nI k &&& 31)) else z) (nI (k + 1)) σ := by
          intro b hb
          have ef : fit (σ.1 83) p k i = (wantsP k (σ.1 83 (57 + (4 * i + 1))) (σ.1 83 (57 + (4 * i + 2))) == b) := by
            rw [fit, hb, decide_eq_true q1]
            rfl
          rw [ef] at ih
          rw [X12_kindsOf_L92, nI_1]
          revert ih
          generalize wantsP k (σ.1 83 (57 + (4 * i + 1))) (σ.1 83 (57 + (4 * i + 2))) = w
          intro ih
          cases w <;> cases b <;> exact ih
        by_cases q : σ.1 83 (57 + (4 * i + 3)) = nI 1
        · rw [if_pos q]
          exact step true (decide_eq_true q)
        · rw [if_neg q]
          exact step false (decide_eq_false q)
      · rw [if_neg q1]
        rw [show fit (σ.1 83) p k i = true by rw [fit, decide_eq_false q1]; rfl] at ih
        exact ih
theorem M_kinds {σ : Sta} {S : Nat → Nat → Int32} {r n yr u nn nb : Nat} (hv : VR S r (σ.1 83) n yr u nn nb) (p : Int32) : ∀ (d k fu : Nat), k + d = 6 → d < fu → X12_kindsOf_L4 fu p (bO (fun k => allB (fit (σ.1 83) p k) nn) k) (nI k) σ = some (bO (fun k => allB (fit (σ.1 83) p k) nn) 6, σ)
  | d, k, 0, _, h => by omega
  | 0, k, fu + 1, hk, _ => by
    have e : k = 6 := by omega
    subst e
    rw [X12_kindsOf_L4, if_neg nlt6]
  | d + 1, k, fu + 1, hk, hf => by
    have ih := M_kinds hv p d (k + 1) fu (by omega) (by omega)
    have h6 := hv.nn6
    rw [X12_kindsOf_L4, if_pos (lt6 (by omega))]
    exact (M_kindsR hv (k := k) (by omega) p _ _ nn 0 FU (by omega) (by show nn < 300; omega)).trans ih

theorem P_is {σ : Sta} (h : Inv σ) (x1 : Int32) : Pair (X11_is x1) (X12_is x1) σ := by
  obtain ⟨n, yr, u, nn, nb, hv⟩ := h.1
  have b0 : (badC σ).1 83 0 = nI n := by rw [badC_83]; exact hv.N0
  have b4 : (badC σ).1 83 4 = nI yr := by rw [badC_83]; exact hv.N4
  by_cases e0 : inB x1 0 (nI n - 1) = true
  rotate_left
  · rw [Bool.not_eq_true] at e0; exact pair_bad (a := -2) h (by simp only [X11_is, C_isOne_b hv.s10, e0, cA_e, bi_if, within_b, C_isArt_b, C_bad, Bool.false_eq_true, ite_false, ite_true, if_true, if_false]) (by simp only [X12_is, M_isOne_b b0, e0, cA_e, bi_if, M_isYear_b, M_isSort_b, in_01, in_02, in_05, in_06, in_07, in_09, in_30, in_60, in_99, in_12, M_bad, Bool.false_eq_true, ite_false, ite_true, if_true, if_false])
  obtain ⟨j0, hj0, rfl⟩ := inB_1 hv.n6 e0
  refine pair_q h (a := bO (fun k => allB (fit (σ.1 83) (nI j0) k) nn) 6) ?_ (fun τ hτ => ?_)
  · simp only [X11_is, C_isOne_b hv.s10, e0, cA_e, bi_if, within_b, C_isArt_b, C_bad, Bool.false_eq_true, ite_false, ite_true, if_true, if_false]
    rw [cA_of (show X0_kindsThatFit 55 (1 + 9) (nI j0) σ = _ from C_kinds hv (nI j0) 6 0 FU rfl (by decide))]
    exact ⟨σ, rfl, FrQ.rf σ⟩
  · have t83 : τ.1 83 = σ.1 83 := hτ.at (by unfold isQ; omega)
    have t0 : τ.1 83 0 = nI n := by rw [t83]; exact hv.N0
    have t4 : τ.1 83 4 = nI yr := by rw [t83]; exact hv.N4
    have tv : VR σ.1 1 (τ.1 83) n yr u nn nb := by rw [t83]; exact hv
    simp only [X12_is, M_isOne_b t0, e0, cA_e, bi_if, M_isYear_b, M_isSort_b, in_01, in_02, in_05, in_06, in_07, in_09, in_30, in_60, in_99, in_12, M_bad, Bool.false_eq_true, ite_false, ite_true, if_true, if_false]
    rw [cA_of (show X12_kindsOf (nI j0) τ = _ from M_kinds tv (nI j0) 6 0 FU rfl (by decide)), t83]
    exact ⟨τ, rfl, FrQ.rf τ⟩
-- offer
theorem bO_n (f : Nat → Bool) : ∀ k, k ≤ 6 → ∃ s, s < 2 ^ k ∧ bO f k = nI s
  | 0, _ => ⟨0, by decide, rfl⟩
  | k + 1, hk => by
    obtain ⟨s, h1, h2⟩ := bO_n f k (by omega)
    rw [bO]
    by_cases c : f k = true
    · rw [if_pos c, h2]
      have hs : s < 256 := Nat.lt_of_lt_of_le h1 (Nat.le_trans (Nat.pow_le_pow_right (by decide) (show k ≤ 8 by omega)) (by decide))
      refine ⟨s ||| 2 ^ k, ?_, (orb s hs k (by omega)).1⟩
      exact Nat.or_lt_two_pow (by rw [Nat.pow_succ]; omega) (Nat.pow_lt_pow_right (by decide) (by omega))
    · rw [if_neg c]
      exact ⟨s, by rw [Nat.pow_succ]; omega, h2⟩
def ct (s : Nat) (w l : Int32) : Nat → Nat
  | 0 => 0
  | k + 1 => ct s w l k + if s / 2 ^ k % 2 = 1 ∧ wantsP k w l = true then 1 else 0
theorem ct_le (s : Nat) (w l : Int32) : ∀ k, ct s w l k ≤ k
  | 0 => Nat.le_refl _
  | k + 1 => by
    rw [ct]
    have := ct_le s w l k
    split <;> omega
def gr (A T : Int32) : Int32 := if T < A - T then A - T else T
theorem gr_alike : ∀ a, a < 7 → ∀ t, t < 7 → (if nI a < 2 * nI t then nI t else nI a - nI t) = gr (nI a) (nI t) ∧ gr (nI a) (nI t) < 7 := by decide +kernel
theorem popc6 : ∀ s, s < 64 → popc 8 s < 7 := by decide +kernel
def gw (s : Nat) (l : Int32) (w : Nat) : Int32 := gr (nI (popc 8 s)) (nI (ct s (nI w) l 6))
def tw (g : Nat → Int32) (L : Int32) : Nat → Int32 × Int32
  | 0 => (L, -1)
  | w + 1 => if g (w + 1) < (tw g L w).1 then (g (w + 1), nI (w + 1)) else tw g L w
theorem tw_eq (g : Nat → Int32) (h : g 1 < 7) : ∀ w, tw g 7 (w + 1) = tw g 1000000 (w + 1)
  | 0 => by
    rw [tw, tw, tw, tw, if_pos h, if_pos]
    rw [ilt] at h ⊢
    have e7 : (7 : Int32).toInt = 7 := by decide
    have e9 : (1000000 : Int32).toInt = 1000000 := by decide
    show (g 1).toInt < (1000000 : Int32).toInt
    omega
  | w + 1 => by
    have ih := tw_eq g h w
    rw [tw, ih]
    conv => rhs; rw [tw]
theorem C_tellK {s : Nat} (hs : s < 64) {w : Nat} (l A y4 y5 : Int32) (σ : Sta) (K : Int32 → Int32 → Int32 → Int32 → Int32 → Int32 → Sta → Option (Int32 × Sta)) : ∀ (d k fu : Nat), k + d = 6 → d < fu → X0_tellingWorth_L34 55 K fu (nI s) l A y4 y5 (nI w) (nI (ct s (nI w) l k)) (nI k) σ = (if gr A (nI (ct s (nI w) l 6)) < y4 then K (nI s) l A (gr A (nI (ct s (nI w) l 6))) (nI w) (nI (w + 1)) σ else K (nI s) l A y4 y5 (nI (w + 1)) σ)
  | d, k, 0, _, h => by omega
  | 0, k, fu + 1, hk, _ => by
    have e : k = 6 := by omega
    subst e
    rw [X0_tellingWorth_L34, if_neg nlt6, nI_1]
    rfl
  | d + 1, k, fu + 1, hk, hf => by
    have ih := C_tellK hs l A y4 y5 σ K d (k + 1) fu (by omega) (by omega) (w := w)
    rw [ct] at ih
    have eb : (nI s >>> (nI k &&& 31)) &&& 1 = nI (s / 2 ^ k % 2) := bt_n s (by omega) k (by omega)
    rw [X0_tellingWorth_L34, if_pos (lt6 (by omega)), eb, nI_1]
    by_cases c1 : s / 2 ^ k % 2 = 1
    · rw [c1, if_pos (show nI 1 = 1 from rfl), aR_n k (by omega), cA_of (V_wants_e (by omega) _ _ _), bi_if]
      by_cases c2 : wantsP k (nI w) l = true
      · rw [if_pos c2, nI_1]
        rw [if_pos ⟨c1, c2⟩] at ih
        exact ih
      · rw [if_neg c2]
        rw [if_neg (fun q => c2 q.2)] at ih
        exact ih
    · have e0 : s / 2 ^ k % 2 = 0 := by omega
      rw [e0, if_neg (show ¬ nI 0 = 1 by decide)]
      rw [if_neg (fun q => c1 q.1)] at ih
      exact ih
theorem C_tellL {s : Nat} (hs : s < 64) (l : Int32) (σ : Sta) : ∀ (d w fu : Nat), w + d = 30 → d < fu → X0_tellingWorth_L21 55 fu (nI s) l (nI (popc 8 s)) (tw (gw s l) 7 w).1 (tw (gw s l) 7 w).2 (nI (w + 1)) σ = some ((tw (gw s l) 7 30).2, σ)
  | d, w, 0, _, h => by omega
  | 0, w, fu + 1, hw, _ => by
    have e : w = 30 := by omega
    subst e
    rw [X0_tellingWorth_L21, if_pos (by decide)]
  | d + 1, w, fu + 1, hw, hf => by
    have ih := C_tellL hs l σ d (w + 1) fu (by omega) (by omega)
    rw [X0_tellingWorth_L21, if_neg (show ¬ (30 : Int32) < nI (w + 1) from (nI_nlt (show w + 1 ≤ 30 by omega) (by decide) : ¬ nI 30 < nI (w + 1)))]
    refine Eq.trans (C_tellK hs l _ _ _ σ _ 6 0 FU rfl (by decide)) ?_
    show (if gw s l (w + 1) < (tw (gw s l) 7 w).1 then _ else _) = _
    rw [tw] at ih
    by_cases c : gw s l (w + 1) < (tw (gw s l) 7 w).1
    · rw [if_pos c] at ih ⊢; exact ih
    · rw [if_neg c] at ih ⊢; exact ih
theorem C_tell {s : Nat} (hs : s < 64) (l : Int32) (σ : Sta) : X0_tellingWorth 55 (nI s) l σ = some (if popc 8 s = 0 then -1 else (tw (gw s l) 7 30).2, σ) := by
  have hp := popc6 s hs
  rw [X0_tellingWorth, cA_of (bcE_e _ _), bcE_p s (by omega)]
  by_cases c : popc 8 s = 0
  · rw [if_pos c, c, if_pos (show nI 0 = 0 from rfl)]
  · rw [if_neg c, if_neg]
    · exact C_tellL hs l σ 30 0 FU rfl (by decide)
    · intro e
      exact c ((nI_eq (a := popc 8 s) (b := 0) (by omega) (by decide)).mp e)
theorem M_has {s : Nat} (hs : s < 256) {k : Nat} (hk : k < 8) (σ : Sta) : X12_has (nI s) (nI k) σ = some (bi (decide (s / 2 ^ k % 2 = 1)), σ) := by
  have eb : (nI s >>> (nI k &&& 31)) &&& 1 = nI (s / 2 ^ k % 2) := bt_n s hs k hk
  rw [X12_has, eb]
  rcases (show s / 2 ^ k % 2 = 0 ∨ s / 2 ^ k % 2 = 1 by omega) with e | e <;> rw [e] <;> rfl
theorem M_tellK {s : Nat} (hs : s < 64) {w : Nat} (l y4 y5 : Int32) (σ : Sta) (K : Int32 → Int32 → Int32 → Int32 → Int32 → Sta → Option (Int32 × Sta)) : ∀ (d k fu : Nat), k + d = 6 → d < fu → X12_offer_L73 K fu (nI s) l y4 y5 (nI w) (nI (ct s (nI w) l k)) (nI k) σ = (if gw s l w < y5 then K (nI s) l (nI w) (gw s l w) (nI (w + 1)) σ else K (nI s) l y4 y5 (nI (w + 1)) σ)
  | d, k, 0, _, h => by omega
  | 0, k, fu + 1, hk, _ => by
    have e : k = 6 := by omega
    subst e
    have hp := popc6 s hs
    have hc := ct_le s (nI w) l 6
    have ga := (gr_alike (popc 8 s) hp (ct s (nI w) l 6) (by omega)).1
    have fin : ∀ z : Int32, z = gw s l w → X12_offer_L139 K (nI s) l y4 y5 (nI w) z σ = (if gw s l w < y5 then K (nI s) l (nI w) (gw s l w) (nI (w + 1)) σ else K (nI s) l y4 y5 (nI (w + 1)) σ) := by
      intro z hz
      rw [X12_offer_L139, hz, X12_offer_L155, X12_offer_L155, nI_1]
      by_cases c : gw s l w < y5
      · rw [if_pos c, if_pos c, if_pos c]
      · rw [if_neg c, if_neg c, if_neg c]
    rw [X12_offer_L73, if_neg nlt6, cA_of (M_bits (by omega) σ)]
    by_cases c : nI (popc 8 s) < 2 * nI (ct s (nI w) l 6)
    · rw [if_pos c] at ga ⊢
      exact fin _ ga
    · rw [if_neg c] at ga ⊢
      rw [cA_of (M_bits (by omega) σ)]
      exact fin _ ga
  | d + 1, k, fu + 1, hk, hf => by
    have ih := M_tellK hs l y4 y5 σ K d (k + 1) fu (by omega) (by omega) (w := w)
    rw [ct] at ih
    rw [X12_offer_L73, if_pos (lt6 (by omega)), cA_of (M_has (by omega) (by omega) σ), bi_if, nI_1, Int32.add_zero]
    by_cases c1 : s / 2 ^ k % 2 = 1
    · rw [if_pos (decide_eq_true c1), cA_of (M_triesAs (by omega) _ _ σ), bi_if]
      by_cases c2 : wantsP k (nI w) l = true
      · rw [if_pos c2, nI_1]
        rw [if_pos ⟨c1, c2⟩] at ih
        exact ih
      · rw [if_neg c2]
        rw [if_neg (fun q => c2 q.2)] at ih
        exact ih
    · rw [if_neg (fun q => c1 (of_decide_eq_true q))]
      rw [if_neg (fun q => c1 q.1)] at ih
      exact ih
theorem M_tellL {s : Nat} (hs : s < 64) (h0 : 0 < s) (l : Int32) (σ : Sta) : ∀ (d w fu : Nat), w + d = 30 → d < fu → X12_offer_L56 fu (nI s) l (tw (gw s l) 1000000 w).2 (tw (gw s l) 1000000 w).1 (nI (w + 1)) σ = some ((tw (gw s l) 1000000 30).2, σ)
  | d, w, 0, _, h => by omega
  | 0, w, fu + 1, hw, _ => by
    have e : w = 30 := by omega
    subst e
    rw [X12_offer_L56, if_pos (by decide)]
  | d + 1, w, fu + 1, hw, hf => by
    have ih := M_tellL hs h0 l σ d (w + 1) fu (by omega) (by omega)
    rw [X12_offer_L56, if_neg (show ¬ (30 : Int32) < nI (w + 1) from (nI_nlt (show w + 1 ≤ 30 by omega) (by decide) : ¬ nI 30 < nI (w + 1))), if_pos (show (0 : Int32) < nI s from nI_lt (a := 0) h0 (by omega))]
    refine Eq.trans (M_tellK hs l _ _ σ _ 6 0 FU rfl (by decide)) ?_
    rw [tw] at ih
    by_cases c : gw s l (w + 1) < (tw (gw s l) 1000000 w).1
    · rw [if_pos c] at ih ⊢; exact ih
    · rw [if_neg c] at ih ⊢; exact ih
theorem popc_z : ∀ s, s < 64 → (popc 8 s = 0 ↔ s = 0) := by decide +kernel
theorem M_tell {s : Nat} (hs : s < 64) (l : Int32) (σ : Sta) : X12_offer_L45 (nI s) l σ = some (if popc 8 s = 0 then -1 else (tw (gw s l) 7 30).2, σ) := by
  rw [X12_offer_L45]
  by_cases c : s = 0
  · subst c
    rfl
  · rw [if_neg (fun q => c ((popc_z s hs).mp q))]
    have e := tw_eq (gw s l) (gr_alike _ (popc6 s hs) _ (by have := ct_le s (nI 1) l 6; omega)).2 29
    rw [e]
    exact M_tellL hs (by omega) l σ 30 0 FU rfl (by decide)
theorem behind : ∀ y, y ≤ 8 → (if (0 : Int32) < 7 - nI y then 7 - nI y else 0) = (if nI y = 8 then 0 else 7 - nI y) := by decide +kernel
theorem P_offer {σ : Sta} (h : Inv σ) (x1 : Int32) : Pair (X11_offer x1) (X12_offer x1) σ := by
  obtain ⟨n, yr, u, nn, nb, hv⟩ := h.1
  have b0 : (badC σ).1 83 0 = nI n := by rw [badC_83]; exact hv.N0
  have b4 : (badC σ).1 83 4 = nI yr := by rw [badC_83]; exact hv.N4
  by_cases e0 : inB x1 0 (nI n - 1) = true
  rotate_left
  · rw [Bool.not_eq_true] at e0; exact pair_bad (a := -2) h (by simp only [X11_offer, C_isOne_b hv.s10, e0, cA_e, bi_if, within_b, C_isArt_b, C_bad, Bool.false_eq_true, ite_false, ite_true, if_true, if_false]) (by simp only [X12_offer, M_isOne_b b0, e0, cA_e, bi_if, M_isYear_b, M_isSort_b, in_01, in_02, in_05, in_06, in_07, in_09, in_30, in_60, in_99, in_12, M_bad, Bool.false_eq_true, ite_false, ite_true, if_true, if_false])
  obtain ⟨j0, hj0, rfl⟩ := inB_1 hv.n6 e0
  obtain ⟨s, hs, es⟩ := bO_n (fun k => allB (fit (σ.1 83) (nI j0) k) nn) 6 (by decide)
  refine pair_q h (a := (if popc 8 s = 0 then -1 else (tw (gw s (if nI yr = 8 then 0 else 7 - nI yr)) 7 30).2)) ?_ (fun τ hτ => ?_)
  · simp only [X11_offer, C_isOne_b hv.s10, e0, cA_e, bi_if, within_b, C_isArt_b, C_bad, Bool.false_eq_true, ite_false, ite_true, if_true, if_false]
    rw [fI_e, hv.s11, behind yr hv.y8, cA_of (show X0_kindsThatFit 55 (1 + 9) (nI j0) σ = _ from C_kinds hv (nI j0) 6 0 FU rfl (by decide)), es, cA_of (C_tell hs _ σ)]
    exact ⟨σ, rfl, FrQ.rf σ⟩
  · have t83 : τ.1 83 = σ.1 83 := hτ.at (by unfold isQ; omega)
    have t0 : τ.1 83 0 = nI n := by rw [t83]; exact hv.N0
    have t4 : τ.1 83 4 = nI yr := by rw [t83]; exact hv.N4
    have tv : VR σ.1 1 (τ.1 83) n yr u nn nb := by rw [t83]; exact hv
    simp only [X12_offer, M_isOne_b t0, e0, cA_e, bi_if, M_isYear_b, M_isSort_b, in_01, in_02, in_05, in_06, in_07, in_09, in_30, in_60, in_99, in_12, M_bad, Bool.false_eq_true, ite_false, ite_true, if_true, if_false]
    rw [cA_of (show X12_kindsOf (nI j0) τ = _ from M_kinds tv (nI j0) 6 0 FU rfl (by decide)), aI4, aI4, t4, t83, es, M_tell hs, M_tell hs]
    refine ⟨τ, ?_, FrQ.rf τ⟩
    by_cases c : nI yr = 8
    · rw [if_pos c, if_pos c]
    · rw [if_neg c, if_neg c]
