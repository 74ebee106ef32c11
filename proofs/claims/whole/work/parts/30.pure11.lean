/-! PURE HALF 11: what stands: of, about, good, status, part, count, digest -/
theorem VR.ag {S : Nat → Nat → Int32} {N : Nat → Int32} {r n yr u nn nb : Nat} (h : VR S r N n yr u nn nb) (ch : Nat → Int32) : Ag n ch (kM N) (aM N) (soN N) (woN N) ch (S (r + 3)) (S (r + 4)) (S (r + 1)) (S (r + 2)) ∧ AgQ n (qN N) (S (r + 5), S (r + 6)) :=
  ⟨⟨fun p hp => ⟨rfl, (h.pe p hp).1.symm, fun t ht => ((h.pe p hp).2.2.2 t ht).symm⟩, fun y hy => ⟨(h.ye y hy).1.symm, (h.ye y hy).2.symm⟩⟩, fun p hp => ⟨(h.pe p hp).2.1.symm, (h.pe p hp).2.2.1.symm⟩⟩
theorem VR.wfc {σ : Sta} {N : Nat → Int32} {r n yr u nn nb : Nat} (h : VR σ.1 r N n yr u nn nb) : wfS r n σ := WF_ag (h.ag ch0).1 (fun p hp => ((h.ag ch0).2 p hp).1) h.wf
theorem predN {k : Nat} (h : 0 < k) : nI k - 1 = nI (k - 1) := by
  obtain ⟨m, rfl⟩ : ∃ m, k = m + 1 := ⟨k - 1, by omega⟩
  rw [nI_pred]
  rfl
theorem C_skillBy {c k : Nat} (hk : k < 6) (a y : Int32) (s : Sta) : X0_skillBy c (nI k) a y s = some (skillP k a y, s) := by
  rw [X0_skillBy, cA_of (within5 hk), if_neg n10, aR_n k hk, cA_of (V_skill_e hk _ _ _)]
theorem VR.mgood {σ : Sta} {S : Nat → Nat → Int32} {r n yr u nn nb : Nat} (h : VR S r (σ.1 83) n yr u nn nb) {p t y : Nat} (hp : p < n) (ht : t < 3) (hy : y < 8) : X12_goodOf (nI p) (nI t) (nI y) σ = some (skillP (kno (kM (σ.1 83) p)) (aM (σ.1 83) (3 * p + t)) (nI y), σ) := by
  have hn := h.n6
  obtain ⟨k, hk6, ek⟩ := h.kd p hp
  obtain ⟨a, ha10, ea⟩ := h.ar p hp t ht
  have ek2 : kM (σ.1 83) p = nI k := ek
  have ea2 : aM (σ.1 83) (3 * p + t) = nI a := ea
  rw [X12_goodOf, a17, aI_n (17 + p) (by omega), ek, m23, aI_n (23 + (3 * p + t)) (by omega), ea, cA_of (M_goodAs hk6 ha10 hy σ), ek2, ea2, kno_n (by omega)]

theorem P_of {σ : Sta} (h : Inv σ) (x1 x2 : Int32) : Pair (X11_of x1 x2) (X12_of x1 x2) σ := by
  obtain ⟨n, yr, u, nn, nb, hv⟩ := h.1
  have b0 : (badC σ).1 83 0 = nI n := by rw [badC_83]; exact hv.N0
  have b4 : (badC σ).1 83 4 = nI yr := by rw [badC_83]; exact hv.N4
  by_cases e0 : inB x1 0 (nI n - 1) = true
  rotate_left
  · rw [Bool.not_eq_true] at e0; exact pair_bad (a := -2) h (by simp only [X11_of, C_isOne_b hv.s10, e0, cA_e, bi_if, within_b, C_isArt_b, C_bad, Bool.false_eq_true, ite_false, ite_true, if_true, if_false]) (by simp only [X12_of, M_isOne_b b0, e0, cA_e, bi_if, M_isYear_b, M_isSort_b, in_01, in_02, in_05, in_06, in_07, in_09, in_30, in_60, in_99, in_12, M_bad, Bool.false_eq_true, ite_false, ite_true, if_true, if_false])
  by_cases e1 : inB x2 0 6 = true
  rotate_left
  · rw [Bool.not_eq_true] at e1; exact pair_bad (a := -2) h (by simp only [X11_of, C_isOne_b hv.s10, e0, e1, cA_e, bi_if, within_b, C_isArt_b, C_bad, Bool.false_eq_true, ite_false, ite_true, if_true, if_false]) (by simp only [X12_of, M_isOne_b b0, e0, e1, cA_e, bi_if, M_isYear_b, M_isSort_b, in_01, in_02, in_05, in_06, in_07, in_09, in_30, in_60, in_99, in_12, M_bad, Bool.false_eq_true, ite_false, ite_true, if_true, if_false])
  obtain ⟨j0, hj0, rfl⟩ := inB_1 hv.n6 e0
  obtain ⟨j1, hj1, rfl⟩ := inB_n (m := 6) (by decide) e1
  refine pair_q h (a := (if j1 = 0 then σ.1 83 (17 + j0) else if j1 = 4 then σ.1 83 (5 + j0) else if j1 = 5 then σ.1 83 (11 + j0) else if j1 = 6 then bi (barP (kno (kM (σ.1 83) j0)) (bcE (σ.1 83 (5 + j0)))) else σ.1 83 (23 + (3 * j0 + (j1 - 1))))) ?_ (fun τ hτ => ?_)
  · simp only [X11_of, C_isOne_b hv.s10, e0, e1, cA_e, bi_if, within_b, C_isArt_b, C_bad, Bool.false_eq_true, ite_false, ite_true, if_true, if_false]
    have hn := hv.n6
    obtain ⟨p1, p2, p3, p4⟩ := hv.pe j0 hj0
    refine ⟨σ, ?_, FrQ.rf σ⟩
    rcases (show j1 = 0 ∨ j1 = 1 ∨ j1 = 2 ∨ j1 = 3 ∨ j1 = 4 ∨ j1 = 5 ∨ j1 = 6 by omega) with rfl | rfl | rfl | rfl | rfl | rfl | rfl
    · show aI σ 4 6 (nI j0) (fun v7 => some (v7, σ)) = some (σ.1 83 (17 + j0), σ)
      rw [aI_n j0 (by omega), ← p1]
    · show aI σ 5 18 (nI j0 * 3 + nI 1 - 1) (fun v7 => some (v7, σ)) = some (σ.1 83 (23 + (3 * j0 + 0)), σ)
      rw [m3, predN (by omega), aI_n _ (by omega), ← p4 0 (by decide)]
      rfl
    · show aI σ 5 18 (nI j0 * 3 + nI 2 - 1) (fun v7 => some (v7, σ)) = some (σ.1 83 (23 + (3 * j0 + 1)), σ)
      rw [m3, predN (by omega), aI_n _ (by omega), ← p4 1 (by decide)]
      rfl
    · show aI σ 5 18 (nI j0 * 3 + nI 3 - 1) (fun v7 => some (v7, σ)) = some (σ.1 83 (23 + (3 * j0 + 2)), σ)
      rw [m3, predN (by omega), aI_n _ (by omega), ← p4 2 (by decide)]
      rfl
    · show aI σ 6 6 (nI j0) (fun v7 => some (v7, σ)) = some (σ.1 83 (5 + j0), σ)
      rw [aI_n j0 (by omega), ← p2]
    · show aI σ 7 6 (nI j0) (fun v7 => some (v7, σ)) = some (σ.1 83 (11 + j0), σ)
      rw [aI_n j0 (by omega), ← p3]
    · have hb := C_isBarred (c := 55) (r := 1) hv.wfc hj0
      rw [show σ.1 (1 + 3) j0 = kM (σ.1 83) j0 from p1, show σ.1 (1 + 5) j0 = σ.1 83 (5 + j0) from p2] at hb
      show cA (X0_isBarred 55 1 (nI j0) σ) (fun q10 s11 => if q10 = 0 then some ((0 : Int32), s11) else some ((1 : Int32), s11)) = some (bi (barP (kno (kM (σ.1 83) j0)) (bcE (σ.1 83 (5 + j0)))), σ)
      rw [cA_of hb]
      cases barP (kno (kM (σ.1 83) j0)) (bcE (σ.1 83 (5 + j0))) <;> rfl
  · have t83 : τ.1 83 = σ.1 83 := hτ.at (by unfold isQ; omega)
    have t0 : τ.1 83 0 = nI n := by rw [t83]; exact hv.N0
    have t4 : τ.1 83 4 = nI yr := by rw [t83]; exact hv.N4
    have tv : VR σ.1 1 (τ.1 83) n yr u nn nb := by rw [t83]; exact hv
    simp only [X12_of, M_isOne_b t0, e0, e1, cA_e, bi_if, M_isYear_b, M_isSort_b, in_01, in_02, in_05, in_06, in_07, in_09, in_30, in_60, in_99, in_12, M_bad, Bool.false_eq_true, ite_false, ite_true, if_true, if_false]
    have hn := hv.n6
    obtain ⟨τ1, f1, f2, f3⟩ := tv.lay
    rw [cA_of f1]
    have q83 : τ1.1 83 = σ.1 83 := by rw [f3.1 83 (by unfold isL; omega)]; exact t83
    obtain ⟨-, -, w1, -⟩ := f2
    have w1' := w1 j0 hj0
    rw [t83] at w1'
    obtain ⟨-, -, w2, w3⟩ := w1'
    refine ⟨τ1, ?_, f3.q⟩
    rcases (show j1 = 0 ∨ j1 = 1 ∨ j1 = 2 ∨ j1 = 3 ∨ j1 = 4 ∨ j1 = 5 ∨ j1 = 6 by omega) with rfl | rfl | rfl | rfl | rfl | rfl | rfl
    · show aI τ1 83 209 (17 + nI j0) (fun v7 => some (v7, τ1)) = some (σ.1 83 (17 + j0), τ1)
      rw [a17, aI_n _ (by omega), q83]
    · show aI τ1 83 209 (23 + 3 * nI j0 + nI 1 - 1) (fun v7 => some (v7, τ1)) = some (σ.1 83 (23 + (3 * j0 + 0)), τ1)
      rw [m23, predN (by omega), aI_n _ (by omega), q83]
      rfl
    · show aI τ1 83 209 (23 + 3 * nI j0 + nI 2 - 1) (fun v7 => some (v7, τ1)) = some (σ.1 83 (23 + (3 * j0 + 1)), τ1)
      rw [m23, predN (by omega), aI_n _ (by omega), q83]
      rfl
    · show aI τ1 83 209 (23 + 3 * nI j0 + nI 3 - 1) (fun v7 => some (v7, τ1)) = some (σ.1 83 (23 + (3 * j0 + 2)), τ1)
      rw [m23, predN (by omega), aI_n _ (by omega), q83]
      rfl
    · show aI τ1 87 6 (nI j0) (fun v7 => some (v7, τ1)) = some (σ.1 83 (5 + j0), τ1)
      rw [aI_n _ (by omega), ← w2]
      rfl
    · show aI τ1 88 6 (nI j0) (fun v7 => some (v7, τ1)) = some (σ.1 83 (11 + j0), τ1)
      rw [aI_n _ (by omega), ← w3]
      rfl
    · obtain ⟨τ1', f1', f2', f3'⟩ := tv.lay
      have et : τ1' = τ1 := by
        rw [f1] at f1'
        injection f1' with e
        exact (congrArg Prod.snd e).symm
      subst et
      have hb := M_isBarred (HM_wf f2' tv.wf) hj0
      rw [q83, ← w2] at hb
      show cA (X12_isBarred (nI j0) τ1') (fun q10 s11 => if q10 = 0 then some ((0 : Int32), s11) else some ((1 : Int32), s11)) = some (bi (barP (kno (kM (σ.1 83) j0)) (bcE (σ.1 83 (5 + j0)))), τ1')
      rw [cA_of hb]
      show (if bi (barP (kno (kM (σ.1 83) j0)) (bcE (σ.1 83 (5 + j0)))) = 0 then _ else _) = _
      cases barP (kno (kM (σ.1 83) j0)) (bcE (σ.1 83 (5 + j0))) <;> rfl
theorem P_about {σ : Sta} (h : Inv σ) (x1 x2 : Int32) : Pair (X11_about x1 x2) (X12_about x1 x2) σ := by
  obtain ⟨n, yr, u, nn, nb, hv⟩ := h.1
  have b0 : (badC σ).1 83 0 = nI n := by rw [badC_83]; exact hv.N0
  have b4 : (badC σ).1 83 4 = nI yr := by rw [badC_83]; exact hv.N4
  by_cases e0 : inB x1 0 7 = true
  rotate_left
  · rw [Bool.not_eq_true] at e0; exact pair_bad (a := -10) h (by simp only [X11_about, e0, cA_e, bi_if, within_b, C_isArt_b, C_bad, Bool.false_eq_true, ite_false, ite_true, if_true, if_false]) (by simp only [X12_about, e0, cA_e, bi_if, M_isYear_b, M_isSort_b, in_01, in_02, in_05, in_06, in_07, in_09, in_30, in_60, in_99, in_12, M_bad, Bool.false_eq_true, ite_false, ite_true, if_true, if_false])
  by_cases e1 : inB x2 0 1 = true
  rotate_left
  · rw [Bool.not_eq_true] at e1; exact pair_bad (a := -10) h (by simp only [X11_about, e0, e1, cA_e, bi_if, within_b, C_isArt_b, C_bad, Bool.false_eq_true, ite_false, ite_true, if_true, if_false]) (by simp only [X12_about, e0, e1, cA_e, bi_if, M_isYear_b, M_isSort_b, in_01, in_02, in_05, in_06, in_07, in_09, in_30, in_60, in_99, in_12, M_bad, Bool.false_eq_true, ite_false, ite_true, if_true, if_false])
  obtain ⟨j0, hj0, rfl⟩ := inB_n (m := 7) (by decide) e0
  obtain ⟨j1, hj1, rfl⟩ := inB_n (m := 1) (by decide) e1
  refine pair_q h (a := (if j1 = 0 then σ.1 83 (41 + j0) else σ.1 83 (49 + j0))) ?_ (fun τ hτ => ?_)
  · simp only [X11_about, e0, e1, cA_e, bi_if, within_b, C_isArt_b, C_bad, Bool.false_eq_true, ite_false, ite_true, if_true, if_false]
    obtain ⟨p1, p2⟩ := hv.ye j0 (by omega)
    refine ⟨σ, ?_, FrQ.rf σ⟩
    rw [aI_n j0 (by omega), aI_n j0 (by omega), p1, p2]
    rcases (show j1 = 0 ∨ j1 = 1 by omega) with rfl | rfl <;> rfl
  · have t83 : τ.1 83 = σ.1 83 := hτ.at (by unfold isQ; omega)
    have t0 : τ.1 83 0 = nI n := by rw [t83]; exact hv.N0
    have t4 : τ.1 83 4 = nI yr := by rw [t83]; exact hv.N4
    have tv : VR σ.1 1 (τ.1 83) n yr u nn nb := by rw [t83]; exact hv
    simp only [X12_about, e0, e1, cA_e, bi_if, M_isYear_b, M_isSort_b, in_01, in_02, in_05, in_06, in_07, in_09, in_30, in_60, in_99, in_12, M_bad, Bool.false_eq_true, ite_false, ite_true, if_true, if_false]
    refine ⟨τ, ?_, FrQ.rf τ⟩
    rw [a41, a49, aI_n _ (by omega), aI_n _ (by omega), t83]
    rcases (show j1 = 0 ∨ j1 = 1 by omega) with rfl | rfl <;> rfl
theorem P_good {σ : Sta} (h : Inv σ) (x1 x2 x3 : Int32) : Pair (X11_good x1 x2 x3) (X12_good x1 x2 x3) σ := by
  obtain ⟨n, yr, u, nn, nb, hv⟩ := h.1
  have b0 : (badC σ).1 83 0 = nI n := by rw [badC_83]; exact hv.N0
  have b4 : (badC σ).1 83 4 = nI yr := by rw [badC_83]; exact hv.N4
  by_cases e0 : inB x1 0 (nI n - 1) = true
  rotate_left
  · rw [Bool.not_eq_true] at e0; exact pair_bad (a := -2) h (by simp only [X11_good, C_isOne_b hv.s10, e0, cA_e, bi_if, within_b, C_isArt_b, C_bad, Bool.false_eq_true, ite_false, ite_true, if_true, if_false]) (by simp only [X12_good, M_isOne_b b0, e0, cA_e, bi_if, M_isYear_b, M_isSort_b, in_01, in_02, in_05, in_06, in_07, in_09, in_30, in_60, in_99, in_12, M_bad, Bool.false_eq_true, ite_false, ite_true, if_true, if_false])
  by_cases e1 : inB x2 0 2 = true
  rotate_left
  · rw [Bool.not_eq_true] at e1; exact pair_bad (a := -2) h (by simp only [X11_good, C_isOne_b hv.s10, e0, e1, cA_e, bi_if, within_b, C_isArt_b, C_bad, Bool.false_eq_true, ite_false, ite_true, if_true, if_false]) (by simp only [X12_good, M_isOne_b b0, e0, e1, cA_e, bi_if, M_isYear_b, M_isSort_b, in_01, in_02, in_05, in_06, in_07, in_09, in_30, in_60, in_99, in_12, M_bad, Bool.false_eq_true, ite_false, ite_true, if_true, if_false])
  by_cases e2 : inB x3 0 7 = true
  rotate_left
  · rw [Bool.not_eq_true] at e2; exact pair_bad (a := -2) h (by simp only [X11_good, C_isOne_b hv.s10, e0, e1, e2, cA_e, bi_if, within_b, C_isArt_b, C_bad, Bool.false_eq_true, ite_false, ite_true, if_true, if_false]) (by simp only [X12_good, M_isOne_b b0, e0, e1, e2, cA_e, bi_if, M_isYear_b, M_isSort_b, in_01, in_02, in_05, in_06, in_07, in_09, in_30, in_60, in_99, in_12, M_bad, Bool.false_eq_true, ite_false, ite_true, if_true, if_false])
  obtain ⟨j0, hj0, rfl⟩ := inB_1 hv.n6 e0
  obtain ⟨j1, hj1, rfl⟩ := inB_n (m := 2) (by decide) e1
  obtain ⟨j2, hj2, rfl⟩ := inB_n (m := 7) (by decide) e2
  refine pair_q h (a := skillP (kno (kM (σ.1 83) j0)) (aM (σ.1 83) (3 * j0 + j1)) (nI j2)) ?_ (fun τ hτ => ?_)
  · simp only [X11_good, C_isOne_b hv.s10, e0, e1, e2, cA_e, bi_if, within_b, C_isArt_b, C_bad, Bool.false_eq_true, ite_false, ite_true, if_true, if_false]
    have hn := hv.n6
    obtain ⟨p1, p2, p3, p4⟩ := hv.pe j0 hj0
    obtain ⟨k, hk6, ek⟩ := hv.kd j0 hj0
    refine ⟨σ, ?_, FrQ.rf σ⟩
    rw [aI_n j0 (by omega), m3, aI_n _ (by omega), p1, p4 j1 (by omega), ek, cA_of (C_skillBy hk6 _ _ _), show kM (σ.1 83) j0 = nI k from ek, kno_n (by omega)]
    rfl
  · have t83 : τ.1 83 = σ.1 83 := hτ.at (by unfold isQ; omega)
    have t0 : τ.1 83 0 = nI n := by rw [t83]; exact hv.N0
    have t4 : τ.1 83 4 = nI yr := by rw [t83]; exact hv.N4
    have tv : VR σ.1 1 (τ.1 83) n yr u nn nb := by rw [t83]; exact hv
    simp only [X12_good, M_isOne_b t0, e0, e1, e2, cA_e, bi_if, M_isYear_b, M_isSort_b, in_01, in_02, in_05, in_06, in_07, in_09, in_30, in_60, in_99, in_12, M_bad, Bool.false_eq_true, ite_false, ite_true, if_true, if_false]
    refine ⟨τ, ?_, FrQ.rf τ⟩
    rw [cA_of (tv.mgood hj0 (by omega) (by omega)), t83]
theorem P_status {σ : Sta} (h : Inv σ) (x1 : Int32) : Pair (X11_status x1) (X12_status x1) σ := by
  by_cases e : inB x1 0 2 = true
  · have e' := e
    obtain ⟨j, hj, rfl⟩ := inB_n (m := 2) (by decide) e
    refine pair_q h (a := σ.1 86 j) ⟨σ, ?_, FrQ.rf σ⟩ (fun τ hτ => ⟨τ, ?_, FrQ.rf τ⟩)
    · rw [← h.2.2.1 j (by omega)]
      rcases (show j = 0 ∨ j = 1 ∨ j = 2 by omega) with rfl | rfl | rfl <;> rfl
    · simp only [X12_status, e', cA_e, bi_if, M_isYear_b, M_isSort_b, in_01, in_02, in_05, in_06, in_07, in_09, in_30, in_60, in_99, in_12, M_bad, Bool.false_eq_true, ite_false, ite_true, if_true, if_false]
      rw [aI_n j (by omega), hτ.at (by unfold isQ; omega)]
  · rw [Bool.not_eq_true] at e
    have hne : ∀ j, j ≤ 2 → ¬ x1 = nI j := by
      intro j hj q
      subst q
      rcases (show j = 0 ∨ j = 1 ∨ j = 2 by omega) with rfl | rfl | rfl <;> exact absurd e (by decide)
    refine pair_bad (a := -1) h ?_ ?_
    · rw [X11_status, tsw', if_neg (show ¬ x1 = ((0 : Int32), fI σ 0 9 fun v3 => some (v3, σ)).fst from hne 0 (by decide)), tsw', if_neg (show ¬ x1 = ((1 : Int32), fI σ 0 10 fun v3 => some (v3, σ)).fst from hne 1 (by decide)), tsw', if_neg (show ¬ x1 = ((2 : Int32), fI σ 0 11 fun v3 => some (v3, σ)).fst from hne 2 (by decide)), tsw', C_bad, cA_e]
    · simp only [X12_status, e, cA_e, bi_if, M_isYear_b, M_isSort_b, in_01, in_02, in_05, in_06, in_07, in_09, in_30, in_60, in_99, in_12, M_bad, Bool.false_eq_true, ite_false, ite_true, if_true, if_false]
theorem P_part {σ : Sta} (h : Inv σ) (x1 : Int32) : Pair (X11_part x1) (X12_part x1) σ := by
  by_cases e : inB x1 0 1 = true
  · have e' := e
    obtain ⟨j, hj, rfl⟩ := inB_n (m := 1) (by decide) e
    refine pair_q h (a := if j = 0 then σ.2 0 7 else σ.2 0 8) ⟨σ, ?_, FrQ.rf σ⟩ (fun τ hτ => ⟨τ, ?_, FrQ.rf τ⟩)
    · simp only [X11_part, e', cA_e, bi_if, within_b, C_isArt_b, C_bad, Bool.false_eq_true, ite_false, ite_true, if_true, if_false]
      rcases (show j = 0 ∨ j = 1 by omega) with rfl | rfl <;> rfl
    · rw [h.2.2.2.1.1, h.2.2.2.1.2, ← hτ.2]
      rcases (show j = 0 ∨ j = 1 by omega) with rfl | rfl <;> rfl
  · rw [Bool.not_eq_true] at e
    have hne : ∀ j, j ≤ 1 → ¬ x1 = nI j := by
      intro j hj q
      subst q
      rcases (show j = 0 ∨ j = 1 by omega) with rfl | rfl <;> exact absurd e (by decide)
    refine pair_bad (a := (-2 : Int32).toInt64) h ?_ ?_
    · simp only [X11_part, e, cA_e, bi_if, within_b, C_isArt_b, C_bad, Bool.false_eq_true, ite_false, ite_true, if_true, if_false]
    · rw [X12_part, if_neg (show ¬ x1 = 0 from hne 0 (by decide)), if_neg (show ¬ x1 = 1 from hne 1 (by decide)), M_bad, cA_e]
def tl (so : Nat → Int32) : Nat → Int32
  | 0 => 0
  | y + 1 => if so y = -1 then tl so y else tl so y + 1
def wlA (wi : Nat → Int32) : Nat → Int32
  | 0 => 0
  | p + 1 => wlA wi p + bcE (wi p)
theorem C_toldL {σ : Sta} {N : Nat → Int32} {n yr u nn nb : Nat} (h : VR σ.1 1 N n yr u nn nb) : ∀ (d y fu : Nat), y + d = 8 → d < fu → X10_prizesTold_L4 1 fu (tl (soN N) y) (nI y) σ = some (tl (soN N) 8, σ)
  | d, y, 0, _, h => by omega
  | 0, y, fu + 1, hy, _ => by
    have e : y = 8 := by omega
    subst e
    rw [X10_prizesTold_L4, if_neg nlt8]
  | d + 1, y, fu + 1, hy, hf => by
    have ih := C_toldL h d (y + 1) fu (by omega) (by omega)
    rw [tl] at ih
    have e : σ.1 (1 + 1) y = soN N y := (h.ye y (by omega)).1
    rw [X10_prizesTold_L4, if_pos (lt8 (by omega)), aI_n y (by omega), e, nI_1]
    by_cases c : soN N y = -1
    · rw [if_pos c] at ih ⊢; exact ih
    · rw [if_neg c] at ih ⊢; exact ih
theorem M_toldL {σ : Sta} : ∀ (d y fu : Nat), y + d = 8 → d < fu → X12_manyPrizes_L4 fu (tl (soN (σ.1 83)) y) (nI y) σ = some (tl (soN (σ.1 83)) 8, σ)
  | d, y, 0, _, h => by omega
  | 0, y, fu + 1, hy, _ => by
    have e : y = 8 := by omega
    subst e
    rw [X12_manyPrizes_L4, if_neg nlt8]
  | d + 1, y, fu + 1, hy, hf => by
    have ih := M_toldL (σ := σ) d (y + 1) fu (by omega) (by omega)
    rw [tl] at ih
    rw [X12_manyPrizes_L4, if_pos (lt8 (by omega)), a41, aI_n _ (by omega), nI_1, Int32.add_zero]
    by_cases c : σ.1 83 (41 + y) = -1
    · rw [if_pos c]
      rw [if_pos (show soN (σ.1 83) y = -1 from c)] at ih; exact ih
    · rw [if_neg c]
      rw [if_neg (show ¬ soN (σ.1 83) y = -1 from c)] at ih; exact ih
theorem C_winsL {σ : Sta} {N : Nat → Int32} {n yr u nn nb : Nat} (h : VR σ.1 1 N n yr u nn nb) : ∀ (d p fu : Nat), p + d = n → d < fu → X10_winsOfAll_L4 1 fu (wlA (qN N).1 p) (nI p) σ = some (wlA (qN N).1 n, σ)
  | d, p, 0, _, h => by omega
  | 0, p, fu + 1, hp, _ => by
    have hn := h.n6
    have e : p = n := by omega
    subst e
    rw [X10_winsOfAll_L4, fI_e, h.s10, if_neg (nI_nlt (Nat.le_refl _) (by omega))]
  | d + 1, p, fu + 1, hp, hf => by
    have hn := h.n6
    have ih := C_winsL h d (p + 1) fu (by omega) (by omega)
    have e : σ.1 (1 + 5) p = (qN N).1 p := (h.pe p (by omega)).2.1
    rw [X10_winsOfAll_L4, fI_e, h.s10, if_pos (nI_lt (by omega) (by omega)), aI_n p (by omega), e, cA_of (bcE_e _ _), nI_1]
    exact ih
theorem M_winsL {σ : Sta} {S : Nat → Nat → Int32} {r n yr u nn nb : Nat} (h : VR S r (σ.1 83) n yr u nn nb) : ∀ (d p fu : Nat), p + d = n → d < fu → X12_manyWins_L4 fu (wlA (qN (σ.1 83)).1 p) (nI p) σ = some (wlA (qN (σ.1 83)).1 n, σ)
  | d, p, 0, _, h => by omega
  | 0, p, fu + 1, hp, _ => by
    have hn := h.n6
    have e : p = n := by omega
    subst e
    rw [X12_manyWins_L4, cA_of (M_many σ), h.N0, if_neg (nI_nlt (Nat.le_refl _) (by omega))]
  | d + 1, p, fu + 1, hp, hf => by
    have hn := h.n6
    have ih := M_winsL h d (p + 1) fu (by omega) (by omega)
    obtain ⟨w, hw, ew⟩ := h.wf.2.2.2.1 p (by omega)
    rw [wlA, ew, bcE_p w hw] at ih
    have ew2 : σ.1 83 (5 + p) = nI w := ew
    rw [X12_manyWins_L4, cA_of (M_many σ), h.N0, if_pos (nI_lt (by omega) (by omega)), a5, aI_n _ (by omega), ew2, cA_of (M_bits hw σ), nI_1]
    exact ih
def amt (N : Nat → Int32) (n : Nat) (len : Int32) (j : Nat) : Int32 := if j = 0 then N 0 else if j = 1 then N 4 else if j = 2 then tl (soN N) 8 else if j = 3 then wlA (qN N).1 n else if j = 4 then N 1 else if j = 5 then N 2 else if j = 6 then N 3 else len
theorem C_amount {σ : Sta} {N : Nat → Int32} {n yr u nn nb : Nat} (h : VR σ.1 1 N n yr u nn nb) {j : Nat} (hj : j < 8) : X11_amount (nI j) σ = some (amt N n (σ.1 80 1) j, σ) := by
  have hn := h.n6
  rcases (show j = 0 ∨ j = 1 ∨ j = 2 ∨ j = 3 ∨ j = 4 ∨ j = 5 ∨ j = 6 ∨ j = 7 by omega) with rfl | rfl | rfl | rfl | rfl | rfl | rfl | rfl
  · show some (σ.1 1 10, σ) = some (N 0, σ)
    rw [h.s10, h.N0]
  · show some (σ.1 1 11, σ) = some (N 4, σ)
    rw [h.s11, h.N4]
  · show cA (X10_prizesTold 1 σ) (fun q s => some (q, s)) = some (tl (soN N) 8, σ)
    rw [cA_of (show X10_prizesTold 1 σ = some (tl (soN N) 8, σ) from C_toldL h 8 0 FU rfl (by decide))]
  · show cA (X10_winsOfAll 1 σ) (fun q s => some (q, s)) = some (wlA (qN N).1 n, σ)
    rw [cA_of (show X10_winsOfAll 1 σ = some (wlA (qN N).1 n, σ) from C_winsL h n 0 FU (by omega) (by show n < 300; omega))]
  · show some (σ.1 10 1, σ) = some (N 1, σ)
    rw [show σ.1 10 1 = nI nn from h.sn, h.N1]
  · show some (σ.1 12 1, σ) = some (N 2, σ)
    rw [show σ.1 12 1 = nI nb from h.sb, h.N2]
  · show some (σ.1 1 12, σ) = some (N 3, σ)
    rw [h.s12, h.N3]
  · rfl
theorem M_counted {σ : Sta} {S : Nat → Nat → Int32} {r n yr u nn nb : Nat} (h : VR S r (σ.1 83) n yr u nn nb) {j : Nat} (hj : j < 8) : X12_counted (nI j) σ = some (amt (σ.1 83) n (σ.1 82 14) j, σ) := by
  have hn := h.n6
  rcases (show j = 0 ∨ j = 1 ∨ j = 2 ∨ j = 3 ∨ j = 4 ∨ j = 5 ∨ j = 6 ∨ j = 7 by omega) with rfl | rfl | rfl | rfl | rfl | rfl | rfl | rfl
  · show cA (X12_many σ) (fun q s => some (q, s)) = some (σ.1 83 0, σ)
    rw [cA_of (M_many σ)]
  · show aI σ 83 209 4 (fun v => some (v, σ)) = some (σ.1 83 4, σ)
    rw [aI4]
  · show cA (X12_manyPrizes σ) (fun q s => some (q, s)) = some (tl (soN (σ.1 83)) 8, σ)
    rw [cA_of (show X12_manyPrizes σ = some (tl (soN (σ.1 83)) 8, σ) from M_toldL 8 0 FU rfl (by decide))]
  · show cA (X12_manyWins σ) (fun q s => some (q, s)) = some (wlA (qN (σ.1 83)).1 n, σ)
    rw [cA_of (show X12_manyWins σ = some (wlA (qN (σ.1 83)).1 n, σ) from M_winsL h n 0 FU (by omega) (by show n < 300; omega))]
  · show aI σ 83 209 1 (fun v => some (v, σ)) = some (σ.1 83 1, σ)
    rw [aI1]
  · show aI σ 83 209 2 (fun v => some (v, σ)) = some (σ.1 83 2, σ)
    rw [aI2]
  · show aI σ 83 209 3 (fun v => some (v, σ)) = some (σ.1 83 3, σ)
    rw [aI3]
  · rfl
theorem Inv.len {σ : Sta} (h : Inv σ) : σ.1 80 1 = σ.1 82 14 := by
  obtain ⟨-, -, -, -, L, h1, h2, h3, h4⟩ := h
  rw [h2, h3]
theorem P_count {σ : Sta} (h : Inv σ) (x1 : Int32) : Pair (X11_count x1) (X12_count x1) σ := by
  obtain ⟨n, yr, u, nn, nb, hv⟩ := h.1
  have b0 : (badC σ).1 83 0 = nI n := by rw [badC_83]; exact hv.N0
  have b4 : (badC σ).1 83 4 = nI yr := by rw [badC_83]; exact hv.N4
  by_cases e0 : inB x1 0 7 = true
  rotate_left
  · rw [Bool.not_eq_true] at e0; exact pair_bad (a := -2) h (by simp only [X11_count, e0, cA_e, bi_if, within_b, C_isArt_b, C_bad, Bool.false_eq_true, ite_false, ite_true, if_true, if_false]) (by simp only [X12_count, e0, cA_e, bi_if, M_isYear_b, M_isSort_b, in_01, in_02, in_05, in_06, in_07, in_09, in_30, in_60, in_99, in_12, M_bad, Bool.false_eq_true, ite_false, ite_true, if_true, if_false])
  obtain ⟨j0, hj0, rfl⟩ := inB_n (m := 7) (by decide) e0
  refine pair_q h (a := amt (σ.1 83) n (σ.1 82 14) j0) ?_ (fun τ hτ => ?_)
  · simp only [X11_count, e0, cA_e, bi_if, within_b, C_isArt_b, C_bad, Bool.false_eq_true, ite_false, ite_true, if_true, if_false]
    have := C_amount hv (j := j0) (by omega)
    rw [h.len] at this
    rw [cA_of this]
    exact ⟨σ, rfl, FrQ.rf σ⟩
  · have t83 : τ.1 83 = σ.1 83 := hτ.at (by unfold isQ; omega)
    have t0 : τ.1 83 0 = nI n := by rw [t83]; exact hv.N0
    have t4 : τ.1 83 4 = nI yr := by rw [t83]; exact hv.N4
    have tv : VR σ.1 1 (τ.1 83) n yr u nn nb := by rw [t83]; exact hv
    simp only [X12_count, e0, cA_e, bi_if, M_isYear_b, M_isSort_b, in_01, in_02, in_05, in_06, in_07, in_09, in_30, in_60, in_99, in_12, M_bad, Bool.false_eq_true, ite_false, ite_true, if_true, if_false]
    have := M_counted tv (j := j0) (by omega)
    rw [cA_of this, t83, hτ.at (show ¬ isQ 82 by unfold isQ; omega)]
    exact ⟨τ, rfl, FrQ.rf τ⟩
-- digest
def sm (f : Nat → Int32) (h : Int64) : Nat → Int64
  | 0 => h
  | k + 1 => 31 * sm f h k + (f k).toInt64
theorem sm_ag {f g : Nat → Int32} {h : Int64} : ∀ k, (∀ i, i < k → f i = g i) → sm f h k = sm g h k
  | 0, _ => rfl
  | k + 1, e => by rw [sm, sm, sm_ag k (fun i hi => e i (by omega)), e k (by omega)]
def sy (so wo : Nat → Int32) (h : Int64) : Nat → Int64
  | 0 => h
  | y + 1 => 31 * (31 * sy so wo h y + (so y).toInt64) + (wo y).toInt64
def sp (kd ar wi se : Nat → Int32) (h : Int64) : Nat → Int64
  | 0 => h
  | p + 1 => 31 * (31 * sm (fun t => ar (3 * p + t)) (31 * sp kd ar wi se h p + (kd p).toInt64) 3 + (wi p).toInt64) + (se p).toInt64
theorem x4 (n : Nat) : nI n * 4 = nI (4 * n) := by
  have h : (4 : Int32) = nI 4 := rfl
  rw [h, pk_mul, Nat.mul_comm]
theorem x4' (n : Nat) : (4 : Int32) * nI n = nI (4 * n) := by
  have h : (4 : Int32) = nI 4 := rfl
  rw [h, pk_mul]
theorem C_mixT {σ : Sta} {r m : Nat} (hm : m ≤ 6) (h1 : σ.1 r 1 = nI m) (h : Int64) : ∀ (d i fu : Nat), i + d = 4 * m → d < fu → X9_mixedInto_L2 r fu (sm (σ.1 (r + 1)) h i) (nI i) σ = some (sm (σ.1 (r + 1)) h (4 * m), σ)
  | d, i, 0, _, h => by omega
  | 0, i, fu + 1, hi, _ => by
    have e : i = 4 * m := by omega
    rw [X9_mixedInto_L2, fI_e, h1, x4, e, if_neg (nI_nlt (Nat.le_refl _) (by omega))]
  | d + 1, i, fu + 1, hi, hf => by
    have ih := C_mixT hm h1 h d (i + 1) fu (by omega) (by omega)
    rw [X9_mixedInto_L2, fI_e, h1, x4, if_pos (nI_lt (by omega) (by omega)), aI_n i (by omega), nI_1]
    exact ih
theorem M_sumsL {σ : Sta} {a m : Nat} (hm : a + m ≤ 209) (h : Int64) : ∀ (d i fu : Nat), i + d = m → d < fu → X12_sums_L6 fu (nI a) (nI m) (sm (fun i => σ.1 83 (a + i)) h i) (nI i) σ = some (sm (fun i => σ.1 83 (a + i)) h m, σ)
  | d, i, 0, _, h => by omega
  | 0, i, fu + 1, hi, _ => by
    have e : i = m := by omega
    subst e
    rw [X12_sums_L6, if_neg (nI_nlt (Nat.le_refl _) (by omega))]
  | d + 1, i, fu + 1, hi, hf => by
    have ih := M_sumsL (σ := σ) hm h d (i + 1) fu (by omega) (by omega)
    rw [X12_sums_L6, if_pos (nI_lt (by omega) (by omega)), nI_add, aI_n _ (by omega), nI_1]
    exact ih
theorem M_sums {σ : Sta} {a m : Nat} (hm : a + m ≤ 209) (h : Int64) : X12_sums h (nI a) (nI m) σ = some (sm (fun i => σ.1 83 (a + i)) h m, σ) := M_sumsL hm h m 0 FU (by omega) (by show m < 300; omega)
theorem C_mix3 {σ : Sta} {p : Nat} (hp : p < 6) (h : Int64) (K : Int64 → Int32 → Sta → Option (Int64 × Sta)) : ∀ (d t fu : Nat), t + d = 3 → d < fu → X10_mixedInto_L69 1 K fu (sm (fun t => σ.1 5 (3 * p + t)) h t) (nI p) (nI t) σ = K (31 * (31 * sm (fun t => σ.1 5 (3 * p + t)) h 3 + (σ.1 6 p).toInt64) + (σ.1 7 p).toInt64) (nI (p + 1)) σ
  | d, t, 0, _, h => by omega
  | 0, t, fu + 1, hi, _ => by
    have e : t = 3 := by omega
    subst e
    rw [X10_mixedInto_L69, if_neg (by decide), aI_n p hp, aI_n p hp, nI_1]
  | d + 1, t, fu + 1, hi, hf => by
    have ih := C_mix3 (σ := σ) hp h K d (t + 1) fu (by omega) (by omega)
    rw [X10_mixedInto_L69, if_pos (show nI t < 3 from nI_lt (b := 3) (by omega) (by decide)), m3, aI_n _ (by omega), nI_1]
    exact ih
theorem C_mixP {σ : Sta} {N : Nat → Int32} {n yr u nn nb : Nat} (hv : VR σ.1 1 N n yr u nn nb) (h : Int64) : ∀ (d p fu : Nat), p + d = n → d < fu → X10_mixedInto_L44 1 fu (sp (kM N) (aM N) (qN N).1 (qN N).2 h p) (nI p) σ = some (sm (fun i => N (81 + i)) (sm (fun i => N (57 + i)) (sp (kM N) (aM N) (qN N).1 (qN N).2 h n) (4 * nn)) (4 * nb), σ)
  | d, p, 0, _, h => by omega
  | 0, p, fu + 1, hp, _ => by
    have hn := hv.n6
    have h1 := hv.nn6
    have h2 := hv.nb6
    have e : p = n := by omega
    subst e
    have t1 := C_mixT (σ := σ) (r := 10) hv.nn6 hv.sn (sp (kM N) (aM N) (qN N).1 (qN N).2 h p) (4 * nn) 0 FU (by omega) (by show _ < 300; omega)
    rw [sm_ag (g := fun i => N (57 + i)) (4 * nn) (fun i hi => hv.no i hi)] at t1
    have t2 := C_mixT (σ := σ) (r := 12) hv.nb6 hv.sb (sm (fun i => N (57 + i)) (sp (kM N) (aM N) (qN N).1 (qN N).2 h p) (4 * nn)) (4 * nb) 0 FU (by omega) (by show _ < 300; omega)
    rw [sm_ag (g := fun i => N (81 + i)) (4 * nb) (fun i hi => hv.be i hi)] at t2
    rw [X10_mixedInto_L44, fI_e, hv.s10, if_neg (nI_nlt (Nat.le_refl _) (by omega))]
    rw [cA_of (show X9_mixedInto (1 + 9) (sp (kM N) (aM N) (qN N).1 (qN N).2 h p) σ = _ from t1), cA_of (show X9_mixedInto (1 + 11) (sm (fun i => N (57 + i)) (sp (kM N) (aM N) (qN N).1 (qN N).2 h p) (4 * nn)) σ = _ from t2)]
  | d + 1, p, fu + 1, hp, hf => by
    have hn := hv.n6
    have ih := C_mixP hv h d (p + 1) fu (by omega) (by omega)
    obtain ⟨p1, p2, p3, p4⟩ := hv.pe p (by omega)
    have c3 := C_mix3 (σ := σ) (p := p) (by omega) (31 * sp (kM N) (aM N) (qN N).1 (qN N).2 h p + (kM N p).toInt64) (X10_mixedInto_L44 1 fu) 3 0 FU (by omega) (by decide)
    rw [X10_mixedInto_L44, fI_e, hv.s10, if_pos (nI_lt (by omega) (by omega)), aI_n p (by omega), show σ.1 (1 + 3) p = kM N p from p1]
    refine Eq.trans c3 ?_
    rw [sm_ag (g := fun t => aM N (3 * p + t)) 3 (fun t ht => p4 t ht), show σ.1 6 p = (qN N).1 p from p2, show σ.1 7 p = (qN N).2 p from p3]
    exact ih
theorem C_mixY {σ : Sta} {N : Nat → Int32} {n yr u nn nb : Nat} (hv : VR σ.1 1 N n yr u nn nb) (h : Int64) : ∀ (d y fu : Nat), y + d = 8 → d < fu → X10_mixedInto_L2 1 fu (sy (soN N) (woN N) h y) (nI y) σ = some (sm (fun i => N (81 + i)) (sm (fun i => N (57 + i)) (sp (kM N) (aM N) (qN N).1 (qN N).2 (sy (soN N) (woN N) h 8) n) (4 * nn)) (4 * nb), σ)
  | d, y, 0, _, h => by omega
  | 0, y, fu + 1, hy, _ => by
    have hn := hv.n6
    have e : y = 8 := by omega
    subst e
    rw [X10_mixedInto_L2, if_neg nlt8]
    exact C_mixP hv _ n 0 FU (by omega) (by show n < 300; omega)
  | d + 1, y, fu + 1, hy, hf => by
    have ih := C_mixY hv h d (y + 1) fu (by omega) (by omega)
    rw [X10_mixedInto_L2, if_pos (lt8 (by omega)), aI_n y (by omega), aI_n y (by omega), show σ.1 (1 + 1) y = soN N y from (hv.ye y (by omega)).1, show σ.1 (1 + 2) y = woN N y from (hv.ye y (by omega)).2, nI_1]
    exact ih
def sa (f : Nat → Int32) : Nat → Int64
  | 0 => 1303
  | j + 1 => 31 * sa f j + (f j).toInt64
def dig (N : Nat → Int32) (n nn nb : Nat) (len : Int32) (a b : Int64) : Int64 := 31 * (31 * sm (fun i => N (81 + i)) (sm (fun i => N (57 + i)) (sp (kM N) (aM N) (qN N).1 (qN N).2 (sy (soN N) (woN N) (sa (amt N n len) 8) 8) n) (4 * nn)) (4 * nb) + a) + b
theorem C_digL {σ : Sta} {N : Nat → Int32} {n yr u nn nb : Nat} (hv : VR σ.1 1 N n yr u nn nb) : ∀ (d y fu : Nat), y + d = 8 → d < fu → X11_digest_L6 fu (sa (amt N n (σ.1 80 1)) y) (nI y) σ = some (dig N n nn nb (σ.1 80 1) (σ.2 0 7) (σ.2 0 8), σ)
  | d, y, 0, _, h => by omega
  | 0, y, fu + 1, hy, _ => by
    have e : y = 8 := by omega
    subst e
    rw [X11_digest_L6, if_neg nlt8, cA_of (show X10_mixedInto 1 (sa (amt N n (σ.1 80 1)) 8) σ = _ from C_mixY hv (sa (amt N n (σ.1 80 1)) 8) 8 0 FU rfl (by decide))]
    rfl
  | d + 1, y, fu + 1, hy, hf => by
    have ih := C_digL hv d (y + 1) fu (by omega) (by omega)
    rw [X11_digest_L6, if_pos (lt8 (by omega)), cA_of (C_amount hv (by omega)), nI_1]
    exact ih
theorem m23' (p : Nat) : (23 : Int32) + (3 : Int32) * nI p = nI (23 + 3 * p) := by
  have h1 : (3 : Int32) = nI 3 := rfl
  have h2 : (23 : Int32) = nI 23 := rfl
  rw [h1, h2, pk_mul, nI_add]
theorem M_digP {σ : Sta} {S : Nat → Nat → Int32} {r n yr u nn nb : Nat} (hv : VR S r (σ.1 83) n yr u nn nb) (h : Int64) : ∀ (d p fu : Nat), p + d = n → d < fu → X12_digest_L79 fu (sp (kM (σ.1 83)) (aM (σ.1 83)) (qN (σ.1 83)).1 (qN (σ.1 83)).2 h p) (nI p) σ = some (31 * (31 * sm (fun i => σ.1 83 (81 + i)) (sm (fun i => σ.1 83 (57 + i)) (sp (kM (σ.1 83)) (aM (σ.1 83)) (qN (σ.1 83)).1 (qN (σ.1 83)).2 h n) (4 * nn)) (4 * nb) + σ.2 82 4) + σ.2 82 5, σ)
  | d, p, 0, _, h => by omega
  | 0, p, fu + 1, hp, _ => by
    have hn := hv.n6
    have h1 := hv.nn6
    have h2 := hv.nb6
    have e : p = n := by omega
    subst e
    rw [X12_digest_L79, cA_of (M_many σ), hv.N0, if_neg (nI_nlt (Nat.le_refl _) (by omega)), aI1, hv.N1, x4', show (57 : Int32) = nI 57 from rfl, cA_of (M_sums (by omega) _), aI2, hv.N2, x4', show (81 : Int32) = nI 81 from rfl, cA_of (M_sums (by omega) _)]
    rfl
  | d + 1, p, fu + 1, hp, hf => by
    have hn := hv.n6
    have ih := M_digP hv h d (p + 1) fu (by omega) (by omega)
    rw [X12_digest_L79, cA_of (M_many σ), hv.N0, if_pos (nI_lt (by omega) (by omega)), a17, aI_n _ (by omega), m23', show (3 : Int32) = nI 3 from rfl, cA_of (M_sums (by omega) _), a5, aI_n _ (by omega), a11, aI_n _ (by omega), nI_1]
    rw [sp] at ih
    rw [sm_ag (g := fun t => aM (σ.1 83) (3 * p + t)) 3 (fun t _ => by show σ.1 83 (23 + 3 * p + t) = σ.1 83 (23 + (3 * p + t)); rw [Nat.add_assoc])]
    exact ih
theorem M_digY {σ : Sta} {S : Nat → Nat → Int32} {r n yr u nn nb : Nat} (hv : VR S r (σ.1 83) n yr u nn nb) (h : Int64) : ∀ (d y fu : Nat), y + d = 8 → d < fu → X12_digest_L33 fu (sy (soN (σ.1 83)) (woN (σ.1 83)) h y) (nI y) σ = some (31 * (31 * sm (fun i => σ.1 83 (81 + i)) (sm (fun i => σ.1 83 (57 + i)) (sp (kM (σ.1 83)) (aM (σ.1 83)) (qN (σ.1 83)).1 (qN (σ.1 83)).2 (sy (soN (σ.1 83)) (woN (σ.1 83)) h 8) n) (4 * nn)) (4 * nb) + σ.2 82 4) + σ.2 82 5, σ)
  | d, y, 0, _, h => by omega
  | 0, y, fu + 1, hy, _ => by
    have hn := hv.n6
    have e : y = 8 := by omega
    subst e
    rw [X12_digest_L33, if_neg nlt8]
    exact M_digP hv _ n 0 FU (by omega) (by show n < 300; omega)
  | d + 1, y, fu + 1, hy, hf => by
    have ih := M_digY hv h d (y + 1) fu (by omega) (by omega)
    rw [X12_digest_L33, if_pos (lt8 (by omega)), a41, a49, aI_n _ (by omega), aI_n _ (by omega), nI_1]
    exact ih
theorem M_digL {σ : Sta} {S : Nat → Nat → Int32} {r n yr u nn nb : Nat} (hv : VR S r (σ.1 83) n yr u nn nb) : ∀ (d y fu : Nat), y + d = 8 → d < fu → X12_digest_L6 fu (sa (amt (σ.1 83) n (σ.1 82 14)) y) (nI y) σ = some (dig (σ.1 83) n nn nb (σ.1 82 14) (σ.2 82 4) (σ.2 82 5), σ)
  | d, y, 0, _, h => by omega
  | 0, y, fu + 1, hy, _ => by
    have e : y = 8 := by omega
    subst e
    rw [X12_digest_L6, if_neg nlt8]
    exact M_digY hv _ 8 0 FU rfl (by decide)
  | d + 1, y, fu + 1, hy, hf => by
    have ih := M_digL hv d (y + 1) fu (by omega) (by omega)
    rw [X12_digest_L6, if_pos (lt8 (by omega)), cA_of (M_counted hv (by omega)), nI_1]
    exact ih
theorem P_digest {σ : Sta} (h : Inv σ) : Pair X11_digest X12_digest σ := by
  obtain ⟨n, yr, u, nn, nb, hv⟩ := h.1
  refine pair_q h (a := dig (σ.1 83) n nn nb (σ.1 82 14) (σ.2 82 4) (σ.2 82 5)) ⟨σ, ?_, FrQ.rf σ⟩ (fun τ hτ => ⟨τ, ?_, FrQ.rf τ⟩)
  · rw [← h.len, ← h.2.2.2.1.1, ← h.2.2.2.1.2]
    exact C_digL hv 8 0 FU rfl (by decide)
  · have t83 : τ.1 83 = σ.1 83 := hτ.at (by unfold isQ; omega)
    have tv : VR σ.1 1 (τ.1 83) n yr u nn nb := by rw [t83]; exact hv
    have := M_digL tv 8 0 FU rfl (by decide)
    rw [t83, hτ.at (show ¬ isQ 82 by unfold isQ; omega), hτ.2] at this
    exact this
