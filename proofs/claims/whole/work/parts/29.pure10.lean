/-! PURE HALF 10: questions about contests to come -/
theorem pos1 {x : Int32} : 0 < x ↔ ¬ x < 1 := by
  rw [ilt, ilt]
  have e0 : (0 : Int32).toInt = 0 := by decide
  have e1 : (1 : Int32).toInt = 1 := by decide
  omega
abbrev cur (N : Nat → Int32) (n yr y : Nat) : Cq := rN N n ch0 (soN N) (woN N) (y - yr) yr (qN N)
abbrev gCt (N : Nat → Int32) (n yr y : Nat) : Nat → Int32 := gN N ch0 (soN N) (woN N) (cur N n yr y) y
theorem VR.cw {S : Nat → Nat → Int32} {r : Nat} {N : Nat → Int32} {n yr u nn nb : Nat} (h : VR S r N n yr u nn nb) {y : Nat} (h1 : yr ≤ y) (h2 : y ≤ 8) : Wf N n (soN N) (woN N) (cur N n yr y) := WF_rn _ _ _ h.wf (by omega)
theorem VR.con {σ : Sta} {N : Nat → Int32} {n yr u nn nb : Nat} (h : VR σ.1 1 N n yr u nn nb) {y : Nat} (h1 : yr ≤ y) (h2 : y < 8) : ∃ τ, X2_contestOf 1 (nI y) σ = some ((), τ) ∧ τ.1 55 2 = ents (gCt N n yr y) n ∧ τ.1 55 3 = (hs (gCt N n yr y) n).1 ∧ τ.1 55 4 = (hs (gCt N n yr y) n).2.2.1 ∧ FrQ σ τ := by
  obtain ⟨τ1, e1, e2, e3⟩ := h.begin
  obtain ⟨τ2, f1, f2, f3⟩ := TC_run e2 h.wf h1 (by omega)
  obtain ⟨f, g1, g2, g3, g4⟩ := TC_hold f2 (h.cw h1 (by omega)) h2
  refine ⟨_, ?_, by rw [up1_s]; exact g2, by rw [up1_s]; exact g3, by rw [up1_s]; exact g4, (e3.q.tr f3.q).tr (FrQ.up (Or.inl rfl))⟩
  rw [X2_contestOf, cA_of e1, cA_of f1, cA_of g1]
theorem VR.trial {σ : Sta} {N : Nat → Int32} {n yr u nn nb : Nat} (h : VR σ.1 1 N n yr u nn nb) : ∃ τ1 τ, X2_begin 1 σ = some ((), τ1) ∧ X2_runTo (8 : Int32) τ1 = some ((), τ) ∧ TC N n 8 ch0 (soN N) (woN N) (cur N n yr 8) τ ∧ FrB σ τ := by
  obtain ⟨τ1, e1, e2, e3⟩ := h.begin
  obtain ⟨τ2, f1, f2, f3⟩ := TC_run (e := 8) e2 h.wf h.y8 (by omega)
  exact ⟨τ1, τ2, e1, f1, f2, e3.tr f3.b⟩
theorem VR.hand {σ : Sta} {S : Nat → Nat → Int32} {r n yr u nn nb : Nat} (h : VR S r (σ.1 83) n yr u nn nb) {y : Nat} (h1 : yr ≤ y) (h2 : y ≤ 8) : ∃ τ1 τ, X12_layHand σ = some ((), τ1) ∧ X12_goTill (nI y) τ1 = some ((), τ) ∧ HM (σ.1 83) n ch0 (soN (σ.1 83)) (woN (σ.1 83)) (cur (σ.1 83) n yr y) τ ∧ FrL σ τ := by
  obtain ⟨τ1, e1, e2, e3⟩ := h.lay
  obtain ⟨τ2, f1, f2, f3⟩ := HM_till e2 h.wf h.N4 h1 h2
  exact ⟨τ1, τ2, e1, f1, f2, e3.tr f3.l⟩
theorem M_enterL {N : Nat → Int32} {n z : Nat} {ch so wo : Nat → Int32} {q : Cq} {τ : Sta} (h : HM N n ch so wo q τ) (hw : Wf N n so wo q) (hz : z < 8) : ∀ (d p fu : Nat), p + d = n → d < fu → X12_enter_L28 fu (nI z) (ents (gN N ch so wo q z) p) (nI p) τ = some (ents (gN N ch so wo q z) n, τ)
  | d, p, 0, _, h => by omega
  | 0, p, fu + 1, hp, _ => by
    have e : p = n := by omega
    subst e
    rw [X12_enter_L28, cA_of (M_many τ), HM_n h, if_neg (nI_nlt (Nat.le_refl _) (by have := hw.1; omega))]
  | d + 1, p, fu + 1, hp, hf => by
    have hn := hw.1
    have ih := M_enterL h hw hz d (p + 1) fu (by omega) (by omega)
    rw [X12_enter_L28, cA_of (M_many τ), HM_n h, if_pos (nI_lt (by omega) (by omega)), cA_of (HM_enters h hw (by omega) hz), nI_1, bi_if, Int32.or_zero]
    rw [ents] at ih
    by_cases c : gN N ch so wo q z p < 1
    · rw [decide_eq_true c]
      rw [if_neg (fun q => pos1.mp q c)] at ih
      exact ih
    · rw [decide_eq_false c]
      rw [if_pos (pos1.mpr c)] at ih
      exact ih
theorem HM_best {N : Nat → Int32} {n z : Nat} {ch so wo : Nat → Int32} {q : Cq} {τ : Sta} (h : HM N n ch so wo q τ) (hw : Wf N n so wo q) (hz : z < 8) : X12_bestIn (nI z) (-1) τ = some ((hs (gN N ch so wo q z) n).1, τ) ∧ ((hs (gN N ch so wo q z) n).1 ≠ -1 → X12_bestIn (nI z) (hs (gN N ch so wo q z) n).1 τ = some ((hs (gN N ch so wo q z) n).2.2.1, τ)) ∧ ((hs (gN N ch so wo q z) n).1 = -1 → (hs (gN N ch so wo q z) n).2.2.1 = -1) := by
  obtain ⟨a1, a2, a3, a4⟩ := hs_mb (g := gM τ z) n hw.1
  rw [← hs_ag n (HM_g h hw hz)]
  refine ⟨?_, fun e => ?_, fun e => (a3 e).1⟩
  · rw [M_bestIn (HM_n h) (HM_wf h hw) hz, a1]
  · rw [M_bestIn (HM_n h) (HM_wf h hw) hz, (a4 e).1]

theorem P_enter {σ : Sta} (h : Inv σ) (x1 : Int32) : Pair (X11_enter x1) (X12_enter x1) σ := by
  obtain ⟨n, yr, u, nn, nb, hv⟩ := h.1
  have b0 : (badC σ).1 83 0 = nI n := by rw [badC_83]; exact hv.N0
  have b4 : (badC σ).1 83 4 = nI yr := by rw [badC_83]; exact hv.N4
  by_cases e0 : inB x1 (nI yr) 7 = true
  rotate_left
  · rw [Bool.not_eq_true] at e0; exact pair_bad (a := -2) h (by simp only [X11_enter, C_toCome_b hv.s11, e0, cA_e, bi_if, within_b, C_isArt_b, C_bad, Bool.false_eq_true, ite_false, ite_true, if_true, if_false]) (by simp only [X12_enter, M_toCome_b b4, e0, cA_e, bi_if, M_isYear_b, M_isSort_b, in_01, in_02, in_05, in_06, in_07, in_09, in_30, in_60, in_99, in_12, M_bad, Bool.false_eq_true, ite_false, ite_true, if_true, if_false])
  obtain ⟨j0, hj0a, hj0, rfl⟩ := inB_t hv.y8 e0
  refine pair_q h (a := ents (gCt (σ.1 83) n yr j0) n) ?_ (fun τ hτ => ?_)
  · simp only [X11_enter, C_toCome_b hv.s11, e0, cA_e, bi_if, within_b, C_isArt_b, C_bad, Bool.false_eq_true, ite_false, ite_true, if_true, if_false]
    obtain ⟨τ, e1, e2, e3, e4, e5⟩ := hv.con hj0a hj0
    rw [cA_of e1, fI_e, e2]
    exact ⟨τ, rfl, e5⟩
  · have t83 : τ.1 83 = σ.1 83 := hτ.at (by unfold isQ; omega)
    have t0 : τ.1 83 0 = nI n := by rw [t83]; exact hv.N0
    have t4 : τ.1 83 4 = nI yr := by rw [t83]; exact hv.N4
    have tv : VR σ.1 1 (τ.1 83) n yr u nn nb := by rw [t83]; exact hv
    simp only [X12_enter, M_toCome_b t4, e0, cA_e, bi_if, M_isYear_b, M_isSort_b, in_01, in_02, in_05, in_06, in_07, in_09, in_30, in_60, in_99, in_12, M_bad, Bool.false_eq_true, ite_false, ite_true, if_true, if_false]
    obtain ⟨τ1, τ2, f1, f2, f3, f4⟩ := tv.hand hj0a (by omega)
    rw [cA_of f1, cA_of f2]
    have := M_enterL f3 (tv.cw hj0a (by omega)) hj0 n 0 FU (by omega) (by have := hv.n6; show n < 300; omega)
    rw [t83] at this
    exact ⟨τ2, this, f4.q⟩
theorem P_winner {σ : Sta} (h : Inv σ) (x1 x2 : Int32) : Pair (X11_winner x1 x2) (X12_winner x1 x2) σ := by
  obtain ⟨n, yr, u, nn, nb, hv⟩ := h.1
  have b0 : (badC σ).1 83 0 = nI n := by rw [badC_83]; exact hv.N0
  have b4 : (badC σ).1 83 4 = nI yr := by rw [badC_83]; exact hv.N4
  by_cases e0 : inB x1 (nI yr) 7 = true
  rotate_left
  · rw [Bool.not_eq_true] at e0; exact pair_bad (a := -2) h (by simp only [X11_winner, C_toCome_b hv.s11, e0, cA_e, bi_if, within_b, C_isArt_b, C_bad, Bool.false_eq_true, ite_false, ite_true, if_true, if_false]) (by simp only [X12_winner, M_toCome_b b4, e0, cA_e, bi_if, M_isYear_b, M_isSort_b, in_01, in_02, in_05, in_06, in_07, in_09, in_30, in_60, in_99, in_12, M_bad, Bool.false_eq_true, ite_false, ite_true, if_true, if_false])
  by_cases e1 : inB x2 0 1 = true
  rotate_left
  · rw [Bool.not_eq_true] at e1; exact pair_bad (a := -2) h (by simp only [X11_winner, C_toCome_b hv.s11, e0, e1, cA_e, bi_if, within_b, C_isArt_b, C_bad, Bool.false_eq_true, ite_false, ite_true, if_true, if_false]) (by simp only [X12_winner, M_toCome_b b4, e0, e1, cA_e, bi_if, M_isYear_b, M_isSort_b, in_01, in_02, in_05, in_06, in_07, in_09, in_30, in_60, in_99, in_12, M_bad, Bool.false_eq_true, ite_false, ite_true, if_true, if_false])
  obtain ⟨j0, hj0a, hj0, rfl⟩ := inB_t hv.y8 e0
  obtain ⟨j1, hj1, rfl⟩ := inB_n (m := 1) (by decide) e1
  refine pair_q h (a := (if j1 = 0 then (hs (gCt (σ.1 83) n yr j0) n).1 else (hs (gCt (σ.1 83) n yr j0) n).2.2.1)) ?_ (fun τ hτ => ?_)
  · simp only [X11_winner, C_toCome_b hv.s11, e0, e1, cA_e, bi_if, within_b, C_isArt_b, C_bad, Bool.false_eq_true, ite_false, ite_true, if_true, if_false]
    obtain ⟨τ, e1, e2, e3, e4, e5⟩ := hv.con hj0a hj0
    rw [cA_of e1, fI_e, fI_e, e3, e4]
    rcases (show j1 = 0 ∨ j1 = 1 by omega) with rfl | rfl
    · exact ⟨τ, rfl, e5⟩
    · exact ⟨τ, rfl, e5⟩
  · have t83 : τ.1 83 = σ.1 83 := hτ.at (by unfold isQ; omega)
    have t0 : τ.1 83 0 = nI n := by rw [t83]; exact hv.N0
    have t4 : τ.1 83 4 = nI yr := by rw [t83]; exact hv.N4
    have tv : VR σ.1 1 (τ.1 83) n yr u nn nb := by rw [t83]; exact hv
    simp only [X12_winner, M_toCome_b t4, e0, e1, cA_e, bi_if, M_isYear_b, M_isSort_b, in_01, in_02, in_05, in_06, in_07, in_09, in_30, in_60, in_99, in_12, M_bad, Bool.false_eq_true, ite_false, ite_true, if_true, if_false]
    obtain ⟨τ1, τ2, f1, f2, f3, f4⟩ := tv.hand hj0a (by omega)
    obtain ⟨g1, g2, g3⟩ := HM_best f3 (tv.cw hj0a (by omega)) hj0
    rw [t83] at g1 g2 g3
    rw [cA_of f1, cA_of f2, cA_of g1]
    refine ⟨τ2, ?_, f4.q⟩
    rcases (show j1 = 0 ∨ j1 = 1 by omega) with rfl | rfl
    · rfl
    · rw [if_neg (show ¬ (nI 1 : Int32) = 0 by decide), if_neg (show ¬ (1 : Nat) = 0 by decide)]
      by_cases c : (hs (gCt (σ.1 83) n yr j0) n).1 = -1
      · rw [if_pos c, c, g3 c]
      · rw [if_neg c, cA_of (g2 c)]
theorem P_end {σ : Sta} (h : Inv σ) (x1 x2 : Int32) : Pair (X11_end x1 x2) (X12_end x1 x2) σ := by
  obtain ⟨n, yr, u, nn, nb, hv⟩ := h.1
  have b0 : (badC σ).1 83 0 = nI n := by rw [badC_83]; exact hv.N0
  have b4 : (badC σ).1 83 4 = nI yr := by rw [badC_83]; exact hv.N4
  by_cases e0 : inB x1 0 (nI n - 1) = true
  rotate_left
  · rw [Bool.not_eq_true] at e0; exact pair_bad (a := -2) h (by simp only [X11_end, C_isOne_b hv.s10, e0, cA_e, bi_if, within_b, C_isArt_b, C_bad, Bool.false_eq_true, ite_false, ite_true, if_true, if_false]) (by simp only [X12_end, M_isOne_b b0, e0, cA_e, bi_if, M_isYear_b, M_isSort_b, in_01, in_02, in_05, in_06, in_07, in_09, in_30, in_60, in_99, in_12, M_bad, Bool.false_eq_true, ite_false, ite_true, if_true, if_false])
  by_cases e1 : inB x2 0 1 = true
  rotate_left
  · rw [Bool.not_eq_true] at e1; exact pair_bad (a := -2) h (by simp only [X11_end, C_isOne_b hv.s10, e0, e1, cA_e, bi_if, within_b, C_isArt_b, C_bad, Bool.false_eq_true, ite_false, ite_true, if_true, if_false]) (by simp only [X12_end, M_isOne_b b0, e0, e1, cA_e, bi_if, M_isYear_b, M_isSort_b, in_01, in_02, in_05, in_06, in_07, in_09, in_30, in_60, in_99, in_12, M_bad, Bool.false_eq_true, ite_false, ite_true, if_true, if_false])
  obtain ⟨j0, hj0, rfl⟩ := inB_1 hv.n6 e0
  obtain ⟨j1, hj1, rfl⟩ := inB_n (m := 1) (by decide) e1
  refine pair_q h (a := (if j1 = 0 then wsm (cur (σ.1 83) n yr 8).1 (woN (σ.1 83)) j0 8 else (cur (σ.1 83) n yr 8).2 j0)) ?_ (fun τ hτ => ?_)
  · simp only [X11_end, C_isOne_b hv.s10, e0, e1, cA_e, bi_if, within_b, C_isArt_b, C_bad, Bool.false_eq_true, ite_false, ite_true, if_true, if_false]
    obtain ⟨τ1, τ, e1, e2, e3, e4⟩ := hv.trial
    rw [cA_of e1, cA_of e2, cA_of (TC_wb e3 hv.n6 hj0), aI_n j0 (by have := hv.n6; omega)]
    refine ⟨τ, ?_, e4.q⟩
    rcases (show j1 = 0 ∨ j1 = 1 by omega) with rfl | rfl
    · rfl
    · obtain ⟨ch', kd', ar', so', wo', q', h1, h2, h3⟩ := e3
      rw [if_neg (show ¬ (nI 1 : Int32) = 0 by decide), if_neg (show ¬ (1 : Nat) = 0 by decide), (h3 j0 hj0).2]
      obtain ⟨g1, g2, g3, g4, g5, g6, g7, g8, g9⟩ := h1
      rw [← g9]
  · have t83 : τ.1 83 = σ.1 83 := hτ.at (by unfold isQ; omega)
    have t0 : τ.1 83 0 = nI n := by rw [t83]; exact hv.N0
    have t4 : τ.1 83 4 = nI yr := by rw [t83]; exact hv.N4
    have tv : VR σ.1 1 (τ.1 83) n yr u nn nb := by rw [t83]; exact hv
    simp only [X12_end, M_isOne_b t0, e0, e1, cA_e, bi_if, M_isYear_b, M_isSort_b, in_01, in_02, in_05, in_06, in_07, in_09, in_30, in_60, in_99, in_12, M_bad, Bool.false_eq_true, ite_false, ite_true, if_true, if_false]
    obtain ⟨τ1, τ2, f1, f2, f3, f4⟩ := tv.hand hv.y8 (by omega)
    have hw := tv.cw hv.y8 (Nat.le_refl _)
    have g1 := HM_ws f3 hw hj0
    have f2' : X12_goTill (8 : Int32) τ1 = some ((), τ2) := f2
    rw [cA_of f1, cA_of f2', cA_of g1, aI_n j0 (by have := hv.n6; omega)]
    refine ⟨τ2, ?_, f4.q⟩
    rw [t83]
    rcases (show j1 = 0 ∨ j1 = 1 by omega) with rfl | rfl
    · rfl
    · rw [if_neg (show ¬ (nI 1 : Int32) = 0 by decide), if_neg (show ¬ (1 : Nat) = 0 by decide)]
      have := (f3.2.2.1 j0 hj0).2.2.2
      rw [t83] at this
      rw [this]

