/-! PURE HALF 15: images, years, undoing -/
theorem VR.mem {S : Nat → Nat → Int32} {r : Nat} {N N' : Nat → Int32} {n yr u nn nb : Nat} (h : VR S r N n yr u nn nb) (hN : ∀ k, k < 209 → N' k = N k) : VR S r N' n yr u nn nb :=
  h.to ⟨rfl, rfl, rfl, rfl, rfl⟩ (fun _ _ => rfl) (fun _ _ => rfl) (fun _ _ => rfl) (fun _ _ => rfl) (fun _ _ => rfl) (fun _ _ => rfl) (fun _ _ => rfl) (fun _ _ => rfl) (fun _ _ => rfl) (fun _ _ => rfl) (fun k hk => hN k (by have := h.uy; have := h.y8; omega))

theorem C_take_29_1 (σ : Sta) : ∃ τ, X10_take 29 1 σ = some ((), τ) ∧ (∀ (N N' : Nat → Int32) (n yr u nn nb : Nat), VR σ.1 1 N n yr u nn nb → (∀ k, k < 105 + 13 * u → N' k = N k) → VR τ.1 29 N' n yr u nn nb) ∧ (∀ k, ¬ (29 ≤ k ∧ k ≤ 41) → τ.1 k = σ.1 k) ∧ τ.2 = σ.2 := by
  rw [X10_take, X10_takeCourse]
  simp only [cpI_e, fI_e, pI_e, cA_e, X9_takeRows]
  refine ⟨_, rfl, fun N N' n yr u nn nb h hN => ?_, fun k hk => ?_, rfl⟩
  · have y8 := h.y8
    refine h.to ⟨?_, ?_, ?_, ?_, ?_⟩ (fun j hj => ?_) (fun j hj => ?_) (fun j hj => ?_) (fun j hj => ?_) (fun j hj => ?_) (fun j hj => ?_) (fun j hj => ?_) (fun j hj => ?_) (fun j hj => ?_) (fun j hj => ?_) hN
    all_goals first | (simp [up1, va_up, upd, va_cpy, hj]; done) | (simp [up1, va_up, upd, va_cpy, show j < 8 by omega]; done) | (simp [up1, va_up, upd]; done)
  · have : k ≠ 29 ∧ k ≠ 30 ∧ k ≠ 31 ∧ k ≠ 32 ∧ k ≠ 33 ∧ k ≠ 34 ∧ k ≠ 35 ∧ k ≠ 36 ∧ k ≠ 37 ∧ k ≠ 38 ∧ k ≠ 39 ∧ k ≠ 40 ∧ k ≠ 41 := by omega
    obtain ⟨a0, a1, a2, a3, a4, a5, a6, a7, a8, a9, a10, a11, a12⟩ := this
    simp [up1, va_up, a0, a1, a2, a3, a4, a5, a6, a7, a8, a9, a10, a11, a12]
theorem C_take_42_1 (σ : Sta) : ∃ τ, X10_take 42 1 σ = some ((), τ) ∧ (∀ (N N' : Nat → Int32) (n yr u nn nb : Nat), VR σ.1 1 N n yr u nn nb → (∀ k, k < 105 + 13 * u → N' k = N k) → VR τ.1 42 N' n yr u nn nb) ∧ (∀ k, ¬ (42 ≤ k ∧ k ≤ 54) → τ.1 k = σ.1 k) ∧ τ.2 = σ.2 := by
  rw [X10_take, X10_takeCourse]
  simp only [cpI_e, fI_e, pI_e, cA_e, X9_takeRows]
  refine ⟨_, rfl, fun N N' n yr u nn nb h hN => ?_, fun k hk => ?_, rfl⟩
  · have y8 := h.y8
    refine h.to ⟨?_, ?_, ?_, ?_, ?_⟩ (fun j hj => ?_) (fun j hj => ?_) (fun j hj => ?_) (fun j hj => ?_) (fun j hj => ?_) (fun j hj => ?_) (fun j hj => ?_) (fun j hj => ?_) (fun j hj => ?_) (fun j hj => ?_) hN
    all_goals first | (simp [up1, va_up, upd, va_cpy, hj]; done) | (simp [up1, va_up, upd, va_cpy, show j < 8 by omega]; done) | (simp [up1, va_up, upd]; done)
  · have : k ≠ 42 ∧ k ≠ 43 ∧ k ≠ 44 ∧ k ≠ 45 ∧ k ≠ 46 ∧ k ≠ 47 ∧ k ≠ 48 ∧ k ≠ 49 ∧ k ≠ 50 ∧ k ≠ 51 ∧ k ≠ 52 ∧ k ≠ 53 ∧ k ≠ 54 := by omega
    obtain ⟨a0, a1, a2, a3, a4, a5, a6, a7, a8, a9, a10, a11, a12⟩ := this
    simp [up1, va_up, a0, a1, a2, a3, a4, a5, a6, a7, a8, a9, a10, a11, a12]
theorem C_take_1_29 (σ : Sta) : ∃ τ, X10_take 1 29 σ = some ((), τ) ∧ (∀ (N N' : Nat → Int32) (n yr u nn nb : Nat), VR σ.1 29 N n yr u nn nb → (∀ k, k < 105 + 13 * u → N' k = N k) → VR τ.1 1 N' n yr u nn nb) ∧ (∀ k, ¬ (1 ≤ k ∧ k ≤ 13) → τ.1 k = σ.1 k) ∧ τ.2 = σ.2 := by
  rw [X10_take, X10_takeCourse]
  simp only [cpI_e, fI_e, pI_e, cA_e, X9_takeRows]
  refine ⟨_, rfl, fun N N' n yr u nn nb h hN => ?_, fun k hk => ?_, rfl⟩
  · have y8 := h.y8
    refine h.to ⟨?_, ?_, ?_, ?_, ?_⟩ (fun j hj => ?_) (fun j hj => ?_) (fun j hj => ?_) (fun j hj => ?_) (fun j hj => ?_) (fun j hj => ?_) (fun j hj => ?_) (fun j hj => ?_) (fun j hj => ?_) (fun j hj => ?_) hN
    all_goals first | (simp [up1, va_up, upd, va_cpy, hj]; done) | (simp [up1, va_up, upd, va_cpy, show j < 8 by omega]; done) | (simp [up1, va_up, upd]; done)
  · have : k ≠ 1 ∧ k ≠ 2 ∧ k ≠ 3 ∧ k ≠ 4 ∧ k ≠ 5 ∧ k ≠ 6 ∧ k ≠ 7 ∧ k ≠ 8 ∧ k ≠ 9 ∧ k ≠ 10 ∧ k ≠ 11 ∧ k ≠ 12 ∧ k ≠ 13 := by omega
    obtain ⟨a0, a1, a2, a3, a4, a5, a6, a7, a8, a9, a10, a11, a12⟩ := this
    simp [up1, va_up, a0, a1, a2, a3, a4, a5, a6, a7, a8, a9, a10, a11, a12]
theorem C_take_1_42 (σ : Sta) : ∃ τ, X10_take 1 42 σ = some ((), τ) ∧ (∀ (N N' : Nat → Int32) (n yr u nn nb : Nat), VR σ.1 42 N n yr u nn nb → (∀ k, k < 105 + 13 * u → N' k = N k) → VR τ.1 1 N' n yr u nn nb) ∧ (∀ k, ¬ (1 ≤ k ∧ k ≤ 13) → τ.1 k = σ.1 k) ∧ τ.2 = σ.2 := by
  rw [X10_take, X10_takeCourse]
  simp only [cpI_e, fI_e, pI_e, cA_e, X9_takeRows]
  refine ⟨_, rfl, fun N N' n yr u nn nb h hN => ?_, fun k hk => ?_, rfl⟩
  · have y8 := h.y8
    refine h.to ⟨?_, ?_, ?_, ?_, ?_⟩ (fun j hj => ?_) (fun j hj => ?_) (fun j hj => ?_) (fun j hj => ?_) (fun j hj => ?_) (fun j hj => ?_) (fun j hj => ?_) (fun j hj => ?_) (fun j hj => ?_) (fun j hj => ?_) hN
    all_goals first | (simp [up1, va_up, upd, va_cpy, hj]; done) | (simp [up1, va_up, upd, va_cpy, show j < 8 by omega]; done) | (simp [up1, va_up, upd]; done)
  · have : k ≠ 1 ∧ k ≠ 2 ∧ k ≠ 3 ∧ k ≠ 4 ∧ k ≠ 5 ∧ k ≠ 6 ∧ k ≠ 7 ∧ k ≠ 8 ∧ k ≠ 9 ∧ k ≠ 10 ∧ k ≠ 11 ∧ k ≠ 12 ∧ k ≠ 13 := by omega
    obtain ⟨a0, a1, a2, a3, a4, a5, a6, a7, a8, a9, a10, a11, a12⟩ := this
    simp [up1, va_up, a0, a1, a2, a3, a4, a5, a6, a7, a8, a9, a10, a11, a12]
theorem C_take_1_14 (σ : Sta) : ∃ τ, X10_take 1 14 σ = some ((), τ) ∧ (∀ (N N' : Nat → Int32) (n yr u nn nb : Nat), VR σ.1 14 N n yr u nn nb → (∀ k, k < 105 + 13 * u → N' k = N k) → VR τ.1 1 N' n yr u nn nb) ∧ (∀ k, ¬ (1 ≤ k ∧ k ≤ 13) → τ.1 k = σ.1 k) ∧ τ.2 = σ.2 := by
  rw [X10_take, X10_takeCourse]
  simp only [cpI_e, fI_e, pI_e, cA_e, X9_takeRows]
  refine ⟨_, rfl, fun N N' n yr u nn nb h hN => ?_, fun k hk => ?_, rfl⟩
  · have y8 := h.y8
    refine h.to ⟨?_, ?_, ?_, ?_, ?_⟩ (fun j hj => ?_) (fun j hj => ?_) (fun j hj => ?_) (fun j hj => ?_) (fun j hj => ?_) (fun j hj => ?_) (fun j hj => ?_) (fun j hj => ?_) (fun j hj => ?_) (fun j hj => ?_) hN
    all_goals first | (simp [up1, va_up, upd, va_cpy, hj]; done) | (simp [up1, va_up, upd, va_cpy, show j < 8 by omega]; done) | (simp [up1, va_up, upd]; done)
  · have : k ≠ 1 ∧ k ≠ 2 ∧ k ≠ 3 ∧ k ≠ 4 ∧ k ≠ 5 ∧ k ≠ 6 ∧ k ≠ 7 ∧ k ≠ 8 ∧ k ≠ 9 ∧ k ≠ 10 ∧ k ≠ 11 ∧ k ≠ 12 ∧ k ≠ 13 := by omega
    obtain ⟨a0, a1, a2, a3, a4, a5, a6, a7, a8, a9, a10, a11, a12⟩ := this
    simp [up1, va_up, a0, a1, a2, a3, a4, a5, a6, a7, a8, a9, a10, a11, a12]

theorem m209 (i k : Nat) : (209 : Int32) * nI i + nI k = nI (209 * i + k) := by
  have h : (209 : Int32) = nI 209 := rfl
  rw [h, pk_mul, nI_add]
theorem lt209 {i : Nat} (h : i < 209) : nI i < (209 : Int32) := nI_lt (b := 209) h (by decide)
theorem nar1 : vp_nar .boolean (1 : Int32) = 1 := by decide
theorem M_imageL {σ : Sta} {i : Nat} (hi : i < 2) : ∀ (d k fu : Nat) (f : Nat → Int32), k + d = 209 → d < fu → ∃ f', X12_image_L19 fu (nI i) (nI k) (up1 σ 84 f) = some (1, up1 (up1 σ 84 f') 85 (upd (σ.1 85) i 1)) ∧ (∀ j, j < 209 → k ≤ j → f' (209 * i + j) = σ.1 83 j) ∧ (∀ j, j < 209 * i + k ∨ 209 * i + 209 ≤ j → f' j = f j)
  | d, k, 0, f, _, h => by omega
  | 0, k, fu + 1, f, hk, _ => by
    have e : k = 209 := by omega
    subst e
    refine ⟨f, ?_, fun j h1 h2 => by omega, fun j hj => rfl⟩
    rw [X12_image_L19, if_neg (by decide), sZ_n i hi, up1_n (by decide), nar1]
  | d + 1, k, fu + 1, f, hk, hf => by
    obtain ⟨f', e1, e2, e3⟩ := M_imageL hi d (k + 1) fu (upd f (209 * i + k) (σ.1 83 k)) (by omega) (by omega)
    refine ⟨f', ?_, fun j h1 h2 => ?_, fun j hj => ?_⟩
    · rw [X12_image_L19, if_pos (lt209 (by omega)), aI_n k (by omega), up1_n (by decide), m209, sI_n (209 * i + k) (by omega), up1_s, up1_u, nI_1]
      exact e1
    · by_cases e : j = k
      · rw [e, e3 _ (by omega), updS]
      · exact e2 j h1 (by omega)
    · rw [e3 j (by omega), updN (by omega)]
theorem M_fromL {σ : Sta} {i : Nat} (hi : i < 2) : ∀ (d k fu : Nat) (f : Nat → Int32), k + d = 209 → d < fu → ∃ f', X12_from_L33 fu (nI i) (nI k) (up1 σ 83 f) = some (1, up1 σ 83 f') ∧ (∀ j, j < 209 → k ≤ j → f' j = σ.1 84 (209 * i + j)) ∧ (∀ j, j < k → f' j = f j)
  | d, k, 0, f, _, h => by omega
  | 0, k, fu + 1, f, hk, _ => by
    have e : k = 209 := by omega
    subst e
    refine ⟨f, ?_, fun j h1 h2 => by omega, fun j hj => rfl⟩
    rw [X12_from_L33, if_neg (by decide)]
  | d + 1, k, fu + 1, f, hk, hf => by
    obtain ⟨f', e1, e2, e3⟩ := M_fromL hi d (k + 1) fu (upd f k (σ.1 84 (209 * i + k))) (by omega) (by omega)
    refine ⟨f', ?_, fun j h1 h2 => ?_, fun j hj => ?_⟩
    · rw [X12_from_L33, if_pos (lt209 (by omega)), m209, aI_n (209 * i + k) (by omega), up1_n (by decide), sI_n k (by omega), up1_s, up1_u, nI_1]
      exact e1
    · by_cases e : j = k
      · rw [e, e3 _ (by omega), updS]
      · exact e2 j h1 (by omega)
    · rw [e3 j (by omega), updN (by omega)]

theorem P_image {σ : Sta} (h : Inv σ) (x1 : Int32) : Pair (X11_image x1) (X12_image x1) σ := by
  obtain ⟨n, yr, u, nn, nb, hv⟩ := h.1
  have b0 : (badC σ).1 83 0 = nI n := by rw [badC_83]; exact hv.N0
  have b4 : (badC σ).1 83 4 = nI yr := by rw [badC_83]; exact hv.N4
  by_cases e0 : inB x1 0 1 = true
  rotate_left
  · rw [Bool.not_eq_true] at e0; exact pair_bad (a := -2) h (by simp only [X11_image, e0, cA_e, bi_if, within_b, C_isArt_b, C_bad, Bool.false_eq_true, ite_false, ite_true, if_true, if_false]) (by simp only [X12_image, e0, cA_e, bi_if, M_isYear_b, M_isSort_b, in_01, in_02, in_05, in_06, in_07, in_09, in_30, in_60, in_99, in_12, M_bad, Bool.false_eq_true, ite_false, ite_true, if_true, if_false])
  obtain ⟨j0, hj0, rfl⟩ := inB_n (m := 1) (by decide) e0
  rcases (show j0 = 0 ∨ j0 = 1 by omega) with rfl | rfl
  · obtain ⟨τ, c1, c2, c3, c4⟩ := C_take_29_1 σ
    have c1' : X10_take (29 + 13 * 0) 1 σ = some ((), τ) := c1
    obtain ⟨f', m1, m2, m3⟩ := M_imageL (σ := up1 τ 28 (upd (τ.1 28) 0 1)) (i := 0) (by decide) 209 0 FU (τ.1 84) rfl (by decide)
    have q84 : (up1 τ 28 (upd (τ.1 28) 0 1)).1 84 = τ.1 84 := up1_n (by decide)
    rw [← q84, up1_id] at m1
    have t83 : (up1 τ 28 (upd (τ.1 28) 0 1)).1 83 = σ.1 83 := by rw [up1_n (by decide)]; exact c3 83 (by omega)
    refine ⟨1, up1 τ 28 (upd (τ.1 28) 0 1), up1 (up1 (up1 τ 28 (upd (τ.1 28) 0 1)) 84 f') 85 (upd ((up1 τ 28 (upd (τ.1 28) 0 1)).1 85) 0 1), ?_, ?_, ?_⟩
    rotate_left
    · rw [X12_image, in_01, e0, cA_e, bi_if, if_pos rfl]
      exact m1
    · obtain ⟨h1, h2, h3, h4, h5⟩ := h
      rw [up1_n (show 85 ≠ 28 by decide)]
      have q : ∀ k, k ≠ 28 → k ≠ 84 → k ≠ 85 → ¬ (29 ≤ k ∧ k ≤ 41) → (up1 (up1 (up1 τ 28 (upd (τ.1 28) 0 1)) 84 f') 85 (upd (τ.1 85) 0 1)).1 k = σ.1 k := fun k k1 k2 k3 k4 => by rw [up1_n k3, up1_n k2, up1_n k1]; exact c3 k k4
      have q28 : (up1 (up1 (up1 τ 28 (upd (τ.1 28) 0 1)) 84 f') 85 (upd (τ.1 85) 0 1)).1 28 = upd (σ.1 28) 0 1 := by rw [up1_n (by decide), up1_n (by decide), up1_s, c3 28 (by omega)]
      have q85 : (up1 (up1 (up1 τ 28 (upd (τ.1 28) 0 1)) 84 f') 85 (upd (τ.1 85) 0 1)).1 85 = upd (σ.1 85) 0 1 := by rw [up1_s, c3 85 (by omega)]
      have q84' : (up1 (up1 (up1 τ 28 (upd (τ.1 28) 0 1)) 84 f') 85 (upd (τ.1 85) 0 1)).1 84 = f' := by rw [up1_n (by decide), up1_s]
      have qv : ∀ k, 29 ≤ k → k ≤ 41 → (up1 (up1 (up1 τ 28 (upd (τ.1 28) 0 1)) 84 f') 85 (upd (τ.1 85) 0 1)).1 k = τ.1 k := fun k k1 k2 => by rw [up1_n (by omega), up1_n (by omega), up1_n (by omega)]
      have q2 : (up1 (up1 (up1 τ 28 (upd (τ.1 28) 0 1)) 84 f') 85 (upd (τ.1 85) 0 1)).2 = σ.2 := c4
      generalize up1 (up1 (up1 τ 28 (upd (τ.1 28) 0 1)) 84 f') 85 (upd (τ.1 85) 0 1) = ρ at *
      refine ⟨h1.c (fun k a b => q k (by omega) (by omega) (by omega) (by omega)) (q 83 (by omega) (by omega) (by omega) (by omega)), fun i hi => ?_, ?_, ?_, h5.c (by rw [q 80 (by omega) (by omega) (by omega) (by omega)]) (q 81 (by omega) (by omega) (by omega) (by omega)) (by rw [q 82 (by omega) (by omega) (by omega) (by omega)]) (q 94 (by omega) (by omega) (by omega) (by omega))⟩
      · by_cases e : i = 0
        · subst e
          refine Or.inr ⟨by rw [q28, updS], by rw [q85, updS], n, yr, u, nn, nb, ?_⟩
          have w := c2 _ (fun k => ρ.1 84 (209 * 0 + k)) n yr u nn nb hv (fun k hk => by
            have a1 := hv.uy
            have a2 := hv.y8
            show ρ.1 84 (209 * 0 + k) = _
            rw [q84', m2 k (by omega) (by omega), t83])
          exact w.cell (fun i hi => qv _ (by omega) (by omega))
        · have ei : i = 1 := by omega
          subst ei
          have a28 : ρ.1 28 1 = σ.1 28 1 := by rw [q28, updN (by decide)]
          have a85 : ρ.1 85 1 = σ.1 85 1 := by rw [q85, updN (by decide)]
          unfold Img
          rw [a28, a85]
          refine (h2 1 (by decide)).imp id (fun ⟨b1, b2, n, yr, u, nn, nb, b3⟩ => ⟨b1, b2, n, yr, u, nn, nb, ?_⟩)
          refine VR.mem (VR.cell b3 (fun i hi => q _ (by omega) (by omega) (by omega) (by omega))) (fun k hk => ?_)
          show ρ.1 84 (209 * 1 + k) = σ.1 84 (209 * 1 + k)
          rw [q84', m3 _ (by omega), c3 84 (by omega)]
      · intro i hi
        rw [q 0 (by omega) (by omega) (by omega) (by omega), q 86 (by omega) (by omega) (by omega) (by omega)]
        exact h3 i hi
      · rw [q2]
        exact h4
    · rw [X11_image, within_b, e0, cA_e, bi_if, if_pos rfl, aR_n 0 (by decide), cA_of c1', sZ_n 0 (by decide), nar1]
  · obtain ⟨τ, c1, c2, c3, c4⟩ := C_take_42_1 σ
    have c1' : X10_take (29 + 13 * 1) 1 σ = some ((), τ) := c1
    obtain ⟨f', m1, m2, m3⟩ := M_imageL (σ := up1 τ 28 (upd (τ.1 28) 1 1)) (i := 1) (by decide) 209 0 FU (τ.1 84) rfl (by decide)
    have q84 : (up1 τ 28 (upd (τ.1 28) 1 1)).1 84 = τ.1 84 := up1_n (by decide)
    rw [← q84, up1_id] at m1
    have t83 : (up1 τ 28 (upd (τ.1 28) 1 1)).1 83 = σ.1 83 := by rw [up1_n (by decide)]; exact c3 83 (by omega)
    refine ⟨1, up1 τ 28 (upd (τ.1 28) 1 1), up1 (up1 (up1 τ 28 (upd (τ.1 28) 1 1)) 84 f') 85 (upd ((up1 τ 28 (upd (τ.1 28) 1 1)).1 85) 1 1), ?_, ?_, ?_⟩
    rotate_left
    · rw [X12_image, in_01, e0, cA_e, bi_if, if_pos rfl]
      exact m1
    · obtain ⟨h1, h2, h3, h4, h5⟩ := h
      rw [up1_n (show 85 ≠ 28 by decide)]
      have q : ∀ k, k ≠ 28 → k ≠ 84 → k ≠ 85 → ¬ (42 ≤ k ∧ k ≤ 54) → (up1 (up1 (up1 τ 28 (upd (τ.1 28) 1 1)) 84 f') 85 (upd (τ.1 85) 1 1)).1 k = σ.1 k := fun k k1 k2 k3 k4 => by rw [up1_n k3, up1_n k2, up1_n k1]; exact c3 k k4
      have q28 : (up1 (up1 (up1 τ 28 (upd (τ.1 28) 1 1)) 84 f') 85 (upd (τ.1 85) 1 1)).1 28 = upd (σ.1 28) 1 1 := by rw [up1_n (by decide), up1_n (by decide), up1_s, c3 28 (by omega)]
      have q85 : (up1 (up1 (up1 τ 28 (upd (τ.1 28) 1 1)) 84 f') 85 (upd (τ.1 85) 1 1)).1 85 = upd (σ.1 85) 1 1 := by rw [up1_s, c3 85 (by omega)]
      have q84' : (up1 (up1 (up1 τ 28 (upd (τ.1 28) 1 1)) 84 f') 85 (upd (τ.1 85) 1 1)).1 84 = f' := by rw [up1_n (by decide), up1_s]
      have qv : ∀ k, 42 ≤ k → k ≤ 54 → (up1 (up1 (up1 τ 28 (upd (τ.1 28) 1 1)) 84 f') 85 (upd (τ.1 85) 1 1)).1 k = τ.1 k := fun k k1 k2 => by rw [up1_n (by omega), up1_n (by omega), up1_n (by omega)]
      have q2 : (up1 (up1 (up1 τ 28 (upd (τ.1 28) 1 1)) 84 f') 85 (upd (τ.1 85) 1 1)).2 = σ.2 := c4
      generalize up1 (up1 (up1 τ 28 (upd (τ.1 28) 1 1)) 84 f') 85 (upd (τ.1 85) 1 1) = ρ at *
      refine ⟨h1.c (fun k a b => q k (by omega) (by omega) (by omega) (by omega)) (q 83 (by omega) (by omega) (by omega) (by omega)), fun i hi => ?_, ?_, ?_, h5.c (by rw [q 80 (by omega) (by omega) (by omega) (by omega)]) (q 81 (by omega) (by omega) (by omega) (by omega)) (by rw [q 82 (by omega) (by omega) (by omega) (by omega)]) (q 94 (by omega) (by omega) (by omega) (by omega))⟩
      · by_cases e : i = 1
        · subst e
          refine Or.inr ⟨by rw [q28, updS], by rw [q85, updS], n, yr, u, nn, nb, ?_⟩
          have w := c2 _ (fun k => ρ.1 84 (209 * 1 + k)) n yr u nn nb hv (fun k hk => by
            have a1 := hv.uy
            have a2 := hv.y8
            show ρ.1 84 (209 * 1 + k) = _
            rw [q84', m2 k (by omega) (by omega), t83])
          exact w.cell (fun i hi => qv _ (by omega) (by omega))
        · have ei : i = 0 := by omega
          subst ei
          have a28 : ρ.1 28 0 = σ.1 28 0 := by rw [q28, updN (by decide)]
          have a85 : ρ.1 85 0 = σ.1 85 0 := by rw [q85, updN (by decide)]
          unfold Img
          rw [a28, a85]
          refine (h2 0 (by decide)).imp id (fun ⟨b1, b2, n, yr, u, nn, nb, b3⟩ => ⟨b1, b2, n, yr, u, nn, nb, ?_⟩)
          refine VR.mem (VR.cell b3 (fun i hi => q _ (by omega) (by omega) (by omega) (by omega))) (fun k hk => ?_)
          show ρ.1 84 (209 * 0 + k) = σ.1 84 (209 * 0 + k)
          rw [q84', m3 _ (by omega), c3 84 (by omega)]
      · intro i hi
        rw [q 0 (by omega) (by omega) (by omega) (by omega), q 86 (by omega) (by omega) (by omega) (by omega)]
        exact h3 i hi
      · rw [q2]
        exact h4
    · rw [X11_image, within_b, e0, cA_e, bi_if, if_pos rfl, aR_n 1 (by decide), cA_of c1', sZ_n 1 (by decide), nar1]
theorem P_from {σ : Sta} (h : Inv σ) (x1 : Int32) : Pair (X11_from x1) (X12_from x1) σ := by
  obtain ⟨n, yr, u, nn, nb, hv⟩ := h.1
  have b0 : (badC σ).1 83 0 = nI n := by rw [badC_83]; exact hv.N0
  have b4 : (badC σ).1 83 4 = nI yr := by rw [badC_83]; exact hv.N4
  by_cases e0 : inB x1 0 1 = true
  rotate_left
  · rw [Bool.not_eq_true] at e0; exact pair_bad (a := -2) h (by simp only [X11_from, e0, cA_e, bi_if, within_b, C_isArt_b, C_bad, Bool.false_eq_true, ite_false, ite_true, if_true, if_false]) (by simp only [X12_from, e0, cA_e, bi_if, M_isYear_b, M_isSort_b, in_01, in_02, in_05, in_06, in_07, in_09, in_30, in_60, in_99, in_12, M_bad, Bool.false_eq_true, ite_false, ite_true, if_true, if_false])
  obtain ⟨j0, hj0, rfl⟩ := inB_n (m := 1) (by decide) e0
  rcases (show j0 = 0 ∨ j0 = 1 by omega) with rfl | rfl
  · rcases h.2.1 0 (by decide) with ⟨k1, k2⟩ | ⟨k1, k2, n', yr', u', nn', nb', k3⟩
    · refine pair_no h ?_ ?_
      · rw [X11_from, within_b, e0, cA_e, bi_if, if_pos rfl, aI_n 0 (by decide), k1, if_pos rfl, cA_of (C_no σ)]
      · have hq : (noC σ).1 85 = σ.1 85 := up1_n (by decide)
        generalize noC σ = ρ at hq ⊢
        rw [X12_from, in_01, e0, cA_e, bi_if, if_pos rfl, aI_n 0 (by decide), hq, k2, if_pos rfl, cA_of (M_no ρ)]
    · obtain ⟨τ, c1, c2, c3, c4⟩ := C_take_1_29 σ
      have c1' : X10_take 1 (29 + 13 * 0) σ = some ((), τ) := c1
      obtain ⟨f', m1, m2, m3⟩ := M_fromL (σ := τ) (i := 0) (by decide) 209 0 FU (τ.1 83) rfl (by decide)
      rw [up1_id] at m1
      have t85 : τ.1 85 = σ.1 85 := c3 85 (by omega)
      have t84 : τ.1 84 = σ.1 84 := c3 84 (by omega)
      refine ⟨1, τ, up1 τ 83 f', ?_, ?_, ?_⟩
      · rw [X11_from, within_b, e0, cA_e, bi_if, if_pos rfl, aI_n 0 (by decide), k1, if_neg (by decide), aR_n 0 (by decide), cA_of c1']
      · rw [X12_from, in_01, e0, cA_e, bi_if, if_pos rfl, aI_n 0 (by decide), t85, k2, if_neg (by decide)]
        exact m1
      · refine h.n (FrN.tr (b := τ) ⟨fun k hk => c3 k (by unfold isN at hk; omega), c4⟩ (FrN.up (by unfold isN; omega))) ⟨n', yr', u', nn', nb', ?_⟩
        rw [up1_s]
        have w := c2 _ f' n' yr' u' nn' nb' k3 (fun k hk => by
          have a1 := k3.uy
          have a2 := k3.y8
          rw [m2 k (by omega) (by omega), t84])
        exact w.cell (fun i hi => up1_n (by omega))
  · rcases h.2.1 1 (by decide) with ⟨k1, k2⟩ | ⟨k1, k2, n', yr', u', nn', nb', k3⟩
    · refine pair_no h ?_ ?_
      · rw [X11_from, within_b, e0, cA_e, bi_if, if_pos rfl, aI_n 1 (by decide), k1, if_pos rfl, cA_of (C_no σ)]
      · have hq : (noC σ).1 85 = σ.1 85 := up1_n (by decide)
        generalize noC σ = ρ at hq ⊢
        rw [X12_from, in_01, e0, cA_e, bi_if, if_pos rfl, aI_n 1 (by decide), hq, k2, if_pos rfl, cA_of (M_no ρ)]
    · obtain ⟨τ, c1, c2, c3, c4⟩ := C_take_1_42 σ
      have c1' : X10_take 1 (29 + 13 * 1) σ = some ((), τ) := c1
      obtain ⟨f', m1, m2, m3⟩ := M_fromL (σ := τ) (i := 1) (by decide) 209 0 FU (τ.1 83) rfl (by decide)
      rw [up1_id] at m1
      have t85 : τ.1 85 = σ.1 85 := c3 85 (by omega)
      have t84 : τ.1 84 = σ.1 84 := c3 84 (by omega)
      refine ⟨1, τ, up1 τ 83 f', ?_, ?_, ?_⟩
      · rw [X11_from, within_b, e0, cA_e, bi_if, if_pos rfl, aI_n 1 (by decide), k1, if_neg (by decide), aR_n 1 (by decide), cA_of c1']
      · rw [X12_from, in_01, e0, cA_e, bi_if, if_pos rfl, aI_n 1 (by decide), t85, k2, if_neg (by decide)]
        exact m1
      · refine h.n (FrN.tr (b := τ) ⟨fun k hk => c3 k (by unfold isN at hk; omega), c4⟩ (FrN.up (by unfold isN; omega))) ⟨n', yr', u', nn', nb', ?_⟩
        rw [up1_s]
        have w := c2 _ f' n' yr' u' nn' nb' k3 (fun k hk => by
          have a1 := k3.uy
          have a2 := k3.y8
          rw [m2 k (by omega) (by omega), t84])
        exact w.cell (fun i hi => up1_n (by omega))

-- a year
theorem some_fst {α : Type} {a b : α} {s t : Sta} (h : (some (a, s) : Option (α × Sta)) = some (b, t)) : a = b := congrArg Prod.fst (Option.some.inj h)
theorem C_yearS {σ : Sta} {N : Nat → Int32} {n yr u nn nb : Nat} (hv : VR σ.1 1 N n yr u nn nb) (hy : yr < 8) : ∃ τ, X11_year σ = some ((hs (gN N ch0 (soN N) (woN N) (qN N) yr) n).1, τ) ∧ τ.1 1 = upd (upd (σ.1 1) 11 (nI (yr + 1))) 12 (nI (u + 1)) ∧ τ.1 6 = addW (σ.1 6) (hs (gN N ch0 (soN N) (woN N) (qN N) yr) n).1 yr ∧ τ.1 7 = addS (σ.1 7) (hs (gN N ch0 (soN N) (woN N) (qN N) yr) n).2.2.1 ∧ τ.1 8 = upd (σ.1 8) yr (hs (gN N ch0 (soN N) (woN N) (qN N) yr) n).1 ∧ τ.1 9 = upd (σ.1 9) yr (hs (gN N ch0 (soN N) (woN N) (qN N) yr) n).2.2.1 ∧ (∀ k, k ≠ 1 → k < 6 ∨ 9 < k → ¬ isQ k → τ.1 k = σ.1 k) ∧ τ.2 = σ.2 := by
  have hn := hv.n6
  have ab := allByKind_e 55 σ
  have h57 : ∀ j, j < 6 → (up1 σ (55 + 2) (fun j => if j < 6 then -1 else σ.1 (55 + 2) j)).1 57 j = -1 := fun j hj => by
    rw [show 57 = 55 + 2 from rfl, up1_s, if_pos hj]
  have hs1 : ∀ k, k ≠ 57 → (up1 σ (55 + 2) (fun j => if j < 6 then -1 else σ.1 (55 + 2) j)).1 k = σ.1 k := fun k hk => up1_n hk
  have h2 : (up1 σ (55 + 2) (fun j => if j < 6 then -1 else σ.1 (55 + 2) j)).2 = σ.2 := rfl
  generalize up1 σ (55 + 2) (fun j => if j < 6 then -1 else σ.1 (55 + 2) j) = ρ at *
  have hv1 : VR ρ.1 1 N n yr u nn nb := hv.cell (fun i hi => hs1 _ (by omega))
  obtain ⟨f, g1, g2, g3, g4⟩ := C_hold (c := 55) (r := 1) (y := yr) (by intro i hi; omega) hv1.s10 hv1.wfc hy
  have eg : ∀ p, p < n → gSt 55 1 ρ yr p = gN N ch0 (soN N) (woN N) (qN N) yr p := fun p hp => some_fst ((C_strength (c := 55) (r := 1) hv1.s10 hv1.wfc hp hy).symm.trans (hv1.str1 h57 hp hy))
  rw [hs_ag n eg] at g3 g4
  obtain ⟨w1, w2⟩ := hs_who (gN N ch0 (soN N) (woN N) (qN N) yr) n
  generalize hs (gN N ch0 (soN N) (woN N) (qN N) yr) n = q at *
  have hp := C_pass (r := 1) (σ := up1 ρ 55 f) (n := n) (y := yr) (a := f 3) (b := f 4) (by rw [up1_n (by decide)]; exact hv1.s10) hn (by rw [up1_n (by decide)]; exact hv1.s11) hy (by rw [g3]; exact w1) (by rw [g4]; exact w2)
  refine ⟨passed 1 (up1 ρ 55 f) (f 3) (f 4) yr, ?_, ?_, ?_, ?_, ?_, ?_, ?_, ?_⟩
  · rw [X11_year, fI_e, hv.s11, if_pos (lt8 hy), cA_of ab, fI_e, hv1.s11, cA_of g1, fI_e, fI_e, up1_s, cA_of hp, fI_e]
    have e55 : (passed 1 (up1 ρ 55 f) (f 3) (f 4) yr).1 55 = f := by simp [passed, up1, va_up]
    rw [e55, g3]
  · have e : (passed 1 (up1 ρ 55 f) (f 3) (f 4) yr).1 1 = upd (upd (ρ.1 1) 11 (nI (yr + 1))) 12 (ρ.1 1 12 + 1) := by simp [passed, up1, va_up]
    rw [e, hs1 1 (by decide), hv.s12, nI_1]
  · rw [← g3, ← hs1 6 (by decide)]; simp [passed, up1, va_up]
  · rw [← g4, ← hs1 7 (by decide)]; simp [passed, up1, va_up]
  · rw [← g3, ← hs1 8 (by decide)]; simp [passed, up1, va_up]
  · rw [← g4, ← hs1 9 (by decide)]; simp [passed, up1, va_up]
  · intro k k1 k2 k3
    have q1 : k ≠ 55 ∧ k ≠ 57 ∧ k ≠ 6 ∧ k ≠ 7 ∧ k ≠ 8 ∧ k ≠ 9 := by unfold isQ at k3; omega
    obtain ⟨b1, b2, b3, b4, b5, b6⟩ := q1
    rw [← hs1 k b2]
    simp [passed, up1, va_up, k1, b1, b3, b4, b5, b6]
  · exact h2
theorem lt13 {i : Nat} (h : i < 13) : nI i < (13 : Int32) := nI_lt (b := 13) h (by decide)
theorem m105 (u k : Nat) : ((105 : Int32) + (13 : Int32) * nI u) + nI k = nI (105 + 13 * u + k) := by
  have h : (13 : Int32) = nI 13 := rfl
  have h2 : (105 : Int32) = nI 105 := rfl
  rw [h, h2, pk_mul, nI_add, nI_add]
theorem M_keepL {σ : Sta} {N : Nat → Int32} {u : Nat} (hu : u < 8) : ∀ (d k fu : Nat) (f : Nat → Int32), k + d = 13 → d < fu → f 3 = nI u → (∀ i, i < 13 → f (4 + i) = N (4 + i)) → ∃ f', X12_keep_L53 fu (nI k) (up1 σ 83 f) = some ((), up1 σ 83 f') ∧ f' 3 = nI (u + 1) ∧ (∀ i, i < 13 → k ≤ i → f' (105 + 13 * u + i) = N (4 + i)) ∧ (∀ j, j ≠ 3 → j < 105 + 13 * u + k ∨ 105 + 13 * u + 13 ≤ j → f' j = f j)
  | d, k, 0, f, _, h, _, _ => by omega
  | 0, k, fu + 1, f, hk, _, h3, h4 => by
    have e : k = 13 := by omega
    subst e
    refine ⟨upd f 3 (nI (u + 1)), ?_, updS _ _ _, fun j h1 h2 => by omega, fun j hj _ => updN hj⟩
    rw [X12_keep_L53, if_neg (by decide), aI3, up1_s, h3, sI3, up1_s, up1_u, nI_1]
  | d + 1, k, fu + 1, f, hk, hf, h3, h4 => by
    obtain ⟨f', e1, e2, e3, e4⟩ := M_keepL (σ := σ) (N := N) hu d (k + 1) fu (upd f (105 + 13 * u + k) (N (4 + k))) (by omega) (by omega) (by rw [updN (by omega)]; exact h3) (fun i hi => by rw [updN (by omega)]; exact h4 i hi)
    refine ⟨f', ?_, e2, fun j h1 h2 => ?_, fun j hj h2 => ?_⟩
    · rw [X12_keep_L53, if_pos (lt13 (by omega)), aI3, up1_s, h3, a4, aI_n (4 + k) (by omega), up1_s, h4 k (by omega), m105, sI_n (105 + 13 * u + k) (by omega), up1_s, up1_u, nI_1]
      exact e1
    · by_cases e : j = k
      · rw [e, e4 _ (by omega) (by omega), updS]
      · exact e3 j h1 (by omega)
    · rw [e4 j hj (by omega), updN (by omega)]
theorem M_yearL {σ : Sta} {n : Nat} {a : Int32} (hn : n ≤ 6) : ∀ (d p fu : Nat) (f : Nat → Int32), p + d = n → d < fu → f 0 = nI n → ∃ f', X12_year_L37 fu a (nI p) (up1 σ 83 f) = some (a, up1 σ 83 f') ∧ f' 4 = f 4 + 1 ∧ (∀ i, i < n → p ≤ i → f' (5 + i) = σ.1 87 i ∧ f' (11 + i) = σ.1 88 i) ∧ (∀ i, i < p → f' (5 + i) = f (5 + i) ∧ f' (11 + i) = f (11 + i)) ∧ (∀ j, j < 4 ∨ 17 ≤ j → f' j = f j)
  | d, p, 0, f, _, h, _ => by omega
  | 0, p, fu + 1, f, hp, _, h0 => by
    have e : p = n := by omega
    subst e
    refine ⟨upd f 4 (f 4 + 1), ?_, updS _ _ _, fun j h1 h2 => by omega, fun i hi => ⟨updN (by omega), updN (by omega)⟩, fun j hj => updN (by omega)⟩
    rw [X12_year_L37, cA_of (M_many _), up1_s, h0, if_neg (nI_nlt (Nat.le_refl _) (by omega)), aI4, up1_s, sI4, up1_s, up1_u]
  | d + 1, p, fu + 1, f, hp, hf, h0 => by
    obtain ⟨f', e1, e2, e3, e4, e5⟩ := M_yearL (σ := σ) (a := a) hn d (p + 1) fu (upd (upd f (5 + p) (σ.1 87 p)) (11 + p) (σ.1 88 p)) (by omega) (by omega) (by rw [updN (by omega), updN (by omega)]; exact h0)
    refine ⟨f', ?_, ?_, fun i h1 h2 => ?_, fun i hi => ?_, fun j hj => ?_⟩
    · rw [X12_year_L37, cA_of (M_many _), up1_s, h0, if_pos (nI_lt (by omega) (by omega)), aI_n p (by omega), up1_n (by decide), a5, sI_n (5 + p) (by omega), up1_s, up1_u, aI_n p (by omega), up1_n (by decide), a11, sI_n (11 + p) (by omega), up1_s, up1_u, nI_1]
      exact e1
    · rw [e2, updN (by omega), updN (by omega)]
    · by_cases e : i = p
      · subst e
        obtain ⟨x1, x2⟩ := e4 i (by omega)
        rw [x1, x2, updN (show 5 + i ≠ 11 + i by omega), updS, updS]
        exact ⟨rfl, rfl⟩
      · exact e3 i h1 (by omega)
    · obtain ⟨x1, x2⟩ := e4 i (by omega)
      rw [x1, x2, updN (by omega), updN (by omega), updN (by omega), updN (by omega)]
      exact ⟨rfl, rfl⟩
    · rw [e5 j hj, updN (by omega), updN (by omega)]
theorem orlt {w y : Nat} (h : w < 2 ^ y) (hy : y < 8) : ∃ v, v < 2 ^ (y + 1) ∧ nI w ||| ((1 : Int32) <<< (nI y &&& 31)) = nI v := by
  have h8 : w < 256 := Nat.lt_of_lt_of_le h (Nat.pow_le_pow_right (n := 2) (by decide) (show y ≤ 8 by omega))
  refine ⟨w ||| 2 ^ y, ?_, (orb w h8 y hy).1⟩
  exact Nat.or_lt_two_pow (Nat.lt_of_lt_of_le h (Nat.pow_le_pow_right (by decide) (by omega))) (Nat.pow_lt_pow_right (by decide) (by omega))
theorem addW_lt {n y p : Nat} {w : Nat → Int32} {x : Int32} (hn : n ≤ 6) (h : ∀ p, p < n → ∃ v, v < 2 ^ y ∧ w p = nI v) (hy : y < 8) (hx : who n x) (hp : p < n) : ∃ v, v < 2 ^ (y + 1) ∧ addW w x y p = nI v := by
  obtain ⟨v, hv, ev⟩ := h p hp
  have small : ∃ v, v < 2 ^ (y + 1) ∧ w p = nI v := ⟨v, Nat.lt_of_lt_of_le hv (Nat.pow_le_pow_right (by decide) (by omega)), ev⟩
  rcases hx with rfl | ⟨i, hi, rfl⟩
  · rw [addW, if_pos rfl]; exact small
  · rw [addW, if_neg (nm1 (by omega)), kno_n (by omega)]
    by_cases e : p = i
    · subst e
      rw [updS, ev]
      exact orlt hv hy
    · rw [updN e]; exact small
theorem P_year {σ : Sta} (h : Inv σ) : Pair X11_year X12_year σ := by
  obtain ⟨n, yr, u, nn, nb, hv⟩ := h.1
  have hn := hv.n6
  have huy := hv.uy
  have hy8 := hv.y8
  by_cases c8 : yr = 8
  · subst c8
    refine pair_no h ?_ ?_
    · rw [X11_year, fI_e, hv.s11, if_neg nlt8, cA_of (C_no σ)]
    · have hq : (noC σ).1 83 = σ.1 83 := up1_n (by decide)
      generalize noC σ = ρ at hq ⊢
      rw [X12_year, aI4, hq, hv.N4, if_pos (show nI 8 = (8 : Int32) from rfl), cA_of (M_no ρ)]
  have hy : yr < 8 := by omega
  obtain ⟨τ, c1, c2, c3, c4, c5, c6, c7, c9⟩ := C_yearS hv hy
  have t83 : τ.1 83 = σ.1 83 := c7 83 (by omega) (by omega) (by unfold isQ; omega)
  obtain ⟨N1, k1, k2, k3, k4⟩ := M_keepL (σ := τ) (N := σ.1 83) (u := u) (by omega) 13 0 FU (σ.1 83) rfl (by decide) hv.N3 (fun i hi => rfl)
  rw [← t83, up1_id] at k1
  have kk : X12_keep τ = some ((), up1 τ 83 N1) := by
    rw [X12_keep, aI3, t83, hv.N3, if_neg (show ¬ nI u = (8 : Int32) from fun e => by have := (nI_eq (b := 8) (by omega) (by omega)).mp e; omega)]
    exact k1
  have n0 : N1 0 = nI n := by rw [k4 0 (by omega) (by omega)]; exact hv.N0
  have n4 : N1 4 = nI yr := by rw [k4 4 (by omega) (by omega)]; exact hv.N4
  have nlo : ∀ j, j ≠ 3 → j < 105 → N1 j = σ.1 83 j := fun j j1 j2 => k4 j j1 (by omega)
  have hag : Ag n ch0 (kM (σ.1 83)) (aM (σ.1 83)) (soN (σ.1 83)) (woN (σ.1 83)) ch0 (kM N1) (aM N1) (soN N1) (woN N1) := ⟨fun p hp => ⟨rfl, (nlo _ (by omega) (by omega)).symm, fun t ht => (nlo _ (by omega) (by omega)).symm⟩, fun y hy => ⟨(nlo _ (by omega) (by omega)).symm, (nlo _ (by omega) (by omega)).symm⟩⟩
  have hqq : AgQ n (qN (σ.1 83)) (qN N1) := fun p hp => ⟨(nlo _ (by omega) (by omega)).symm, (nlo _ (by omega) (by omega)).symm⟩
  have hw1 : Wf N1 n (soN N1) (woN N1) (qN N1) := WF_ag hag (fun p hp => (hqq p hp).1) hv.wf
  obtain ⟨ρ1, l1, l2, l3⟩ := lay1 (N := N1) (n := n) hn n0 n 0 FU (up1 τ 83 N1) (by omega) (by show n < 300; omega) (up1_s _ _ _) (fun i hi => by omega)
  have l1' : X12_layHand (up1 τ 83 N1) = some ((), ρ1) := l1
  obtain ⟨ρ2, g1, g2, g3⟩ := HM_year l2 hw1 hy
  have eh : hs (gN N1 ch0 (soN N1) (woN N1) (qN N1) yr) n = hs (gN (σ.1 83) ch0 (soN (σ.1 83)) (woN (σ.1 83)) (qN (σ.1 83)) yr) n := (hs_ag n (fun p hp => stg_ag hag hv.wf (hqq p hp).1 hp hy)).symm
  rw [eh] at g1
  obtain ⟨w1, w2⟩ := hs_who (gN (σ.1 83) ch0 (soN (σ.1 83)) (woN (σ.1 83)) (qN (σ.1 83)) yr) n
  have hst : AgQ n (sN (σ.1 83) n ch0 (soN (σ.1 83)) (woN (σ.1 83)) yr (qN (σ.1 83))) (sN N1 n ch0 (soN N1) (woN N1) yr (qN N1)) := stp_ag hag hv.wf hqq hy
  have e83 : ρ2.1 83 = N1 := g2.1
  obtain ⟨N2, y1, y2, y3, y4, y5⟩ := M_yearL (σ := ρ2) (n := n) (a := (hs (gN (σ.1 83) ch0 (soN (σ.1 83)) (woN (σ.1 83)) (qN (σ.1 83)) yr) n).1) hn n 0 FU N1 (by omega) (by show n < 300; omega) n0
  rw [← e83, up1_id] at y1
  have sN1 : ∀ p, p < n → N2 (5 + p) = addW (qN (σ.1 83)).1 (hs (gN (σ.1 83) ch0 (soN (σ.1 83)) (woN (σ.1 83)) (qN (σ.1 83)) yr) n).1 yr p ∧ N2 (11 + p) = addS (qN (σ.1 83)).2 (hs (gN (σ.1 83) ch0 (soN (σ.1 83)) (woN (σ.1 83)) (qN (σ.1 83)) yr) n).2.2.1 p := by
    intro p hp
    obtain ⟨a1, a2⟩ := y3 p hp (by omega)
    obtain ⟨b1, b2, b3, b4⟩ := g2.2.2.1 p hp
    rw [a1, a2, ← b3, ← b4, ← (hst p hp).1, ← (hst p hp).2]
    exact ⟨rfl, rfl⟩
  generalize hs (gN (σ.1 83) ch0 (soN (σ.1 83)) (woN (σ.1 83)) (qN (σ.1 83)) yr) n = q at *
  have f1 : FrN σ τ := ⟨fun k hk => c7 k (by unfold isN at hk; omega) (by unfold isN at hk; omega) (fun e => hk (Or.inr (Or.inr e))), c9⟩
  refine ⟨q.1, τ, up1 ρ2 83 N2, c1, ?_, ?_⟩
  · rw [X12_year, aI4, t83, hv.N4, if_neg (show ¬ nI yr = (8 : Int32) from fun e => c8 ((nI_eq (b := 8) (by omega) (by omega)).mp e)), cA_of kk, cA_of l1', aI4, l2.1, n4, cA_of g1]
    exact y1
  · refine h.n ((f1.tr (FrN.up (k := 83) (f := N1) (by unfold isN; omega))).tr ((l3.q.nn.tr g3.q.nn).tr (FrN.up (k := 83) (f := N2) (by unfold isN; omega)))) ⟨n, yr + 1, u + 1, nn, nb, ?_⟩
    rw [up1_s]
    have hS : ∀ k, k ≤ 13 → (up1 ρ2 83 N2).1 k = τ.1 k := fun k hk => by
      rw [up1_n (by omega), g3.1 k (by omega) (by omega), l3.1 k (by unfold isL; omega), up1_n (by omega)]
    have hvc : VR (up1 ρ2 83 N2).1 1 N2 n (yr + 1) (u + 1) nn nb → VR (up1 ρ2 83 N2).1 1 N2 n (yr + 1) (u + 1) nn nb := id
    refine hvc ?_
    have n2o : ∀ j, j ≠ 3 → j < 4 ∨ 17 ≤ j → j < 105 → N2 j = σ.1 83 j := fun j j1 j2 j3 => by rw [y5 j j2, nlo j j1 j3]
    refine VR.mk ⟨hn, by omega, by omega, hv.nn6, hv.nb6⟩ ⟨?_, ?_, ?_, ?_, ?_⟩ ⟨?_, ?_, ?_, ?_, ?_⟩ ⟨fun p hp => ⟨?_, ?_, ?_, fun t ht => ?_⟩, fun p hp => ?_, fun p hp t ht => ?_, fun p hp => ?_⟩ (hv.gye.c (by rw [hS _ (by omega)]; exact c7 _ (by omega) (by omega) (by unfold isQ; omega)) (by rw [hS _ (by omega)]; exact c7 _ (by omega) (by omega) (by unfold isQ; omega)) (fun k k1 k2 => n2o k (by omega) (by omega) (by omega))) (hv.gno.c hv.nn6 (by rw [hS _ (by omega)]; exact c7 _ (by omega) (by omega) (by unfold isQ; omega)) (fun k k1 k2 => n2o k (by omega) (by omega) (by omega))) (hv.gbe.c hv.nb6 (Nat.le_refl _) (by rw [hS _ (by omega)]; exact c7 _ (by omega) (by omega) (by unfold isQ; omega)) (fun k k1 k2 => n2o k (by omega) (by omega) (by omega))) ?_
    · rw [hS 1 (by omega), c2, updN (by decide), updN (by decide)]; exact hv.s10
    · rw [hS 1 (by omega), c2, updN (by decide), updS]
    · rw [hS 1 (by omega), c2, updS]
    · rw [hS (1 + 9) (by omega), c7 (1 + 9) (by omega) (by omega) (by unfold isQ; omega)]; exact hv.sn
    · rw [hS (1 + 11) (by omega), c7 (1 + 11) (by omega) (by omega) (by unfold isQ; omega)]; exact hv.sb
    · rw [n2o 0 (by omega) (by omega) (by omega)]; exact hv.N0
    · rw [n2o 1 (by omega) (by omega) (by omega)]; exact hv.N1
    · rw [n2o 2 (by omega) (by omega) (by omega)]; exact hv.N2
    · rw [y5 3 (by omega), k2]
    · rw [y2, n4, nI_1]
    · rw [hS (1 + 3) (by omega), c7 (1 + 3) (by omega) (by omega) (by unfold isQ; omega), n2o _ (by omega) (by omega) (by omega)]; exact (hv.pe p hp).1
    · rw [hS (1 + 5) (by omega), show 1 + 5 = 6 from rfl, c3, (sN1 p hp).1]
      exact addW_ag (n := n) (fun p hp => (hv.pe p hp).2.1) hn w1 hp
    · rw [hS (1 + 6) (by omega), show 1 + 6 = 7 from rfl, c4, (sN1 p hp).2]
      exact addS_ag (n := n) (fun p hp => (hv.pe p hp).2.2.1) hn w2 hp
    · rw [hS (1 + 4) (by omega), c7 (1 + 4) (by omega) (by omega) (by unfold isQ; omega), n2o _ (by omega) (by omega) (by omega)]; exact (hv.pe p hp).2.2.2 t ht
    · rw [n2o _ (by omega) (by omega) (by omega)]; exact hv.kd p hp
    · rw [n2o _ (by omega) (by omega) (by omega)]; exact hv.ar p hp t ht
    · rw [(sN1 p hp).1]
      exact addW_lt hn hv.wi hy w1 hp
    · rw [hS (1 + 7) (by omega), hS (1 + 8) (by omega), show 1 + 7 = 8 from rfl, show 1 + 8 = 9 from rfl, c5, c6]
      have past : ∀ i, i < 13 → N2 (105 + 13 * u + i) = σ.1 83 (4 + i) := fun i hi => by rw [y5 _ (by omega), k3 i hi (by omega)]
      refine ⟨yr, rfl, by rw [show 105 + 13 * u = 105 + 13 * u + 0 from rfl, past 0 (by omega)]; exact hv.N4, by rw [updS]; exact w1, by rw [updS]; exact w2, fun p hp => ⟨?_, ?_, ?_⟩, ?_⟩
      · rw [updS, show 4 + (1 + p) = 5 + p by omega, (sN1 p hp).1]
        exact addW_ag (n := n) (fun p hp => by rw [past (1 + p) (by omega), show 4 + (1 + p) = 5 + p by omega]; rfl) hn w1 hp
      · rw [updS, show 4 + (7 + p) = 11 + p by omega, (sN1 p hp).2]
        exact addS_ag (n := n) (fun p hp => by rw [past (7 + p) (by omega), show 4 + (7 + p) = 11 + p by omega]; rfl) hn w2 hp
      · obtain ⟨w, hw, ew⟩ := hv.wi p hp
        exact ⟨w, hw, by rw [past (1 + p) (by omega), show 4 + (1 + p) = 5 + p by omega]; exact ew⟩
      · exact Hist_c hn u yr 4 (105 + 13 * u) hv.hi (fun k k1 k2 => by rw [y5 k (by omega), k4 k (by omega) (by omega)]) past (fun y hy => ⟨updN (by omega), updN (by omega)⟩)
-- undoing
def backW (w : Nat → Int32) (x : Int32) (y : Nat) : Nat → Int32 := if x = -1 then w else upd w (kno x) (w (kno x) &&& (((1 : Int32) <<< (nI y &&& 31)) ^^^ (-1 : Int32)))
def backS (q : Nat → Int32) (x : Int32) : Nat → Int32 := if x = -1 then q else upd q (kno x) (q (kno x) - 1)
theorem C_takeBack {n y u : Nat} {σ : Sta} {a b : Int32} (hn0 : σ.1 1 10 = nI n) (hn6 : n ≤ 6) (hy0 : σ.1 1 11 = nI (y + 1)) (hu0 : σ.1 1 12 = nI (u + 1)) (hy : y < 8) (hu : u < 8) (ea : σ.1 8 y = a) (eb : σ.1 9 y = b) (ha : who n a) (hb : who n b) : X10_takeBack 1 σ = some ((), up1 (up1 (up1 σ 1 (upd (upd (σ.1 1) 11 (nI y)) 12 (nI u))) 6 (backW (σ.1 6) a y)) 7 (backS (σ.1 7) b)) := by
  have l95 : ∀ τ : Sta, τ.1 1 10 = nI n → X10_takeBack_L95 1 b τ = some ((), up1 τ 7 (backS (τ.1 7) b)) := by
    intro τ ht
    rw [X10_takeBack_L95, fI_e, ht]
    rcases hb with rfl | ⟨i, hi, rfl⟩
    · rw [cA_of within_m1, if_pos rfl, backS, if_pos rfl, up1_id]
    · rw [cA_of (within_ct hi (by omega)), if_neg n10, aI_n i (by omega), sI_n i (by omega), backS, if_neg (nm1 (by omega)), kno_n (by omega)]
  have p1 : (0 : Int32) < nI (y + 1) := nI_lt (a := 0) (by omega) (by omega)
  have p2 : ¬ (8 : Int32) < nI (y + 1) := nI_nlt (a := 8) (by omega) (by omega)
  have p3 : (0 : Int32) < nI (u + 1) := nI_lt (a := 0) (by omega) (by omega)
  rw [X10_takeBack, fI_e, hy0, if_pos p1, fI_e, hy0, if_neg p2, fI_e, hu0, if_pos p3, fI_e, hy0, nI_pred, pI_e, fI_e, up1_s, updN (by decide), hu0, nI_pred, pI_e, up1_s, up1_u, fI_e, up1_s, updN (by decide), updS, aI_n y (by omega), up1_n (show 1 + 7 ≠ 1 by decide), fI_e, up1_s, updN (by decide), updS, aI_n y (by omega), up1_n (show 1 + 8 ≠ 1 by decide), fI_e, up1_s, updN (by decide), updN (by decide), hn0, show σ.1 (1 + 7) y = a from ea, show σ.1 (1 + 8) y = b from eb]
  rcases ha with rfl | ⟨i, hi, rfl⟩
  · rw [cA_of within_m1, if_pos rfl, l95 _ (by rw [up1_s, updN (by decide), updN (by decide)]; exact hn0), backW, if_pos rfl, up1_n (show 7 ≠ 1 by decide)]
    have e : up1 (up1 σ 1 (upd (upd (σ.1 1) 11 (nI y)) 12 (nI u))) 6 (σ.1 6) = up1 σ 1 (upd (upd (σ.1 1) 11 (nI y)) 12 (nI u)) := by
      have q : (up1 σ 1 (upd (upd (σ.1 1) 11 (nI y)) 12 (nI u))).1 6 = σ.1 6 := up1_n (by decide)
      rw [← q, up1_id]
    rw [e]
  · rw [cA_of (within_ct hi (by omega)), if_neg n10, aI_n i (by omega), fI_e, up1_s, updN (by decide), updS, sI_n i (by omega), l95 _ (by rw [up1_n (by decide), up1_s, updN (by decide), updN (by decide)]; exact hn0), backW, if_neg (nm1 (by omega)), kno_n (by omega), up1_n (show 7 ≠ 1 + 5 by decide), up1_n (show 7 ≠ 1 by decide), up1_n (show 1 + 5 ≠ 1 by decide)]
theorem M_undoL {σ : Sta} {u : Nat} {N : Nat → Int32} (hu : u < 8) : ∀ (d k fu : Nat) (f : Nat → Int32), k + d = 13 → d < fu → f 3 = nI u → (∀ i, i < 13 → f (105 + 13 * u + i) = N (105 + 13 * u + i)) → ∃ f', X12_undo_L26 fu (nI k) (up1 σ 83 f) = some (f' 4, up1 σ 83 f') ∧ (∀ i, i < 13 → k ≤ i → f' (4 + i) = N (105 + 13 * u + i)) ∧ (∀ j, j < 4 + k ∨ 17 ≤ j → f' j = f j)
  | d, k, 0, f, _, h, _, _ => by omega
  | 0, k, fu + 1, f, hk, _, h3, h4 => by
    have e : k = 13 := by omega
    subst e
    refine ⟨f, ?_, fun j h1 h2 => by omega, fun j hj => rfl⟩
    rw [X12_undo_L26, if_neg (by decide), aI4, up1_s]
  | d + 1, k, fu + 1, f, hk, hf, h3, h4 => by
    obtain ⟨f', e1, e3, e4⟩ := M_undoL (σ := σ) (N := N) hu d (k + 1) fu (upd f (4 + k) (N (105 + 13 * u + k))) (by omega) (by omega) (by rw [updN (by omega)]; exact h3) (fun i hi => by rw [updN (by omega)]; exact h4 i hi)
    refine ⟨f', ?_, fun j h1 h2 => ?_, fun j hj => ?_⟩
    · rw [X12_undo_L26, if_pos (lt13 (by omega)), aI3, up1_s, h3, m105, aI_n (105 + 13 * u + k) (by omega), up1_s, h4 k (by omega), a4, sI_n (4 + k) (by omega), up1_s, up1_u, nI_1]
      exact e1
    · by_cases e : j = k
      · rw [e, e4 _ (by omega), updS]
      · exact e3 j h1 (by omega)
    · rw [e4 j (by omega), updN (by omega)]
theorem andb : ∀ y, y < 8 → ∀ w, w < 2 ^ y → (nI w ||| ((1 : Int32) <<< (nI y &&& 31))) &&& (((1 : Int32) <<< (nI y &&& 31)) ^^^ (-1 : Int32)) = nI w := by decide +kernel
theorem backW_e {n y p : Nat} {v w : Nat → Int32} {x : Int32} (hn : n ≤ 6) (hy : y < 8) (hx : who n x) (hp : p < n) (h : ∀ p, p < n → v p = addW w x y p) (hw : ∀ p, p < n → ∃ k, k < 2 ^ y ∧ w p = nI k) : backW v x y p = w p := by
  rcases hx with rfl | ⟨i, hi, rfl⟩
  · rw [backW, if_pos rfl, h p hp, addW, if_pos rfl]
  · rw [backW, if_neg (nm1 (by omega)), kno_n (by omega)]
    by_cases e : p = i
    · subst e
      obtain ⟨k, hk, ek⟩ := hw p hp
      rw [updS, h p hp, addW, if_neg (nm1 (by omega)), kno_n (by omega), updS, ek]
      exact andb y hy k hk
    · rw [updN e, h p hp, addW, if_neg (nm1 (by omega)), kno_n (by omega), updN e]
theorem backS_e {n p : Nat} {v w : Nat → Int32} {x : Int32} (hn : n ≤ 6) (hx : who n x) (hp : p < n) (h : ∀ p, p < n → v p = addS w x p) : backS v x p = w p := by
  rcases hx with rfl | ⟨i, hi, rfl⟩
  · rw [backS, if_pos rfl, h p hp, addS, if_pos rfl]
  · rw [backS, if_neg (nm1 (by omega)), kno_n (by omega)]
    by_cases e : p = i
    · subst e
      rw [updS, h p hp, addS, if_neg (nm1 (by omega)), kno_n (by omega), updS, Int32.add_sub_cancel]
    · rw [updN e, h p hp, addS, if_neg (nm1 (by omega)), kno_n (by omega), updN e]
theorem P_undo {σ : Sta} (h : Inv σ) : Pair X11_undo X12_undo σ := by
  obtain ⟨n, yr, u, nn, nb, hv⟩ := h.1
  have hn := hv.n6
  have huy := hv.uy
  have hy8 := hv.y8
  cases u with
  | zero =>
    refine pair_no h ?_ ?_
    · rw [X11_undo, fI_e, hv.s12, if_neg (by decide), cA_of (C_no σ)]
    · have hq : (noC σ).1 83 = σ.1 83 := up1_n (by decide)
      generalize noC σ = ρ at hq ⊢
      rw [X12_undo, aI3, hq, hv.N3, if_pos (show nI 0 = (0 : Int32) from rfl), cA_of (M_no ρ)]
  | succ u =>
    obtain ⟨y, ey, d1, d2, d3, d4, d5⟩ := hv.hi
    subst ey
    have w1 := hv.pe
    have hc := C_takeBack hv.s10 hn hv.s11 hv.s12 (by omega) (by omega) rfl rfl d2 d3
    have u83 : (up1 (up1 (up1 σ 1 (upd (upd (σ.1 1) 11 (nI y)) 12 (nI u))) 6 (backW (σ.1 6) (σ.1 8 y) y)) 7 (backS (σ.1 7) (σ.1 9 y))).1 83 = σ.1 83 := by rw [up1_n (by decide), up1_n (by decide), up1_n (by decide)]
    have s1 : (up1 (up1 (up1 σ 1 (upd (upd (σ.1 1) 11 (nI y)) 12 (nI u))) 6 (backW (σ.1 6) (σ.1 8 y) y)) 7 (backS (σ.1 7) (σ.1 9 y))).1 1 = upd (upd (σ.1 1) 11 (nI y)) 12 (nI u) := by rw [up1_n (by decide), up1_n (by decide), up1_s]
    have s6 : (up1 (up1 (up1 σ 1 (upd (upd (σ.1 1) 11 (nI y)) 12 (nI u))) 6 (backW (σ.1 6) (σ.1 8 y) y)) 7 (backS (σ.1 7) (σ.1 9 y))).1 6 = backW (σ.1 6) (σ.1 8 y) y := by rw [up1_n (by decide), up1_s]
    have s7 : (up1 (up1 (up1 σ 1 (upd (upd (σ.1 1) 11 (nI y)) 12 (nI u))) 6 (backW (σ.1 6) (σ.1 8 y) y)) 7 (backS (σ.1 7) (σ.1 9 y))).1 7 = backS (σ.1 7) (σ.1 9 y) := up1_s _ _ _
    have so : ∀ k, k ≠ 1 → k ≠ 6 → k ≠ 7 → (up1 (up1 (up1 σ 1 (upd (upd (σ.1 1) 11 (nI y)) 12 (nI u))) 6 (backW (σ.1 6) (σ.1 8 y) y)) 7 (backS (σ.1 7) (σ.1 9 y))).1 k = σ.1 k := fun k k1 k2 k3 => by rw [up1_n k3, up1_n k2, up1_n k1]
    have s2 : (up1 (up1 (up1 σ 1 (upd (upd (σ.1 1) 11 (nI y)) 12 (nI u))) 6 (backW (σ.1 6) (σ.1 8 y) y)) 7 (backS (σ.1 7) (σ.1 9 y))).2 = σ.2 := rfl
    generalize up1 (up1 (up1 σ 1 (upd (upd (σ.1 1) 11 (nI y)) 12 (nI u))) 6 (backW (σ.1 6) (σ.1 8 y) y)) 7 (backS (σ.1 7) (σ.1 9 y)) = τ at *
    obtain ⟨N2, m1, m2, m3⟩ := M_undoL (σ := τ) (N := σ.1 83) (u := u) (by omega) 13 0 FU (upd (σ.1 83) 3 (nI u)) rfl (by decide) (updS _ _ _) (fun i hi => updN (by omega))
    have f4 : N2 4 = nI y := (m2 0 (by omega) (by omega)).trans d1
    rw [f4] at m1
    refine ⟨nI y, τ, up1 τ 83 N2, ?_, ?_, ?_⟩
    · rw [X11_undo, fI_e, hv.s12, if_pos (show (0 : Int32) < nI (u + 1) from nI_lt (a := 0) (by omega) (by omega)), cA_of hc, fI_e, s1, updN (by decide), updS]
    · rw [X12_undo, aI3, u83, hv.N3, if_neg (nI_ne0 (by omega) (by omega)), aI3, u83, hv.N3, nI_pred, sI3, u83]
      exact m1
    · refine h.n (FrN.tr (b := τ) ⟨fun k hk => so k (by unfold isN at hk; omega) (by unfold isN at hk; omega) (by unfold isN at hk; omega), s2⟩ (FrN.up (by unfold isN; omega))) ⟨n, y, u, nn, nb, ?_⟩
      rw [up1_s]
      have hS : ∀ k, k ≤ 13 → (up1 τ 83 N2).1 k = τ.1 k := fun k hk => up1_n (by omega)
      have n2o : ∀ j, j ≠ 3 → j < 4 ∨ 17 ≤ j → N2 j = σ.1 83 j := fun j j1 j2 => by rw [m3 j (by omega), updN j1]
      have wins : ∀ p, p < n → N2 (5 + p) = σ.1 83 (105 + 13 * u + (1 + p)) := fun p hp => by rw [show 5 + p = 4 + (1 + p) by omega, m2 (1 + p) (by omega) (by omega)]
      have secs : ∀ p, p < n → N2 (11 + p) = σ.1 83 (105 + 13 * u + (7 + p)) := fun p hp => by rw [show 11 + p = 4 + (7 + p) by omega, m2 (7 + p) (by omega) (by omega)]
      refine VR.mk ⟨hn, by omega, by omega, hv.nn6, hv.nb6⟩ ⟨?_, ?_, ?_, ?_, ?_⟩ ⟨?_, ?_, ?_, ?_, ?_⟩ ⟨fun p hp => ⟨?_, ?_, ?_, fun t ht => ?_⟩, fun p hp => ?_, fun p hp t ht => ?_, fun p hp => ?_⟩ (hv.gye.c (by rw [hS _ (by omega)]; exact so _ (by omega) (by omega) (by omega)) (by rw [hS _ (by omega)]; exact so _ (by omega) (by omega) (by omega)) (fun k k1 k2 => n2o k (by omega) (by omega))) (hv.gno.c hv.nn6 (by rw [hS _ (by omega)]; exact so _ (by omega) (by omega) (by omega)) (fun k k1 k2 => n2o k (by omega) (by omega))) (hv.gbe.c hv.nb6 (Nat.le_refl _) (by rw [hS _ (by omega)]; exact so _ (by omega) (by omega) (by omega)) (fun k k1 k2 => n2o k (by omega) (by omega))) ?_
      · rw [hS 1 (by omega), s1, updN (by decide), updN (by decide)]; exact hv.s10
      · rw [hS 1 (by omega), s1, updN (by decide), updS]
      · rw [hS 1 (by omega), s1, updS]
      · rw [hS (1 + 9) (by omega), so (1 + 9) (by omega) (by omega) (by omega)]; exact hv.sn
      · rw [hS (1 + 11) (by omega), so (1 + 11) (by omega) (by omega) (by omega)]; exact hv.sb
      · rw [n2o 0 (by omega) (by omega)]; exact hv.N0
      · rw [n2o 1 (by omega) (by omega)]; exact hv.N1
      · rw [n2o 2 (by omega) (by omega)]; exact hv.N2
      · rw [m3 3 (by omega), updS]
      · exact f4
      · rw [hS (1 + 3) (by omega), so (1 + 3) (by omega) (by omega) (by omega), n2o _ (by omega) (by omega)]; exact (hv.pe p hp).1
      · rw [hS (1 + 5) (by omega), show 1 + 5 = 6 from rfl, s6, wins p hp]
        refine backW_e (w := fun p => σ.1 83 (105 + 13 * u + (1 + p))) hn (by omega) d2 hp (fun p hp => ?_) (fun p hp => (d4 p hp).2.2)
        rw [show σ.1 6 p = σ.1 83 (5 + p) from (hv.pe p hp).2.1, show 5 + p = 4 + (1 + p) by omega]
        exact (d4 p hp).1
      · rw [hS (1 + 6) (by omega), show 1 + 6 = 7 from rfl, s7, secs p hp]
        refine backS_e (w := fun p => σ.1 83 (105 + 13 * u + (7 + p))) hn d3 hp (fun p hp => ?_)
        rw [show σ.1 7 p = σ.1 83 (11 + p) from (hv.pe p hp).2.2.1, show 11 + p = 4 + (7 + p) by omega]
        exact (d4 p hp).2.1
      · rw [hS (1 + 4) (by omega), so (1 + 4) (by omega) (by omega) (by omega), n2o _ (by omega) (by omega)]; exact (hv.pe p hp).2.2.2 t ht
      · rw [n2o _ (by omega) (by omega)]; exact hv.kd p hp
      · rw [n2o _ (by omega) (by omega)]; exact hv.ar p hp t ht
      · rw [wins p hp]; exact (d4 p hp).2.2
      · rw [hS (1 + 7) (by omega), hS (1 + 8) (by omega), so (1 + 7) (by omega) (by omega) (by omega), so (1 + 8) (by omega) (by omega) (by omega)]
        exact Hist_c hn u y (105 + 13 * u) 4 d5 (fun k k1 k2 => n2o k (by omega) (by omega)) (fun i hi => m2 i hi (by omega)) (fun y hy => ⟨rfl, rfl⟩)

