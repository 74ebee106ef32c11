/-! PURE HALF 22: the law -/
def Ok1 (o : Option (Int32 × Sta)) : Prop := ∃ s9, o = some (1, s9)
theorem st1 {f g : Sta → Option (Int32 × Sta)} {σ : Sta} {K : Sta → Option (Int32 × Sta)} (h : Pair f g σ) (hK : ∀ τ, Inv τ → Ok1 (K τ)) : Ok1 (cA (f σ) (fun q s => cA (g s) (fun q' s' => if q = q' then K s' else some (0, s')))) := by
  obtain ⟨a, τ, τ', h1, h2, h3⟩ := h
  rw [cA_of h1, cA_of h2, if_pos rfl]
  exact hK τ' h3
theorem st2 {f g : Sta → Option (Int64 × Sta)} {σ : Sta} {K : Sta → Option (Int32 × Sta)} (h : Pair f g σ) (hK : ∀ τ, Inv τ → Ok1 (K τ)) : Ok1 (cA (f σ) (fun q s => cA (g s) (fun q' s' => if (lg_cmp q q') = 0 then K s' else some (0, s')))) := by
  obtain ⟨a, τ, τ', h1, h2, h3⟩ := h
  rw [cA_of h1, cA_of h2, if_pos ((lg_cmp_eq a a).mpr rfl)]
  exact hK τ' h3
theorem tsw_c {x k : Int32} {o : Option (Int32 × Sta)} {r : List (Int32 × Option (Int32 × Sta))} {d : Option (Int32 × Sta)} (h1 : Ok1 o) (h2 : Ok1 (tsw' x r d)) : Ok1 (tsw' x ((k, o) :: r) d) := by
  rw [tsw']
  by_cases c : x = k
  · rw [if_pos c]; exact h1
  · rw [if_neg c]; exact h2
theorem tsw_n {x : Int32} {d : Option (Int32 × Sta)} (h : Ok1 d) : Ok1 (tsw' x [] d) := h
theorem law_end {L i : Nat} (hL : L ≤ 2560) (hi : i < 5000) : (Int32.ofNat L - (5 : Int32) < nI i) ↔ L < i + 5 := by
  have h5 : (5 : Int32) = nI 5 := rfl
  rw [show Int32.ofNat L = nI L from rfl]
  by_cases c : 5 ≤ L
  · rw [h5, pk_sub c, ilt, nIt (by omega), nIt (by omega)]
    omega
  · have e : ∀ L, L < 5 → (nI L - 5).toInt = (L : Int) - 5 := by decide +kernel
    rw [ilt, e L (by omega), nIt (by omega)]
    omega
theorem aX_n {β : Type} {xs : Nat → Int32} {L j : Nat} (hL : L ≤ 2560) (h : j < L) (K : Int32 → Option β) : aX xs L (nI j) K = K (xs j) := by
  rw [aX, if_neg (vp_in_nI h (by omega)), nI_clamp (by omega)]
set_option maxRecDepth 8000 in
set_option maxHeartbeats 4000000 in
theorem law_loop (xs : Nat → Int32) {L : Nat} (hL : L ≤ 2560) : ∀ (d i fu : Nat) (σ : Sta), L ≤ i + 5 * d → i < 5000 → d < fu → Inv σ → Ok1 (L_law_L18 xs L fu (nI i) σ)
  | d, i, 0, σ, _, _, h, _ => by omega
  | d, i, fu + 1, σ, hd, hi, hf, h => by
    rw [L_law_L18]
    by_cases c : L < i + 5
    · rw [if_pos ((law_end hL hi).mpr c)]
      exact ⟨σ, rfl⟩
    · rw [if_neg (fun e => c ((law_end hL hi).mp e))]
      obtain ⟨d', rfl⟩ : ∃ k, d = k + 1 := ⟨d - 1, by omega⟩
      have ih : ∀ τ, Inv τ → Ok1 (L_law_L18 xs L fu (nI i + 5) τ) := fun τ hτ => by
        rw [show nI i + 5 = nI (i + 5) from nI_add i 5]
        exact law_loop xs hL d' (i + 5) fu τ (by omega) (by omega) (by omega) hτ
      have a1 : ∀ K : Int32 → Option (Int32 × Sta), aX xs L (nI i + 1) K = K (xs (i + 1)) := fun K => by
        rw [show nI i + 1 = nI (i + 1) from nI_add i 1]; exact aX_n hL (by omega) K
      have a2 : ∀ K : Int32 → Option (Int32 × Sta), aX xs L (nI i + 2) K = K (xs (i + 2)) := fun K => by
        rw [show nI i + 2 = nI (i + 2) from nI_add i 2]; exact aX_n hL (by omega) K
      have a3 : ∀ K : Int32 → Option (Int32 × Sta), aX xs L (nI i + 3) K = K (xs (i + 3)) := fun K => by
        rw [show nI i + 3 = nI (i + 3) from nI_add i 3]; exact aX_n hL (by omega) K
      have a4 : ∀ K : Int32 → Option (Int32 × Sta), aX xs L (nI i + 4) K = K (xs (i + 4)) := fun K => by
        rw [show nI i + 4 = nI (i + 4) from nI_add i 4]; exact aX_n hL (by omega) K
      rw [aX_n hL (show i < L by omega)]
      simp only [a1, a2, a3, a4]
      refine tsw_c (st1 (K := L_law_L18 xs L fu (nI i + 5)) (P_valley h) ih) ?_
      refine tsw_c (st1 (K := L_law_L18 xs L fu (nI i + 5)) (P_prize h _ _ _) ih) ?_
      refine tsw_c (st1 (K := L_law_L18 xs L fu (nI i + 5)) (P_one h _ _ _ _) ih) ?_
      refine tsw_c (st1 (K := L_law_L18 xs L fu (nI i + 5)) (P_type h _) ih) ?_
      refine tsw_c (st1 (K := L_law_L18 xs L fu (nI i + 5)) (P_clear h) ih) ?_
      refine tsw_c (st1 (K := L_law_L18 xs L fu (nI i + 5)) (P_read h) ih) ?_
      refine tsw_c (st1 (K := L_law_L18 xs L fu (nI i + 5)) (P_year h) ih) ?_
      refine tsw_c (st1 (K := L_law_L18 xs L fu (nI i + 5)) (P_undo h) ih) ?_
      refine tsw_c (st1 (K := L_law_L18 xs L fu (nI i + 5)) (P_of h _ _) ih) ?_
      refine tsw_c (st1 (K := L_law_L18 xs L fu (nI i + 5)) (P_about h _ _) ih) ?_
      refine tsw_c (st1 (K := L_law_L18 xs L fu (nI i + 5)) (P_good h _ _ _) ih) ?_
      refine tsw_c (st1 (K := L_law_L18 xs L fu (nI i + 5)) (P_enter h _) ih) ?_
      refine tsw_c (st1 (K := L_law_L18 xs L fu (nI i + 5)) (P_winner h _ _) ih) ?_
      refine tsw_c (st1 (K := L_law_L18 xs L fu (nI i + 5)) (P_end h _ _) ih) ?_
      refine tsw_c (st1 (K := L_law_L18 xs L fu (nI i + 5)) (P_left h) ih) ?_
      refine tsw_c (st1 (K := L_law_L18 xs L fu (nI i + 5)) (P_best h _ _) ih) ?_
      refine tsw_c (st1 (K := L_law_L18 xs L fu (nI i + 5)) (P_rivals h _ _ _) ih) ?_
      refine tsw_c (st1 (K := L_law_L18 xs L fu (nI i + 5)) (P_handicap h _) ih) ?_
      refine tsw_c (st1 (K := L_law_L18 xs L fu (nI i + 5)) (P_order h _) ih) ?_
      refine tsw_c (st1 (K := L_law_L18 xs L fu (nI i + 5)) (P_note h _ _ _ _) ih) ?_
      refine tsw_c (st1 (K := L_law_L18 xs L fu (nI i + 5)) (P_beaten h _ _ _ _) ih) ?_
      refine tsw_c (st1 (K := L_law_L18 xs L fu (nI i + 5)) (P_forget h _) ih) ?_
      refine tsw_c (st1 (K := L_law_L18 xs L fu (nI i + 5)) (P_is h _) ih) ?_
      refine tsw_c (st1 (K := L_law_L18 xs L fu (nI i + 5)) (P_offer h _) ih) ?_
      refine tsw_c (st1 (K := L_law_L18 xs L fu (nI i + 5)) (P_may h _ _) ih) ?_
      refine tsw_c (st1 (K := L_law_L18 xs L fu (nI i + 5)) (P_clash h) ih) ?_
      refine tsw_c (st1 (K := L_law_L18 xs L fu (nI i + 5)) (P_odds h _ _) ih) ?_
      refine tsw_c (st1 (K := L_law_L18 xs L fu (nI i + 5)) (P_valleys h _ _) ih) ?_
      refine tsw_c (st2 (K := L_law_L18 xs L fu (nI i + 5)) (P_part h _) ih) ?_
      refine tsw_c (st1 (K := L_law_L18 xs L fu (nI i + 5)) (P_image h _) ih) ?_
      refine tsw_c (st1 (K := L_law_L18 xs L fu (nI i + 5)) (P_from h _) ih) ?_
      refine tsw_c (st1 (K := L_law_L18 xs L fu (nI i + 5)) (P_status h _) ih) ?_
      refine tsw_c (st1 (K := L_law_L18 xs L fu (nI i + 5)) (P_count h _) ih) ?_
      refine tsw_c (st2 (K := L_law_L18 xs L fu (nI i + 5)) (P_digest h) ih) ?_
      exact tsw_n (ih σ h)
termination_by structural _ _ fu => fu
theorem Inv_start {sV sC : Sta} {f : Nat → Int32} (c2 : sV.1 0 10 = 0 ∧ sV.1 0 11 = 0 ∧ sV.1 0 12 = 0 ∧ sV.1 (0 + 9) 1 = 0 ∧ sV.1 (0 + 11) 1 = 0) (c3 : ∀ y, y < 8 → sV.1 (0 + 1) y = -1 ∧ sV.1 (0 + 2) y = 0) : Inv (iSt sV sC (up1 mst 1 (beg f))) := by
  have e : ∀ i, i < 13 → (iSt sV sC (up1 mst 1 (beg f))).1 (1 + i) = sV.1 (0 + i) := fun i hi => by
    show (if 1 + i = 0 then _ else if 1 + i < 14 then sV.1 (1 + i - 1) else _) = _
    rw [if_neg (by omega), if_pos (by omega), show 1 + i - 1 = 0 + i by omega]
  have e0 : (iSt sV sC (up1 mst 1 (beg f))).1 1 = sV.1 0 := e 0 (by decide)
  have e83 : (iSt sV sC (up1 mst 1 (beg f))).1 83 = beg f := by
    have q : (iSt sV sC (up1 mst 1 (beg f))).1 83 = (up1 mst 1 (beg f)).1 1 := by simp [iSt]
    rw [q, up1_s]
  have z : ∀ k, k = 0 ∨ k = 28 ∨ k = 80 ∨ k = 82 ∨ k = 85 ∨ k = 86 → ∀ j, (iSt sV sC (up1 mst 1 (beg f))).1 k j = 0 := fun k hk j => by
    rcases hk with rfl | rfl | rfl | rfl | rfl | rfl
    · simp [iSt]
    · simp [iSt]
    · simp [iSt]
    · have q : (iSt sV sC (up1 mst 1 (beg f))).1 82 = (up1 mst 1 (beg f)).1 0 := by simp [iSt]
      rw [q, up1_n (by decide)]; rfl
    · have q : (iSt sV sC (up1 mst 1 (beg f))).1 85 = (up1 mst 1 (beg f)).1 3 := by simp [iSt]
      rw [q, up1_n (by decide)]; rfl
    · have q : (iSt sV sC (up1 mst 1 (beg f))).1 86 = (up1 mst 1 (beg f)).1 4 := by simp [iSt]
      rw [q, up1_n (by decide)]; rfl
  have l1 : ∀ j, (iSt sV sC (up1 mst 1 (beg f))).2 0 j = if j = 8 then 1 else 0 := fun j => by simp [iSt]
  have l2 : ∀ j, (iSt sV sC (up1 mst 1 (beg f))).2 82 j = if 0 = 0 ∧ j = 5 then 1 else 0 := fun j => by
    have q : (iSt sV sC (up1 mst 1 (beg f))).2 82 = (up1 mst 1 (beg f)).2 0 := by simp [iSt]
    rw [q]; rfl
  generalize iSt sV sC (up1 mst 1 (beg f)) = σ at *
  refine ⟨⟨0, 0, 0, 0, 0, ?_⟩, fun i hi => Or.inl ⟨z 28 (by omega) i, z 85 (by omega) i⟩, fun i hi => ?_, ⟨?_, ?_⟩, ⟨0, by omega, z 80 (by omega) 1, z 82 (by omega) 14, fun j hj => by omega⟩⟩
  · rw [e83]
    refine VR.zero ?_ (beg0 f).1 (fun y hy => ?_) (beg0 f).2
    · rw [e0, e 9 (by decide), e 11 (by decide)]; exact c2
    · rw [e 1 (by decide), e 2 (by decide)]; exact c3 y hy
  · rw [z 0 (by omega), z 86 (by omega)]
  · rw [l1, l2]; rfl
  · rw [l1, l2]; rfl
theorem pure_law (xs : Nat → Int32) (L : Nat) (hL : L ≤ 2560) : ∃ sV sC sM s9 : Sta, X10_empty 0 zst = some ((), sV) ∧ X0_allByKind 0 zst = some ((), sC) ∧ X12_begin 209 1 mst = some ((), sM) ∧ L_law_L18 xs L FL 0 (iSt sV sC sM) = some (1, s9) := by
  obtain ⟨sV, c1, c2, c3, c4, c5⟩ := C_empty 0 zst
  obtain ⟨s9, h9⟩ := law_loop xs hL 512 0 FL (iSt sV (up1 zst (0 + 2) (fun j => if j < 6 then -1 else zst.1 (0 + 2) j)) (up1 mst 1 (beg (mst.1 1)))) (by omega) (by omega) (by decide) (Inv_start c2 c3)
  exact ⟨sV, _, _, s9, c1, allByKind_e 0 zst, M_begin (by decide) (by decide) mst, h9⟩
