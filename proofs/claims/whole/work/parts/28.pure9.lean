/-! PURE HALF 9: ranges of arguments; what is refused -/
def inB (x a b : Int32) : Bool := !(decide (x < a)) && !(decide (b < x))
theorem within_b (x a b : Int32) (s : Sta) : X11_within x a b s = some (bi (inB x a b), s) := by
  by_cases h1 : x < a <;> by_cases h2 : b < x <;> simp [X11_within, inB, bi, rZ, h1, h2]
theorem in_b (x a b : Int32) (s : Sta) : X12_in x.toInt64 a.toInt64 b.toInt64 s = some (bi (inB x a b), s) := by rw [in_within, within_b]
theorem in_01 (x : Int32) (s : Sta) : X12_in x.toInt64 (0 : Int64) (1 : Int64) s = some (bi (inB x 0 1), s) := in_b x 0 1 s
theorem in_02 (x : Int32) (s : Sta) : X12_in x.toInt64 (0 : Int64) (2 : Int64) s = some (bi (inB x 0 2), s) := in_b x 0 2 s
theorem in_05 (x : Int32) (s : Sta) : X12_in x.toInt64 (0 : Int64) (5 : Int64) s = some (bi (inB x 0 5), s) := in_b x 0 5 s
theorem in_06 (x : Int32) (s : Sta) : X12_in x.toInt64 (0 : Int64) (6 : Int64) s = some (bi (inB x 0 6), s) := in_b x 0 6 s
theorem in_07 (x : Int32) (s : Sta) : X12_in x.toInt64 (0 : Int64) (7 : Int64) s = some (bi (inB x 0 7), s) := in_b x 0 7 s
theorem in_09 (x : Int32) (s : Sta) : X12_in x.toInt64 (0 : Int64) (9 : Int64) s = some (bi (inB x 0 9), s) := in_b x 0 9 s
theorem in_30 (x : Int32) (s : Sta) : X12_in x.toInt64 (1 : Int64) (30 : Int64) s = some (bi (inB x 1 30), s) := in_b x 1 30 s
theorem in_60 (x : Int32) (s : Sta) : X12_in x.toInt64 (0 : Int64) (60 : Int64) s = some (bi (inB x 0 60), s) := in_b x 0 60 s
theorem in_99 (x : Int32) (s : Sta) : X12_in x.toInt64 (0 : Int64) (999999 : Int64) s = some (bi (inB x 0 999999), s) := in_b x 0 999999 s
theorem in_12 (x : Int32) (s : Sta) : X12_in x.toInt64 (0 : Int64) (127 : Int64) s = some (bi (inB x 0 127), s) := in_b x 0 127 s
theorem M_isYear_b (x : Int32) (s : Sta) : X12_isYear x s = some (bi (inB x 0 7), s) := by rw [X12_isYear, in_07, cA_e, rZ_b]
theorem M_isSort_b (x : Int32) (s : Sta) : X12_isSort x s = some (bi (inB x 0 2), s) := by rw [X12_isSort, in_02, cA_e, rZ_b]
theorem C_isArt_b (x : Int32) (s : Sta) : X11_isArt x s = some (bi (inB x 0 9), s) := by rw [X11_isArt, within_b, cA_e, rZ_b]
theorem C_isOne_b {n : Nat} {σ : Sta} (h : σ.1 1 10 = nI n) (x : Int32) : X11_isOne x σ = some (bi (inB x 0 (nI n - 1)), σ) := by rw [X11_isOne, fI_e, h, within_b, cA_e, rZ_b]
theorem M_isOne_b {n : Nat} {σ : Sta} (h : σ.1 83 0 = nI n) (x : Int32) : X12_isOne x σ = some (bi (inB x 0 (nI n - 1)), σ) := by
  have e := in_b x 0 (nI n - 1) σ
  rw [X12_isOne, cA_of (M_many σ), h]
  show cA (X12_in x.toInt64 ((0 : Int32).toInt64) ((nI n - 1).toInt64) σ) _ = _
  rw [e, cA_e, rZ_b]
theorem C_toCome_b {y : Nat} {σ : Sta} (h : σ.1 1 11 = nI y) (x : Int32) : X11_isToCome x σ = some (bi (inB x (nI y) 7), σ) := by rw [X11_isToCome, fI_e, h, within_b, cA_e, rZ_b]
theorem aI4 {β : Type} {σ : Sta} {K : Int32 → Option β} : aI σ 83 209 (4 : Int32) K = K (σ.1 83 4) := aI_n 4 (by decide)
theorem aI1 {β : Type} {σ : Sta} {K : Int32 → Option β} : aI σ 83 209 (1 : Int32) K = K (σ.1 83 1) := aI_n 1 (by decide)
theorem aI2 {β : Type} {σ : Sta} {K : Int32 → Option β} : aI σ 83 209 (2 : Int32) K = K (σ.1 83 2) := aI_n 2 (by decide)
theorem aI3 {β : Type} {σ : Sta} {K : Int32 → Option β} : aI σ 83 209 (3 : Int32) K = K (σ.1 83 3) := aI_n 3 (by decide)
theorem M_toCome_b {y : Nat} {σ : Sta} (h : σ.1 83 4 = nI y) (x : Int32) : X12_isToCome x σ = some (bi (inB x (nI y) 7), σ) := by
  rw [X12_isToCome, aI4, h]
  show cA (X12_in x.toInt64 (nI y).toInt64 ((7 : Int32).toInt64) σ) _ = _
  rw [in_b, cA_e, rZ_b]
-- numbers out of ranges
theorem of_nn {x : Int32} (h : ¬ x < 0) : ∃ j, j < 2 ^ 31 ∧ x = nI j := by
  rw [ilt] at h
  have h0 : (0 : Int32).toInt = 0 := by decide
  have h1 := Int32.toInt_lt x
  refine ⟨x.toInt.toNat, by omega, Int32.toInt_inj.mp ?_⟩
  rw [nIt (by omega)]
  omega
theorem inB_n {x : Int32} {m : Nat} (hm : m < 2 ^ 31) (h : inB x 0 (nI m) = true) : ∃ j, j ≤ m ∧ x = nI j := by
  simp only [inB, Bool.and_eq_true, Bool.not_eq_true', decide_eq_false_iff_not] at h
  obtain ⟨j, h1, rfl⟩ := of_nn h.1
  refine ⟨j, ?_, rfl⟩
  have h2 := h.2
  rw [ilt, nIt h1, nIt hm] at h2
  omega
theorem inB_1 {x : Int32} {n : Nat} (hn : n ≤ 6) (h : inB x 0 (nI n - 1) = true) : ∃ j, j < n ∧ x = nI j := by
  cases n with
  | zero =>
    simp only [inB, Bool.and_eq_true, Bool.not_eq_true', decide_eq_false_iff_not] at h
    obtain ⟨h1, h2⟩ := h
    rw [ilt] at h1 h2
    have e0 : (0 : Int32).toInt = 0 := by decide
    have e1 : (nI 0 - 1).toInt = -1 := by decide
    omega
  | succ m =>
    rw [nI_pred] at h
    obtain ⟨j, h1, h2⟩ := inB_n (by omega) h
    exact ⟨j, by omega, h2⟩
theorem inB_t {x : Int32} {y : Nat} (hy : y ≤ 8) (h : inB x (nI y) 7 = true) : ∃ j, y ≤ j ∧ j < 8 ∧ x = nI j := by
  simp only [inB, Bool.and_eq_true, Bool.not_eq_true', decide_eq_false_iff_not] at h
  have h0 : ¬ x < 0 := by
    have h1 := h.1
    rw [ilt, nIt (by omega)] at h1
    rw [ilt]
    have e0 : (0 : Int32).toInt = 0 := by decide
    omega
  obtain ⟨j, h1, rfl⟩ := of_nn h0
  have h2 := h.1
  have h3 := h.2
  have e7 : (7 : Int32).toInt = 7 := by decide
  rw [ilt, nIt h1, nIt (by omega)] at h2
  rw [ilt, nIt h1, e7] at h3
  exact ⟨j, by omega, by omega, rfl⟩
theorem inB_30 {x : Int32} (h : inB x 1 30 = true) : ∃ j, 1 ≤ j ∧ j ≤ 30 ∧ x = nI j := by
  simp only [inB, Bool.and_eq_true, Bool.not_eq_true', decide_eq_false_iff_not] at h
  have e1 : (1 : Int32).toInt = 1 := by decide
  have e30 : (30 : Int32).toInt = 30 := by decide
  have e0 : (0 : Int32).toInt = 0 := by decide
  have h2 := h.1
  have h3 := h.2
  rw [ilt, e1] at h2
  obtain ⟨j, h1, rfl⟩ := of_nn (x := x) (by rw [ilt, e0]; omega)
  rw [nIt h1] at h2
  rw [ilt, nIt h1, e30] at h3
  exact ⟨j, by omega, by omega, rfl⟩
-- what is refused
def badC (σ : Sta) : Sta := up1 σ 0 (upd (σ.1 0) 9 (σ.1 0 9 + 1))
def noC (σ : Sta) : Sta := up1 σ 0 (upd (σ.1 0) 10 (σ.1 0 10 + 1))
def fullC (σ : Sta) : Sta := up1 σ 0 (upd (σ.1 0) 11 (σ.1 0 11 + 1))
def badM (σ : Sta) : Sta := up1 σ 86 (upd (σ.1 86) 0 (σ.1 86 0 + 1))
def noM (σ : Sta) : Sta := up1 σ 86 (upd (σ.1 86) 1 (σ.1 86 1 + 1))
def fullM (σ : Sta) : Sta := up1 σ 86 (upd (σ.1 86) 2 (σ.1 86 2 + 1))
theorem C_bad (σ : Sta) : X11_bad σ = some (-2, badC σ) := rfl
theorem C_no (σ : Sta) : X11_no σ = some (-3, noC σ) := rfl
theorem C_full (σ : Sta) : X11_full σ = some (-4, fullC σ) := rfl
theorem M_bad (v : Int32) (σ : Sta) : X12_bad v σ = some (v, badM σ) := by
  rw [X12_bad, show (0 : Int32) = nI 0 from rfl, aI_n 0 (by decide), sI_n 0 (by decide)]
  rfl
theorem M_no (σ : Sta) : X12_no σ = some (-3, noM σ) := by
  rw [X12_no, show (1 : Int32) = nI 1 from rfl, aI_n 1 (by decide), sI_n 1 (by decide)]
  rfl
theorem M_full (σ : Sta) : X12_full σ = some (-4, fullM σ) := by
  rw [X12_full, show (2 : Int32) = nI 2 from rfl, aI_n 2 (by decide), sI_n 2 (by decide)]
  rfl
theorem Inv_ref {σ : Sta} (h : Inv σ) {i : Nat} (hi : i < 3) : Inv (up1 (up1 σ 0 (upd (σ.1 0) (9 + i) (σ.1 0 (9 + i) + 1))) 86 (upd (σ.1 86) i (σ.1 86 i + 1))) := by
  obtain ⟨h1, h2, h3, h4, h5⟩ := h
  have q : ∀ k, k ≠ 0 → k ≠ 86 → (up1 (up1 σ 0 (upd (σ.1 0) (9 + i) (σ.1 0 (9 + i) + 1))) 86 (upd (σ.1 86) i (σ.1 86 i + 1))).1 k = σ.1 k := fun k k1 k2 => by rw [up1_n k2, up1_n k1]
  refine ⟨h1.c (fun k a b => q k (by omega) (by omega)) (q 83 (by decide) (by decide)), fun i hi => (h2 i hi).c hi (fun k a b => q k (by omega) (by omega)) (q 84 (by decide) (by decide)) (q 85 (by decide) (by decide)), ?_, h4, h5.c (by rw [q 80 (by decide) (by decide)]) (q 81 (by decide) (by decide)) (by rw [q 82 (by decide) (by decide)]) (q 94 (by decide) (by decide))⟩
  intro j hj
  rw [up1_n (show 0 ≠ 86 by decide), up1_s, up1_s]
  by_cases e : j = i
  · subst e; rw [updS, updS, h3 j hj]
  · rw [updN (by omega), updN e, h3 j hj]
def Pair {α : Type} (f g : Sta → Option (α × Sta)) (σ : Sta) : Prop := ∃ a τ τ', f σ = some (a, τ) ∧ g τ = some (a, τ') ∧ Inv τ'
theorem pair_bad {α : Type} {f g : Sta → Option (α × Sta)} {σ : Sta} {a : α} (h : Inv σ) (hf : f σ = some (a, badC σ)) (hg : g (badC σ) = some (a, badM (badC σ))) : Pair f g σ :=
  ⟨a, _, _, hf, hg, by
    have := Inv_ref h (i := 0) (by decide)
    unfold badM badC
    rw [up1_n (show 86 ≠ 0 by decide)]
    exact this⟩
theorem pair_no {f g : Sta → Option (Int32 × Sta)} {σ : Sta} (h : Inv σ) (hf : f σ = some (-3, noC σ)) (hg : g (noC σ) = some (-3, noM (noC σ))) : Pair f g σ :=
  ⟨_, _, _, hf, hg, by
    have := Inv_ref h (i := 1) (by decide)
    unfold noM noC
    rw [up1_n (show 86 ≠ 0 by decide)]
    exact this⟩
theorem pair_full {f g : Sta → Option (Int32 × Sta)} {σ : Sta} (h : Inv σ) (hf : f σ = some (-4, fullC σ)) (hg : g (fullC σ) = some (-4, fullM (fullC σ))) : Pair f g σ :=
  ⟨_, _, _, hf, hg, by
    have := Inv_ref h (i := 2) (by decide)
    unfold fullM fullC
    rw [up1_n (show 86 ≠ 0 by decide)]
    exact this⟩
theorem pair_q {α : Type} {f g : Sta → Option (α × Sta)} {σ : Sta} {a : α} (h : Inv σ) (hf : ∃ τ, f σ = some (a, τ) ∧ FrQ σ τ) (hg : ∀ τ, FrQ σ τ → ∃ τ', g τ = some (a, τ') ∧ FrQ τ τ') : Pair f g σ := by
  obtain ⟨τ, h1, h2⟩ := hf
  obtain ⟨τ', h3, h4⟩ := hg τ h2
  exact ⟨a, τ, τ', h1, h3, h.q (h2.tr h4)⟩
theorem badC_n {σ : Sta} {k : Nat} (h : k ≠ 0) : (badC σ).1 k = σ.1 k := up1_n h
theorem badC_83 (σ : Sta) (i : Nat) : (badC σ).1 83 i = σ.1 83 i := by rw [badC_n (by decide)]
