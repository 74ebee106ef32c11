/-! PURE HALF 13: how good one may be, clashes, the handicap -/
def gt (N : Nat → Int32) (k : Nat) (w one art : Int32) : Int32 := skillP (kno (N (17 + kno w))) (if w = one then art else N (23 + (3 * kno w + kno (N (81 + (4 * k + 2)))))) (N (81 + (4 * k + 3)))
def sb (N : Nat → Int32) (k : Nat) (one art : Int32) : Bool := decide (gt N k (N (81 + (4 * k + 1))) one art < gt N k (N (81 + 4 * k)) one art)
theorem aB0 {β : Type} {σ : Sta} {k : Nat} {K : Int32 → Option β} (h : k < 6) : aI σ 83 209 ((81 : Int32) + ((4 : Int32) * nI k)) K = K (σ.1 83 (81 + 4 * k)) := by rw [e81, aI_n _ (by omega)]
theorem aBc {β : Type} {σ : Sta} {k c : Nat} {K : Int32 → Option β} (h : k < 6) (hc : c < 4) : aI σ 83 209 (((81 : Int32) + ((4 : Int32) * nI k)) + nI c) K = K (σ.1 83 (81 + (4 * k + c))) := by rw [e81, e81c, aI_n _ (by omega)]
theorem aB1 {β : Type} {σ : Sta} {k : Nat} {K : Int32 → Option β} (h : k < 6) : aI σ 83 209 (((81 : Int32) + ((4 : Int32) * nI k)) + (1 : Int32)) K = K (σ.1 83 (81 + (4 * k + 1))) := aBc (c := 1) h (by decide)
theorem aB2 {β : Type} {σ : Sta} {k : Nat} {K : Int32 → Option β} (h : k < 6) : aI σ 83 209 (((81 : Int32) + ((4 : Int32) * nI k)) + (2 : Int32)) K = K (σ.1 83 (81 + (4 * k + 2))) := aBc (c := 2) h (by decide)
theorem aB3 {β : Type} {σ : Sta} {k : Nat} {K : Int32 → Option β} (h : k < 6) : aI σ 83 209 (((81 : Int32) + ((4 : Int32) * nI k)) + (3 : Int32)) K = K (σ.1 83 (81 + (4 * k + 3))) := aBc (c := 3) h (by decide)
theorem C_so {σ : Sta} {N : Nat → Int32} {n yr u nn nb : Nat} (hv : VR σ.1 1 N n yr u nn nb) {k : Nat} (hk : k < nb) (one art : Int32) : X0_isSoWith 55 1 (nI k) one art σ = some (bi (sb N k one art), σ) := by
  have h6 := hv.nb6
  have hn := hv.n6
  obtain ⟨i, j, t, y, hi, hj, ht, hy, e0, e1, e2, e3⟩ := hv.bb k hk
  have c0 := C_cell0 (σ := σ) (r := 1 + 11) hv.sb h6 hk
  have c1 := C_cell1 (σ := σ) (r := 1 + 11) hv.sb h6 hk
  have c2 := C_cell2 (σ := σ) (r := 1 + 11) hv.sb h6 hk
  have c3 := C_cell3 (σ := σ) (r := 1 + 11) hv.sb h6 hk
  rw [show σ.1 (1 + 11 + 1) (4 * k) = nI i from (hv.be (4 * k) (by omega)).trans e0] at c0
  rw [show σ.1 (1 + 11 + 1) (4 * k + 1) = nI j from (hv.be (4 * k + 1) (by omega)).trans e1] at c1
  rw [show σ.1 (1 + 11 + 1) (4 * k + 2) = nI t from (hv.be (4 * k + 2) (by omega)).trans e2] at c2
  rw [show σ.1 (1 + 11 + 1) (4 * k + 3) = nI y from (hv.be (4 * k + 3) (by omega)).trans e3] at c3
  obtain ⟨pi, -, -, ai⟩ := hv.pe i hi
  obtain ⟨pj, -, -, aj⟩ := hv.pe j hj
  obtain ⟨ki, hki, eki⟩ := hv.kd i hi
  obtain ⟨kj, hkj, ekj⟩ := hv.kd j hj
  have gi : gt N k (nI i) one art = skillP ki (if nI i = one then art else N (23 + (3 * i + t))) (nI y) := by
    rw [gt, kno_n (by omega), eki, kno_n (by omega), e2, kno_n (by omega), e3]
  have gj : gt N k (nI j) one art = skillP kj (if nI j = one then art else N (23 + (3 * j + t))) (nI y) := by
    rw [gt, kno_n (by omega), ekj, kno_n (by omega), e2, kno_n (by omega), e3]
  have l134 : ∀ a b : Int32, X0_isSoWith_L134 55 1 (nI i) (nI j) (nI y) a b σ = some (bi (decide (skillP kj b (nI y) < skillP ki a (nI y))), σ) := by
    intro a b
    rw [X0_isSoWith_L134, aI_n i (by omega), pi, eki, cA_of (C_skillBy hki _ _ _), aI_n j (by omega), pj, ekj, cA_of (C_skillBy hkj _ _ _)]
    by_cases c : skillP kj b (nI y) < skillP ki a (nI y)
    · rw [if_pos c, decide_eq_true c]; rfl
    · rw [if_neg c, decide_eq_false c]; rfl
  have l109 : ∀ a : Int32, X0_isSoWith_L109 55 1 one art (nI i) (nI j) (nI t) (nI y) a σ = some (bi (decide (gt N k (nI j) one art < skillP ki a (nI y))), σ) := by
    intro a
    rw [X0_isSoWith_L109, gj]
    by_cases c : nI j = one
    · rw [if_pos c, if_pos c]; exact l134 a art
    · rw [if_neg c, if_neg c, m3, aI_n _ (by omega), aj t ht]; exact l134 a _
  rw [X0_isSoWith, cA_of c0, cA_of c1, cA_of c2, cA_of c3, fI_e, hv.s10, cA_of (within_ct hi (by omega)), if_neg n10, fI_e, hv.s10, cA_of (within_ct hj (by omega)), if_neg n10, cA_of (within2 ht), if_neg n10, sb, e0, e1]
  by_cases c : nI i = one
  · rw [if_pos c, l109, gi, if_pos c]
  · rw [if_neg c, m3, aI_n _ (by omega), ai t ht, l109, gi, if_neg c]
theorem M_then {σ : Sta} {S : Nat → Nat → Int32} {r n yr u nn nb : Nat} (hv : VR S r (σ.1 83) n yr u nn nb) {k : Nat} (hk : k < nb) {i : Nat} (hi : i < n) (one : Int32) {a : Nat} (ha : a < 10) : X12_goodThen (nI k) (nI i) one (nI a) σ = some (gt (σ.1 83) k (nI i) one (nI a), σ) := by
  have h6 := hv.nb6
  have hn := hv.n6
  obtain ⟨_, _, t, y, _, _, ht, hy, _, _, e2, e3⟩ := hv.bb k hk
  obtain ⟨ki, hki, eki⟩ := hv.kd i hi
  rw [X12_goodThen, aB2 (by omega), aB3 (by omega), e2, e3, gt, kno_n (by omega), eki, kno_n (by omega), e2, e3, kno_n (by omega)]
  by_cases c : nI i = one
  · rw [if_pos c, if_pos c, a17, aI_n _ (by omega), eki, cA_of (M_goodAs hki ha hy σ)]
  · rw [if_neg c, if_neg c, cA_of (hv.mgood hi ht hy)]
    have : kM (σ.1 83) i = nI ki := eki
    rw [this, kno_n (by omega)]
    rfl
theorem M_so {σ : Sta} {S : Nat → Nat → Int32} {r n yr u nn nb : Nat} (hv : VR S r (σ.1 83) n yr u nn nb) {k : Nat} (hk : k < nb) (one : Int32) {a : Nat} (ha : a < 10) : X12_isBeaten (nI k) one (nI a) σ = some (bi (sb (σ.1 83) k one (nI a)), σ) := by
  have h6 := hv.nb6
  obtain ⟨i, j, _, _, hi, hj, _, _, e0, e1, _, _⟩ := hv.bb k hk
  rw [X12_isBeaten, aB0 (by omega), e0, cA_of (M_then hv hk hi one ha), aB1 (by omega), e1, cA_of (M_then hv hk hj one ha), sb, e0, e1]
  by_cases c : gt (σ.1 83) k (nI j) one (nI a) < gt (σ.1 83) k (nI i) one (nI a)
  · rw [if_pos c, decide_eq_true c]; rfl
  · rw [if_neg c, decide_eq_false c]; rfl
-- clash
def cl (f : Nat → Bool) : Nat → Int32
  | 0 => 0
  | k + 1 => if f k then cl f k else cl f k + 1
theorem C_clashL {σ : Sta} {N : Nat → Int32} {n yr u nn nb : Nat} (hv : VR σ.1 1 N n yr u nn nb) : ∀ (d k fu : Nat), k + d = nb → d < fu → X11_clash_L4 fu (cl (fun k => sb N k (-1) 0) k) (nI k) σ = some (cl (fun k => sb N k (-1) 0) nb, σ)
  | d, k, 0, _, h => by omega
  | 0, k, fu + 1, hk, _ => by
    have h6 := hv.nb6
    have e : k = nb := by omega
    subst e
    rw [X11_clash_L4, fI_e, hv.sb, if_neg (nI_nlt (Nat.le_refl _) (by omega))]
  | d + 1, k, fu + 1, hk, hf => by
    have h6 := hv.nb6
    have ih := C_clashL hv d (k + 1) fu (by omega) (by omega)
    have hs : X0_isSo 55 1 (nI k) σ = some (bi (sb N k (-1) 0), σ) := by rw [X0_isSo, cA_of (C_so hv (by omega) _ _), rZ_b]
    rw [X11_clash_L4, fI_e, hv.sb, if_pos (nI_lt (by omega) (by omega)), cA_of hs, bi_if, nI_1]
    rw [cl] at ih
    cases q : sb N k (-1) 0 with
    | true =>
      simp only [q, if_true] at ih ⊢
      exact ih
    | false =>
      simp only [q, Bool.false_eq_true, if_false] at ih ⊢
      exact ih
theorem M_clashL {σ : Sta} {S : Nat → Nat → Int32} {r n yr u nn nb : Nat} (hv : VR S r (σ.1 83) n yr u nn nb) : ∀ (d k fu : Nat), k + d = nb → d < fu → X12_clash_L4 fu (cl (fun k => sb (σ.1 83) k (-1) 0) k) (nI k) σ = some (cl (fun k => sb (σ.1 83) k (-1) 0) nb, σ)
  | d, k, 0, _, h => by omega
  | 0, k, fu + 1, hk, _ => by
    have h6 := hv.nb6
    have e : k = nb := by omega
    subst e
    rw [X12_clash_L4, aI2, hv.N2, if_neg (nI_nlt (Nat.le_refl _) (by omega))]
  | d + 1, k, fu + 1, hk, hf => by
    have h6 := hv.nb6
    have ih := M_clashL hv d (k + 1) fu (by omega) (by omega)
    rw [X12_clash_L4, aI2, hv.N2, if_pos (nI_lt (by omega) (by omega)), cA_of (show X12_isBeaten (nI k) (-1) 0 σ = some (bi (sb (σ.1 83) k (-1) 0), σ) from M_so hv (by omega) (-1) (a := 0) (by decide)), bi_if, nI_1, Int32.add_zero]
    rw [cl] at ih
    cases q : sb (σ.1 83) k (-1) 0 with
    | true =>
      simp only [q, if_true] at ih ⊢
      exact ih
    | false =>
      simp only [q, Bool.false_eq_true, if_false] at ih ⊢
      exact ih
theorem P_clash {σ : Sta} (h : Inv σ) : Pair X11_clash X12_clash σ := by
  obtain ⟨n, yr, u, nn, nb, hv⟩ := h.1
  have h6 := hv.nb6
  refine pair_q h (a := cl (fun k => sb (σ.1 83) k (-1) 0) nb) ⟨σ, ?_, FrQ.rf σ⟩ (fun τ hτ => ⟨τ, ?_, FrQ.rf τ⟩)
  · exact C_clashL hv nb 0 FU (by omega) (by show nb < 300; omega)
  · have t83 : τ.1 83 = σ.1 83 := hτ.at (by unfold isQ; omega)
    have tv : VR σ.1 1 (τ.1 83) n yr u nn nb := by rw [t83]; exact hv
    have := M_clashL tv nb 0 FU (by omega) (by show nb < 300; omega)
    rw [t83] at this
    exact this
