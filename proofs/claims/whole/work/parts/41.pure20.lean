/-! PURE HALF 20: the text's tokens -/
def tkS (x : Int32) : Bool := decide (x = 32)
def tkL (x : Int32) : Bool := inB x 97 122
def tkF (x : Int32) : Bool := inB x 48 57
def tk_r (pf : Int32 → Bool) (B : Nat → Int32) : Nat → Nat → Nat
  | 0, i => i
  | d + 1, i => if pf (B i) then tk_r pf B d (i + 1) else i
theorem tk_rb (pf : Int32 → Bool) (B : Nat → Int32) : ∀ (d i : Nat), i ≤ tk_r pf B d i ∧ tk_r pf B d i ≤ i + d
  | 0, i => ⟨Nat.le_refl _, Nat.le_refl _⟩
  | d + 1, i => by
    have h := tk_rb pf B d (i + 1)
    rw [tk_r]
    by_cases c : pf (B i) = true
    · rw [if_pos c]; omega
    · rw [if_neg c]; omega
theorem tk_r1 {pf : Int32 → Bool} {B : Nat → Int32} {L s : Nat} (hs : s < L) (c : pf (B s) = true) : tk_r pf B (L - s) s = tk_r pf B (L - (s + 1)) (s + 1) := by
  obtain ⟨d, hd⟩ : ∃ d, L - s = d + 1 := ⟨L - s - 1, by omega⟩
  rw [hd, tk_r, if_pos c, show L - (s + 1) = d by omega]
def tk_n (B : Nat → Int32) (s : Nat) : Nat → Int32
  | 0 => 0
  | k + 1 => (10 * tk_n B s k + B (s + k)) - 48
def tk_B (B : Nat → Int32) (L e : Nat) : Nat := tk_r tkS B (L - e) e
def tk_E (B : Nat → Int32) (L s : Nat) : Nat := if s = L then s else if tkL (B s) then tk_r tkL B (L - s) s else if tkF (B s) then tk_r tkF B (L - s) s else s + 1
def tk_K (B : Nat → Int32) (L s : Nat) : Int32 := if s = L then 0 else if tkL (B s) then 1 else if tkF (B s) then (if tk_E B L s - s ≤ 2 then 2 else 4) else if B s = 59 then 3 else 4
def tk_V (B : Nat → Int32) (L s : Nat) : Int32 := tk_n B s (min (tk_E B L s - s) 2)
theorem tk_Bb {B : Nat → Int32} {L e : Nat} (h : e ≤ L) : e ≤ tk_B B L e ∧ tk_B B L e ≤ L := by
  have := tk_rb tkS B (L - e) e
  unfold tk_B
  omega
theorem tk_Eb {B : Nat → Int32} {L s : Nat} (h : s ≤ L) : s ≤ tk_E B L s ∧ tk_E B L s ≤ L := by
  unfold tk_E
  by_cases c : s = L
  · rw [if_pos c]; omega
  · rw [if_neg c]
    have h1 := tk_rb tkL B (L - s) s
    have h2 := tk_rb tkF B (L - s) s
    by_cases c1 : tkL (B s) = true
    · rw [if_pos c1]; omega
    · rw [if_neg c1]
      by_cases c2 : tkF (B s) = true
      · rw [if_pos c2]; omega
      · rw [if_neg c2]; omega
theorem tk_Es {B : Nat → Int32} {L s : Nat} (h : s < L) : s < tk_E B L s := by
  unfold tk_E
  rw [if_neg (by omega)]
  by_cases c1 : tkL (B s) = true
  · rw [if_pos c1, tk_r1 h c1]
    have := tk_rb tkL B (L - (s + 1)) (s + 1)
    omega
  · rw [if_neg c1]
    by_cases c2 : tkF (B s) = true
    · rw [if_pos c2, tk_r1 h c2]
      have := tk_rb tkF B (L - (s + 1)) (s + 1)
      omega
    · rw [if_neg c2]; omega
theorem tk_ui (f : Nat → Int32) (k : Nat) : upd f k (f k) = f := by
  funext j
  by_cases e : j = k
  · rw [e, updS]
  · rw [updN e]
theorem tk_uu (f : Nat → Int32) (k : Nat) (a b : Int32) : upd (upd f k a) k b = upd f k b := by
  funext j
  by_cases e : j = k
  · rw [e, updS, updS]
  · rw [updN e, updN e, updN e]
theorem C_isL (x : Int32) (s : Sta) : X8_isLetter x s = some (bi (tkL x), s) := by
  by_cases h1 : x < 97 <;> by_cases h2 : 122 < x <;> simp [X8_isLetter, tkL, inB, bi, rZ, h1, h2]
theorem C_isF (x : Int32) (s : Sta) : X8_isFigure x s = some (bi (tkF x), s) := by
  by_cases h1 : x < 48 <;> by_cases h2 : 57 < x <;> simp [X8_isFigure, tkF, inB, bi, rZ, h1, h2]
theorem M_isL (x : Int32) (s : Sta) : X12_isSmall x s = some (bi (tkL x), s) := by
  rw [X12_isSmall, show X12_in x.toInt64 (97 : Int64) (122 : Int64) s = some (bi (inB x 97 122), s) from in_b x 97 122 s, cA_e, rZ_b]
  rfl
theorem M_isF (x : Int32) (s : Sta) : X12_isFigure x s = some (bi (tkF x), s) := by
  rw [X12_isFigure, show X12_in x.toInt64 (48 : Int64) (57 : Int64) s = some (bi (inB x 48 57), s) from in_b x 48 57 s, cA_e, rZ_b]
  rfl
-- the class
theorem C_skip {σ : Sta} {L : Nat} {B : Nat → Int32} (hL : L ≤ 150) (hB : ∀ j, j < L → σ.1 81 j = B j) : ∀ (d i fu : Nat) (f : Nat → Int32), i + d = L → d < fu → f 1 = nI L → f 2 = nI i → X8_advance_L8 fu (up1 σ 80 f) = X8_advance_L46 (up1 σ 80 (upd f 2 (nI (tk_r tkS B d i))))
  | d, i, 0, f, _, h, _, _ => by omega
  | 0, i, fu + 1, f, h, _, h1, h2 => by
    have e : i = L := by omega
    rw [X8_advance_L8, fI_e, fI_e, up1_s, h1, h2, if_neg (nI_nlt (by omega) (by omega)), tk_r, ← h2, tk_ui]
  | d + 1, i, fu + 1, f, h, hf, h1, h2 => by
    have hi : i < L := by omega
    rw [X8_advance_L8, fI_e, fI_e, fI_e, up1_s, h1, h2, if_pos (nI_lt hi (by omega)), aI_n i (by omega), up1_n (show 81 ≠ 80 by decide), hB i hi, tk_r]
    by_cases c : B i = 32
    · rw [if_pos c, if_pos (show tkS (B i) = true from decide_eq_true c), fI_e, up1_s, h2, pI_e, up1_s, up1_u, nI_1, C_skip hL hB d (i + 1) fu (upd f 2 (nI (i + 1))) (by omega) (by omega) (by rw [updN (by decide)]; exact h1) (updS _ _ _), tk_uu]
    · rw [if_neg c, if_neg (show ¬ tkS (B i) = true from fun e => c (of_decide_eq_true e)), ← h2, tk_ui]
termination_by structural d => d
theorem C_lets {σ : Sta} {L : Nat} {B : Nat → Int32} (hL : L ≤ 150) (hB : ∀ j, j < L → σ.1 81 j = B j) : ∀ (d i fu : Nat) (f : Nat → Int32), i + d = L → d < fu → f 1 = nI L → f 3 = nI i → X8_advance_L93 fu (up1 σ 80 f) = some ((), up1 σ 80 (upd f 3 (nI (tk_r tkL B d i))))
  | d, i, 0, f, _, h, _, _ => by omega
  | 0, i, fu + 1, f, h, _, h1, h2 => by
    have e : i = L := by omega
    rw [X8_advance_L93, fI_e, fI_e, up1_s, h1, h2, if_neg (nI_nlt (by omega) (by omega)), tk_r, ← h2, tk_ui]
  | d + 1, i, fu + 1, f, h, hf, h1, h2 => by
    have hi : i < L := by omega
    rw [X8_advance_L93, fI_e, fI_e, fI_e, up1_s, h1, h2, if_pos (nI_lt hi (by omega)), aI_n i (by omega), up1_n (show 81 ≠ 80 by decide), hB i hi, cA_of (C_isL _ _), bi_if, tk_r]
    by_cases c : tkL (B i) = true
    · rw [if_pos c, if_pos c, fI_e, up1_s, h2, pI_e, up1_s, up1_u, nI_1, C_lets hL hB d (i + 1) fu (upd f 3 (nI (i + 1))) (by omega) (by omega) (by rw [updN (by decide)]; exact h1) (updS _ _ _), tk_uu]
    · rw [if_neg c, if_neg c, ← h2, tk_ui]
termination_by structural d => d
theorem lt2 {k : Nat} (h : k < 2) : nI k < (2 : Int32) := nI_lt (b := 2) h (by decide)
theorem nlt2 {k : Nat} (h : 2 ≤ k) (hk : k < 2 ^ 31) : ¬ nI k < (2 : Int32) := nI_nlt (b := 2) h hk
theorem gt2 {k : Nat} (h : 2 < k) (hk : k < 2 ^ 31) : (2 : Int32) < nI k := nI_lt (a := 2) h hk
theorem ngt2 {k : Nat} (h : k ≤ 2) : ¬ (2 : Int32) < nI k := nI_nlt (a := 2) h (by decide)
theorem C_figE {σ : Sta} {L s i : Nat} {B : Nat → Int32} (hL : L ≤ 150) (f : Nat → Int32) (hi : i ≤ L) (hs : s ≤ i) (h1 : f 1 = nI L) (h2 : f 2 = nI s) (h3 : f 3 = nI i) (h5 : f 5 = tk_n B s (min (i - s) 2)) : ∃ g, X8_takeFigures_L81 (up1 σ 80 f) = some ((), up1 σ 80 g) ∧ g 1 = nI L ∧ g 2 = nI s ∧ g 3 = nI i ∧ g 4 = (if i - s ≤ 2 then 2 else 4) ∧ g 5 = tk_n B s (min (i - s) 2) := by
  rw [X8_takeFigures_L81, fI_e, fI_e, up1_s, h2, h3, pk_sub hs]
  have t : ∀ v : Int32, upd f 4 v 1 = nI L ∧ upd f 4 v 2 = nI s ∧ upd f 4 v 3 = nI i ∧ upd f 4 v 5 = tk_n B s (min (i - s) 2) := fun v => by
    rw [updN (by decide), updN (by decide), updN (by decide), updN (by decide)]
    exact ⟨h1, h2, h3, h5⟩
  by_cases c : i - s ≤ 2
  · rw [if_neg (ngt2 c), pI_e, up1_s, up1_u]
    obtain ⟨t1, t2, t3, t4⟩ := t 2
    exact ⟨_, rfl, t1, t2, t3, by rw [updS, if_pos c], t4⟩
  · rw [if_pos (gt2 (by omega) (by omega)), pI_e, up1_s, up1_u]
    obtain ⟨t1, t2, t3, t4⟩ := t 4
    exact ⟨_, rfl, t1, t2, t3, by rw [updS, if_neg c], t4⟩
theorem C_figs {σ : Sta} {L s : Nat} {B : Nat → Int32} (hL : L ≤ 150) (hB : ∀ j, j < L → σ.1 81 j = B j) : ∀ (d i fu : Nat) (f : Nat → Int32), i + d = L → d < fu → s ≤ i → f 1 = nI L → f 2 = nI s → f 3 = nI i → f 5 = tk_n B s (min (i - s) 2) → ∃ g, X8_takeFigures_L5 fu (up1 σ 80 f) = some ((), up1 σ 80 g) ∧ g 1 = nI L ∧ g 2 = nI s ∧ g 3 = nI (tk_r tkF B d i) ∧ g 4 = (if tk_r tkF B d i - s ≤ 2 then 2 else 4) ∧ g 5 = tk_n B s (min (tk_r tkF B d i - s) 2)
  | d, i, 0, f, _, h, _, _, _, _, _ => by omega
  | 0, i, fu + 1, f, h, _, hs, h1, h2, h3, h5 => by
    have e : i = L := by omega
    rw [X8_takeFigures_L5, fI_e, fI_e, up1_s, h1, h3, if_neg (nI_nlt (by omega) (by omega)), tk_r]
    exact C_figE hL f (by omega) hs h1 h2 h3 h5
  | d + 1, i, fu + 1, f, h, hf, hs, h1, h2, h3, h5 => by
    have hi : i < L := by omega
    rw [X8_takeFigures_L5, fI_e, fI_e, fI_e, up1_s, h1, h3, if_pos (nI_lt hi (by omega)), aI_n i (by omega), up1_n (show 81 ≠ 80 by decide), hB i hi, cA_of (C_isF _ _), bi_if, tk_r]
    by_cases c : tkF (B i) = true
    · rw [if_pos c, if_pos c, fI_e, fI_e, up1_s, h3, h2, pk_sub hs]
      by_cases c2 : i - s < 2
      · rw [if_pos (lt2 c2), fI_e, fI_e, up1_s, h3, aI_n i (by omega), up1_n (show 81 ≠ 80 by decide), hB i hi, pI_e, up1_s, up1_u, X8_takeFigures_L68, fI_e, up1_s, updN (by decide), h3, pI_e, up1_s, up1_u, nI_1]
        refine C_figs hL hB d (i + 1) fu _ (by omega) (by omega) (by omega) (by rw [updN (by decide), updN (by decide)]; exact h1) (by rw [updN (by decide), updN (by decide)]; exact h2) (updS _ _ _) ?_
        rw [updN (by decide), updS, h5, Nat.min_eq_left (by omega), Nat.min_eq_left (by omega), show i + 1 - s = (i - s) + 1 by omega, tk_n, show s + (i - s) = i by omega]
      · rw [if_neg (nlt2 (by omega) (by omega)), X8_takeFigures_L68, fI_e, up1_s, h3, pI_e, up1_s, up1_u, nI_1]
        refine C_figs hL hB d (i + 1) fu _ (by omega) (by omega) (by omega) (by rw [updN (by decide)]; exact h1) (by rw [updN (by decide)]; exact h2) (updS _ _ _) ?_
        rw [updN (by decide), h5, Nat.min_eq_right (by omega), Nat.min_eq_right (by omega)]
    · rw [if_neg c, if_neg c]
      exact C_figE hL f (by omega) hs h1 h2 h3 h5
termination_by structural d => d
theorem tk_E0 {B : Nat → Int32} {L s : Nat} (h : s = L) : tk_E B L s = s := by rw [tk_E, if_pos h]
theorem tk_K0 {B : Nat → Int32} {L s : Nat} (h : s = L) : tk_K B L s = 0 := by rw [tk_K, if_pos h]
theorem tk_EL {B : Nat → Int32} {L s : Nat} (h : s < L) (c : tkL (B s) = true) : tk_E B L s = tk_r tkL B (L - s) s ∧ tk_K B L s = 1 := by rw [tk_E, tk_K, if_neg (show ¬ s = L by omega), if_neg (show ¬ s = L by omega), if_pos c, if_pos c]; exact ⟨rfl, rfl⟩
theorem tk_EF {B : Nat → Int32} {L s : Nat} (h : s < L) (c : ¬ tkL (B s) = true) (c2 : tkF (B s) = true) : tk_E B L s = tk_r tkF B (L - s) s ∧ tk_K B L s = if tk_r tkF B (L - s) s - s ≤ 2 then 2 else 4 := by
  have e : tk_E B L s = tk_r tkF B (L - s) s := by rw [tk_E, if_neg (by omega), if_neg c, if_pos c2]
  rw [tk_K, e, if_neg (by omega), if_neg c, if_pos c2]; exact ⟨rfl, rfl⟩
theorem tk_EO {B : Nat → Int32} {L s : Nat} (h : s < L) (c : ¬ tkL (B s) = true) (c2 : ¬ tkF (B s) = true) : tk_E B L s = s + 1 ∧ tk_K B L s = if B s = 59 then 3 else 4 := by
  rw [tk_E, tk_K, if_neg (show ¬ s = L by omega), if_neg (show ¬ s = L by omega), if_neg c, if_neg c, if_neg c2, if_neg c2]; exact ⟨rfl, rfl⟩
theorem C_46 {σ : Sta} {L s : Nat} {B : Nat → Int32} (hL : L ≤ 150) (hB : ∀ j, j < L → σ.1 81 j = B j) (f : Nat → Int32) (hs : s ≤ L) (h1 : f 1 = nI L) (h2 : f 2 = nI s) : ∃ g, X8_advance_L46 (up1 σ 80 f) = some ((), up1 σ 80 g) ∧ g 1 = nI L ∧ g 2 = nI s ∧ g 3 = nI (tk_E B L s) ∧ g 4 = tk_K B L s ∧ (tk_K B L s = 2 → g 5 = tk_V B L s) := by
  rw [X8_advance_L46, fI_e, up1_s, h2, pI_e, up1_s, up1_u, fI_e, fI_e, up1_s, updN (by decide), updN (by decide), h1, h2]
  by_cases c0 : s = L
  · rw [if_neg (nI_nlt (by omega) (by omega)), pI_e, up1_s, up1_u, tk_E0 c0, tk_K0 c0]
    refine ⟨_, rfl, ?_, ?_, ?_, updS _ _ _, fun e => absurd e (by decide)⟩
    · rw [updN (by decide), updN (by decide)]; exact h1
    · rw [updN (by decide), updN (by decide)]; exact h2
    · rw [updN (by decide), updS]
  · have hs' : s < L := by omega
    rw [if_pos (nI_lt hs' (by omega)), fI_e, up1_s, updN (by decide), h2, aI_n s (by omega), up1_n (show 81 ≠ 80 by decide), hB s hs', cA_of (C_isL _ _), bi_if]
    by_cases c1 : tkL (B s) = true
    · obtain ⟨e1, e2⟩ := tk_EL hs' c1
      rw [if_pos c1, pI_e, up1_s, up1_u, C_lets hL hB (L - s) s FU _ (by omega) (by show _ < 300; omega) (by rw [updN (by decide), updN (by decide)]; exact h1) (by rw [updN (by decide), updS]), e1, e2]
      refine ⟨_, rfl, ?_, ?_, updS _ _ _, ?_, fun e => absurd e (by decide)⟩
      · rw [updN (by decide), updN (by decide), updN (by decide)]; exact h1
      · rw [updN (by decide), updN (by decide), updN (by decide)]; exact h2
      · rw [updN (by decide), updS]
    · rw [if_neg c1, fI_e, up1_s, updN (by decide), h2, aI_n s (by omega), up1_n (show 81 ≠ 80 by decide), hB s hs', cA_of (C_isF _ _), bi_if]
      by_cases c2 : tkF (B s) = true
      · obtain ⟨e1, e2⟩ := tk_EF hs' c1 c2
        obtain ⟨g, g0, g1, g2, g3, g4, g5⟩ := C_figs hL hB (s := s) (L - s) s FU (upd (upd f 3 (nI s)) 5 0) (by omega) (by show _ < 300; omega) (Nat.le_refl _) (by rw [updN (by decide), updN (by decide)]; exact h1) (by rw [updN (by decide), updN (by decide)]; exact h2) (by rw [updN (by decide), updS]) (by rw [updS, Nat.sub_self]; rfl)
        have gt : X8_takeFigures (up1 σ 80 (upd f 3 (nI s))) = some ((), up1 σ 80 g) := by
          rw [X8_takeFigures, pI_e, up1_s, up1_u]
          exact g0
        rw [if_pos c2, cA_of gt]
        refine ⟨g, rfl, g1, g2, by rw [g3, e1], by rw [g4, e2], fun _ => by rw [g5, tk_V, e1]⟩
      · obtain ⟨e1, e2⟩ := tk_EO hs' c1 c2
        rw [if_neg c2, fI_e, up1_s, updN (by decide), h2, aI_n s (by omega), up1_n (show 81 ≠ 80 by decide), hB s hs']
        have t : ∀ v : Int32, ∃ g, X8_advance_L174 v (up1 σ 80 (upd f 3 (nI s))) = some ((), up1 σ 80 g) ∧ g 1 = nI L ∧ g 2 = nI s ∧ g 3 = nI (s + 1) ∧ g 4 = v := fun v => by
          rw [X8_advance_L174, pI_e, up1_s, up1_u, fI_e, up1_s, updN (by decide), updN (by decide), h2, pI_e, up1_s, up1_u, nI_1]
          refine ⟨_, rfl, ?_, ?_, updS _ _ _, ?_⟩
          · rw [updN (by decide), updN (by decide), updN (by decide)]; exact h1
          · rw [updN (by decide), updN (by decide), updN (by decide)]; exact h2
          · rw [updN (by decide), updS]
        rw [e1, e2]
        by_cases c3 : B s = 59
        · rw [if_pos c3, if_pos c3]
          obtain ⟨g, g0, g1, g2, g3, g4⟩ := t 3
          exact ⟨g, g0, g1, g2, g3, g4, fun e => absurd e (by decide)⟩
        · rw [if_neg c3, if_neg c3]
          obtain ⟨g, g0, g1, g2, g3, g4⟩ := t 4
          exact ⟨g, g0, g1, g2, g3, g4, fun e => absurd e (by decide)⟩
def CT (B : Nat → Int32) (L s : Nat) (σ : Sta) : Prop := s ≤ L ∧ σ.1 80 1 = nI L ∧ σ.1 80 2 = nI s ∧ σ.1 80 3 = nI (tk_E B L s) ∧ σ.1 80 4 = tk_K B L s ∧ (tk_K B L s = 2 → σ.1 80 5 = tk_V B L s) ∧ ∀ j, j < L → σ.1 81 j = B j
def MT (B : Nat → Int32) (L s : Nat) (ρ : Sta) : Prop := s ≤ L ∧ ρ.1 82 14 = nI L ∧ ρ.1 82 15 = nI s ∧ ρ.1 82 16 = nI (tk_E B L s - s) ∧ ρ.1 82 17 = tk_K B L s ∧ (tk_K B L s = 2 → ρ.1 82 18 = tk_V B L s) ∧ ∀ j, j < L → ρ.1 94 j = B j
def tk_N (B : Nat → Int32) (L s : Nat) : Nat := tk_B B L (tk_E B L s)
theorem C_adv {σ : Sta} {L e : Nat} {B : Nat → Int32} (hL : L ≤ 150) (hB : ∀ j, j < L → σ.1 81 j = B j) (he : e ≤ L) (h1 : σ.1 80 1 = nI L) (h3 : σ.1 80 3 = nI e) : ∃ f, X8_advance σ = some ((), up1 σ 80 f) ∧ CT B L (tk_B B L e) (up1 σ 80 f) := by
  rw [X8_advance, fI_e, h3, pI_e, C_skip hL hB (L - e) e FU _ (by omega) (by show _ < 300; omega) (by rw [updN (by decide)]; exact h1) (updS _ _ _), tk_uu]
  have hb := (tk_Bb (B := B) he).2
  obtain ⟨g, g0, g1, g2, g3, g4, g5⟩ := C_46 hL hB (upd (σ.1 80) 2 (nI (tk_B B L e))) hb (by rw [updN (by decide)]; exact h1) (updS _ _ _)
  refine ⟨g, g0, hb, ?_, ?_, ?_, ?_, ?_, fun j hj => ?_⟩
  · rw [up1_s]; exact g1
  · rw [up1_s]; exact g2
  · rw [up1_s]; exact g3
  · rw [up1_s]; exact g4
  · rw [up1_s]; exact g5
  · rw [up1_n (by decide)]; exact hB j hj
theorem CT.adv {B : Nat → Int32} {L s : Nat} {σ : Sta} (h : CT B L s σ) (hL : L ≤ 150) : ∃ f, X8_advance σ = some ((), up1 σ 80 f) ∧ CT B L (tk_N B L s) (up1 σ 80 f) := by
  obtain ⟨h1, h2, h3, h4, h5, h6, h7⟩ := h
  exact C_adv hL h7 (tk_Eb h1).2 h2 h4
-- the reference
theorem M_skip {ρ : Sta} {L : Nat} {B : Nat → Int32} (hL : L ≤ 150) (hB : ∀ j, j < L → ρ.1 94 j = B j) : ∀ (d i fu : Nat) (f : Nat → Int32), i + d = L → d < fu → f 14 = nI L → f 15 = nI i → X12_lookAt_L5 fu (up1 ρ 82 f) = X12_lookAt_L43 (up1 ρ 82 (upd f 15 (nI (tk_r tkS B d i))))
  | d, i, 0, f, _, h, _, _ => by omega
  | 0, i, fu + 1, f, h, _, h1, h2 => by
    have e : i = L := by omega
    rw [X12_lookAt_L5, fI_e, fI_e, up1_s, h1, h2, if_neg (nI_nlt (by omega) (by omega)), tk_r, ← h2, tk_ui]
  | d + 1, i, fu + 1, f, h, hf, h1, h2 => by
    have hi : i < L := by omega
    rw [X12_lookAt_L5, fI_e, fI_e, fI_e, up1_s, h1, h2, if_pos (nI_lt hi (by omega)), aI_n i (by omega), up1_n (show 94 ≠ 82 by decide), hB i hi, tk_r]
    by_cases c : B i = 32
    · rw [if_pos c, if_pos (show tkS (B i) = true from decide_eq_true c), fI_e, up1_s, h2, pI_e, up1_s, up1_u, nI_1, M_skip hL hB d (i + 1) fu (upd f 15 (nI (i + 1))) (by omega) (by omega) (by rw [updN (by decide)]; exact h1) (updS _ _ _), tk_uu]
    · rw [if_neg c, if_neg (show ¬ tkS (B i) = true from fun e => c (of_decide_eq_true e)), ← h2, tk_ui]
termination_by structural d => d
theorem M_long {ρ : Sta} {L s : Nat} {B : Nat → Int32} {pf : Int32 → Bool} (hL : L ≤ 150) (hB : ∀ j, j < L → ρ.1 94 j = B j) : ∀ (d i fu : Nat) (f : Nat → Int32), i + d = L → d < fu → s ≤ i → f 14 = nI L → f 15 = nI s → f 16 = nI (i - s) → (f 17 = 1 ∧ pf = tkL ∨ f 17 = 2 ∧ pf = tkF) → X12_lookAt_L136 fu 1 (up1 ρ 82 f) = X12_lookAt_L218 FU 0 (up1 ρ 82 (upd f 16 (nI (tk_r pf B d i - s))))
  | d, i, 0, f, _, h, _, _, _, _, _ => by omega
  | 0, i, fu + 1, f, h, _, hs, h1, h2, h3, h4 => by
    have e : i = L := by omega
    rw [X12_lookAt_L136, if_neg n10, fI_e, fI_e, fI_e, up1_s, h1, h2, h3, nI_add, if_neg (nI_nlt (by omega) (by omega)), tk_r, ← h3, tk_ui]
  | d + 1, i, fu + 1, f, h, hf, hs, h1, h2, h3, h4 => by
    have hi : i < L := by omega
    have ei : s + (i - s) = i := by omega
    rw [X12_lookAt_L136, if_neg n10, fI_e, fI_e, fI_e, up1_s, h1, h2, h3, nI_add, ei, if_pos (nI_lt hi (by omega)), fI_e, fI_e, up1_s, h2, h3, nI_add, ei, aI_n i (by omega), up1_n (show 94 ≠ 82 by decide), hB i hi, fI_e, up1_s]
    have t : X12_lookAt_L193 (X12_lookAt_L136 fu) (bi (pf (B i))) (up1 ρ 82 f) = X12_lookAt_L218 FU 0 (up1 ρ 82 (upd f 16 (nI (tk_r pf B (d + 1) i - s)))) := by
      rw [X12_lookAt_L193, fI_e, up1_s, h3, bi_if, tk_r]
      by_cases c : pf (B i) = true
      · rw [if_pos c, if_pos c, pI_e, up1_s, up1_u, nI_1, c, show bi true = 1 from rfl, M_long (s := s) hL hB d (i + 1) fu _ (by omega) (by omega) (by omega) (by rw [updN (by decide)]; exact h1) (by rw [updN (by decide)]; exact h2) (by rw [updS, show i + 1 - s = i - s + 1 by omega]) (by rw [updN (by decide)]; exact h4), tk_uu]
      · obtain ⟨fu', rfl⟩ : ∃ k, fu = k + 1 := ⟨fu - 1, by omega⟩
        rw [if_neg c, if_neg c, Bool.eq_false_iff.mpr c, show bi false = 0 from rfl, pI_e, up1_s, up1_u, Int32.add_zero, X12_lookAt_L136, if_pos rfl]
    rcases h4 with ⟨h4, rfl⟩ | ⟨h4, rfl⟩
    · rw [h4, if_pos rfl, cA_of (M_isL _ _)]
      exact t
    · rw [h4, if_neg (by decide), cA_of (M_isF _ _)]
      exact t
termination_by structural d => d
theorem M_valL {ρ : Sta} {L s l : Nat} {B : Nat → Int32} (hL : L ≤ 150) (hB : ∀ j, j < L → ρ.1 94 j = B j) (hl : s + l ≤ L) : ∀ (d k fu : Nat) (f : Nat → Int32), k + d = min l 2 → d < fu → f 15 = nI s → f 16 = nI l → f 17 = 2 → f 18 = tk_n B s k → X12_lookAt_L218 fu (nI k) (up1 ρ 82 f) = X12_lookAt_L274 (up1 ρ 82 (upd f 18 (tk_n B s (min l 2))))
  | d, k, 0, f, _, h, _, _, _, _ => by omega
  | 0, k, fu + 1, f, h, _, h1, h2, h3, h4 => by
    have e : k = min l 2 := by omega
    rw [← e, ← h4, tk_ui, X12_lookAt_L218, fI_e, up1_s, h2]
    by_cases c : k < l
    · rw [if_pos (nI_lt c (by omega)), if_neg (nlt2 (by omega) (by omega))]
    · rw [if_neg (nI_nlt (by omega) (by omega))]
  | d + 1, k, fu + 1, f, h, hf, h1, h2, h3, h4 => by
    rw [X12_lookAt_L218, fI_e, up1_s, h2, if_pos (nI_lt (by omega) (by omega)), if_pos (lt2 (by omega)), fI_e, up1_s, h3, if_pos rfl, fI_e, fI_e, up1_s, h4, h1, nI_add, aI_n (s + k) (by omega), up1_n (show 94 ≠ 82 by decide), hB _ (by omega), pI_e, up1_s, up1_u, nI_1, M_valL hL hB hl d (k + 1) fu _ (by omega) (by omega) (by rw [updN (by decide)]; exact h1) (by rw [updN (by decide)]; exact h2) (by rw [updN (by decide)]; exact h3) (by rw [updS]; rfl), tk_uu]
termination_by structural d => d
theorem M_274 {ρ : Sta} {l : Nat} {z : Int32} (f : Nat → Int32) (hl : l < 2 ^ 31) (h2 : f 16 = nI l) (h3 : f 17 = z) : X12_lookAt_L274 (up1 ρ 82 f) = some ((), up1 ρ 82 (upd f 17 (if z = 2 then (if l ≤ 2 then 2 else 4) else z))) := by
  rw [X12_lookAt_L274, fI_e, up1_s, h3]
  by_cases c : z = 2
  · rw [if_pos c, if_pos c, fI_e, up1_s, h2]
    by_cases c2 : l ≤ 2
    · rw [if_neg (ngt2 c2), fI_e, pI_e, up1_s, up1_u, h3, if_pos c2, c]
    · rw [if_pos (gt2 (by omega) hl), pI_e, up1_s, up1_u, if_neg c2]
  · rw [if_neg c, if_neg c, fI_e, pI_e, up1_s, up1_u, h3]
theorem M_fin {ρ : Sta} {L s l : Nat} {B : Nat → Int32} {z : Int32} (hL : L ≤ 150) (hB : ∀ j, j < L → ρ.1 94 j = B j) (hl : s + l ≤ L) (f : Nat → Int32) (h0 : f 14 = nI L) (h1 : f 15 = nI s) (h2 : f 16 = nI l) (h3 : f 17 = z) (h4 : f 18 = 0) : ∃ g, X12_lookAt_L218 FU 0 (up1 ρ 82 f) = some ((), up1 ρ 82 g) ∧ g 14 = nI L ∧ g 15 = nI s ∧ g 16 = nI l ∧ g 17 = (if z = 2 then (if l ≤ 2 then 2 else 4) else z) ∧ (z = 2 → g 18 = tk_n B s (min l 2)) := by
  by_cases c : z = 2
  · have e := M_valL (s := s) (l := l) hL hB hl (min l 2) 0 FU f (by omega) (by show _ < 300; omega) h1 h2 (h3.trans c) h4
    rw [show nI 0 = (0 : Int32) from rfl] at e
    rw [e, M_274 (l := l) (z := z) _ (by omega) (by rw [updN (by decide)]; exact h2) (by rw [updN (by decide)]; exact h3)]
    refine ⟨_, rfl, ?_, ?_, ?_, updS _ _ _, fun _ => ?_⟩
    · rw [updN (by decide), updN (by decide)]; exact h0
    · rw [updN (by decide), updN (by decide)]; exact h1
    · rw [updN (by decide), updN (by decide)]; exact h2
    · rw [updN (by decide), updS]
  · have e : X12_lookAt_L218 FU 0 (up1 ρ 82 f) = X12_lookAt_L274 (up1 ρ 82 f) := by
      show X12_lookAt_L218 (299 + 1) 0 (up1 ρ 82 f) = _
      rw [X12_lookAt_L218, fI_e, up1_s, h2, fI_e, up1_s, h3, if_neg c]
      by_cases c2 : (0 : Int32) < nI l
      · rw [if_pos c2, if_pos (by decide)]
      · rw [if_neg c2]
    rw [e, M_274 (l := l) (z := z) _ (by omega) h2 h3]
    refine ⟨_, rfl, ?_, ?_, ?_, updS _ _ _, fun e => absurd e c⟩
    · rw [updN (by decide)]; exact h0
    · rw [updN (by decide)]; exact h1
    · rw [updN (by decide)]; exact h2
theorem M_43 {ρ : Sta} {L s : Nat} {B : Nat → Int32} (hL : L ≤ 150) (hB : ∀ j, j < L → ρ.1 94 j = B j) (f : Nat → Int32) (hs : s ≤ L) (h1 : f 14 = nI L) (h2 : f 15 = nI s) : ∃ g, X12_lookAt_L43 (up1 ρ 82 f) = some ((), up1 ρ 82 g) ∧ g 14 = nI L ∧ g 15 = nI s ∧ g 16 = nI (tk_E B L s - s) ∧ g 17 = tk_K B L s ∧ (tk_K B L s = 2 → g 18 = tk_V B L s) := by
  rw [X12_lookAt_L43, pI_e, up1_s, up1_u, pI_e, up1_s, up1_u, pI_e, up1_s, up1_u, fI_e, fI_e, up1_s]
  have f14 : upd (upd (upd f 16 0) 17 0) 18 0 14 = nI L := by rw [updN (by decide), updN (by decide), updN (by decide)]; exact h1
  have f15 : upd (upd (upd f 16 0) 17 0) 18 0 15 = nI s := by rw [updN (by decide), updN (by decide), updN (by decide)]; exact h2
  have f16 : upd (upd (upd f 16 0) 17 0) 18 0 16 = 0 := by rw [updN (by decide), updN (by decide), updS]
  have f17 : upd (upd (upd f 16 0) 17 0) 18 0 17 = 0 := by rw [updN (by decide), updS]
  have f18 : upd (upd (upd f 16 0) 17 0) 18 0 18 = 0 := updS _ _ _
  generalize upd (upd (upd f 16 0) 17 0) 18 0 = f' at *
  rw [f14, f15]
  by_cases c0 : s = L
  · rw [if_pos (by rw [c0]), tk_E0 c0, tk_K0 c0, Nat.sub_self]
    exact ⟨_, rfl, f14, f15, f16, f17, fun e => absurd e (by decide)⟩
  · have hs' : s < L := by omega
    rw [if_neg (fun e => c0 ((nI_eq (by omega) (by omega)).mp e)), fI_e, up1_s, f15, aI_n s (by omega), up1_n (show 94 ≠ 82 by decide), hB s hs', cA_of (M_isL _ _), bi_if]
    have t : ∀ z : Int32, X12_lookAt_L114 z (up1 ρ 82 f') = if z < 3 then X12_lookAt_L136 FU 1 (up1 ρ 82 (upd (upd f' 17 z) 16 1)) else X12_lookAt_L136 FU 0 (up1 ρ 82 (upd (upd f' 17 z) 16 1)) := fun z => by
      rw [X12_lookAt_L114, pI_e, up1_s, up1_u, pI_e, up1_s, up1_u, fI_e, up1_s, updN (by decide), updS]
    have k14 : ∀ z : Int32, upd (upd f' 17 z) 16 1 14 = nI L := fun z => by rw [updN (by decide), updN (by decide)]; exact f14
    have k15 : ∀ z : Int32, upd (upd f' 17 z) 16 1 15 = nI s := fun z => by rw [updN (by decide), updN (by decide)]; exact f15
    have k16 : ∀ z : Int32, upd (upd f' 17 z) 16 1 16 = nI (s + 1 - s) := fun z => by rw [updS, show s + 1 - s = 1 by omega]; rfl
    have k17 : ∀ z : Int32, upd (upd f' 17 z) 16 1 17 = z := fun z => by rw [updN (by decide), updS]
    have k18 : ∀ z : Int32, upd (upd f' 17 z) 16 1 18 = 0 := fun z => by rw [updN (by decide), updN (by decide)]; exact f18
    have eb := (tk_Eb (B := B) hs)
    have es := tk_Es (B := B) hs'
    by_cases c1 : tkL (B s) = true
    · obtain ⟨e1, e2⟩ := tk_EL hs' c1
      rw [if_pos c1, t, if_pos (by decide), M_long (s := s) (pf := tkL) hL hB (L - (s + 1)) (s + 1) FU _ (by omega) (by show _ < 300; omega) (by omega) (k14 1) (k15 1) (k16 1) (Or.inl ⟨k17 1, rfl⟩), ← tk_r1 hs' c1, ← e1]
      obtain ⟨g, g0, g1, g2, g3, g4, g5⟩ := M_fin (z := 1) hL hB (s := s) (l := tk_E B L s - s) (by omega) (upd (upd (upd f' 17 1) 16 1) 16 (nI (tk_E B L s - s))) (by rw [updN (by decide)]; exact k14 1) (by rw [updN (by decide)]; exact k15 1) (updS _ _ _) (by rw [updN (by decide)]; exact k17 1) (by rw [updN (by decide)]; exact k18 1)
      rw [if_neg (by decide)] at g4
      exact ⟨g, g0, g1, g2, g3, by rw [g4, e2], fun e => by rw [e2] at e; exact absurd e (by decide)⟩
    · rw [if_neg c1, cA_of (M_isF _ _), bi_if]
      by_cases c2 : tkF (B s) = true
      · obtain ⟨e1, e2⟩ := tk_EF hs' c1 c2
        rw [if_pos c2, t, if_pos (by decide), M_long (s := s) (pf := tkF) hL hB (L - (s + 1)) (s + 1) FU _ (by omega) (by show _ < 300; omega) (by omega) (k14 2) (k15 2) (k16 2) (Or.inr ⟨k17 2, rfl⟩), ← tk_r1 hs' c2, ← e1]
        obtain ⟨g, g0, g1, g2, g3, g4, g5⟩ := M_fin (z := 2) hL hB (s := s) (l := tk_E B L s - s) (by omega) (upd (upd (upd f' 17 2) 16 1) 16 (nI (tk_E B L s - s))) (by rw [updN (by decide)]; exact k14 2) (by rw [updN (by decide)]; exact k15 2) (updS _ _ _) (by rw [updN (by decide)]; exact k17 2) (by rw [updN (by decide)]; exact k18 2)
        rw [if_pos rfl] at g4
        rw [← e1] at e2
        exact ⟨g, g0, g1, g2, g3, by rw [g4, e2], fun _ => g5 rfl⟩
      · obtain ⟨e1, e2⟩ := tk_EO hs' c1 c2
        rw [if_neg c2, e1, e2]
        have q : ∀ z : Int32, ¬ z < 3 → ¬ z = 2 → ∃ g, X12_lookAt_L114 z (up1 ρ 82 f') = some ((), up1 ρ 82 g) ∧ g 14 = nI L ∧ g 15 = nI s ∧ g 16 = nI (s + 1 - s) ∧ g 17 = z := fun z z1 z2 => by
          obtain ⟨g, g0, g1, g2, g3, g4, g5⟩ := M_fin (z := z) hL hB (s := s) (l := s + 1 - s) (by omega) (upd (upd f' 17 z) 16 1) (k14 z) (k15 z) (k16 z) (k17 z) (k18 z)
          rw [if_neg z2] at g4
          refine ⟨g, ?_, g1, g2, g3, g4⟩
          rw [t, if_neg z1]
          exact g0
        by_cases c3 : B s = 59
        · rw [if_pos c3, if_pos c3]
          obtain ⟨g, g0, g1, g2, g3, g4⟩ := q 3 (by decide) (by decide)
          exact ⟨g, g0, g1, g2, g3, g4, fun e => absurd e (by decide)⟩
        · rw [if_neg c3, if_neg c3]
          obtain ⟨g, g0, g1, g2, g3, g4⟩ := q 4 (by decide) (by decide)
          exact ⟨g, g0, g1, g2, g3, g4, fun e => absurd e (by decide)⟩
theorem M_look {ρ : Sta} {L e : Nat} {B : Nat → Int32} (hL : L ≤ 150) (hB : ∀ j, j < L → ρ.1 94 j = B j) (he : e ≤ L) (h1 : ρ.1 82 14 = nI L) : ∃ f, X12_lookAt (nI e) ρ = some ((), up1 ρ 82 f) ∧ MT B L (tk_B B L e) (up1 ρ 82 f) := by
  rw [X12_lookAt, pI_e, M_skip hL hB (L - e) e FU _ (by omega) (by show _ < 300; omega) (by rw [updN (by decide)]; exact h1) (updS _ _ _), tk_uu]
  have hb := (tk_Bb (B := B) he).2
  obtain ⟨g, g0, g1, g2, g3, g4, g5⟩ := M_43 hL hB (upd (ρ.1 82) 15 (nI (tk_B B L e))) hb (by rw [updN (by decide)]; exact h1) (updS _ _ _)
  refine ⟨g, g0, hb, ?_, ?_, ?_, ?_, ?_, fun j hj => ?_⟩
  · rw [up1_s]; exact g1
  · rw [up1_s]; exact g2
  · rw [up1_s]; exact g3
  · rw [up1_s]; exact g4
  · rw [up1_s]; exact g5
  · rw [up1_n (by decide)]; exact hB j hj
theorem MT.go {B : Nat → Int32} {L s : Nat} {ρ : Sta} (h : MT B L s ρ) (hL : L ≤ 150) : ∃ f, X12_goBehind ρ = some ((), up1 ρ 82 f) ∧ MT B L (tk_N B L s) (up1 ρ 82 f) := by
  obtain ⟨h1, h2, h3, h4, h5, h6, h7⟩ := h
  have hb := tk_Eb (B := B) h1
  obtain ⟨f, f1, f2⟩ := M_look hL h7 hb.2 h2
  refine ⟨f, ?_, f2⟩
  rw [X12_goBehind, fI_e, fI_e, h3, h4, nI_add, show s + (tk_E B L s - s) = tk_E B L s by omega, cA_of f1]
-- words
def tk_m (W B : Nat → Int32) (s : Nat) : Nat → Nat → Bool
  | 0, _ => true
  | d + 1, k => decide (B (s + k) = W k) && tk_m W B s d (k + 1)
def tk_W (W : Nat → Int32) (n : Nat) (B : Nat → Int32) (L s : Nat) : Bool := decide (tk_K B L s = 1) && (decide (tk_E B L s - s = n) && tk_m W B s n 0)
theorem C_wordL {σ : Sta} {L s n tv : Nat} {W B : Nat → Int32} (hL : L ≤ 150) (hn : n ≤ 6) (hB : ∀ j, j < L → σ.1 81 j = B j) (h2 : σ.1 80 2 = nI s) (hs : s + n ≤ L) (hl : J_length tv σ = some (nI n, σ)) (hc : ∀ k, k < n → J_charAt tv (nI k) σ = some (W k, σ)) : ∀ (d k fu : Nat), k + d = n → d < fu → X8_isWord_L28 tv fu (nI k) σ = some (bi (tk_m W B s d k), σ)
  | d, k, 0, _, h => by omega
  | 0, k, fu + 1, h, _ => by
    rw [X8_isWord_L28, cA_of hl, if_neg (nI_nlt (by omega) (by omega)), tk_m]
    rfl
  | d + 1, k, fu + 1, h, hf => by
    rw [X8_isWord_L28, cA_of hl, if_pos (nI_lt (by omega) (by omega)), fI_e, h2, nI_add, aI_n (s + k) (by omega), hB _ (by omega), cA_of (hc k (by omega)), tk_m]
    by_cases c : B (s + k) = W k
    · rw [if_pos c, nI_1, C_wordL hL hn hB h2 hs hl hc d (k + 1) fu (by omega) (by omega), decide_eq_true c, Bool.true_and]
    · rw [if_neg c, decide_eq_false c, Bool.false_and]
      rfl
termination_by structural d => d
theorem CT.word {B : Nat → Int32} {L s n tv : Nat} {σ : Sta} {W : Nat → Int32} (h : CT B L s σ) (hL : L ≤ 150) (hn : n ≤ 6) (hl : J_length tv σ = some (nI n, σ)) (hc : ∀ k, k < n → J_charAt tv (nI k) σ = some (W k, σ)) : X8_isWord tv σ = some (bi (tk_W W n B L s), σ) := by
  obtain ⟨h1, h2, h3, h4, h5, h6, h7⟩ := h
  have hb := tk_Eb (B := B) h1
  rw [X8_isWord, fI_e, h5, tk_W]
  by_cases c : tk_K B L s = 1
  · rw [if_pos c, fI_e, fI_e, h4, h3, pk_sub hb.1, cA_of hl, decide_eq_true c, Bool.true_and]
    by_cases c2 : tk_E B L s - s = n
    · rw [if_pos (by rw [c2]), decide_eq_true c2, Bool.true_and]
      exact C_wordL hL hn h7 h3 (by omega) hl hc n 0 FU (by omega) (by show _ < 300; omega)
    · rw [if_neg (fun e => c2 ((nI_eq (by omega) (by omega)).mp e)), decide_eq_false c2, Bool.false_and]
      rfl
  · rw [if_neg c, decide_eq_false c, Bool.false_and]
    rfl
def tk_w (a b c d e f : Int32) (k : Nat) : Int32 := if k = 0 then a else if k = 1 then b else if k = 2 then c else if k = 3 then d else if k = 4 then e else f
theorem M_wordL {ρ : Sta} {L s n : Nat} {B : Nat → Int32} {w0 w1 w2 w3 w4 w5 : Int32} (hL : L ≤ 150) (hn : n ≤ 6) (hB : ∀ j, j < L → ρ.1 94 j = B j) (h2 : ρ.1 82 15 = nI s) (hs : s + n ≤ L) : ∀ (d k fu : Nat), k + d = n → d < fu → X12_spells_L26 fu (nI n) w0 w1 w2 w3 w4 w5 1 (nI k) ρ = some (bi (tk_m (tk_w w0 w1 w2 w3 w4 w5) B s d k), ρ)
  | d, k, 0, _, h => by omega
  | 0, k, fu + 1, h, _ => by
    rw [X12_spells_L26, if_neg (nI_nlt (by omega) (by omega)), tk_m]
    rfl
  | d + 1, k, fu + 1, h, hf => by
    rw [X12_spells_L26, if_pos (nI_lt (by omega) (by omega)), if_neg n10, fI_e, h2, nI_add, aI_n (s + k) (by omega), hB _ (by omega), tk_m]
    have t : ∀ w : Int32, w = tk_w w0 w1 w2 w3 w4 w5 k → X12_spells_L103 (X12_spells_L26 fu) (nI n) w0 w1 w2 w3 w4 w5 (nI k) w (B (s + k)) ρ = some (bi (decide (B (s + k) = tk_w w0 w1 w2 w3 w4 w5 k) && tk_m (tk_w w0 w1 w2 w3 w4 w5) B s d (k + 1)), ρ) := fun w hw => by
      rw [X12_spells_L103, ← hw]
      by_cases c : B (s + k) = w
      · rw [if_pos c, nI_1, M_wordL hL hn hB h2 hs d (k + 1) fu (by omega) (by omega), decide_eq_true c, Bool.true_and]
      · obtain ⟨fu', rfl⟩ : ∃ k, fu = k + 1 := ⟨fu - 1, by omega⟩
        rw [if_neg c, decide_eq_false c, Bool.false_and, X12_spells_L26]
        by_cases c2 : nI k + 1 < nI n
        · rw [if_pos c2, if_pos rfl]; rfl
        · rw [if_neg c2]; rfl
    have e0 : (nI k = 0) ↔ k = 0 := nI_eq (b := 0) (by omega) (by omega)
    have e1 : (nI k = 1) ↔ k = 1 := nI_eq (b := 1) (by omega) (by omega)
    have e2 : (nI k = 2) ↔ k = 2 := nI_eq (b := 2) (by omega) (by omega)
    have e3 : (nI k = 3) ↔ k = 3 := nI_eq (b := 3) (by omega) (by omega)
    have e4 : (nI k = 4) ↔ k = 4 := nI_eq (b := 4) (by omega) (by omega)
    simp only [e0, e1, e2, e3, e4]
    by_cases c0 : k = 0
    · rw [if_pos c0]; exact t _ (by rw [tk_w, if_pos c0])
    rw [if_neg c0]
    by_cases c1 : k = 1
    · rw [if_pos c1]; exact t _ (by rw [tk_w, if_neg c0, if_pos c1])
    rw [if_neg c1]
    by_cases c2 : k = 2
    · rw [if_pos c2]; exact t _ (by rw [tk_w, if_neg c0, if_neg c1, if_pos c2])
    rw [if_neg c2]
    by_cases c3 : k = 3
    · rw [if_pos c3]; exact t _ (by rw [tk_w, if_neg c0, if_neg c1, if_neg c2, if_pos c3])
    rw [if_neg c3]
    by_cases c4 : k = 4
    · rw [if_pos c4]; exact t _ (by rw [tk_w, if_neg c0, if_neg c1, if_neg c2, if_neg c3, if_pos c4])
    rw [if_neg c4]
    exact t _ (by rw [tk_w, if_neg c0, if_neg c1, if_neg c2, if_neg c3, if_neg c4])
termination_by structural d => d
theorem MT.word {B : Nat → Int32} {L s n : Nat} {ρ : Sta} {w0 w1 w2 w3 w4 w5 : Int32} (h : MT B L s ρ) (hL : L ≤ 150) (hn : n ≤ 6) : X12_spells (nI n) w0 w1 w2 w3 w4 w5 ρ = some (bi (tk_W (tk_w w0 w1 w2 w3 w4 w5) n B L s), ρ) := by
  obtain ⟨h1, h2, h3, h4, h5, h6, h7⟩ := h
  have hb := tk_Eb (B := B) h1
  have z : X12_spells_L26 FU (nI n) w0 w1 w2 w3 w4 w5 0 0 ρ = some (bi false, ρ) := by
    show X12_spells_L26 (299 + 1) (nI n) w0 w1 w2 w3 w4 w5 0 0 ρ = _
    rw [X12_spells_L26]
    by_cases c2 : (0 : Int32) < nI n
    · rw [if_pos c2, if_pos rfl]; rfl
    · rw [if_neg c2]; rfl
  rw [X12_spells, fI_e, h5, tk_W]
  by_cases c : tk_K B L s = 1
  · rw [if_pos c, fI_e, h4, decide_eq_true c, Bool.true_and]
    by_cases c2 : tk_E B L s - s = n
    · rw [if_pos (by rw [c2]), decide_eq_true c2, Bool.true_and]
      exact M_wordL hL hn h7 h3 (by omega) n 0 FU (by omega) (by show _ < 300; omega)
    · rw [if_neg (fun e => c2 ((nI_eq (by omega) (by omega)).mp e)), decide_eq_false c2, Bool.false_and]
      exact z
  · rw [if_neg c, decide_eq_false c, Bool.false_and]
    exact z
