/-! PURE HALF 3: a contest held, a year gone by, years gone by: the class -/
theorem up1_u (σ : Sta) (k : Nat) (f g : Nat → Int32) : up1 (up1 σ k f) k g = up1 σ k g := by
  unfold up1
  rw [bx_uu]
theorem up1_id (σ : Sta) (k : Nat) : up1 σ k (σ.1 k) = σ := by
  unfold up1
  have h : va_up σ.1 k (σ.1 k) = σ.1 := by
    funext j
    by_cases h : j = k
    · subst h; simp [va_up]
    · simp [va_up, h]
  rw [h]
def hs (g : Nat → Int32) : Nat → Int32 × Int32 × Int32 × Int32
  | 0 => (-1, 0, -1, 0)
  | p + 1 => if (hs g p).2.1 < g p then (nI p, g p, (hs g p).1, (hs g p).2.1) else if (hs g p).2.2.2 < g p then ((hs g p).1, (hs g p).2.1, nI p, g p) else hs g p
def ents (g : Nat → Int32) : Nat → Int32
  | 0 => 0
  | p + 1 => if 0 < g p then ents g p ||| ((1 : Int32) <<< (nI p &&& 31)) else ents g p
theorem updS (f : Nat → Int32) (k : Nat) (x : Int32) : upd f k x k = x := pk_us
theorem updN {f : Nat → Int32} {k j : Nat} {x : Int32} (h : j ≠ k) : upd f k x j = f j := pk_un h
/-- the strengths of a valley at r, a contest at c -/
def gSt (c r : Nat) (σ : Sta) (y : Nat) : Nat → Int32 := fun p => stg (σ.1 (c + 2)) (σ.1 (r + 3)) (σ.1 (r + 4)) (σ.1 (r + 5)) (σ.1 (r + 1)) (σ.1 (r + 2)) p y
def wfS (r n : Nat) (σ : Sta) : Prop := WF n (σ.1 (r + 3)) (σ.1 (r + 4)) (σ.1 (r + 5)) (σ.1 (r + 1)) (σ.1 (r + 2))
theorem gS_up {c r k y : Nat} {σ : Sta} {f : Nat → Int32} (h : ∀ i, i ≤ 5 → r + i ≠ k) (hc : c + 2 ≠ k) : gSt c r (up1 σ k f) y = gSt c r σ y := by
  unfold gSt
  rw [up1_n hc, up1_n (h 3 (by decide)), up1_n (h 4 (by decide)), up1_n (h 5 (by decide)), up1_n (h 1 (by decide)), up1_n (h 2 (by decide))]
theorem wfS_up {r k n : Nat} {σ : Sta} {f : Nat → Int32} (h : ∀ i, i ≤ 5 → r + i ≠ k) : wfS r n (up1 σ k f) ↔ wfS r n σ := by
  unfold wfS
  rw [up1_n (h 3 (by decide)), up1_n (h 4 (by decide)), up1_n (h 5 (by decide)), up1_n (h 1 (by decide)), up1_n (h 2 (by decide))]
theorem C_holdL {c r n y : Nat} {σ : Sta} (hrc : ∀ i, i ≤ 5 → r + i ≠ c) (hn0 : σ.1 r 10 = nI n) (hw : wfS r n σ) (hy : y < 8) : ∀ (d p fu : Nat) (f : Nat → Int32), p + d = n → d < fu → f 2 = ents (gSt c r σ y) p → f 3 = (hs (gSt c r σ y) p).1 → f 4 = (hs (gSt c r σ y) p).2.2.1 →
    ∃ f', X0_hold_L23 c r fu (nI y) (hs (gSt c r σ y) p).2.1 (hs (gSt c r σ y) p).2.2.2 (nI p) (up1 σ c f) = some ((), up1 σ c f') ∧ f' 2 = ents (gSt c r σ y) n ∧ f' 3 = (hs (gSt c r σ y) n).1 ∧ f' 4 = (hs (gSt c r σ y) n).2.2.1
  | d, p, 0, f, _, h, _, _, _ => by omega
  | 0, p, fu + 1, f, hpd, _, h2, h3, h4 => by
    have hpn : p = n := by omega
    subst hpn
    refine ⟨f, ?_, h2, h3, h4⟩
    rw [X0_hold_L23, fI_e, up1_n (by have := hrc 0 (by decide); simpa using this), hn0, if_neg (nI_nlt (Nat.le_refl _) (by have := hw.1; omega))]
  | d + 1, p, fu + 1, f, hpd, hf, h2, h3, h4 => by
    have hn6 := hw.1
    have hc2 : c + 2 ≠ c := by omega
    have hst : X0_strength c r (nI p) (nI y) (up1 σ c f) = some (gSt c r σ y p, up1 σ c f) := by
      have h := C_strength (c := c) (r := r) (p := p) (y := y) (σ := up1 σ c f) (n := n) (by rw [up1_n (by have := hrc 0 (by decide); simpa using this)]; exact hn0) ((wfS_up hrc).mpr hw) (by omega) hy
      rw [h]
      have h9 := congrFun (gS_up (y := y) (σ := σ) (f := f) hrc hc2) p
      unfold gSt at h9 ⊢
      rw [h9]
    rw [X0_hold_L23, fI_e, up1_n (by have := hrc 0 (by decide); simpa using this), hn0, if_pos (nI_lt (by omega) (by omega)), cA_of hst]
    have tailc : ∀ (f : Nat → Int32), f 2 = ents (gSt c r σ y) (p + 1) → f 3 = (hs (gSt c r σ y) p).1 → f 4 = (hs (gSt c r σ y) p).2.2.1 → ∃ f', X0_hold_L60 c r (X0_hold_L23 c r fu) (nI y) (hs (gSt c r σ y) p).2.1 (hs (gSt c r σ y) p).2.2.2 (nI p) (gSt c r σ y p) (up1 σ c f) = some ((), up1 σ c f') ∧ f' 2 = ents (gSt c r σ y) n ∧ f' 3 = (hs (gSt c r σ y) n).1 ∧ f' 4 = (hs (gSt c r σ y) n).2.2.1 := by
      intro f h2 h3 h4
      rw [X0_hold_L60]
      by_cases c1 : (hs (gSt c r σ y) p).2.1 < gSt c r σ y p
      · have e : hs (gSt c r σ y) (p + 1) = (nI p, gSt c r σ y p, (hs (gSt c r σ y) p).1, (hs (gSt c r σ y) p).2.1) := by rw [hs, if_pos c1]
        rw [if_pos c1, fI_e, pI_e, pI_e, up1_s, up1_u, up1_s, up1_u, nI_1]
        have ih := C_holdL hrc hn0 hw hy d (p + 1) fu (upd (upd f 4 (f 3)) 3 (nI p)) (by omega) (by omega) (by rw [updN (by decide), updN (by decide)]; exact h2) (by rw [updS, e]) (by rw [updN (by decide), updS, e, h3])
        rw [e] at ih
        exact ih
      · rw [if_neg c1]
        by_cases c2 : (hs (gSt c r σ y) p).2.2.2 < gSt c r σ y p
        · have e : hs (gSt c r σ y) (p + 1) = ((hs (gSt c r σ y) p).1, (hs (gSt c r σ y) p).2.1, nI p, gSt c r σ y p) := by rw [hs, if_neg c1, if_pos c2]
          rw [if_pos c2, pI_e, up1_s, up1_u, nI_1]
          have ih := C_holdL hrc hn0 hw hy d (p + 1) fu (upd f 4 (nI p)) (by omega) (by omega) (by rw [updN (by decide)]; exact h2) (by rw [updN (by decide), e]; exact h3) (by rw [updS, e])
          rw [e] at ih
          exact ih
        · have e : hs (gSt c r σ y) (p + 1) = hs (gSt c r σ y) p := by rw [hs, if_neg c1, if_neg c2]
          rw [if_neg c2, nI_1]
          have ih := C_holdL hrc hn0 hw hy d (p + 1) fu f (by omega) (by omega) h2 (by rw [e]; exact h3) (by rw [e]; exact h4)
          rw [e] at ih
          exact ih
    by_cases c0 : 0 < gSt c r σ y p
    · rw [if_pos c0, fI_e, pI_e, up1_s, up1_u]
      exact tailc _ (by rw [updS, ents, if_pos c0, h2]) (by rw [updN (by decide)]; exact h3) (by rw [updN (by decide)]; exact h4)
    · rw [if_neg c0]
      exact tailc f (by rw [ents, if_neg c0]; exact h2) h3 h4
theorem C_hold {c r n y : Nat} {σ : Sta} (hrc : ∀ i, i ≤ 5 → r + i ≠ c) (hn0 : σ.1 r 10 = nI n) (hw : wfS r n σ) (hy : y < 8) : ∃ f, X0_hold c r (nI y) σ = some ((), up1 σ c f) ∧ f 2 = ents (gSt c r σ y) n ∧ f 3 = (hs (gSt c r σ y) n).1 ∧ f 4 = (hs (gSt c r σ y) n).2.2.1 := by
  rw [X0_hold, pI_e, pI_e, pI_e, up1_s, up1_u, up1_s, up1_u]
  exact C_holdL hrc hn0 hw hy n 0 FU _ (by omega) (by have := hw.1; show n < 300; omega) (by rw [updN (by decide), updN (by decide), updS]; rfl) (by rw [updN (by decide), updS]; rfl) (by rw [updS]; rfl)
/-- first and second are nobody, or of the people -/
def who (n : Nat) (x : Int32) : Prop := x = -1 ∨ ∃ i, i < n ∧ x = nI i
theorem who_mono {n m : Nat} {x : Int32} (h : who n x) (hm : n ≤ m) : who m x := h.imp id (fun ⟨i, h1, h2⟩ => ⟨i, by omega, h2⟩)
theorem hs_who (g : Nat → Int32) : ∀ n, who n (hs g n).1 ∧ who n (hs g n).2.2.1
  | 0 => ⟨Or.inl rfl, Or.inl rfl⟩
  | p + 1 => by
    obtain ⟨h1, h2⟩ := hs_who g p
    rw [hs]
    split
    · exact ⟨Or.inr ⟨p, by omega, rfl⟩, who_mono h1 (by omega)⟩
    · split
      · exact ⟨who_mono h1 (by omega), Or.inr ⟨p, by omega, rfl⟩⟩
      · exact ⟨who_mono h1 (by omega), who_mono h2 (by omega)⟩
def addW (w : Nat → Int32) (x : Int32) (y : Nat) : Nat → Int32 := if x = -1 then w else upd w (kno x) (w (kno x) ||| ((1 : Int32) <<< (nI y &&& 31)))
def addS (q : Nat → Int32) (x : Int32) : Nat → Int32 := if x = -1 then q else upd q (kno x) (q (kno x) + 1)
theorem within_m1 {b : Int32} {s : Sta} : X11_within (-1) 0 b s = some (0, s) := within_f (Or.inl (by decide))
theorem lt8 {y : Nat} (h : y < 8) : nI y < 8 := nI_lt (b := 8) h (by decide)
theorem nlt8 : ¬ nI 8 < (8 : Int32) := by decide
/-- what a year that goes by does to a valley -/
def passed (r : Nat) (σ : Sta) (a b : Int32) (y : Nat) : Sta :=
  up1 (up1 (up1 (up1 (up1 σ (r + 5) (addW (σ.1 (r + 5)) a y)) (r + 6) (addS (σ.1 (r + 6)) b)) (r + 7) (upd (σ.1 (r + 7)) y a)) (r + 8) (upd (σ.1 (r + 8)) y b)) r (upd (upd (σ.1 r) 11 (nI (y + 1))) 12 (σ.1 r 12 + 1))
theorem C_pass {r n y : Nat} {σ : Sta} {a b : Int32} (hn0 : σ.1 r 10 = nI n) (hn6 : n ≤ 6) (hy0 : σ.1 r 11 = nI y) (hy : y < 8) (ha : who n a) (hb : who n b) : X10_pass r a b σ = some ((), passed r σ a b y) := by
  have e0 : ∀ i, 0 < i → r ≠ r + i := fun i h => by omega
  have l70 : ∀ τ : Sta, τ.1 r 11 = nI y → X10_pass_L70 r a b τ = some ((), up1 (up1 (up1 τ (r + 7) (upd (τ.1 (r + 7)) y a)) (r + 8) (upd (τ.1 (r + 8)) y b)) r (upd (upd (τ.1 r) 11 (nI (y + 1))) 12 (τ.1 r 12 + 1))) := by
    intro τ hτ
    rw [X10_pass_L70, fI_e, hτ, sI_n y hy, fI_e, up1_n (e0 7 (by decide)), hτ, sI_n y hy, up1_n (show r + 8 ≠ r + 7 by omega), fI_e, up1_n (e0 8 (by decide)), up1_n (e0 7 (by decide)), hτ, pI_e, up1_n (e0 8 (by decide)), up1_n (e0 7 (by decide)), fI_e, up1_s, updN (by decide), pI_e, up1_s, up1_u, nI_1]
  have l46 : ∀ τ : Sta, τ.1 r 11 = nI y → τ.1 r 10 = nI n → X10_pass_L46 r a b τ = X10_pass_L70 r a b (up1 τ (r + 6) (addS (τ.1 (r + 6)) b)) := by
    intro τ hτ hn
    rw [X10_pass_L46, fI_e, hn]
    rcases hb with rfl | ⟨i, hi, rfl⟩
    · rw [cA_of within_m1, if_pos rfl, addS, if_pos rfl, up1_id]
    · rw [cA_of (within_ct hi (by omega)), if_neg n10, aI_n i (by omega), sI_n i (by omega), addS, if_neg (nm1 (by omega)), kno_n (by omega)]
  rw [X10_pass, fI_e, hy0, if_neg (nI_pos (by omega)), fI_e, hy0, if_pos (lt8 hy), fI_e, hn0]
  have key : X10_pass_L46 r a b (up1 σ (r + 5) (addW (σ.1 (r + 5)) a y)) = some ((), passed r σ a b y) := by
    rw [l46 _ (by rw [up1_n (e0 5 (by decide))]; exact hy0) (by rw [up1_n (e0 5 (by decide))]; exact hn0), l70 _ (by rw [up1_n (e0 6 (by decide)), up1_n (e0 5 (by decide))]; exact hy0)]
    unfold passed
    rw [up1_n (show r + 6 ≠ r + 5 by omega), up1_n (show r + 7 ≠ r + 6 by omega), up1_n (show r + 7 ≠ r + 5 by omega), up1_n (show r + 8 ≠ r + 6 by omega), up1_n (show r + 8 ≠ r + 5 by omega), up1_n (e0 6 (by decide)), up1_n (e0 5 (by decide))]
  rcases ha with rfl | ⟨i, hi, rfl⟩
  · rw [cA_of within_m1, if_pos rfl]
    rw [addW, if_pos rfl, up1_id] at key
    exact key
  · rw [cA_of (within_ct hi (by omega)), if_neg n10, aI_n i (by omega), fI_e, hy0, sI_n i (by omega)]
    rw [addW, if_neg (nm1 (by omega)), kno_n (by omega)] at key
    exact key
