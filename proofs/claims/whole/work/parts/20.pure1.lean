/-! PURE HALF 1: numbers, evaluators, kinds -/
theorem ilt {a b : Int32} : a < b ↔ a.toInt < b.toInt := Int32.lt_iff_toInt_lt
theorem ile {a b : Int32} : a ≤ b ↔ a.toInt ≤ b.toInt := Int32.le_iff_toInt_le
theorem nIt {n : Nat} (h : n < 2 ^ 31) : (nI n).toInt = (n : Int) := nI_toInt h
theorem up1_s (σ : Sta) (k : Nat) (f : Nat → Int32) : (up1 σ k f).1 k = f := by simp [up1, va_up]
theorem up1_n {σ : Sta} {k j : Nat} {f : Nat → Int32} (h : j ≠ k) : (up1 σ k f).1 j = σ.1 j := by simp [up1, va_up, h]
theorem up1_2 (σ : Sta) (k : Nat) (f : Nat → Int32) : (up1 σ k f).2 = σ.2 := rfl
theorem up2_1 (σ : Sta) (k : Nat) (f : Nat → Int64) : (up2 σ k f).1 = σ.1 := rfl
theorem cA_e {α β : Type} (a : α) (s : Sta) (K : α → Sta → Option β) : cA (some (a, s)) K = K a s := rfl
theorem fI_e {β : Type} (σ : Sta) (k i : Nat) (K : Int32 → Option β) : fI σ k i K = K (σ.1 k i) := rfl
theorem fL_e {β : Type} (σ : Sta) (k i : Nat) (K : Int64 → Option β) : fL σ k i K = K (σ.2 k i) := rfl
theorem pI_e {β : Type} (σ : Sta) (k i : Nat) (v : Int32) (K : Sta → Option β) : pI σ k i v K = K (up1 σ k (upd (σ.1 k) i v)) := rfl
theorem pL_e {β : Type} (σ : Sta) (k i : Nat) (v : Int64) (K : Sta → Option β) : pL σ k i v K = K (up2 σ k (vp_updL (σ.2 k) i v)) := rfl
theorem cpI_e {β : Type} (σ : Sta) (k0 k1 n : Nat) (K : Sta → Option β) : cpI σ k0 k1 n K = K (up1 σ k1 (va_cpy (σ.1 k0) (σ.1 k1) 0 0 n)) := rfl
theorem aI_n {β : Type} {σ : Sta} {k n : Nat} {K : Int32 → Option β} (j : Nat) (h : j < n) (hn : n < 2 ^ 31 := by decide) : aI σ k n (nI j) K = K (σ.1 k j) := by
  rw [aI, if_neg (vp_in_nI h hn), nI_clamp (by omega)]
theorem sI_n {β : Type} {σ : Sta} {k n : Nat} {v : Int32} {K : Sta → Option β} (j : Nat) (h : j < n) (hn : n < 2 ^ 31 := by decide) : sI σ k n (nI j) v K = K (up1 σ k (upd (σ.1 k) j v)) := by
  rw [sI, if_neg (vp_in_nI h hn), nI_clamp (by omega)]
theorem sZ_n {β : Type} {σ : Sta} {k n : Nat} {v : Int32} {K : Sta → Option β} (j : Nat) (h : j < n) (hn : n < 2 ^ 31 := by decide) : sZ σ k n (nI j) v K = K (up1 σ k (upd (σ.1 k) j (vp_nar .boolean v))) := by
  rw [sZ, if_neg (vp_in_nI h hn), nI_clamp (by omega)]
theorem aR_n {β : Type} {n : Nat} {K : Nat → Option β} (j : Nat) (h : j < n) (hn : n < 2 ^ 31 := by decide) : aR n (nI j) K = K j := by
  rw [aR, if_neg (vp_in_nI h hn), nI_clamp (by omega)]
theorem rZ_0 (s : Sta) : rZ 0 s = some (0, s) := rfl
theorem rZ_1 (s : Sta) : rZ 1 s = some (1, s) := rfl
def bi (b : Bool) : Int32 := if b then 1 else 0
theorem rZ_b (b : Bool) (s : Sta) : rZ (bi b) s = some (bi b, s) := by cases b <;> rfl
theorem bi_0 (b : Bool) : bi b = 0 ↔ b = false := by cases b <;> simp [bi]
theorem bi_1 (b : Bool) : bi b = 1 ↔ b = true := by cases b <;> simp [bi]
theorem bi_if {β : Type} (b : Bool) (x y : β) : (if bi b = 0 then x else y) = if b then y else x := by cases b <;> simp [bi]
/-- a call whose picture is known -/
theorem cA_of {α β : Type} {f : Option (α × Sta)} {a : α} {s : Sta} {K : α → Sta → Option β} (h : f = some (a, s)) : cA f K = K a s := by rw [h]; rfl
-- within
theorem within_t {x a b : Int32} {s : Sta} (h1 : ¬ x < a) (h2 : ¬ b < x) : X11_within x a b s = some (1, s) := by
  rw [X11_within, if_neg h1, if_neg h2]; rfl
theorem within_f {x a b : Int32} {s : Sta} (h : x < a ∨ b < x) : X11_within x a b s = some (0, s) := by
  rw [X11_within]
  by_cases h1 : x < a
  · rw [if_pos h1]; rfl
  · rw [if_neg h1, if_pos (h.resolve_left h1)]; rfl
/-- 0 .. m -/
theorem within_nt {j m : Nat} {s : Sta} (h : j ≤ m) (hm : m < 2 ^ 31) : X11_within (nI j) 0 (nI m) s = some (1, s) :=
  within_t (nI_pos (by omega)) (nI_nlt h hm)
/-- 0 .. n - 1 -/
theorem within_ct {j n : Nat} {s : Sta} (h : j < n) (hn : n < 2 ^ 31) : X11_within (nI j) 0 (nI n - 1) s = some (1, s) := by
  obtain ⟨m, rfl⟩ : ∃ m, n = m + 1 := ⟨n - 1, by omega⟩
  rw [nI_pred]
  exact within_nt (by omega) (by omega)
theorem within_cf {x : Int32} {n : Nat} {s : Sta} (h : x < 0 ∨ nI n ≤ x) (hn : n < 2 ^ 31) : X11_within x 0 (nI n - 1) s = some (0, s) := by
  refine within_f ?_
  rcases h with h | h
  · exact Or.inl h
  · right
    cases n with
    | zero =>
      rw [nI_0] at h ⊢
      have h0 : (0 - 1 : Int32).toInt = -1 := by decide
      rw [ilt, h0]
      rw [ile] at h
      have : (0 : Int32).toInt = 0 := by decide
      omega
    | succ m =>
      rw [nI_pred, ilt, nIt (by omega)]
      rw [ile, nIt hn] at h
      omega
-- the reference's 'in'
theorem lgc_lt {a b : Int64} : lg_cmp a b < 0 ↔ a < b := by
  unfold lg_cmp
  by_cases h : b < a
  · have h2 : ¬ a < b := fun q => by
      rw [Int64.lt_iff_toInt_lt] at h q
      omega
    simp [h, h2]
    first | done | decide
  · by_cases h2 : a = b
    · subst h2
      simp
      first | done | decide
    · have h3 : a < b := by
        rw [Int64.lt_iff_toInt_lt] at h ⊢
        have : a.toInt ≠ b.toInt := fun q => h2 (Int64.toInt_inj.mp q)
        omega
      simp [h, h2, h3]
      first | done | decide
theorem lgc_gt {a b : Int64} : 0 < lg_cmp a b ↔ b < a := by
  unfold lg_cmp
  by_cases h : b < a
  · simp [h]
    first | done | decide
  · by_cases h2 : a = b
    · simp [h, h2]
      first | done | decide
    · simp [h, h2]
      first | done | decide
theorem in_t {a b c : Int64} {s : Sta} (h1 : ¬ a < b) (h2 : ¬ c < a) : X12_in a b c s = some (1, s) := by
  rw [X12_in, if_neg (fun q => h1 (lgc_lt.mp q)), if_neg (fun q => h2 (lgc_gt.mp q))]; rfl
theorem in_f {a b c : Int64} {s : Sta} (h : a < b ∨ c < a) : X12_in a b c s = some (0, s) := by
  rw [X12_in]
  by_cases h1 : a < b
  · rw [if_pos (lgc_lt.mpr h1)]; rfl
  · rw [if_neg (fun q => h1 (lgc_lt.mp q)), if_pos (lgc_gt.mpr (h.resolve_left h1))]; rfl
theorem wlt {a b : Int32} : a.toInt64 < b.toInt64 ↔ a < b := by
  rw [Int64.lt_iff_toInt_lt, ilt, Int32.toInt_toInt64, Int32.toInt_toInt64]
theorem in32_t {a b c : Int32} {s : Sta} (h1 : ¬ a < b) (h2 : ¬ c < a) : X12_in a.toInt64 b.toInt64 c.toInt64 s = some (1, s) := in_t (fun q => h1 (wlt.mp q)) (fun q => h2 (wlt.mp q))
theorem in32_f {a b c : Int32} {s : Sta} (h : a < b ∨ c < a) : X12_in a.toInt64 b.toInt64 c.toInt64 s = some (0, s) := in_f (h.imp wlt.mpr wlt.mpr)
/-- class and reference test ranges alike -/
theorem in_within (a b c : Int32) (s : Sta) : X12_in a.toInt64 b.toInt64 c.toInt64 s = X11_within a b c s := by
  by_cases h : a < b ∨ c < a
  · rw [in32_f h, within_f h]
  · rw [in32_t (fun q => h (Or.inl q)) (fun q => h (Or.inr q)), within_t (fun q => h (Or.inl q)) (fun q => h (Or.inr q))]
-- kinds
def wantsP (k : Nat) (w l : Int32) : Bool := if k = 1 ∨ k = 5 then !(decide (w < 15) && decide (1 < l)) else if k = 3 then (!(decide (w < 15) && decide (1 < l))) && !(decide (w < 8)) else true
def skillP (k : Nat) (a y : Int32) : Int32 := if k = 3 then a + 1 else if k = 4 then (if y - y / 2 * 2 = 1 then 2 * a else 0) else if k = 5 then (if 0 < a - y / 2 then a - y / 2 else 0) else a
def barP (k : Nat) (n : Int32) : Bool := if k = 2 then !decide (n < 2) else !decide (n < 1)
theorem k6 {P : Nat → Prop} (h0 : P 0) (h1 : P 1) (h2 : P 2) (h3 : P 3) (h4 : P 4) (h5 : P 5) (j : Nat) (hj : j < 6) : P j := by
  rcases (show j = 0 ∨ j = 1 ∨ j = 2 ∨ j = 3 ∨ j = 4 ∨ j = 5 by omega) with rfl | rfl | rfl | rfl | rfl | rfl <;> assumption
theorem V_wants_e {k : Nat} (hk : k < 6) (a b : Int32) (s : Sta) : V_wants k a b s = some (bi (wantsP k a b), s) := by
  rcases (show k = 0 ∨ k = 1 ∨ k = 2 ∨ k = 3 ∨ k = 4 ∨ k = 5 by omega) with rfl | rfl | rfl | rfl | rfl | rfl <;>
    by_cases h1 : a < 15 <;> by_cases h2 : 1 < b <;> by_cases h3 : a < 8 <;> simp [V_wants, X5_wants, X7_wants, X6_wants, wantsP, bi, rZ, cA, h1, h2, h3]
theorem V_skill_e {k : Nat} (hk : k < 6) (a b : Int32) (s : Sta) : V_skill k a b s = some (skillP k a b, s) := by
  rcases (show k = 0 ∨ k = 1 ∨ k = 2 ∨ k = 3 ∨ k = 4 ∨ k = 5 by omega) with rfl | rfl | rfl | rfl | rfl | rfl <;>
    by_cases h1 : b - b / 2 * 2 = 1 <;> by_cases h2 : 0 < a - b / 2 <;> simp [V_skill, X5_skill, X6_skill, X1_skill, X4_skill, skillP, cA, h1, h2]
theorem V_barredBy_e {k : Nat} (hk : k < 6) (a : Int32) (s : Sta) : V_barredBy k a s = some (bi (barP k a), s) := by
  rcases (show k = 0 ∨ k = 1 ∨ k = 2 ∨ k = 3 ∨ k = 4 ∨ k = 5 by omega) with rfl | rfl | rfl | rfl | rfl | rfl <;>
    by_cases h1 : a < 1 <;> by_cases h2 : a < 2 <;> simp [V_barredBy, X5_barredBy, X3_barredBy, barP, bi, rZ, h1, h2]
theorem M_triesAs {k : Nat} (hk : k < 6) (a b : Int32) (s : Sta) : X12_triesAs (nI k) a b s = some (bi (wantsP k a b), s) := by
  rcases (show k = 0 ∨ k = 1 ∨ k = 2 ∨ k = 3 ∨ k = 4 ∨ k = 5 by omega) with rfl | rfl | rfl | rfl | rfl | rfl <;>
    by_cases h1 : a < 15 <;> by_cases h2 : 1 < b <;> by_cases h3 : a < 8 <;> simp [X12_triesAs, X12_triesAs_L16, X12_triesAs_L50, wantsP, bi, rZ, h1, h2, h3, nI]
theorem M_isBarredBy {k : Nat} (hk : k < 6) (a : Int32) (s : Sta) : X12_isBarredBy (nI k) a s = some (bi (barP k a), s) := by
  rcases (show k = 0 ∨ k = 1 ∨ k = 2 ∨ k = 3 ∨ k = 4 ∨ k = 5 by omega) with rfl | rfl | rfl | rfl | rfl | rfl <;>
    by_cases h1 : a < 1 <;> by_cases h2 : a < 2 <;> simp [X12_isBarredBy, X12_isBarredBy_L11, barP, bi, rZ, h1, h2, nI]
theorem old_alike : ∀ a, a < 10 → ∀ y, y < 8 → ((0 < nI a - nI y / 2) ↔ (nI y / 2 < nI a)) := by decide +kernel
theorem M_goodAs {k a y : Nat} (hk : k < 6) (ha : a < 10) (hy : y < 8) (s : Sta) : X12_goodAs (nI k) (nI a) (nI y) s = some (skillP k (nI a) (nI y), s) := by
  have ho := old_alike a ha y hy
  rcases (show k = 0 ∨ k = 1 ∨ k = 2 ∨ k = 3 ∨ k = 4 ∨ k = 5 by omega) with rfl | rfl | rfl | rfl | rfl | rfl <;>
    by_cases h1 : nI y - nI y / 2 * 2 = 1 <;> by_cases h2 : nI y / 2 < nI a <;> simp [X12_goodAs, tsw', skillP, h1, h2, ho] <;> simp [nI]
-- how many bits
def popc : Nat → Nat → Nat
  | 0, _ => 0
  | k + 1, w => w % 2 + popc k (w / 2)
theorem nI_and1 {w : Nat} (h : w < 2 ^ 31) : nI w &&& (1 : Int32) = nI (w % 2) := by
  have h1 := pk_andN (n := w) (by omega) (m := 1) 1 (by decide)
  simpa using h1
theorem popc_0 : ∀ k, popc k 0 = 0
  | 0 => rfl
  | k + 1 => by simp [popc, popc_0 k]
theorem M_bitsL : ∀ (k f w : Nat) (acc : Int32) (s : Sta), w < 2 ^ k → k ≤ 30 → k < f → X12_bits_L4 f acc (nI w) s = some (acc + nI (popc k w), s)
  | k, 0, w, acc, s, _, _, h => by omega
  | 0, f + 1, w, acc, s, h, _, _ => by
    have hw : w = 0 := by simpa using h
    subst hw
    rw [X12_bits_L4, nI_0, if_neg (by decide)]
    simp [popc, nI_0]
  | k + 1, f + 1, w, acc, s, h, hk, hf => by
    rw [X12_bits_L4]
    have hw31 : w < 2 ^ 31 := Nat.lt_of_lt_of_le h (Nat.pow_le_pow_right (by decide) (by omega))
    by_cases h0 : w = 0
    · subst h0
      rw [nI_0, if_neg (by decide), popc_0, nI_0]
      simp
    · have hpos : (0 : Int32) < nI w := by
        have h1 := nI_lt (a := 0) (b := w) (by omega) hw31
        rw [nI_0] at h1
        exact h1
      have hs := pk_shrN hw31 ((1 : Int32) &&& 31) 1 (by decide)
      rw [if_pos hpos, nI_and1 hw31, hs, M_bitsL k f (w / 2 ^ 1) _ s (by rw [Nat.pow_succ] at h; omega) (by omega) (by omega), Int32.add_assoc, nI_add]
      simp [popc]
theorem M_bits {w : Nat} (h : w < 256) (s : Sta) : X12_bits (nI w) s = some (nI (popc 8 w), s) := by
  rw [X12_bits, M_bitsL 8 FU w 0 s h (by decide) (by decide)]
  simp
def bcE (x : Int32) : Int32 := match J6_bitCount_0f7a4 x (fun _ _ => 0, fun _ _ => 0) with
  | some q => q.1
  | none => 0
theorem bcE_e (x : Int32) (s : Sta) : J6_bitCount_0f7a4 x s = some (bcE x, s) := rfl
theorem bcE_p : ∀ w, w < 256 → bcE (nI w) = nI (popc 8 w) := by decide +kernel
theorem within7 {y : Nat} {s : Sta} (h : y < 8) : X11_within (nI y) 0 7 s = some (1, s) := within_nt (m := 7) (by omega) (by decide)
theorem within5 {y : Nat} {s : Sta} (h : y < 6) : X11_within (nI y) 0 5 s = some (1, s) := within_nt (m := 5) (by omega) (by decide)
theorem within2 {y : Nat} {s : Sta} (h : y < 3) : X11_within (nI y) 0 2 s = some (1, s) := within_nt (m := 2) (by omega) (by decide)
theorem within1 {y : Nat} {s : Sta} (h : y < 2) : X11_within (nI y) 0 1 s = some (1, s) := within_nt (m := 1) (by omega) (by decide)
theorem n10 : ¬ (1 : Int32) = 0 := by decide
theorem nm1 {t : Nat} (h : t < 2 ^ 31) : ¬ nI t = -1 := by
  intro e
  have h1 : (nI t).toInt = (-1 : Int32).toInt := by rw [e]
  rw [nIt h] at h1
  have : (-1 : Int32).toInt = -1 := by decide
  omega
theorem m3 (p t : Nat) : nI p * 3 + nI t = nI (3 * p + t) := by
  have h : (3 : Int32) = nI 3 := rfl
  rw [h, pk_mul, nI_add, Nat.mul_comm]
theorem sub7 {y : Nat} (h : y < 8) : (7 : Int32) - nI y = nI (7 - y) := by
  have h1 : (7 : Int32) = nI 7 := rfl
  rw [h1, pk_sub (by omega)]
