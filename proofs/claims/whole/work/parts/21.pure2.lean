/-! PURE HALF 2: how good one is in a contest; who wins -/
/-- a course that is as told: n people, kinds, arts, wins, sorts, worths -/
def WF (n : Nat) (kd ar wi so wo : Nat → Int32) : Prop := n ≤ 6 ∧ (∀ p, p < n → ∃ k, k < 6 ∧ kd p = nI k) ∧ (∀ p, p < n → ∀ t, t < 3 → ∃ a, a < 10 ∧ ar (3 * p + t) = nI a) ∧ (∀ p, p < n → ∃ w, w < 256 ∧ wi p = nI w) ∧ (∀ y, y < 8 → so y = -1 ∨ ∃ t, t < 3 ∧ so y = nI t) ∧ (∀ y, y < 8 → ∃ w, w ≤ 30 ∧ wo y = nI w)
def kno (x : Int32) : Nat := x.toNatClampNeg
theorem kno_n {k : Nat} (h : k < 2 ^ 31) : kno (nI k) = k := nI_clamp h
def stg (ch kd ar wi so wo : Nat → Int32) (p y : Nat) : Int32 :=
  if so y = -1 then 0 else if barP (kno (kd p)) (bcE (wi p)) then 0 else
  if (if ch p = -1 then wantsP (kno (kd p)) (wo y) (nI (7 - y)) else decide (ch p = nI y)) then skillP (kno (kd p)) (ar (3 * p + kno (so y))) (nI y) else 0
theorem C_isBarred {c r n p : Nat} {σ : Sta} (hw : WF n (σ.1 (r + 3)) (σ.1 (r + 4)) (σ.1 (r + 5)) (σ.1 (r + 1)) (σ.1 (r + 2))) (hp : p < n) : X0_isBarred c r (nI p) σ = some (bi (barP (kno (σ.1 (r + 3) p)) (bcE (σ.1 (r + 5) p))), σ) := by
  obtain ⟨hn, hk, ha, hwi, hso, hwo⟩ := hw
  obtain ⟨k, hk6, ek⟩ := hk p hp
  rw [X0_isBarred, aI_n p (by omega), ek, cA_of (within5 hk6), if_neg n10, aR_n k hk6, aI_n p (by omega), cA_of (bcE_e _ _), cA_of (V_barredBy_e hk6 _ _), kno_n (by omega)]
  cases barP k (bcE (σ.1 (r + 5) p)) <;> rfl
theorem C_strength {c r n p y : Nat} {σ : Sta} (hn0 : σ.1 r 10 = nI n) (hw : WF n (σ.1 (r + 3)) (σ.1 (r + 4)) (σ.1 (r + 5)) (σ.1 (r + 1)) (σ.1 (r + 2))) (hp : p < n) (hy : y < 8) : X0_strength c r (nI p) (nI y) σ = some (stg (σ.1 (c + 2)) (σ.1 (r + 3)) (σ.1 (r + 4)) (σ.1 (r + 5)) (σ.1 (r + 1)) (σ.1 (r + 2)) p y, σ) := by
  have hb := C_isBarred (c := c) hw hp
  obtain ⟨hn, hk, ha, hwi, hso, hwo⟩ := hw
  obtain ⟨k, hk6, ek⟩ := hk p hp
  rw [X0_strength, fI_e, hn0, cA_of (within_ct hp (by omega)), if_neg n10, cA_of (within7 hy), if_neg n10, aI_n y hy, stg]
  by_cases h1 : σ.1 (r + 1) y = -1
  · rw [if_pos h1, if_pos h1]
  · rw [if_neg h1, if_neg h1]
    obtain ⟨t, ht, et⟩ := (hso y hy).resolve_left h1
    rw [aI_n p (by omega), ek, cA_of (within5 hk6), if_neg n10, cA_of hb, ek, kno_n (by omega)]
    cases hbar : barP k (bcE (σ.1 (r + 5) p)) with
    | true => rfl
    | false =>
      simp only [bi, Bool.false_eq_true, if_false, if_true]
      rw [aI_n p (by omega)]
      have last : ∀ (b : Bool), X0_strength_L125 c r (nI p) (nI y) (nI k) (bi b) σ = some (if b then skillP k (σ.1 (r + 4) (3 * p + kno (σ.1 (r + 1) y))) (nI y) else 0, σ) := by
        intro b
        cases b with
        | false => rfl
        | true =>
          rw [X0_strength_L125, if_neg (by decide), aR_n k hk6, aI_n y hy, et, m3, aI_n (3 * p + t) (by omega), cA_of (V_skill_e hk6 _ _ _), kno_n (by omega)]
          rfl
      by_cases h2 : σ.1 (c + 2) p = -1
      · rw [if_pos h2, if_pos h2, X0_strength_L80, if_neg n10, aR_n k hk6, aI_n y hy, sub7 hy, cA_of (V_wants_e hk6 _ _ _), last]
      · rw [if_neg h2, if_neg h2, X0_strength_L80, if_pos rfl, aI_n p (by omega)]
        by_cases h3 : σ.1 (c + 2) p = nI y
        · rw [if_pos h3, decide_eq_true h3]
          exact last true
        · rw [if_neg h3, decide_eq_false h3]
          exact last false
