/-! PURE HALF 6: the reference's contests and years -/
theorem a4 (p : Nat) : (4 : Int32) + nI p = nI (4 + p) := nI_add 4 p
theorem a5 (p : Nat) : (5 : Int32) + nI p = nI (5 + p) := nI_add 5 p
theorem a11 (p : Nat) : (11 : Int32) + nI p = nI (11 + p) := nI_add 11 p
theorem a17 (p : Nat) : (17 : Int32) + nI p = nI (17 + p) := nI_add 17 p
theorem a41 (p : Nat) : (41 : Int32) + nI p = nI (41 + p) := nI_add 41 p
theorem a49 (p : Nat) : (49 : Int32) + nI p = nI (49 + p) := nI_add 49 p
theorem m23 (p t : Nat) : ((23 : Int32) + (3 : Int32) * nI p) + nI t = nI (23 + (3 * p + t)) := by
  have h1 : (3 : Int32) = nI 3 := rfl
  have h2 : (23 : Int32) = nI 23 := rfl
  rw [h1, h2, pk_mul, nI_add, nI_add, Nat.add_assoc]
def kM (N : Nat → Int32) : Nat → Int32 := fun p => N (17 + p)
def aM (N : Nat → Int32) : Nat → Int32 := fun j => N (23 + j)
def chM (t : Nat → Int32) : Nat → Int32 := fun p => if t p = -2 then -1 else t p
def wfM (n : Nat) (σ : Sta) : Prop := WF n (kM (σ.1 83)) (aM (σ.1 83)) (σ.1 87) (σ.1 89) (σ.1 90) ∧ ∀ p, p < n → σ.1 91 p ≠ -1
def gM (σ : Sta) (y : Nat) : Nat → Int32 := fun p => stg (chM (σ.1 91)) (kM (σ.1 83)) (aM (σ.1 83)) (σ.1 87) (σ.1 89) (σ.1 90) p y
theorem aI0 {β : Type} {σ : Sta} {k n : Nat} {K : Int32 → Option β} (h : 0 < n) (hn : n < 2 ^ 31 := by decide) : aI σ k n (0 : Int32) K = K (σ.1 k 0) := aI_n 0 h hn
theorem M_many (σ : Sta) : X12_many σ = some (σ.1 83 0, σ) := by rw [X12_many, aI0 (by decide)]
theorem M_isBarred {n p : Nat} {σ : Sta} (hw : wfM n σ) (hp : p < n) : X12_isBarred (nI p) σ = some (bi (barP (kno (kM (σ.1 83) p)) (bcE (σ.1 87 p))), σ) := by
  obtain ⟨⟨hn, hk, ha, hwi, hso, hwo⟩, -⟩ := hw
  obtain ⟨k, hk6, ek⟩ := hk p hp
  obtain ⟨w, hw8, ew⟩ := hwi p hp
  have ek2 : σ.1 83 (17 + p) = nI k := ek
  rw [X12_isBarred, a17, aI_n (17 + p) (by omega), ek2, aI_n p (by omega), ew, cA_of (M_bits hw8 σ), cA_of (M_isBarredBy hk6 _ σ), rZ_b, bcE_p w hw8]
  unfold kM
  rw [ek2, kno_n (by omega)]
theorem M_tries {n p y : Nat} {σ : Sta} (hw : wfM n σ) (hp : p < n) (hy : y < 8) : X12_tries (nI p) (nI y) σ = some (bi (if chM (σ.1 91) p = -1 then wantsP (kno (kM (σ.1 83) p)) (σ.1 90 y) (nI (7 - y)) else decide (chM (σ.1 91) p = nI y)), σ) := by
  obtain ⟨⟨hn, hk, ha, hwi, hso, hwo⟩, hch⟩ := hw
  obtain ⟨k, hk6, ek⟩ := hk p hp
  have ek2 : σ.1 83 (17 + p) = nI k := ek
  rw [X12_tries, aI_n p (by omega)]
  by_cases h : σ.1 91 p = -2
  · have e : chM (σ.1 91) p = -1 := by rw [chM, if_pos h]
    rw [if_pos h, a17, aI_n (17 + p) (by omega), ek2, aI_n y hy, sub7 hy, cA_of (M_triesAs hk6 _ _ σ), rZ_b, if_pos e]
    unfold kM
    rw [ek2, kno_n (by omega)]
  · have e : chM (σ.1 91) p = σ.1 91 p := by rw [chM, if_neg h]
    rw [if_neg h, aI_n p (by omega), e, if_neg (hch p hp)]
    by_cases h2 : σ.1 91 p = nI y
    · rw [if_pos h2, decide_eq_true h2]; rfl
    · rw [if_neg h2, decide_eq_false h2]; rfl
theorem M_goodOf {n p t y : Nat} {σ : Sta} (hw : wfM n σ) (hp : p < n) (ht : t < 3) (hy : y < 8) : X12_goodOf (nI p) (nI t) (nI y) σ = some (skillP (kno (kM (σ.1 83) p)) (aM (σ.1 83) (3 * p + t)) (nI y), σ) := by
  obtain ⟨⟨hn, hk, ha, hwi, hso, hwo⟩, hch⟩ := hw
  obtain ⟨k, hk6, ek⟩ := hk p hp
  obtain ⟨a, ha10, ea⟩ := ha p hp t ht
  have ek2 : σ.1 83 (17 + p) = nI k := ek
  have ea2 : σ.1 83 (23 + (3 * p + t)) = nI a := ea
  rw [X12_goodOf, a17, aI_n (17 + p) (by omega), ek2, m23, aI_n (23 + (3 * p + t)) (by omega), ea2, cA_of (M_goodAs hk6 ha10 hy σ), ek, ea, kno_n (by omega)]
/-- what one is good for, if one enters -/
theorem M_goodIf {n p y : Nat} {σ : Sta} (hw : wfM n σ) (hp : p < n) (hy : y < 8) (h : ¬ gM σ y p < 1) : X12_goodOf (nI p) (σ.1 89 y) (nI y) σ = some (gM σ y p, σ) := by
  unfold gM stg at h ⊢
  by_cases h1 : σ.1 89 y = -1
  · rw [if_pos h1] at h
    exact absurd (by decide) h
  · rw [if_neg h1] at h ⊢
    obtain ⟨t, ht, et⟩ := (hw.1.2.2.2.2.1 y hy).resolve_left h1
    by_cases h2 : barP (kno (kM (σ.1 83) p)) (bcE (σ.1 87 p)) = true
    · rw [if_pos h2] at h
      exact absurd (by decide) h
    · rw [if_neg h2] at h ⊢
      by_cases h3 : (if chM (σ.1 91) p = -1 then wantsP (kno (kM (σ.1 83) p)) (σ.1 90 y) (nI (7 - y)) else decide (chM (σ.1 91) p = nI y)) = true
      · rw [if_pos h3, et, kno_n (by omega)]
        exact M_goodOf hw hp ht hy
      · rw [if_neg h3] at h
        exact absurd (by decide) h
theorem M_enters {n p y : Nat} {σ : Sta} (hw : wfM n σ) (hp : p < n) (hy : y < 8) : X12_enters (nI p) (nI y) σ = some (bi (!decide (gM σ y p < 1)), σ) := by
  rw [X12_enters, aI_n y hy]
  unfold gM stg
  by_cases h1 : σ.1 89 y = -1
  · rw [if_pos h1, if_pos h1]; rfl
  · rw [if_neg h1, if_neg h1, cA_of (M_isBarred hw hp)]
    obtain ⟨t, ht, et⟩ := (hw.1.2.2.2.2.1 y hy).resolve_left h1
    by_cases h2 : barP (kno (kM (σ.1 83) p)) (bcE (σ.1 87 p)) = true
    · rw [h2]; rfl
    · rw [if_neg h2, Bool.not_eq_true] at *
      rw [h2]
      simp only [bi, Bool.false_eq_true, if_false, if_true]
      rw [cA_of (M_tries hw hp hy)]
      by_cases h3 : (if chM (σ.1 91) p = -1 then wantsP (kno (kM (σ.1 83) p)) (σ.1 90 y) (nI (7 - y)) else decide (chM (σ.1 91) p = nI y)) = true
      · rw [if_pos h3, h3]
        simp only [bi, if_true, if_neg n10]
        rw [aI_n y hy, et, cA_of (M_goodOf hw hp ht hy), kno_n (by omega)]
        by_cases h4 : skillP (kno (kM (σ.1 83) p)) (aM (σ.1 83) (3 * p + t)) (nI y) < 1
        · rw [if_pos h4, decide_eq_true h4]; rfl
        · rw [if_neg h4, decide_eq_false h4]; rfl
      · rw [if_neg h3]
        rw [Bool.not_eq_true] at h3
        rw [h3]
        rfl
def mb (g : Nat → Int32) (x : Int32) : Nat → Int32 × Int32
  | 0 => (-1, 0)
  | p + 1 => if nI p = x then mb g x p else if g p < 1 then mb g x p else if (mb g x p).2 < g p then (nI p, g p) else mb g x p
theorem M_bestL {n y : Nat} {x : Int32} {σ : Sta} (hn0 : σ.1 83 0 = nI n) (hw : wfM n σ) (hy : y < 8) : ∀ (d p fu : Nat), p + d = n → d < fu → X12_bestIn_L8 fu (nI y) x (mb (gM σ y) x p).1 (mb (gM σ y) x p).2 (nI p) σ = some ((mb (gM σ y) x n).1, σ)
  | d, p, 0, _, h => by omega
  | 0, p, fu + 1, hpd, _ => by
    have e : p = n := by omega
    subst e
    rw [X12_bestIn_L8, cA_of (M_many σ), hn0, if_neg (nI_nlt (Nat.le_refl _) (by have := hw.1.1; omega))]
  | d + 1, p, fu + 1, hpd, hf => by
    have hn6 := hw.1.1
    have ih := M_bestL hn0 hw hy (x := x) d (p + 1) fu (by omega) (by omega)
    rw [X12_bestIn_L8, cA_of (M_many σ), hn0, if_pos (nI_lt (by omega) (by omega)), nI_1]
    by_cases c1 : nI p = x
    · rw [if_pos c1]
      rw [show mb (gM σ y) x (p + 1) = mb (gM σ y) x p by rw [mb, if_pos c1]] at ih
      exact ih
    · rw [if_neg c1, cA_of (M_enters hw (by omega) hy)]
      by_cases c2 : gM σ y p < 1
      · rw [decide_eq_true c2]
        rw [show mb (gM σ y) x (p + 1) = mb (gM σ y) x p by rw [mb, if_neg c1, if_pos c2]] at ih
        exact ih
      · rw [decide_eq_false c2, if_neg (by decide), aI_n y hy, cA_of (M_goodIf hw (by omega) hy c2)]
        by_cases c3 : (mb (gM σ y) x p).2 < gM σ y p
        · rw [if_pos c3, aI_n y hy, cA_of (M_goodIf hw (by omega) hy c2)]
          rw [show mb (gM σ y) x (p + 1) = (nI p, gM σ y p) by rw [mb, if_neg c1, if_neg c2, if_pos c3]] at ih
          exact ih
        · rw [if_neg c3]
          rw [show mb (gM σ y) x (p + 1) = mb (gM σ y) x p by rw [mb, if_neg c1, if_neg c2, if_neg c3]] at ih
          exact ih
theorem M_bestIn {n y : Nat} {x : Int32} {σ : Sta} (hn0 : σ.1 83 0 = nI n) (hw : wfM n σ) (hy : y < 8) : X12_bestIn (nI y) x σ = some ((mb (gM σ y) x n).1, σ) :=
  M_bestL hn0 hw hy n 0 FU (by omega) (by have := hw.1.1; show n < 300; omega)
-- one pass and two passes
theorem mb_pos (g : Nat → Int32) (x : Int32) : ∀ n, 0 ≤ (mb g x n).2.toInt
  | 0 => by
    show (0 : Int) ≤ (0 : Int32).toInt
    decide
  | p + 1 => by
    rw [mb]
    split
    · exact mb_pos g x p
    · split
      · exact mb_pos g x p
      · split
        · rename_i h1 h2 h3
          rw [ilt] at h3
          have := mb_pos g x p
          show 0 ≤ (g p).toInt
          omega
        · exact mb_pos g x p
theorem lt1 {x : Int32} : x < 1 ↔ x.toInt < 1 := by rw [ilt]; rfl
theorem mb_far {g : Nat → Int32} {i : Nat} (hi : i < 2 ^ 31) : ∀ p, p ≤ i → mb g (nI i) p = mb g (-1) p
  | 0, _ => rfl
  | p + 1, h => by
    rw [mb, mb, mb_far hi p (by omega), if_neg (fun e => by have := (nI_eq (by omega) hi).mp e; omega), if_neg (nm1 (by omega))]
theorem hs_mb {g : Nat → Int32} : ∀ n, n ≤ 6 → (hs g n).1 = (mb g (-1) n).1 ∧ (hs g n).2.1 = (mb g (-1) n).2 ∧ ((hs g n).1 = -1 → (hs g n).2.2.1 = -1 ∧ (hs g n).2.2.2 = 0 ∧ (hs g n).2.1 = 0) ∧ ((hs g n).1 ≠ -1 → (hs g n).2.2.1 = (mb g (hs g n).1 n).1 ∧ (hs g n).2.2.2 = (mb g (hs g n).1 n).2)
  | 0, _ => ⟨rfl, rfl, fun _ => ⟨rfl, rfl, rfl⟩, fun h => absurd rfl h⟩
  | p + 1, h6 => by
    obtain ⟨h1, h2, h3, h4⟩ := hs_mb (g := g) p (by omega)
    have hpos := mb_pos g (-1) p
    have hpm : ¬ nI p = -1 := nm1 (by omega)
    by_cases c1 : (hs g p).2.1 < g p
    · have c1' : (mb g (-1) p).2 < g p := by rw [← h2]; exact c1
      have c2 : ¬ g p < 1 := by rw [lt1]; rw [ilt] at c1'; omega
      have e1 : hs g (p + 1) = (nI p, g p, (hs g p).1, (hs g p).2.1) := by rw [hs, if_pos c1]
      have e2 : mb g (-1) (p + 1) = (nI p, g p) := by rw [mb, if_neg hpm, if_neg c2, if_pos c1']
      rw [e1, e2]
      refine ⟨rfl, rfl, fun h => absurd h hpm, fun _ => ?_⟩
      have e3 : mb g (nI p) (p + 1) = mb g (-1) p := by rw [mb, if_pos rfl, mb_far (by omega) p (Nat.le_refl p)]
      show (hs g p).1 = (mb g (nI p) (p + 1)).1 ∧ (hs g p).2.1 = (mb g (nI p) (p + 1)).2
      rw [e3]
      exact ⟨h1, h2⟩
    · have c1' : ¬ (mb g (-1) p).2 < g p := by rw [← h2]; exact c1
      have e2 : mb g (-1) (p + 1) = mb g (-1) p := by
        rw [mb, if_neg hpm]
        by_cases c0 : g p < 1
        · rw [if_pos c0]
        · rw [if_neg c0, if_neg c1']
      have hwho := (hs_who g p).1
      by_cases c2 : (hs g p).2.2.2 < g p
      · have e1 : hs g (p + 1) = ((hs g p).1, (hs g p).2.1, nI p, g p) := by rw [hs, if_neg c1, if_pos c2]
        have hne : (hs g p).1 ≠ -1 := by
          intro e
          obtain ⟨-, q2, q3⟩ := h3 e
          rw [q2] at c2
          rw [q3] at c1
          exact c1 c2
        obtain ⟨g1, g2⟩ := h4 hne
        rw [e1, e2]
        refine ⟨h1, h2, fun h => absurd h hne, fun _ => ?_⟩
        have hpos2 := mb_pos g (hs g p).1 p
        have c3 : ¬ g p < 1 := by
          rw [g2, ilt] at c2
          rw [lt1]
          omega
        obtain ⟨i, hi, ei⟩ := hwho.resolve_left hne
        have c4 : ¬ nI p = (hs g p).1 := by
          rw [ei]
          intro e
          have := (nI_eq (by omega) (by omega)).mp e
          omega
        show nI p = (mb g (hs g p).1 (p + 1)).1 ∧ g p = (mb g (hs g p).1 (p + 1)).2
        rw [mb, if_neg c4, if_neg c3, if_pos (by rw [← g2]; exact c2)]
        exact ⟨rfl, rfl⟩
      · have e1 : hs g (p + 1) = hs g p := by rw [hs, if_neg c1, if_neg c2]
        rw [e1, e2]
        refine ⟨h1, h2, h3, fun hne => ?_⟩
        obtain ⟨g1, g2⟩ := h4 hne
        obtain ⟨i, hi, ei⟩ := hwho.resolve_left hne
        have c4 : ¬ nI p = (hs g p).1 := by
          rw [ei]
          intro e
          have := (nI_eq (by omega) (by omega)).mp e
          omega
        have e3 : mb g (hs g p).1 (p + 1) = mb g (hs g p).1 p := by
          rw [mb, if_neg c4]
          by_cases c0 : g p < 1
          · rw [if_pos c0]
          · rw [if_neg c0, if_neg (by rw [← g2]; exact c2)]
        rw [e3]
        exact ⟨g1, g2⟩
theorem M_goYear {n y : Nat} {σ : Sta} (hn0 : σ.1 83 0 = nI n) (hw : wfM n σ) (hy : y < 8) : X12_goYear (nI y) σ = some ((hs (gM σ y) n).1, up1 (up1 σ 87 (addW (σ.1 87) (hs (gM σ y) n).1 y)) 88 (addS (σ.1 88) (hs (gM σ y) n).2.2.1)) := by
  have hn6 := hw.1.1
  obtain ⟨h1, h2, h3, h4⟩ := hs_mb (g := gM σ y) n hn6
  obtain ⟨w1, w2⟩ := hs_who (gM σ y) n
  generalize hs (gM σ y) n = q at *
  have l40 : ∀ (τ : Sta) (a : Int32), X12_goYear_L40 a q.2.2.1 τ = some (a, up1 τ 88 (addS (τ.1 88) q.2.2.1)) := by
    intro τ a
    rw [X12_goYear_L40]
    rcases w2 with e | ⟨i, hi, e⟩
    · rw [e, if_pos rfl, addS, if_pos rfl, up1_id]
    · rw [e, if_neg (nm1 (by omega)), aI_n i (by omega), sI_n i (by omega), addS, if_neg (nm1 (by omega)), kno_n (by omega)]
  have l22 : X12_goYear_L22 (nI y) q.1 q.2.2.1 σ = some (q.1, up1 (up1 σ 87 (addW (σ.1 87) q.1 y)) 88 (addS (σ.1 88) q.2.2.1)) := by
    rw [X12_goYear_L22]
    rcases w1 with e | ⟨i, hi, e⟩
    · rw [e, if_pos rfl, l40, addW, if_pos rfl, up1_id]
    · rw [e, if_neg (nm1 (by omega)), aI_n i (by omega), sI_n i (by omega), l40, addW, if_neg (nm1 (by omega)), kno_n (by omega), up1_n (by decide)]
  rw [X12_goYear, cA_of (M_bestIn hn0 hw hy), ← h1]
  by_cases e : q.1 = -1
  · rw [if_pos e]
    rw [(h3 e).1] at l22
    rw [l22, (h3 e).1]
  · rw [if_neg e, cA_of (M_bestIn hn0 hw hy), ← (h4 e).1]
    exact l22
