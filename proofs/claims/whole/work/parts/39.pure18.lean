/-! PURE HALF 18: odds, valleys by a seed -/
def sA (g : Nat → Int32) : Nat → Int32
  | 0 => 0
  | p + 1 => sA g p + g p
theorem sA_n {g : Nat → Int32} : ∀ n, (∀ p, p < n → ∃ b, b < 19 ∧ g p = nI b) → ∃ s, s ≤ 18 * n ∧ sA g n = nI s ∧ ∀ p b, p < n → b < 19 → g p = nI b → b ≤ s
  | 0, _ => ⟨0, by omega, rfl, fun p b hp => by omega⟩
  | n + 1, h => by
    obtain ⟨s, s1, s2, s3⟩ := sA_n n (fun p hp => h p (by omega))
    obtain ⟨b, b1, b2⟩ := h n (by omega)
    refine ⟨s + b, by omega, by rw [sA, s2, b2, nI_add], fun p c hp hc e => ?_⟩
    by_cases q : p = n
    · subst q
      rw [b2] at e
      have := (nI_eq (by omega) (by omega)).mp e
      omega
    · have := s3 p c (by omega) hc e
      omega
theorem TC_all {N : Nat → Int32} {n y : Nat} {ch so wo : Nat → Int32} {q : Cq} {σ : Sta} (h : TC N n y ch so wo q σ) (hw : Wf N n so wo q) {z : Nat} (hz : z < 8) : ∀ (d p fu : Nat), p + d = n → d < fu → X0_strengthOfAll_L5 55 65 fu (nI z) (sA (gN N ch so wo q z) p) (nI p) σ = some (sA (gN N ch so wo q z) n, σ)
  | d, p, 0, _, h => by omega
  | 0, p, fu + 1, hp, _ => by
    have hn := hw.1
    have e : p = n := by omega
    subst e
    rw [X0_strengthOfAll_L5, fI_e, (TC_g h hw hz).1, if_neg (nI_nlt (Nat.le_refl _) (by omega))]
  | d + 1, p, fu + 1, hp, hf => by
    have hn := hw.1
    rw [X0_strengthOfAll_L5, fI_e, (TC_g h hw hz).1, if_pos (nI_lt (by omega) (by omega)), cA_of (TC_str h hw hz (by omega)), nI_1]
    exact TC_all h hw hz d (p + 1) fu (by omega) (by omega)
-- the fraction
def gdN (b s : Nat) : Nat → Nat → Nat → Nat
  | 0, _, g => g
  | k + 1, d, g => gdN b s k (d + 1) (if b % d = 0 ∧ s % d = 0 then d else g)
theorem gdN_is : ∀ b, b < 19 → ∀ s, s < 109 → 0 < b → gdN b s (b - 1) 2 1 = Nat.gcd b s := by decide +kernel
theorem dvI_n {β : Type} {d : Nat} {F : Option β} (h0 : 0 < d) (h : d < 2 ^ 31) : dvI (nI d) F = F := by rw [dvI, if_neg (nI_ne0 h0 h)]
theorem fracL {b s : Nat} {σ : Sta} (hb : b < 19) (hs : s < 109) : ∀ (k d fu g : Nat), d + k = b + 1 → k < fu → 0 < d → 0 < g → g < 2 ^ 31 → ∃ g', gdN b s k d g = g' ∧ 0 < g' ∧ X11_setFraction_L24 fu (nI b) (nI s) (nI g) (nI d) σ = some ((), up2 (up2 σ 0 (vp_updL (σ.2 0) 7 (lN (b / g')))) 0 (vp_updL ((up2 σ 0 (vp_updL (σ.2 0) 7 (lN (b / g')))).2 0) 8 (lN (s / g'))))
  | k, d, 0, g, _, h, _, _, _ => by omega
  | 0, d, fu + 1, g, hk, _, hd, hg, hg2 => by
    refine ⟨g, rfl, hg, ?_⟩
    have q1 : b / g < 2 ^ 31 := Nat.lt_of_le_of_lt (Nat.div_le_self b g) (by omega)
    have q2 : s / g < 2 ^ 31 := Nat.lt_of_le_of_lt (Nat.div_le_self s g) (by omega)
    rw [X11_setFraction_L24, if_pos (nI_lt (by omega) (by omega)), dvI_n hg hg2, pL_e, dvI_n hg hg2, pL_e, pk_div (by omega) hg hg2, pk_div (by omega) hg hg2, nI_l q1, nI_l q2]
  | k + 1, d, fu + 1, g, hk, hf, hd, hg, hg2 => by
    have z1 : nI (b % d) = (0 : Int32) ↔ b % d = 0 := nI_eq (b := 0) (Nat.lt_of_le_of_lt (Nat.mod_le b d) (by omega)) (by decide)
    have z2 : nI (s % d) = (0 : Int32) ↔ s % d = 0 := nI_eq (b := 0) (Nat.lt_of_le_of_lt (Nat.mod_le s d) (by omega)) (by decide)
    rw [X11_setFraction_L24, if_neg (nI_nlt (by omega) (by omega)), dvI_n hd (by omega), pk_rem (by omega) hd (by omega), pk_rem (by omega) hd (by omega), dvI_n hd (by omega), nI_1, gdN]
    by_cases c1 : b % d = 0
    · rw [if_pos (z1.mpr c1)]
      by_cases c2 : s % d = 0
      · rw [if_pos (z2.mpr c2), if_pos ⟨c1, c2⟩]
        exact fracL hb hs k (d + 1) fu d (by omega) (by omega) (by omega) hd (by omega)
      · rw [if_neg (fun e => c2 (z2.mp e)), if_neg (fun e => c2 e.2)]
        exact fracL hb hs k (d + 1) fu g (by omega) (by omega) (by omega) hg hg2
    · rw [if_neg (fun e => c1 (z1.mp e)), if_neg (fun e => c1 e.1)]
      exact fracL hb hs k (d + 1) fu g (by omega) (by omega) (by omega) hg hg2
theorem updLS (f : Nat → Int64) (k : Nat) (x : Int64) : vp_updL f k x k = x := by simp [vp_updL]
theorem updLN {f : Nat → Int64} {k j : Nat} {x : Int64} (h : j ≠ k) : vp_updL f k x j = f j := by simp [vp_updL, h]
theorem up2_s (σ : Sta) (k : Nat) (f : Nat → Int64) : (up2 σ k f).2 k = f := by simp [up2, va_up]
theorem up2_n {σ : Sta} {k j : Nat} {f : Nat → Int64} (h : j ≠ k) : (up2 σ k f).2 j = σ.2 j := by simp [up2, va_up, h]
theorem lt0n {b : Nat} (h0 : 0 < b) (h : b < 2 ^ 31) : (0 : Int32) < nI b := nI_lt (a := 0) h0 h
theorem C_frac {b s : Nat} (hb : b < 19) (hs : s < 109) (hbs : b ≤ s) (σ : Sta) : ∃ τ, X11_setFraction (nI b) (nI s) σ = some ((), τ) ∧ τ.1 = σ.1 ∧ (∀ k, k ≠ 0 → τ.2 k = σ.2 k) ∧ τ.2 0 7 = (if b = 0 then 0 else lN (b / Nat.gcd b s)) ∧ τ.2 0 8 = (if b = 0 then 1 else lN (s / Nat.gcd b s)) := by
  rw [X11_setFraction, pL_e, pL_e]
  by_cases c : b = 0
  · subst c
    rw [if_neg (show ¬ (0 : Int32) < nI 0 by decide)]
    refine ⟨_, rfl, rfl, fun k hk => ?_, ?_, ?_⟩
    · rw [up2_n hk, up2_n hk]
    · rw [up2_s, updLN (by decide), up2_s, updLS, if_pos rfl]
    · rw [up2_s, updLS, if_pos rfl]
  · rw [if_pos (lt0n (by omega) (by omega)), if_pos (lt0n (by omega) (by omega))]
    have r1 : (up2 (up2 σ 0 (vp_updL (σ.2 0) 7 0)) 0 (vp_updL ((up2 σ 0 (vp_updL (σ.2 0) 7 0)).2 0) 8 1)).1 = σ.1 := rfl
    have r2 : ∀ k, k ≠ 0 → (up2 (up2 σ 0 (vp_updL (σ.2 0) 7 0)) 0 (vp_updL ((up2 σ 0 (vp_updL (σ.2 0) 7 0)).2 0) 8 1)).2 k = σ.2 k := fun k hk => by rw [up2_n hk, up2_n hk]
    generalize up2 (up2 σ 0 (vp_updL (σ.2 0) 7 0)) 0 (vp_updL ((up2 σ 0 (vp_updL (σ.2 0) 7 0)).2 0) 8 1) = ρ at r1 r2 ⊢
    obtain ⟨g, g1, g2, g3⟩ := fracL (σ := ρ) hb hs (b - 1) 2 FU 1 (by omega) (by show _ < 300; omega) (by decide) (by decide) (by decide)
    rw [gdN_is b hb s hs (by omega)] at g1
    subst g1
    refine ⟨_, g3, r1, fun k hk => ?_, ?_, ?_⟩
    · rw [up2_n hk, up2_n hk]; exact r2 k hk
    · rw [up2_s, updLN (by decide), up2_s, updLS, if_neg c]
    · rw [up2_s, updLS, if_neg c]
theorem lN_div {a b : Nat} (ha : a < 2 ^ 63) (hb : b < 2 ^ 63) : lN a / lN b = lN (a / b) := (Int64.ofNat_div ha hb).symm
theorem lN_rem {a b : Nat} (ha : a < 2 ^ 63) (hb : b < 2 ^ 63) : lN a - lN a / lN b * lN b = lN (a % b) := by
  rw [lN_div ha hb, lN_mul, lN_sub (Nat.div_mul_le_self a b)]
  congr 1
  have := Nat.div_add_mod a b
  rw [Nat.mul_comm] at this
  omega
theorem lN_ne {b : Nat} (h0 : 0 < b) (h : b < 2 ^ 31) : ¬ lN b = 0 := fun e => by
  have := (lN_eq (b := 0) h (by decide)).mp e
  omega
theorem euL {x1 x2 : Nat} {σ : Sta} (h1 : x1 < 2 ^ 31) (h2 : x2 < 2 ^ 31) : ∀ (fu a b : Nat), b < fu → a < 2 ^ 31 → b < 2 ^ 31 → 0 < a + b → X12_fraction_L6 fu (lN x1) (lN x2) (lN a) (lN b) σ = some ((), up2 (up2 σ 82 (vp_updL (σ.2 82) 4 (lN (x1 / Nat.gcd a b)))) 82 (vp_updL ((up2 σ 82 (vp_updL (σ.2 82) 4 (lN (x1 / Nat.gcd a b)))).2 82) 5 (lN (x2 / Nat.gcd a b))))
  | 0, a, b, h, _, _, _ => by omega
  | fu + 1, a, b, hf, ha, hb, hp => by
    by_cases c : b = 0
    · subst c
      rw [X12_fraction_L6, if_pos ((lg_cmp_eq _ _).mpr (show lN 0 = 0 from rfl)), dvL, if_neg (lN_ne (by omega) ha), pL_e, dvL, if_neg (lN_ne (by omega) ha), pL_e, Nat.gcd_zero_right, lN_div (by omega) (by omega), lN_div (by omega) (by omega)]
    · have q : a % b < b := Nat.mod_lt a (by omega)
      rw [X12_fraction_L6, if_neg (fun e => lN_ne (show 0 < b by omega) hb ((lg_cmp_eq _ _).mp e)), dvL, if_neg (lN_ne (by omega) hb), lN_rem (by omega) (by omega), euL h1 h2 fu b (a % b) (by omega) hb (by omega) (by omega)]
      have e : Nat.gcd b (a % b) = Nat.gcd a b := by rw [Nat.gcd_comm b, ← Nat.gcd_rec, Nat.gcd_comm]
      rw [e]
theorem M_frac {x1 x2 : Nat} (h1 : x1 < 2 ^ 31) (h2 : x2 < 300) (hp : 0 < x2) (σ : Sta) : ∃ τ, X12_fraction (lN x1) (lN x2) σ = some ((), τ) ∧ τ.1 = σ.1 ∧ (∀ k, k ≠ 82 → τ.2 k = σ.2 k) ∧ τ.2 82 4 = lN (x1 / Nat.gcd x1 x2) ∧ τ.2 82 5 = lN (x2 / Nat.gcd x1 x2) := by
  refine ⟨_, euL (σ := σ) h1 (by omega) FU x1 x2 h2 h1 (by omega) (by omega), rfl, fun k hk => ?_, ?_, ?_⟩
  · rw [up2_n hk, up2_n hk]
  · rw [up2_s, updLN (by decide), up2_s, updLS]
  · rw [up2_s, updLS]
theorem lt1_0 {b : Nat} (hb : b < 19) : nI b < (1 : Int32) ↔ b = 0 := by
  have := nI_ltI (a := b) (b := 1) (by omega) (by decide)
  refine this.trans ?_
  omega
theorem M_oddsL {N : Nat → Int32} {n z p : Nat} {ch so wo : Nat → Int32} {q : Cq} {σ : Sta} (h : HM N n ch so wo q σ) (hw : Wf N n so wo q) (hz : z < 8) (hp0 : p < n) {b s : Nat} (hb : b < 19) (eb : gN N ch so wo q z p = nI b) (es : sA (gN N ch so wo q z) n = nI s) (hs : s < 109) (hbs : b ≤ s) : ∀ (d o fu : Nat), o + d = n → d < fu → ∃ τ, X12_odds_L37 fu (nI p) (nI z) (sA (gN N ch so wo q z) o) (nI o) σ = some (1, τ) ∧ τ.1 = σ.1 ∧ (∀ k, k ≠ 82 → τ.2 k = σ.2 k) ∧ τ.2 82 4 = (if b = 0 then 0 else lN (b / Nat.gcd b s)) ∧ τ.2 82 5 = (if b = 0 then 1 else lN (s / Nat.gcd b s))
  | d, o, 0, _, h => by omega
  | 0, o, fu + 1, ho, _ => by
    have hn := hw.1
    have e : o = n := by omega
    subst e
    rw [X12_odds_L37, cA_of (M_many σ), HM_n h, if_neg (nI_nlt (Nat.le_refl _) (by omega)), cA_of (HM_enters h hw hp0 hz), bi_if, eb]
    by_cases c : b = 0
    · rw [decide_eq_true ((lt1_0 hb).mpr c)]
      obtain ⟨τ, t1, t2, t3, t4, t5⟩ := M_frac (x1 := 0) (x2 := 1) (by decide) (by decide) (by decide) σ
      have t1' : X12_fraction (0 : Int64) (1 : Int64) σ = some ((), τ) := t1
      refine ⟨τ, ?_, t2, t3, ?_, ?_⟩
      · rw [if_neg (by decide), cA_of t1']
      · rw [t4, if_pos c]; rfl
      · rw [t5, if_pos c]; rfl
    · have nlt : ¬ gN N ch so wo q z p < 1 := by rw [eb]; exact fun e => c ((lt1_0 hb).mp e)
      have nlt' : ¬ nI b < (1 : Int32) := fun e => c ((lt1_0 hb).mp e)
      rw [decide_eq_false nlt']
      obtain ⟨τ, t1, t2, t3, t4, t5⟩ := M_frac (x1 := b) (x2 := s) (by omega) (by omega) (by omega) σ
      have hg := HM_good h hw hp0 hz nlt
      refine ⟨τ, ?_, t2, t3, ?_, ?_⟩
      · rw [if_pos (by decide), aI_n z hz, cA_of hg, eb, es, nI_l (by omega), nI_l (by omega), cA_of t1]
      · rw [t4, if_neg c]
      · rw [t5, if_neg c]
  | d + 1, o, fu + 1, ho, hf => by
    have hn := hw.1
    obtain ⟨bo, bo1, bo2⟩ := gN_b (ch := ch) hw (show o < n by omega) hz
    have ih := M_oddsL h hw hz hp0 hb eb es hs hbs d (o + 1) fu (by omega) (by omega)
    rw [X12_odds_L37, cA_of (M_many σ), HM_n h, if_pos (nI_lt (by omega) (by omega)), cA_of (HM_enters h hw (by omega) hz), bi_if, nI_1]
    rw [sA] at ih
    by_cases c : gN N ch so wo q z o < 1
    · rw [decide_eq_true c, if_neg (by decide)]
      rw [bo2] at c
      have := (lt1_0 bo1).mp c
      rw [bo2, this] at ih
      exact ih
    · rw [decide_eq_false c, if_pos (by decide), aI_n z hz, cA_of (HM_good h hw (by omega) hz c)]
      exact ih

theorem P_odds {σ : Sta} (h : Inv σ) (x1 x2 : Int32) : Pair (X11_odds x1 x2) (X12_odds x1 x2) σ := by
  obtain ⟨n, yr, u, nn, nb, hv⟩ := h.1
  have b0 : (badC σ).1 83 0 = nI n := by rw [badC_83]; exact hv.N0
  have b4 : (badC σ).1 83 4 = nI yr := by rw [badC_83]; exact hv.N4
  by_cases e0 : inB x1 0 (nI n - 1) = true
  rotate_left
  · rw [Bool.not_eq_true] at e0; exact pair_bad (a := -2) h (by simp only [X11_odds, C_isOne_b hv.s10, e0, cA_e, bi_if, within_b, C_isArt_b, C_bad, Bool.false_eq_true, ite_false, ite_true, if_true, if_false]) (by simp only [X12_odds, M_isOne_b b0, e0, cA_e, bi_if, M_isYear_b, M_isSort_b, in_01, in_02, in_05, in_06, in_07, in_09, in_30, in_60, in_99, in_12, M_bad, Bool.false_eq_true, ite_false, ite_true, if_true, if_false])
  by_cases e1 : inB x2 (nI yr) 7 = true
  rotate_left
  · rw [Bool.not_eq_true] at e1; exact pair_bad (a := -2) h (by simp only [X11_odds, C_isOne_b hv.s10, C_toCome_b hv.s11, e0, e1, cA_e, bi_if, within_b, C_isArt_b, C_bad, Bool.false_eq_true, ite_false, ite_true, if_true, if_false]) (by simp only [X12_odds, M_isOne_b b0, M_toCome_b b4, e0, e1, cA_e, bi_if, M_isYear_b, M_isSort_b, in_01, in_02, in_05, in_06, in_07, in_09, in_30, in_60, in_99, in_12, M_bad, Bool.false_eq_true, ite_false, ite_true, if_true, if_false])
  obtain ⟨j0, hj0, rfl⟩ := inB_1 hv.n6 e0
  obtain ⟨j1, hj1a, hj1, rfl⟩ := inB_t hv.y8 e1
  have hn := hv.n6
  have hw := hv.cw hj1a (show j1 ≤ 8 by omega)
  obtain ⟨b, b1, b2⟩ := gN_b (ch := ch0) hw hj0 hj1
  obtain ⟨s, s1, s2, s3⟩ := sA_n (g := gCt (σ.1 83) n yr j1) n (fun p hp => gN_b (ch := ch0) hw hp hj1)
  have hbs := s3 j0 b hj0 b1 b2
  obtain ⟨τ1, c1, c2, c3⟩ := hv.begin
  obtain ⟨τ2, d1, d2, d3⟩ := TC_run c2 hv.wf hj1a (show j1 ≤ 8 by omega)
  have k1 := TC_str d2 hw hj1 hj0
  have k2 : X0_strengthOfAll 55 65 (nI j1) τ2 = some (sA (gCt (σ.1 83) n yr j1) n, τ2) := TC_all d2 hw hj1 n 0 FU (by omega) (by show n < 300; omega)
  obtain ⟨τ3, f1, f2, f3, f4, f5⟩ := C_frac b1 (show s < 109 by omega) hbs τ2
  have fr : FrB σ τ2 := c3.tr d3.b
  have t83 : τ3.1 83 = σ.1 83 := by rw [f2]; exact fr.q.at (by unfold isQ; omega)
  have t0 : τ3.1 83 0 = nI n := by rw [t83]; exact hv.N0
  have t4 : τ3.1 83 4 = nI yr := by rw [t83]; exact hv.N4
  have tv : VR σ.1 1 (τ3.1 83) n yr u nn nb := by rw [t83]; exact hv
  obtain ⟨τ4, τ5, g1, g2, g3, g4⟩ := tv.hand hj1a (show j1 ≤ 8 by omega)
  rw [t83] at g3
  obtain ⟨τ6, m1, m2, m3, m4, m5⟩ := M_oddsL g3 hw hj1 hj0 b1 b2 s2 (by omega) hbs n 0 FU (by omega) (by show n < 300; omega)
  refine ⟨1, τ3, τ6, ?_, ?_, ?_⟩
  · simp only [X11_odds, C_isOne_b hv.s10, C_toCome_b hv.s11, e0, e1, cA_e, bi_if, within_b, C_isArt_b, C_bad, Bool.false_eq_true, ite_false, ite_true, if_true, if_false]
    rw [cA_of c1, cA_of d1, cA_of k1, cA_of k2, b2, s2, cA_of f1]
  · simp only [X12_odds, M_isOne_b t0, M_toCome_b t4, e0, e1, cA_e, bi_if, M_isYear_b, M_isSort_b, in_01, in_02, in_05, in_06, in_07, in_09, in_30, in_60, in_99, in_12, M_bad, Bool.false_eq_true, ite_false, ite_true, if_true, if_false]
    rw [cA_of g1, cA_of g2]
    exact m1
  · have hQ : ∀ k, ¬ isQ k → τ6.1 k = σ.1 k := fun k hk => by rw [m2, g4.q.1 k hk, f2, fr.q.1 k hk]
    obtain ⟨v1, v2, v3, v4, v5⟩ := h.q (τ := (τ6.1, σ.2)) ⟨hQ, rfl⟩
    refine ⟨v1, v2, v3, ⟨?_, ?_⟩, v5⟩
    · rw [m3 0 (by decide), g4.2, f4, m4]
    · rw [m3 0 (by decide), g4.2, f5, m5]
