-- handicap
theorem skN : ∀ k, k < 6 → ∀ a, a < 10 → ∀ y, y < 8 → kno (skillP k (nI a) (nI y)) < 19 ∧ skillP k (nI a) (nI y) = nI (kno (skillP k (nI a) (nI y))) := by decide +kernel
theorem gN_b {N ch so wo : Nat → Int32} {q : Cq} {n p y : Nat} (hw : Wf N n so wo q) (hp : p < n) (hy : y < 8) : ∃ b, b < 19 ∧ gN N ch so wo q y p = nI b := by
  unfold gN stg
  by_cases h1 : so y = -1
  · rw [if_pos h1]; exact ⟨0, by decide, rfl⟩
  · rw [if_neg h1]
    obtain ⟨t, ht, et⟩ := (hw.2.2.2.2.1 y hy).resolve_left h1
    obtain ⟨k, hk, ek⟩ := hw.2.1 p hp
    obtain ⟨a, ha, ea⟩ := hw.2.2.1 p hp t ht
    rw [et, kno_n (by omega), ea, ek, kno_n (by omega)]
    generalize (if ch p = -1 then wantsP k (wo y) (nI (7 - y)) else decide (ch p = nI y)) = bb
    generalize barP k (bcE (q.1 p)) = cc
    cases cc with
    | true => exact ⟨0, by decide, rfl⟩
    | false =>
      cases bb with
      | true => exact ⟨_, (skN k hk a ha y hy).1, (skN k hk a ha y hy).2⟩
      | false => exact ⟨0, by decide, rfl⟩
def hc (g : Nat → Int32) (p own : Nat) : Nat → Int32
  | 0 => 0
  | q + 1 => hc g p own q + (if q = p then 0 else if nI (if q < p then own - 1 else own) < g q then g q - nI (if q < p then own - 1 else own) else 0)
theorem VR.str1 {σ : Sta} {N : Nat → Int32} {n yr u nn nb : Nat} (hv : VR σ.1 1 N n yr u nn nb) (hc : ∀ j, j < 6 → σ.1 57 j = -1) {p y : Nat} (hp : p < n) (hy : y < 8) : X0_strength 55 1 (nI p) (nI y) σ = some (gN N ch0 (soN N) (woN N) (qN N) y p, σ) := by
  have hn := hv.n6
  rw [C_strength (c := 55) (r := 1) hv.s10 hv.wfc hp hy]
  have a := hv.ag ch0
  have a2 : Ag n ch0 (kM N) (aM N) (soN N) (woN N) (σ.1 57) (σ.1 4) (σ.1 5) (σ.1 2) (σ.1 3) := ⟨fun p hp => ⟨(hc p (by omega)).symm, (a.1.1 p hp).2.1, (a.1.1 p hp).2.2⟩, a.1.2⟩
  have e := stg_ag a2 hv.wf ((a.2 p hp).1) hp hy
  show some (stg (σ.1 57) (σ.1 4) (σ.1 5) (σ.1 6) (σ.1 2) (σ.1 3) p y, σ) = _
  unfold gN
  rw [e]
theorem sub_pos : ∀ a, a < 19 → ∀ b, b < 19 → ((0 : Int32) < nI a - nI b ↔ nI b < nI a) := by decide +kernel
theorem C_handL {σ : Sta} {N : Nat → Int32} {n yr u nn nb : Nat} (hv : VR σ.1 1 N n yr u nn nb) (h57 : ∀ j, j < 6 → σ.1 57 j = -1) {p own : Nat} (hp : p < n) (ho : 1 ≤ own) (ho2 : own < 19) (hy : yr < 8) : ∀ (d q fu : Nat), q + d = n → d < fu → X0_handicapOf_L78 55 1 fu (nI p) (nI yr) (nI own) (hc (gN N ch0 (soN N) (woN N) (qN N) yr) p own q) (nI q) σ = some (hc (gN N ch0 (soN N) (woN N) (qN N) yr) p own n, σ)
  | d, q, 0, _, h => by omega
  | 0, q, fu + 1, hq, _ => by
    have hn := hv.n6
    have e : q = n := by omega
    subst e
    rw [X0_handicapOf_L78, fI_e, hv.s10, if_neg (nI_nlt (Nat.le_refl _) (by omega))]
  | d + 1, q, fu + 1, hq, hf => by
    have hn := hv.n6
    have ih := C_handL hv h57 hp ho ho2 hy d (q + 1) fu (by omega) (by omega)
    obtain ⟨b, hb, eb⟩ := gN_b (ch := ch0) hv.wf (show q < n by omega) hy
    rw [hc] at ih
    have l108 : ∀ o2, o2 < 19 → X0_handicapOf_L108 55 1 (X0_handicapOf_L78 55 1 fu) (nI p) (nI yr) (nI own) (hc (gN N ch0 (soN N) (woN N) (qN N) yr) p own q) (nI q) (nI o2) σ = X0_handicapOf_L78 55 1 fu (nI p) (nI yr) (nI own) (hc (gN N ch0 (soN N) (woN N) (qN N) yr) p own q + (if nI o2 < gN N ch0 (soN N) (woN N) (qN N) yr q then gN N ch0 (soN N) (woN N) (qN N) yr q - nI o2 else 0)) (nI (q + 1)) σ := by
      intro o2 h2
      rw [X0_handicapOf_L108, cA_of (hv.str1 h57 (by omega) hy), nI_1, eb]
      have := sub_pos b hb o2 h2
      by_cases c : nI o2 < nI b
      · rw [if_pos c, if_pos (this.mpr c)]
      · rw [if_neg c, if_neg (fun q => c (this.mp q))]
    rw [X0_handicapOf_L78, fI_e, hv.s10, if_pos (nI_lt (by omega) (by omega)), nI_1]
    by_cases c : q = p
    · rw [c, if_pos rfl]
      rw [c, if_pos rfl, Int32.add_zero] at ih
      exact ih
    · rw [if_neg (fun e => c ((nI_eq (by omega) (by omega)).mp e))]
      rw [if_neg c] at ih
      by_cases c2 : q < p
      · rw [if_pos (nI_lt c2 (by omega)), predN (by omega), l108 _ (by omega)]
        rw [if_pos c2] at ih
        exact ih
      · rw [if_neg (nI_nlt (by omega) (by omega)), l108 _ (by omega)]
        rw [if_neg c2] at ih
        exact ih
theorem M_handL {N : Nat → Int32} {n y : Nat} {ch so wo : Nat → Int32} {q : Cq} {τ : Sta} (h : HM N n ch so wo q τ) (hw : Wf N n so wo q) (hy : y < 8) {p own : Nat} (hp : p < n) (ho : 1 ≤ own) (ho2 : own < 19) : ∀ (d o fu : Nat), o + d = n → d < fu → X12_handicap_L86 fu (nI p) (nI y) (nI own) (hc (gN N ch so wo q y) p own o) (nI o) τ = some (hc (gN N ch so wo q y) p own n, τ)
  | d, q, 0, _, h => by omega
  | 0, q, fu + 1, hq, _ => by
    have hn := hw.1
    have e : q = n := by omega
    subst e
    rw [X12_handicap_L86, cA_of (M_many τ), HM_n h, if_neg (nI_nlt (Nat.le_refl _) (by omega))]
  | d + 1, o, fu + 1, hq, hf => by
    have hn := hw.1
    have ih := M_handL h hw hy hp ho ho2 d (o + 1) fu (by omega) (by omega)
    obtain ⟨b, hb, eb⟩ := gN_b (ch := ch) hw (show o < n by omega) hy
    rw [hc] at ih
    have l143 : ∀ (o2 z : Int32), X12_handicap_L143 (X12_handicap_L86 fu) (nI p) (nI y) (nI own) (hc (gN N ch so wo q y) p own o) (nI o) o2 z τ = X12_handicap_L86 fu (nI p) (nI y) (nI own) (hc (gN N ch so wo q y) p own o + (if o2 < z then z - o2 else 0)) (nI (o + 1)) τ := by
      intro o2 z
      rw [X12_handicap_L143, nI_1]
      by_cases c : o2 < z
      · rw [if_pos c, if_pos c]
      · rw [if_neg c, if_neg c]
    have l108 : ∀ o2, o2 < 19 → (o = p → 1 ≤ o2) → X12_handicap_L108 (X12_handicap_L86 fu) (nI p) (nI y) (nI own) (hc (gN N ch so wo q y) p own o) (nI o) (nI o2) τ = X12_handicap_L86 fu (nI p) (nI y) (nI own) (hc (gN N ch so wo q y) p own o + (if o = p then 0 else if nI o2 < gN N ch so wo q y o then gN N ch so wo q y o - nI o2 else 0)) (nI (o + 1)) τ := by
      intro o2 h2 h3
      rw [X12_handicap_L108]
      by_cases c : o = p
      · rw [c, if_pos rfl, if_pos rfl]
        rw [c] at l143
        rw [l143, if_neg]
        rw [show (0 : Int32) = nI 0 from rfl]
        exact nI_nlt (by omega) (by omega)
      · rw [if_neg (fun e => c ((nI_eq (by omega) (by omega)).mp e)), if_neg c, cA_of (HM_enters h hw (by omega) hy), bi_if]
        by_cases c2 : gN N ch so wo q y o < 1
        · rw [decide_eq_true c2, l143]
          have b0 : b = 0 := by
            rw [eb, lt1, nIt (by omega)] at c2
            omega
          rw [eb, b0]
          rfl
        · rw [decide_eq_false c2]
          simp only [Bool.not_false, if_true]
          rw [aI_n y hy, cA_of (HM_good h hw (by omega) hy c2), l143]
    rw [X12_handicap_L86, cA_of (M_many τ), HM_n h, if_pos (nI_lt (by omega) (by omega))]
    by_cases c2 : o < p
    · rw [if_pos (nI_lt c2 (by omega)), predN (by omega), l108 _ (by omega) (by omega)]
      rw [if_pos c2] at ih
      exact ih
    · rw [if_neg (nI_nlt (by omega) (by omega)), l108 _ (by omega) (by omega)]
      rw [if_neg c2] at ih
      exact ih
def hcap (N : Nat → Int32) (n yr p : Nat) : Int32 := if yr = 8 then -1 else if soN N yr = -1 then -1 else if barP (kno (kM N p)) (bcE (N (5 + p))) then -1 else if skillP (kno (kM N p)) (aM N (3 * p + kno (soN N yr))) (nI yr) = 0 then -1 else hc (gN N ch0 (soN N) (woN N) (qN N) yr) p (kno (skillP (kno (kM N p)) (aM N (3 * p + kno (soN N yr))) (nI yr))) n
theorem C_hand {σ : Sta} {N : Nat → Int32} {n yr u nn nb : Nat} (hv : VR σ.1 1 N n yr u nn nb) (h57 : ∀ j, j < 6 → σ.1 57 j = -1) {p : Nat} (hp : p < n) : X0_handicapOf 55 1 (nI p) σ = some (hcap N n yr p, σ) := by
  have hn := hv.n6
  rw [X0_handicapOf, fI_e, hv.s11, hcap]
  by_cases c1 : yr = 8
  · subst c1
    rw [if_pos rfl, within_b]
    rfl
  · have hy : yr < 8 := by have := hv.y8; omega
    rw [if_neg c1, cA_of (within7 hy), if_neg n10, aI_n yr hy, show σ.1 (1 + 1) yr = soN N yr from (hv.ye yr hy).1]
    by_cases c2 : soN N yr = -1
    · rw [if_pos c2, if_pos c2]
    · rw [if_neg c2, if_neg c2]
      obtain ⟨p1, p2, p3, p4⟩ := hv.pe p hp
      have hb := C_isBarred (c := 55) (r := 1) hv.wfc hp
      rw [show σ.1 (1 + 3) p = kM N p from p1, show σ.1 (1 + 5) p = N (5 + p) from p2] at hb
      rw [cA_of hb, bi_if]
      by_cases c3 : barP (kno (kM N p)) (bcE (N (5 + p))) = true
      · rw [if_pos c3, if_pos c3]
      · rw [if_neg c3, if_neg c3]
        obtain ⟨t, ht, et⟩ := (hv.so yr hy).resolve_left c2
        obtain ⟨k, hk, ek⟩ := hv.kd p hp
        obtain ⟨a, ha, ea⟩ := hv.ar p hp t ht
        have ek2 : kM N p = nI k := ek
        have et2 : soN N yr = nI t := et
        have ea2 : aM N (3 * p + t) = nI a := ea
        rw [aI_n p (by omega), aI_n yr hy, show σ.1 (1 + 1) yr = nI t from (hv.ye yr hy).1.trans et, m3, aI_n _ (by omega), show σ.1 (1 + 4) (3 * p + t) = nI a from (p4 t ht).trans ea, show σ.1 (1 + 3) p = nI k from p1.trans ek, cA_of (C_skillBy hk _ _ _), ek2, et2, kno_n (by omega), kno_n (by omega), ea2]
        obtain ⟨s1, s2⟩ := skN k hk a ha yr hy
        by_cases c4 : skillP k (nI a) (nI yr) = 0
        · rw [if_pos c4, if_pos (by rw [c4]; decide)]
        · rw [if_neg c4]
          generalize kno (skillP k (nI a) (nI yr)) = w at s1 s2
          rw [s2] at c4 ⊢
          have w0 : 1 ≤ w := by
            rcases Nat.eq_zero_or_pos w with e | e
            · subst e; exact absurd rfl c4
            · exact e
          rw [if_neg (show ¬ nI w < 1 from nI_nlt (show 1 ≤ w from w0) (by omega))]
          exact C_handL hv h57 hp w0 s1 hy n 0 FU (by omega) (by show n < 300; omega)
theorem M_hand {σ τ : Sta} {S : Nat → Nat → Int32} {r n yr u nn nb : Nat} (hv : VR S r (σ.1 83) n yr u nn nb) {p : Nat} (hp : p < n) (h1 : HM (σ.1 83) n ch0 (soN (σ.1 83)) (woN (σ.1 83)) (qN (σ.1 83)) τ) : (if nI yr = (8 : Int32) then (some ((-1 : Int32), τ)) else (aI τ 89 8 (nI yr) (fun v6 => if v6 = (-1 : Int32) then (some ((-1 : Int32), τ)) else (cA (X12_isBarred (nI p) τ) (fun q7 s8 => if q7 = 0 then (aI s8 89 8 (nI yr) (fun v9 => cA (X12_goodOf (nI p) v9 (nI yr) s8) (fun q10 s11 => if q10 = 0 then (some ((-1 : Int32), s11)) else (aI s11 89 8 (nI yr) (fun v12 => cA (X12_goodOf (nI p) v12 (nI yr) s11) (fun q13 s14 => X12_handicap_L86 FU (nI p) (nI yr) q13 (0 : Int32) (0 : Int32) s14)))))) else (some ((-1 : Int32), s8))))))) = some (hcap (σ.1 83) n yr p, τ) := by
  have hn := hv.n6
  rw [hcap]
  by_cases c1 : yr = 8
  · subst c1
    rw [if_pos rfl]
    rfl
  · have hy : yr < 8 := by have := hv.y8; omega
    have e89 : τ.1 89 yr = soN (σ.1 83) yr := ((h1.2.2.2 yr hy).1).symm
    rw [if_neg c1, if_neg (show ¬ nI yr = 8 from fun e => c1 ((nI_eq (b := 8) (by omega) (by decide)).mp e)), aI_n yr hy, e89]
    by_cases c2 : soN (σ.1 83) yr = -1
    · rw [if_pos c2, if_pos c2]
    · rw [if_neg c2, if_neg c2]
      have hb := M_isBarred (HM_wf h1 hv.wf) hp
      rw [h1.1, ← (h1.2.2.1 p hp).2.2.1] at hb
      have hb2 : X12_isBarred (nI p) τ = some (bi (barP (kno (kM (σ.1 83) p)) (bcE (σ.1 83 (5 + p)))), τ) := hb
      rw [cA_of hb2, bi_if]
      by_cases c3 : barP (kno (kM (σ.1 83) p)) (bcE (σ.1 83 (5 + p))) = true
      · rw [if_pos c3, if_pos c3]
      · rw [if_neg c3, if_neg c3]
        obtain ⟨t, ht, et⟩ := (hv.so yr hy).resolve_left c2
        obtain ⟨k, hk, ek⟩ := hv.kd p hp
        obtain ⟨a, ha, ea⟩ := hv.ar p hp t ht
        have ek2 : kM (σ.1 83) p = nI k := ek
        have et2 : soN (σ.1 83) yr = nI t := et
        have ea2 : aM (σ.1 83) (3 * p + t) = nI a := ea
        have tv : VR S r (τ.1 83) n yr u nn nb := by rw [h1.1]; exact hv
        have hg := tv.mgood hp ht hy
        rw [h1.1, ek2, ea2, kno_n (by omega)] at hg
        rw [aI_n yr hy, e89, et2, cA_of hg, ek2, kno_n (by omega), kno_n (by omega), ea2]
        obtain ⟨s1, s2⟩ := skN k hk a ha yr hy
        by_cases c4 : skillP k (nI a) (nI yr) = 0
        · rw [if_pos c4, if_pos c4]
        · rw [if_neg c4, if_neg c4, aI_n yr hy, e89, et2, cA_of hg]
          generalize kno (skillP k (nI a) (nI yr)) = w at s1 s2
          rw [s2] at c4 ⊢
          have w0 : 1 ≤ w := by
            rcases Nat.eq_zero_or_pos w with e | e
            · subst e; exact absurd rfl c4
            · exact e
          exact M_handL h1 hv.wf hy hp w0 s1 n 0 FU (by omega) (by show n < 300; omega)

theorem P_handicap {σ : Sta} (h : Inv σ) (x1 : Int32) : Pair (X11_handicap x1) (X12_handicap x1) σ := by
  obtain ⟨n, yr, u, nn, nb, hv⟩ := h.1
  have b0 : (badC σ).1 83 0 = nI n := by rw [badC_83]; exact hv.N0
  have b4 : (badC σ).1 83 4 = nI yr := by rw [badC_83]; exact hv.N4
  by_cases e0 : inB x1 0 (nI n - 1) = true
  rotate_left
  · rw [Bool.not_eq_true] at e0; exact pair_bad (a := -2) h (by simp only [X11_handicap, C_isOne_b hv.s10, e0, cA_e, bi_if, within_b, C_isArt_b, C_bad, Bool.false_eq_true, ite_false, ite_true, if_true, if_false]) (by simp only [X12_handicap, M_isOne_b b0, e0, cA_e, bi_if, M_isYear_b, M_isSort_b, in_01, in_02, in_05, in_06, in_07, in_09, in_30, in_60, in_99, in_12, M_bad, Bool.false_eq_true, ite_false, ite_true, if_true, if_false])
  obtain ⟨j0, hj0, rfl⟩ := inB_1 hv.n6 e0
  refine pair_q h (a := hcap (σ.1 83) n yr j0) ?_ (fun τ hτ => ?_)
  · simp only [X11_handicap, C_isOne_b hv.s10, e0, cA_e, bi_if, within_b, C_isArt_b, C_bad, Bool.false_eq_true, ite_false, ite_true, if_true, if_false]
    rw [allByKind_e, cA_e]
    have hv' : VR (up1 σ (55 + 2) (fun j => if j < 6 then -1 else σ.1 (55 + 2) j)).1 1 (σ.1 83) n yr u nn nb := hv.cell (fun i hi => up1_n (by omega))
    rw [cA_of (C_hand hv' (fun j hj => by rw [up1_s]; exact if_pos hj) hj0)]
    exact ⟨_, rfl, FrQ.up (by unfold isQ; omega)⟩
  · have t83 : τ.1 83 = σ.1 83 := hτ.at (by unfold isQ; omega)
    have t0 : τ.1 83 0 = nI n := by rw [t83]; exact hv.N0
    have t4 : τ.1 83 4 = nI yr := by rw [t83]; exact hv.N4
    have tv : VR σ.1 1 (τ.1 83) n yr u nn nb := by rw [t83]; exact hv
    simp only [X12_handicap, M_isOne_b t0, e0, cA_e, bi_if, M_isYear_b, M_isSort_b, in_01, in_02, in_05, in_06, in_07, in_09, in_30, in_60, in_99, in_12, M_bad, Bool.false_eq_true, ite_false, ite_true, if_true, if_false]
    obtain ⟨τ1, f1, f2, f3⟩ := tv.lay
    rw [aI4, t4, cA_of f1]
    have := M_hand tv hj0 f2
    rw [t83] at this
    exact ⟨τ1, this, f3.q⟩
