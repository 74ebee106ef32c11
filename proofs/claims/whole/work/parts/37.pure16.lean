/-! PURE HALF 16: whose wins are whose; left, best, order -/
theorem orI (a b : Nat) : nI a ||| nI b = nI (a ||| b) := Int32.toBitVec_inj.mp (by
  rw [Int32.toBitVec_or]
  exact BitVec.ofNat_or.symm)
def tb (x : Int32) (z : Nat) : Bool := (kno x).testBit z
theorem tb_n {w z : Nat} (h : w < 2 ^ 31) : tb (nI w) z = w.testBit z := by rw [tb, kno_n h]
theorem bt_tb {w z : Nat} (h : w < 256) (hz : z < 8) : bt (nI w) z = if tb (nI w) z then 1 else 0 := by
  rw [bt_n w h z hz, tb_n (by omega), ← Nat.toNat_testBit]
  cases w.testBit z <;> rfl
theorem addW_tb {n y p z : Nat} {w : Nat → Int32} {x : Int32} (hn : n ≤ 6) (h : ∀ p, p < n → ∃ v, v < 256 ∧ w p = nI v) (hy : y < 8) (hx : who n x) (hp : p < n) : tb (addW w x y p) z = (tb (w p) z || (decide (y = z) && decide (x = nI p))) := by
  obtain ⟨v, hv, ev⟩ := h p hp
  rcases hx with rfl | ⟨i, hi, rfl⟩
  · rw [addW, if_pos rfl, decide_eq_false (show ¬ (-1 : Int32) = nI p from fun e => nm1 (t := p) (by omega) e.symm), Bool.and_false, Bool.or_false]
  · rw [addW, if_neg (nm1 (by omega)), kno_n (by omega)]
    by_cases e : p = i
    · subst e
      rw [updS, ev, (orb v hv y hy).1, tb_n (by have := (orb v hv y hy).2; omega), tb_n (by omega), Nat.testBit_or, Nat.testBit_two_pow, decide_eq_true rfl, Bool.and_true]
    · rw [updN e, decide_eq_false (show ¬ nI i = nI p from fun e2 => e ((nI_eq (by omega) (by omega)).mp e2).symm), Bool.and_false, Bool.or_false]
/-- who wins year z of a run from y on -/
abbrev win (N : Nat → Int32) (n : Nat) (ch so wo : Nat → Int32) (y : Nat) (q : Cq) (z : Nat) : Int32 := (hs (gN N ch so wo (rN N n ch so wo (z - y) y q) z) n).1
theorem rn_tb {N : Nat → Int32} {n : Nat} {ch so wo : Nat → Int32} {p z : Nat} (hp : p < n) : ∀ (d y : Nat) (q : Cq), Wf N n so wo q → y + d ≤ 8 → tb ((rN N n ch so wo d y q).1 p) z = (tb (q.1 p) z || (decide (y ≤ z ∧ z < y + d) && decide (win N n ch so wo y q z = nI p)))
  | 0, y, q, hw, hy => by
    rw [decide_eq_false (show ¬ (y ≤ z ∧ z < y + 0) by omega), Bool.false_and, Bool.or_false]
    rfl
  | d + 1, y, q, hw, hy => by
    have ih := rn_tb (ch := ch) (z := z) hp d (y + 1) (sN N n ch so wo y q) (WF_stp hw (by omega)) (by omega)
    have e0 : rN N n ch so wo (d + 1) y q = rN N n ch so wo d (y + 1) (sN N n ch so wo y q) := rfl
    rw [e0, ih]
    have es : tb ((sN N n ch so wo y q).1 p) z = (tb (q.1 p) z || (decide (y = z) && decide (win N n ch so wo y q y = nI p))) := by
      have := addW_tb (z := z) hw.1 hw.2.2.2.1 (show y < 8 by omega) (hs_who (gN N ch so wo q y) n).1 hp
      rw [show win N n ch so wo y q y = (hs (gN N ch so wo q y) n).1 by unfold win; rw [Nat.sub_self]; rfl]
      exact this
    rw [es]
    by_cases c : y = z
    · subst c
      rw [decide_eq_true (show y = y from rfl), decide_eq_false (show ¬ (y + 1 ≤ y ∧ y < y + 1 + d) by omega), decide_eq_true (show y ≤ y ∧ y < y + (d + 1) by omega), Bool.false_and, Bool.or_false]
    · rw [decide_eq_false c, Bool.false_and, Bool.or_false]
      by_cases c2 : y ≤ z ∧ z < y + (d + 1)
      · have e1 : win N n ch so wo (y + 1) (sN N n ch so wo y q) z = win N n ch so wo y q z := by
          unfold win
          rw [show z - y = (z - (y + 1)) + 1 by omega]
          rfl
        rw [decide_eq_true c2, decide_eq_true (show y + 1 ≤ z ∧ z < y + 1 + d by omega), e1]
      · rw [decide_eq_false c2, decide_eq_false (show ¬ (y + 1 ≤ z ∧ z < y + 1 + d) by omega), Bool.false_and, Bool.false_and]
theorem tb_lt {w y z : Nat} (h : w < 2 ^ y) (hy : y ≤ 8) (hz : y ≤ z) : tb (nI w) z = false := by
  have h8 : w < 256 := Nat.lt_of_lt_of_le h (Nat.pow_le_pow_right (n := 2) (by decide) hy)
  rw [tb_n (by omega)]
  exact Nat.testBit_lt_two_pow (Nat.lt_of_lt_of_le h (Nat.pow_le_pow_right (by decide) hz))
-- left
def orA (wi : Nat → Int32) : Nat → Int32
  | 0 => 0
  | p + 1 => orA wi p ||| wi p
theorem orA_n {wi : Nat → Int32} {z : Nat} : ∀ n, (∀ p, p < n → ∃ v, v < 256 ∧ wi p = nI v) → ∃ v, v < 256 ∧ orA wi n = nI v ∧ (v.testBit z = true ↔ ∃ p, p < n ∧ tb (wi p) z = true)
  | 0, _ => ⟨0, by decide, rfl, by
    rw [Nat.zero_testBit]
    exact ⟨fun h => by simp at h, fun ⟨p, hp, _⟩ => by omega⟩⟩
  | n + 1, h => by
    obtain ⟨v, v1, v2, v3⟩ := orA_n (z := z) n (fun p hp => h p (by omega))
    obtain ⟨w, w1, w2⟩ := h n (by omega)
    refine ⟨v ||| w, Nat.or_lt_two_pow (n := 8) v1 w1, by rw [orA, v2, w2, orI], ?_⟩
    rw [Nat.testBit_or, Bool.or_eq_true, v3]
    constructor
    · rintro (⟨p, hp, e⟩ | e)
      · exact ⟨p, by omega, e⟩
      · exact ⟨n, by omega, by rw [w2, tb_n (by omega)]; exact e⟩
    · rintro ⟨p, hp, e⟩
      by_cases c : p = n
      · subst c
        rw [w2, tb_n (by omega)] at e
        exact Or.inr e
      · exact Or.inl ⟨p, by omega, e⟩
def lfS (so W : Nat → Int32) : Nat → Nat → Int32 → Int32
  | 0, _, acc => acc
  | d + 1, y, acc => lfS so W d (y + 1) (if W y = -1 then (if so y = -1 then acc else acc ||| ((1 : Int32) <<< (nI y &&& 31))) else acc)
abbrev winC (N : Nat → Int32) (n yr z : Nat) : Int32 := win N n ch0 (soN N) (woN N) yr (qN N) z
theorem C_left2 {σ : Sta} {N W : Nat → Int32} {n yr u nn nb : Nat} {won : Int32} (hv : VR σ.1 1 N n yr u nn nb) : ∀ (d y fu : Nat) (acc : Int32), y + d = 8 → d < fu → (∀ z, y ≤ z → z < 8 → (bt won z = 0 ↔ W z = -1)) → X2_untaken_L52 1 fu won acc (nI y) σ = some (lfS (soN N) W d y acc, σ)
  | d, y, 0, acc, _, h, _ => by omega
  | 0, y, fu + 1, acc, hy, _, hW => by
    have e : y = 8 := by omega
    subst e
    rw [X2_untaken_L52, if_neg nlt8]
    rfl
  | d + 1, y, fu + 1, acc, hy, hf, hW => by
    have e : σ.1 (1 + 1) y = soN N y := (hv.ye y (by omega)).1
    rw [X2_untaken_L52, if_pos (lt8 (by omega)), aI_n y (by omega), e, lfS, nI_1]
    have w := hW y (Nat.le_refl _) (by omega)
    have ih := fun acc => C_left2 (W := W) (won := won) hv d (y + 1) fu acc (by omega) (by omega) (fun z z1 z2 => hW z (by omega) z2)
    by_cases c1 : soN N y = -1
    · rw [if_pos c1, if_pos c1, ite_self, ih]
    · rw [if_neg c1, if_neg c1]
      by_cases c2 : W y = -1
      · rw [if_pos c2, if_pos (show (won >>> (nI y &&& 31)) &&& (1 : Int32) = 0 from w.mpr c2), ih]
      · rw [if_neg c2, if_neg (show ¬ (won >>> (nI y &&& 31)) &&& (1 : Int32) = 0 from fun e => c2 (w.mp e)), ih]
theorem C_left1 {σ : Sta} {n : Nat} {q : Nat → Int32} (hn : n ≤ 6) (h10 : σ.1 65 10 = nI n) (h70 : ∀ p, p < n → σ.1 70 p = q p) : ∀ (d p fu : Nat), p + d = n → d < fu → X2_untaken_L15 1 fu (orA q p) (nI p) σ = X2_untaken_L52 1 FU (orA q n) 0 (σ.1 1 11) σ
  | d, p, 0, _, h => by omega
  | 0, p, fu + 1, hp, _ => by
    have e : p = n := by omega
    subst e
    rw [X2_untaken_L15, fI_e, h10, if_neg (nI_nlt (Nat.le_refl _) (by omega)), fI_e]
  | d + 1, p, fu + 1, hp, hf => by
    rw [X2_untaken_L15, fI_e, h10, if_pos (nI_lt (by omega) (by omega)), aI_n p (by omega), show σ.1 (65 + 5) p = q p from h70 p (by omega), nI_1]
    exact C_left1 hn h10 h70 d (p + 1) fu (by omega) (by omega)
theorem VR.q {σ τ : Sta} {N : Nat → Int32} {n yr u nn nb : Nat} (h : VR σ.1 1 N n yr u nn nb) (e : FrQ σ τ) : VR τ.1 1 N n yr u nn nb := h.cell (fun i hi => e.1 _ (by unfold isQ; omega))
theorem VR.wonIs {S : Nat → Nat → Int32} {r : Nat} {N : Nat → Int32} {n yr u nn nb : Nat} (h : VR S r N n yr u nn nb) {z : Nat} (h1 : yr ≤ z) (h2 : z < 8) : bt (orA (cur N n yr 8).1 n) z = 0 ↔ winC N n yr z = -1 := by
  have hw8 := h.cw h.y8 (Nat.le_refl 8)
  obtain ⟨v, v1, v2, v3⟩ := orA_n (wi := (cur N n yr 8).1) (z := z) n hw8.2.2.2.1
  have key : (∃ p, p < n ∧ tb ((cur N n yr 8).1 p) z = true) ↔ winC N n yr z ≠ -1 := by
    constructor
    · rintro ⟨p, hp, e⟩
      rw [rn_tb hp (8 - yr) yr (qN N) h.wf (by have := h.y8; omega)] at e
      obtain ⟨w, w1, w2⟩ := h.wi p hp
      rw [show (qN N).1 p = nI w from w2, tb_lt w1 h.y8 h1, Bool.false_or, Bool.and_eq_true] at e
      have e2 := of_decide_eq_true e.2
      show winC N n yr z ≠ -1
      rw [show winC N n yr z = nI p from e2]
      exact nm1 (by have := h.n6; omega)
    · intro hne
      obtain ⟨p, hp, e⟩ := (hs_who (gN N ch0 (soN N) (woN N) (cur N n yr z) z) n).1.resolve_left hne
      refine ⟨p, hp, ?_⟩
      rw [rn_tb hp (8 - yr) yr (qN N) h.wf (by have := h.y8; omega), decide_eq_true (show win N n ch0 (soN N) (woN N) yr (qN N) z = nI p from e), decide_eq_true (show yr ≤ z ∧ z < yr + (8 - yr) by omega)]
      simp
  rw [v2, bt_tb v1 h2, tb_n (by omega)]
  rw [key] at v3
  by_cases c : v.testBit z = true
  · rw [if_pos c]
    exact ⟨fun e => absurd e (by decide), fun e => absurd e (v3.mp c)⟩
  · rw [if_neg c]
    exact ⟨fun _ => Classical.not_not.mp (fun e => c (v3.mpr e)), fun _ => rfl⟩
theorem rN_1 (N : Nat → Int32) (n : Nat) (ch so wo : Nat → Int32) (d y : Nat) (q : Cq) : rN N n ch so wo (d + 1) y q = sN N n ch so wo (y + d) (rN N n ch so wo d y q) := by
  rw [show rN N n ch so wo (d + 1) y q = rn n ch (kM N) (aM N) so wo (d + 1) y q from rfl, rn_add d 1 y q]
  rfl
theorem M_leftL {N : Nat → Int32} {n yr : Nat} (hy8 : yr ≤ 8) (hw0 : Wf N n (soN N) (woN N) (qN N)) : ∀ (d y fu : Nat) (acc : Int32) (σ : Sta), y + d = 8 → yr ≤ y → d < fu → HM N n ch0 (soN N) (woN N) (cur N n yr y) σ → ∃ τ, X12_left_L13 fu acc (nI y) σ = some (lfS (soN N) (winC N n yr) d y acc, τ) ∧ FrH σ τ
  | d, y, 0, acc, σ, _, _, h, _ => by omega
  | 0, y, fu + 1, acc, σ, hy, _, _, hH => by
    have e : y = 8 := by omega
    subst e
    refine ⟨σ, ?_, FrH.rf σ⟩
    rw [X12_left_L13, if_neg nlt8]
    rfl
  | d + 1, y, fu + 1, acc, σ, hy, hyr, hf, hH => by
    have hw : Wf N n (soN N) (woN N) (cur N n yr y) := WF_rn _ _ _ hw0 (by omega)
    obtain ⟨τ1, e1, e2, e3⟩ := HM_year hH hw (z := y) (by omega)
    have e2' : HM N n ch0 (soN N) (woN N) (cur N n yr (y + 1)) τ1 := by
      have := rN_1 N n ch0 (soN N) (woN N) (y - yr) yr (qN N)
      rw [show yr + (y - yr) = y by omega, show y - yr + 1 = y + 1 - yr by omega] at this
      unfold cur
      rw [this]
      exact e2
    have ih := fun acc => M_leftL hy8 hw0 d (y + 1) fu acc τ1 (by omega) (by omega) (by omega) e2'
    have s89 : τ1.1 89 y = soN N y := ((e2'.2.2.2 y (by omega)).1).symm
    rw [X12_left_L13, if_pos (lt8 (by omega)), cA_of e1, lfS, nI_1]
    by_cases c1 : winC N n yr y = -1
    · rw [if_pos (show (hs (gN N ch0 (soN N) (woN N) (cur N n yr y) y) n).1 = -1 from c1), if_pos c1, aI_n y (by omega), s89]
      by_cases c2 : soN N y = -1
      · rw [if_pos c2, if_pos c2, Int32.or_zero]
        obtain ⟨τ, t1, t2⟩ := ih acc
        exact ⟨τ, t1, e3.tr t2⟩
      · rw [if_neg c2, if_neg c2]
        obtain ⟨τ, t1, t2⟩ := ih (acc ||| ((1 : Int32) <<< (nI y &&& 31)))
        exact ⟨τ, t1, e3.tr t2⟩
    · rw [if_neg (show ¬ (hs (gN N ch0 (soN N) (woN N) (cur N n yr y) y) n).1 = -1 from c1), if_neg c1, Int32.or_zero]
      obtain ⟨τ, t1, t2⟩ := ih acc
      exact ⟨τ, t1, e3.tr t2⟩
theorem P_left {σ : Sta} (h : Inv σ) : Pair X11_left X12_left σ := by
  obtain ⟨n, yr, u, nn, nb, hv⟩ := h.1
  have hn := hv.n6
  have hy8 := hv.y8
  refine pair_q h (a := lfS (soN (σ.1 83)) (winC (σ.1 83) n yr) (8 - yr) yr 0) ?_ (fun τ hτ => ?_)
  · obtain ⟨τ1, τ, e1, e2, e3, e4⟩ := hv.trial
    have hv2 := hv.q e4.q
    obtain ⟨ch', kd', ar', so', wo', q', h1, h2, h3⟩ := e3
    obtain ⟨g1, g2, g3, g4, g5, g6, g7, g8, g9⟩ := h1
    have L1 := C_left1 (σ := τ) (n := n) (q := (cur (σ.1 83) n yr 8).1) hn g1 (fun p hp => by rw [g8]; exact ((h3 p hp).1).symm) n 0 FU (by omega) (by show n < 300; omega)
    have L2 := C_left2 (won := orA (cur (σ.1 83) n yr 8).1 n) (W := winC (σ.1 83) n yr) hv2 (8 - yr) yr FU 0 (by omega) (by show _ < 300; omega) (fun z z1 z2 => hv.wonIs z1 z2)
    refine ⟨τ, ?_, e4.q⟩
    have L1' : X2_untaken_L15 1 FU (0 : Int32) (0 : Int32) τ = X2_untaken_L52 1 FU (orA (cur (σ.1 83) n yr 8).1 n) 0 (τ.1 1 11) τ := L1
    have hu : X2_untaken 1 σ = some (lfS (soN (σ.1 83)) (winC (σ.1 83) n yr) (8 - yr) yr 0, τ) := by
      rw [X2_untaken, cA_of e1, cA_of e2, L1', hv2.s11, L2]
    rw [X11_left, cA_of hu]
  · have t83 : τ.1 83 = σ.1 83 := hτ.at (by unfold isQ; omega)
    have tv : VR σ.1 1 (τ.1 83) n yr u nn nb := by rw [t83]; exact hv
    obtain ⟨τ1, e1, e2, e3⟩ := tv.lay
    have e2' : HM (τ.1 83) n ch0 (soN (τ.1 83)) (woN (τ.1 83)) (cur (τ.1 83) n yr yr) τ1 := by
      unfold cur
      rw [Nat.sub_self]
      exact e2
    obtain ⟨τ2, f1, f2⟩ := M_leftL hy8 tv.wf (8 - yr) yr FU 0 τ1 (by omega) (Nat.le_refl _) (by show _ < 300; omega) e2'
    rw [t83] at f1
    refine ⟨τ2, ?_, e3.q.tr f2.q⟩
    rw [X12_left, cA_of e1, aI4, e2.1, tv.N4]
    exact f1
-- one who tries in one year alone
theorem mb_win {g : Nat → Int32} {x : Int32} {p : Nat} (hp : p < 2 ^ 31) : ∀ n, n ≤ 6 → (mb g x n).1 = nI p → ¬ g p < 1
  | 0, _, h => absurd h.symm (nm1 hp)
  | n + 1, h6, h => by
    rw [mb] at h
    split at h
    · exact mb_win hp n (by omega) h
    · split at h
      · exact mb_win hp n (by omega) h
      · split at h
        · rename_i h1 h2 h3
          have := (nI_eq (by omega) hp).mp h
          rw [← this]
          exact h2
        · exact mb_win hp n (by omega) h
theorem hs_win {g : Nat → Int32} {n p : Nat} (hn : n ≤ 6) (hp : p < 2 ^ 31) (h : (hs g n).1 = nI p) : ¬ g p < 1 := mb_win hp n hn ((hs_mb (g := g) n hn).1.symm.trans h)
theorem stg_not {ch kd ar wi so wo : Nat → Int32} {p y z : Nat} (h : ch p = nI y) (hy : y < 8) (hz : z < 8) (hne : y ≠ z) : stg ch kd ar wi so wo p z = 0 := by
  unfold stg
  rw [h, if_neg (nm1 (t := y) (by omega)), decide_eq_false (fun e => hne ((nI_eq (by omega) (by omega)).mp e))]
  simp
theorem try_tb {N : Nat → Int32} {n : Nat} {ch so wo : Nat → Int32} {q : Cq} {p y yr e z : Nat} (hw : Wf N n so wo q) (hp : p < n) (hc : ch p = nI y) (h1 : yr ≤ y) (h2 : y < 8) (h3 : y + 1 ≤ e) (h4 : e ≤ 8) (hz : z < 8) : tb ((rN N n ch so wo (e - yr) yr q).1 p) z = (tb (q.1 p) z || (decide (z = y) && decide (win N n ch so wo yr q y = nI p))) := by
  rw [rn_tb hp (e - yr) yr q hw (by omega)]
  by_cases c : z = y
  · subst c
    rw [decide_eq_true (show yr ≤ z ∧ z < yr + (e - yr) by omega), decide_eq_true (show z = z from rfl)]
  · rw [decide_eq_false c, Bool.false_and, Bool.or_false]
    by_cases c2 : win N n ch so wo yr q z = nI p
    · have hn := hw.1
      have := hs_win (g := gN N ch so wo (rN N n ch so wo (z - yr) yr q) z) hn (p := p) (by omega) c2
      refine absurd ?_ this
      rw [show gN N ch so wo (rN N n ch so wo (z - yr) yr q) z p = 0 from stg_not hc h2 hz (fun e => c e.symm)]
      decide
    · rw [decide_eq_false c2, Bool.and_false, Bool.or_false]
theorem wwi_tb {wi wo : Nat → Int32} {p z w : Nat} (h : wi p = nI w) (hw : w < 256) (hz : z < 8) : wwi wi wo p z = if tb (wi p) z then wo z else 0 := by
  rw [wwi, h, bt_tb hw hz]
  cases tb (nI w) z
  · exact Int32.zero_mul
  · exact Int32.one_mul _
theorem wsm_one {a b wo : Nat → Int32} {p y : Nat} (h : ∀ z, z < 8 → z ≠ y → wwi a wo p z = wwi b wo p z) (h0 : wwi b wo p y = 0) : ∀ k, k ≤ 8 → wsm a wo p k = wsm b wo p k + (if y < k then wwi a wo p y else 0)
  | 0, _ => by
    rw [if_neg (by omega)]
    rfl
  | k + 1, hk => by
    rw [wsm, wsm, wsm_one h h0 k (by omega)]
    by_cases c : k = y
    · subst c
      rw [h0, if_neg (by omega), if_pos (by omega), Int32.add_zero]
    · rw [h k (by omega) c]
      by_cases c2 : y < k
      · rw [if_pos c2, if_pos (by omega), Int32.add_assoc, Int32.add_assoc, Int32.add_comm (wwi a wo p y)]
      · rw [if_neg c2, if_neg (by omega), Int32.add_zero, Int32.add_zero]
theorem try_ws {N : Nat → Int32} {n : Nat} {ch so wo : Nat → Int32} {q : Cq} {p y yr e w : Nat} (hw : Wf N n so wo q) (hp : p < n) (hc : ch p = nI y) (h1 : yr ≤ y) (h2 : y < 8) (h3 : y + 1 ≤ e) (h4 : e ≤ 8) (hq : q.1 p = nI w) (hqw : w < 2 ^ yr) : wsm (rN N n ch so wo (8 - yr) yr q).1 wo p 8 = wsm q.1 wo p 8 + wwi (rN N n ch so wo (e - yr) yr q).1 wo p y := by
  have hw8 : Wf N n so wo (rN N n ch so wo (8 - yr) yr q) := WF_rn _ _ _ hw (by omega)
  have hwe : Wf N n so wo (rN N n ch so wo (e - yr) yr q) := WF_rn _ _ _ hw (by omega)
  obtain ⟨v, v1, v2⟩ := hw.2.2.2.1 p hp
  obtain ⟨v8, v81, v82⟩ := hw8.2.2.2.1 p hp
  obtain ⟨ve, ve1, ve2⟩ := hwe.2.2.2.1 p hp
  have t8 := fun z hz => try_tb (z := z) hw hp hc h1 h2 (show y + 1 ≤ 8 by omega) (Nat.le_refl 8) hz
  have te := fun z hz => try_tb (z := z) hw hp hc h1 h2 h3 h4 hz
  have z0 : tb (q.1 p) y = false := by rw [hq]; exact tb_lt hqw (by omega) h1
  rw [wsm_one (b := q.1) (y := y) (fun z hz hne => by
    rw [wwi_tb v82 v81 hz, wwi_tb v2 v1 hz, t8 z hz, decide_eq_false hne, Bool.false_and, Bool.or_false]) (by
    rw [wwi_tb v2 v1 h2, z0]
    rfl) 8 (Nat.le_refl 8), if_pos h2, wwi_tb v82 v81 h2, wwi_tb ve2 ve1 h2, t8 y h2, te y h2]
-- best
abbrev bV (N : Nat → Int32) (n yr p y : Nat) : Int32 := wwi (rN N n (upd ch0 p (nI y)) (soN N) (woN N) (y + 1 - yr) yr (qN N)).1 (woN N) p y
def bsS (V : Nat → Int32) : Nat → Nat → Int32 → Int32 → Int32 × Int32
  | 0, _, a, b => (a, b)
  | d + 1, y, a, b => if a < V y then bsS V d (y + 1) (V y) (nI y) else bsS V d (y + 1) a b
theorem C_bestL {N : Nat → Int32} {n yr u nn nb p : Nat} (hp : p < n) : ∀ (d y fu : Nat) (a b : Int32) (σ : Sta), y + d = 8 → yr ≤ y → d < fu → VR σ.1 1 N n yr u nn nb → ∃ τ, X2_bestYear_L11 1 fu (nI p) a b (nI y) σ = some ((bsS (bV N n yr p) d y a b).2, τ) ∧ FrB σ τ
  | d, y, 0, a, b, σ, _, _, h, _ => by omega
  | 0, y, fu + 1, a, b, σ, hy, _, _, hv => by
    have e : y = 8 := by omega
    subst e
    exact ⟨σ, by rw [X2_bestYear_L11, if_neg nlt8]; rfl, FrB.rf σ⟩
  | d + 1, y, fu + 1, a, b, σ, hy, hyr, hf, hv => by
    have hn := hv.n6
    obtain ⟨τ1, e1, e2, e3⟩ := hv.begin
    obtain ⟨τ2, f1, f2, f3⟩ := TC_choose e2 (p := p) (by omega) (nI y)
    obtain ⟨τ3, g1, g2, g3⟩ := TC_run (e := y + 1) f2 hv.wf (by omega) (by omega)
    have w1 := TC_wi g2 (p := p) (z := y) hn hp (by omega)
    have fr : FrB σ τ3 := (e3.tr f3).tr g3.b
    have hv3 := hv.q fr.q
    rw [X2_bestYear_L11, if_pos (lt8 (by omega)), cA_of e1, cA_of f1, nI_1, cA_of g1, cA_of w1, bsS]
    by_cases c : a < bV N n yr p y
    · rw [if_pos c, if_pos c, cA_of w1]
      obtain ⟨τ, t1, t2⟩ := C_bestL hp d (y + 1) fu (bV N n yr p y) (nI y) τ3 (by omega) (by omega) (by omega) hv3
      exact ⟨τ, t1, fr.tr t2⟩
    · rw [if_neg c, if_neg c]
      obtain ⟨τ, t1, t2⟩ := C_bestL hp d (y + 1) fu a b τ3 (by omega) (by omega) (by omega) hv3
      exact ⟨τ, t1, fr.tr t2⟩
theorem addsub (a b : Int32) : a + b - a = b := by rw [Int32.add_comm, Int32.add_sub_cancel]
theorem M_winsBy {σ : Sta} {S : Nat → Nat → Int32} {r n yr u nn nb p y : Nat} (h : VR S r (σ.1 83) n yr u nn nb) (hp : p < n) (h1 : yr ≤ y) (h2 : y < 8) : ∃ τ, X12_winsBy (nI p) (nI y) σ = some (bV (σ.1 83) n yr p y, τ) ∧ FrL σ τ := by
  have hn := h.n6
  obtain ⟨τ1, e1, e2, e3⟩ := h.lay
  have w0 := HM_ws e2 h.wf hp
  have c1 := HM_ch e2 (p := p) (z := y) h2
  obtain ⟨τ2, f1, f2, f3⟩ := HM_till (e := 8) c1 h.wf h.N4 h.y8 (Nat.le_refl 8)
  have f1' : X12_goTill (8 : Int32) (up1 τ1 91 (upd (τ1.1 91) p (nI y))) = some ((), τ2) := f1
  have w8 := HM_ws f2 (WF_rn _ _ _ h.wf (by have := h.y8; omega)) hp
  obtain ⟨w, x1, x2⟩ := h.wi p hp
  refine ⟨τ2, ?_, (e3.tr (FrL.up (by unfold isL; omega))).tr f3.l⟩
  rw [X12_winsBy, cA_of e1, cA_of w0, sI_n p (by omega), cA_of f1', cA_of w8, try_ws (ch := upd ch0 p (nI y)) (y := y) (e := y + 1) h.wf hp (updS _ _ _) h1 h2 (Nat.le_refl _) (by omega) x2 x1, addsub]
theorem M_bestYL {N : Nat → Int32} {S : Nat → Nat → Int32} {r n yr u nn nb p : Nat} {x2 : Int32} (hv : VR S r N n yr u nn nb) (hp : p < n) : ∀ (d y fu : Nat) (a b : Int32) (σ : Sta), y + d = 8 → yr ≤ y → d < fu → σ.1 83 = N → ∃ τ, X12_best_L38 fu (nI p) x2 b a (nI y) σ = some (if x2 = 0 then (bsS (bV N n yr p) d y a b).2 else if (bsS (bV N n yr p) d y a b).2 = -1 then (bsS (bV N n yr p) d y a b).2 else (bsS (bV N n yr p) d y a b).1, τ) ∧ FrL σ τ
  | d, y, 0, a, b, σ, _, _, h, _ => by omega
  | 0, y, fu + 1, a, b, σ, hy, _, _, h83 => by
    have e : y = 8 := by omega
    subst e
    refine ⟨σ, ?_, FrL.rf σ⟩
    rw [X12_best_L38, if_neg nlt8, bsS]
    by_cases c1 : x2 = 0
    · rw [if_pos c1, if_pos c1]
    · rw [if_neg c1, if_neg c1]
      by_cases c2 : b = -1
      · rw [if_pos c2, if_pos c2]
      · rw [if_neg c2, if_neg c2]
  | d + 1, y, fu + 1, a, b, σ, hy, hyr, hf, h83 => by
    obtain ⟨τ1, e1, e2⟩ := M_winsBy (σ := σ) (S := S) (r := r) (u := u) (nn := nn) (nb := nb) (by rw [h83]; exact hv) hp hyr (by omega)
    rw [h83] at e1
    have t83 : τ1.1 83 = N := by rw [e2.1 83 (by unfold isL; omega)]; exact h83
    rw [X12_best_L38, if_pos (lt8 (by omega)), cA_of e1, bsS]
    by_cases c : a < bV N n yr p y
    · rw [if_pos c, X12_best_L67, if_pos c, nI_1]
      obtain ⟨τ, t1, t2⟩ := M_bestYL (x2 := x2) hv hp d (y + 1) fu (bV N n yr p y) (nI y) τ1 (by omega) (by omega) (by omega) t83
      rw [if_pos c]
      exact ⟨τ, t1, e2.tr t2⟩
    · rw [if_neg c, X12_best_L67, if_neg c, nI_1]
      obtain ⟨τ, t1, t2⟩ := M_bestYL (x2 := x2) hv hp d (y + 1) fu a b τ1 (by omega) (by omega) (by omega) t83
      rw [if_neg c]
      exact ⟨τ, t1, e2.tr t2⟩
theorem bs_most {V wo : Nat → Int32} (hV : ∀ y, y < 8 → V y = 0 ∨ V y = wo y) : ∀ (d y : Nat) (a b : Int32), y + d ≤ 8 → 0 ≤ a.toInt → (b = -1 ∨ ∃ z, z < 8 ∧ b = nI z ∧ a = wo z) → ((bsS V d y a b).2 = -1 ∨ ∃ z, z < 8 ∧ (bsS V d y a b).2 = nI z ∧ (bsS V d y a b).1 = wo z)
  | 0, y, a, b, _, _, h => h
  | d + 1, y, a, b, hy, ha, h => by
    rw [bsS]
    by_cases c : a < V y
    · rw [if_pos c]
      have c' := ilt.mp c
      refine bs_most hV d (y + 1) _ _ (by omega) (by omega) (Or.inr ⟨y, by omega, rfl, ?_⟩)
      rcases hV y (by omega) with e | e
      · rw [e] at c'
        have : (0 : Int32).toInt = 0 := by decide
        omega
      · exact e
    · rw [if_neg c]
      exact bs_most hV d (y + 1) a b (by omega) ha h
theorem bV_is {S : Nat → Nat → Int32} {r : Nat} {N : Nat → Int32} {n yr u nn nb p y : Nat} (h : VR S r N n yr u nn nb) (hp : p < n) (hy : y < 8) : bV N n yr p y = 0 ∨ bV N n yr p y = woN N y := by
  by_cases c : yr ≤ y + 1
  · have hwe : Wf N n (soN N) (woN N) (rN N n (upd ch0 p (nI y)) (soN N) (woN N) (y + 1 - yr) yr (qN N)) := WF_rn _ _ _ h.wf (by omega)
    obtain ⟨v, v1, v2⟩ := hwe.2.2.2.1 p hp
    unfold bV
    rw [wwi_tb v2 v1 hy]
    cases tb ((rN N n (upd ch0 p (nI y)) (soN N) (woN N) (y + 1 - yr) yr (qN N)).1 p) y
    · exact Or.inl rfl
    · exact Or.inr rfl
  · have e : y + 1 - yr = 0 := by omega
    unfold bV
    rw [e]
    obtain ⟨v, v1, v2⟩ := h.wf.2.2.2.1 p hp
    rw [show rN N n (upd ch0 p (nI y)) (soN N) (woN N) 0 yr (qN N) = qN N from rfl, wwi_tb v2 v1 hy]
    cases tb ((qN N).1 p) y
    · exact Or.inl rfl
    · exact Or.inr rfl

theorem P_best {σ : Sta} (h : Inv σ) (x1 x2 : Int32) : Pair (X11_best x1 x2) (X12_best x1 x2) σ := by
  obtain ⟨n, yr, u, nn, nb, hv⟩ := h.1
  have b0 : (badC σ).1 83 0 = nI n := by rw [badC_83]; exact hv.N0
  have b4 : (badC σ).1 83 4 = nI yr := by rw [badC_83]; exact hv.N4
  by_cases e0 : inB x1 0 (nI n - 1) = true
  rotate_left
  · rw [Bool.not_eq_true] at e0; exact pair_bad (a := -2) h (by simp only [X11_best, C_isOne_b hv.s10, e0, cA_e, bi_if, within_b, C_isArt_b, C_bad, Bool.false_eq_true, ite_false, ite_true, if_true, if_false]) (by simp only [X12_best, M_isOne_b b0, e0, cA_e, bi_if, M_isYear_b, M_isSort_b, in_01, in_02, in_05, in_06, in_07, in_09, in_30, in_60, in_99, in_12, M_bad, Bool.false_eq_true, ite_false, ite_true, if_true, if_false])
  by_cases e1 : inB x2 0 1 = true
  rotate_left
  · rw [Bool.not_eq_true] at e1; exact pair_bad (a := -2) h (by simp only [X11_best, C_isOne_b hv.s10, e0, e1, cA_e, bi_if, within_b, C_isArt_b, C_bad, Bool.false_eq_true, ite_false, ite_true, if_true, if_false]) (by simp only [X12_best, M_isOne_b b0, e0, e1, cA_e, bi_if, M_isYear_b, M_isSort_b, in_01, in_02, in_05, in_06, in_07, in_09, in_30, in_60, in_99, in_12, M_bad, Bool.false_eq_true, ite_false, ite_true, if_true, if_false])
  obtain ⟨j0, hj0, rfl⟩ := inB_1 hv.n6 e0
  obtain ⟨j1, hj1, rfl⟩ := inB_n (m := 1) (by decide) e1
  refine pair_q h (a := (if nI j1 = 0 then (bsS (bV (σ.1 83) n yr j0) (8 - yr) yr 0 (-1)).2 else if (bsS (bV (σ.1 83) n yr j0) (8 - yr) yr 0 (-1)).2 = -1 then (bsS (bV (σ.1 83) n yr j0) (8 - yr) yr 0 (-1)).2 else (bsS (bV (σ.1 83) n yr j0) (8 - yr) yr 0 (-1)).1)) ?_ (fun τ hτ => ?_)
  · simp only [X11_best, C_isOne_b hv.s10, e0, e1, cA_e, bi_if, within_b, C_isArt_b, C_bad, Bool.false_eq_true, ite_false, ite_true, if_true, if_false]
    have hy8 := hv.y8
    obtain ⟨τ, t1, t2⟩ := C_bestL (N := σ.1 83) (u := u) (nn := nn) (nb := nb) hj0 (8 - yr) yr FU 0 (-1) σ (by omega) (Nat.le_refl _) (by show _ < 300; omega) hv
    have tb : X2_bestYear 1 (nI j0) σ = some ((bsS (bV (σ.1 83) n yr j0) (8 - yr) yr 0 (-1)).2, τ) := by rw [X2_bestYear, fI_e, hv.s11]; exact t1
    have hv2 := hv.q t2.q
    have hm := bs_most (V := bV (σ.1 83) n yr j0) (wo := woN (σ.1 83)) (fun y hy => bV_is hv hj0 hy) (8 - yr) yr 0 (-1) (by omega) (by decide) (Or.inl rfl)
    rw [cA_of tb]
    refine ⟨τ, ?_, t2.q⟩
    generalize bsS (bV (σ.1 83) n yr j0) (8 - yr) yr 0 (-1) = q at *
    by_cases c1 : q.2 = -1
    · rw [if_pos c1, if_pos c1, ite_self]
    · rw [if_neg c1, if_neg c1]
      by_cases c2 : nI j1 = (0 : Int32)
      · rw [if_pos c2, if_pos c2]
      · rw [if_neg c2, if_neg c2]
        obtain ⟨z, z1, z2, z3⟩ := hm.resolve_left c1
        rw [z2, aI_n z z1, (hv2.ye z z1).2, z3]
        rfl
  · have t83 : τ.1 83 = σ.1 83 := hτ.at (by unfold isQ; omega)
    have t0 : τ.1 83 0 = nI n := by rw [t83]; exact hv.N0
    have t4 : τ.1 83 4 = nI yr := by rw [t83]; exact hv.N4
    have tv : VR σ.1 1 (τ.1 83) n yr u nn nb := by rw [t83]; exact hv
    simp only [X12_best, M_isOne_b t0, e0, e1, cA_e, bi_if, M_isYear_b, M_isSort_b, in_01, in_02, in_05, in_06, in_07, in_09, in_30, in_60, in_99, in_12, M_bad, Bool.false_eq_true, ite_false, ite_true, if_true, if_false]
    have hy8 := hv.y8
    obtain ⟨τ2, f1, f2⟩ := M_bestYL (x2 := nI j1) tv hj0 (8 - yr) yr FU 0 (-1) τ (by omega) (Nat.le_refl _) (by show _ < 300; omega) rfl
    rw [t83] at f1
    refine ⟨τ2, ?_, f2.q⟩
    rw [aI4, t4]
    exact f1

-- order
abbrev oS (so : Nat → Int32) (i j : Nat) : Nat → Int32 := upd (upd so i (so j)) j (so i)
abbrev oVw (N : Nat → Int32) (n yr p i j : Nat) : Int32 := wsm (rN N n ch0 (oS (soN N) i j) (oS (woN N) i j) (8 - yr) yr (qN N)).1 (oS (woN N) i j) p 8
theorem oS_at {so : Nat → Int32} {i j z : Nat} : oS so i j z = so i ∨ oS so i j z = so j ∨ oS so i j z = so z := by
  unfold oS
  by_cases c : z = j
  · subst c; rw [updS]; exact Or.inl rfl
  · rw [updN c]
    by_cases c2 : z = i
    · subst c2; rw [updS]; exact Or.inr (Or.inl rfl)
    · rw [updN c2]; exact Or.inr (Or.inr rfl)
theorem VR.wfo {S : Nat → Nat → Int32} {r : Nat} {N : Nat → Int32} {n yr u nn nb i j : Nat} (h : VR S r N n yr u nn nb) (hi : i < 8) (hj : j < 8) : Wf N n (oS (soN N) i j) (oS (woN N) i j) (qN N) := by
  obtain ⟨h1, h2, h3, h4, h5, h6⟩ := h.wf
  refine ⟨h1, h2, h3, h4, fun z hz => ?_, fun z hz => ?_⟩
  · rcases oS_at (so := soN N) (i := i) (j := j) (z := z) with e | e | e <;> rw [e]
    · exact h5 i hi
    · exact h5 j hj
    · exact h5 z hz
  · rcases oS_at (so := woN N) (i := i) (j := j) (z := z) with e | e | e <;> rw [e]
    · exact h6 i hi
    · exact h6 j hj
    · exact h6 z hz
def osI (V : Nat → Int32) (i : Nat) : Nat → Nat → Int32 → Int32 → Int32 × Int32
  | 0, _, a, b => (a, b)
  | d + 1, j, a, b => if a < V j then osI V i d (j + 1) (V j) ((10 : Int32) * nI i + nI j) else osI V i d (j + 1) a b
def osO (V : Nat → Nat → Int32) : Nat → Nat → Int32 → Int32 → Int32
  | 0, _, _, b => b
  | d + 1, i, a, b => osO V d (i + 1) (osI (V i) i (7 - i) (i + 1) a b).1 (osI (V i) i (7 - i) (i + 1) a b).2
theorem C_ordI {N : Nat → Int32} {n yr u nn nb p i : Nat} {K : Int32 → Int32 → Int32 → Int32 → Sta → Option (Int32 × Sta)} (hp : p < n) (hi : i < 8) : ∀ (d j fu : Nat) (a b : Int32) (σ : Sta), j + d = 8 → d < fu → VR σ.1 1 N n yr u nn nb → ∃ τ, X2_bestSwap_L42 1 K fu (nI p) a b (nI i) (nI j) σ = K (nI p) (osI (oVw N n yr p i) i d j a b).1 (osI (oVw N n yr p i) i d j a b).2 (nI (i + 1)) τ ∧ FrB σ τ
  | d, j, 0, a, b, σ, _, h, _ => by omega
  | 0, j, fu + 1, a, b, σ, hj, _, hv => by
    have e : j = 8 := by omega
    subst e
    exact ⟨σ, by rw [X2_bestSwap_L42, if_neg nlt8, nI_1]; rfl, FrB.rf σ⟩
  | d + 1, j, fu + 1, a, b, σ, hj, hf, hv => by
    have hn := hv.n6
    have hy8 := hv.y8
    obtain ⟨τ1, e1, e2, e3⟩ := hv.begin
    obtain ⟨τ2, f1, f2, f3⟩ := TC_swap e2 (i := i) (j := j) hi (by omega)
    obtain ⟨τ3, g1, g2, g3⟩ := TC_run (e := 8) f2 (hv.wfo hi (by omega)) hy8 (Nat.le_refl 8)
    have g1' : X2_runTo (8 : Int32) τ2 = some ((), τ3) := g1
    have w1 := TC_wb g2 (p := p) hn hp
    have fr : FrB σ τ3 := (e3.tr f3).tr g3.b
    have hv3 := hv.q fr.q
    rw [X2_bestSwap_L42, if_pos (lt8 (by omega)), cA_of e1, cA_of f1, cA_of g1', cA_of w1, osI, nI_1]
    by_cases c : a < oVw N n yr p i j
    · rw [if_pos c, if_pos c, cA_of w1]
      obtain ⟨τ, t1, t2⟩ := C_ordI (K := K) hp hi d (j + 1) fu (oVw N n yr p i j) ((10 : Int32) * nI i + nI j) τ3 (by omega) (by omega) hv3
      exact ⟨τ, t1, fr.tr t2⟩
    · rw [if_neg c, if_neg c]
      obtain ⟨τ, t1, t2⟩ := C_ordI (K := K) hp hi d (j + 1) fu a b τ3 (by omega) (by omega) hv3
      exact ⟨τ, t1, fr.tr t2⟩
theorem C_ordO {N : Nat → Int32} {n yr u nn nb p : Nat} (hp : p < n) : ∀ (d i fu : Nat) (a b : Int32) (σ : Sta), i + d = 8 → d < fu → VR σ.1 1 N n yr u nn nb → ∃ τ, X2_bestSwap_L29 1 fu (nI p) a b (nI i) σ = some (osO (oVw N n yr p) d i a b, τ) ∧ FrB σ τ
  | d, i, 0, a, b, σ, _, h, _ => by omega
  | 0, i, fu + 1, a, b, σ, hi, _, hv => by
    have e : i = 8 := by omega
    subst e
    exact ⟨σ, by rw [X2_bestSwap_L29, if_neg nlt8]; rfl, FrB.rf σ⟩
  | d + 1, i, fu + 1, a, b, σ, hi, hf, hv => by
    obtain ⟨τ1, e1, e2⟩ := C_ordI (K := X2_bestSwap_L29 1 fu) hp (show i < 8 by omega) (7 - i) (i + 1) FU a b σ (by omega) (by show _ < 300; omega) hv
    obtain ⟨τ, t1, t2⟩ := C_ordO hp d (i + 1) fu (osI (oVw N n yr p i) i (7 - i) (i + 1) a b).1 (osI (oVw N n yr p i) i (7 - i) (i + 1) a b).2 τ1 (by omega) (by omega) (hv.q e2.q)
    refine ⟨τ, ?_, e2.tr t2⟩
    rw [X2_bestSwap_L29, if_pos (lt8 (by omega)), nI_1, e1, osO]
    exact t1
theorem HM_swap {N : Nat → Int32} {n i j : Nat} {ch so wo : Nat → Int32} {q : Cq} {σ : Sta} (h : HM N n ch so wo q σ) (s1 : Int32) (s2 : Int32) (s3 : Int32) (s4 : Int32) : HM N n ch (upd (upd so i s1) j s3) (upd (upd wo i s2) j s4) q (up1 (up1 (up1 (up1 σ 89 (upd (σ.1 89) i s1)) 90 (upd (σ.1 90) i s2)) 89 (upd (upd (σ.1 89) i s1) j s3)) 90 (upd (upd (σ.1 90) i s2) j s4)) := by
  obtain ⟨h1, h2, h3, h4⟩ := h
  have o : ∀ k, k ≠ 89 → k ≠ 90 → (up1 (up1 (up1 (up1 σ 89 (upd (σ.1 89) i s1)) 90 (upd (σ.1 90) i s2)) 89 (upd (upd (σ.1 89) i s1) j s3)) 90 (upd (upd (σ.1 90) i s2) j s4)).1 k = σ.1 k := fun k k1 k2 => by rw [up1_n k2, up1_n k1, up1_n k2, up1_n k1]
  refine ⟨by rw [o 83 (by decide) (by decide)]; exact h1, h2, fun p hp => by rw [o 91 (by decide) (by decide), o 87 (by decide) (by decide), o 88 (by decide) (by decide)]; exact h3 p hp, fun y hy => ?_⟩
  rw [up1_n (show 89 ≠ 90 by decide), up1_s, up1_s]
  obtain ⟨b1, b2⟩ := h4 y hy
  by_cases c : y = j
  · subst c; rw [updS, updS, updS, updS]; exact ⟨rfl, rfl⟩
  · rw [updN c, updN c, updN c, updN c]
    by_cases c2 : y = i
    · subst c2; rw [updS, updS, updS, updS]; exact ⟨rfl, rfl⟩
    · rw [updN c2, updN c2, updN c2, updN c2]; exact ⟨b1, b2⟩
theorem M_ordI {N : Nat → Int32} {S : Nat → Nat → Int32} {r n yr u nn nb p i : Nat} {K : Int32 → Int32 → Int32 → Int32 → Sta → Option (Int32 × Sta)} (hv : VR S r N n yr u nn nb) (hp : p < n) (hi : i < 8) : ∀ (d j fu : Nat) (a b : Int32) (σ : Sta), j + d = 8 → d < fu → σ.1 83 = N → ∃ τ, X12_order_L54 K fu (nI p) b a (nI i) (nI j) σ = K (nI p) (osI (oVw N n yr p i) i d j a b).2 (osI (oVw N n yr p i) i d j a b).1 (nI (i + 1)) τ ∧ FrL σ τ
  | d, j, 0, a, b, σ, _, h, _ => by omega
  | 0, j, fu + 1, a, b, σ, hj, _, h83 => by
    have e : j = 8 := by omega
    subst e
    exact ⟨σ, by rw [X12_order_L54, if_neg nlt8, nI_1]; rfl, FrL.rf σ⟩
  | d + 1, j, fu + 1, a, b, σ, hj, hf, h83 => by
    have hy8 := hv.y8
    have hv' : VR S r (σ.1 83) n yr u nn nb := by rw [h83]; exact hv
    obtain ⟨τ1, e1, e2, e3⟩ := hv'.lay
    rw [h83] at e2
    have q83 : τ1.1 83 = N := e2.1
    have hH := HM_swap (i := i) (j := j) e2 (soN N j) (woN N j) (soN N i) (woN N i)
    obtain ⟨τ2, f1, f2, f3⟩ := HM_till (e := 8) hH (hv.wfo hi (by omega)) hv.N4 hy8 (Nat.le_refl 8)
    have f1' : X12_goTill (8 : Int32) (up1 (up1 (up1 (up1 τ1 89 (upd (τ1.1 89) i (N (41 + j)))) 90 (upd (τ1.1 90) i (N (49 + j)))) 89 (upd (upd (τ1.1 89) i (N (41 + j))) j (N (41 + i)))) 90 (upd (upd (τ1.1 90) i (N (49 + j))) j (N (49 + i)))) = some ((), τ2) := f1
    have w8 := HM_ws f2 (WF_rn _ _ _ (hv.wfo hi (by omega)) (by omega)) hp
    have fr : FrL σ τ2 := (e3.tr (((FrL.up (by unfold isL; omega)).tr (FrL.up (by unfold isL; omega))).tr ((FrL.up (by unfold isL; omega)).tr (FrL.up (by unfold isL; omega))))).tr f3.l
    have t83 : τ2.1 83 = N := f2.1
    rw [X12_order_L54, if_pos (lt8 (by omega)), cA_of e1, a41, aI_n (41 + j) (by omega), q83, sI_n i hi, a49, aI_n (49 + j) (by omega), up1_n (show 83 ≠ 89 by decide), q83, sI_n i hi, up1_n (show 90 ≠ 89 by decide), a41, aI_n (41 + i) (by omega), up1_n (show 83 ≠ 90 by decide), up1_n (show 83 ≠ 89 by decide), q83, sI_n j (by omega), up1_n (show 89 ≠ 90 by decide), up1_s, a49, aI_n (49 + i) (by omega), up1_n (show 83 ≠ 89 by decide), up1_n (show 83 ≠ 90 by decide), up1_n (show 83 ≠ 89 by decide), q83, sI_n j (by omega), up1_n (show 90 ≠ 89 by decide), up1_s, cA_of f1', cA_of w8, osI]
    by_cases c : a < oVw N n yr p i j
    · rw [if_pos c, if_pos c, X12_order_L160, cA_of w8, if_pos c, cA_of w8, nI_1]
      obtain ⟨τ, t1, t2⟩ := M_ordI (K := K) hv hp hi d (j + 1) fu (oVw N n yr p i j) ((10 : Int32) * nI i + nI j) τ2 (by omega) (by omega) t83
      exact ⟨τ, t1, fr.tr t2⟩
    · rw [if_neg c, if_neg c, X12_order_L160, cA_of w8, if_neg c, nI_1]
      obtain ⟨τ, t1, t2⟩ := M_ordI (K := K) hv hp hi d (j + 1) fu a b τ2 (by omega) (by omega) t83
      exact ⟨τ, t1, fr.tr t2⟩
theorem M_ordO {N : Nat → Int32} {S : Nat → Nat → Int32} {r n yr u nn nb p : Nat} (hv : VR S r N n yr u nn nb) (hp : p < n) : ∀ (d i fu : Nat) (a b : Int32) (σ : Sta), i + d = 8 → d < fu → σ.1 83 = N → ∃ τ, X12_order_L41 fu (nI p) b a (nI i) σ = some (osO (oVw N n yr p) d i a b, τ) ∧ FrL σ τ
  | d, i, 0, a, b, σ, _, h, _ => by omega
  | 0, i, fu + 1, a, b, σ, hi, _, h83 => by
    have e : i = 8 := by omega
    subst e
    exact ⟨σ, by rw [X12_order_L41, if_neg nlt8]; rfl, FrL.rf σ⟩
  | d + 1, i, fu + 1, a, b, σ, hi, hf, h83 => by
    obtain ⟨τ1, e1, e2⟩ := M_ordI (K := X12_order_L41 fu) hv hp (show i < 8 by omega) (7 - i) (i + 1) FU a b σ (by omega) (by show _ < 300; omega) h83
    obtain ⟨τ, t1, t2⟩ := M_ordO hv hp d (i + 1) fu (osI (oVw N n yr p i) i (7 - i) (i + 1) a b).1 (osI (oVw N n yr p i) i (7 - i) (i + 1) a b).2 τ1 (by omega) (by omega) (by rw [e2.1 83 (by unfold isL; omega)]; exact h83)
    refine ⟨τ, ?_, e2.tr t2⟩
    rw [X12_order_L41, if_pos (lt8 (by omega)), nI_1, e1, osO]
    exact t1

theorem P_order {σ : Sta} (h : Inv σ) (x1 : Int32) : Pair (X11_order x1) (X12_order x1) σ := by
  obtain ⟨n, yr, u, nn, nb, hv⟩ := h.1
  have b0 : (badC σ).1 83 0 = nI n := by rw [badC_83]; exact hv.N0
  have b4 : (badC σ).1 83 4 = nI yr := by rw [badC_83]; exact hv.N4
  by_cases e0 : inB x1 0 (nI n - 1) = true
  rotate_left
  · rw [Bool.not_eq_true] at e0; exact pair_bad (a := -2) h (by simp only [X11_order, C_isOne_b hv.s10, e0, cA_e, bi_if, within_b, C_isArt_b, C_bad, Bool.false_eq_true, ite_false, ite_true, if_true, if_false]) (by simp only [X12_order, M_isOne_b b0, e0, cA_e, bi_if, M_isYear_b, M_isSort_b, in_01, in_02, in_05, in_06, in_07, in_09, in_30, in_60, in_99, in_12, M_bad, Bool.false_eq_true, ite_false, ite_true, if_true, if_false])
  obtain ⟨j0, hj0, rfl⟩ := inB_1 hv.n6 e0
  refine pair_q h (a := osO (oVw (σ.1 83) n yr j0) (8 - yr) yr (wsm (cur (σ.1 83) n yr 8).1 (woN (σ.1 83)) j0 8) (-1)) ?_ (fun τ hτ => ?_)
  · simp only [X11_order, C_isOne_b hv.s10, e0, cA_e, bi_if, within_b, C_isArt_b, C_bad, Bool.false_eq_true, ite_false, ite_true, if_true, if_false]
    have hy8 := hv.y8
    obtain ⟨τ1, τ2, d1, d2, d3, d4⟩ := hv.trial
    have hv2 := hv.q d4.q
    obtain ⟨τ, t1, t2⟩ := C_ordO (N := σ.1 83) (u := u) (nn := nn) (nb := nb) hj0 (8 - yr) yr FU (wsm (cur (σ.1 83) n yr 8).1 (woN (σ.1 83)) j0 8) (-1) τ2 (by omega) (by show _ < 300; omega) hv2
    have tb : X2_bestSwap 1 (nI j0) σ = some (osO (oVw (σ.1 83) n yr j0) (8 - yr) yr (wsm (cur (σ.1 83) n yr 8).1 (woN (σ.1 83)) j0 8) (-1), τ) := by
      rw [X2_bestSwap, cA_of d1, cA_of d2, cA_of (TC_wb d3 hv.n6 hj0), fI_e, hv2.s11]
      exact t1
    rw [cA_of tb]
    exact ⟨τ, rfl, (d4.tr t2).q⟩
  · have t83 : τ.1 83 = σ.1 83 := hτ.at (by unfold isQ; omega)
    have t0 : τ.1 83 0 = nI n := by rw [t83]; exact hv.N0
    have t4 : τ.1 83 4 = nI yr := by rw [t83]; exact hv.N4
    have tv : VR σ.1 1 (τ.1 83) n yr u nn nb := by rw [t83]; exact hv
    simp only [X12_order, M_isOne_b t0, e0, cA_e, bi_if, M_isYear_b, M_isSort_b, in_01, in_02, in_05, in_06, in_07, in_09, in_30, in_60, in_99, in_12, M_bad, Bool.false_eq_true, ite_false, ite_true, if_true, if_false]
    have hy8 := hv.y8
    obtain ⟨τ1, τ2, f1, f2, f3, f4⟩ := tv.hand hv.y8 (by omega)
    have f2' : X12_goTill (8 : Int32) τ1 = some ((), τ2) := f2
    have g1 := HM_ws f3 (tv.cw hv.y8 (Nat.le_refl _)) hj0
    obtain ⟨τ3, h1, h2⟩ := M_ordO tv hj0 (8 - yr) yr FU (wsm (cur (τ.1 83) n yr 8).1 (woN (τ.1 83)) j0 8) (-1) τ2 (by omega) (by show _ < 300; omega) f3.1
    rw [cA_of f1, cA_of f2', cA_of g1, aI4, f3.1, tv.N4]
    rw [t83] at h1 ⊢
    exact ⟨τ3, h1, f4.q.tr h2.q⟩
