/-! PURE HALF 7: the class' trial and the reference's hand over one course -/
def soN (N : Nat → Int32) : Nat → Int32 := fun y => N (41 + y)
def woN (N : Nat → Int32) : Nat → Int32 := fun y => N (49 + y)
def qN (N : Nat → Int32) : Cq := (fun p => N (5 + p), fun p => N (11 + p))
def ch0 : Nat → Int32 := fun _ => -1
def gN (N ch so wo : Nat → Int32) (q : Cq) (y : Nat) : Nat → Int32 := fun p => stg ch (kM N) (aM N) q.1 so wo p y
abbrev Wf (N : Nat → Int32) (n : Nat) (so wo : Nat → Int32) (q : Cq) : Prop := WF n (kM N) (aM N) q.1 so wo
def TC (N : Nat → Int32) (n y : Nat) (ch so wo : Nat → Int32) (q : Cq) (τ : Sta) : Prop := ∃ ch' kd' ar' so' wo' q', Tr n y ch' kd' ar' so' wo' q' τ ∧ Ag n ch (kM N) (aM N) so wo ch' kd' ar' so' wo' ∧ AgQ n q q'
abbrev rN (N : Nat → Int32) (n : Nat) (ch so wo : Nat → Int32) (d y : Nat) (q : Cq) : Cq := rn n ch (kM N) (aM N) so wo d y q
abbrev sN (N : Nat → Int32) (n : Nat) (ch so wo : Nat → Int32) (y : Nat) (q : Cq) : Cq := stp n ch (kM N) (aM N) so wo y q
theorem TC_run {N : Nat → Int32} {n y e : Nat} {ch so wo : Nat → Int32} {q : Cq} {σ : Sta} (h : TC N n y ch so wo q σ) (hw : Wf N n so wo q) (hy : y ≤ e) (he : e ≤ 8) : ∃ τ, X2_runTo (nI e) σ = some ((), τ) ∧ TC N n e ch so wo (rN N n ch so wo (e - y) y q) τ ∧ FrT σ τ := by
  obtain ⟨ch', kd', ar', so', wo', q', h1, h2, h3⟩ := h
  obtain ⟨τ, e1, e2, e3⟩ := C_runTo h1 (WF_ag h2 (fun p hp => (h3 p hp).1) hw) hy he
  exact ⟨τ, e1, ⟨_, _, _, _, _, _, e2, h2, rn_ag h2 _ _ _ _ hw h3 (by omega)⟩, e3⟩
theorem TC_g {N : Nat → Int32} {n y : Nat} {ch so wo : Nat → Int32} {q : Cq} {σ : Sta} (h : TC N n y ch so wo q σ) (hw : Wf N n so wo q) {z : Nat} (hz : z < 8) : σ.1 65 10 = nI n ∧ wfS 65 n σ ∧ ∀ p, p < n → gSt 55 65 σ z p = gN N ch so wo q z p := by
  obtain ⟨ch', kd', ar', so', wo', q', h1, h2, h3⟩ := h
  refine ⟨h1.1, h1.wf (WF_ag h2 (fun p hp => (h3 p hp).1) hw), fun p hp => ?_⟩
  rw [h1.gSt]
  exact (stg_ag h2 hw (h3 p hp).1 hp hz).symm
theorem TC_hold {N : Nat → Int32} {n y : Nat} {ch so wo : Nat → Int32} {q : Cq} {σ : Sta} (h : TC N n y ch so wo q σ) (hw : Wf N n so wo q) {z : Nat} (hz : z < 8) : ∃ f, X0_hold 55 65 (nI z) σ = some ((), up1 σ 55 f) ∧ f 2 = ents (gN N ch so wo q z) n ∧ f 3 = (hs (gN N ch so wo q z) n).1 ∧ f 4 = (hs (gN N ch so wo q z) n).2.2.1 := by
  obtain ⟨h1, h2, h3⟩ := TC_g h hw hz
  obtain ⟨f, e1, e2, e3, e4⟩ := C_hold (c := 55) (r := 65) (y := z) (by intro i hi; omega) h1 h2 hz
  rw [ents_ag n h3] at e2
  rw [hs_ag n h3] at e3 e4
  exact ⟨f, e1, e2, e3, e4⟩
theorem TC_str {N : Nat → Int32} {n y : Nat} {ch so wo : Nat → Int32} {q : Cq} {σ : Sta} (h : TC N n y ch so wo q σ) (hw : Wf N n so wo q) {z p : Nat} (hz : z < 8) (hp : p < n) : X0_strength 55 65 (nI p) (nI z) σ = some (gN N ch so wo q z p, σ) := by
  obtain ⟨h1, h2, h3⟩ := TC_g h hw hz
  have := C_strength (c := 55) (r := 65) h1 h2 hp hz
  rw [this, ← h3 p hp]
  rfl
theorem TC_up {N : Nat → Int32} {n y : Nat} {ch so wo : Nat → Int32} {q : Cq} {σ : Sta} (h : TC N n y ch so wo q σ) {k : Nat} {f : Nat → Int32} (hk : k = 55 ∨ k = 78 ∨ k = 79) : TC N n y ch so wo q (up1 σ k f) := by
  obtain ⟨ch', kd', ar', so', wo', q', h1, h2, h3⟩ := h
  refine ⟨ch', kd', ar', so', wo', q', ?_, h2, h3⟩
  obtain ⟨g1, g2, g3, g4, g5, g6, g7, g8, g9⟩ := h1
  refine ⟨?_, ?_, ?_, ?_, ?_, ?_, ?_, ?_, ?_⟩ <;> rw [up1_n (by omega)] <;> assumption
theorem TC_choose {N : Nat → Int32} {n y : Nat} {ch so wo : Nat → Int32} {q : Cq} {σ : Sta} (h : TC N n y ch so wo q σ) {p : Nat} (hp : p < 6) (z : Int32) : ∃ τ, X0_choose 55 (nI p) z σ = some ((), τ) ∧ TC N n y (upd ch p z) so wo q τ ∧ FrB σ τ := by
  obtain ⟨ch', kd', ar', so', wo', q', h1, h2, h3⟩ := h
  rw [X0_choose, cA_of (within5 hp), if_neg n10, sI_n p hp]
  refine ⟨_, rfl, ⟨upd ch' p z, kd', ar', so', wo', q', ?_, ⟨fun i hi => ?_, h2.2⟩, h3⟩, FrB.up (by unfold isB; omega)⟩
  · obtain ⟨g1, g2, g3, g4, g5, g6, g7, g8, g9⟩ := h1
    refine ⟨?_, ?_, ?_, ?_, ?_, ?_, ?_, ?_, ?_⟩
    · rw [up1_n (by decide)]; exact g1
    · rw [up1_n (by decide)]; exact g2
    · rw [up1_s, g3]
    all_goals rw [up1_n (by decide)]; assumption
  · obtain ⟨a1, a2, a3⟩ := h2.1 i hi
    refine ⟨?_, a2, a3⟩
    by_cases e : i = p
    · subst e; rw [updS, updS]
    · rw [updN e, updN e, a1]
theorem Ag_set {n i : Nat} {ch kd ar so wo ch' kd' ar' so' wo' : Nat → Int32} (h : Ag n ch kd ar so wo ch' kd' ar' so' wo') (s w : Int32) : Ag n ch kd ar (upd so i s) (upd wo i w) ch' kd' ar' (upd so' i s) (upd wo' i w) := by
  refine ⟨h.1, fun y hy => ?_⟩
  by_cases e : y = i
  · subst e; rw [updS, updS, updS, updS]; exact ⟨rfl, rfl⟩
  · rw [updN e, updN e, updN e, updN e]; exact h.2 y hy
theorem TC_set {N : Nat → Int32} {n y : Nat} {ch so wo : Nat → Int32} {q : Cq} {σ : Sta} (h : TC N n y ch so wo q σ) {i : Nat} (hi : i < 8) (s w : Int32) : ∃ τ, X10_setPrize 65 (nI i) s w σ = some ((), τ) ∧ TC N n y ch (upd so i s) (upd wo i w) q τ ∧ FrB σ τ := by
  obtain ⟨ch', kd', ar', so', wo', q', h1, h2, h3⟩ := h
  rw [X10_setPrize, sI_n i hi, sI_n i hi]
  refine ⟨_, rfl, ⟨ch', kd', ar', upd so' i s, upd wo' i w, q', ?_, Ag_set h2 s w, h3⟩, (FrB.up (by unfold isB; omega)).tr (FrB.up (by unfold isB; omega))⟩
  obtain ⟨g1, g2, g3, g4, g5, g6, g7, g8, g9⟩ := h1
  refine ⟨?_, ?_, ?_, ?_, ?_, ?_, ?_, ?_, ?_⟩ <;> simp [up1, va_up] <;> first | assumption | (rw [g6]) | (rw [g7])
theorem TC_swap {N : Nat → Int32} {n y : Nat} {ch so wo : Nat → Int32} {q : Cq} {σ : Sta} (h : TC N n y ch so wo q σ) {i j : Nat} (hi : i < 8) (hj : j < 8) : ∃ τ, X10_swapPrizes 65 (nI i) (nI j) σ = some ((), τ) ∧ TC N n y ch (upd (upd so i (so j)) j (so i)) (upd (upd wo i (wo j)) j (wo i)) q τ ∧ FrB σ τ := by
  have hv : σ.1 66 i = so i ∧ σ.1 67 i = wo i ∧ σ.1 66 j = so j ∧ σ.1 67 j = wo j := by
    obtain ⟨ch', kd', ar', so', wo', q', h1, h2, h3⟩ := h
    obtain ⟨g1, g2, g3, g4, g5, g6, g7, g8, g9⟩ := h1
    rw [g6, g7]
    exact ⟨(h2.2 i hi).1.symm, (h2.2 i hi).2.symm, (h2.2 j hj).1.symm, (h2.2 j hj).2.symm⟩
  obtain ⟨v1, v2, v3, v4⟩ := hv
  obtain ⟨τ1, e1, e2, e3⟩ := TC_set h hi (so j) (wo j)
  obtain ⟨τ2, f1, f2, f3⟩ := TC_set e2 hj (so i) (wo i)
  refine ⟨τ2, ?_, f2, e3.tr f3⟩
  rw [X10_swapPrizes, aI_n i hi, aI_n i hi, aI_n j hj, aI_n j hj]
  show cA (X10_setPrize 65 (nI i) (σ.1 66 j) (σ.1 67 j) σ) (fun q5 s6 => cA (X10_setPrize 65 (nI j) (σ.1 66 i) (σ.1 67 i) s6) _) = _
  rw [v1, v2, v3, v4, cA_of e1, cA_of f1]
-- worths won
def bt (w : Int32) (z : Nat) : Int32 := (w >>> (nI z &&& 31)) &&& 1
theorem bt_n : ∀ w, w < 256 → ∀ z, z < 8 → bt (nI w) z = nI (w / 2 ^ z % 2) := by decide +kernel
def wwi (wi wo : Nat → Int32) (p z : Nat) : Int32 := bt (wi p) z * wo z
def wsm (wi wo : Nat → Int32) (p : Nat) : Nat → Int32
  | 0 => 0
  | z + 1 => wsm wi wo p z + wwi wi wo p z
theorem TC_wi {N : Nat → Int32} {n y : Nat} {ch so wo : Nat → Int32} {q : Cq} {σ : Sta} (h : TC N n y ch so wo q σ) {p z : Nat} (hn : n ≤ 6) (hp : p < n) (hz : z < 8) : X10_worthWonIn 65 (nI p) (nI z) σ = some (wwi q.1 wo p z, σ) := by
  obtain ⟨ch', kd', ar', so', wo', q', h1, h2, h3⟩ := h
  obtain ⟨g1, g2, g3, g4, g5, g6, g7, g8, g9⟩ := h1
  rw [X10_worthWonIn, aI_n p (by omega), aI_n z hz]
  show some (((σ.1 70 p >>> (nI z &&& 31)) &&& 1) * σ.1 67 z, σ) = _
  rw [g8, g7, ← (h3 p hp).1, ← (h2.2 z hz).2]
  rfl
theorem TC_wbL {N : Nat → Int32} {n y : Nat} {ch so wo : Nat → Int32} {q : Cq} {σ : Sta} (h : TC N n y ch so wo q σ) {p : Nat} (hn : n ≤ 6) (hp : p < n) : ∀ (d z fu : Nat), z + d = 8 → d < fu → X10_worthWonBy_L4 65 fu (nI p) (wsm q.1 wo p z) (nI z) σ = some (wsm q.1 wo p 8, σ)
  | d, z, 0, _, h => by omega
  | 0, z, fu + 1, hz, _ => by
    have e : z = 8 := by omega
    subst e
    rw [X10_worthWonBy_L4, if_neg nlt8]
  | d + 1, z, fu + 1, hz, hf => by
    rw [X10_worthWonBy_L4, if_pos (lt8 (by omega)), cA_of (TC_wi h hn hp (by omega)), nI_1]
    exact TC_wbL h hn hp d (z + 1) fu (by omega) (by omega)
theorem TC_wb {N : Nat → Int32} {n y : Nat} {ch so wo : Nat → Int32} {q : Cq} {σ : Sta} (h : TC N n y ch so wo q σ) {p : Nat} (hn : n ≤ 6) (hp : p < n) : X10_worthWonBy 65 (nI p) σ = some (wsm q.1 wo p 8, σ) :=
  TC_wbL h hn hp 8 0 FU rfl (by decide)
-- the reference's hand
def HM (N : Nat → Int32) (n : Nat) (ch so wo : Nat → Int32) (q : Cq) (τ : Sta) : Prop := τ.1 83 = N ∧ N 0 = nI n ∧ (∀ p, p < n → τ.1 91 p ≠ -1 ∧ ch p = chM (τ.1 91) p ∧ q.1 p = τ.1 87 p ∧ q.2 p = τ.1 88 p) ∧ ∀ y, y < 8 → so y = τ.1 89 y ∧ wo y = τ.1 90 y
def FrH (σ τ : Sta) : Prop := (∀ k, k ≠ 87 → k ≠ 88 → τ.1 k = σ.1 k) ∧ τ.2 = σ.2
theorem FrH.rf (σ : Sta) : FrH σ σ := ⟨fun _ _ _ => rfl, rfl⟩
theorem FrH.tr {a b c : Sta} (h1 : FrH a b) (h2 : FrH b c) : FrH a c := ⟨fun k q1 q2 => (h2.1 k q1 q2).trans (h1.1 k q1 q2), h2.2.trans h1.2⟩
/-- cells of the hand -/
def isL (k : Nat) : Prop := 87 ≤ k ∧ k ≤ 91
def FrL (σ τ : Sta) : Prop := (∀ k, ¬ isL k → τ.1 k = σ.1 k) ∧ τ.2 = σ.2
theorem FrL.rf (σ : Sta) : FrL σ σ := ⟨fun _ _ => rfl, rfl⟩
theorem FrL.tr {a b c : Sta} (h1 : FrL a b) (h2 : FrL b c) : FrL a c := ⟨fun k q => (h2.1 k q).trans (h1.1 k q), h2.2.trans h1.2⟩
theorem FrL.up {σ : Sta} {k : Nat} {f : Nat → Int32} (h : isL k) : FrL σ (up1 σ k f) := ⟨fun j q => up1_n (fun e => q (by rw [e]; exact h)), rfl⟩
theorem FrL.q {a b : Sta} (h : FrL a b) : FrQ a b := ⟨fun k q => h.1 k (fun e => q (by unfold isL at e; unfold isQ; omega)), h.2⟩
theorem FrH.l {a b : Sta} (h : FrH a b) : FrL a b := ⟨fun k q => h.1 k (fun e => q (by unfold isL; omega)) (fun e => q (by unfold isL; omega)), h.2⟩
theorem FrH.q {a b : Sta} (h : FrH a b) : FrQ a b := ⟨fun k q => h.1 k (fun e => q (by unfold isQ; omega)) (fun e => q (by unfold isQ; omega)), h.2⟩
theorem HM_ag {N : Nat → Int32} {n : Nat} {ch so wo : Nat → Int32} {q : Cq} {τ : Sta} (h : HM N n ch so wo q τ) : Ag n ch (kM N) (aM N) so wo (chM (τ.1 91)) (kM (τ.1 83)) (aM (τ.1 83)) (τ.1 89) (τ.1 90) ∧ AgQ n q (τ.1 87, τ.1 88) := by
  obtain ⟨h1, h2, h3, h4⟩ := h
  rw [h1]
  exact ⟨⟨fun p hp => ⟨(h3 p hp).2.1, rfl, fun _ _ => rfl⟩, h4⟩, fun p hp => ⟨(h3 p hp).2.2.1, (h3 p hp).2.2.2⟩⟩
theorem HM_wf {N : Nat → Int32} {n : Nat} {ch so wo : Nat → Int32} {q : Cq} {τ : Sta} (h : HM N n ch so wo q τ) (hw : Wf N n so wo q) : wfM n τ :=
  ⟨WF_ag (HM_ag h).1 (fun p hp => ((HM_ag h).2 p hp).1) hw, fun p hp => (h.2.2.1 p hp).1⟩
theorem HM_g {N : Nat → Int32} {n : Nat} {ch so wo : Nat → Int32} {q : Cq} {τ : Sta} (h : HM N n ch so wo q τ) (hw : Wf N n so wo q) {z : Nat} (hz : z < 8) : ∀ p, p < n → gM τ z p = gN N ch so wo q z p :=
  fun p hp => (stg_ag (HM_ag h).1 hw ((HM_ag h).2 p hp).1 hp hz).symm
theorem HM_n {N : Nat → Int32} {n : Nat} {ch so wo : Nat → Int32} {q : Cq} {τ : Sta} (h : HM N n ch so wo q τ) : τ.1 83 0 = nI n := by rw [h.1]; exact h.2.1
theorem HM_enters {N : Nat → Int32} {n : Nat} {ch so wo : Nat → Int32} {q : Cq} {τ : Sta} (h : HM N n ch so wo q τ) (hw : Wf N n so wo q) {p z : Nat} (hp : p < n) (hz : z < 8) : X12_enters (nI p) (nI z) τ = some (bi (!decide (gN N ch so wo q z p < 1)), τ) := by
  rw [M_enters (HM_wf h hw) hp hz, HM_g h hw hz p hp]
theorem HM_good {N : Nat → Int32} {n : Nat} {ch so wo : Nat → Int32} {q : Cq} {τ : Sta} (h : HM N n ch so wo q τ) (hw : Wf N n so wo q) {p z : Nat} (hp : p < n) (hz : z < 8) (hg : ¬ gN N ch so wo q z p < 1) : X12_goodOf (nI p) (τ.1 89 z) (nI z) τ = some (gN N ch so wo q z p, τ) := by
  rw [← HM_g h hw hz p hp] at hg ⊢
  exact M_goodIf (HM_wf h hw) hp hz hg
theorem HM_year {N : Nat → Int32} {n : Nat} {ch so wo : Nat → Int32} {q : Cq} {σ : Sta} (h : HM N n ch so wo q σ) (hw : Wf N n so wo q) {z : Nat} (hz : z < 8) : ∃ τ, X12_goYear (nI z) σ = some ((hs (gN N ch so wo q z) n).1, τ) ∧ HM N n ch so wo (sN N n ch so wo z q) τ ∧ FrH σ τ := by
  have e := M_goYear (HM_n h) (HM_wf h hw) hz
  have eh := hs_ag n (HM_g h hw hz)
  rw [eh] at e
  refine ⟨_, e, ?_, ⟨fun k h1 h2 => by rw [up1_n h2, up1_n h1], rfl⟩⟩
  have hq := (HM_ag h).2
  obtain ⟨h1, h2, h3, h4⟩ := h
  refine ⟨by rw [up1_n (by decide), up1_n (by decide)]; exact h1, h2, fun p hp => ⟨?_, ?_, ?_, ?_⟩, fun y hy => ?_⟩
  · rw [up1_n (by decide), up1_n (by decide)]; exact (h3 p hp).1
  · rw [up1_n (by decide), up1_n (by decide)]; exact (h3 p hp).2.1
  · rw [up1_n (by decide), up1_s]
    exact addW_ag (fun p hp => (hq p hp).1) hw.1 (hs_who _ n).1 hp
  · rw [up1_s]
    exact addS_ag (fun p hp => (hq p hp).2) hw.1 (hs_who _ n).2 hp
  · rw [up1_n (by decide), up1_n (by decide), up1_n (by decide), up1_n (by decide)]; exact h4 y hy
theorem HM_tillL {N : Nat → Int32} {n e : Nat} {ch so wo : Nat → Int32} (he : e ≤ 8) : ∀ (d y fu : Nat) (q : Cq) (σ : Sta), y + d = e → d < fu → HM N n ch so wo q σ → Wf N n so wo q → ∃ τ, X12_goTill_L7 fu (nI e) (nI y) σ = some ((), τ) ∧ HM N n ch so wo (rN N n ch so wo d y q) τ ∧ FrH σ τ
  | d, y, 0, q, σ, _, h, _, _ => by omega
  | 0, y, fu + 1, q, σ, hyd, _, hH, hw => by
    have hye : y = e := by omega
    subst hye
    refine ⟨σ, ?_, hH, FrH.rf σ⟩
    rw [X12_goTill_L7, if_neg (nI_nlt (Nat.le_refl _) (by omega))]
  | d + 1, y, fu + 1, q, σ, hyd, hf, hH, hw => by
    obtain ⟨τ1, e1, e2, e3⟩ := HM_year hH hw (z := y) (by omega)
    obtain ⟨τ, f1, f2, f3⟩ := HM_tillL he d (y + 1) fu _ τ1 (by omega) (by omega) e2 (WF_stp hw (by omega))
    refine ⟨τ, ?_, f2, e3.tr f3⟩
    rw [X12_goTill_L7, if_pos (nI_lt (by omega) (by omega)), cA_of e1, nI_1]
    exact f1
theorem HM_till {N : Nat → Int32} {n y e : Nat} {ch so wo : Nat → Int32} {q : Cq} {σ : Sta} (h : HM N n ch so wo q σ) (hw : Wf N n so wo q) (h4 : N 4 = nI y) (hy : y ≤ e) (he : e ≤ 8) : ∃ τ, X12_goTill (nI e) σ = some ((), τ) ∧ HM N n ch so wo (rN N n ch so wo (e - y) y q) τ ∧ FrH σ τ := by
  have e0 : aI σ 83 209 (4 : Int32) (fun v1 => X12_goTill_L7 FU (nI e) v1 σ) = X12_goTill_L7 FU (nI e) (nI y) σ := by
    rw [show (4 : Int32) = nI 4 from rfl, aI_n 4 (by decide), h.1, h4]
  rw [X12_goTill, e0]
  exact HM_tillL he (e - y) y FU q σ (by omega) (by show _ < 300; omega) h hw
theorem HM_ch {N : Nat → Int32} {n : Nat} {ch so wo : Nat → Int32} {q : Cq} {σ : Sta} (h : HM N n ch so wo q σ) {p z : Nat} (hz : z < 8) : HM N n (upd ch p (nI z)) so wo q (up1 σ 91 (upd (σ.1 91) p (nI z))) := by
  obtain ⟨h1, h2, h3, h4⟩ := h
  refine ⟨by rw [up1_n (by decide)]; exact h1, h2, fun i hi => ?_, fun y hy => by rw [up1_n (by decide), up1_n (by decide)]; exact h4 y hy⟩
  obtain ⟨a1, a2, a3, a4⟩ := h3 i hi
  rw [up1_s, up1_n (by decide), up1_n (by decide)]
  refine ⟨?_, ?_, a3, a4⟩
  · by_cases e : i = p
    · subst e; rw [updS]; exact nm1 (by omega)
    · rw [updN e]; exact a1
  · unfold chM at a2 ⊢
    by_cases e : i = p
    · subst e
      rw [updS, updS, if_neg]
      intro e2
      have h9 : (nI z).toInt = (-2 : Int32).toInt := by rw [e2]
      rw [nIt (by omega)] at h9
      have : (-2 : Int32).toInt = -2 := by decide
      omega
    · rw [updN e, updN e]; exact a2
theorem HM_wsL {N : Nat → Int32} {n : Nat} {ch so wo : Nat → Int32} {q : Cq} {σ : Sta} (h : HM N n ch so wo q σ) (hw : Wf N n so wo q) {p : Nat} (hp : p < n) : ∀ (d z fu : Nat), z + d = 8 → d < fu → X12_worthOf_L4 fu (nI p) (wsm q.1 wo p z) (nI z) σ = some (wsm q.1 wo p 8, σ)
  | d, z, 0, _, h => by omega
  | 0, z, fu + 1, hz, _ => by
    have e : z = 8 := by omega
    subst e
    rw [X12_worthOf_L4, if_neg nlt8]
  | d + 1, z, fu + 1, hz, hf => by
    have hn := hw.1
    obtain ⟨w, hw8, ew⟩ := hw.2.2.2.1 p hp
    have e87 : σ.1 87 p = nI w := by rw [← (h.2.2.1 p hp).2.2.1]; exact ew
    have e90 : σ.1 90 z = wo z := ((h.2.2.2 z (by omega)).2).symm
    have ih := HM_wsL h hw hp d (z + 1) fu (by omega) (by omega)
    have hb : bt (nI w) z = 0 ∨ bt (nI w) z = 1 := by
      rw [bt_n w hw8 z (by omega)]
      rcases (show w / 2 ^ z % 2 = 0 ∨ w / 2 ^ z % 2 = 1 by omega) with e | e <;> rw [e]
      · exact Or.inl rfl
      · exact Or.inr rfl
    rw [X12_worthOf_L4, if_pos (lt8 (by omega)), aI_n p (by omega), e87, nI_1]
    have hwz : wsm q.1 wo p (z + 1) = wsm q.1 wo p z + bt (nI w) z * wo z := by rw [wsm, wwi, ew]
    rw [X12_has]
    rcases hb with e | e
    · have e' : ((nI w) >>> (nI z &&& 31)) &&& 1 = 0 := e
      rw [e', if_neg (by decide), rZ_0, cA_e, if_pos rfl]
      rw [hwz, e, Int32.zero_mul] at ih
      exact ih
    · have e' : ((nI w) >>> (nI z &&& 31)) &&& 1 = 1 := e
      rw [e', if_pos rfl, rZ_1, cA_e, if_neg n10, aI_n z (by omega), e90]
      rw [hwz, e, Int32.one_mul] at ih
      exact ih
theorem HM_ws {N : Nat → Int32} {n : Nat} {ch so wo : Nat → Int32} {q : Cq} {σ : Sta} (h : HM N n ch so wo q σ) (hw : Wf N n so wo q) {p : Nat} (hp : p < n) : X12_worthOf (nI p) σ = some (wsm q.1 wo p 8, σ) :=
  HM_wsL h hw hp 8 0 FU rfl (by decide)
