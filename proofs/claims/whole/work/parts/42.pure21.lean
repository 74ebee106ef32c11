/-! PURE HALF 21: read -/
def FC (σ τ : Sta) : Prop := (∀ k, ¬ ((14 ≤ k ∧ k ≤ 26) ∨ k = 80) → τ.1 k = σ.1 k) ∧ τ.2 = σ.2
def FM (σ τ : Sta) : Prop := (∀ k, k ≠ 82 → k ≠ 95 → k ≠ 96 → τ.1 k = σ.1 k) ∧ τ.2 = σ.2
theorem FC.rf (σ : Sta) : FC σ σ := ⟨fun _ _ => rfl, rfl⟩
theorem FC.tr {a b c : Sta} (h1 : FC a b) (h2 : FC b c) : FC a c := ⟨fun k q => (h2.1 k q).trans (h1.1 k q), h2.2.trans h1.2⟩
theorem FC.up {σ : Sta} {k : Nat} {f : Nat → Int32} (h : (14 ≤ k ∧ k ≤ 26) ∨ k = 80) : FC σ (up1 σ k f) := ⟨fun j q => up1_n (fun e => q (by rw [e]; exact h)), rfl⟩
theorem FM.rf (σ : Sta) : FM σ σ := ⟨fun _ _ _ _ => rfl, rfl⟩
theorem FM.tr {a b c : Sta} (h1 : FM a b) (h2 : FM b c) : FM a c := ⟨fun k q1 q2 q3 => (h2.1 k q1 q2 q3).trans (h1.1 k q1 q2 q3), h2.2.trans h1.2⟩
theorem FM.up {σ : Sta} {k : Nat} {f : Nat → Int32} (h : k = 82 ∨ k = 95 ∨ k = 96) : FM σ (up1 σ k f) := ⟨fun j q1 q2 q3 => up1_n (by omega), rfl⟩
theorem CT.fr {B : Nat → Int32} {L s : Nat} {σ τ : Sta} (h : CT B L s σ) (e : τ.1 80 = σ.1 80) (e2 : τ.1 81 = σ.1 81) : CT B L s τ := by
  unfold CT
  rw [e, e2]
  exact h
theorem MT.fr {B : Nat → Int32} {L s : Nat} {σ τ : Sta} (h : MT B L s σ) (e : τ.1 82 = σ.1 82) (e2 : τ.1 94 = σ.1 94) : MT B L s τ := by
  unfold MT
  rw [e, e2]
  exact h
theorem tk_Nb {B : Nat → Int32} {L s : Nat} (h : s ≤ L) : s ≤ tk_N B L s ∧ tk_N B L s ≤ L := by
  have h1 := tk_Eb (B := B) h
  have h2 := tk_Bb (B := B) h1.2
  unfold tk_N
  omega
theorem tk_Ns {B : Nat → Int32} {L s : Nat} (h : s < L) : s < tk_N B L s := by
  have h0 := tk_Es (B := B) h
  have h1 := tk_Eb (B := B) (Nat.le_of_lt h)
  have h2 := tk_Bb (B := B) h1.2
  unfold tk_N
  omega
theorem tk_nz {B : Nat → Int32} {L s : Nat} (h : s ≤ L) (k : ¬ tk_K B L s = 0) : s < L := by
  by_cases c : s = L
  · exact absurd (tk_K0 c) k
  · omega
-- numbers
def okN (B : Nat → Int32) (L s : Nat) (lo hi : Int32) : Bool := decide (tk_K B L s = 2) && inB (tk_V B L s) lo hi
theorem CT.num {B : Nat → Int32} {L s : Nat} {σ : Sta} (h : CT B L s σ) (hL : L ≤ 150) (lo hi : Int32) : ∃ f, X8_hasNumber lo hi σ = some (bi (okN B L (tk_N B L s) lo hi), up1 σ 80 f) ∧ CT B L (tk_N B L s) (up1 σ 80 f) := by
  obtain ⟨f, f1, f2⟩ := h.adv hL
  refine ⟨f, ?_, f2⟩
  obtain ⟨h1, h2, h3, h4, h5, h6, h7⟩ := f2
  rw [X8_hasNumber, cA_of f1, fI_e, h5, okN]
  by_cases c : tk_K B L (tk_N B L s) = 2
  · rw [if_pos c, fI_e, h6 c, cA_of (within_b _ _ _ _), bi_if, decide_eq_true c, Bool.true_and]
    cases inB (tk_V B L (tk_N B L s)) lo hi <;> rfl
  · rw [if_neg c, decide_eq_false c, Bool.false_and]
    rfl
theorem CT.v {B : Nat → Int32} {L s : Nat} {σ : Sta} {lo hi : Int32} (h : CT B L s σ) (o : okN B L s lo hi = true) : σ.1 80 5 = tk_V B L s ∧ inB (tk_V B L s) lo hi = true := by
  rw [okN, Bool.and_eq_true, decide_eq_true_eq] at o
  exact ⟨h.2.2.2.2.2.1 o.1, o.2⟩
theorem MT.num {B : Nat → Int32} {L s i : Nat} {ρ : Sta} (h : MT B L s ρ) (hL : L ≤ 150) (hi4 : i < 4) (lo hi : Int32) : (okN B L s lo hi = false → X12_takes (nI i) lo hi ρ = some (0, ρ)) ∧ (okN B L s lo hi = true → ∃ f, X12_takes (nI i) lo hi ρ = some (1, up1 (up1 ρ 96 (upd (ρ.1 96) i (tk_V B L s))) 82 f) ∧ MT B L (tk_N B L s) (up1 (up1 ρ 96 (upd (ρ.1 96) i (tk_V B L s))) 82 f)) := by
  have hr : MT B L s (up1 ρ 96 (upd (ρ.1 96) i (tk_V B L s))) := h.fr (up1_n (by decide)) (up1_n (by decide))
  obtain ⟨g, g1, g2⟩ := hr.go hL
  obtain ⟨h1, h2, h3, h4, h5, h6, h7⟩ := h
  rw [X12_takes, fI_e, h5, okN]
  by_cases c : tk_K B L s = 2
  · rw [if_pos c, fI_e, h6 c, cA_of (in_b _ _ _ _), bi_if, decide_eq_true c, Bool.true_and]
    cases hq : inB (tk_V B L s) lo hi with
    | false => exact ⟨fun _ => rfl, fun e => by cases e⟩
    | true =>
      refine ⟨(fun e => by cases e), fun _ => ⟨g, ?_, g2⟩⟩
      rw [if_pos rfl, fI_e, h6 c, sI_n i hi4, cA_of g1]
      rfl
  · rw [if_neg c, decide_eq_false c, Bool.false_and]
    exact ⟨fun _ => rfl, fun e => by cases e⟩
-- a prize told
def Told (B : Nat → Int32) (L s : Nat) (b : Bool) (s' : Nat) (σ ρ σ' ρ' : Sta) : Prop := s ≤ s' ∧ CT B L s' σ' ∧ FC σ σ' ∧ FM ρ ρ' ∧ (b = false → MT B L s' ρ') ∧ (b = true → MT B L (tk_N B L s') ρ' ∧ ∃ n, VR σ'.1 14 (ρ'.1 95) n 0 0 0 0)
theorem ax0 {β : Type} {σ : Sta} {K : Int32 → Option β} : aI σ 96 4 (0 : Int32) K = K (σ.1 96 0) := aI_n 0 (by decide)
theorem ax1 {β : Type} {σ : Sta} {K : Int32 → Option β} : aI σ 96 4 (1 : Int32) K = K (σ.1 96 1) := aI_n 1 (by decide)
theorem ax2 {β : Type} {σ : Sta} {K : Int32 → Option β} : aI σ 96 4 (2 : Int32) K = K (σ.1 96 2) := aI_n 2 (by decide)
theorem ax3 {β : Type} {σ : Sta} {K : Int32 → Option β} : aI σ 96 4 (3 : Int32) K = K (σ.1 96 3) := aI_n 3 (by decide)
theorem ux {σ : Sta} {f g : Nat → Int32} : (up1 (up1 σ 96 f) 82 g).1 96 = f := by rw [up1_n (by decide), up1_s]
theorem S_prize {B : Nat → Int32} {L s n : Nat} {σ ρ : Sta} (hL : L ≤ 150) (hC : CT B L s σ) (hM : MT B L s ρ) (hv : VR σ.1 14 (ρ.1 95) n 0 0 0 0) : ∃ b s' σ' ρ', X8_tellPrize 14 σ = some (bi b, σ') ∧ X12_takesPrize ρ = some (bi b, ρ') ∧ Told B L s b s' σ ρ σ' ρ' := by
  obtain ⟨g0, m0, M0⟩ := hM.go hL
  have b1 := tk_Nb (B := B) hC.1
  have b2 := tk_Nb (B := B) b1.2
  have b3 := tk_Nb (B := B) b2.2
  generalize e1 : tk_N B L s = s1 at *
  generalize e2 : tk_N B L s1 = s2 at *
  generalize e3 : tk_N B L s2 = s3 at *
  obtain ⟨f1, c1, C1⟩ := hC.num hL 0 7
  obtain ⟨t1, u1⟩ := M0.num hL (i := 0) (by decide) 0 7
  rw [e1] at c1 C1
  rw [X8_tellPrize, cA_of c1, bi_if, X12_takesPrize, cA_of m0]
  cases o1 : okN B L s1 0 7 with
  | false =>
    refine ⟨false, s1, _, _, rfl, by rw [cA_of (show X12_takes 0 0 7 _ = _ from t1 o1)]; rfl, b1.1, C1, FC.up (Or.inr rfl), FM.up (Or.inl rfl), fun _ => M0, fun e => by cases e⟩
  | true =>
    obtain ⟨g1, m1, M1⟩ := u1 o1
    obtain ⟨w1, w1'⟩ := C1.v o1
    rw [e2] at M1
    rw [if_pos rfl, fI_e, w1, cA_of (show X12_takes 0 0 7 _ = _ from m1), if_neg n10]
    obtain ⟨f2, c2, C2⟩ := C1.num hL 0 2
    obtain ⟨t2, u2⟩ := M1.num hL (i := 1) (by decide) 0 2
    rw [e2] at c2 C2
    rw [cA_of c2, bi_if]
    cases o2 : okN B L s2 0 2 with
    | false =>
      exact ⟨false, s2, _, _, rfl, by rw [cA_of (show X12_takes 1 0 2 _ = _ from t2 o2)]; rfl, by omega, C2, (FC.up (Or.inr rfl)).tr (FC.up (Or.inr rfl)), ((FM.up (Or.inl rfl)).tr (FM.up (by omega))).tr (FM.up (by omega)), fun _ => M1, fun e => by cases e⟩
    | true =>
      obtain ⟨g2, m2, M2⟩ := u2 o2
      obtain ⟨w2, w2'⟩ := C2.v o2
      rw [e3] at M2
      rw [if_pos rfl, fI_e, w2, cA_of (show X12_takes 1 0 2 _ = _ from m2), if_neg n10]
      obtain ⟨f3, c3, C3⟩ := C2.num hL 1 30
      obtain ⟨t3, u3⟩ := M2.num hL (i := 2) (by decide) 1 30
      rw [e3] at c3 C3
      rw [cA_of c3, bi_if]
      cases o3 : okN B L s3 1 30 with
      | false =>
        exact ⟨false, s3, _, _, rfl, by rw [cA_of (show X12_takes 2 1 30 _ = _ from t3 o3)]; rfl, by omega, C3, ((FC.up (Or.inr rfl)).tr (FC.up (Or.inr rfl))).tr (FC.up (Or.inr rfl)), ((((FM.up (Or.inl rfl)).tr (FM.up (by omega))).tr (FM.up (by omega))).tr (FM.up (by omega))).tr (FM.up (by omega)), fun _ => M2, fun e => by cases e⟩
      | true =>
        obtain ⟨g3, m3, M3⟩ := u3 o3
        obtain ⟨w3, w3'⟩ := C3.v o3
        rw [if_pos rfl, fI_e, w3, cA_of (show X12_takes 2 1 30 _ = _ from m3), if_neg n10]
        obtain ⟨j1, hj1, v1⟩ := inB_n (m := 7) (by decide) w1'
        obtain ⟨j2, hj2, v2⟩ := inB_n (m := 2) (by decide) w2'
        obtain ⟨j3, _, hj3, v3⟩ := inB_30 w3'
        have FCx : FC σ (up1 (up1 (up1 σ 80 f1) 80 f2) 80 f3) := ((FC.up (Or.inr rfl)).tr (FC.up (Or.inr rfl))).tr (FC.up (Or.inr rfl))
        have hσ : ∀ k, k ≠ 80 → (up1 (up1 (up1 σ 80 f1) 80 f2) 80 f3).1 k = σ.1 k := fun k hk => by rw [up1_n hk, up1_n hk, up1_n hk]
        generalize up1 (up1 (up1 σ 80 f1) 80 f2) 80 f3 = σ3 at *
        have FMx : FM ρ (up1 (up1 (up1 (up1 (up1 (up1 (up1 ρ 82 g0) 96 (upd ((up1 ρ 82 g0).1 96) 0 (tk_V B L s1))) 82 g1) 96 (upd ((up1 (up1 (up1 ρ 82 g0) 96 (upd ((up1 ρ 82 g0).1 96) 0 (tk_V B L s1))) 82 g1).1 96) 1 (tk_V B L s2))) 82 g2) 96 (upd ((up1 (up1 (up1 (up1 (up1 ρ 82 g0) 96 (upd ((up1 ρ 82 g0).1 96) 0 (tk_V B L s1))) 82 g1) 96 (upd ((up1 (up1 (up1 ρ 82 g0) 96 (upd ((up1 ρ 82 g0).1 96) 0 (tk_V B L s1))) 82 g1).1 96) 1 (tk_V B L s2))) 82 g2).1 96) 2 (tk_V B L s3))) 82 g3) := ((((((FM.up (Or.inl rfl)).tr (FM.up (by omega))).tr (FM.up (by omega))).tr (FM.up (by omega))).tr (FM.up (by omega))).tr (FM.up (by omega))).tr (FM.up (by omega))
        rw [ux, ux] at m3 M3 FMx ⊢
        have q0 : (up1 (up1 (up1 (up1 (up1 (up1 (up1 ρ 82 g0) 96 (upd ((up1 ρ 82 g0).1 96) 0 (tk_V B L s1))) 82 g1) 96 (upd (upd ((up1 ρ 82 g0).1 96) 0 (tk_V B L s1)) 1 (tk_V B L s2))) 82 g2) 96 (upd (upd (upd ((up1 ρ 82 g0).1 96) 0 (tk_V B L s1)) 1 (tk_V B L s2)) 2 (tk_V B L s3))) 82 g3).1 96 = upd (upd (upd ((up1 ρ 82 g0).1 96) 0 (tk_V B L s1)) 1 (tk_V B L s2)) 2 (tk_V B L s3) := ux
        have q95 : (up1 (up1 (up1 (up1 (up1 (up1 (up1 ρ 82 g0) 96 (upd ((up1 ρ 82 g0).1 96) 0 (tk_V B L s1))) 82 g1) 96 (upd (upd ((up1 ρ 82 g0).1 96) 0 (tk_V B L s1)) 1 (tk_V B L s2))) 82 g2) 96 (upd (upd (upd ((up1 ρ 82 g0).1 96) 0 (tk_V B L s1)) 1 (tk_V B L s2)) 2 (tk_V B L s3))) 82 g3).1 95 = ρ.1 95 := by
          rw [up1_n (by decide), up1_n (by decide), up1_n (by decide), up1_n (by decide), up1_n (by decide), up1_n (by decide), up1_n (by decide)]
        generalize up1 (up1 (up1 (up1 (up1 (up1 (up1 ρ 82 g0) 96 (upd ((up1 ρ 82 g0).1 96) 0 (tk_V B L s1))) 82 g1) 96 (upd (upd ((up1 ρ 82 g0).1 96) 0 (tk_V B L s1)) 1 (tk_V B L s2))) 82 g2) 96 (upd (upd (upd ((up1 ρ 82 g0).1 96) 0 (tk_V B L s1)) 1 (tk_V B L s2)) 2 (tk_V B L s3))) 82 g3 = ρ3 at *
        have x0 : ρ3.1 96 0 = nI j1 := by rw [q0, updN (by decide), updN (by decide), updS]; exact v1
        have x1 : ρ3.1 96 1 = nI j2 := by rw [q0, updN (by decide), updS]; exact v2
        have x2 : ρ3.1 96 2 = nI j3 := by rw [q0, updS]; exact v3
        rw [v1, v2, v3, cA_of (C_setPrize 14 (by omega) _ _ _), ax0, ax1, x0, x1, a41, sI_n (41 + j1) (by omega), ax0, ax2, up1_n (show 96 ≠ 95 by decide), x0, x2, a49, sI_n (49 + j1) (by omega), up1_s, up1_u, q95]
        refine ⟨true, s3, _, _, rfl, rfl, by omega, C3.fr (by rw [up1_n (by decide), up1_n (by decide)]) (by rw [up1_n (by decide), up1_n (by decide)]), FCx.tr ((FC.up (by omega)).tr (FC.up (by omega))), FMx.tr (FM.up (by omega)), (fun e => by cases e), fun _ => ⟨M3.fr (up1_n (by decide)) (up1_n (by decide)), n, ?_⟩⟩
        rw [up1_s]
        refine hv.prize (y := j1) (t := j2) (w := j3) (by omega) (by omega) hj3 ?_ ?_ ?_ ?_ ?_ ?_
        · rw [up1_n (by decide), up1_n (by decide), hσ 14 (by decide)]
          exact ⟨rfl, rfl, hv.s12⟩
        · rw [up1_n (by decide), up1_s, hσ _ (by decide)]
        · rw [up1_s, hσ _ (by decide)]
        · intro i i1 i2
          rw [up1_n (by omega), up1_n (by omega), hσ _ (by omega)]
        · rw [updN (by omega), updN (by omega)]; exact hv.N3
        · intro k _
          rfl
def F8 (σ τ : Sta) : Prop := (∀ k, k ≠ 80 → τ.1 k = σ.1 k) ∧ τ.2 = σ.2
theorem F8.c {σ τ : Sta} (h : F8 σ τ) : FC σ τ := ⟨fun k hk => h.1 k (by omega), h.2⟩
theorem F8.tr {a b c : Sta} (h1 : F8 a b) (h2 : F8 b c) : F8 a c := ⟨fun k q => (h2.1 k q).trans (h1.1 k q), h2.2.trans h1.2⟩
theorem CT.nu {B : Nat → Int32} {L s s' : Nat} {σ : Sta} (h : CT B L s σ) (hL : L ≤ 150) (lo hi : Int32) (e : tk_N B L s = s') : ∃ τ, X8_hasNumber lo hi σ = some (bi (okN B L s' lo hi), τ) ∧ CT B L s' τ ∧ F8 σ τ := by
  obtain ⟨f, f1, f2⟩ := h.num hL lo hi
  rw [e] at f1 f2
  exact ⟨_, f1, f2, fun k hk => up1_n hk, rfl⟩
theorem MT.nu {B : Nat → Int32} {L s s' i : Nat} {ρ : Sta} (h : MT B L s ρ) (hL : L ≤ 150) (hi4 : i < 4) (lo hi : Int32) (e : tk_N B L s = s') : (okN B L s lo hi = false → X12_takes (nI i) lo hi ρ = some (0, ρ)) ∧ (okN B L s lo hi = true → ∃ τ, X12_takes (nI i) lo hi ρ = some (1, τ) ∧ MT B L s' τ ∧ τ.1 96 = upd (ρ.1 96) i (tk_V B L s) ∧ τ.1 95 = ρ.1 95 ∧ FM ρ τ) := by
  obtain ⟨h1, h2⟩ := h.num hL hi4 lo hi
  refine ⟨h1, fun o => ?_⟩
  obtain ⟨f, f1, f2⟩ := h2 o
  rw [e] at f2
  exact ⟨_, f1, f2, ux, by rw [up1_n (by decide), up1_n (by decide)], (FM.up (by omega)).tr (FM.up (by omega))⟩
theorem S_one {B : Nat → Int32} {L s n : Nat} {σ ρ : Sta} (hL : L ≤ 150) (hC : CT B L s σ) (hM : MT B L s ρ) (hv : VR σ.1 14 (ρ.1 95) n 0 0 0 0) : ∃ b s' σ' ρ', X8_tellOne 14 σ = some (bi b, σ') ∧ X12_takesOne ρ = some (bi b, ρ') ∧ Told B L s b s' σ ρ σ' ρ' := by
  have hn := hv.n6
  rw [X8_tellOne, fI_e, hv.s10, X12_takesOne, aI0 (by decide), hv.N0]
  by_cases c6 : n = 6
  · rw [if_neg (by rw [c6]; decide), if_pos (by rw [c6]; rfl)]
    exact ⟨false, s, σ, ρ, rfl, rfl, Nat.le_refl _, hC, FC.rf σ, FM.rf ρ, fun _ => hM, fun e => by cases e⟩
  have hn' : n < 6 := by omega
  rw [if_pos (lt6 hn'), if_neg (show ¬ nI n = (6 : Int32) from fun e => c6 ((nI_eq (b := 6) (by omega) (by omega)).mp e))]
  obtain ⟨g0, m0, M0⟩ := hM.go hL
  have b1 := tk_Nb (B := B) hC.1
  have b2 := tk_Nb (B := B) b1.2
  have b3 := tk_Nb (B := B) b2.2
  have b4 := tk_Nb (B := B) b3.2
  generalize e1 : tk_N B L s = s1 at *
  generalize e2 : tk_N B L s1 = s2 at *
  generalize e3 : tk_N B L s2 = s3 at *
  generalize e4 : tk_N B L s3 = s4 at *
  have F0 : FM ρ (up1 ρ 82 g0) := FM.up (Or.inl rfl)
  have q0 : (up1 ρ 82 g0).1 95 = ρ.1 95 := up1_n (by decide)
  rw [cA_of m0]
  generalize up1 ρ 82 g0 = ρ0 at *
  obtain ⟨σ1, c1, C1, D1⟩ := hC.nu hL 0 5 e1
  obtain ⟨t1, u1⟩ := M0.nu hL (i := 0) (by decide) 0 5 e2
  rw [cA_of c1, bi_if]
  cases o1 : okN B L s1 0 5 with
  | false =>
    exact ⟨false, s1, _, _, rfl, by rw [cA_of (show X12_takes 0 0 5 _ = _ from t1 o1)]; rfl, by omega, C1, D1.c, F0, fun _ => M0, fun e => by cases e⟩
  | true =>
  obtain ⟨ρ1, m1, M1, p1, q1, F1⟩ := u1 o1
  obtain ⟨w1, w1'⟩ := C1.v o1
  rw [if_pos rfl, fI_e, w1, cA_of (show X12_takes 0 0 5 _ = _ from m1), if_neg n10]
  obtain ⟨σ2, c2, C2, D2⟩ := C1.nu hL 0 9 e2
  obtain ⟨t2, u2⟩ := M1.nu hL (i := 1) (by decide) 0 9 e3
  rw [cA_of c2, bi_if]
  cases o2 : okN B L s2 0 9 with
  | false =>
    exact ⟨false, s2, _, _, rfl, by rw [cA_of (show X12_takes 1 0 9 _ = _ from t2 o2)]; rfl, by omega, C2, (D1.tr D2).c, F0.tr F1, fun _ => M1, fun e => by cases e⟩
  | true =>
  obtain ⟨ρ2, m2, M2, p2, q2, F2⟩ := u2 o2
  obtain ⟨w2, w2'⟩ := C2.v o2
  rw [if_pos rfl, fI_e, w2, cA_of (show X12_takes 1 0 9 _ = _ from m2), if_neg n10]
  obtain ⟨σ3, c3, C3, D3⟩ := C2.nu hL 0 9 e3
  obtain ⟨t3, u3⟩ := M2.nu hL (i := 2) (by decide) 0 9 e4
  rw [cA_of c3, bi_if]
  cases o3 : okN B L s3 0 9 with
  | false =>
    exact ⟨false, s3, _, _, rfl, by rw [cA_of (show X12_takes 2 0 9 _ = _ from t3 o3)]; rfl, by omega, C3, ((D1.tr D2).tr D3).c, (F0.tr F1).tr F2, fun _ => M2, fun e => by cases e⟩
  | true =>
  obtain ⟨ρ3, m3, M3, p3, q3, F3⟩ := u3 o3
  obtain ⟨w3, w3'⟩ := C3.v o3
  rw [if_pos rfl, fI_e, w3, cA_of (show X12_takes 2 0 9 _ = _ from m3), if_neg n10]
  obtain ⟨σ4, c4, C4, D4⟩ := C3.nu hL 0 9 e4
  obtain ⟨t4, u4⟩ := M3.nu hL (i := 3) (by decide) 0 9 rfl
  rw [cA_of c4, bi_if]
  cases o4 : okN B L s4 0 9 with
  | false =>
    exact ⟨false, s4, _, _, rfl, by rw [cA_of (show X12_takes 3 0 9 _ = _ from t4 o4)]; rfl, by omega, C4, (((D1.tr D2).tr D3).tr D4).c, ((F0.tr F1).tr F2).tr F3, fun _ => M3, fun e => by cases e⟩
  | true =>
  obtain ⟨ρ4, m4, M4, p4, q4, F4⟩ := u4 o4
  obtain ⟨w4, w4'⟩ := C4.v o4
  rw [if_pos rfl, fI_e, w4, cA_of (show X12_takes 3 0 9 _ = _ from m4), if_neg n10]
  obtain ⟨j1, hj1, v1⟩ := inB_n (m := 5) (by decide) w1'
  obtain ⟨j2, hj2, v2⟩ := inB_n (m := 9) (by decide) w2'
  obtain ⟨j3, hj3, v3⟩ := inB_n (m := 9) (by decide) w3'
  obtain ⟨j4, hj4, v4⟩ := inB_n (m := 9) (by decide) w4'
  have D := ((D1.tr D2).tr D3).tr D4
  have Fm := (((F0.tr F1).tr F2).tr F3).tr F4
  have q95 : ρ4.1 95 = ρ.1 95 := by rw [q4, q3, q2, q1, q0]
  rw [p3, p2, p1] at p4
  have x0 : ρ4.1 96 0 = nI j1 := by rw [p4, updN (by decide), updN (by decide), updN (by decide), updS]; exact v1
  have x1 : ρ4.1 96 1 = nI j2 := by rw [p4, updN (by decide), updN (by decide), updS]; exact v2
  have x2 : ρ4.1 96 2 = nI j3 := by rw [p4, updN (by decide), updS]; exact v3
  have x3 : ρ4.1 96 3 = nI j4 := by rw [p4, updS]; exact v4
  have s10 : σ4.1 14 10 = nI n := by rw [D.1 14 (by decide)]; exact hv.s10
  have r0 : ρ4.1 95 0 = nI n := by rw [q95]; exact hv.N0
  obtain ⟨y0, y3, y4, y5, y6, yo⟩ := add1_at (r := 14) (n := n) (x1 := nI j1) (x2 := nI j2) (x3 := nI j3) (x4 := nI j4) (σ := σ4)
  rw [v1, v2, v3, v4, cA_of (C_addOne s10 hn' _ _ _ _), ax0, ax1, ax2, ax3, x0, x1, x2, x3, cA_of (M_layOne r0 hn' (by decide) (by decide) _ _ _ _), q95]
  have y2 : (add1 14 n (nI j1) (nI j2) (nI j3) (nI j4) σ4).2 = σ4.2 := rfl
  generalize add1 14 n (nI j1) (nI j2) (nI j3) (nI j4) σ4 = σ5 at *
  refine ⟨true, s4, _, _, rfl, rfl, by omega, C4.fr (yo _ (by decide) (by decide)) (yo _ (by decide) (by decide)), D.c.tr ⟨fun k hk => yo k (by omega) (by omega), y2⟩, Fm.tr (FM.up (by omega)), (fun e => by cases e), fun _ => ⟨M4.fr (up1_n (by decide)) (up1_n (by decide)), n + 1, ?_⟩⟩
  rw [up1_s]
  refine hv.one (k := j1) (a := j2) (b := j3) (c := j4) hn' (by omega) (by omega) (by omega) (by omega) ?_ ?_ ?_ ?_ ?_ ?_ ?_ ?_ ?_ ?_
  · rw [y0, updS, updN (by decide), updN (by decide), D.1 14 (by decide)]
    exact ⟨rfl, rfl, hv.s12⟩
  · rw [yo _ (by decide) (by decide)]; exact D.1 _ (by decide)
  · rw [yo _ (by decide) (by decide)]; exact D.1 _ (by decide)
  · rw [y3, D.1 _ (by decide)]
  · rw [y4, D.1 _ (by decide)]
  · rw [y5, D.1 _ (by decide)]
  · rw [y6, D.1 _ (by decide)]
  · intro i i1 i2
    rw [yo _ (by omega) (by omega)]; exact D.1 _ (by omega)
  · rw [lone_o hn' (by omega) (by omega)]; exact hv.N3
  · intro j _
    rfl
-- words
abbrev wV : Nat → Int32 := tk_w 118 97 108 108 101 121
abbrev wP : Nat → Int32 := tk_w 112 114 105 122 101 0
abbrev wO : Nat → Int32 := tk_w 111 110 101 0 0 0
theorem J_l0 (s : Sta) : J_length 0 s = some (nI 6, s) := by rw [J_length, J_coder, cA_e, show nI (txL.getD 0 0) >>> ((0 : Int32) &&& 31) = nI 6 by decide]
theorem J_l1 (s : Sta) : J_length 1 s = some (nI 5, s) := by rw [J_length, J_coder, cA_e, show nI (txL.getD 1 0) >>> ((0 : Int32) &&& 31) = nI 5 by decide]
theorem J_l2 (s : Sta) : J_length 2 s = some (nI 3, s) := by rw [J_length, J_coder, cA_e, show nI (txL.getD 2 0) >>> ((0 : Int32) &&& 31) = nI 3 by decide]
theorem J_c0 (s : Sta) : ∀ k, k < 6 → J_charAt 0 (nI k) s = some (wV k, s) := fun k hk => by
  rcases (show k = 0 ∨ k = 1 ∨ k = 2 ∨ k = 3 ∨ k = 4 ∨ k = 5 by omega) with rfl | rfl | rfl | rfl | rfl | rfl <;> rfl
theorem J_c1 (s : Sta) : ∀ k, k < 5 → J_charAt 1 (nI k) s = some (wP k, s) := fun k hk => by
  rcases (show k = 0 ∨ k = 1 ∨ k = 2 ∨ k = 3 ∨ k = 4 by omega) with rfl | rfl | rfl | rfl | rfl <;> rfl
theorem J_c2 (s : Sta) : ∀ k, k < 3 → J_charAt 2 (nI k) s = some (wO k, s) := fun k hk => by
  rcases (show k = 0 ∨ k = 1 ∨ k = 2 by omega) with rfl | rfl | rfl <;> rfl
theorem CT.w0 {B : Nat → Int32} {L s : Nat} {σ : Sta} (h : CT B L s σ) (hL : L ≤ 150) : X8_isWord 0 σ = some (bi (tk_W wV 6 B L s), σ) := h.word hL (by decide) (J_l0 σ) (J_c0 σ)
theorem CT.w1 {B : Nat → Int32} {L s : Nat} {σ : Sta} (h : CT B L s σ) (hL : L ≤ 150) : X8_isWord 1 σ = some (bi (tk_W wP 5 B L s), σ) := h.word hL (by decide) (J_l1 σ) (J_c1 σ)
theorem CT.w2 {B : Nat → Int32} {L s : Nat} {σ : Sta} (h : CT B L s σ) (hL : L ≤ 150) : X8_isWord 2 σ = some (bi (tk_W wO 3 B L s), σ) := h.word hL (by decide) (J_l2 σ) (J_c2 σ)
theorem MT.w0 {B : Nat → Int32} {L s : Nat} {ρ : Sta} (h : MT B L s ρ) (hL : L ≤ 150) : X12_spells 6 118 97 108 108 101 121 ρ = some (bi (tk_W wV 6 B L s), ρ) := h.word (n := 6) hL (by decide)
theorem MT.w1 {B : Nat → Int32} {L s : Nat} {ρ : Sta} (h : MT B L s ρ) (hL : L ≤ 150) : X12_spells 5 112 114 105 122 101 0 ρ = some (bi (tk_W wP 5 B L s), ρ) := h.word (n := 5) hL (by decide)
theorem MT.w2 {B : Nat → Int32} {L s : Nat} {ρ : Sta} (h : MT B L s ρ) (hL : L ≤ 150) : X12_spells 3 111 110 101 0 0 0 ρ = some (bi (tk_W wO 3 B L s), ρ) := h.word (n := 3) hL (by decide)
theorem CT.ends {B : Nat → Int32} {L s : Nat} {σ : Sta} (h : CT B L s σ) (hL : L ≤ 150) : ∃ τ, X8_endsItem σ = some (bi (decide (tk_K B L (tk_N B L s) = 3)), τ) ∧ CT B L (tk_N B L s) τ ∧ F8 σ τ := by
  obtain ⟨f, f1, f2⟩ := h.adv hL
  refine ⟨_, ?_, f2, fun k hk => up1_n hk, rfl⟩
  rw [X8_endsItem, cA_of f1, fI_e, f2.2.2.2.2.1]
  by_cases c : tk_K B L (tk_N B L s) = 3
  · rw [if_pos c, decide_eq_true c]; rfl
  · rw [if_neg c, decide_eq_false c]; rfl
-- an item
theorem S_item {B : Nat → Int32} {L s n : Nat} {σ ρ : Sta} {K : Int32 → Int32 → Sta → Option (Int32 × Sta)} {y2 y3 : Int32} (hL : L ≤ 150) (hC : CT B L s σ) (hM : MT B L s ρ) (hv : VR σ.1 14 (ρ.1 95) n 0 0 0 0) : ∃ b s' σ' ρ', (cA (X8_isWord 1 σ) (fun q15 s16 => if q15 = 0 then (cA (X8_isWord 2 s16) (fun q17 s18 => if q17 = 0 then (X8_tellInto_L100 14 K y2 y3 (0 : Int32) s18) else (cA (X8_tellOne 14 s18) (fun q19 s20 => if q19 = 0 then (X8_tellInto_L100 14 K y2 y3 (0 : Int32) s20) else (X8_tellInto_L100 14 K y2 y3 (1 : Int32) s20))))) else (cA (X8_tellPrize 14 s16) (fun q21 s22 => X8_tellInto_L100 14 K y2 y3 q21 s22)))) = X8_tellInto_L100 14 K y2 y3 (bi b) σ' ∧ X12_takesItem ρ = some (bi b, ρ') ∧ Told B L s b s' σ ρ σ' ρ' := by
  rw [X12_takesItem, cA_of (hC.w1 hL), cA_of (hM.w1 hL), bi_if, bi_if]
  cases c1 : tk_W wP 5 B L s with
  | true =>
    obtain ⟨b, s', σ', ρ', h1, h2, h3⟩ := S_prize hL hC hM hv
    exact ⟨b, s', σ', ρ', by rw [if_pos rfl, cA_of h1], by rw [if_pos rfl, cA_of h2, rZ_b], h3⟩
  | false =>
    rw [if_neg (by decide), if_neg (by decide), cA_of (hC.w2 hL), cA_of (hM.w2 hL), bi_if, bi_if]
    cases c2 : tk_W wO 3 B L s with
    | true =>
      obtain ⟨b, s', σ', ρ', h1, h2, h3⟩ := S_one hL hC hM hv
      refine ⟨b, s', σ', ρ', ?_, ?_, h3⟩
      · rw [if_pos rfl, cA_of h1, bi_if]
        cases b <;> rfl
      · rw [if_pos rfl, cA_of h2, bi_if]
        cases b <;> rfl
    | false =>
      exact ⟨false, s, σ, ρ, rfl, rfl, Nat.le_refl _, hC, FC.rf σ, FM.rf ρ, fun _ => hM, fun e => by cases e⟩
theorem ten_neg : ∀ s, s < 151 → (-10 : Int32) - nI s < 0 := by decide +kernel
theorem M_read9 {ρ : Sta} {y1 : Int32} : ∀ (d k fu : Nat) (f : Nat → Int32), k + d = 105 → d < fu → ∃ f', X12_read_L109 fu y1 (nI k) (up1 ρ 83 f) = some (y1, up1 ρ 83 f') ∧ (∀ j, j < 105 → k ≤ j → f' j = ρ.1 95 j) ∧ (∀ j, j < k → f' j = f j)
  | d, k, 0, f, _, h => by omega
  | 0, k, fu + 1, f, hk, _ => by
    have e : k = 105 := by omega
    subst e
    refine ⟨f, ?_, fun j h1 h2 => by omega, fun j hj => rfl⟩
    rw [X12_read_L109, if_neg (by decide)]
  | d + 1, k, fu + 1, f, hk, hf => by
    obtain ⟨f', e1, e2, e3⟩ := M_read9 (y1 := y1) d (k + 1) fu (upd f k (ρ.1 95 k)) (by omega) (by omega)
    refine ⟨f', ?_, fun j h1 h2 => ?_, fun j hj => ?_⟩
    · rw [X12_read_L109, if_pos (lt105 (by omega)), aI_n k (by omega), up1_n (by decide), sI_n k (by omega), up1_s, up1_u, nI_1]
      exact e1
    · by_cases e : j = k
      · rw [e, e3 _ (by omega), updS]
      · exact e2 j h1 (by omega)
    · rw [e3 j (by omega), updN (by omega)]
def FR (σ τ : Sta) : Prop := (∀ k, k ≠ 82 → k ≠ 83 → k ≠ 95 → k ≠ 96 → τ.1 k = σ.1 k) ∧ τ.2 = σ.2
theorem FM.r {σ τ : Sta} (h : FM σ τ) : FR σ τ := ⟨fun k a _ b c => h.1 k a b c, h.2⟩
theorem FR.tr {a b c : Sta} (h1 : FR a b) (h2 : FR b c) : FR a c := ⟨fun k q1 q2 q3 q4 => (h2.1 k q1 q2 q3 q4).trans (h1.1 k q1 q2 q3 q4), h2.2.trans h1.2⟩
def Rd (B : Nat → Int32) (L : Nat) (σ ρ : Sta) (a : Int32) (σ' ρ' : Sta) : Prop := FC σ σ' ∧ FR ρ ρ' ∧ (∃ s, CT B L s σ') ∧ (∃ s, MT B L s ρ') ∧ ((a < 0 ∧ ρ'.1 83 = ρ.1 83) ∨ (¬ a < 0 ∧ ∃ n, VR σ'.1 14 (ρ'.1 83) n 0 0 0 0))
theorem Rd.be {B : Nat → Int32} {L : Nat} {σ ρ σ1 ρ1 σ' ρ' : Sta} {a : Int32} (h : Rd B L σ1 ρ1 a σ' ρ') (h1 : FC σ σ1) (h2 : FM ρ ρ1) : Rd B L σ ρ a σ' ρ' :=
  ⟨h1.tr h.1, h2.r.tr h.2.1, h.2.2.1, h.2.2.2.1, by
    have e := h2.1 83 (by decide) (by decide) (by decide)
    rw [← e]
    exact h.2.2.2.2⟩
theorem S_loop {B : Nat → Int32} {L : Nat} (hL : L ≤ 150) : ∀ (d i fc fm s n : Nat) (σ ρ : Sta), L ≤ s + d → i ≤ s → d < fc → d < fm → tk_K B L s = 3 → CT B L s σ → MT B L (tk_N B L s) ρ → VR σ.1 14 (ρ.1 95) n 0 0 0 0 → ∃ a σ' ρ', X8_tellInto_L41 14 fc (nI (i + 1)) (nI i) σ = some (a, σ') ∧ X12_read_L67 fm (nI (i + 1)) ρ = some (a, ρ') ∧ Rd B L σ ρ a σ' ρ'
  | d, i, 0, fm, s, n, σ, ρ, _, _, h, _, _, _, _, _ => by omega
  | d, i, fc, 0, s, n, σ, ρ, _, _, _, h, _, _, _, _ => by omega
  | 0, i, fc + 1, fm + 1, s, n, σ, ρ, h1, _, _, _, h3, hC, hM, hv => by
    have hs := tk_nz hC.1 (by rw [h3]; decide)
    omega
  | d + 1, i, fc + 1, fm + 1, s, n, σ, ρ, h1, hi, hfc, hfm, h3, hC, hM, hv => by
    have hs := tk_nz hC.1 (by rw [h3]; decide)
    have ht := tk_Ns (B := B) hs
    obtain ⟨f, f1, C1⟩ := hC.adv hL
    have hv1 : VR (up1 σ 80 f).1 14 (ρ.1 95) n 0 0 0 0 := hv.cell (fun i hi => up1_n (by omega))
    have FC1 : FC σ (up1 σ 80 f) := FC.up (Or.inr rfl)
    generalize up1 σ 80 f = σ1 at *
    generalize tk_N B L s = t at *
    rw [X8_tellInto_L41, if_pos (lt150 (by omega)), cA_of f1, fI_e, C1.2.2.2.2.1, X12_read_L67, fI_e, hM.2.2.2.2.1]
    by_cases c0 : tk_K B L t = 0
    · obtain ⟨f', g1, g2, g3⟩ := M_read9 (ρ := ρ) (y1 := nI (i + 1)) 105 0 FU (ρ.1 83) rfl (by decide)
      rw [up1_id] at g1
      rw [if_pos c0, if_pos c0]
      refine ⟨nI (i + 1), σ1, up1 ρ 83 f', rfl, g1, FC1, ⟨fun k _ k2 _ _ => up1_n k2, rfl⟩, ⟨t, C1⟩, ⟨t, hM.fr (up1_n (by decide)) (up1_n (by decide))⟩, Or.inr ⟨nI_pos (by omega), n, ?_⟩⟩
      rw [up1_s]
      exact hv1.to ⟨rfl, rfl, rfl, rfl, rfl⟩ (fun _ _ => rfl) (fun _ _ => rfl) (fun _ _ => rfl) (fun _ _ => rfl) (fun _ _ => rfl) (fun _ _ => rfl) (fun _ _ => rfl) (fun _ _ => rfl) (fun _ _ => rfl) (fun _ _ => rfl) (fun k hk => g2 k (by omega) (by omega))
    · rw [if_neg c0, if_neg c0]
      obtain ⟨b, s', σ2, ρ2, e1, e2, e3, C2, FC2, FM2, eF, eT⟩ := S_item (K := X8_tellInto_L41 14 fc) (y2 := nI (i + 1)) (y3 := nI i) hL C1 hM hv1
      rw [e1, cA_of e2]
      have s1 := C2.1
      cases b with
      | false =>
        have M2 := eF rfl
        rw [X8_tellInto_L100, if_pos (show bi false = 0 from rfl), if_pos (show bi false = 0 from rfl), fI_e, fI_e, C2.2.2.1, M2.2.2.1]
        exact ⟨_, σ2, ρ2, rfl, rfl, FC1.tr FC2, FM2.r, ⟨s', C2⟩, ⟨s', M2⟩, Or.inl ⟨ten_neg s' (by omega), FM2.1 83 (by decide) (by decide) (by decide)⟩⟩
      | true =>
        obtain ⟨M2, n', hv2⟩ := eT rfl
        obtain ⟨σ3, g1, C3, F3⟩ := C2.ends hL
        have s2 := C3.1
        have s3 := (tk_Nb (B := B) s1).1
        rw [X8_tellInto_L100, if_neg (by decide), if_neg (by decide), cA_of g1, bi_if, fI_e ρ2 82 17, M2.2.2.2.2.1]
        by_cases c3 : tk_K B L (tk_N B L s') = 3
        · obtain ⟨g, m1, M3⟩ := M2.go hL
          rw [if_pos (decide_eq_true c3), if_pos c3, cA_of m1, nI_1, nI_1]
          obtain ⟨a, σ', ρ', k1, k2, k3⟩ := S_loop hL d (i + 1) fc fm (tk_N B L s') n' σ3 (up1 ρ2 82 g) (by omega) (by omega) (by omega) (by omega) c3 C3 M3 (by rw [up1_n (by decide)]; exact hv2.cell (fun i hi => F3.1 _ (by omega)))
          exact ⟨a, σ', ρ', k1, k2, k3.be ((FC1.tr FC2).tr F3.c) (FM2.tr (FM.up (by omega)))⟩
        · rw [if_neg (fun e => c3 (of_decide_eq_true e)), if_neg c3, fI_e, fI_e, C3.2.2.1, M2.2.2.1]
          exact ⟨_, σ3, ρ2, rfl, rfl, (FC1.tr FC2).tr F3.c, FM2.r, ⟨_, C3⟩, ⟨_, M2⟩, Or.inl ⟨ten_neg _ (by omega), FM2.1 83 (by decide) (by decide) (by decide)⟩⟩
termination_by structural d => d
theorem S_tell {B : Nat → Int32} {L : Nat} (hL : L ≤ 150) (σ ρ : Sta) (h1 : σ.1 80 1 = nI L) (h2 : ρ.1 82 14 = nI L) (hB : ∀ j, j < L → σ.1 81 j = B j) (hB2 : ∀ j, j < L → ρ.1 94 j = B j) : ∃ a σ' ρ', X8_tellInto 14 σ = some (a, σ') ∧ X12_read ρ = some (a, ρ') ∧ Rd B L σ ρ a σ' ρ' := by
  obtain ⟨τ, c1, c2, cy, c4, c5⟩ := C_empty 14 σ
  have FC0 : FC σ τ := ⟨fun k hk => c4 k (by omega), c5⟩
  have t80 : τ.1 80 = σ.1 80 := c4 80 (by omega)
  have t81 : τ.1 81 = σ.1 81 := c4 81 (by omega)
  obtain ⟨f, f1, C1⟩ := C_adv (σ := up1 τ 80 (upd (τ.1 80) 3 0)) (B := B) (e := 0) hL (fun j hj => by rw [up1_n (by decide), t81]; exact hB j hj) (Nat.zero_le _) (by rw [up1_s, updN (by decide), t80]; exact h1) (by rw [up1_s, updS]; rfl)
  have F8a : F8 τ (up1 (up1 τ 80 (upd (τ.1 80) 3 0)) 80 f) := ⟨fun k hk => by rw [up1_n hk, up1_n hk], rfl⟩
  obtain ⟨g, g1, M1⟩ := M_look (ρ := ρ) (B := B) (e := 0) hL hB2 (Nat.zero_le _) h2
  have FM1 : FM ρ (up1 ρ 82 g) := FM.up (Or.inl rfl)
  rw [X8_tellInto, cA_of c1, pI_e, cA_of f1, X12_read, cA_of (show X12_lookAt 0 ρ = _ from g1)]
  generalize up1 (up1 τ 80 (upd (τ.1 80) 3 0)) 80 f = σ1 at *
  generalize up1 ρ 82 g = ρ1 at *
  generalize tk_B B L 0 = t at *
  have t1 := C1.1
  rw [cA_of (C1.w0 hL), cA_of (M1.w0 hL), bi_if, bi_if]
  cases c0 : tk_W wV 6 B L t with
  | false =>
    rw [if_neg (by decide), if_neg (by decide), fI_e, fI_e, C1.2.2.1, M1.2.2.1]
    exact ⟨_, σ1, ρ1, rfl, rfl, FC0.tr F8a.c, FM1.r, ⟨_, C1⟩, ⟨_, M1⟩, Or.inl ⟨ten_neg _ (by omega), FM1.1 83 (by decide) (by decide) (by decide)⟩⟩
  | true =>
    obtain ⟨g', m1, M2⟩ := M1.go hL
    have FM2 : FM ρ (up1 ρ1 82 g') := FM1.tr (FM.up (Or.inl rfl))
    obtain ⟨σ2, k1, C2, F2⟩ := C1.ends hL
    rw [if_pos rfl, if_pos rfl, cA_of m1, cA_of k1, bi_if]
    generalize up1 ρ1 82 g' = ρ2 at *
    generalize tk_N B L t = t2 at *
    have t3 := C2.1
    rw [fI_e ρ2 82 17, M2.2.2.2.2.1]
    by_cases c3 : tk_K B L t2 = 3
    · obtain ⟨g'', m2, M3⟩ := M2.go hL
      have FM3 : FM ρ (up1 ρ2 82 g'') := FM2.tr (FM.up (Or.inl rfl))
      rw [if_pos (decide_eq_true c3), if_pos c3, cA_of m2]
      generalize up1 ρ2 82 g'' = ρ3 at *
      rw [cA_of (M_begin (nav := 105) (kav := 95) (by decide) (by decide) ρ3)]
      have FM4 : FM ρ (up1 ρ3 95 (beg (ρ3.1 95))) := FM3.tr (FM.up (by omega))
      have F14 : ∀ k, k ≠ 80 → σ2.1 k = τ.1 k := fun k hk => (F2.1 k hk).trans (F8a.1 k hk)
      obtain ⟨a, σ', ρ', r1, r2, r3⟩ := S_loop (B := B) hL L 0 FU FU t2 0 σ2 (up1 ρ3 95 (beg (ρ3.1 95))) (by omega) (by omega) (by show _ < 300; omega) (by show _ < 300; omega) c3 C2 (M3.fr (up1_n (by decide)) (up1_n (by decide))) (by
        rw [up1_s]
        refine VR.zero ?_ (beg0 _).1 ?_ (beg0 _).2
        · rw [F14 _ (by decide), F14 _ (by decide), F14 _ (by decide)]; exact c2
        · intro y hy
          rw [F14 _ (by decide), F14 _ (by decide)]
          exact cy y hy)
      exact ⟨a, σ', ρ', r1, r2, r3.be ((FC0.tr F8a.c).tr F2.c) FM4⟩
    · rw [if_neg (fun e => c3 (of_decide_eq_true e)), if_neg c3, fI_e, fI_e, C2.2.2.1, M2.2.2.1]
      exact ⟨_, σ2, ρ2, rfl, rfl, (FC0.tr F8a.c).tr F2.c, FM2.r, ⟨_, C2⟩, ⟨_, M2⟩, Or.inl ⟨ten_neg _ (by omega), FM2.1 83 (by decide) (by decide) (by decide)⟩⟩
theorem P_read {σ : Sta} (h : Inv σ) : Pair X11_read X12_read σ := by
  obtain ⟨L, h1, h2, h3, h4⟩ := h.2.2.2.2
  obtain ⟨a, σ1, _, c1, _, FC1, _, C1, _, _⟩ := S_tell (B := σ.1 94) h1 σ σ h2 h3 h4 (fun _ _ => rfl)
  by_cases c : a < 0
  · have hx : X11_read σ = some (a, σ1) := by rw [X11_read, cA_of c1, if_pos c]
    obtain ⟨a', σ1', ρ', d1, d2, d3, d4, d5, d6, d7⟩ := S_tell (B := σ.1 94) h1 σ σ1 h2 (by rw [FC1.1 82 (by decide)]; exact h3) h4 (fun j _ => by rw [FC1.1 94 (by decide)])
    rw [c1] at d1
    cases d1
    refine ⟨a, σ1, ρ', hx, d2, ?_⟩
    obtain ⟨s, C1⟩ := d5
    obtain ⟨s', M1⟩ := d6
    have e83 : ρ'.1 83 = σ.1 83 := by
      rcases d7 with d7 | d7
      · rw [d7.2]; exact FC1.1 83 (by decide)
      · exact absurd c d7.1
    refine h.x ⟨fun k hk => ?_, d4.2.trans d3.2⟩ ⟨L, h1, ?_, M1.2.1, fun j hj => ?_⟩
    · by_cases e : k = 83
      · rw [e]; exact e83
      · unfold isX at hk
        rw [d4.1 k (by omega) e (by omega) (by omega), d3.1 k (by omega)]
    · rw [d4.1 80 (by decide) (by decide) (by decide) (by decide)]; exact C1.2.1
    · rw [d4.1 81 (by decide) (by decide) (by decide) (by decide), C1.2.2.2.2.2.2 j hj, M1.2.2.2.2.2.2 j hj]
  · obtain ⟨τ, k1, k2, k3, k4⟩ := C_take_1_14 σ1
    have hx : X11_read σ = some (a, τ) := by rw [X11_read, cA_of c1, if_neg c, cA_of k1]
    have FCt : ∀ k, ¬ ((1 ≤ k ∧ k ≤ 26) ∨ k = 80) → τ.1 k = σ.1 k := fun k hk => by rw [k3 k (by omega), FC1.1 k (by omega)]
    obtain ⟨a', σ1', ρ', d1, d2, d3, d4, d5, d6, d7⟩ := S_tell (B := σ.1 94) h1 σ τ h2 (by rw [FCt 82 (by decide)]; exact h3) h4 (fun j _ => by rw [FCt 94 (by decide)])
    rw [c1] at d1
    cases d1
    refine ⟨a, τ, ρ', hx, d2, ?_⟩
    obtain ⟨s, C1⟩ := d5
    obtain ⟨s', M1⟩ := d6
    obtain ⟨n, hv⟩ : ∃ n, VR σ1.1 14 (ρ'.1 83) n 0 0 0 0 := by
      rcases d7 with d7 | d7
      · exact absurd d7.1 c
      · exact d7.2
    have hvn : VR τ.1 1 (ρ'.1 83) n 0 0 0 0 := k2 _ _ n 0 0 0 0 hv (fun _ _ => rfl)
    have q : ∀ k, ¬ ((1 ≤ k ∧ k ≤ 26) ∨ k = 80 ∨ k = 82 ∨ k = 83 ∨ k = 95 ∨ k = 96) → ρ'.1 k = σ.1 k := fun k hk => by rw [d4.1 k (by omega) (by omega) (by omega) (by omega), FCt k (by omega)]
    obtain ⟨i1, i2, i3, i4, i5⟩ := h
    refine ⟨⟨n, 0, 0, 0, 0, hvn.cell (fun i hi => d4.1 _ (by omega) (by omega) (by omega) (by omega))⟩, fun i hi => (i2 i hi).c hi (fun k a b => q k (by omega)) (q 84 (by omega)) (q 85 (by omega)), ?_, ?_, ⟨L, h1, ?_, M1.2.1, fun j hj => ?_⟩⟩
    · intro i hi
      rw [q 0 (by omega), q 86 (by omega)]
      exact i3 i hi
    · rw [d4.2, k4, d3.2]
      exact i4
    · rw [d4.1 80 (by decide) (by decide) (by decide) (by decide), k3 80 (by decide)]; exact C1.2.1
    · rw [d4.1 81 (by decide) (by decide) (by decide) (by decide), k3 81 (by decide), C1.2.2.2.2.2.2 j hj, M1.2.2.2.2.2.2 j hj]
