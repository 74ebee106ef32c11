/-! PURE HALF 5: fill, the trial's beginning; agreement of courses -/
theorem fillL {n k : Nat} {v : Int32} {σ : Sta} (hn : n < 2 ^ 31) : ∀ (d i fu : Nat) (f : Nat → Int32), i + d = n → d < fu → J7_fill_53178_L5 n k fu v (nI i) (nI n) (up1 σ k f) = some ((), up1 σ k (fun j => if i ≤ j ∧ j < n then v else f j))
  | d, i, 0, f, _, h => by omega
  | 0, i, fu + 1, f, hid, _ => by
    have hin : i = n := by omega
    subst hin
    rw [J7_fill_53178_L5, if_neg (nI_nlt (Nat.le_refl _) hn)]
    congr 3
    funext j
    rw [if_neg (by omega)]
  | d + 1, i, fu + 1, f, hid, hf => by
    rw [J7_fill_53178_L5, if_pos (nI_lt (by omega) hn), sI_n i (by omega) hn, up1_s, up1_u, nI_1, fillL hn d (i + 1) fu _ (by omega) (by omega)]
    congr 3
    funext j
    by_cases h : j = i
    · subst h
      rw [updS, if_neg (by omega), if_pos (by omega)]
    · rw [updN h]
      by_cases h2 : i + 1 ≤ j ∧ j < n
      · rw [if_pos h2, if_pos (by omega)]
      · rw [if_neg h2, if_neg (by omega)]
theorem fill_e {n k : Nat} {v : Int32} {σ : Sta} (hn : n < 300) : J7_fill_53178 n k v σ = some ((), up1 σ k (fun j => if j < n then v else σ.1 k j)) := by
  have h := fillL (n := n) (k := k) (v := v) (σ := σ) (by omega) n 0 FU (σ.1 k) (by omega) hn
  rw [up1_id] at h
  rw [J7_fill_53178]
  have h2 : J7_fill_53178_L5 n k FU v (0 : Int32) (Int32.ofNat n) σ = some ((), up1 σ k (fun j => if 0 ≤ j ∧ j < n then v else σ.1 k j)) := h
  rw [h2]
  simp
theorem allByKind_e (c : Nat) (σ : Sta) : X0_allByKind c σ = some ((), up1 σ (c + 2) (fun j => if j < 6 then -1 else σ.1 (c + 2) j)) := by
  rw [X0_allByKind, cA_of (fill_e (by decide))]
/-- cells that questions may change: contest, choices, trial, rows of worths; the reference's hand -/
def isQ (k : Nat) : Prop := k = 55 ∨ k = 57 ∨ (65 ≤ k ∧ k ≤ 73) ∨ k = 78 ∨ k = 79 ∨ (87 ≤ k ∧ k ≤ 93)
def FrQ (σ τ : Sta) : Prop := (∀ k, ¬ isQ k → τ.1 k = σ.1 k) ∧ τ.2 = σ.2
theorem FrQ.rf (σ : Sta) : FrQ σ σ := ⟨fun _ _ => rfl, rfl⟩
theorem FrQ.tr {a b c : Sta} (h1 : FrQ a b) (h2 : FrQ b c) : FrQ a c := ⟨fun k q => (h2.1 k q).trans (h1.1 k q), h2.2.trans h1.2⟩
theorem FrT.q {a b : Sta} (h : FrT a b) : FrQ a b := ⟨fun k q => h.1 k (fun e => q (Or.inl e)) (fun e => q (by unfold isQ; omega)) (fun e => q (by unfold isQ; omega)) (fun e => q (by unfold isQ; omega)) (fun e => q (by unfold isQ; omega)) (fun e => q (by unfold isQ; omega)), h.2⟩
theorem FrQ.up {σ : Sta} {k : Nat} {f : Nat → Int32} (h : isQ k) : FrQ σ (up1 σ k f) := ⟨fun j q => up1_n (fun e => q (by rw [e]; exact h)), rfl⟩
theorem FrQ.at {σ τ : Sta} (h : FrQ σ τ) {k : Nat} (hk : ¬ isQ k) : τ.1 k = σ.1 k := h.1 k hk
/-- cells that a trial changes -/
def isB (k : Nat) : Prop := k = 55 ∨ k = 57 ∨ (65 ≤ k ∧ k ≤ 73)
def FrB (σ τ : Sta) : Prop := (∀ k, ¬ isB k → τ.1 k = σ.1 k) ∧ τ.2 = σ.2
theorem FrB.rf (σ : Sta) : FrB σ σ := ⟨fun _ _ => rfl, rfl⟩
theorem FrB.tr {a b c : Sta} (h1 : FrB a b) (h2 : FrB b c) : FrB a c := ⟨fun k q => (h2.1 k q).trans (h1.1 k q), h2.2.trans h1.2⟩
theorem FrT.b {a b : Sta} (h : FrT a b) : FrB a b := ⟨fun k q => h.1 k (fun e => q (Or.inl e)) (fun e => q (by unfold isB; omega)) (fun e => q (by unfold isB; omega)) (fun e => q (by unfold isB; omega)) (fun e => q (by unfold isB; omega)) (fun e => q (by unfold isB; omega)), h.2⟩
theorem FrB.up {σ : Sta} {k : Nat} {f : Nat → Int32} (h : isB k) : FrB σ (up1 σ k f) := ⟨fun j q => up1_n (fun e => q (by rw [e]; exact h)), rfl⟩
theorem FrB.q {a b : Sta} (h : FrB a b) : FrQ a b := ⟨fun k q => h.1 k (fun e => q (by unfold isB at e; unfold isQ; omega)), h.2⟩
abbrev cpf (n : Nat) (f g : Nat → Int32) : Nat → Int32 := va_cpy f g 0 0 n
theorem cpf_in {n j : Nat} {f g : Nat → Int32} (h : j < n) : cpf n f g j = f j := by
  have := pk_cpy_in (f := f) (g := g) (sp := 0) (dp := 0) (n := n) (j := j) (by omega) (by omega)
  simpa using this
theorem C_begin {n y : Nat} {σ : Sta} (h10 : σ.1 1 10 = nI n) (h11 : σ.1 1 11 = nI y) : ∃ τ, X2_begin 1 σ = some ((), τ) ∧ Tr n y (fun j => if j < 6 then -1 else σ.1 57 j) (cpf 6 (σ.1 4) (σ.1 68)) (cpf 18 (σ.1 5) (σ.1 69)) (cpf 8 (σ.1 2) (σ.1 66)) (cpf 8 (σ.1 3) (σ.1 67)) (cpf 6 (σ.1 6) (σ.1 70), cpf 6 (σ.1 7) (σ.1 71)) τ ∧ FrB σ τ := by
  rw [X2_begin, X10_takeCourse]
  simp only [cpI_e, fI_e, pI_e, cA_e, allByKind_e]
  refine ⟨_, rfl, ?_, ?_⟩
  · refine ⟨?_, ?_, ?_, ?_, ?_, ?_, ?_, ?_, ?_⟩ <;> simp [up1, va_up, upd, h10, h11]
  · refine ⟨fun k hk => ?_, rfl⟩
    have : k ≠ 55 ∧ k ≠ 57 ∧ k ≠ 65 ∧ k ≠ 66 ∧ k ≠ 67 ∧ k ≠ 68 ∧ k ≠ 69 ∧ k ≠ 70 ∧ k ≠ 71 := by unfold isB at hk; omega
    obtain ⟨a1, a2, a3, a4, a5, a6, a7, a8, a9⟩ := this
    simp [up1, va_up, a1, a2, a3, a4, a5, a6, a7, a8, a9]
/-- two courses alike as far as anybody looks -/
def Ag (n : Nat) (ch kd ar so wo ch' kd' ar' so' wo' : Nat → Int32) : Prop := (∀ p, p < n → ch p = ch' p ∧ kd p = kd' p ∧ ∀ t, t < 3 → ar (3 * p + t) = ar' (3 * p + t)) ∧ ∀ y, y < 8 → so y = so' y ∧ wo y = wo' y
def AgQ (n : Nat) (q q' : Cq) : Prop := ∀ p, p < n → q.1 p = q'.1 p ∧ q.2 p = q'.2 p
theorem stg_ag {n p y : Nat} {ch kd ar so wo ch' kd' ar' so' wo' wi wi' : Nat → Int32} (h : Ag n ch kd ar so wo ch' kd' ar' so' wo') (hw : WF n kd ar wi so wo) (hwi : wi p = wi' p) (hp : p < n) (hy : y < 8) : stg ch kd ar wi so wo p y = stg ch' kd' ar' wi' so' wo' p y := by
  obtain ⟨h1, h2⟩ := h
  obtain ⟨a1, a2, a3⟩ := h1 p hp
  obtain ⟨b1, b2⟩ := h2 y hy
  unfold stg
  rw [← a1, ← a2, ← b1, ← b2, ← hwi]
  by_cases e : so y = -1
  · rw [if_pos e, if_pos e]
  · rw [if_neg e, if_neg e]
    obtain ⟨t, ht, et⟩ := (hw.2.2.2.2.1 y hy).resolve_left e
    rw [et, kno_n (by omega), a3 t ht]
theorem hs_ag {g g' : Nat → Int32} : ∀ n, (∀ p, p < n → g p = g' p) → hs g n = hs g' n
  | 0, _ => rfl
  | n + 1, h => by rw [hs, hs, hs_ag n (fun p hp => h p (by omega)), h n (by omega)]
theorem ents_ag {g g' : Nat → Int32} : ∀ n, (∀ p, p < n → g p = g' p) → ents g n = ents g' n
  | 0, _ => rfl
  | n + 1, h => by rw [ents, ents, ents_ag n (fun p hp => h p (by omega)), h n (by omega)]
theorem addW_ag {n p y : Nat} {w w' : Nat → Int32} {x : Int32} (h : ∀ p, p < n → w p = w' p) (hn : n ≤ 6) (hx : who n x) (hp : p < n) : addW w x y p = addW w' x y p := by
  rcases hx with rfl | ⟨i, hi, rfl⟩
  · rw [addW, addW, if_pos rfl, if_pos rfl]; exact h p hp
  · rw [addW, addW, if_neg (nm1 (by omega)), if_neg (nm1 (by omega)), kno_n (by omega)]
    by_cases e : p = i
    · subst e; rw [updS, updS, h p hp]
    · rw [updN e, updN e, h p hp]
theorem addS_ag {n p : Nat} {w w' : Nat → Int32} {x : Int32} (h : ∀ p, p < n → w p = w' p) (hn : n ≤ 6) (hx : who n x) (hp : p < n) : addS w x p = addS w' x p := by
  rcases hx with rfl | ⟨i, hi, rfl⟩
  · rw [addS, addS, if_pos rfl, if_pos rfl]; exact h p hp
  · rw [addS, addS, if_neg (nm1 (by omega)), if_neg (nm1 (by omega)), kno_n (by omega)]
    by_cases e : p = i
    · subst e; rw [updS, updS, h p hp]
    · rw [updN e, updN e, h p hp]
theorem stp_ag {n y : Nat} {ch kd ar so wo ch' kd' ar' so' wo' : Nat → Int32} {q q' : Cq} (h : Ag n ch kd ar so wo ch' kd' ar' so' wo') (hw : WF n kd ar q.1 so wo) (hq : AgQ n q q') (hy : y < 8) : AgQ n (stp n ch kd ar so wo y q) (stp n ch' kd' ar' so' wo' y q') := by
  have e : hs (fun p => stg ch kd ar q.1 so wo p y) n = hs (fun p => stg ch' kd' ar' q'.1 so' wo' p y) n := hs_ag n (fun p hp => stg_ag h hw (hq p hp).1 hp hy)
  intro p hp
  unfold stp
  rw [← e]
  exact ⟨addW_ag (fun p hp => (hq p hp).1) hw.1 (hs_who _ n).1 hp, addS_ag (fun p hp => (hq p hp).2) hw.1 (hs_who _ n).2 hp⟩
theorem rn_ag {n : Nat} {ch kd ar so wo ch' kd' ar' so' wo' : Nat → Int32} (h : Ag n ch kd ar so wo ch' kd' ar' so' wo') : ∀ (d y : Nat) (q q' : Cq), WF n kd ar q.1 so wo → AgQ n q q' → y + d ≤ 8 → AgQ n (rn n ch kd ar so wo d y q) (rn n ch' kd' ar' so' wo' d y q')
  | 0, _, _, _, _, hq, _ => hq
  | d + 1, y, q, q', hw, hq, hy => rn_ag h d (y + 1) _ _ (WF_stp hw (by omega)) (stp_ag h hw hq (by omega)) (by omega)
theorem WF_ag {n : Nat} {ch kd ar so wo ch' kd' ar' so' wo' wi wi' : Nat → Int32} (h : Ag n ch kd ar so wo ch' kd' ar' so' wo') (hwi : ∀ p, p < n → wi p = wi' p) (hw : WF n kd ar wi so wo) : WF n kd' ar' wi' so' wo' := by
  obtain ⟨h1, h2, h3, h4, h5, h6⟩ := hw
  exact ⟨h1, fun p hp => by rw [← (h.1 p hp).2.1]; exact h2 p hp, fun p hp t ht => by rw [← (h.1 p hp).2.2 t ht]; exact h3 p hp t ht, fun p hp => by rw [← hwi p hp]; exact h4 p hp, fun y hy => by rw [← (h.2 y hy).1]; exact h5 y hy, fun y hy => by rw [← (h.2 y hy).2]; exact h6 y hy⟩
