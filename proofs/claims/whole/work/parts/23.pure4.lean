/-! PURE HALF 4: years gone by on trial: the class -/
abbrev Cq : Type := (Nat → Int32) × (Nat → Int32)
def stp (n : Nat) (ch kd ar so wo : Nat → Int32) (y : Nat) (q : Cq) : Cq := (addW q.1 (hs (fun p => stg ch kd ar q.1 so wo p y) n).1 y, addS q.2 (hs (fun p => stg ch kd ar q.1 so wo p y) n).2.2.1)
def rn (n : Nat) (ch kd ar so wo : Nat → Int32) : Nat → Nat → Cq → Cq
  | 0, _, q => q
  | d + 1, y, q => rn n ch kd ar so wo d (y + 1) (stp n ch kd ar so wo y q)
theorem orb : ∀ w, w < 256 → ∀ y, y < 8 → nI w ||| ((1 : Int32) <<< (nI y &&& 31)) = nI (w ||| 2 ^ y) ∧ w ||| 2 ^ y < 256 := by decide +kernel
theorem WF_addW {n y : Nat} {kd ar wi so wo : Nat → Int32} {x : Int32} (h : WF n kd ar wi so wo) (hx : who n x) (hy : y < 8) : WF n kd ar (addW wi x y) so wo := by
  obtain ⟨h1, h2, h3, h4, h5, h6⟩ := h
  refine ⟨h1, h2, h3, fun p hp => ?_, h5, h6⟩
  rcases hx with rfl | ⟨i, hi, rfl⟩
  · rw [addW, if_pos rfl]
    exact h4 p hp
  · rw [addW, if_neg (nm1 (by omega)), kno_n (by omega)]
    by_cases e : p = i
    · subst e
      obtain ⟨w, hw, ew⟩ := h4 p hp
      rw [updS, ew]
      exact ⟨_, (orb w hw y hy).2, (orb w hw y hy).1⟩
    · rw [updN e]
      exact h4 p hp
theorem WF_stp {n y : Nat} {ch kd ar so wo : Nat → Int32} {q : Cq} (h : WF n kd ar q.1 so wo) (hy : y < 8) : WF n kd ar (stp n ch kd ar so wo y q).1 so wo := WF_addW h (hs_who _ n).1 hy
theorem WF_rn {n : Nat} {ch kd ar so wo : Nat → Int32} : ∀ (d y : Nat) (q : Cq), WF n kd ar q.1 so wo → y + d ≤ 8 → WF n kd ar (rn n ch kd ar so wo d y q).1 so wo
  | 0, _, _, h, _ => h
  | d + 1, y, q, h, hy => WF_rn d (y + 1) _ (WF_stp h (by omega)) (by omega)
theorem rn_add {n : Nat} {ch kd ar so wo : Nat → Int32} : ∀ (d e y : Nat) (q : Cq), rn n ch kd ar so wo (d + e) y q = rn n ch kd ar so wo e (y + d) (rn n ch kd ar so wo d y q)
  | 0, e, y, q => by rw [Nat.zero_add]; rfl
  | d + 1, e, y, q => by
    rw [show d + 1 + e = (d + e) + 1 by omega, rn, rn_add d e (y + 1), rn, show y + 1 + d = y + (d + 1) by omega]
/-- the trial: n people, year y, who chose what, .. -/
def Tr (n y : Nat) (ch kd ar so wo : Nat → Int32) (q : Cq) (τ : Sta) : Prop := τ.1 65 10 = nI n ∧ τ.1 65 11 = nI y ∧ τ.1 57 = ch ∧ τ.1 68 = kd ∧ τ.1 69 = ar ∧ τ.1 66 = so ∧ τ.1 67 = wo ∧ τ.1 70 = q.1 ∧ τ.1 71 = q.2
def FrT (σ τ : Sta) : Prop := (∀ k, k ≠ 55 → k ≠ 65 → k ≠ 70 → k ≠ 71 → k ≠ 72 → k ≠ 73 → τ.1 k = σ.1 k) ∧ τ.2 = σ.2
theorem FrT.rf (σ : Sta) : FrT σ σ := ⟨fun _ _ _ _ _ _ _ => rfl, rfl⟩
theorem FrT.tr {a b c : Sta} (h1 : FrT a b) (h2 : FrT b c) : FrT a c := ⟨fun k q1 q2 q3 q4 q5 q6 => (h2.1 k q1 q2 q3 q4 q5 q6).trans (h1.1 k q1 q2 q3 q4 q5 q6), h2.2.trans h1.2⟩
theorem Tr.gSt {n y : Nat} {ch kd ar so wo : Nat → Int32} {q : Cq} {τ : Sta} (h : Tr n y ch kd ar so wo q τ) (z : Nat) : gSt 55 65 τ z = fun p => stg ch kd ar q.1 so wo p z := by
  obtain ⟨h1, h2, h3, h4, h5, h6, h7, h8, h9⟩ := h
  funext p
  show stg (τ.1 57) (τ.1 68) (τ.1 69) (τ.1 70) (τ.1 66) (τ.1 67) p z = _
  rw [h3, h4, h5, h6, h7, h8]
theorem Tr.wf {n y : Nat} {ch kd ar so wo : Nat → Int32} {q : Cq} {τ : Sta} (h : Tr n y ch kd ar so wo q τ) (hw : WF n kd ar q.1 so wo) : wfS 65 n τ := by
  obtain ⟨h1, h2, h3, h4, h5, h6, h7, h8, h9⟩ := h
  show WF n (τ.1 68) (τ.1 69) (τ.1 70) (τ.1 66) (τ.1 67)
  rw [h4, h5, h6, h7, h8]
  exact hw
theorem C_runL {n e : Nat} {ch kd ar so wo : Nat → Int32} (he : e ≤ 8) : ∀ (d y fu : Nat) (q : Cq) (τ : Sta), y + d = e → d < fu → Tr n y ch kd ar so wo q τ → WF n kd ar q.1 so wo → ∃ τ', X2_runTo_L8 fu (nI e) (nI y) τ = some ((), τ') ∧ Tr n e ch kd ar so wo (rn n ch kd ar so wo d y q) τ' ∧ FrT τ τ'
  | d, y, 0, q, τ, _, h, _, _ => by omega
  | 0, y, fu + 1, q, τ, hyd, _, hT, hw => by
    have hye : y = e := by omega
    subst hye
    refine ⟨τ, ?_, hT, FrT.rf τ⟩
    rw [X2_runTo_L8, if_neg (nI_nlt (Nat.le_refl _) (by omega))]
  | d + 1, y, fu + 1, q, τ, hyd, hf, hT, hw => by
    obtain ⟨f, h1, h2, h3, h4⟩ := C_hold (c := 55) (r := 65) (y := y) (by intro i hi; omega) hT.1 (hT.wf hw) (by omega)
    rw [hT.gSt] at h3 h4
    have hwho := hs_who (fun p => stg ch kd ar q.1 so wo p y) n
    have hp := C_pass (r := 65) (σ := up1 τ 55 f) (n := n) (y := y) (a := f 3) (b := f 4) (by rw [up1_n (by decide)]; exact hT.1) hw.1 (by rw [up1_n (by decide)]; exact hT.2.1) (by omega) (by rw [h3]; exact hwho.1) (by rw [h4]; exact hwho.2)
    have hT2 : Tr n (y + 1) ch kd ar so wo (stp n ch kd ar so wo y q) (passed 65 (up1 τ 55 f) (f 3) (f 4) y) := by
      obtain ⟨g1, g2, g3, g4, g5, g6, g7, g8, g9⟩ := hT
      refine ⟨?_, ?_, ?_, ?_, ?_, ?_, ?_, ?_, ?_⟩ <;> simp [passed, up1, va_up, upd, stp] <;> first | assumption | (rw [g8, h3]) | (rw [g9, h4])
    have hF : FrT τ (passed 65 (up1 τ 55 f) (f 3) (f 4) y) := ⟨fun k q1 q2 q3 q4 q5 q6 => by simp [passed, up1, va_up, q1, q2, q3, q4, q5, q6], rfl⟩
    obtain ⟨τ', e1, e2, e3⟩ := C_runL he d (y + 1) fu _ _ (by omega) (by omega) hT2 (WF_stp hw (by omega))
    refine ⟨τ', ?_, e2, hF.tr e3⟩
    rw [X2_runTo_L8, if_pos (nI_lt (by omega) (by omega)), if_pos (lt8 (by omega)), cA_of h1, fI_e, fI_e, up1_s, cA_of hp, nI_1]
    exact e1
theorem C_runTo {n y e : Nat} {ch kd ar so wo : Nat → Int32} {q : Cq} {σ : Sta} (hT : Tr n y ch kd ar so wo q σ) (hw : WF n kd ar q.1 so wo) (hy : y ≤ e) (he : e ≤ 8) : ∃ τ, X2_runTo (nI e) σ = some ((), τ) ∧ Tr n e ch kd ar so wo (rn n ch kd ar so wo (e - y) y q) τ ∧ FrT σ τ := by
  rw [X2_runTo, fI_e, hT.2.1]
  exact C_runL he (e - y) y FU q σ (by omega) (by show _ < 300; omega) hT hw
