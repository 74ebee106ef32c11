/-! PURE HALF 19: valleys by a seed -/
abbrev nx (x : Int64) : Int64 := ((x * (1103515245 : Int64)) + (12345 : Int64)) - ((x * (1103515245 : Int64)) + (12345 : Int64)) / (2147483648 : Int64) * (2147483648 : Int64)
abbrev sx (x : Int64) : Int32 := ((x / (65536 : Int64)) - (x / (65536 : Int64)) / (3 : Int64) * (3 : Int64)).toInt32
abbrev wx (x : Int64) : Int32 := ((x / (1048576 : Int64)) - (x / (1048576 : Int64)) / (30 : Int64) * (30 : Int64)).toInt32 + (1 : Int32)
def Xr (x : Int64) : Prop := ∃ X : Nat, X < 2147483648 ∧ x = lN X
theorem nx_r {x : Int64} (h : Xr x) : Xr (nx x) := by
  obtain ⟨X, h1, rfl⟩ := h
  refine ⟨(X * 1103515245 + 12345) % 2147483648, Nat.mod_lt _ (by decide), ?_⟩
  show (lN X * lN 1103515245 + lN 12345) - (lN X * lN 1103515245 + lN 12345) / lN 2147483648 * lN 2147483648 = _
  have hb : X * 1103515245 + 12345 < 2 ^ 63 := by omega
  rw [lN_mul, lN_add, lN_rem hb (by decide)]
theorem sx_r {x : Int64} (h : Xr x) : ∃ t, t < 3 ∧ sx x = nI t := by
  obtain ⟨X, h1, rfl⟩ := h
  refine ⟨X / 65536 % 3, Nat.mod_lt _ (by decide), ?_⟩
  show ((lN X / lN 65536) - (lN X / lN 65536) / lN 3 * lN 3).toInt32 = _
  rw [lN_div (by omega) (by decide), lN_rem (by omega) (by decide), lN_i]
theorem wx_r {x : Int64} (h : Xr x) : ∃ t, t ≤ 30 ∧ wx x = nI t := by
  obtain ⟨X, h1, rfl⟩ := h
  refine ⟨X / 1048576 % 30 + 1, by have := Nat.mod_lt (X / 1048576) (show 30 > 0 by decide); omega, ?_⟩
  show ((lN X / lN 1048576) - (lN X / lN 1048576) / lN 30 * lN 30).toInt32 + 1 = _
  rw [lN_div (by omega) (by decide), lN_rem (by omega) (by decide), lN_i, nI_1]
def Sd (zf : Int64 → Int64) (zg zw : Int64 → Int32) : Prop := (∀ x : Int64, ((x * (1103515245 : Int64)) + (12345 : Int64)) - ((x * (1103515245 : Int64)) + (12345 : Int64)) / (2147483648 : Int64) * (2147483648 : Int64) = zf x) ∧ (∀ x : Int64, ((x / (65536 : Int64)) - (x / (65536 : Int64)) / (3 : Int64) * (3 : Int64)).toInt32 = zg x) ∧ (∀ x : Int64, ((x / (1048576 : Int64)) - (x / (1048576 : Int64)) / (30 : Int64) * (30 : Int64)).toInt32 + (1 : Int32) = zw x) ∧ (∀ x, Xr x → Xr (zf x)) ∧ (∀ x, Xr x → ∃ t, t < 3 ∧ zg x = nI t) ∧ (∀ x, Xr x → ∃ t, t ≤ 30 ∧ zw x = nI t)
theorem Sd_is : ∃ zf zg zw, Sd zf zg zw := ⟨fun x => nx x, fun x => sx x, fun x => wx x, fun _ => rfl, fun _ => rfl, fun _ => rfl, fun _ h => nx_r h, fun _ h => sx_r h, fun _ h => wx_r h⟩
def xk (zf : Int64 → Int64) : Nat → Int64 → Int64
  | 0, x => x
  | k + 1, x => xk zf k (zf x)
abbrev kf (v : Int32) : Nat → Int32 := fun _ => v
def vS (zf : Int64 → Int64) (zg zw : Int64 → Int32) (N : Nat → Int32) (n : Nat) : Nat → Nat → Int64 → Cq → Int32 → Int32
  | 0, _, _, _, s => s
  | d + 1, y, x, q, s => vS zf zg zw N n d (y + 1) (zf x) (sN N n ch0 (kf (zg (zf x))) (kf (zw (zf x))) y q) (if (hs (gN N ch0 (kf (zg (zf x))) (kf (zw (zf x))) q y) n).1 = -1 then s + 0 else s + zw (zf x))
theorem gN_y {N ch so wo so' wo' : Nat → Int32} {q : Cq} {y : Nat} (h1 : so y = so' y) (h2 : wo y = wo' y) : gN N ch so wo q y = gN N ch so' wo' q y := by
  funext p
  unfold gN stg
  rw [h1, h2]
theorem sN_y {N ch so wo so' wo' : Nat → Int32} {q : Cq} {n y : Nat} (h1 : so y = so' y) (h2 : wo y = wo' y) : sN N n ch so wo y q = sN N n ch so' wo' y q := by
  have e := gN_y (N := N) (ch := ch) (q := q) h1 h2
  unfold gN at e
  unfold sN stp
  rw [e]
theorem Wf_set {N so wo : Nat → Int32} {n i t w : Nat} {q : Cq} (h : Wf N n so wo q) (ht : t < 3) (hw : w ≤ 30) : Wf N n (upd so i (nI t)) (upd wo i (nI w)) q := by
  obtain ⟨h1, h2, h3, h4, h5, h6⟩ := h
  refine ⟨h1, h2, h3, h4, fun z hz => ?_, fun z hz => ?_⟩
  · by_cases c : z = i
    · subst c; rw [updS]; exact Or.inr ⟨t, ht, rfl⟩
    · rw [updN c]; exact h5 z hz
  · by_cases c : z = i
    · subst c; rw [updS]; exact ⟨w, hw, rfl⟩
    · rw [updN c]; exact h6 z hz
theorem TC_step {N : Nat → Int32} {n y : Nat} {ch so wo : Nat → Int32} {q : Cq} {σ : Sta} (h : TC N n y ch so wo q σ) (hw : Wf N n so wo q) (hy : y < 8) : ∃ f τ, X0_hold 55 65 (nI y) σ = some ((), up1 σ 55 f) ∧ f 3 = (hs (gN N ch so wo q y) n).1 ∧ X10_pass 65 (f 3) (f 4) (up1 σ 55 f) = some ((), τ) ∧ τ.1 55 3 = (hs (gN N ch so wo q y) n).1 ∧ τ.1 67 y = wo y ∧ TC N n (y + 1) ch so wo (sN N n ch so wo y q) τ ∧ FrB σ τ := by
  obtain ⟨ch', kd', ar', so', wo', q', h1, h2, h3⟩ := h
  have hw' := WF_ag h2 (fun p hp => (h3 p hp).1) hw
  obtain ⟨f, c1, c2, c3, c4⟩ := C_hold (c := 55) (r := 65) (y := y) (by intro i hi; omega) h1.1 (h1.wf hw') hy
  rw [h1.gSt] at c3 c4
  have hwho := hs_who (fun p => stg ch' kd' ar' q'.1 so' wo' p y) n
  have hp := C_pass (r := 65) (σ := up1 σ 55 f) (n := n) (y := y) (a := f 3) (b := f 4) (by rw [up1_n (by decide)]; exact h1.1) hw.1 (by rw [up1_n (by decide)]; exact h1.2.1) hy (by rw [c3]; exact hwho.1) (by rw [c4]; exact hwho.2)
  have eg : hs (gN N ch so wo q y) n = hs (fun p => stg ch' kd' ar' q'.1 so' wo' p y) n := hs_ag n (fun p hp => stg_ag h2 hw (h3 p hp).1 hp hy)
  have e55 : (passed 65 (up1 σ 55 f) (f 3) (f 4) y).1 55 = f := by simp [passed, up1, va_up]
  have e67 : (passed 65 (up1 σ 55 f) (f 3) (f 4) y).1 67 = σ.1 67 := by simp [passed, up1, va_up]
  have hT2 : Tr n (y + 1) ch' kd' ar' so' wo' (stp n ch' kd' ar' so' wo' y q') (passed 65 (up1 σ 55 f) (f 3) (f 4) y) := by
    obtain ⟨g1, g2, g3, g4, g5, g6, g7, g8, g9⟩ := h1
    refine ⟨?_, ?_, ?_, ?_, ?_, ?_, ?_, ?_, ?_⟩ <;> simp [passed, up1, va_up, upd, stp] <;> first | assumption | (rw [g8, c3]) | (rw [g9, c4])
  have hF : FrT σ (passed 65 (up1 σ 55 f) (f 3) (f 4) y) := ⟨fun k q1 q2 q3 q4 q5 q6 => by simp [passed, up1, va_up, q1, q2, q3, q4, q5, q6], rfl⟩
  refine ⟨f, _, c1, by rw [eg]; exact c3, hp, by rw [e55, eg]; exact c3, ?_, ⟨_, _, _, _, _, _, hT2, h2, stp_ag h2 hw h3 hy⟩, hF.b⟩
  rw [e67, h1.2.2.2.2.2.2.1]
  exact ((h2.2 y hy).2).symm
theorem C_valI {zf : Int64 → Int64} {zg zw : Int64 → Int32} (hS : Sd zf zg zw) {N : Nat → Int32} {n : Nat} {x3 y7 : Int32} {K : Int32 → Int64 → Int32 → Int32 → Sta → Option (Int32 × Sta)} : ∀ (d y fu : Nat) (x : Int64) (s : Int32) (so wo : Nat → Int32) (q : Cq) (σ : Sta), y + d = 8 → d < fu → Xr x → TC N n y ch0 so wo q σ → Wf N n so wo q → ∃ τ, X2_worthInValleys_L27 1 K fu x3 x s y7 (nI y) σ = K x3 (xk zf d x) (vS zf zg zw N n d y x q s) (y7 + 1) τ ∧ FrB σ τ
  | d, y, 0, x, s, so, wo, q, σ, _, h, _, _, _ => by omega
  | 0, y, fu + 1, x, s, so, wo, q, σ, hy, _, hx, hT, hw => by
    have e : y = 8 := by omega
    subst e
    exact ⟨σ, by rw [X2_worthInValleys_L27, if_neg nlt8]; rfl, FrB.rf σ⟩
  | d + 1, y, fu + 1, x, s, so, wo, q, σ, hy, hf, hx, hT, hw => by
    obtain ⟨t, t1, t2⟩ := hS.2.2.2.2.1 _ (hS.2.2.2.1 _ hx)
    obtain ⟨w, w1, w2⟩ := hS.2.2.2.2.2 _ (hS.2.2.2.1 _ hx)
    obtain ⟨τ1, e1, e2, e3⟩ := TC_set hT (i := y) (by omega) (zg (zf x)) (zw (zf x))
    have hw1 : Wf N n (upd so y (zg (zf x))) (upd wo y (zw (zf x))) q := by rw [t2, w2]; exact Wf_set hw t1 w1
    obtain ⟨f, τ2, f1, f2, f3, f4, f5, f6, f7⟩ := TC_step e2 hw1 (show y < 8 by omega)
    rw [updS] at f5
    have eg : gN N ch0 (upd so y (zg (zf x))) (upd wo y (zw (zf x))) q y = gN N ch0 (kf (zg (zf x))) (kf (zw (zf x))) q y := gN_y (updS _ _ _) (updS _ _ _)
    have es : sN N n ch0 (upd so y (zg (zf x))) (upd wo y (zw (zf x))) y q = sN N n ch0 (kf (zg (zf x))) (kf (zw (zf x))) y q := sN_y (updS _ _ _) (updS _ _ _)
    rw [eg] at f2 f4
    have hw2 : Wf N n (upd so y (zg (zf x))) (upd wo y (zw (zf x))) (sN N n ch0 (upd so y (zg (zf x))) (upd wo y (zw (zf x))) y q) := WF_stp hw1 (by omega)
    rw [es] at f6 hw2
    have fr : FrB σ τ2 := e3.tr f7
    rw [X2_worthInValleys_L27, if_pos (lt8 (by omega)), hS.1, hS.2.1, hS.2.2.1, cA_of e1, cA_of f1, fI_e, fI_e, up1_s, cA_of f3, fI_e, f4, nI_1, vS]
    by_cases c : (hs (gN N ch0 (kf (zg (zf x))) (kf (zw (zf x))) q y) n).1 = -1
    · rw [if_pos c, if_pos c]
      obtain ⟨τ, g1, g2⟩ := C_valI hS (x3 := x3) (y7 := y7) (K := K) d (y + 1) fu (zf x) (s + 0) _ _ _ τ2 (by omega) (by omega) (hS.2.2.2.1 _ hx) f6 hw2
      exact ⟨τ, g1, fr.tr g2⟩
    · rw [if_neg c, if_neg c, aI_n y (by omega), show τ2.1 (65 + 2) y = zw (zf x) from f5]
      obtain ⟨τ, g1, g2⟩ := C_valI hS (x3 := x3) (y7 := y7) (K := K) d (y + 1) fu (zf x) (s + zw (zf x)) _ _ _ τ2 (by omega) (by omega) (hS.2.2.2.1 _ hx) f6 hw2
      exact ⟨τ, g1, fr.tr g2⟩
termination_by structural d => d
theorem xk_r {zf : Int64 → Int64} {zg zw : Int64 → Int32} (hS : Sd zf zg zw) (k : Nat) : ∀ (x : Int64), Xr x → Xr (xk zf k x) := by
  induction k with
  | zero => exact fun _ h => h
  | succ k ih => exact fun x h => ih (zf x) (hS.2.2.2.1 _ h)
def vO (zf : Int64 → Int64) (zg zw : Int64 → Int32) (N : Nat → Int32) (n yr : Nat) : Nat → Int64 → Int32 → Int32
  | 0, _, s => s
  | t + 1, x, s => vO zf zg zw N n yr t (xk zf (8 - yr) x) (vS zf zg zw N n (8 - yr) yr x (qN N) s)
theorem C_valO {zf : Int64 → Int64} {zg zw : Int64 → Int32} (hS : Sd zf zg zw) {N : Nat → Int32} {n yr u nn nb m : Nat} (hm : m ≤ 60) : ∀ (d t fu : Nat) (x : Int64) (s : Int32) (σ : Sta), t + d = m → d < fu → Xr x → VR σ.1 1 N n yr u nn nb → ∃ τ, X2_worthInValleys_L10 1 fu (nI m) x s (nI t) σ = some (vO zf zg zw N n yr d x s, τ) ∧ FrB σ τ
  | d, t, 0, x, s, σ, _, h, _, _ => by omega
  | 0, t, fu + 1, x, s, σ, ht, _, hx, hv => by
    have e : t = m := by omega
    subst e
    exact ⟨σ, by rw [X2_worthInValleys_L10, if_neg (nI_nlt (Nat.le_refl _) (by omega))]; rfl, FrB.rf σ⟩
  | d + 1, t, fu + 1, x, s, σ, ht, hf, hx, hv => by
    have hy8 := hv.y8
    obtain ⟨τ1, e1, e2, e3⟩ := hv.begin
    have hv1 := hv.q e3.q
    obtain ⟨τ2, f1, f2⟩ := C_valI hS (x3 := nI m) (y7 := nI t) (K := X2_worthInValleys_L10 1 fu) (8 - yr) yr FU x s _ _ _ τ1 (by omega) (by show _ < 300; omega) hx e2 hv.wf
    obtain ⟨τ, g1, g2⟩ := C_valO hS hm d (t + 1) fu (xk zf (8 - yr) x) (vS zf zg zw N n (8 - yr) yr x (qN N) s) τ2 (by omega) (by omega) (xk_r hS _ _ hx) (hv1.q f2.q)
    refine ⟨τ, ?_, (e3.tr f2).tr g2⟩
    rw [X2_worthInValleys_L10, if_pos (nI_lt (by omega) (by omega)), cA_of e1, fI_e, hv1.s11, f1, nI_1, vO]
    exact g1
theorem HM_set {N : Nat → Int32} {n i : Nat} {ch so wo : Nat → Int32} {q : Cq} {σ : Sta} (h : HM N n ch so wo q σ) (s w : Int32) : HM N n ch (upd so i s) (upd wo i w) q (up1 (up1 σ 89 (upd (σ.1 89) i s)) 90 (upd (σ.1 90) i w)) := by
  obtain ⟨h1, h2, h3, h4⟩ := h
  have o : ∀ k, k ≠ 89 → k ≠ 90 → (up1 (up1 σ 89 (upd (σ.1 89) i s)) 90 (upd (σ.1 90) i w)).1 k = σ.1 k := fun k k1 k2 => by rw [up1_n k2, up1_n k1]
  refine ⟨by rw [o 83 (by decide) (by decide)]; exact h1, h2, fun p hp => by rw [o 91 (by decide) (by decide), o 87 (by decide) (by decide), o 88 (by decide) (by decide)]; exact h3 p hp, fun y hy => ?_⟩
  rw [up1_n (show 89 ≠ 90 by decide), up1_s, up1_s]
  by_cases c : y = i
  · subst c; rw [updS, updS, updS, updS]; exact ⟨rfl, rfl⟩
  · rw [updN c, updN c, updN c, updN c]; exact h4 y hy
theorem M_val1 {zf : Int64 → Int64} {zg zw : Int64 → Int32} (hS : Sd zf zg zw) {N : Nat → Int32} {n yr : Nat} {x3 t0 : Int32} {K : Int32 → Int64 → Int32 → Int32 → Sta → Option (Int32 × Sta)} (h4 : N 4 = nI yr) : ∀ (d y fu : Nat) (x : Int64) (s : Int32) (so wo : Nat → Int32) (q : Cq) (σ : Sta), y + d = 8 → d < fu → Xr x → HM N n ch0 so wo q σ → Wf N n so wo q → ∃ τ so' wo', X12_valleys_L58 K fu x3 x s t0 (nI y) σ = X12_valleys_L129 K FU x3 (xk zf d x) s t0 (nI yr) τ ∧ HM N n ch0 so' wo' q τ ∧ Wf N n so' wo' q ∧ (∀ z, y ≤ z → z < 8 → so' z = zg (xk zf (z - y + 1) x) ∧ wo' z = zw (xk zf (z - y + 1) x)) ∧ (∀ z, z < y → so' z = so z ∧ wo' z = wo z) ∧ FrL σ τ
  | d, y, 0, x, s, so, wo, q, σ, _, h, _, _, _ => by omega
  | 0, y, fu + 1, x, s, so, wo, q, σ, hy, _, hx, hH, hw => by
    have e : y = 8 := by omega
    subst e
    refine ⟨σ, so, wo, ?_, hH, hw, fun z z1 z2 => by omega, fun z _ => ⟨rfl, rfl⟩, FrL.rf σ⟩
    rw [X12_valleys_L58, if_neg nlt8, aI4, hH.1, h4]
    rfl
  | d + 1, y, fu + 1, x, s, so, wo, q, σ, hy, hf, hx, hH, hw => by
    obtain ⟨t, t1, t2⟩ := hS.2.2.2.2.1 _ (hS.2.2.2.1 _ hx)
    obtain ⟨w, w1, w2⟩ := hS.2.2.2.2.2 _ (hS.2.2.2.1 _ hx)
    have hw1 : Wf N n (upd so y (zg (zf x))) (upd wo y (zw (zf x))) q := by rw [t2, w2]; exact Wf_set hw t1 w1
    obtain ⟨τ, so', wo', e1, e2, e3, e4, e5, e6⟩ := M_val1 hS (x3 := x3) (t0 := t0) (K := K) h4 d (y + 1) fu (zf x) s _ _ q _ (by omega) (by omega) (hS.2.2.2.1 _ hx) (HM_set hH (i := y) (zg (zf x)) (zw (zf x))) hw1
    refine ⟨τ, so', wo', ?_, e2, e3, fun z z1 z2 => ?_, fun z hz => ?_, FrL.tr ((FrL.up (by unfold isL; omega)).tr (FrL.up (by unfold isL; omega))) e6⟩
    · rw [X12_valleys_L58, if_pos (lt8 (by omega)), hS.1, hS.2.1, hS.2.2.1, sI_n y (by omega), sI_n y (by omega), up1_n (show 90 ≠ 89 by decide), nI_1]
      exact e1
    · by_cases c : z = y
      · subst c
        obtain ⟨b1, b2⟩ := e5 z (by omega)
        rw [b1, b2, updS, updS, Nat.sub_self]
        exact ⟨rfl, rfl⟩
      · obtain ⟨b1, b2⟩ := e4 z (by omega) z2
        rw [b1, b2, show z - y + 1 = (z - (y + 1) + 1) + 1 by omega]
        exact ⟨rfl, rfl⟩
    · obtain ⟨b1, b2⟩ := e5 z (by omega)
      rw [b1, b2, updN (by omega), updN (by omega)]
      exact ⟨rfl, rfl⟩
termination_by structural d => d
theorem M_val2 {zf : Int64 → Int64} {zg zw : Int64 → Int32} (hS : Sd zf zg zw) {N : Nat → Int32} {n : Nat} {x3 t0 : Int32} {xe : Int64} {so wo : Nat → Int32} {K : Int32 → Int64 → Int32 → Int32 → Sta → Option (Int32 × Sta)} : ∀ (d y fu : Nat) (x : Int64) (s : Int32) (q : Cq) (σ : Sta), y + d = 8 → d < fu → (∀ z, y ≤ z → z < 8 → so z = zg (xk zf (z - y + 1) x) ∧ wo z = zw (xk zf (z - y + 1) x)) → HM N n ch0 so wo q σ → Wf N n so wo q → ∃ τ, X12_valleys_L129 K fu x3 xe s t0 (nI y) σ = K x3 xe (vS zf zg zw N n d y x q s) (t0 + 1) τ ∧ FrL σ τ
  | d, y, 0, x, s, q, σ, _, h, _, _, _ => by omega
  | 0, y, fu + 1, x, s, q, σ, hy, _, hx, hH, hw => by
    have e : y = 8 := by omega
    subst e
    exact ⟨σ, by rw [X12_valleys_L129, if_neg nlt8]; rfl, FrL.rf σ⟩
  | d + 1, y, fu + 1, x, s, q, σ, hy, hf, hx, hH, hw => by
    obtain ⟨τ1, e1, e2, e3⟩ := HM_year hH hw (z := y) (by omega)
    obtain ⟨b1, b2⟩ := hx y (Nat.le_refl _) (by omega)
    rw [Nat.sub_self] at b1 b2
    have b1' : so y = zg (zf x) := b1
    have b2' : wo y = zw (zf x) := b2
    have eg : gN N ch0 so wo q y = gN N ch0 (kf (zg (zf x))) (kf (zw (zf x))) q y := gN_y b1' b2'
    have es : sN N n ch0 so wo y q = sN N n ch0 (kf (zg (zf x))) (kf (zw (zf x))) y q := sN_y b1' b2'
    have hw2 : Wf N n so wo (sN N n ch0 so wo y q) := WF_stp hw (by omega)
    rw [eg] at e1
    rw [es] at e2 hw2
    have hx2 : ∀ z, y + 1 ≤ z → z < 8 → so z = zg (xk zf (z - (y + 1) + 1) (zf x)) ∧ wo z = zw (xk zf (z - (y + 1) + 1) (zf x)) := fun z z1 z2 => by
      have := hx z (by omega) z2
      rw [show z - y + 1 = (z - (y + 1) + 1) + 1 by omega] at this
      exact this
    rw [X12_valleys_L129, if_pos (lt8 (by omega)), cA_of e1, nI_1, vS]
    by_cases c : (hs (gN N ch0 (kf (zg (zf x))) (kf (zw (zf x))) q y) n).1 = -1
    · rw [if_pos c, if_pos c]
      obtain ⟨τ, g1, g2⟩ := M_val2 hS (x3 := x3) (t0 := t0) (xe := xe) (K := K) d (y + 1) fu (zf x) (s + 0) _ τ1 (by omega) (by omega) hx2 e2 hw2
      exact ⟨τ, g1, e3.l.tr g2⟩
    · have e90 : τ1.1 90 y = zw (zf x) := by rw [← b2']; exact ((e2.2.2.2 y (by omega)).2).symm
      rw [if_neg c, if_neg c, aI_n y (by omega), e90]
      obtain ⟨τ, g1, g2⟩ := M_val2 hS (x3 := x3) (t0 := t0) (xe := xe) (K := K) d (y + 1) fu (zf x) (s + zw (zf x)) _ τ1 (by omega) (by omega) hx2 e2 hw2
      exact ⟨τ, g1, e3.l.tr g2⟩
termination_by structural d => d
theorem M_valO {zf : Int64 → Int64} {zg zw : Int64 → Int32} (hS : Sd zf zg zw) {N : Nat → Int32} {S : Nat → Nat → Int32} {r n yr u nn nb m : Nat} (hv : VR S r N n yr u nn nb) (hm : m ≤ 60) : ∀ (d t fu : Nat) (x : Int64) (s : Int32) (σ : Sta), t + d = m → d < fu → Xr x → σ.1 83 = N → ∃ τ, X12_valleys_L40 fu (nI m) x s (nI t) σ = some (vO zf zg zw N n yr d x s, τ) ∧ FrL σ τ
  | d, t, 0, x, s, σ, _, h, _, _ => by omega
  | 0, t, fu + 1, x, s, σ, ht, _, hx, h83 => by
    have e : t = m := by omega
    subst e
    exact ⟨σ, by rw [X12_valleys_L40, if_neg (nI_nlt (Nat.le_refl _) (by omega))]; rfl, FrL.rf σ⟩
  | d + 1, t, fu + 1, x, s, σ, ht, hf, hx, h83 => by
    have hy8 := hv.y8
    have hv' : VR S r (σ.1 83) n yr u nn nb := by rw [h83]; exact hv
    obtain ⟨τ1, e1, e2, e3⟩ := hv'.lay
    rw [h83] at e2
    obtain ⟨τ2, so', wo', f1, f2, f3, f4, f5, f6⟩ := M_val1 hS (x3 := nI m) (t0 := nI t) (K := X12_valleys_L40 fu) hv.N4 (8 - yr) yr FU x s _ _ _ τ1 (by omega) (by show _ < 300; omega) hx e2 hv.wf
    obtain ⟨τ3, g1, g2⟩ := M_val2 hS (x3 := nI m) (t0 := nI t) (xe := xk zf (8 - yr) x) (K := X12_valleys_L40 fu) (8 - yr) yr FU x s (qN N) τ2 (by omega) (by show _ < 300; omega) f4 f2 f3
    have fr : FrL σ τ3 := (e3.tr f6).tr g2
    obtain ⟨τ, k1, k2⟩ := M_valO hS hv hm d (t + 1) fu (xk zf (8 - yr) x) (vS zf zg zw N n (8 - yr) yr x (qN N) s) τ3 (by omega) (by omega) (xk_r hS _ _ hx) (by rw [fr.1 83 (by unfold isL; omega)]; exact h83)
    refine ⟨τ, ?_, fr.tr k2⟩
    rw [X12_valleys_L40, if_pos (nI_lt (by omega) (by omega)), cA_of e1, aI4, e2.1, hv.N4, f1, g1, nI_1, vO]
    exact k1

theorem P_valleys {σ : Sta} (h : Inv σ) (x1 x2 : Int32) : Pair (X11_valleys x1 x2) (X12_valleys x1 x2) σ := by
  obtain ⟨n, yr, u, nn, nb, hv⟩ := h.1
  obtain ⟨zf, zg, zw, hS⟩ := Sd_is
  have b0 : (badC σ).1 83 0 = nI n := by rw [badC_83]; exact hv.N0
  have b4 : (badC σ).1 83 4 = nI yr := by rw [badC_83]; exact hv.N4
  by_cases e0 : inB x1 0 999999 = true
  rotate_left
  · rw [Bool.not_eq_true] at e0; exact pair_bad (a := -2) h (by simp only [X11_valleys, e0, cA_e, bi_if, within_b, C_isArt_b, C_bad, Bool.false_eq_true, ite_false, ite_true, if_true, if_false]) (by simp only [X12_valleys, e0, cA_e, bi_if, M_isYear_b, M_isSort_b, in_01, in_02, in_05, in_06, in_07, in_09, in_30, in_60, in_99, in_12, M_bad, Bool.false_eq_true, ite_false, ite_true, if_true, if_false])
  by_cases e1 : inB x2 0 60 = true
  rotate_left
  · rw [Bool.not_eq_true] at e1; exact pair_bad (a := -2) h (by simp only [X11_valleys, e0, e1, cA_e, bi_if, within_b, C_isArt_b, C_bad, Bool.false_eq_true, ite_false, ite_true, if_true, if_false]) (by simp only [X12_valleys, e0, e1, cA_e, bi_if, M_isYear_b, M_isSort_b, in_01, in_02, in_05, in_06, in_07, in_09, in_30, in_60, in_99, in_12, M_bad, Bool.false_eq_true, ite_false, ite_true, if_true, if_false])
  obtain ⟨j0, hj0, rfl⟩ := inB_n (m := 999999) (by decide) e0
  obtain ⟨j1, hj1, rfl⟩ := inB_n (m := 60) (by decide) e1
  refine pair_q h (a := vO zf zg zw (σ.1 83) n yr j1 (lN j0) 0) ?_ (fun τ hτ => ?_)
  · simp only [X11_valleys, e0, e1, cA_e, bi_if, within_b, C_isArt_b, C_bad, Bool.false_eq_true, ite_false, ite_true, if_true, if_false]
    obtain ⟨τ, t1, t2⟩ := C_valO hS (N := σ.1 83) (u := u) (nn := nn) (nb := nb) (m := j1) hj1 j1 0 FU (lN j0) 0 σ (by omega) (by show _ < 300; omega) ⟨j0, by omega, rfl⟩ hv
    have tb : X2_worthInValleys 1 (nI j0) (nI j1) σ = some (vO zf zg zw (σ.1 83) n yr j1 (lN j0) 0, τ) := by
      rw [X2_worthInValleys, nI_l (by omega)]
      exact t1
    rw [cA_of tb]
    exact ⟨τ, rfl, t2.q⟩
  · have t83 : τ.1 83 = σ.1 83 := hτ.at (by unfold isQ; omega)
    have t0 : τ.1 83 0 = nI n := by rw [t83]; exact hv.N0
    have t4 : τ.1 83 4 = nI yr := by rw [t83]; exact hv.N4
    have tv : VR σ.1 1 (τ.1 83) n yr u nn nb := by rw [t83]; exact hv
    simp only [X12_valleys, e0, e1, cA_e, bi_if, M_isYear_b, M_isSort_b, in_01, in_02, in_05, in_06, in_07, in_09, in_30, in_60, in_99, in_12, M_bad, Bool.false_eq_true, ite_false, ite_true, if_true, if_false]
    obtain ⟨τ2, t1, t2⟩ := M_valO hS tv hj1 j1 0 FU (lN j0) 0 τ (by omega) (by show _ < 300; omega) ⟨j0, by omega, rfl⟩ rfl
    rw [t83] at t1
    rw [nI_l (by omega)]
    exact ⟨τ2, t1, t2.q⟩
