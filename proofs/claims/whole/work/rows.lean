section
abbrev Sta : Type := (Nat → Nat → Int32) × (Nat → Nat → Int64)
def up1 (σ : Sta) (k : Nat) (f : Nat → Int32) : Sta := (va_up σ.1 k f, σ.2)
def up2 (σ : Sta) (k : Nat) (f : Nat → Int64) : Sta := (σ.1, va_up σ.2 k f)
def txL : List Nat := [6, 5, 3]
def txB : List (List Int32) := [[118, 97, 108, 108, 101, 121], [112, 114, 105, 122, 101], [111, 110, 101]]
def fI {β : Type} (σ : Sta) (k i : Nat) (K : Int32 → Option β) : Option β := K (σ.1 k i)
def fL {β : Type} (σ : Sta) (k i : Nat) (K : Int64 → Option β) : Option β := K (σ.2 k i)
def pI {β : Type} (σ : Sta) (k i : Nat) (v : Int32) (K : Sta → Option β) : Option β := K (up1 σ k (upd (σ.1 k) i v))
def pL {β : Type} (σ : Sta) (k i : Nat) (v : Int64) (K : Sta → Option β) : Option β := K (up2 σ k (vp_updL (σ.2 k) i v))
def aI {β : Type} (σ : Sta) (k n : Nat) (i : Int32) (K : Int32 → Option β) : Option β := if i < 0 ∨ n ≤ i.toNatClampNeg then none else K (σ.1 k i.toNatClampNeg)
def sI {β : Type} (σ : Sta) (k n : Nat) (i v : Int32) (K : Sta → Option β) : Option β := if i < 0 ∨ n ≤ i.toNatClampNeg then none else K (up1 σ k (upd (σ.1 k) i.toNatClampNeg v))
def sZ {β : Type} (σ : Sta) (k n : Nat) (i v : Int32) (K : Sta → Option β) : Option β := if i < 0 ∨ n ≤ i.toNatClampNeg then none else K (up1 σ k (upd (σ.1 k) i.toNatClampNeg (vp_nar .boolean v)))
def aR {β : Type} (n : Nat) (i : Int32) (K : Nat → Option β) : Option β := if i < 0 ∨ n ≤ i.toNatClampNeg then none else K i.toNatClampNeg
def cA {α β : Type} (f : Option (α × Sta)) (K : α → Sta → Option β) : Option β := match f with
  | some q => K q.1 q.2
  | none => none
def cpI {β : Type} (σ : Sta) (k0 k1 n : Nat) (K : Sta → Option β) : Option β := K (up1 σ k1 (va_cpy (σ.1 k0) (σ.1 k1) 0 0 n))
def dvL {β : Type} (y : Int64) (F : Option β) : Option β := if y = 0 then none else F
def rZ (v : Int32) (σ : Sta) : Option (Int32 × Sta) := if v = 0 ∨ v = 1 then some (v, σ) else none
def tsw' {β : Type} (x : Int32) : List (Int32 × Option β) → Option β → Option β
  | [], d => d
  | q :: r, d => if x = q.1 then q.2 else tsw' x r d
def FU : Nat := 300
/-! pictures of the methods: what each does to the contents, laid by program out of the decoded instructions -/
def dvI {β : Type} (y : Int32) (F : Option β) : Option β := if y = 0 then none else F
def X5_wants (kv : Nat) (x1 : Int32) (x2 : Int32) (s0 : Sta) : Option (Int32 × Sta) := rZ (1 : Int32) s0
def X7_wants (kv : Nat) (x1 : Int32) (x2 : Int32) (s0 : Sta) : Option (Int32 × Sta) := if x1 < (15 : Int32) then (if (1 : Int32) < x2 then (rZ (0 : Int32) s0) else (rZ (1 : Int32) s0)) else (rZ (1 : Int32) s0)
def X6_wants (kv : Nat) (x1 : Int32) (x2 : Int32) (s0 : Sta) : Option (Int32 × Sta) := cA (X7_wants kv x1 x2 s0) (fun q1 s2 => if q1 = 0 then (rZ (0 : Int32) s2) else (if x1 < (8 : Int32) then (rZ (0 : Int32) s2) else (rZ (1 : Int32) s2)))
def X5_skill (kv : Nat) (x1 : Int32) (x2 : Int32) (s0 : Sta) : Option (Int32 × Sta) := some (x1, s0)
def X6_skill (kv : Nat) (x1 : Int32) (x2 : Int32) (s0 : Sta) : Option (Int32 × Sta) := cA (X5_skill kv x1 x2 s0) (fun q1 s2 => some ((q1 + (1 : Int32)), s2))
def X1_skill (kv : Nat) (x1 : Int32) (x2 : Int32) (s0 : Sta) : Option (Int32 × Sta) := if (x2 - x2 / (2 : Int32) * (2 : Int32)) = (1 : Int32) then (cA (X5_skill kv x1 x2 s0) (fun q1 s2 => some (((2 : Int32) * q1), s2))) else (some ((0 : Int32), s0))
def X4_skill (kv : Nat) (x1 : Int32) (x2 : Int32) (s0 : Sta) : Option (Int32 × Sta) := cA (X5_skill kv x1 x2 s0) (fun q1 s2 => some ((if (0 : Int32) < (q1 - (x2 / (2 : Int32))) then (q1 - (x2 / (2 : Int32))) else (0 : Int32)), s2))
def X5_barredBy (kv : Nat) (x1 : Int32) (s0 : Sta) : Option (Int32 × Sta) := if x1 < (1 : Int32) then (rZ (0 : Int32) s0) else (rZ (1 : Int32) s0)
def X3_barredBy (kv : Nat) (x1 : Int32) (s0 : Sta) : Option (Int32 × Sta) := if x1 < (2 : Int32) then (rZ (0 : Int32) s0) else (rZ (1 : Int32) s0)
def V_wants (j : Nat) (a1 : Int32) (a2 : Int32) (s : Sta) : Option (Int32 × Sta) := if j = 0 then X5_wants 0 a1 a2 s else if j = 1 then X7_wants 0 a1 a2 s else if j = 2 then X5_wants 0 a1 a2 s else if j = 3 then X6_wants 0 a1 a2 s else if j = 4 then X5_wants 0 a1 a2 s else if j = 5 then X7_wants 0 a1 a2 s else none
def V_skill (j : Nat) (a1 : Int32) (a2 : Int32) (s : Sta) : Option (Int32 × Sta) := if j = 0 then X5_skill 0 a1 a2 s else if j = 1 then X5_skill 0 a1 a2 s else if j = 2 then X5_skill 0 a1 a2 s else if j = 3 then X6_skill 0 a1 a2 s else if j = 4 then X1_skill 0 a1 a2 s else if j = 5 then X4_skill 0 a1 a2 s else none
def V_barredBy (j : Nat) (a1 : Int32) (s : Sta) : Option (Int32 × Sta) := if j = 0 then X5_barredBy 0 a1 s else if j = 1 then X5_barredBy 0 a1 s else if j = 2 then X3_barredBy 0 a1 s else if j = 3 then X5_barredBy 0 a1 s else if j = 4 then X5_barredBy 0 a1 s else if j = 5 then X5_barredBy 0 a1 s else none
def J7_fill_53178_L5 (nav : Nat) (kav : Nat) : Nat → Int32 → Int32 → Int32 → Sta → Option (Unit × Sta)
  | 0, _, _, _, _ => none
  | n + 1, y1, y2, y3, s0 => if y2 < y3 then (sI s0 kav nav y2 y1 (fun s1 => J7_fill_53178_L5 nav kav n y1 (y2 + (1 : Int32)) y3 s1)) else (some ((), s0))
def J7_fill_53178 (nav : Nat) (kav : Nat) (x1 : Int32) (s0 : Sta) : Option (Unit × Sta) := J7_fill_53178_L5 nav kav FU x1 (0 : Int32) (Int32.ofNat nav) s0
def X0_allByKind (cv : Nat) (s0 : Sta) : Option (Unit × Sta) := cA (J7_fill_53178 6 (cv + 2) (-1 : Int32) s0) (fun q1 s2 => some ((), s2))
def X11_within (x1 : Int32) (x2 : Int32) (x3 : Int32) (s0 : Sta) : Option (Int32 × Sta) := if x1 < x2 then (rZ (0 : Int32) s0) else (if x3 < x1 then (rZ (0 : Int32) s0) else (rZ (1 : Int32) s0))
def X0_choose (cv : Nat) (x1 : Int32) (x2 : Int32) (s0 : Sta) : Option (Unit × Sta) := cA (X11_within x1 (0 : Int32) (5 : Int32) s0) (fun q1 s2 => if q1 = 0 then (some ((), s2)) else (sI s2 (cv + 2) 6 x1 x2 (fun s3 => some ((), s3))))
def X0_skillBy (cv : Nat) (x1 : Int32) (x2 : Int32) (x3 : Int32) (s0 : Sta) : Option (Int32 × Sta) := cA (X11_within x1 (0 : Int32) (5 : Int32) s0) (fun q1 s2 => if q1 = 0 then (some ((0 : Int32), s2)) else (aR 6 x1 (fun j3 => cA (V_skill j3 x2 x3 s2) (fun q4 s5 => some (q4, s5)))))
def J6_bitCount_0f7a4 (x1 : Int32) (s0 : Sta) : Option (Int32 × Sta) := some (((((((((x1 - ((x1.toUInt32 >>> ((1 : Int32).toUInt32 &&& Int32.toUInt32 31)).toInt32 &&& (1431655765 : Int32))) &&& (858993459 : Int32)) + (((x1 - ((x1.toUInt32 >>> ((1 : Int32).toUInt32 &&& Int32.toUInt32 31)).toInt32 &&& (1431655765 : Int32))).toUInt32 >>> ((2 : Int32).toUInt32 &&& Int32.toUInt32 31)).toInt32 &&& (858993459 : Int32))) + ((((x1 - ((x1.toUInt32 >>> ((1 : Int32).toUInt32 &&& Int32.toUInt32 31)).toInt32 &&& (1431655765 : Int32))) &&& (858993459 : Int32)) + (((x1 - ((x1.toUInt32 >>> ((1 : Int32).toUInt32 &&& Int32.toUInt32 31)).toInt32 &&& (1431655765 : Int32))).toUInt32 >>> ((2 : Int32).toUInt32 &&& Int32.toUInt32 31)).toInt32 &&& (858993459 : Int32))).toUInt32 >>> ((4 : Int32).toUInt32 &&& Int32.toUInt32 31)).toInt32) &&& (252645135 : Int32)) + ((((((x1 - ((x1.toUInt32 >>> ((1 : Int32).toUInt32 &&& Int32.toUInt32 31)).toInt32 &&& (1431655765 : Int32))) &&& (858993459 : Int32)) + (((x1 - ((x1.toUInt32 >>> ((1 : Int32).toUInt32 &&& Int32.toUInt32 31)).toInt32 &&& (1431655765 : Int32))).toUInt32 >>> ((2 : Int32).toUInt32 &&& Int32.toUInt32 31)).toInt32 &&& (858993459 : Int32))) + ((((x1 - ((x1.toUInt32 >>> ((1 : Int32).toUInt32 &&& Int32.toUInt32 31)).toInt32 &&& (1431655765 : Int32))) &&& (858993459 : Int32)) + (((x1 - ((x1.toUInt32 >>> ((1 : Int32).toUInt32 &&& Int32.toUInt32 31)).toInt32 &&& (1431655765 : Int32))).toUInt32 >>> ((2 : Int32).toUInt32 &&& Int32.toUInt32 31)).toInt32 &&& (858993459 : Int32))).toUInt32 >>> ((4 : Int32).toUInt32 &&& Int32.toUInt32 31)).toInt32) &&& (252645135 : Int32)).toUInt32 >>> ((8 : Int32).toUInt32 &&& Int32.toUInt32 31)).toInt32) + (((((((x1 - ((x1.toUInt32 >>> ((1 : Int32).toUInt32 &&& Int32.toUInt32 31)).toInt32 &&& (1431655765 : Int32))) &&& (858993459 : Int32)) + (((x1 - ((x1.toUInt32 >>> ((1 : Int32).toUInt32 &&& Int32.toUInt32 31)).toInt32 &&& (1431655765 : Int32))).toUInt32 >>> ((2 : Int32).toUInt32 &&& Int32.toUInt32 31)).toInt32 &&& (858993459 : Int32))) + ((((x1 - ((x1.toUInt32 >>> ((1 : Int32).toUInt32 &&& Int32.toUInt32 31)).toInt32 &&& (1431655765 : Int32))) &&& (858993459 : Int32)) + (((x1 - ((x1.toUInt32 >>> ((1 : Int32).toUInt32 &&& Int32.toUInt32 31)).toInt32 &&& (1431655765 : Int32))).toUInt32 >>> ((2 : Int32).toUInt32 &&& Int32.toUInt32 31)).toInt32 &&& (858993459 : Int32))).toUInt32 >>> ((4 : Int32).toUInt32 &&& Int32.toUInt32 31)).toInt32) &&& (252645135 : Int32)) + ((((((x1 - ((x1.toUInt32 >>> ((1 : Int32).toUInt32 &&& Int32.toUInt32 31)).toInt32 &&& (1431655765 : Int32))) &&& (858993459 : Int32)) + (((x1 - ((x1.toUInt32 >>> ((1 : Int32).toUInt32 &&& Int32.toUInt32 31)).toInt32 &&& (1431655765 : Int32))).toUInt32 >>> ((2 : Int32).toUInt32 &&& Int32.toUInt32 31)).toInt32 &&& (858993459 : Int32))) + ((((x1 - ((x1.toUInt32 >>> ((1 : Int32).toUInt32 &&& Int32.toUInt32 31)).toInt32 &&& (1431655765 : Int32))) &&& (858993459 : Int32)) + (((x1 - ((x1.toUInt32 >>> ((1 : Int32).toUInt32 &&& Int32.toUInt32 31)).toInt32 &&& (1431655765 : Int32))).toUInt32 >>> ((2 : Int32).toUInt32 &&& Int32.toUInt32 31)).toInt32 &&& (858993459 : Int32))).toUInt32 >>> ((4 : Int32).toUInt32 &&& Int32.toUInt32 31)).toInt32) &&& (252645135 : Int32)).toUInt32 >>> ((8 : Int32).toUInt32 &&& Int32.toUInt32 31)).toInt32).toUInt32 >>> ((16 : Int32).toUInt32 &&& Int32.toUInt32 31)).toInt32) &&& (63 : Int32)), s0)
def X0_isBarred (cv : Nat) (rv : Nat) (x1 : Int32) (s0 : Sta) : Option (Int32 × Sta) := aI s0 (rv + 3) 6 x1 (fun v1 => cA (X11_within v1 (0 : Int32) (5 : Int32) s0) (fun q2 s3 => if q2 = 0 then (rZ (0 : Int32) s3) else (aR 6 v1 (fun j4 => aI s3 (rv + 5) 6 x1 (fun v5 => cA (J6_bitCount_0f7a4 v5 s3) (fun q6 s7 => cA (V_barredBy j4 q6 s7) (fun q8 s9 => if q8 = 0 then (rZ (0 : Int32) s9) else (rZ (1 : Int32) s9))))))))
def X0_strength_L125 (cv : Nat) (rv : Nat) (y2 : Int32) (y3 : Int32) (y4 : Int32) (z0 : Int32) (s0 : Sta) : Option (Int32 × Sta) := if z0 = 0 then (some ((0 : Int32), s0)) else (aR 6 y4 (fun j18 => aI s0 (rv + 1) 8 y3 (fun v19 => aI s0 (rv + 4) 18 ((y2 * (3 : Int32)) + v19) (fun v20 => cA (V_skill j18 v20 y3 s0) (fun q21 s22 => some (q21, s22))))))
def X0_strength_L80 (cv : Nat) (rv : Nat) (y2 : Int32) (y3 : Int32) (y4 : Int32) (z0 : Int32) (s0 : Sta) : Option (Int32 × Sta) := if z0 = 0 then (aI s0 (cv + 2) 6 y2 (fun v13 => if v13 = y3 then (X0_strength_L125 cv rv y2 y3 y4 (1 : Int32) s0) else (X0_strength_L125 cv rv y2 y3 y4 (0 : Int32) s0))) else (aR 6 y4 (fun j14 => aI s0 (rv + 2) 8 y3 (fun v15 => cA (V_wants j14 v15 ((7 : Int32) - y3) s0) (fun q16 s17 => X0_strength_L125 cv rv y2 y3 y4 q16 s17))))
def X0_strength (cv : Nat) (rv : Nat) (x1 : Int32) (x2 : Int32) (s0 : Sta) : Option (Int32 × Sta) := fI s0 rv 10 (fun v1 => cA (X11_within x1 (0 : Int32) (v1 - (1 : Int32)) s0) (fun q2 s3 => if q2 = 0 then (some ((0 : Int32), s3)) else (cA (X11_within x2 (0 : Int32) (7 : Int32) s3) (fun q4 s5 => if q4 = 0 then (some ((0 : Int32), s5)) else (aI s5 (rv + 1) 8 x2 (fun v6 => if v6 = (-1 : Int32) then (some ((0 : Int32), s5)) else (aI s5 (rv + 3) 6 x1 (fun v7 => cA (X11_within v7 (0 : Int32) (5 : Int32) s5) (fun q8 s9 => if q8 = 0 then (some ((0 : Int32), s9)) else (cA (X0_isBarred cv rv x1 s9) (fun q10 s11 => if q10 = 0 then (aI s11 (cv + 2) 6 x1 (fun v12 => if v12 = (-1 : Int32) then (X0_strength_L80 cv rv x1 x2 v7 (1 : Int32) s11) else (X0_strength_L80 cv rv x1 x2 v7 (0 : Int32) s11))) else (some ((0 : Int32), s11)))))))))))))
def X0_strengthOfAll_L5 (cv : Nat) (rv : Nat) : Nat → Int32 → Int32 → Int32 → Sta → Option (Int32 × Sta)
  | 0, _, _, _, _ => none
  | n + 1, y2, y3, y4, s0 => fI s0 rv 10 (fun v1 => if y4 < v1 then (cA (X0_strength cv rv y4 y2 s0) (fun q2 s3 => X0_strengthOfAll_L5 cv rv n y2 (y3 + q2) (y4 + (1 : Int32)) s3)) else (some (y3, s0)))
def X0_strengthOfAll (cv : Nat) (rv : Nat) (x1 : Int32) (s0 : Sta) : Option (Int32 × Sta) := X0_strengthOfAll_L5 cv rv FU x1 (0 : Int32) (0 : Int32) s0
def X0_hold_L60 (cv : Nat) (rv : Nat) (k23 : Int32 → Int32 → Int32 → Int32 → Sta → Option (Unit × Sta)) (y2 : Int32) (y3 : Int32) (y4 : Int32) (y5 : Int32) (y6 : Int32) (s0 : Sta) : Option (Unit × Sta) := if y3 < y6 then (fI s0 cv 3 (fun v10 => pI s0 cv 4 v10 (fun s11 => pI s11 cv 3 y5 (fun s12 => k23 y2 y6 y3 (y5 + (1 : Int32)) s12)))) else (if y4 < y6 then (pI s0 cv 4 y5 (fun s9 => k23 y2 y3 y6 (y5 + (1 : Int32)) s9)) else (k23 y2 y3 y4 (y5 + (1 : Int32)) s0))
def X0_hold_L23 (cv : Nat) (rv : Nat) : Nat → Int32 → Int32 → Int32 → Int32 → Sta → Option (Unit × Sta)
  | 0, _, _, _, _, _ => none
  | n + 1, y2, y3, y4, y5, s0 => fI s0 rv 10 (fun v4 => if y5 < v4 then (cA (X0_strength cv rv y5 y2 s0) (fun q5 s6 => if 0 < q5 then (fI s6 cv 2 (fun v7 => pI s6 cv 2 (v7 ||| ((1 : Int32) <<< (y5 &&& 31))) (fun s8 => X0_hold_L60 cv rv (X0_hold_L23 cv rv n) y2 y3 y4 y5 q5 s8))) else (X0_hold_L60 cv rv (X0_hold_L23 cv rv n) y2 y3 y4 y5 q5 s6))) else (some ((), s0)))
def X0_hold (cv : Nat) (rv : Nat) (x1 : Int32) (s0 : Sta) : Option (Unit × Sta) := pI s0 cv 2 (0 : Int32) (fun s1 => pI s1 cv 3 (-1 : Int32) (fun s2 => pI s2 cv 4 (-1 : Int32) (fun s3 => X0_hold_L23 cv rv FU x1 (0 : Int32) (0 : Int32) (0 : Int32) s3)))
def X0_handicapOf_L108 (cv : Nat) (rv : Nat) (k78 : Int32 → Int32 → Int32 → Int32 → Int32 → Sta → Option (Int32 × Sta)) (y2 : Int32) (y3 : Int32) (y4 : Int32) (y5 : Int32) (y6 : Int32) (z0 : Int32) (s0 : Sta) : Option (Int32 × Sta) := cA (X0_strength cv rv y6 y3 s0) (fun q13 s14 => k78 y2 y3 y4 (y5 + (if (0 : Int32) < (q13 - z0) then (q13 - z0) else (0 : Int32))) (y6 + (1 : Int32)) s14)
def X0_handicapOf_L78 (cv : Nat) (rv : Nat) : Nat → Int32 → Int32 → Int32 → Int32 → Int32 → Sta → Option (Int32 × Sta)
  | 0, _, _, _, _, _, _ => none
  | n + 1, y2, y3, y4, y5, y6, s0 => fI s0 rv 10 (fun v12 => if y6 < v12 then (if y6 = y2 then (X0_handicapOf_L78 cv rv n y2 y3 y4 y5 (y6 + (1 : Int32)) s0) else (if y6 < y2 then (X0_handicapOf_L108 cv rv (X0_handicapOf_L78 cv rv n) y2 y3 y4 y5 y6 (y4 - (1 : Int32)) s0) else (X0_handicapOf_L108 cv rv (X0_handicapOf_L78 cv rv n) y2 y3 y4 y5 y6 y4 s0))) else (some (y5, s0)))
def X0_handicapOf (cv : Nat) (rv : Nat) (x1 : Int32) (s0 : Sta) : Option (Int32 × Sta) := fI s0 rv 11 (fun v1 => cA (X11_within v1 (0 : Int32) (7 : Int32) s0) (fun q2 s3 => if q2 = 0 then (some ((-1 : Int32), s3)) else (aI s3 (rv + 1) 8 v1 (fun v4 => if v4 = (-1 : Int32) then (some ((-1 : Int32), s3)) else (cA (X0_isBarred cv rv x1 s3) (fun q5 s6 => if q5 = 0 then (aI s6 (rv + 3) 6 x1 (fun v7 => aI s6 (rv + 1) 8 v1 (fun v8 => aI s6 (rv + 4) 18 ((x1 * (3 : Int32)) + v8) (fun v9 => cA (X0_skillBy cv v7 v9 v1 s6) (fun q10 s11 => if q10 < (1 : Int32) then (some ((-1 : Int32), s11)) else (X0_handicapOf_L78 cv rv FU x1 v1 q10 (0 : Int32) (0 : Int32) s11)))))) else (some ((-1 : Int32), s6))))))))
def X9_cell (rv : Nat) (x1 : Int32) (x2 : Int32) (s0 : Sta) : Option (Int32 × Sta) := if x1 < 0 then (some ((-1 : Int32), s0)) else (fI s0 rv 1 (fun v1 => if x1 < v1 then (if x2 < 0 then (some ((-1 : Int32), s0)) else (if x2 < (4 : Int32) then (aI s0 (rv + 1) 24 ((x1 * (4 : Int32)) + x2) (fun v2 => some (v2, s0))) else (some ((-1 : Int32), s0)))) else (some ((-1 : Int32), s0))))
def X0_kindFits_L28 (cv : Nat) (rv : Nat) (k3 : Int32 → Int32 → Int32 → Sta → Option (Int32 × Sta)) (y2 : Int32) (y3 : Int32) (y4 : Int32) (z0 : Int32) (s0 : Sta) : Option (Int32 × Sta) := cA (X9_cell rv y4 (0 : Int32) s0) (fun q4 s5 => if q4 = y2 then (aR 6 y3 (fun j6 => cA (X9_cell rv y4 (1 : Int32) s5) (fun q7 s8 => cA (X9_cell rv y4 (2 : Int32) s8) (fun q9 s10 => cA (V_wants j6 q7 q9 s10) (fun q11 s12 => if q11 = z0 then (k3 y2 y3 (y4 + (1 : Int32)) s12) else (rZ (0 : Int32) s12)))))) else (k3 y2 y3 (y4 + (1 : Int32)) s5))
def X0_kindFits_L3 (cv : Nat) (rv : Nat) : Nat → Int32 → Int32 → Int32 → Sta → Option (Int32 × Sta)
  | 0, _, _, _, _ => none
  | n + 1, y2, y3, y4, s0 => fI s0 rv 1 (fun v1 => if y4 < v1 then (cA (X9_cell rv y4 (3 : Int32) s0) (fun q2 s3 => if q2 = (1 : Int32) then (X0_kindFits_L28 cv rv (X0_kindFits_L3 cv rv n) y2 y3 y4 (1 : Int32) s3) else (X0_kindFits_L28 cv rv (X0_kindFits_L3 cv rv n) y2 y3 y4 (0 : Int32) s3))) else (rZ (1 : Int32) s0))
def X0_kindFits (cv : Nat) (rv : Nat) (x1 : Int32) (x2 : Int32) (s0 : Sta) : Option (Int32 × Sta) := X0_kindFits_L3 cv rv FU x1 x2 (0 : Int32) s0
def X0_kindsThatFit_L5 (cv : Nat) (rv : Nat) : Nat → Int32 → Int32 → Int32 → Sta → Option (Int32 × Sta)
  | 0, _, _, _, _ => none
  | n + 1, y2, y3, y4, s0 => if y4 < (6 : Int32) then (cA (X0_kindFits cv rv y2 y4 s0) (fun q1 s2 => if q1 = 0 then (X0_kindsThatFit_L5 cv rv n y2 y3 (y4 + (1 : Int32)) s2) else (X0_kindsThatFit_L5 cv rv n y2 (y3 ||| ((1 : Int32) <<< (y4 &&& 31))) (y4 + (1 : Int32)) s2))) else (some (y3, s0))
def X0_kindsThatFit (cv : Nat) (rv : Nat) (x1 : Int32) (s0 : Sta) : Option (Int32 × Sta) := X0_kindsThatFit_L5 cv rv FU x1 (0 : Int32) (0 : Int32) s0
def X0_tellingWorth_L34 (cv : Nat) (k21 : Int32 → Int32 → Int32 → Int32 → Int32 → Int32 → Sta → Option (Int32 × Sta)) : Nat → Int32 → Int32 → Int32 → Int32 → Int32 → Int32 → Int32 → Int32 → Sta → Option (Int32 × Sta)
  | 0, _, _, _, _, _, _, _, _, _ => none
  | n + 1, y1, y2, y3, y4, y5, y6, y7, y8, s0 => if y8 < (6 : Int32) then (if ((y1 >>> (y8 &&& 31)) &&& (1 : Int32)) = (1 : Int32) then (aR 6 y8 (fun j3 => cA (V_wants j3 y6 y2 s0) (fun q4 s5 => if q4 = 0 then (X0_tellingWorth_L34 cv k21 n y1 y2 y3 y4 y5 y6 y7 (y8 + (1 : Int32)) s5) else (X0_tellingWorth_L34 cv k21 n y1 y2 y3 y4 y5 y6 (y7 + (1 : Int32)) (y8 + (1 : Int32)) s5)))) else (X0_tellingWorth_L34 cv k21 n y1 y2 y3 y4 y5 y6 y7 (y8 + (1 : Int32)) s0)) else (if (if y7 < (y3 - y7) then (y3 - y7) else y7) < y4 then (k21 y1 y2 y3 (if y7 < (y3 - y7) then (y3 - y7) else y7) y6 (y6 + (1 : Int32)) s0) else (k21 y1 y2 y3 y4 y5 (y6 + (1 : Int32)) s0))
def X0_tellingWorth_L21 (cv : Nat) : Nat → Int32 → Int32 → Int32 → Int32 → Int32 → Int32 → Sta → Option (Int32 × Sta)
  | 0, _, _, _, _, _, _, _ => none
  | n + 1, y1, y2, y3, y4, y5, y6, s0 => if (30 : Int32) < y6 then (some (y5, s0)) else (X0_tellingWorth_L34 cv (X0_tellingWorth_L21 cv n) FU y1 y2 y3 y4 y5 y6 (0 : Int32) (0 : Int32) s0)
def X0_tellingWorth (cv : Nat) (x1 : Int32) (x2 : Int32) (s0 : Sta) : Option (Int32 × Sta) := cA (J6_bitCount_0f7a4 x1 s0) (fun q1 s2 => if q1 = 0 then (some ((-1 : Int32), s2)) else (X0_tellingWorth_L21 cv FU x1 x2 q1 (7 : Int32) (-1 : Int32) (1 : Int32) s2))
def X0_isSoWith_L134 (cv : Nat) (rv : Nat) (y5 : Int32) (y6 : Int32) (y8 : Int32) (y9 : Int32) (z0 : Int32) (s0 : Sta) : Option (Int32 × Sta) := aI s0 (rv + 3) 6 y5 (fun v19 => cA (X0_skillBy cv v19 y9 y8 s0) (fun q20 s21 => aI s21 (rv + 3) 6 y6 (fun v22 => cA (X0_skillBy cv v22 z0 y8 s21) (fun q23 s24 => if q23 < q20 then (rZ (1 : Int32) s24) else (rZ (0 : Int32) s24)))))
def X0_isSoWith_L109 (cv : Nat) (rv : Nat) (y3 : Int32) (y4 : Int32) (y5 : Int32) (y6 : Int32) (y7 : Int32) (y8 : Int32) (z0 : Int32) (s0 : Sta) : Option (Int32 × Sta) := if y6 = y3 then (X0_isSoWith_L134 cv rv y5 y6 y8 z0 y4 s0) else (aI s0 (rv + 4) 18 ((y6 * (3 : Int32)) + y7) (fun v18 => X0_isSoWith_L134 cv rv y5 y6 y8 z0 v18 s0))
def X0_isSoWith (cv : Nat) (rv : Nat) (x1 : Int32) (x2 : Int32) (x3 : Int32) (s0 : Sta) : Option (Int32 × Sta) := cA (X9_cell (rv + 11) x1 (0 : Int32) s0) (fun q1 s2 => cA (X9_cell (rv + 11) x1 (1 : Int32) s2) (fun q3 s4 => cA (X9_cell (rv + 11) x1 (2 : Int32) s4) (fun q5 s6 => cA (X9_cell (rv + 11) x1 (3 : Int32) s6) (fun q7 s8 => fI s8 rv 10 (fun v9 => cA (X11_within q1 (0 : Int32) (v9 - (1 : Int32)) s8) (fun q10 s11 => if q10 = 0 then (rZ (0 : Int32) s11) else (fI s11 rv 10 (fun v12 => cA (X11_within q3 (0 : Int32) (v12 - (1 : Int32)) s11) (fun q13 s14 => if q13 = 0 then (rZ (0 : Int32) s14) else (cA (X11_within q5 (0 : Int32) (2 : Int32) s14) (fun q15 s16 => if q15 = 0 then (rZ (0 : Int32) s16) else (if q1 = x2 then (X0_isSoWith_L109 cv rv x2 x3 q1 q3 q5 q7 x3 s16) else (aI s16 (rv + 4) 18 ((q1 * (3 : Int32)) + q5) (fun v17 => X0_isSoWith_L109 cv rv x2 x3 q1 q3 q5 q7 v17 s16))))))))))))))
def X0_isSo (cv : Nat) (rv : Nat) (x1 : Int32) (s0 : Sta) : Option (Int32 × Sta) := cA (X0_isSoWith cv rv x1 (-1 : Int32) (0 : Int32) s0) (fun q1 s2 => rZ q1 s2)
def X0_artFits_L48 (cv : Nat) (rv : Nat) (k9 : Int32 → Int32 → Int32 → Int32 → Sta → Option (Int32 × Sta)) (y2 : Int32) (y3 : Int32) (y4 : Int32) (y6 : Int32) (z0 : Int32) (s0 : Sta) : Option (Int32 × Sta) := if z0 = 0 then (k9 y2 y3 y4 (y6 + (1 : Int32)) s0) else (cA (X9_cell (rv + 11) y6 (2 : Int32) s0) (fun q6 s7 => if q6 = y3 then (cA (X0_isSoWith cv rv y6 y2 y4 s7) (fun q8 s9 => if q8 = 0 then (rZ (0 : Int32) s9) else (k9 y2 y3 y4 (y6 + (1 : Int32)) s9))) else (k9 y2 y3 y4 (y6 + (1 : Int32)) s7)))
def X0_artFits_L9 (cv : Nat) (rv : Nat) : Nat → Int32 → Int32 → Int32 → Int32 → Sta → Option (Int32 × Sta)
  | 0, _, _, _, _, _ => none
  | n + 1, y2, y3, y4, y6, s0 => fI s0 (rv + 11) 1 (fun v1 => if y6 < v1 then (cA (X9_cell (rv + 11) y6 (0 : Int32) s0) (fun q2 s3 => if q2 = y2 then (X0_artFits_L48 cv rv (X0_artFits_L9 cv rv n) y2 y3 y4 y6 (1 : Int32) s3) else (cA (X9_cell (rv + 11) y6 (1 : Int32) s3) (fun q4 s5 => if q4 = y2 then (X0_artFits_L48 cv rv (X0_artFits_L9 cv rv n) y2 y3 y4 y6 (1 : Int32) s5) else (X0_artFits_L48 cv rv (X0_artFits_L9 cv rv n) y2 y3 y4 y6 (0 : Int32) s5))))) else (rZ (1 : Int32) s0))
def X0_artFits (cv : Nat) (rv : Nat) (x1 : Int32) (x2 : Int32) (x3 : Int32) (s0 : Sta) : Option (Int32 × Sta) := X0_artFits_L9 cv rv FU x1 x2 x3 (0 : Int32) s0
def X10_takeCourse (rv : Nat) (rv2 : Nat) (s0 : Sta) : Option (Unit × Sta) := cpI s0 (rv2 + 1) (rv + 1) 8 (fun s1 => cpI s1 (rv2 + 2) (rv + 2) 8 (fun s2 => cpI s2 (rv2 + 3) (rv + 3) 6 (fun s3 => cpI s3 (rv2 + 4) (rv + 4) 18 (fun s4 => cpI s4 (rv2 + 5) (rv + 5) 6 (fun s5 => cpI s5 (rv2 + 6) (rv + 6) 6 (fun s6 => fI s6 rv2 10 (fun v7 => pI s6 rv 10 v7 (fun s8 => fI s8 rv2 11 (fun v9 => pI s8 rv 11 v9 (fun s10 => fI s10 rv2 12 (fun v11 => pI s10 rv 12 v11 (fun s12 => some ((), s12)))))))))))))
def X2_begin (rv : Nat) (s0 : Sta) : Option (Unit × Sta) := cA (X10_takeCourse 65 rv s0) (fun q1 s2 => cA (X0_allByKind 55 s2) (fun q3 s4 => some ((), s4)))
def X10_pass_L70 (rv : Nat) (y1 : Int32) (y2 : Int32) (s0 : Sta) : Option (Unit × Sta) := fI s0 rv 11 (fun v14 => sI s0 (rv + 7) 8 v14 y1 (fun s15 => fI s15 rv 11 (fun v16 => sI s15 (rv + 8) 8 v16 y2 (fun s17 => fI s17 rv 11 (fun v18 => pI s17 rv 11 (v18 + (1 : Int32)) (fun s19 => fI s19 rv 12 (fun v20 => pI s19 rv 12 (v20 + (1 : Int32)) (fun s21 => some ((), s21)))))))))
def X10_pass_L46 (rv : Nat) (y1 : Int32) (y2 : Int32) (s0 : Sta) : Option (Unit × Sta) := fI s0 rv 10 (fun v9 => cA (X11_within y2 (0 : Int32) (v9 - (1 : Int32)) s0) (fun q10 s11 => if q10 = 0 then (X10_pass_L70 rv y1 y2 s11) else (aI s11 (rv + 6) 6 y2 (fun v12 => sI s11 (rv + 6) 6 y2 (v12 + (1 : Int32)) (fun s13 => X10_pass_L70 rv y1 y2 s13)))))
def X10_pass (rv : Nat) (x1 : Int32) (x2 : Int32) (s0 : Sta) : Option (Unit × Sta) := fI s0 rv 11 (fun v1 => if v1 < 0 then (some ((), s0)) else (fI s0 rv 11 (fun v2 => if v2 < (8 : Int32) then (fI s0 rv 10 (fun v3 => cA (X11_within x1 (0 : Int32) (v3 - (1 : Int32)) s0) (fun q4 s5 => if q4 = 0 then (X10_pass_L46 rv x1 x2 s5) else (aI s5 (rv + 5) 6 x1 (fun v6 => fI s5 rv 11 (fun v7 => sI s5 (rv + 5) 6 x1 (v6 ||| ((1 : Int32) <<< (v7 &&& 31))) (fun s8 => X10_pass_L46 rv x1 x2 s8))))))) else (some ((), s0)))))
def X2_runTo_L8 : Nat → Int32 → Int32 → Sta → Option (Unit × Sta)
  | 0, _, _, _ => none
  | n + 1, y1, y2, s0 => if y2 < y1 then (if y2 < (8 : Int32) then (cA (X0_hold 55 65 y2 s0) (fun q2 s3 => fI s3 55 3 (fun v4 => fI s3 55 4 (fun v5 => cA (X10_pass 65 v4 v5 s3) (fun q6 s7 => X2_runTo_L8 n y1 (y2 + (1 : Int32)) s7))))) else (some ((), s0))) else (some ((), s0))
def X2_runTo (x1 : Int32) (s0 : Sta) : Option (Unit × Sta) := fI s0 65 11 (fun v1 => X2_runTo_L8 FU x1 v1 s0)
def X2_contestOf (rv : Nat) (x1 : Int32) (s0 : Sta) : Option (Unit × Sta) := cA (X2_begin rv s0) (fun q1 s2 => cA (X2_runTo x1 s2) (fun q3 s4 => cA (X0_hold 55 65 x1 s4) (fun q5 s6 => some ((), s6))))
def X2_untaken_L52 (rv : Nat) : Nat → Int32 → Int32 → Int32 → Sta → Option (Int32 × Sta)
  | 0, _, _, _, _ => none
  | n + 1, y2, y3, y4, s0 => if y4 < (8 : Int32) then (aI s0 (rv + 1) 8 y4 (fun v8 => if v8 = (-1 : Int32) then (X2_untaken_L52 rv n y2 y3 (y4 + (1 : Int32)) s0) else (if ((y2 >>> (y4 &&& 31)) &&& (1 : Int32)) = 0 then (X2_untaken_L52 rv n y2 (y3 ||| ((1 : Int32) <<< (y4 &&& 31))) (y4 + (1 : Int32)) s0) else (X2_untaken_L52 rv n y2 y3 (y4 + (1 : Int32)) s0)))) else (some (y3, s0))
def X2_untaken_L15 (rv : Nat) : Nat → Int32 → Int32 → Sta → Option (Int32 × Sta)
  | 0, _, _, _ => none
  | n + 1, y2, y3, s0 => fI s0 65 10 (fun v5 => if y3 < v5 then (aI s0 (65 + 5) 6 y3 (fun v7 => X2_untaken_L15 rv n (y2 ||| v7) (y3 + (1 : Int32)) s0)) else (fI s0 rv 11 (fun v6 => X2_untaken_L52 rv FU y2 (0 : Int32) v6 s0)))
def X2_untaken (rv : Nat) (s0 : Sta) : Option (Int32 × Sta) := cA (X2_begin rv s0) (fun q1 s2 => cA (X2_runTo (8 : Int32) s2) (fun q3 s4 => X2_untaken_L15 rv FU (0 : Int32) (0 : Int32) s4))
def X10_worthWonIn (rv : Nat) (x1 : Int32) (x2 : Int32) (s0 : Sta) : Option (Int32 × Sta) := aI s0 (rv + 5) 6 x1 (fun v1 => aI s0 (rv + 2) 8 x2 (fun v2 => some ((((v1 >>> (x2 &&& 31)) &&& (1 : Int32)) * v2), s0)))
def X2_bestYear_L11 (rv : Nat) : Nat → Int32 → Int32 → Int32 → Int32 → Sta → Option (Int32 × Sta)
  | 0, _, _, _, _, _ => none
  | n + 1, y2, y3, y4, y5, s0 => if y5 < (8 : Int32) then (cA (X2_begin rv s0) (fun q2 s3 => cA (X0_choose 55 y2 y5 s3) (fun q4 s5 => cA (X2_runTo (y5 + (1 : Int32)) s5) (fun q6 s7 => cA (X10_worthWonIn 65 y2 y5 s7) (fun q8 s9 => if y3 < q8 then (cA (X10_worthWonIn 65 y2 y5 s9) (fun q10 s11 => X2_bestYear_L11 rv n y2 q10 y5 (y5 + (1 : Int32)) s11)) else (X2_bestYear_L11 rv n y2 y3 y4 (y5 + (1 : Int32)) s9)))))) else (some (y4, s0))
def X2_bestYear (rv : Nat) (x1 : Int32) (s0 : Sta) : Option (Int32 × Sta) := fI s0 rv 11 (fun v1 => X2_bestYear_L11 rv FU x1 (0 : Int32) (-1 : Int32) v1 s0)
def X2_weighRivals_L19 (rv : Nat) (k6 : Int32 → Int32 → Int32 → Sta → Option (Unit × Sta)) : Nat → Int32 → Int32 → Int32 → Int32 → Sta → Option (Unit × Sta)
  | 0, _, _, _, _, _ => none
  | n + 1, y2, y3, y4, y5, s0 => if y5 < (8 : Int32) then (cA (X2_begin rv s0) (fun q3 s4 => cA (X0_choose 55 y2 y4 s4) (fun q5 s6 => cA (X0_choose 55 y3 y5 s6) (fun q7 s8 => cA (X2_runTo ((if y4 < y5 then y5 else y4) + (1 : Int32)) s8) (fun q9 s10 => cA (X10_worthWonIn 65 y2 y4 s10) (fun q11 s12 => sI s12 78 64 ((y4 * (8 : Int32)) + y5) q11 (fun s13 => cA (X10_worthWonIn 65 y3 y5 s13) (fun q14 s15 => sI s15 79 64 ((y4 * (8 : Int32)) + y5) q14 (fun s16 => X2_weighRivals_L19 rv k6 n y2 y3 y4 (y5 + (1 : Int32)) s16))))))))) else (k6 y2 y3 (y4 + (1 : Int32)) s0)
def X2_weighRivals_L6 (rv : Nat) : Nat → Int32 → Int32 → Int32 → Sta → Option (Unit × Sta)
  | 0, _, _, _, _ => none
  | n + 1, y2, y3, y4, s0 => if y4 < (8 : Int32) then (fI s0 rv 11 (fun v2 => X2_weighRivals_L19 rv (X2_weighRivals_L6 rv n) FU y2 y3 y4 v2 s0)) else (some ((), s0))
def X2_weighRivals (rv : Nat) (x1 : Int32) (x2 : Int32) (s0 : Sta) : Option (Unit × Sta) := fI s0 rv 11 (fun v1 => X2_weighRivals_L6 rv FU x1 x2 v1 s0)
def X2_rests_L11 : Nat → Int32 → Int32 → Int32 → Int32 → Sta → Option (Int32 × Sta)
  | 0, _, _, _, _, _ => none
  | n + 1, y2, y3, y4, y5, s0 => if y5 < (8 : Int32) then (aI s0 78 64 ((y5 * (8 : Int32)) + y3) (fun v1 => aI s0 78 64 y4 (fun v2 => if v2 < v1 then (rZ (0 : Int32) s0) else (aI s0 79 64 ((y2 * (8 : Int32)) + y5) (fun v3 => aI s0 79 64 y4 (fun v4 => if v4 < v3 then (rZ (0 : Int32) s0) else (X2_rests_L11 n y2 y3 y4 (y5 + (1 : Int32)) s0))))))) else (rZ (1 : Int32) s0)
def X2_rests (x1 : Int32) (x2 : Int32) (x3 : Int32) (s0 : Sta) : Option (Int32 × Sta) := X2_rests_L11 FU x2 x3 ((x2 * (8 : Int32)) + x3) x1 s0
def X2_resting_L15 (k5 : Int32 → Int32 → Int32 → Int32 → Sta → Option (Int32 × Sta)) : Nat → Int32 → Int32 → Int32 → Int32 → Int32 → Sta → Option (Int32 × Sta)
  | 0, _, _, _, _, _, _ => none
  | n + 1, y1, y2, y3, y4, y5, s0 => if y5 < (8 : Int32) then (cA (X2_rests y1 y4 y5 s0) (fun q1 s2 => if q1 = 0 then (X2_resting_L15 k5 n y1 y2 y3 y4 (y5 + (1 : Int32)) s2) else (if y3 = y2 then (some (((y4 * (8 : Int32)) + y5), s2)) else (X2_resting_L15 k5 n y1 y2 (y3 + (1 : Int32)) y4 (y5 + (1 : Int32)) s2)))) else (k5 y1 y2 y3 (y4 + (1 : Int32)) s0)
def X2_resting_L5 : Nat → Int32 → Int32 → Int32 → Int32 → Sta → Option (Int32 × Sta)
  | 0, _, _, _, _, _ => none
  | n + 1, y1, y2, y3, y4, s0 => if y4 < (8 : Int32) then (X2_resting_L15 (X2_resting_L5 n) FU y1 y2 y3 y4 y1 s0) else (if y2 = (-1 : Int32) then (some (y3, s0)) else (some ((-5 : Int32), s0)))
def X2_resting (x1 : Int32) (x2 : Int32) (s0 : Sta) : Option (Int32 × Sta) := X2_resting_L5 FU x1 x2 (0 : Int32) x1 s0
def X10_worthWonBy_L4 (rv : Nat) : Nat → Int32 → Int32 → Int32 → Sta → Option (Int32 × Sta)
  | 0, _, _, _, _ => none
  | n + 1, y1, y2, y3, s0 => if y3 < (8 : Int32) then (cA (X10_worthWonIn rv y1 y3 s0) (fun q1 s2 => X10_worthWonBy_L4 rv n y1 (y2 + q1) (y3 + (1 : Int32)) s2)) else (some (y2, s0))
def X10_worthWonBy (rv : Nat) (x1 : Int32) (s0 : Sta) : Option (Int32 × Sta) := X10_worthWonBy_L4 rv FU x1 (0 : Int32) (0 : Int32) s0
def X10_setPrize (rv : Nat) (x1 : Int32) (x2 : Int32) (x3 : Int32) (s0 : Sta) : Option (Unit × Sta) := sI s0 (rv + 1) 8 x1 x2 (fun s1 => sI s1 (rv + 2) 8 x1 x3 (fun s2 => some ((), s2)))
def X10_swapPrizes (rv : Nat) (x1 : Int32) (x2 : Int32) (s0 : Sta) : Option (Unit × Sta) := aI s0 (rv + 1) 8 x1 (fun v1 => aI s0 (rv + 2) 8 x1 (fun v2 => aI s0 (rv + 1) 8 x2 (fun v3 => aI s0 (rv + 2) 8 x2 (fun v4 => cA (X10_setPrize rv x1 v3 v4 s0) (fun q5 s6 => cA (X10_setPrize rv x2 v1 v2 s6) (fun q7 s8 => some ((), s8)))))))
def X2_bestSwap_L42 (rv : Nat) (k29 : Int32 → Int32 → Int32 → Int32 → Sta → Option (Int32 × Sta)) : Nat → Int32 → Int32 → Int32 → Int32 → Int32 → Sta → Option (Int32 × Sta)
  | 0, _, _, _, _, _, _ => none
  | n + 1, y2, y3, y4, y5, y6, s0 => if y6 < (8 : Int32) then (cA (X2_begin rv s0) (fun q8 s9 => cA (X10_swapPrizes 65 y5 y6 s9) (fun q10 s11 => cA (X2_runTo (8 : Int32) s11) (fun q12 s13 => cA (X10_worthWonBy 65 y2 s13) (fun q14 s15 => if y3 < q14 then (cA (X10_worthWonBy 65 y2 s15) (fun q16 s17 => X2_bestSwap_L42 rv k29 n y2 q16 (((10 : Int32) * y5) + y6) y5 (y6 + (1 : Int32)) s17)) else (X2_bestSwap_L42 rv k29 n y2 y3 y4 y5 (y6 + (1 : Int32)) s15)))))) else (k29 y2 y3 y4 (y5 + (1 : Int32)) s0)
def X2_bestSwap_L29 (rv : Nat) : Nat → Int32 → Int32 → Int32 → Int32 → Sta → Option (Int32 × Sta)
  | 0, _, _, _, _, _ => none
  | n + 1, y2, y3, y4, y5, s0 => if y5 < (8 : Int32) then (X2_bestSwap_L42 rv (X2_bestSwap_L29 rv n) FU y2 y3 y4 y5 (y5 + (1 : Int32)) s0) else (some (y4, s0))
def X2_bestSwap (rv : Nat) (x1 : Int32) (s0 : Sta) : Option (Int32 × Sta) := cA (X2_begin rv s0) (fun q1 s2 => cA (X2_runTo (8 : Int32) s2) (fun q3 s4 => cA (X10_worthWonBy 65 x1 s4) (fun q5 s6 => fI s6 rv 11 (fun v7 => X2_bestSwap_L29 rv FU x1 q5 (-1 : Int32) v7 s6))))
def X2_worthInValleys_L27 (rv : Nat) (k10 : Int32 → Int64 → Int32 → Int32 → Sta → Option (Int32 × Sta)) : Nat → Int32 → Int64 → Int32 → Int32 → Int32 → Sta → Option (Int32 × Sta)
  | 0, _, _, _, _, _, _ => none
  | n + 1, y3, y4, y6, y7, y8, s0 => if y8 < (8 : Int32) then (cA (X10_setPrize 65 y8 ((((((y4 * (1103515245 : Int64)) + (12345 : Int64)) - ((y4 * (1103515245 : Int64)) + (12345 : Int64)) / (2147483648 : Int64) * (2147483648 : Int64)) / (65536 : Int64)) - ((((y4 * (1103515245 : Int64)) + (12345 : Int64)) - ((y4 * (1103515245 : Int64)) + (12345 : Int64)) / (2147483648 : Int64) * (2147483648 : Int64)) / (65536 : Int64)) / (3 : Int64) * (3 : Int64)).toInt32) ((((((y4 * (1103515245 : Int64)) + (12345 : Int64)) - ((y4 * (1103515245 : Int64)) + (12345 : Int64)) / (2147483648 : Int64) * (2147483648 : Int64)) / (1048576 : Int64)) - ((((y4 * (1103515245 : Int64)) + (12345 : Int64)) - ((y4 * (1103515245 : Int64)) + (12345 : Int64)) / (2147483648 : Int64) * (2147483648 : Int64)) / (1048576 : Int64)) / (30 : Int64) * (30 : Int64)).toInt32 + (1 : Int32)) s0) (fun q4 s5 => cA (X0_hold 55 65 y8 s5) (fun q6 s7 => fI s7 55 3 (fun v8 => fI s7 55 4 (fun v9 => cA (X10_pass 65 v8 v9 s7) (fun q10 s11 => fI s11 55 3 (fun v12 => if v12 = (-1 : Int32) then (X2_worthInValleys_L27 rv k10 n y3 (((y4 * (1103515245 : Int64)) + (12345 : Int64)) - ((y4 * (1103515245 : Int64)) + (12345 : Int64)) / (2147483648 : Int64) * (2147483648 : Int64)) (y6 + (0 : Int32)) y7 (y8 + (1 : Int32)) s11) else (aI s11 (65 + 2) 8 y8 (fun v13 => X2_worthInValleys_L27 rv k10 n y3 (((y4 * (1103515245 : Int64)) + (12345 : Int64)) - ((y4 * (1103515245 : Int64)) + (12345 : Int64)) / (2147483648 : Int64) * (2147483648 : Int64)) (y6 + v13) y7 (y8 + (1 : Int32)) s11))))))))) else (k10 y3 y4 y6 (y7 + (1 : Int32)) s0)
def X2_worthInValleys_L10 (rv : Nat) : Nat → Int32 → Int64 → Int32 → Int32 → Sta → Option (Int32 × Sta)
  | 0, _, _, _, _, _ => none
  | n + 1, y3, y4, y6, y7, s0 => if y7 < y3 then (cA (X2_begin rv s0) (fun q1 s2 => fI s2 rv 11 (fun v3 => X2_worthInValleys_L27 rv (X2_worthInValleys_L10 rv n) FU y3 y4 y6 y7 v3 s2))) else (some (y6, s0))
def X2_worthInValleys (rv : Nat) (x1 : Int32) (x2 : Int32) (s0 : Sta) : Option (Int32 × Sta) := X2_worthInValleys_L10 rv FU x2 x1.toInt64 (0 : Int32) (0 : Int32) s0
def X8_append (x1 : Int32) (s0 : Sta) : Option (Unit × Sta) := fI s0 80 1 (fun v1 => if v1 < (150 : Int32) then (fI s0 80 1 (fun v2 => sI s0 81 150 v2 x1 (fun s3 => fI s3 80 1 (fun v4 => pI s3 80 1 (v4 + (1 : Int32)) (fun s5 => some ((), s5)))))) else (some ((), s0)))
def X8_isLetter (x1 : Int32) (s0 : Sta) : Option (Int32 × Sta) := if x1 < (97 : Int32) then (rZ (0 : Int32) s0) else (if (122 : Int32) < x1 then (rZ (0 : Int32) s0) else (rZ (1 : Int32) s0))
def X8_isFigure (x1 : Int32) (s0 : Sta) : Option (Int32 × Sta) := if x1 < (48 : Int32) then (rZ (0 : Int32) s0) else (if (57 : Int32) < x1 then (rZ (0 : Int32) s0) else (rZ (1 : Int32) s0))
def X8_takeFigures_L81 (s0 : Sta) : Option (Unit × Sta) := fI s0 80 3 (fun v16 => fI s0 80 2 (fun v17 => if (2 : Int32) < (v16 - v17) then (pI s0 80 4 (4 : Int32) (fun s18 => some ((), s18))) else (pI s0 80 4 (2 : Int32) (fun s19 => some ((), s19)))))
def X8_takeFigures_L68 (k5 : Sta → Option (Unit × Sta)) (s0 : Sta) : Option (Unit × Sta) := fI s0 80 3 (fun v14 => pI s0 80 3 (v14 + (1 : Int32)) (fun s15 => k5 s15))
def X8_takeFigures_L5 : Nat → Sta → Option (Unit × Sta)
  | 0, _ => none
  | n + 1, s0 => fI s0 80 3 (fun v2 => fI s0 80 1 (fun v3 => if v2 < v3 then (fI s0 80 3 (fun v4 => aI s0 81 150 v4 (fun v5 => cA (X8_isFigure v5 s0) (fun q6 s7 => if q6 = 0 then (X8_takeFigures_L81 s7) else (fI s7 80 3 (fun v8 => fI s7 80 2 (fun v9 => if (v8 - v9) < (2 : Int32) then (fI s7 80 5 (fun v10 => fI s7 80 3 (fun v11 => aI s7 81 150 v11 (fun v12 => pI s7 80 5 ((((10 : Int32) * v10) + v12) - (48 : Int32)) (fun s13 => X8_takeFigures_L68 (X8_takeFigures_L5 n) s13))))) else (X8_takeFigures_L68 (X8_takeFigures_L5 n) s7)))))))) else (X8_takeFigures_L81 s0)))
def X8_takeFigures (s0 : Sta) : Option (Unit × Sta) := pI s0 80 5 (0 : Int32) (fun s1 => X8_takeFigures_L5 FU s1)
def X8_advance_L174 (z0 : Int32) (s0 : Sta) : Option (Unit × Sta) := pI s0 80 4 z0 (fun s35 => fI s35 80 2 (fun v36 => pI s35 80 3 (v36 + (1 : Int32)) (fun s37 => some ((), s37))))
def X8_advance_L93 : Nat → Sta → Option (Unit × Sta)
  | 0, _ => none
  | n + 1, s0 => fI s0 80 3 (fun v27 => fI s0 80 1 (fun v28 => if v27 < v28 then (fI s0 80 3 (fun v29 => aI s0 81 150 v29 (fun v30 => cA (X8_isLetter v30 s0) (fun q31 s32 => if q31 = 0 then (some ((), s32)) else (fI s32 80 3 (fun v33 => pI s32 80 3 (v33 + (1 : Int32)) (fun s34 => X8_advance_L93 n s34))))))) else (some ((), s0))))
def X8_advance_L46 (s0 : Sta) : Option (Unit × Sta) := fI s0 80 2 (fun v9 => pI s0 80 3 v9 (fun s10 => fI s10 80 2 (fun v11 => fI s10 80 1 (fun v12 => if v11 < v12 then (fI s10 80 2 (fun v13 => aI s10 81 150 v13 (fun v14 => cA (X8_isLetter v14 s10) (fun q15 s16 => if q15 = 0 then (fI s16 80 2 (fun v17 => aI s16 81 150 v17 (fun v18 => cA (X8_isFigure v18 s16) (fun q19 s20 => if q19 = 0 then (fI s20 80 2 (fun v21 => aI s20 81 150 v21 (fun v22 => if v22 = (59 : Int32) then (X8_advance_L174 (3 : Int32) s20) else (X8_advance_L174 (4 : Int32) s20)))) else (cA (X8_takeFigures  s20) (fun q23 s24 => some ((), s24))))))) else (pI s16 80 4 (1 : Int32) (fun s25 => X8_advance_L93 FU s25)))))) else (pI s10 80 4 (0 : Int32) (fun s26 => some ((), s26)))))))
def X8_advance_L8 : Nat → Sta → Option (Unit × Sta)
  | 0, _ => none
  | n + 1, s0 => fI s0 80 2 (fun v3 => fI s0 80 1 (fun v4 => if v3 < v4 then (fI s0 80 2 (fun v5 => aI s0 81 150 v5 (fun v6 => if v6 = (32 : Int32) then (fI s0 80 2 (fun v7 => pI s0 80 2 (v7 + (1 : Int32)) (fun s8 => X8_advance_L8 n s8))) else (X8_advance_L46 s0)))) else (X8_advance_L46 s0)))
def X8_advance (s0 : Sta) : Option (Unit × Sta) := fI s0 80 3 (fun v1 => pI s0 80 2 v1 (fun s2 => X8_advance_L8 FU s2))
def X8_hasNumber (x1 : Int32) (x2 : Int32) (s0 : Sta) : Option (Int32 × Sta) := cA (X8_advance  s0) (fun q1 s2 => fI s2 80 4 (fun v3 => if v3 = (2 : Int32) then (fI s2 80 5 (fun v4 => cA (X11_within v4 x1 x2 s2) (fun q5 s6 => if q5 = 0 then (rZ (0 : Int32) s6) else (rZ (1 : Int32) s6)))) else (rZ (0 : Int32) s2)))
def X8_tellPrize (rv : Nat) (s0 : Sta) : Option (Int32 × Sta) := cA (X8_hasNumber (0 : Int32) (7 : Int32) s0) (fun q1 s2 => if q1 = 0 then (rZ (0 : Int32) s2) else (fI s2 80 5 (fun v3 => cA (X8_hasNumber (0 : Int32) (2 : Int32) s2) (fun q4 s5 => if q4 = 0 then (rZ (0 : Int32) s5) else (fI s5 80 5 (fun v6 => cA (X8_hasNumber (1 : Int32) (30 : Int32) s5) (fun q7 s8 => if q7 = 0 then (rZ (0 : Int32) s8) else (fI s8 80 5 (fun v9 => cA (X10_setPrize rv v3 v6 v9 s8) (fun q10 s11 => rZ (1 : Int32) s11))))))))))
def X10_addOne (rv : Nat) (x1 : Int32) (x2 : Int32) (x3 : Int32) (x4 : Int32) (s0 : Sta) : Option (Unit × Sta) := fI s0 rv 10 (fun v1 => if v1 < (6 : Int32) then (fI s0 rv 10 (fun v2 => sI s0 (rv + 3) 6 v2 x1 (fun s3 => fI s3 rv 10 (fun v4 => sI s3 (rv + 4) 18 (v4 * (3 : Int32)) x2 (fun s5 => fI s5 rv 10 (fun v6 => sI s5 (rv + 4) 18 ((v6 * (3 : Int32)) + (1 : Int32)) x3 (fun s7 => fI s7 rv 10 (fun v8 => sI s7 (rv + 4) 18 ((v8 * (3 : Int32)) + (2 : Int32)) x4 (fun s9 => fI s9 rv 10 (fun v10 => sI s9 (rv + 5) 6 v10 (0 : Int32) (fun s11 => fI s11 rv 10 (fun v12 => sI s11 (rv + 6) 6 v12 (0 : Int32) (fun s13 => fI s13 rv 10 (fun v14 => pI s13 rv 10 (v14 + (1 : Int32)) (fun s15 => some ((), s15)))))))))))))))) else (some ((), s0)))
def X8_tellOne (rv : Nat) (s0 : Sta) : Option (Int32 × Sta) := fI s0 rv 10 (fun v1 => if v1 < (6 : Int32) then (cA (X8_hasNumber (0 : Int32) (5 : Int32) s0) (fun q2 s3 => if q2 = 0 then (rZ (0 : Int32) s3) else (fI s3 80 5 (fun v4 => cA (X8_hasNumber (0 : Int32) (9 : Int32) s3) (fun q5 s6 => if q5 = 0 then (rZ (0 : Int32) s6) else (fI s6 80 5 (fun v7 => cA (X8_hasNumber (0 : Int32) (9 : Int32) s6) (fun q8 s9 => if q8 = 0 then (rZ (0 : Int32) s9) else (fI s9 80 5 (fun v10 => cA (X8_hasNumber (0 : Int32) (9 : Int32) s9) (fun q11 s12 => if q11 = 0 then (rZ (0 : Int32) s12) else (fI s12 80 5 (fun v13 => cA (X10_addOne rv v4 v7 v10 v13 s12) (fun q14 s15 => rZ (1 : Int32) s15)))))))))))))) else (rZ (0 : Int32) s0))
def X8_endsItem (s0 : Sta) : Option (Int32 × Sta) := cA (X8_advance  s0) (fun q1 s2 => fI s2 80 4 (fun v3 => if v3 = (3 : Int32) then (rZ (1 : Int32) s2) else (rZ (0 : Int32) s2)))
def X9_add (rv : Nat) (x1 : Int32) (x2 : Int32) (x3 : Int32) (x4 : Int32) (s0 : Sta) : Option (Unit × Sta) := fI s0 rv 1 (fun v1 => if v1 < (6 : Int32) then (fI s0 rv 1 (fun v2 => sI s0 (rv + 1) 24 (v2 * (4 : Int32)) x1 (fun s3 => sI s3 (rv + 1) 24 ((v2 * (4 : Int32)) + (1 : Int32)) x2 (fun s4 => sI s4 (rv + 1) 24 ((v2 * (4 : Int32)) + (2 : Int32)) x3 (fun s5 => sI s5 (rv + 1) 24 ((v2 * (4 : Int32)) + (3 : Int32)) x4 (fun s6 => fI s6 rv 1 (fun v7 => pI s6 rv 1 (v7 + (1 : Int32)) (fun s8 => some ((), s8))))))))) else (some ((), s0)))
def X9_takeRows (rv : Nat) (rv2 : Nat) (s0 : Sta) : Option (Unit × Sta) := cpI s0 (rv2 + 1) (rv + 1) 24 (fun s1 => fI s1 rv2 1 (fun v2 => pI s1 rv 1 v2 (fun s3 => some ((), s3))))
def X9_mixedInto_L2 (rv : Nat) : Nat → Int64 → Int32 → Sta → Option (Int64 × Sta)
  | 0, _, _, _ => none
  | n + 1, y1, y3, s0 => fI s0 rv 1 (fun v1 => if y3 < (v1 * (4 : Int32)) then (aI s0 (rv + 1) 24 y3 (fun v2 => X9_mixedInto_L2 rv n (((31 : Int64) * y1) + v2.toInt64) (y3 + (1 : Int32)) s0)) else (some (y1, s0)))
def X9_mixedInto (rv : Nat) (x1 : Int64) (s0 : Sta) : Option (Int64 × Sta) := X9_mixedInto_L2 rv FU x1 (0 : Int32) s0
def X10_empty (rv : Nat) (s0 : Sta) : Option (Unit × Sta) := cA (J7_fill_53178 8 (rv + 1) (-1 : Int32) s0) (fun q1 s2 => cA (J7_fill_53178 8 (rv + 2) (0 : Int32) s2) (fun q3 s4 => pI s4 rv 10 (0 : Int32) (fun s5 => pI s5 rv 11 (0 : Int32) (fun s6 => pI s6 rv 12 (0 : Int32) (fun s7 => pI s7 (rv + 9) 1 (0 : Int32) (fun s8 => pI s8 (rv + 11) 1 (0 : Int32) (fun s9 => some ((), s9))))))))
def X10_take (rv : Nat) (rv2 : Nat) (s0 : Sta) : Option (Unit × Sta) := cA (X10_takeCourse rv rv2 s0) (fun q1 s2 => cpI s2 (rv2 + 7) (rv + 7) 8 (fun s3 => cpI s3 (rv2 + 8) (rv + 8) 8 (fun s4 => cA (X9_takeRows (rv + 9) (rv2 + 9) s4) (fun q5 s6 => cA (X9_takeRows (rv + 11) (rv2 + 11) s6) (fun q7 s8 => some ((), s8))))))
def X10_takeBack_L95 (rv : Nat) (y2 : Int32) (s0 : Sta) : Option (Unit × Sta) := fI s0 rv 10 (fun v18 => cA (X11_within y2 (0 : Int32) (v18 - (1 : Int32)) s0) (fun q19 s20 => if q19 = 0 then (some ((), s20)) else (aI s20 (rv + 6) 6 y2 (fun v21 => sI s20 (rv + 6) 6 y2 (v21 - (1 : Int32)) (fun s22 => some ((), s22))))))
def X10_takeBack (rv : Nat) (s0 : Sta) : Option (Unit × Sta) := fI s0 rv 11 (fun v1 => if 0 < v1 then (fI s0 rv 11 (fun v2 => if (8 : Int32) < v2 then (some ((), s0)) else (fI s0 rv 12 (fun v3 => if 0 < v3 then (fI s0 rv 11 (fun v4 => pI s0 rv 11 (v4 - (1 : Int32)) (fun s5 => fI s5 rv 12 (fun v6 => pI s5 rv 12 (v6 - (1 : Int32)) (fun s7 => fI s7 rv 11 (fun v8 => aI s7 (rv + 7) 8 v8 (fun v9 => fI s7 rv 11 (fun v10 => aI s7 (rv + 8) 8 v10 (fun v11 => fI s7 rv 10 (fun v12 => cA (X11_within v9 (0 : Int32) (v12 - (1 : Int32)) s7) (fun q13 s14 => if q13 = 0 then (X10_takeBack_L95 rv v11 s14) else (aI s14 (rv + 5) 6 v9 (fun v15 => fI s14 rv 11 (fun v16 => sI s14 (rv + 5) 6 v9 (v15 &&& (((1 : Int32) <<< (v16 &&& 31)) ^^^ (-1 : Int32))) (fun s17 => X10_takeBack_L95 rv v11 s17))))))))))))))) else (some ((), s0)))))) else (some ((), s0)))
def X10_prizesTold_L4 (rv : Nat) : Nat → Int32 → Int32 → Sta → Option (Int32 × Sta)
  | 0, _, _, _ => none
  | n + 1, y1, y2, s0 => if y2 < (8 : Int32) then (aI s0 (rv + 1) 8 y2 (fun v1 => if v1 = (-1 : Int32) then (X10_prizesTold_L4 rv n y1 (y2 + (1 : Int32)) s0) else (X10_prizesTold_L4 rv n (y1 + (1 : Int32)) (y2 + (1 : Int32)) s0))) else (some (y1, s0))
def X10_prizesTold (rv : Nat) (s0 : Sta) : Option (Int32 × Sta) := X10_prizesTold_L4 rv FU (0 : Int32) (0 : Int32) s0
def X10_winsOfAll_L4 (rv : Nat) : Nat → Int32 → Int32 → Sta → Option (Int32 × Sta)
  | 0, _, _, _ => none
  | n + 1, y1, y2, s0 => fI s0 rv 10 (fun v1 => if y2 < v1 then (aI s0 (rv + 5) 6 y2 (fun v2 => cA (J6_bitCount_0f7a4 v2 s0) (fun q3 s4 => X10_winsOfAll_L4 rv n (y1 + q3) (y2 + (1 : Int32)) s4))) else (some (y1, s0)))
def X10_winsOfAll (rv : Nat) (s0 : Sta) : Option (Int32 × Sta) := X10_winsOfAll_L4 rv FU (0 : Int32) (0 : Int32) s0
def X10_mixedInto_L69 (rv : Nat) (k44 : Int64 → Int32 → Sta → Option (Int64 × Sta)) : Nat → Int64 → Int32 → Int32 → Sta → Option (Int64 × Sta)
  | 0, _, _, _, _ => none
  | n + 1, y1, y3, y4, s0 => if y4 < (3 : Int32) then (aI s0 (rv + 4) 18 ((y3 * (3 : Int32)) + y4) (fun v11 => X10_mixedInto_L69 rv k44 n (((31 : Int64) * y1) + v11.toInt64) y3 (y4 + (1 : Int32)) s0)) else (aI s0 (rv + 5) 6 y3 (fun v9 => aI s0 (rv + 6) 6 y3 (fun v10 => k44 (((31 : Int64) * (((31 : Int64) * y1) + v9.toInt64)) + v10.toInt64) (y3 + (1 : Int32)) s0)))
def X10_mixedInto_L44 (rv : Nat) : Nat → Int64 → Int32 → Sta → Option (Int64 × Sta)
  | 0, _, _, _ => none
  | n + 1, y1, y3, s0 => fI s0 rv 10 (fun v3 => if y3 < v3 then (aI s0 (rv + 3) 6 y3 (fun v8 => X10_mixedInto_L69 rv (X10_mixedInto_L44 rv n) FU (((31 : Int64) * y1) + v8.toInt64) y3 (0 : Int32) s0)) else (cA (X9_mixedInto (rv + 9) y1 s0) (fun q4 s5 => cA (X9_mixedInto (rv + 11) q4 s5) (fun q6 s7 => some (q6, s7)))))
def X10_mixedInto_L2 (rv : Nat) : Nat → Int64 → Int32 → Sta → Option (Int64 × Sta)
  | 0, _, _, _ => none
  | n + 1, y1, y3, s0 => if y3 < (8 : Int32) then (aI s0 (rv + 1) 8 y3 (fun v1 => aI s0 (rv + 2) 8 y3 (fun v2 => X10_mixedInto_L2 rv n (((31 : Int64) * (((31 : Int64) * y1) + v1.toInt64)) + v2.toInt64) (y3 + (1 : Int32)) s0))) else (X10_mixedInto_L44 rv FU y1 (0 : Int32) s0)
def X10_mixedInto (rv : Nat) (x1 : Int64) (s0 : Sta) : Option (Int64 × Sta) := X10_mixedInto_L2 rv FU x1 (0 : Int32) s0
def X11_valley (s0 : Sta) : Option (Int32 × Sta) := fI s0 1 10 (fun v1 => cA (X10_empty 1 s0) (fun q2 s3 => some (v1, s3)))
def X11_bad (s0 : Sta) : Option (Int32 × Sta) := fI s0 0 9 (fun v1 => pI s0 0 9 (v1 + (1 : Int32)) (fun s2 => some ((-2 : Int32), s2)))
def X11_prize (x1 : Int32) (x2 : Int32) (x3 : Int32) (s0 : Sta) : Option (Int32 × Sta) := cA (X11_within x1 (0 : Int32) (7 : Int32) s0) (fun q1 s2 => if q1 = 0 then (cA (X11_bad  s2) (fun q3 s4 => some (q3, s4))) else (cA (X11_within x2 (0 : Int32) (2 : Int32) s2) (fun q5 s6 => if q5 = 0 then (cA (X11_bad  s6) (fun q7 s8 => some (q7, s8))) else (cA (X11_within x3 (1 : Int32) (30 : Int32) s6) (fun q9 s10 => if q9 = 0 then (cA (X11_bad  s10) (fun q15 s16 => some (q15, s16))) else (aI s10 (1 + 2) 8 x1 (fun v11 => cA (X10_setPrize 1 x1 x2 x3 s10) (fun q12 s13 => pI s13 1 12 (0 : Int32) (fun s14 => some (v11, s14))))))))))
def X11_isArt (x1 : Int32) (s0 : Sta) : Option (Int32 × Sta) := cA (X11_within x1 (0 : Int32) (9 : Int32) s0) (fun q1 s2 => rZ q1 s2)
def X11_full (s0 : Sta) : Option (Int32 × Sta) := fI s0 0 11 (fun v1 => pI s0 0 11 (v1 + (1 : Int32)) (fun s2 => some ((-4 : Int32), s2)))
def X11_one (x1 : Int32) (x2 : Int32) (x3 : Int32) (x4 : Int32) (s0 : Sta) : Option (Int32 × Sta) := cA (X11_within x1 (0 : Int32) (5 : Int32) s0) (fun q1 s2 => if q1 = 0 then (cA (X11_bad  s2) (fun q3 s4 => some (q3, s4))) else (cA (X11_isArt x2 s2) (fun q5 s6 => if q5 = 0 then (cA (X11_bad  s6) (fun q7 s8 => some (q7, s8))) else (cA (X11_isArt x3 s6) (fun q9 s10 => if q9 = 0 then (cA (X11_bad  s10) (fun q11 s12 => some (q11, s12))) else (cA (X11_isArt x4 s10) (fun q13 s14 => if q13 = 0 then (cA (X11_bad  s14) (fun q22 s23 => some (q22, s23))) else (fI s14 1 10 (fun v15 => if v15 < (6 : Int32) then (cA (X10_addOne 1 x1 x2 x3 x4 s14) (fun q16 s17 => pI s17 1 12 (0 : Int32) (fun s18 => fI s18 1 10 (fun v19 => some ((v19 - (1 : Int32)), s18))))) else (cA (X11_full  s14) (fun q20 s21 => some (q20, s21))))))))))))
def X11_type (x1 : Int32) (s0 : Sta) : Option (Int32 × Sta) := cA (X11_within x1 (0 : Int32) (127 : Int32) s0) (fun q1 s2 => if q1 = 0 then (cA (X11_bad  s2) (fun q9 s10 => some (q9, s10))) else (fI s2 80 1 (fun v3 => if v3 < (150 : Int32) then (cA (X8_append x1 s2) (fun q4 s5 => fI s5 80 1 (fun v6 => some (v6, s5)))) else (cA (X11_full  s2) (fun q7 s8 => some (q7, s8))))))
def X11_clear (s0 : Sta) : Option (Int32 × Sta) := fI s0 80 1 (fun v1 => pI s0 80 1 (0 : Int32) (fun s2 => some (v1, s2)))
def X11_no (s0 : Sta) : Option (Int32 × Sta) := fI s0 0 10 (fun v1 => pI s0 0 10 (v1 + (1 : Int32)) (fun s2 => some ((-3 : Int32), s2)))
def X11_year (s0 : Sta) : Option (Int32 × Sta) := fI s0 1 11 (fun v1 => if v1 < (8 : Int32) then (cA (X0_allByKind 55 s0) (fun q2 s3 => fI s3 1 11 (fun v4 => cA (X0_hold 55 1 v4 s3) (fun q5 s6 => fI s6 55 3 (fun v7 => fI s6 55 4 (fun v8 => cA (X10_pass 1 v7 v8 s6) (fun q9 s10 => fI s10 55 3 (fun v11 => some (v11, s10))))))))) else (cA (X11_no  s0) (fun q12 s13 => some (q12, s13))))
def X11_undo (s0 : Sta) : Option (Int32 × Sta) := fI s0 1 12 (fun v1 => if 0 < v1 then (cA (X10_takeBack 1 s0) (fun q2 s3 => fI s3 1 11 (fun v4 => some (v4, s3)))) else (cA (X11_no  s0) (fun q5 s6 => some (q5, s6))))
def X11_isOne (x1 : Int32) (s0 : Sta) : Option (Int32 × Sta) := fI s0 1 10 (fun v1 => cA (X11_within x1 (0 : Int32) (v1 - (1 : Int32)) s0) (fun q2 s3 => rZ q2 s3))
def X11_of_L119 (y1 : Int32) (y2 : Int32) (s0 : Sta) : Option (Int32 × Sta) := aI s0 (1 + 4) 18 (((y1 * (3 : Int32)) + y2) - (1 : Int32)) (fun v14 => some (v14, s0))
def X11_of (x1 : Int32) (x2 : Int32) (s0 : Sta) : Option (Int32 × Sta) := cA (X11_isOne x1 s0) (fun q1 s2 => if q1 = 0 then (cA (X11_bad  s2) (fun q3 s4 => some (q3, s4))) else (cA (X11_within x2 (0 : Int32) (6 : Int32) s2) (fun q5 s6 => if q5 = 0 then (cA (X11_bad  s6) (fun q12 s13 => some (q12, s13))) else (tsw' x2 [(0, aI s6 (1 + 3) 6 x1 (fun v7 => some (v7, s6))), (1, X11_of_L119 x1 x2 s6), (2, X11_of_L119 x1 x2 s6), (3, X11_of_L119 x1 x2 s6), (4, aI s6 (1 + 5) 6 x1 (fun v8 => some (v8, s6))), (5, aI s6 (1 + 6) 6 x1 (fun v9 => some (v9, s6))), (6, cA (X0_isBarred 55 1 x1 s6) (fun q10 s11 => if q10 = 0 then (some ((0 : Int32), s11)) else (some ((1 : Int32), s11))))] (X11_of_L119 x1 x2 s6)))))
def X11_about (x1 : Int32) (x2 : Int32) (s0 : Sta) : Option (Int32 × Sta) := cA (X11_within x1 (0 : Int32) (7 : Int32) s0) (fun q1 s2 => if q1 = 0 then (cA (X11_bad  s2) (fun q3 s4 => some ((-10 : Int32), s4))) else (cA (X11_within x2 (0 : Int32) (1 : Int32) s2) (fun q5 s6 => if q5 = 0 then (cA (X11_bad  s6) (fun q9 s10 => some ((-10 : Int32), s10))) else (if x2 = 0 then (aI s6 (1 + 1) 8 x1 (fun v8 => some (v8, s6))) else (aI s6 (1 + 2) 8 x1 (fun v7 => some (v7, s6)))))))
def X11_good (x1 : Int32) (x2 : Int32) (x3 : Int32) (s0 : Sta) : Option (Int32 × Sta) := cA (X11_isOne x1 s0) (fun q1 s2 => if q1 = 0 then (cA (X11_bad  s2) (fun q3 s4 => some (q3, s4))) else (cA (X11_within x2 (0 : Int32) (2 : Int32) s2) (fun q5 s6 => if q5 = 0 then (cA (X11_bad  s6) (fun q7 s8 => some (q7, s8))) else (cA (X11_within x3 (0 : Int32) (7 : Int32) s6) (fun q9 s10 => if q9 = 0 then (cA (X11_bad  s10) (fun q15 s16 => some (q15, s16))) else (aI s10 (1 + 3) 6 x1 (fun v11 => aI s10 (1 + 4) 18 ((x1 * (3 : Int32)) + x2) (fun v12 => cA (X0_skillBy 55 v11 v12 x3 s10) (fun q13 s14 => some (q13, s14))))))))))
def X11_isToCome (x1 : Int32) (s0 : Sta) : Option (Int32 × Sta) := fI s0 1 11 (fun v1 => cA (X11_within x1 v1 (7 : Int32) s0) (fun q2 s3 => rZ q2 s3))
def X11_enter (x1 : Int32) (s0 : Sta) : Option (Int32 × Sta) := cA (X11_isToCome x1 s0) (fun q1 s2 => if q1 = 0 then (cA (X11_bad  s2) (fun q6 s7 => some (q6, s7))) else (cA (X2_contestOf 1 x1 s2) (fun q3 s4 => fI s4 55 2 (fun v5 => some (v5, s4)))))
def X11_winner (x1 : Int32) (x2 : Int32) (s0 : Sta) : Option (Int32 × Sta) := cA (X11_isToCome x1 s0) (fun q1 s2 => if q1 = 0 then (cA (X11_bad  s2) (fun q3 s4 => some (q3, s4))) else (cA (X11_within x2 (0 : Int32) (1 : Int32) s2) (fun q5 s6 => if q5 = 0 then (cA (X11_bad  s6) (fun q11 s12 => some (q11, s12))) else (cA (X2_contestOf 1 x1 s6) (fun q7 s8 => if x2 = 0 then (fI s8 55 3 (fun v10 => some (v10, s8))) else (fI s8 55 4 (fun v9 => some (v9, s8))))))))
def X11_end (x1 : Int32) (x2 : Int32) (s0 : Sta) : Option (Int32 × Sta) := cA (X11_isOne x1 s0) (fun q1 s2 => if q1 = 0 then (cA (X11_bad  s2) (fun q3 s4 => some (q3, s4))) else (cA (X11_within x2 (0 : Int32) (1 : Int32) s2) (fun q5 s6 => if q5 = 0 then (cA (X11_bad  s6) (fun q14 s15 => some (q14, s15))) else (cA (X2_begin 1 s6) (fun q7 s8 => cA (X2_runTo (8 : Int32) s8) (fun q9 s10 => if x2 = 0 then (cA (X10_worthWonBy 65 x1 s10) (fun q12 s13 => some (q12, s13))) else (aI s10 (65 + 6) 6 x1 (fun v11 => some (v11, s10)))))))))
def X11_left (s0 : Sta) : Option (Int32 × Sta) := cA (X2_untaken 1 s0) (fun q1 s2 => some (q1, s2))
def X11_best (x1 : Int32) (x2 : Int32) (s0 : Sta) : Option (Int32 × Sta) := cA (X11_isOne x1 s0) (fun q1 s2 => if q1 = 0 then (cA (X11_bad  s2) (fun q3 s4 => some (q3, s4))) else (cA (X11_within x2 (0 : Int32) (1 : Int32) s2) (fun q5 s6 => if q5 = 0 then (cA (X11_bad  s6) (fun q10 s11 => some (q10, s11))) else (cA (X2_bestYear 1 x1 s6) (fun q7 s8 => if q7 = (-1 : Int32) then (some (q7, s8)) else (if x2 = 0 then (some (q7, s8)) else (aI s8 (1 + 2) 8 q7 (fun v9 => some (v9, s8)))))))))
def X11_rivals (x1 : Int32) (x2 : Int32) (x3 : Int32) (s0 : Sta) : Option (Int32 × Sta) := cA (X11_isOne x1 s0) (fun q1 s2 => if q1 = 0 then (cA (X11_bad  s2) (fun q3 s4 => some ((-10 : Int32), s4))) else (cA (X11_isOne x2 s2) (fun q5 s6 => if q5 = 0 then (cA (X11_bad  s6) (fun q7 s8 => some ((-10 : Int32), s8))) else (if x1 = x2 then (cA (X11_bad  s6) (fun q9 s10 => some ((-10 : Int32), s10))) else (if x3 < (-1 : Int32) then (cA (X11_bad  s6) (fun q16 s17 => some ((-10 : Int32), s17))) else (cA (X2_weighRivals 1 x1 x2 s6) (fun q11 s12 => fI s12 1 11 (fun v13 => cA (X2_resting v13 x3 s12) (fun q14 s15 => some (q14, s15))))))))))
def X11_handicap (x1 : Int32) (s0 : Sta) : Option (Int32 × Sta) := cA (X11_isOne x1 s0) (fun q1 s2 => if q1 = 0 then (cA (X11_bad  s2) (fun q7 s8 => some (q7, s8))) else (cA (X0_allByKind 55 s2) (fun q3 s4 => cA (X0_handicapOf 55 1 x1 s4) (fun q5 s6 => some (q5, s6)))))
def X11_order (x1 : Int32) (s0 : Sta) : Option (Int32 × Sta) := cA (X11_isOne x1 s0) (fun q1 s2 => if q1 = 0 then (cA (X11_bad  s2) (fun q5 s6 => some (q5, s6))) else (cA (X2_bestSwap 1 x1 s2) (fun q3 s4 => some (q3, s4))))
def X11_note (x1 : Int32) (x2 : Int32) (x3 : Int32) (x4 : Int32) (s0 : Sta) : Option (Int32 × Sta) := cA (X11_isOne x1 s0) (fun q1 s2 => if q1 = 0 then (cA (X11_bad  s2) (fun q3 s4 => some (q3, s4))) else (cA (X11_within x2 (1 : Int32) (30 : Int32) s2) (fun q5 s6 => if q5 = 0 then (cA (X11_bad  s6) (fun q7 s8 => some (q7, s8))) else (cA (X11_within x3 (0 : Int32) (7 : Int32) s6) (fun q9 s10 => if q9 = 0 then (cA (X11_bad  s10) (fun q11 s12 => some (q11, s12))) else (cA (X11_within x4 (0 : Int32) (1 : Int32) s10) (fun q13 s14 => if q13 = 0 then (cA (X11_bad  s14) (fun q21 s22 => some (q21, s22))) else (fI s14 (1 + 9) 1 (fun v15 => if v15 < (6 : Int32) then (cA (X9_add (1 + 9) x1 x2 x3 x4 s14) (fun q16 s17 => fI s17 (1 + 9) 1 (fun v18 => some (v18, s17)))) else (cA (X11_full  s14) (fun q19 s20 => some (q19, s20))))))))))))
def X11_beaten (x1 : Int32) (x2 : Int32) (x3 : Int32) (x4 : Int32) (s0 : Sta) : Option (Int32 × Sta) := cA (X11_isOne x1 s0) (fun q1 s2 => if q1 = 0 then (cA (X11_bad  s2) (fun q3 s4 => some (q3, s4))) else (cA (X11_isOne x2 s2) (fun q5 s6 => if q5 = 0 then (cA (X11_bad  s6) (fun q7 s8 => some (q7, s8))) else (if x1 = x2 then (cA (X11_bad  s6) (fun q9 s10 => some (q9, s10))) else (cA (X11_within x3 (0 : Int32) (2 : Int32) s6) (fun q11 s12 => if q11 = 0 then (cA (X11_bad  s12) (fun q13 s14 => some (q13, s14))) else (cA (X11_within x4 (0 : Int32) (7 : Int32) s12) (fun q15 s16 => if q15 = 0 then (cA (X11_bad  s16) (fun q23 s24 => some (q23, s24))) else (fI s16 (1 + 11) 1 (fun v17 => if v17 < (6 : Int32) then (cA (X9_add (1 + 11) x1 x2 x3 x4 s16) (fun q18 s19 => fI s19 (1 + 11) 1 (fun v20 => some (v20, s19)))) else (cA (X11_full  s16) (fun q21 s22 => some (q21, s22)))))))))))))
def X11_forget (x1 : Int32) (s0 : Sta) : Option (Int32 × Sta) := cA (X11_within x1 (0 : Int32) (1 : Int32) s0) (fun q1 s2 => if q1 = 0 then (cA (X11_bad  s2) (fun q7 s8 => some (q7, s8))) else (if x1 = 0 then (fI s2 (1 + 9) 1 (fun v5 => pI s2 (1 + 9) 1 (0 : Int32) (fun s6 => some (v5, s6)))) else (fI s2 (1 + 11) 1 (fun v3 => pI s2 (1 + 11) 1 (0 : Int32) (fun s4 => some (v3, s4))))))
def X11_is (x1 : Int32) (s0 : Sta) : Option (Int32 × Sta) := cA (X11_isOne x1 s0) (fun q1 s2 => if q1 = 0 then (cA (X11_bad  s2) (fun q5 s6 => some (q5, s6))) else (cA (X0_kindsThatFit 55 (1 + 9) x1 s2) (fun q3 s4 => some (q3, s4))))
def X11_offer (x1 : Int32) (s0 : Sta) : Option (Int32 × Sta) := cA (X11_isOne x1 s0) (fun q1 s2 => if q1 = 0 then (cA (X11_bad  s2) (fun q8 s9 => some (q8, s9))) else (fI s2 1 11 (fun v3 => cA (X0_kindsThatFit 55 (1 + 9) x1 s2) (fun q4 s5 => cA (X0_tellingWorth 55 q4 (if (0 : Int32) < ((7 : Int32) - v3) then ((7 : Int32) - v3) else (0 : Int32)) s5) (fun q6 s7 => some (q6, s7))))))
def X11_may_L27 : Nat → Int32 → Int32 → Int32 → Int32 → Sta → Option (Int32 × Sta)
  | 0, _, _, _, _, _ => none
  | n + 1, y1, y2, y3, y4, s0 => if y4 < (10 : Int32) then (cA (X0_artFits 55 1 y1 y2 y4 s0) (fun q9 s10 => if q9 = 0 then (X11_may_L27 n y1 y2 y3 (y4 + (1 : Int32)) s10) else (X11_may_L27 n y1 y2 (y3 ||| ((1 : Int32) <<< (y4 &&& 31))) (y4 + (1 : Int32)) s10))) else (some (y3, s0))
def X11_may (x1 : Int32) (x2 : Int32) (s0 : Sta) : Option (Int32 × Sta) := cA (X11_isOne x1 s0) (fun q1 s2 => if q1 = 0 then (cA (X11_bad  s2) (fun q3 s4 => some (q3, s4))) else (cA (X11_within x2 (0 : Int32) (2 : Int32) s2) (fun q5 s6 => if q5 = 0 then (cA (X11_bad  s6) (fun q7 s8 => some (q7, s8))) else (X11_may_L27 FU x1 x2 (0 : Int32) (0 : Int32) s6))))
def X11_clash_L4 : Nat → Int32 → Int32 → Sta → Option (Int32 × Sta)
  | 0, _, _, _ => none
  | n + 1, y1, y2, s0 => fI s0 (1 + 11) 1 (fun v1 => if y2 < v1 then (cA (X0_isSo 55 1 y2 s0) (fun q2 s3 => if q2 = 0 then (X11_clash_L4 n (y1 + (1 : Int32)) (y2 + (1 : Int32)) s3) else (X11_clash_L4 n y1 (y2 + (1 : Int32)) s3))) else (some (y1, s0)))
def X11_clash (s0 : Sta) : Option (Int32 × Sta) := X11_clash_L4 FU (0 : Int32) (0 : Int32) s0
def X11_setFraction_L24 : Nat → Int32 → Int32 → Int32 → Int32 → Sta → Option (Unit × Sta)
  | 0, _, _, _, _, _ => none
  | n + 1, y1, y2, y3, y4, s0 => if y1 < y4 then (dvI y3 (pL s0 0 7 ((y1 / y3).toInt64) (fun s3 => dvI y3 (pL s3 0 8 ((y2 / y3).toInt64) (fun s4 => some ((), s4)))))) else (dvI y4 (if (y1 - y1 / y4 * y4) = 0 then (dvI y4 (if (y2 - y2 / y4 * y4) = 0 then (X11_setFraction_L24 n y1 y2 y4 (y4 + (1 : Int32)) s0) else (X11_setFraction_L24 n y1 y2 y3 (y4 + (1 : Int32)) s0))) else (X11_setFraction_L24 n y1 y2 y3 (y4 + (1 : Int32)) s0)))
def X11_setFraction (x1 : Int32) (x2 : Int32) (s0 : Sta) : Option (Unit × Sta) := pL s0 0 7 (0 : Int64) (fun s1 => pL s1 0 8 (1 : Int64) (fun s2 => if 0 < x1 then (if 0 < x2 then (X11_setFraction_L24 FU x1 x2 (1 : Int32) (2 : Int32) s2) else (some ((), s2))) else (some ((), s2))))
def X11_odds (x1 : Int32) (x2 : Int32) (s0 : Sta) : Option (Int32 × Sta) := cA (X11_isOne x1 s0) (fun q1 s2 => if q1 = 0 then (cA (X11_bad  s2) (fun q3 s4 => some (q3, s4))) else (cA (X11_isToCome x2 s2) (fun q5 s6 => if q5 = 0 then (cA (X11_bad  s6) (fun q17 s18 => some (q17, s18))) else (cA (X2_begin 1 s6) (fun q7 s8 => cA (X2_runTo x2 s8) (fun q9 s10 => cA (X0_strength 55 65 x1 x2 s10) (fun q11 s12 => cA (X0_strengthOfAll 55 65 x2 s12) (fun q13 s14 => cA (X11_setFraction q11 q13 s14) (fun q15 s16 => some ((1 : Int32), s16))))))))))
def X11_valleys (x1 : Int32) (x2 : Int32) (s0 : Sta) : Option (Int32 × Sta) := cA (X11_within x1 (0 : Int32) (999999 : Int32) s0) (fun q1 s2 => if q1 = 0 then (cA (X11_bad  s2) (fun q3 s4 => some (q3, s4))) else (cA (X11_within x2 (0 : Int32) (60 : Int32) s2) (fun q5 s6 => if q5 = 0 then (cA (X11_bad  s6) (fun q9 s10 => some (q9, s10))) else (cA (X2_worthInValleys 1 x1 x2 s6) (fun q7 s8 => some (q7, s8))))))
def X11_part (x1 : Int32) (s0 : Sta) : Option (Int64 × Sta) := cA (X11_within x1 (0 : Int32) (1 : Int32) s0) (fun q1 s2 => if q1 = 0 then (cA (X11_bad  s2) (fun q5 s6 => some (q5.toInt64, s6))) else (if x1 = 0 then (fL s2 0 7 (fun v4 => some (v4, s2))) else (fL s2 0 8 (fun v3 => some (v3, s2)))))
def X11_image (x1 : Int32) (s0 : Sta) : Option (Int32 × Sta) := cA (X11_within x1 (0 : Int32) (1 : Int32) s0) (fun q1 s2 => if q1 = 0 then (cA (X11_bad  s2) (fun q7 s8 => some (q7, s8))) else (aR 2 x1 (fun j3 => cA (X10_take (29 + 13 * j3) 1 s2) (fun q4 s5 => sZ s5 28 2 x1 (1 : Int32) (fun s6 => some ((1 : Int32), s6))))))
def X11_from (x1 : Int32) (s0 : Sta) : Option (Int32 × Sta) := cA (X11_within x1 (0 : Int32) (1 : Int32) s0) (fun q1 s2 => if q1 = 0 then (cA (X11_bad  s2) (fun q9 s10 => some (q9, s10))) else (aI s2 28 2 x1 (fun v3 => if v3 = 0 then (cA (X11_no  s2) (fun q7 s8 => some (q7, s8))) else (aR 2 x1 (fun j4 => cA (X10_take 1 (29 + 13 * j4) s2) (fun q5 s6 => some ((1 : Int32), s6)))))))
def X11_status (x1 : Int32) (s0 : Sta) : Option (Int32 × Sta) := tsw' x1 [(0, fI s0 0 9 (fun v3 => some (v3, s0))), (1, fI s0 0 10 (fun v4 => some (v4, s0))), (2, fI s0 0 11 (fun v5 => some (v5, s0)))] (cA (X11_bad  s0) (fun q1 s2 => some ((-1 : Int32), s2)))
def X11_amount (x1 : Int32) (s0 : Sta) : Option (Int32 × Sta) := tsw' x1 [(0, fI s0 1 10 (fun v2 => some (v2, s0))), (1, fI s0 1 11 (fun v3 => some (v3, s0))), (2, cA (X10_prizesTold 1 s0) (fun q4 s5 => some (q4, s5))), (3, cA (X10_winsOfAll 1 s0) (fun q6 s7 => some (q6, s7))), (4, fI s0 (1 + 9) 1 (fun v8 => some (v8, s0))), (5, fI s0 (1 + 11) 1 (fun v9 => some (v9, s0))), (6, fI s0 1 12 (fun v10 => some (v10, s0)))] (fI s0 80 1 (fun v1 => some (v1, s0)))
def X11_count (x1 : Int32) (s0 : Sta) : Option (Int32 × Sta) := cA (X11_within x1 (0 : Int32) (7 : Int32) s0) (fun q1 s2 => if q1 = 0 then (cA (X11_bad  s2) (fun q5 s6 => some (q5, s6))) else (cA (X11_amount x1 s2) (fun q3 s4 => some (q3, s4))))
def X11_digest_L6 : Nat → Int64 → Int32 → Sta → Option (Int64 × Sta)
  | 0, _, _, _ => none
  | n + 1, y1, y3, s0 => if y3 < (8 : Int32) then (cA (X11_amount y3 s0) (fun q5 s6 => X11_digest_L6 n (((31 : Int64) * y1) + q5.toInt64) (y3 + (1 : Int32)) s6)) else (cA (X10_mixedInto 1 y1 s0) (fun q1 s2 => fL s2 0 7 (fun v3 => fL s2 0 8 (fun v4 => some ((((31 : Int64) * (((31 : Int64) * q1) + v3)) + v4), s2)))))
def X11_digest (s0 : Sta) : Option (Int64 × Sta) := X11_digest_L6 FU (1303 : Int64) (0 : Int32) s0
def X12_in (x1 : Int64) (x2 : Int64) (x3 : Int64) (s0 : Sta) : Option (Int32 × Sta) := if (lg_cmp x1 x2) < 0 then (rZ (0 : Int32) s0) else (if 0 < (lg_cmp x1 x3) then (rZ (0 : Int32) s0) else (rZ (1 : Int32) s0))
def X12_bad (x1 : Int32) (s0 : Sta) : Option (Int32 × Sta) := aI s0 86 3 (0 : Int32) (fun v1 => sI s0 86 3 (0 : Int32) (v1 + (1 : Int32)) (fun s2 => some (x1, s2)))
def X12_no (s0 : Sta) : Option (Int32 × Sta) := aI s0 86 3 (1 : Int32) (fun v1 => sI s0 86 3 (1 : Int32) (v1 + (1 : Int32)) (fun s2 => some ((-3 : Int32), s2)))
def X12_full (s0 : Sta) : Option (Int32 × Sta) := aI s0 86 3 (2 : Int32) (fun v1 => sI s0 86 3 (2 : Int32) (v1 + (1 : Int32)) (fun s2 => some ((-4 : Int32), s2)))
def X12_bits_L4 : Nat → Int32 → Int32 → Sta → Option (Int32 × Sta)
  | 0, _, _, _ => none
  | n + 1, y1, y2, s0 => if 0 < y2 then (X12_bits_L4 n (y1 + (y2 &&& (1 : Int32))) (y2 >>> ((1 : Int32) &&& 31)) s0) else (some (y1, s0))
def X12_bits (x1 : Int32) (s0 : Sta) : Option (Int32 × Sta) := X12_bits_L4 FU (0 : Int32) x1 s0
def X12_has (x1 : Int32) (x2 : Int32) (s0 : Sta) : Option (Int32 × Sta) := if ((x1 >>> (x2 &&& 31)) &&& (1 : Int32)) = (1 : Int32) then (rZ (1 : Int32) s0) else (rZ (0 : Int32) s0)
def X12_begin_L20 (nav : Nat) (kav : Nat) : Nat → Int32 → Sta → Option (Unit × Sta)
  | 0, _, _ => none
  | n + 1, y1, s0 => if y1 < (8 : Int32) then (sI s0 kav nav ((41 : Int32) + y1) (-1 : Int32) (fun s2 => X12_begin_L20 nav kav n (y1 + (1 : Int32)) s2)) else (some ((), s0))
def X12_begin_L2 (nav : Nat) (kav : Nat) : Nat → Int32 → Sta → Option (Unit × Sta)
  | 0, _, _ => none
  | n + 1, y1, s0 => if y1 < (105 : Int32) then (sI s0 kav nav y1 (0 : Int32) (fun s1 => X12_begin_L2 nav kav n (y1 + (1 : Int32)) s1)) else (X12_begin_L20 nav kav FU (0 : Int32) s0)
def X12_begin (nav : Nat) (kav : Nat) (s0 : Sta) : Option (Unit × Sta) := X12_begin_L2 nav kav FU (0 : Int32) s0
def X12_many (s0 : Sta) : Option (Int32 × Sta) := aI s0 83 209 (0 : Int32) (fun v1 => some (v1, s0))
def X12_isOne (x1 : Int32) (s0 : Sta) : Option (Int32 × Sta) := cA (X12_many  s0) (fun q1 s2 => cA (X12_in x1.toInt64 (0 : Int64) ((q1 - (1 : Int32)).toInt64) s2) (fun q3 s4 => rZ q3 s4))
def X12_isYear (x1 : Int32) (s0 : Sta) : Option (Int32 × Sta) := cA (X12_in x1.toInt64 (0 : Int64) (7 : Int64) s0) (fun q1 s2 => rZ q1 s2)
def X12_isToCome (x1 : Int32) (s0 : Sta) : Option (Int32 × Sta) := aI s0 83 209 (4 : Int32) (fun v1 => cA (X12_in x1.toInt64 v1.toInt64 (7 : Int64) s0) (fun q2 s3 => rZ q2 s3))
def X12_isSort (x1 : Int32) (s0 : Sta) : Option (Int32 × Sta) := cA (X12_in x1.toInt64 (0 : Int64) (2 : Int64) s0) (fun q1 s2 => rZ q1 s2)
def X12_valley (s0 : Sta) : Option (Int32 × Sta) := cA (X12_many  s0) (fun q1 s2 => cA (X12_begin 209 83 s2) (fun q3 s4 => some (q1, s4)))
def X12_prize (x1 : Int32) (x2 : Int32) (x3 : Int32) (s0 : Sta) : Option (Int32 × Sta) := cA (X12_isYear x1 s0) (fun q1 s2 => if q1 = 0 then (cA (X12_bad (-2 : Int32) s2) (fun q3 s4 => some (q3, s4))) else (cA (X12_isSort x2 s2) (fun q5 s6 => if q5 = 0 then (cA (X12_bad (-2 : Int32) s6) (fun q7 s8 => some (q7, s8))) else (cA (X12_in x3.toInt64 (1 : Int64) (30 : Int64) s6) (fun q9 s10 => if q9 = 0 then (cA (X12_bad (-2 : Int32) s10) (fun q15 s16 => some (q15, s16))) else (aI s10 83 209 ((49 : Int32) + x1) (fun v11 => sI s10 83 209 ((41 : Int32) + x1) x2 (fun s12 => sI s12 83 209 ((49 : Int32) + x1) x3 (fun s13 => sI s13 83 209 (3 : Int32) (0 : Int32) (fun s14 => some (v11, s14)))))))))))
def X12_layOne (nav : Nat) (kav : Nat) (x1 : Int32) (x2 : Int32) (x3 : Int32) (x4 : Int32) (s0 : Sta) : Option (Unit × Sta) := aI s0 kav nav (0 : Int32) (fun v1 => sI s0 kav nav ((17 : Int32) + v1) x1 (fun s2 => sI s2 kav nav ((23 : Int32) + ((3 : Int32) * v1)) x2 (fun s3 => sI s3 kav nav (((23 : Int32) + ((3 : Int32) * v1)) + (1 : Int32)) x3 (fun s4 => sI s4 kav nav (((23 : Int32) + ((3 : Int32) * v1)) + (2 : Int32)) x4 (fun s5 => sI s5 kav nav ((5 : Int32) + v1) (0 : Int32) (fun s6 => sI s6 kav nav ((11 : Int32) + v1) (0 : Int32) (fun s7 => aI s7 kav nav (0 : Int32) (fun v8 => sI s7 kav nav (0 : Int32) (v8 + (1 : Int32)) (fun s9 => some ((), s9))))))))))
def X12_one (x1 : Int32) (x2 : Int32) (x3 : Int32) (x4 : Int32) (s0 : Sta) : Option (Int32 × Sta) := cA (X12_in x1.toInt64 (0 : Int64) (5 : Int64) s0) (fun q1 s2 => if q1 = 0 then (cA (X12_bad (-2 : Int32) s2) (fun q3 s4 => some (q3, s4))) else (cA (X12_in x2.toInt64 (0 : Int64) (9 : Int64) s2) (fun q5 s6 => if q5 = 0 then (cA (X12_bad (-2 : Int32) s6) (fun q7 s8 => some (q7, s8))) else (cA (X12_in x3.toInt64 (0 : Int64) (9 : Int64) s6) (fun q9 s10 => if q9 = 0 then (cA (X12_bad (-2 : Int32) s10) (fun q11 s12 => some (q11, s12))) else (cA (X12_in x4.toInt64 (0 : Int64) (9 : Int64) s10) (fun q13 s14 => if q13 = 0 then (cA (X12_bad (-2 : Int32) s14) (fun q24 s25 => some (q24, s25))) else (cA (X12_many  s14) (fun q15 s16 => if q15 = (6 : Int32) then (cA (X12_full  s16) (fun q22 s23 => some (q22, s23))) else (cA (X12_layOne 209 83 x1 x2 x3 x4 s16) (fun q17 s18 => sI s18 83 209 (3 : Int32) (0 : Int32) (fun s19 => cA (X12_many  s19) (fun q20 s21 => some ((q20 - (1 : Int32)), s21))))))))))))))
def X12_triesAs_L50 (y3 : Int32) (s0 : Sta) : Option (Int32 × Sta) := if y3 = 0 then (rZ (0 : Int32) s0) else (rZ (1 : Int32) s0)
def X12_triesAs_L16 (y0 : Int32) (y1 : Int32) (z0 : Int32) (s0 : Sta) : Option (Int32 × Sta) := if y0 = (3 : Int32) then (if z0 = 0 then (rZ (0 : Int32) s0) else (if y1 < (8 : Int32) then (rZ (0 : Int32) s0) else (rZ (1 : Int32) s0))) else (if y0 = (1 : Int32) then (X12_triesAs_L50 z0 s0) else (if y0 = (5 : Int32) then (X12_triesAs_L50 z0 s0) else (rZ (1 : Int32) s0)))
def X12_triesAs (x1 : Int32) (x2 : Int32) (x3 : Int32) (s0 : Sta) : Option (Int32 × Sta) := if x2 < (15 : Int32) then (if (1 : Int32) < x3 then (X12_triesAs_L16 x1 x2 (0 : Int32) s0) else (X12_triesAs_L16 x1 x2 (1 : Int32) s0)) else (X12_triesAs_L16 x1 x2 (1 : Int32) s0)
def X12_goodAs (x1 : Int32) (x2 : Int32) (x3 : Int32) (s0 : Sta) : Option (Int32 × Sta) := tsw' x1 [(3, some ((x2 + (1 : Int32)), s0)), (4, if (x3 - x3 / (2 : Int32) * (2 : Int32)) = (1 : Int32) then (some (((2 : Int32) * x2), s0)) else (some ((0 : Int32), s0))), (5, if (x3 / (2 : Int32)) < x2 then (some ((x2 - (x3 / (2 : Int32))), s0)) else (some ((0 : Int32), s0)))] (some (x2, s0))
def X12_isBarredBy_L11 (z0 : Int32) (z1 : Int32) (s0 : Sta) : Option (Int32 × Sta) := if z1 < z0 then (rZ (0 : Int32) s0) else (rZ (1 : Int32) s0)
def X12_isBarredBy (x1 : Int32) (x2 : Int32) (s0 : Sta) : Option (Int32 × Sta) := if x1 = (2 : Int32) then (X12_isBarredBy_L11 (2 : Int32) x2 s0) else (X12_isBarredBy_L11 (1 : Int32) x2 s0)
def X12_goodOf (x1 : Int32) (x2 : Int32) (x3 : Int32) (s0 : Sta) : Option (Int32 × Sta) := aI s0 83 209 ((17 : Int32) + x1) (fun v1 => aI s0 83 209 (((23 : Int32) + ((3 : Int32) * x1)) + x2) (fun v2 => cA (X12_goodAs v1 v2 x3 s0) (fun q3 s4 => some (q3, s4))))
def X12_layHand_L55 : Nat → Int32 → Sta → Option (Unit × Sta)
  | 0, _, _ => none
  | n + 1, y1, s0 => if y1 < (8 : Int32) then (aI s0 83 209 ((41 : Int32) + y1) (fun v8 => sI s0 89 8 y1 v8 (fun s9 => aI s9 83 209 ((49 : Int32) + y1) (fun v10 => sI s9 90 8 y1 v10 (fun s11 => X12_layHand_L55 n (y1 + (1 : Int32)) s11))))) else (some ((), s0))
def X12_layHand_L2 : Nat → Int32 → Sta → Option (Unit × Sta)
  | 0, _, _ => none
  | n + 1, y1, s0 => cA (X12_many  s0) (fun q1 s2 => if y1 < q1 then (aI s2 83 209 ((5 : Int32) + y1) (fun v3 => sI s2 87 6 y1 v3 (fun s4 => aI s4 83 209 ((11 : Int32) + y1) (fun v5 => sI s4 88 6 y1 v5 (fun s6 => sI s6 91 6 y1 (-2 : Int32) (fun s7 => X12_layHand_L2 n (y1 + (1 : Int32)) s7)))))) else (X12_layHand_L55 FU (0 : Int32) s2))
def X12_layHand (s0 : Sta) : Option (Unit × Sta) := X12_layHand_L2 FU (0 : Int32) s0
def X12_tries (x1 : Int32) (x2 : Int32) (s0 : Sta) : Option (Int32 × Sta) := aI s0 91 6 x1 (fun v1 => if v1 = (-2 : Int32) then (aI s0 83 209 ((17 : Int32) + x1) (fun v3 => aI s0 90 8 x2 (fun v4 => cA (X12_triesAs v3 v4 ((7 : Int32) - x2) s0) (fun q5 s6 => rZ q5 s6)))) else (aI s0 91 6 x1 (fun v2 => if v2 = x2 then (rZ (1 : Int32) s0) else (rZ (0 : Int32) s0))))
def X12_isBarred (x1 : Int32) (s0 : Sta) : Option (Int32 × Sta) := aI s0 83 209 ((17 : Int32) + x1) (fun v1 => aI s0 87 6 x1 (fun v2 => cA (X12_bits v2 s0) (fun q3 s4 => cA (X12_isBarredBy v1 q3 s4) (fun q5 s6 => rZ q5 s6))))
def X12_enters (x1 : Int32) (x2 : Int32) (s0 : Sta) : Option (Int32 × Sta) := aI s0 89 8 x2 (fun v1 => if v1 = (-1 : Int32) then (rZ (0 : Int32) s0) else (cA (X12_isBarred x1 s0) (fun q2 s3 => if q2 = 0 then (cA (X12_tries x1 x2 s3) (fun q4 s5 => if q4 = 0 then (rZ (0 : Int32) s5) else (aI s5 89 8 x2 (fun v6 => cA (X12_goodOf x1 v6 x2 s5) (fun q7 s8 => if q7 < (1 : Int32) then (rZ (0 : Int32) s8) else (rZ (1 : Int32) s8)))))) else (rZ (0 : Int32) s3))))
def X12_bestIn_L8 : Nat → Int32 → Int32 → Int32 → Int32 → Int32 → Sta → Option (Int32 × Sta)
  | 0, _, _, _, _, _, _ => none
  | n + 1, y1, y2, y3, y4, y5, s0 => cA (X12_many  s0) (fun q1 s2 => if y5 < q1 then (if y5 = y2 then (X12_bestIn_L8 n y1 y2 y3 y4 (y5 + (1 : Int32)) s2) else (cA (X12_enters y5 y1 s2) (fun q3 s4 => if q3 = 0 then (X12_bestIn_L8 n y1 y2 y3 y4 (y5 + (1 : Int32)) s4) else (aI s4 89 8 y1 (fun v5 => cA (X12_goodOf y5 v5 y1 s4) (fun q6 s7 => if y4 < q6 then (aI s7 89 8 y1 (fun v8 => cA (X12_goodOf y5 v8 y1 s7) (fun q9 s10 => X12_bestIn_L8 n y1 y2 y5 q9 (y5 + (1 : Int32)) s10))) else (X12_bestIn_L8 n y1 y2 y3 y4 (y5 + (1 : Int32)) s7))))))) else (some (y3, s2)))
def X12_bestIn (x1 : Int32) (x2 : Int32) (s0 : Sta) : Option (Int32 × Sta) := X12_bestIn_L8 FU x1 x2 (-1 : Int32) (0 : Int32) (0 : Int32) s0
def X12_goYear_L40 (y2 : Int32) (y3 : Int32) (s0 : Sta) : Option (Int32 × Sta) := if y3 = (-1 : Int32) then (some (y2, s0)) else (aI s0 88 6 y3 (fun v7 => sI s0 88 6 y3 (v7 + (1 : Int32)) (fun s8 => some (y2, s8))))
def X12_goYear_L22 (y1 : Int32) (y2 : Int32) (z0 : Int32) (s0 : Sta) : Option (Int32 × Sta) := if y2 = (-1 : Int32) then (X12_goYear_L40 y2 z0 s0) else (aI s0 87 6 y2 (fun v5 => sI s0 87 6 y2 (v5 ||| ((1 : Int32) <<< (y1 &&& 31))) (fun s6 => X12_goYear_L40 y2 z0 s6)))
def X12_goYear (x1 : Int32) (s0 : Sta) : Option (Int32 × Sta) := cA (X12_bestIn x1 (-1 : Int32) s0) (fun q1 s2 => if q1 = (-1 : Int32) then (X12_goYear_L22 x1 q1 (-1 : Int32) s2) else (cA (X12_bestIn x1 q1 s2) (fun q3 s4 => X12_goYear_L22 x1 q1 q3 s4)))
def X12_goTill_L7 : Nat → Int32 → Int32 → Sta → Option (Unit × Sta)
  | 0, _, _, _ => none
  | n + 1, y1, y2, s0 => if y2 < y1 then (cA (X12_goYear y2 s0) (fun q2 s3 => X12_goTill_L7 n y1 (y2 + (1 : Int32)) s3)) else (some ((), s0))
def X12_goTill (x1 : Int32) (s0 : Sta) : Option (Unit × Sta) := aI s0 83 209 (4 : Int32) (fun v1 => X12_goTill_L7 FU x1 v1 s0)
def X12_worthOf_L4 : Nat → Int32 → Int32 → Int32 → Sta → Option (Int32 × Sta)
  | 0, _, _, _, _ => none
  | n + 1, y1, y2, y3, s0 => if y3 < (8 : Int32) then (aI s0 87 6 y1 (fun v1 => cA (X12_has v1 y3 s0) (fun q2 s3 => if q2 = 0 then (X12_worthOf_L4 n y1 (y2 + (0 : Int32)) (y3 + (1 : Int32)) s3) else (aI s3 90 8 y3 (fun v4 => X12_worthOf_L4 n y1 (y2 + v4) (y3 + (1 : Int32)) s3))))) else (some (y2, s0))
def X12_worthOf (x1 : Int32) (s0 : Sta) : Option (Int32 × Sta) := X12_worthOf_L4 FU x1 (0 : Int32) (0 : Int32) s0
def X12_keep_L53 : Nat → Int32 → Sta → Option (Unit × Sta)
  | 0, _, _ => none
  | n + 1, y1, s0 => if y1 < (13 : Int32) then (aI s0 83 209 (3 : Int32) (fun v7 => aI s0 83 209 ((4 : Int32) + y1) (fun v8 => sI s0 83 209 (((105 : Int32) + ((13 : Int32) * v7)) + y1) v8 (fun s9 => X12_keep_L53 n (y1 + (1 : Int32)) s9)))) else (aI s0 83 209 (3 : Int32) (fun v5 => sI s0 83 209 (3 : Int32) (v5 + (1 : Int32)) (fun s6 => some ((), s6))))
def X12_keep_L13 : Nat → Int32 → Sta → Option (Unit × Sta)
  | 0, _, _ => none
  | n + 1, y1, s0 => if y1 < (91 : Int32) then (aI s0 83 209 ((118 : Int32) + y1) (fun v3 => sI s0 83 209 ((105 : Int32) + y1) v3 (fun s4 => X12_keep_L13 n (y1 + (1 : Int32)) s4))) else (sI s0 83 209 (3 : Int32) (7 : Int32) (fun s2 => X12_keep_L53 FU (0 : Int32) s2))
def X12_keep (s0 : Sta) : Option (Unit × Sta) := aI s0 83 209 (3 : Int32) (fun v1 => if v1 = (8 : Int32) then (X12_keep_L13 FU (0 : Int32) s0) else (X12_keep_L53 FU (0 : Int32) s0))
def X12_year_L37 : Nat → Int32 → Int32 → Sta → Option (Int32 × Sta)
  | 0, _, _, _ => none
  | n + 1, y1, y2, s0 => cA (X12_many  s0) (fun q11 s12 => if y2 < q11 then (aI s12 87 6 y2 (fun v15 => sI s12 83 209 ((5 : Int32) + y2) v15 (fun s16 => aI s16 88 6 y2 (fun v17 => sI s16 83 209 ((11 : Int32) + y2) v17 (fun s18 => X12_year_L37 n y1 (y2 + (1 : Int32)) s18))))) else (aI s12 83 209 (4 : Int32) (fun v13 => sI s12 83 209 (4 : Int32) (v13 + (1 : Int32)) (fun s14 => some (y1, s14)))))
def X12_year (s0 : Sta) : Option (Int32 × Sta) := aI s0 83 209 (4 : Int32) (fun v1 => if v1 = (8 : Int32) then (cA (X12_no  s0) (fun q9 s10 => some (q9, s10))) else (cA (X12_keep  s0) (fun q2 s3 => cA (X12_layHand  s3) (fun q4 s5 => aI s5 83 209 (4 : Int32) (fun v6 => cA (X12_goYear v6 s5) (fun q7 s8 => X12_year_L37 FU q7 (0 : Int32) s8))))))
def X12_undo_L26 : Nat → Int32 → Sta → Option (Int32 × Sta)
  | 0, _, _ => none
  | n + 1, y1, s0 => if y1 < (13 : Int32) then (aI s0 83 209 (3 : Int32) (fun v7 => aI s0 83 209 (((105 : Int32) + ((13 : Int32) * v7)) + y1) (fun v8 => sI s0 83 209 ((4 : Int32) + y1) v8 (fun s9 => X12_undo_L26 n (y1 + (1 : Int32)) s9)))) else (aI s0 83 209 (4 : Int32) (fun v6 => some (v6, s0)))
def X12_undo (s0 : Sta) : Option (Int32 × Sta) := aI s0 83 209 (3 : Int32) (fun v1 => if v1 = 0 then (cA (X12_no  s0) (fun q4 s5 => some (q4, s5))) else (aI s0 83 209 (3 : Int32) (fun v2 => sI s0 83 209 (3 : Int32) (v2 - (1 : Int32)) (fun s3 => X12_undo_L26 FU (0 : Int32) s3))))
def X12_of_L114 (y1 : Int32) (y2 : Int32) (s0 : Sta) : Option (Int32 × Sta) := aI s0 83 209 ((((23 : Int32) + ((3 : Int32) * y1)) + y2) - (1 : Int32)) (fun v16 => some (v16, s0))
def X12_of (x1 : Int32) (x2 : Int32) (s0 : Sta) : Option (Int32 × Sta) := cA (X12_isOne x1 s0) (fun q1 s2 => if q1 = 0 then (cA (X12_bad (-2 : Int32) s2) (fun q3 s4 => some (q3, s4))) else (cA (X12_in x2.toInt64 (0 : Int64) (6 : Int64) s2) (fun q5 s6 => if q5 = 0 then (cA (X12_bad (-2 : Int32) s6) (fun q14 s15 => some (q14, s15))) else (cA (X12_layHand  s6) (fun q7 s8 => tsw' x2 [(0, aI s8 83 209 ((17 : Int32) + x1) (fun v9 => some (v9, s8))), (1, X12_of_L114 x1 x2 s8), (2, X12_of_L114 x1 x2 s8), (3, X12_of_L114 x1 x2 s8), (4, aI s8 87 6 x1 (fun v10 => some (v10, s8))), (5, aI s8 88 6 x1 (fun v11 => some (v11, s8))), (6, cA (X12_isBarred x1 s8) (fun q12 s13 => if q12 = 0 then (some ((0 : Int32), s13)) else (some ((1 : Int32), s13))))] (X12_of_L114 x1 x2 s8))))))
def X12_about (x1 : Int32) (x2 : Int32) (s0 : Sta) : Option (Int32 × Sta) := cA (X12_isYear x1 s0) (fun q1 s2 => if q1 = 0 then (cA (X12_bad (-10 : Int32) s2) (fun q3 s4 => some (q3, s4))) else (cA (X12_in x2.toInt64 (0 : Int64) (1 : Int64) s2) (fun q5 s6 => if q5 = 0 then (cA (X12_bad (-10 : Int32) s6) (fun q7 s8 => some (q7, s8))) else (if x2 = 0 then (aI s6 83 209 ((41 : Int32) + x1) (fun v10 => some (v10, s6))) else (aI s6 83 209 ((49 : Int32) + x1) (fun v9 => some (v9, s6)))))))
def X12_good (x1 : Int32) (x2 : Int32) (x3 : Int32) (s0 : Sta) : Option (Int32 × Sta) := cA (X12_isOne x1 s0) (fun q1 s2 => if q1 = 0 then (cA (X12_bad (-2 : Int32) s2) (fun q3 s4 => some (q3, s4))) else (cA (X12_isSort x2 s2) (fun q5 s6 => if q5 = 0 then (cA (X12_bad (-2 : Int32) s6) (fun q7 s8 => some (q7, s8))) else (cA (X12_isYear x3 s6) (fun q9 s10 => if q9 = 0 then (cA (X12_bad (-2 : Int32) s10) (fun q11 s12 => some (q11, s12))) else (cA (X12_goodOf x1 x2 x3 s10) (fun q13 s14 => some (q13, s14))))))))
def X12_enter_L28 : Nat → Int32 → Int32 → Int32 → Sta → Option (Int32 × Sta)
  | 0, _, _, _, _ => none
  | n + 1, y1, y2, y3, s0 => cA (X12_many  s0) (fun q9 s10 => if y3 < q9 then (cA (X12_enters y3 y1 s10) (fun q11 s12 => if q11 = 0 then (X12_enter_L28 n y1 (y2 ||| (0 : Int32)) (y3 + (1 : Int32)) s12) else (X12_enter_L28 n y1 (y2 ||| ((1 : Int32) <<< (y3 &&& 31))) (y3 + (1 : Int32)) s12))) else (some (y2, s10)))
def X12_enter (x1 : Int32) (s0 : Sta) : Option (Int32 × Sta) := cA (X12_isToCome x1 s0) (fun q1 s2 => if q1 = 0 then (cA (X12_bad (-2 : Int32) s2) (fun q7 s8 => some (q7, s8))) else (cA (X12_layHand  s2) (fun q3 s4 => cA (X12_goTill x1 s4) (fun q5 s6 => X12_enter_L28 FU x1 (0 : Int32) (0 : Int32) s6))))
def X12_winner (x1 : Int32) (x2 : Int32) (s0 : Sta) : Option (Int32 × Sta) := cA (X12_isToCome x1 s0) (fun q1 s2 => if q1 = 0 then (cA (X12_bad (-2 : Int32) s2) (fun q3 s4 => some (q3, s4))) else (cA (X12_in x2.toInt64 (0 : Int64) (1 : Int64) s2) (fun q5 s6 => if q5 = 0 then (cA (X12_bad (-2 : Int32) s6) (fun q15 s16 => some (q15, s16))) else (cA (X12_layHand  s6) (fun q7 s8 => cA (X12_goTill x1 s8) (fun q9 s10 => cA (X12_bestIn x1 (-1 : Int32) s10) (fun q11 s12 => if x2 = 0 then (some (q11, s12)) else (if q11 = (-1 : Int32) then (some (q11, s12)) else (cA (X12_bestIn x1 q11 s12) (fun q13 s14 => some (q13, s14)))))))))))
def X12_end (x1 : Int32) (x2 : Int32) (s0 : Sta) : Option (Int32 × Sta) := cA (X12_isOne x1 s0) (fun q1 s2 => if q1 = 0 then (cA (X12_bad (-2 : Int32) s2) (fun q3 s4 => some (q3, s4))) else (cA (X12_in x2.toInt64 (0 : Int64) (1 : Int64) s2) (fun q5 s6 => if q5 = 0 then (cA (X12_bad (-2 : Int32) s6) (fun q14 s15 => some (q14, s15))) else (cA (X12_layHand  s6) (fun q7 s8 => cA (X12_goTill (8 : Int32) s8) (fun q9 s10 => if x2 = 0 then (cA (X12_worthOf x1 s10) (fun q12 s13 => some (q12, s13))) else (aI s10 88 6 x1 (fun v11 => some (v11, s10)))))))))
def X12_left_L13 : Nat → Int32 → Int32 → Sta → Option (Int32 × Sta)
  | 0, _, _, _ => none
  | n + 1, y1, y2, s0 => if y2 < (8 : Int32) then (cA (X12_goYear y2 s0) (fun q4 s5 => if q4 = (-1 : Int32) then (aI s5 89 8 y2 (fun v6 => if v6 = (-1 : Int32) then (X12_left_L13 n (y1 ||| (0 : Int32)) (y2 + (1 : Int32)) s5) else (X12_left_L13 n (y1 ||| ((1 : Int32) <<< (y2 &&& 31))) (y2 + (1 : Int32)) s5))) else (X12_left_L13 n (y1 ||| (0 : Int32)) (y2 + (1 : Int32)) s5))) else (some (y1, s0))
def X12_left (s0 : Sta) : Option (Int32 × Sta) := cA (X12_layHand  s0) (fun q1 s2 => aI s2 83 209 (4 : Int32) (fun v3 => X12_left_L13 FU (0 : Int32) v3 s2))
def X12_winsBy (x1 : Int32) (x2 : Int32) (s0 : Sta) : Option (Int32 × Sta) := cA (X12_layHand  s0) (fun q1 s2 => cA (X12_worthOf x1 s2) (fun q3 s4 => sI s4 91 6 x1 x2 (fun s5 => cA (X12_goTill (8 : Int32) s5) (fun q6 s7 => cA (X12_worthOf x1 s7) (fun q8 s9 => some ((q8 - q3), s9))))))
def X12_best_L67 (k38 : Int32 → Int32 → Int32 → Int32 → Int32 → Sta → Option (Int32 × Sta)) (y1 : Int32) (y2 : Int32) (y4 : Int32) (y5 : Int32) (y6 : Int32) (z0 : Int32) (s0 : Sta) : Option (Int32 × Sta) := if y4 < y6 then (k38 y1 y2 z0 y6 (y5 + (1 : Int32)) s0) else (k38 y1 y2 z0 y4 (y5 + (1 : Int32)) s0)
def X12_best_L38 : Nat → Int32 → Int32 → Int32 → Int32 → Int32 → Sta → Option (Int32 × Sta)
  | 0, _, _, _, _, _, _ => none
  | n + 1, y1, y2, y3, y4, y5, s0 => if y5 < (8 : Int32) then (cA (X12_winsBy y1 y5 s0) (fun q10 s11 => if y4 < q10 then (X12_best_L67 (X12_best_L38 n) y1 y2 y4 y5 q10 y5 s11) else (X12_best_L67 (X12_best_L38 n) y1 y2 y4 y5 q10 y3 s11))) else (if y2 = 0 then (some (y3, s0)) else (if y3 = (-1 : Int32) then (some (y3, s0)) else (some (y4, s0))))
def X12_best (x1 : Int32) (x2 : Int32) (s0 : Sta) : Option (Int32 × Sta) := cA (X12_isOne x1 s0) (fun q1 s2 => if q1 = 0 then (cA (X12_bad (-2 : Int32) s2) (fun q3 s4 => some (q3, s4))) else (cA (X12_in x2.toInt64 (0 : Int64) (1 : Int64) s2) (fun q5 s6 => if q5 = 0 then (cA (X12_bad (-2 : Int32) s6) (fun q8 s9 => some (q8, s9))) else (aI s6 83 209 (4 : Int32) (fun v7 => X12_best_L38 FU x1 x2 (-1 : Int32) (0 : Int32) v7 s6)))))
def X12_rests_L10 : Nat → Int32 → Int32 → Int32 → Int32 → Sta → Option (Int32 × Sta)
  | 0, _, _, _, _, _ => none
  | n + 1, y1, y2, y3, y4, s0 => if y4 < (8 : Int32) then (if y3 = 0 then (X12_rests_L10 n y1 y2 (0 : Int32) (y4 + (1 : Int32)) s0) else (aI s0 92 64 (((8 : Int32) * y4) + y2) (fun v2 => aI s0 92 64 (((8 : Int32) * y1) + y2) (fun v3 => if v3 < v2 then (X12_rests_L10 n y1 y2 (0 : Int32) (y4 + (1 : Int32)) s0) else (aI s0 93 64 (((8 : Int32) * y1) + y4) (fun v4 => aI s0 93 64 (((8 : Int32) * y1) + y2) (fun v5 => if v5 < v4 then (X12_rests_L10 n y1 y2 (0 : Int32) (y4 + (1 : Int32)) s0) else (X12_rests_L10 n y1 y2 (1 : Int32) (y4 + (1 : Int32)) s0)))))))) else (rZ y3 s0)
def X12_rests (x1 : Int32) (x2 : Int32) (s0 : Sta) : Option (Int32 × Sta) := aI s0 83 209 (4 : Int32) (fun v1 => X12_rests_L10 FU x1 x2 (1 : Int32) v1 s0)
def X12_rivals_L211 (k196 : Int32 → Int32 → Int32 → Int32 → Sta → Option (Int32 × Sta)) : Nat → Int32 → Int32 → Int32 → Int32 → Int32 → Sta → Option (Int32 × Sta)
  | 0, _, _, _, _, _, _ => none
  | n + 1, y3, y4, y5, y6, y7, s0 => if y7 < (8 : Int32) then (cA (X12_rests y6 y7 s0) (fun q37 s38 => if q37 = 0 then (X12_rivals_L211 k196 n y3 y4 y5 y6 (y7 + (1 : Int32)) s38) else (if y4 = y3 then (X12_rivals_L211 k196 n y3 (y4 + (1 : Int32)) (((8 : Int32) * y6) + y7) y6 (y7 + (1 : Int32)) s38) else (X12_rivals_L211 k196 n y3 (y4 + (1 : Int32)) y5 y6 (y7 + (1 : Int32)) s38)))) else (k196 y3 y4 y5 (y6 + (1 : Int32)) s0)
def X12_rivals_L196 : Nat → Int32 → Int32 → Int32 → Int32 → Sta → Option (Int32 × Sta)
  | 0, _, _, _, _, _ => none
  | n + 1, y3, y4, y5, y6, s0 => if y6 < (8 : Int32) then (aI s0 83 209 (4 : Int32) (fun v36 => X12_rivals_L211 (X12_rivals_L196 n) FU y3 y4 y5 y6 v36 s0)) else (if y3 = (-1 : Int32) then (some (y4, s0)) else (some (y5, s0)))
def X12_rivals_L56 (k41 : Int32 → Int32 → Int32 → Int32 → Sta → Option (Int32 × Sta)) : Nat → Int32 → Int32 → Int32 → Int32 → Int32 → Sta → Option (Int32 × Sta)
  | 0, _, _, _, _, _, _ => none
  | n + 1, y1, y2, y3, y4, y5, s0 => if y5 < (8 : Int32) then (cA (X12_layHand  s0) (fun q16 s17 => cA (X12_worthOf y1 s17) (fun q18 s19 => sI s19 92 64 (((8 : Int32) * y4) + y5) (-q18) (fun s20 => cA (X12_worthOf y2 s20) (fun q21 s22 => sI s22 93 64 (((8 : Int32) * y4) + y5) (-q21) (fun s23 => sI s23 91 6 y1 y4 (fun s24 => sI s24 91 6 y2 y5 (fun s25 => cA (X12_goTill (8 : Int32) s25) (fun q26 s27 => aI s27 92 64 (((8 : Int32) * y4) + y5) (fun v28 => cA (X12_worthOf y1 s27) (fun q29 s30 => sI s30 92 64 (((8 : Int32) * y4) + y5) (v28 + q29) (fun s31 => aI s31 93 64 (((8 : Int32) * y4) + y5) (fun v32 => cA (X12_worthOf y2 s31) (fun q33 s34 => sI s34 93 64 (((8 : Int32) * y4) + y5) (v32 + q33) (fun s35 => X12_rivals_L56 k41 n y1 y2 y3 y4 (y5 + (1 : Int32)) s35))))))))))))))) else (k41 y1 y2 y3 (y4 + (1 : Int32)) s0)
def X12_rivals_L41 : Nat → Int32 → Int32 → Int32 → Int32 → Sta → Option (Int32 × Sta)
  | 0, _, _, _, _, _ => none
  | n + 1, y1, y2, y3, y4, s0 => if y4 < (8 : Int32) then (aI s0 83 209 (4 : Int32) (fun v15 => X12_rivals_L56 (X12_rivals_L41 n) FU y1 y2 y3 y4 v15 s0)) else (aI s0 83 209 (4 : Int32) (fun v14 => X12_rivals_L196 FU y3 (0 : Int32) (-5 : Int32) v14 s0))
def X12_rivals (x1 : Int32) (x2 : Int32) (x3 : Int32) (s0 : Sta) : Option (Int32 × Sta) := cA (X12_isOne x1 s0) (fun q1 s2 => if q1 = 0 then (cA (X12_bad (-10 : Int32) s2) (fun q3 s4 => some (q3, s4))) else (cA (X12_isOne x2 s2) (fun q5 s6 => if q5 = 0 then (cA (X12_bad (-10 : Int32) s6) (fun q7 s8 => some (q7, s8))) else (if x1 = x2 then (cA (X12_bad (-10 : Int32) s6) (fun q9 s10 => some (q9, s10))) else (if x3 < (-1 : Int32) then (cA (X12_bad (-10 : Int32) s6) (fun q12 s13 => some (q12, s13))) else (aI s6 83 209 (4 : Int32) (fun v11 => X12_rivals_L41 FU x1 x2 x3 v11 s6)))))))
def X12_handicap_L143 (k86 : Int32 → Int32 → Int32 → Int32 → Int32 → Sta → Option (Int32 × Sta)) (y1 : Int32) (y2 : Int32) (y3 : Int32) (y4 : Int32) (y5 : Int32) (y6 : Int32) (z0 : Int32) (s0 : Sta) : Option (Int32 × Sta) := if y6 < z0 then (k86 y1 y2 y3 (y4 + (z0 - y6)) (y5 + (1 : Int32)) s0) else (k86 y1 y2 y3 (y4 + (0 : Int32)) (y5 + (1 : Int32)) s0)
def X12_handicap_L108 (k86 : Int32 → Int32 → Int32 → Int32 → Int32 → Sta → Option (Int32 × Sta)) (y1 : Int32) (y2 : Int32) (y3 : Int32) (y4 : Int32) (y5 : Int32) (z0 : Int32) (s0 : Sta) : Option (Int32 × Sta) := if y5 = y1 then (X12_handicap_L143 k86 y1 y2 y3 y4 y5 z0 (0 : Int32) s0) else (cA (X12_enters y5 y2 s0) (fun q19 s20 => if q19 = 0 then (X12_handicap_L143 k86 y1 y2 y3 y4 y5 z0 (0 : Int32) s20) else (aI s20 89 8 y2 (fun v21 => cA (X12_goodOf y5 v21 y2 s20) (fun q22 s23 => X12_handicap_L143 k86 y1 y2 y3 y4 y5 z0 q22 s23)))))
def X12_handicap_L86 : Nat → Int32 → Int32 → Int32 → Int32 → Int32 → Sta → Option (Int32 × Sta)
  | 0, _, _, _, _, _, _ => none
  | n + 1, y1, y2, y3, y4, y5, s0 => cA (X12_many  s0) (fun q17 s18 => if y5 < q17 then (if y5 < y1 then (X12_handicap_L108 (X12_handicap_L86 n) y1 y2 y3 y4 y5 (y3 - (1 : Int32)) s18) else (X12_handicap_L108 (X12_handicap_L86 n) y1 y2 y3 y4 y5 y3 s18)) else (some (y4, s18)))
def X12_handicap (x1 : Int32) (s0 : Sta) : Option (Int32 × Sta) := cA (X12_isOne x1 s0) (fun q1 s2 => if q1 = 0 then (cA (X12_bad (-2 : Int32) s2) (fun q15 s16 => some (q15, s16))) else (aI s2 83 209 (4 : Int32) (fun v3 => cA (X12_layHand  s2) (fun q4 s5 => if v3 = (8 : Int32) then (some ((-1 : Int32), s5)) else (aI s5 89 8 v3 (fun v6 => if v6 = (-1 : Int32) then (some ((-1 : Int32), s5)) else (cA (X12_isBarred x1 s5) (fun q7 s8 => if q7 = 0 then (aI s8 89 8 v3 (fun v9 => cA (X12_goodOf x1 v9 v3 s8) (fun q10 s11 => if q10 = 0 then (some ((-1 : Int32), s11)) else (aI s11 89 8 v3 (fun v12 => cA (X12_goodOf x1 v12 v3 s11) (fun q13 s14 => X12_handicap_L86 FU x1 v3 q13 (0 : Int32) (0 : Int32) s14)))))) else (some ((-1 : Int32), s8))))))))))
def X12_order_L160 (k41 : Int32 → Int32 → Int32 → Int32 → Sta → Option (Int32 × Sta)) (k54 : Int32 → Int32 → Int32 → Int32 → Int32 → Sta → Option (Int32 × Sta)) (y1 : Int32) (y3 : Int32) (y4 : Int32) (y5 : Int32) (z0 : Int32) (s0 : Sta) : Option (Int32 × Sta) := cA (X12_worthOf y1 s0) (fun q26 s27 => if y3 < q26 then (cA (X12_worthOf y1 s27) (fun q28 s29 => k54 y1 z0 q28 y4 (y5 + (1 : Int32)) s29)) else (k54 y1 z0 y3 y4 (y5 + (1 : Int32)) s27))
def X12_order_L54 (k41 : Int32 → Int32 → Int32 → Int32 → Sta → Option (Int32 × Sta)) : Nat → Int32 → Int32 → Int32 → Int32 → Int32 → Sta → Option (Int32 × Sta)
  | 0, _, _, _, _, _, _ => none
  | n + 1, y1, y2, y3, y4, y5, s0 => if y5 < (8 : Int32) then (cA (X12_layHand  s0) (fun q12 s13 => aI s13 83 209 ((41 : Int32) + y5) (fun v14 => sI s13 89 8 y4 v14 (fun s15 => aI s15 83 209 ((49 : Int32) + y5) (fun v16 => sI s15 90 8 y4 v16 (fun s17 => aI s17 83 209 ((41 : Int32) + y4) (fun v18 => sI s17 89 8 y5 v18 (fun s19 => aI s19 83 209 ((49 : Int32) + y4) (fun v20 => sI s19 90 8 y5 v20 (fun s21 => cA (X12_goTill (8 : Int32) s21) (fun q22 s23 => cA (X12_worthOf y1 s23) (fun q24 s25 => if y3 < q24 then (X12_order_L160 k41 (X12_order_L54 k41 n) y1 y3 y4 y5 (((10 : Int32) * y4) + y5) s25) else (X12_order_L160 k41 (X12_order_L54 k41 n) y1 y3 y4 y5 y2 s25))))))))))))) else (k41 y1 y2 y3 (y4 + (1 : Int32)) s0)
def X12_order_L41 : Nat → Int32 → Int32 → Int32 → Int32 → Sta → Option (Int32 × Sta)
  | 0, _, _, _, _, _ => none
  | n + 1, y1, y2, y3, y4, s0 => if y4 < (8 : Int32) then (X12_order_L54 (X12_order_L41 n) FU y1 y2 y3 y4 (y4 + (1 : Int32)) s0) else (some (y2, s0))
def X12_order (x1 : Int32) (s0 : Sta) : Option (Int32 × Sta) := cA (X12_isOne x1 s0) (fun q1 s2 => if q1 = 0 then (cA (X12_bad (-2 : Int32) s2) (fun q10 s11 => some (q10, s11))) else (cA (X12_layHand  s2) (fun q3 s4 => cA (X12_goTill (8 : Int32) s4) (fun q5 s6 => cA (X12_worthOf x1 s6) (fun q7 s8 => aI s8 83 209 (4 : Int32) (fun v9 => X12_order_L41 FU x1 (-1 : Int32) q7 v9 s8))))))
def X12_note (x1 : Int32) (x2 : Int32) (x3 : Int32) (x4 : Int32) (s0 : Sta) : Option (Int32 × Sta) := cA (X12_isOne x1 s0) (fun q1 s2 => if q1 = 0 then (cA (X12_bad (-2 : Int32) s2) (fun q3 s4 => some (q3, s4))) else (cA (X12_in x2.toInt64 (1 : Int64) (30 : Int64) s2) (fun q5 s6 => if q5 = 0 then (cA (X12_bad (-2 : Int32) s6) (fun q7 s8 => some (q7, s8))) else (cA (X12_in x3.toInt64 (0 : Int64) (7 : Int64) s6) (fun q9 s10 => if q9 = 0 then (cA (X12_bad (-2 : Int32) s10) (fun q11 s12 => some (q11, s12))) else (cA (X12_in x4.toInt64 (0 : Int64) (1 : Int64) s10) (fun q13 s14 => if q13 = 0 then (cA (X12_bad (-2 : Int32) s14) (fun q26 s27 => some (q26, s27))) else (aI s14 83 209 (1 : Int32) (fun v15 => if v15 = (6 : Int32) then (cA (X12_full  s14) (fun q24 s25 => some (q24, s25))) else (aI s14 83 209 (1 : Int32) (fun v16 => sI s14 83 209 ((57 : Int32) + ((4 : Int32) * v16)) x1 (fun s17 => sI s17 83 209 (((57 : Int32) + ((4 : Int32) * v16)) + (1 : Int32)) x2 (fun s18 => sI s18 83 209 (((57 : Int32) + ((4 : Int32) * v16)) + (2 : Int32)) x3 (fun s19 => sI s19 83 209 (((57 : Int32) + ((4 : Int32) * v16)) + (3 : Int32)) x4 (fun s20 => aI s20 83 209 (1 : Int32) (fun v21 => sI s20 83 209 (1 : Int32) (v21 + (1 : Int32)) (fun s22 => aI s22 83 209 (1 : Int32) (fun v23 => some (v23, s22)))))))))))))))))))
def X12_beaten (x1 : Int32) (x2 : Int32) (x3 : Int32) (x4 : Int32) (s0 : Sta) : Option (Int32 × Sta) := cA (X12_isOne x1 s0) (fun q1 s2 => if q1 = 0 then (cA (X12_bad (-2 : Int32) s2) (fun q3 s4 => some (q3, s4))) else (cA (X12_isOne x2 s2) (fun q5 s6 => if q5 = 0 then (cA (X12_bad (-2 : Int32) s6) (fun q7 s8 => some (q7, s8))) else (if x1 = x2 then (cA (X12_bad (-2 : Int32) s6) (fun q9 s10 => some (q9, s10))) else (cA (X12_isSort x3 s6) (fun q11 s12 => if q11 = 0 then (cA (X12_bad (-2 : Int32) s12) (fun q13 s14 => some (q13, s14))) else (cA (X12_isYear x4 s12) (fun q15 s16 => if q15 = 0 then (cA (X12_bad (-2 : Int32) s16) (fun q28 s29 => some (q28, s29))) else (aI s16 83 209 (2 : Int32) (fun v17 => if v17 = (6 : Int32) then (cA (X12_full  s16) (fun q26 s27 => some (q26, s27))) else (aI s16 83 209 (2 : Int32) (fun v18 => sI s16 83 209 ((81 : Int32) + ((4 : Int32) * v18)) x1 (fun s19 => sI s19 83 209 (((81 : Int32) + ((4 : Int32) * v18)) + (1 : Int32)) x2 (fun s20 => sI s20 83 209 (((81 : Int32) + ((4 : Int32) * v18)) + (2 : Int32)) x3 (fun s21 => sI s21 83 209 (((81 : Int32) + ((4 : Int32) * v18)) + (3 : Int32)) x4 (fun s22 => aI s22 83 209 (2 : Int32) (fun v23 => sI s22 83 209 (2 : Int32) (v23 + (1 : Int32)) (fun s24 => aI s24 83 209 (2 : Int32) (fun v25 => some (v25, s24))))))))))))))))))))
def X12_forget (x1 : Int32) (s0 : Sta) : Option (Int32 × Sta) := cA (X12_in x1.toInt64 (0 : Int64) (1 : Int64) s0) (fun q1 s2 => if q1 = 0 then (cA (X12_bad (-2 : Int32) s2) (fun q5 s6 => some (q5, s6))) else (aI s2 83 209 ((1 : Int32) + x1) (fun v3 => sI s2 83 209 ((1 : Int32) + x1) (0 : Int32) (fun s4 => some (v3, s4)))))
def X12_kindsOf_L92 (k4 : Int32 → Int32 → Int32 → Sta → Option (Int32 × Sta)) (k16 : Int32 → Int32 → Int32 → Int32 → Int32 → Sta → Option (Int32 × Sta)) (y1 : Int32) (y2 : Int32) (y3 : Int32) (y5 : Int32) (z0 : Int32) (z1 : Int32) (s0 : Sta) : Option (Int32 × Sta) := if z1 = z0 then (k16 y1 y2 y3 (1 : Int32) (y5 + (1 : Int32)) s0) else (k16 y1 y2 y3 (0 : Int32) (y5 + (1 : Int32)) s0)
def X12_kindsOf_L16 (k4 : Int32 → Int32 → Int32 → Sta → Option (Int32 × Sta)) : Nat → Int32 → Int32 → Int32 → Int32 → Int32 → Sta → Option (Int32 × Sta)
  | 0, _, _, _, _, _, _ => none
  | n + 1, y1, y2, y3, y4, y5, s0 => aI s0 83 209 (1 : Int32) (fun v1 => if y5 < v1 then (if y4 = 0 then (X12_kindsOf_L16 k4 n y1 y2 y3 (0 : Int32) (y5 + (1 : Int32)) s0) else (aI s0 83 209 ((57 : Int32) + ((4 : Int32) * y5)) (fun v2 => if v2 = y1 then (aI s0 83 209 (((57 : Int32) + ((4 : Int32) * y5)) + (1 : Int32)) (fun v3 => aI s0 83 209 (((57 : Int32) + ((4 : Int32) * y5)) + (2 : Int32)) (fun v4 => cA (X12_triesAs y3 v3 v4 s0) (fun q5 s6 => aI s6 83 209 (((57 : Int32) + ((4 : Int32) * y5)) + (3 : Int32)) (fun v7 => if v7 = (1 : Int32) then (X12_kindsOf_L92 k4 (X12_kindsOf_L16 k4 n) y1 y2 y3 y5 (1 : Int32) q5 s6) else (X12_kindsOf_L92 k4 (X12_kindsOf_L16 k4 n) y1 y2 y3 y5 (0 : Int32) q5 s6)))))) else (X12_kindsOf_L16 k4 n y1 y2 y3 (1 : Int32) (y5 + (1 : Int32)) s0)))) else (if y4 = 0 then (k4 y1 (y2 ||| (0 : Int32)) (y3 + (1 : Int32)) s0) else (k4 y1 (y2 ||| ((1 : Int32) <<< (y3 &&& 31))) (y3 + (1 : Int32)) s0)))
def X12_kindsOf_L4 : Nat → Int32 → Int32 → Int32 → Sta → Option (Int32 × Sta)
  | 0, _, _, _, _ => none
  | n + 1, y1, y2, y3, s0 => if y3 < (6 : Int32) then (X12_kindsOf_L16 (X12_kindsOf_L4 n) FU y1 y2 y3 (1 : Int32) (0 : Int32) s0) else (some (y2, s0))
def X12_kindsOf (x1 : Int32) (s0 : Sta) : Option (Int32 × Sta) := X12_kindsOf_L4 FU x1 (0 : Int32) (0 : Int32) s0
def X12_is (x1 : Int32) (s0 : Sta) : Option (Int32 × Sta) := cA (X12_isOne x1 s0) (fun q1 s2 => if q1 = 0 then (cA (X12_bad (-2 : Int32) s2) (fun q3 s4 => some (q3, s4))) else (cA (X12_kindsOf x1 s2) (fun q5 s6 => some (q5, s6))))
def X12_offer_L155 (k56 : Int32 → Int32 → Int32 → Int32 → Int32 → Sta → Option (Int32 × Sta)) (y2 : Int32) (y3 : Int32) (y5 : Int32) (y6 : Int32) (y8 : Int32) (z0 : Int32) (s0 : Sta) : Option (Int32 × Sta) := if y8 < y5 then (k56 y2 y3 z0 y8 (y6 + (1 : Int32)) s0) else (k56 y2 y3 z0 y5 (y6 + (1 : Int32)) s0)
def X12_offer_L139 (k56 : Int32 → Int32 → Int32 → Int32 → Int32 → Sta → Option (Int32 × Sta)) (y2 : Int32) (y3 : Int32) (y4 : Int32) (y5 : Int32) (y6 : Int32) (z0 : Int32) (s0 : Sta) : Option (Int32 × Sta) := if z0 < y5 then (X12_offer_L155 k56 y2 y3 y5 y6 z0 y6 s0) else (X12_offer_L155 k56 y2 y3 y5 y6 z0 y4 s0)
def X12_offer_L73 (k56 : Int32 → Int32 → Int32 → Int32 → Int32 → Sta → Option (Int32 × Sta)) : Nat → Int32 → Int32 → Int32 → Int32 → Int32 → Int32 → Int32 → Sta → Option (Int32 × Sta)
  | 0, _, _, _, _, _, _, _, _ => none
  | n + 1, y2, y3, y4, y5, y6, y7, y8, s0 => if y8 < (6 : Int32) then (cA (X12_has y2 y8 s0) (fun q13 s14 => if q13 = 0 then (X12_offer_L73 k56 n y2 y3 y4 y5 y6 (y7 + (0 : Int32)) (y8 + (1 : Int32)) s14) else (cA (X12_triesAs y8 y6 y3 s14) (fun q15 s16 => if q15 = 0 then (X12_offer_L73 k56 n y2 y3 y4 y5 y6 (y7 + (0 : Int32)) (y8 + (1 : Int32)) s16) else (X12_offer_L73 k56 n y2 y3 y4 y5 y6 (y7 + (1 : Int32)) (y8 + (1 : Int32)) s16))))) else (cA (X12_bits y2 s0) (fun q9 s10 => if q9 < ((2 : Int32) * y7) then (X12_offer_L139 k56 y2 y3 y4 y5 y6 y7 s10) else (cA (X12_bits y2 s10) (fun q11 s12 => X12_offer_L139 k56 y2 y3 y4 y5 y6 (q11 - y7) s12))))
def X12_offer_L56 : Nat → Int32 → Int32 → Int32 → Int32 → Int32 → Sta → Option (Int32 × Sta)
  | 0, _, _, _, _, _, _ => none
  | n + 1, y2, y3, y4, y5, y6, s0 => if (30 : Int32) < y6 then (some (y4, s0)) else (if 0 < y2 then (X12_offer_L73 (X12_offer_L56 n) FU y2 y3 y4 y5 y6 (0 : Int32) (0 : Int32) s0) else (some (y4, s0)))
def X12_offer_L45 (y2 : Int32) (z0 : Int32) (s0 : Sta) : Option (Int32 × Sta) := X12_offer_L56 FU y2 z0 (-1 : Int32) (1000000 : Int32) (1 : Int32) s0
def X12_offer (x1 : Int32) (s0 : Sta) : Option (Int32 × Sta) := cA (X12_isOne x1 s0) (fun q1 s2 => if q1 = 0 then (cA (X12_bad (-2 : Int32) s2) (fun q7 s8 => some (q7, s8))) else (cA (X12_kindsOf x1 s2) (fun q3 s4 => aI s4 83 209 (4 : Int32) (fun v5 => if v5 = (8 : Int32) then (X12_offer_L45 q3 (0 : Int32) s4) else (aI s4 83 209 (4 : Int32) (fun v6 => X12_offer_L45 q3 ((7 : Int32) - v6) s4))))))
def X12_goodThen (x1 : Int32) (x2 : Int32) (x3 : Int32) (x4 : Int32) (s0 : Sta) : Option (Int32 × Sta) := aI s0 83 209 (((81 : Int32) + ((4 : Int32) * x1)) + (2 : Int32)) (fun v1 => aI s0 83 209 (((81 : Int32) + ((4 : Int32) * x1)) + (3 : Int32)) (fun v2 => if x2 = x3 then (aI s0 83 209 ((17 : Int32) + x2) (fun v5 => cA (X12_goodAs v5 x4 v2 s0) (fun q6 s7 => some (q6, s7)))) else (cA (X12_goodOf x2 v1 v2 s0) (fun q3 s4 => some (q3, s4)))))
def X12_isBeaten (x1 : Int32) (x2 : Int32) (x3 : Int32) (s0 : Sta) : Option (Int32 × Sta) := aI s0 83 209 ((81 : Int32) + ((4 : Int32) * x1)) (fun v1 => cA (X12_goodThen x1 v1 x2 x3 s0) (fun q2 s3 => aI s3 83 209 (((81 : Int32) + ((4 : Int32) * x1)) + (1 : Int32)) (fun v4 => cA (X12_goodThen x1 v4 x2 x3 s3) (fun q5 s6 => if q5 < q2 then (rZ (1 : Int32) s6) else (rZ (0 : Int32) s6)))))
def X12_may_L90 (k27 : Int32 → Int32 → Int32 → Int32 → Sta → Option (Int32 × Sta)) (k40 : Int32 → Int32 → Int32 → Int32 → Int32 → Int32 → Sta → Option (Int32 × Sta)) (y1 : Int32) (y2 : Int32) (y3 : Int32) (y4 : Int32) (y5 : Int32) (y6 : Int32) (z0 : Int32) (s0 : Sta) : Option (Int32 × Sta) := if y5 = 0 then (k40 y1 y2 y3 y4 (0 : Int32) (y6 + (1 : Int32)) s0) else (if z0 = 0 then (k40 y1 y2 y3 y4 (1 : Int32) (y6 + (1 : Int32)) s0) else (aI s0 83 209 (((81 : Int32) + ((4 : Int32) * y6)) + (2 : Int32)) (fun v12 => if v12 = y2 then (cA (X12_isBeaten y6 y1 y4 s0) (fun q13 s14 => if q13 = 0 then (k40 y1 y2 y3 y4 (0 : Int32) (y6 + (1 : Int32)) s14) else (k40 y1 y2 y3 y4 (1 : Int32) (y6 + (1 : Int32)) s14))) else (k40 y1 y2 y3 y4 (1 : Int32) (y6 + (1 : Int32)) s0))))
def X12_may_L40 (k27 : Int32 → Int32 → Int32 → Int32 → Sta → Option (Int32 × Sta)) : Nat → Int32 → Int32 → Int32 → Int32 → Int32 → Int32 → Sta → Option (Int32 × Sta)
  | 0, _, _, _, _, _, _, _ => none
  | n + 1, y1, y2, y3, y4, y5, y6, s0 => aI s0 83 209 (2 : Int32) (fun v9 => if y6 < v9 then (aI s0 83 209 ((81 : Int32) + ((4 : Int32) * y6)) (fun v10 => if v10 = y1 then (X12_may_L90 k27 (X12_may_L40 k27 n) y1 y2 y3 y4 y5 y6 (1 : Int32) s0) else (aI s0 83 209 (((81 : Int32) + ((4 : Int32) * y6)) + (1 : Int32)) (fun v11 => if v11 = y1 then (X12_may_L90 k27 (X12_may_L40 k27 n) y1 y2 y3 y4 y5 y6 (1 : Int32) s0) else (X12_may_L90 k27 (X12_may_L40 k27 n) y1 y2 y3 y4 y5 y6 (0 : Int32) s0))))) else (if y5 = 0 then (k27 y1 y2 (y3 ||| (0 : Int32)) (y4 + (1 : Int32)) s0) else (k27 y1 y2 (y3 ||| ((1 : Int32) <<< (y4 &&& 31))) (y4 + (1 : Int32)) s0)))
def X12_may_L27 : Nat → Int32 → Int32 → Int32 → Int32 → Sta → Option (Int32 × Sta)
  | 0, _, _, _, _, _ => none
  | n + 1, y1, y2, y3, y4, s0 => if y4 < (10 : Int32) then (X12_may_L40 (X12_may_L27 n) FU y1 y2 y3 y4 (1 : Int32) (0 : Int32) s0) else (some (y3, s0))
def X12_may (x1 : Int32) (x2 : Int32) (s0 : Sta) : Option (Int32 × Sta) := cA (X12_isOne x1 s0) (fun q1 s2 => if q1 = 0 then (cA (X12_bad (-2 : Int32) s2) (fun q3 s4 => some (q3, s4))) else (cA (X12_isSort x2 s2) (fun q5 s6 => if q5 = 0 then (cA (X12_bad (-2 : Int32) s6) (fun q7 s8 => some (q7, s8))) else (X12_may_L27 FU x1 x2 (0 : Int32) (0 : Int32) s6))))
def X12_clash_L4 : Nat → Int32 → Int32 → Sta → Option (Int32 × Sta)
  | 0, _, _, _ => none
  | n + 1, y1, y2, s0 => aI s0 83 209 (2 : Int32) (fun v1 => if y2 < v1 then (cA (X12_isBeaten y2 (-1 : Int32) (0 : Int32) s0) (fun q2 s3 => if q2 = 0 then (X12_clash_L4 n (y1 + (1 : Int32)) (y2 + (1 : Int32)) s3) else (X12_clash_L4 n (y1 + (0 : Int32)) (y2 + (1 : Int32)) s3))) else (some (y1, s0)))
def X12_clash (s0 : Sta) : Option (Int32 × Sta) := X12_clash_L4 FU (0 : Int32) (0 : Int32) s0
def X12_fraction_L6 : Nat → Int64 → Int64 → Int64 → Int64 → Sta → Option (Unit × Sta)
  | 0, _, _, _, _, _ => none
  | n + 1, y1, y3, y5, y7, s0 => if (lg_cmp y7 (0 : Int64)) = 0 then (dvL y5 (pL s0 82 4 (y1 / y5) (fun s1 => dvL y5 (pL s1 82 5 (y3 / y5) (fun s2 => some ((), s2)))))) else (dvL y7 (X12_fraction_L6 n y1 y3 y7 (y5 - y5 / y7 * y7) s0))
def X12_fraction (x1 : Int64) (x2 : Int64) (s0 : Sta) : Option (Unit × Sta) := X12_fraction_L6 FU x1 x2 x1 x2 s0
def X12_odds_L37 : Nat → Int32 → Int32 → Int32 → Int32 → Sta → Option (Int32 × Sta)
  | 0, _, _, _, _, _ => none
  | n + 1, y1, y2, y3, y4, s0 => cA (X12_many  s0) (fun q13 s14 => if y4 < q13 then (cA (X12_enters y4 y2 s14) (fun q24 s25 => if q24 = 0 then (X12_odds_L37 n y1 y2 (y3 + (0 : Int32)) (y4 + (1 : Int32)) s25) else (aI s25 89 8 y2 (fun v26 => cA (X12_goodOf y4 v26 y2 s25) (fun q27 s28 => X12_odds_L37 n y1 y2 (y3 + q27) (y4 + (1 : Int32)) s28))))) else (cA (X12_enters y1 y2 s14) (fun q15 s16 => if q15 = 0 then (cA (X12_fraction (0 : Int64) (1 : Int64) s16) (fun q17 s18 => some ((1 : Int32), s18))) else (aI s16 89 8 y2 (fun v19 => cA (X12_goodOf y1 v19 y2 s16) (fun q20 s21 => cA (X12_fraction q20.toInt64 y3.toInt64 s21) (fun q22 s23 => some ((1 : Int32), s23))))))))
def X12_odds (x1 : Int32) (x2 : Int32) (s0 : Sta) : Option (Int32 × Sta) := cA (X12_isOne x1 s0) (fun q1 s2 => if q1 = 0 then (cA (X12_bad (-2 : Int32) s2) (fun q3 s4 => some (q3, s4))) else (cA (X12_isToCome x2 s2) (fun q5 s6 => if q5 = 0 then (cA (X12_bad (-2 : Int32) s6) (fun q11 s12 => some (q11, s12))) else (cA (X12_layHand  s6) (fun q7 s8 => cA (X12_goTill x2 s8) (fun q9 s10 => X12_odds_L37 FU x1 x2 (0 : Int32) (0 : Int32) s10))))))
def X12_valleys_L129 (k40 : Int32 → Int64 → Int32 → Int32 → Sta → Option (Int32 × Sta)) : Nat → Int32 → Int64 → Int32 → Int32 → Int32 → Sta → Option (Int32 × Sta)
  | 0, _, _, _, _, _, _ => none
  | n + 1, y2, y3, y5, y6, y7, s0 => if y7 < (8 : Int32) then (cA (X12_goYear y7 s0) (fun q15 s16 => if q15 = (-1 : Int32) then (X12_valleys_L129 k40 n y2 y3 (y5 + (0 : Int32)) y6 (y7 + (1 : Int32)) s16) else (aI s16 90 8 y7 (fun v17 => X12_valleys_L129 k40 n y2 y3 (y5 + v17) y6 (y7 + (1 : Int32)) s16)))) else (k40 y2 y3 y5 (y6 + (1 : Int32)) s0)
def X12_valleys_L58 (k40 : Int32 → Int64 → Int32 → Int32 → Sta → Option (Int32 × Sta)) : Nat → Int32 → Int64 → Int32 → Int32 → Int32 → Sta → Option (Int32 × Sta)
  | 0, _, _, _, _, _, _ => none
  | n + 1, y2, y3, y5, y6, y7, s0 => if y7 < (8 : Int32) then (sI s0 89 8 y7 ((((((y3 * (1103515245 : Int64)) + (12345 : Int64)) - ((y3 * (1103515245 : Int64)) + (12345 : Int64)) / (2147483648 : Int64) * (2147483648 : Int64)) / (65536 : Int64)) - ((((y3 * (1103515245 : Int64)) + (12345 : Int64)) - ((y3 * (1103515245 : Int64)) + (12345 : Int64)) / (2147483648 : Int64) * (2147483648 : Int64)) / (65536 : Int64)) / (3 : Int64) * (3 : Int64)).toInt32) (fun s13 => sI s13 90 8 y7 ((((((y3 * (1103515245 : Int64)) + (12345 : Int64)) - ((y3 * (1103515245 : Int64)) + (12345 : Int64)) / (2147483648 : Int64) * (2147483648 : Int64)) / (1048576 : Int64)) - ((((y3 * (1103515245 : Int64)) + (12345 : Int64)) - ((y3 * (1103515245 : Int64)) + (12345 : Int64)) / (2147483648 : Int64) * (2147483648 : Int64)) / (1048576 : Int64)) / (30 : Int64) * (30 : Int64)).toInt32 + (1 : Int32)) (fun s14 => X12_valleys_L58 k40 n y2 (((y3 * (1103515245 : Int64)) + (12345 : Int64)) - ((y3 * (1103515245 : Int64)) + (12345 : Int64)) / (2147483648 : Int64) * (2147483648 : Int64)) y5 y6 (y7 + (1 : Int32)) s14))) else (aI s0 83 209 (4 : Int32) (fun v12 => X12_valleys_L129 k40 FU y2 y3 y5 y6 v12 s0))
def X12_valleys_L40 : Nat → Int32 → Int64 → Int32 → Int32 → Sta → Option (Int32 × Sta)
  | 0, _, _, _, _, _ => none
  | n + 1, y2, y3, y5, y6, s0 => if y6 < y2 then (cA (X12_layHand  s0) (fun q9 s10 => aI s10 83 209 (4 : Int32) (fun v11 => X12_valleys_L58 (X12_valleys_L40 n) FU y2 y3 y5 y6 v11 s10))) else (some (y5, s0))
def X12_valleys (x1 : Int32) (x2 : Int32) (s0 : Sta) : Option (Int32 × Sta) := cA (X12_in x1.toInt64 (0 : Int64) (999999 : Int64) s0) (fun q1 s2 => if q1 = 0 then (cA (X12_bad (-2 : Int32) s2) (fun q3 s4 => some (q3, s4))) else (cA (X12_in x2.toInt64 (0 : Int64) (60 : Int64) s2) (fun q5 s6 => if q5 = 0 then (cA (X12_bad (-2 : Int32) s6) (fun q7 s8 => some (q7, s8))) else (X12_valleys_L40 FU x2 x1.toInt64 (0 : Int32) (0 : Int32) s6))))
def X12_type (x1 : Int32) (s0 : Sta) : Option (Int32 × Sta) := cA (X12_in x1.toInt64 (0 : Int64) (127 : Int64) s0) (fun q1 s2 => if q1 = 0 then (cA (X12_bad (-2 : Int32) s2) (fun q11 s12 => some (q11, s12))) else (fI s2 82 14 (fun v3 => if v3 = (150 : Int32) then (cA (X12_full  s2) (fun q9 s10 => some (q9, s10))) else (fI s2 82 14 (fun v4 => sI s2 94 150 v4 x1 (fun s5 => fI s5 82 14 (fun v6 => pI s5 82 14 (v6 + (1 : Int32)) (fun s7 => fI s7 82 14 (fun v8 => some (v8, s7))))))))))
def X12_clear (s0 : Sta) : Option (Int32 × Sta) := fI s0 82 14 (fun v1 => pI s0 82 14 (0 : Int32) (fun s2 => some (v1, s2)))
def X12_isSmall (x1 : Int32) (s0 : Sta) : Option (Int32 × Sta) := cA (X12_in x1.toInt64 (97 : Int64) (122 : Int64) s0) (fun q1 s2 => rZ q1 s2)
def X12_isFigure (x1 : Int32) (s0 : Sta) : Option (Int32 × Sta) := cA (X12_in x1.toInt64 (48 : Int64) (57 : Int64) s0) (fun q1 s2 => rZ q1 s2)
def X12_lookAt_L274 (s0 : Sta) : Option (Unit × Sta) := fI s0 82 17 (fun v42 => if v42 = (2 : Int32) then (fI s0 82 16 (fun v45 => if (2 : Int32) < v45 then (pI s0 82 17 (4 : Int32) (fun s48 => some ((), s48))) else (fI s0 82 17 (fun v46 => pI s0 82 17 v46 (fun s47 => some ((), s47)))))) else (fI s0 82 17 (fun v43 => pI s0 82 17 v43 (fun s44 => some ((), s44)))))
def X12_lookAt_L218 : Nat → Int32 → Sta → Option (Unit × Sta)
  | 0, _, _ => none
  | n + 1, y4, s0 => fI s0 82 16 (fun v36 => if y4 < v36 then (if y4 < (2 : Int32) then (fI s0 82 17 (fun v37 => if v37 = (2 : Int32) then (fI s0 82 18 (fun v38 => fI s0 82 15 (fun v39 => aI s0 94 150 (v39 + y4) (fun v40 => pI s0 82 18 ((((10 : Int32) * v38) + v40) - (48 : Int32)) (fun s41 => X12_lookAt_L218 n (y4 + (1 : Int32)) s41))))) else (X12_lookAt_L274 s0))) else (X12_lookAt_L274 s0)) else (X12_lookAt_L274 s0))
def X12_lookAt_L193 (k136 : Int32 → Sta → Option (Unit × Sta)) (z0 : Int32) (s0 : Sta) : Option (Unit × Sta) := fI s0 82 16 (fun v33 => if z0 = 0 then (pI s0 82 16 (v33 + (0 : Int32)) (fun s34 => k136 z0 s34)) else (pI s0 82 16 (v33 + (1 : Int32)) (fun s35 => k136 z0 s35)))
def X12_lookAt_L136 : Nat → Int32 → Sta → Option (Unit × Sta)
  | 0, _, _ => none
  | n + 1, y3, s0 => if y3 = 0 then (X12_lookAt_L218 FU (0 : Int32) s0) else (fI s0 82 15 (fun v22 => fI s0 82 16 (fun v23 => fI s0 82 14 (fun v24 => if (v22 + v23) < v24 then (fI s0 82 15 (fun v25 => fI s0 82 16 (fun v26 => aI s0 94 150 (v25 + v26) (fun v27 => fI s0 82 17 (fun v28 => if v28 = (1 : Int32) then (cA (X12_isSmall v27 s0) (fun q31 s32 => X12_lookAt_L193 (X12_lookAt_L136 n) q31 s32)) else (cA (X12_isFigure v27 s0) (fun q29 s30 => X12_lookAt_L193 (X12_lookAt_L136 n) q29 s30))))))) else (X12_lookAt_L218 FU (0 : Int32) s0)))))
def X12_lookAt_L114 (z0 : Int32) (s0 : Sta) : Option (Unit × Sta) := pI s0 82 17 z0 (fun s19 => pI s19 82 16 (1 : Int32) (fun s20 => fI s20 82 17 (fun v21 => if v21 < (3 : Int32) then (X12_lookAt_L136 FU (1 : Int32) s20) else (X12_lookAt_L136 FU (0 : Int32) s20))))
def X12_lookAt_L43 (s0 : Sta) : Option (Unit × Sta) := pI s0 82 16 (0 : Int32) (fun s8 => pI s8 82 17 (0 : Int32) (fun s9 => pI s9 82 18 (0 : Int32) (fun s10 => fI s10 82 15 (fun v11 => fI s10 82 14 (fun v12 => if v11 = v12 then (some ((), s10)) else (fI s10 82 15 (fun v13 => aI s10 94 150 v13 (fun v14 => cA (X12_isSmall v14 s10) (fun q15 s16 => if q15 = 0 then (cA (X12_isFigure v14 s16) (fun q17 s18 => if q17 = 0 then (if v14 = (59 : Int32) then (X12_lookAt_L114 (3 : Int32) s18) else (X12_lookAt_L114 (4 : Int32) s18)) else (X12_lookAt_L114 (2 : Int32) s18))) else (X12_lookAt_L114 (1 : Int32) s16))))))))))
def X12_lookAt_L5 : Nat → Sta → Option (Unit × Sta)
  | 0, _ => none
  | n + 1, s0 => fI s0 82 15 (fun v2 => fI s0 82 14 (fun v3 => if v2 < v3 then (fI s0 82 15 (fun v4 => aI s0 94 150 v4 (fun v5 => if v5 = (32 : Int32) then (fI s0 82 15 (fun v6 => pI s0 82 15 (v6 + (1 : Int32)) (fun s7 => X12_lookAt_L5 n s7))) else (X12_lookAt_L43 s0)))) else (X12_lookAt_L43 s0)))
def X12_lookAt (x1 : Int32) (s0 : Sta) : Option (Unit × Sta) := pI s0 82 15 x1 (fun s1 => X12_lookAt_L5 FU s1)
def X12_goBehind (s0 : Sta) : Option (Unit × Sta) := fI s0 82 15 (fun v1 => fI s0 82 16 (fun v2 => cA (X12_lookAt (v1 + v2) s0) (fun q3 s4 => some ((), s4))))
def X12_spells_L103 (k26 : Int32 → Int32 → Int32 → Int32 → Int32 → Int32 → Int32 → Int32 → Int32 → Sta → Option (Int32 × Sta)) (y1 : Int32) (y2 : Int32) (y3 : Int32) (y4 : Int32) (y5 : Int32) (y6 : Int32) (y7 : Int32) (y9 : Int32) (z0 : Int32) (z1 : Int32) (s0 : Sta) : Option (Int32 × Sta) := if z1 = z0 then (k26 y1 y2 y3 y4 y5 y6 y7 (1 : Int32) (y9 + (1 : Int32)) s0) else (k26 y1 y2 y3 y4 y5 y6 y7 (0 : Int32) (y9 + (1 : Int32)) s0)
def X12_spells_L26 : Nat → Int32 → Int32 → Int32 → Int32 → Int32 → Int32 → Int32 → Int32 → Int32 → Sta → Option (Int32 × Sta)
  | 0, _, _, _, _, _, _, _, _, _, _ => none
  | n + 1, y1, y2, y3, y4, y5, y6, y7, y8, y9, s0 => if y9 < y1 then (if y8 = 0 then (rZ y8 s0) else (fI s0 82 15 (fun v3 => aI s0 94 150 (v3 + y9) (fun v4 => if y9 = 0 then (X12_spells_L103 (X12_spells_L26 n) y1 y2 y3 y4 y5 y6 y7 y9 y2 v4 s0) else (if y9 = (1 : Int32) then (X12_spells_L103 (X12_spells_L26 n) y1 y2 y3 y4 y5 y6 y7 y9 y3 v4 s0) else (if y9 = (2 : Int32) then (X12_spells_L103 (X12_spells_L26 n) y1 y2 y3 y4 y5 y6 y7 y9 y4 v4 s0) else (if y9 = (3 : Int32) then (X12_spells_L103 (X12_spells_L26 n) y1 y2 y3 y4 y5 y6 y7 y9 y5 v4 s0) else (if y9 = (4 : Int32) then (X12_spells_L103 (X12_spells_L26 n) y1 y2 y3 y4 y5 y6 y7 y9 y6 v4 s0) else (X12_spells_L103 (X12_spells_L26 n) y1 y2 y3 y4 y5 y6 y7 y9 y7 v4 s0))))))))) else (rZ y8 s0)
def X12_spells (x1 : Int32) (x2 : Int32) (x3 : Int32) (x4 : Int32) (x5 : Int32) (x6 : Int32) (x7 : Int32) (s0 : Sta) : Option (Int32 × Sta) := fI s0 82 17 (fun v1 => if v1 = (1 : Int32) then (fI s0 82 16 (fun v2 => if v2 = x1 then (X12_spells_L26 FU x1 x2 x3 x4 x5 x6 x7 (1 : Int32) (0 : Int32) s0) else (X12_spells_L26 FU x1 x2 x3 x4 x5 x6 x7 (0 : Int32) (0 : Int32) s0))) else (X12_spells_L26 FU x1 x2 x3 x4 x5 x6 x7 (0 : Int32) (0 : Int32) s0))
def X12_takes (x1 : Int32) (x2 : Int32) (x3 : Int32) (s0 : Sta) : Option (Int32 × Sta) := fI s0 82 17 (fun v1 => if v1 = (2 : Int32) then (fI s0 82 18 (fun v2 => cA (X12_in v2.toInt64 x2.toInt64 x3.toInt64 s0) (fun q3 s4 => if q3 = 0 then (rZ (0 : Int32) s4) else (fI s4 82 18 (fun v5 => sI s4 96 4 x1 v5 (fun s6 => cA (X12_goBehind  s6) (fun q7 s8 => rZ (1 : Int32) s8))))))) else (rZ (0 : Int32) s0))
def X12_takesPrize (s0 : Sta) : Option (Int32 × Sta) := cA (X12_goBehind  s0) (fun q1 s2 => cA (X12_takes (0 : Int32) (0 : Int32) (7 : Int32) s2) (fun q3 s4 => if q3 = 0 then (rZ (0 : Int32) s4) else (cA (X12_takes (1 : Int32) (0 : Int32) (2 : Int32) s4) (fun q5 s6 => if q5 = 0 then (rZ (0 : Int32) s6) else (cA (X12_takes (2 : Int32) (1 : Int32) (30 : Int32) s6) (fun q7 s8 => if q7 = 0 then (rZ (0 : Int32) s8) else (aI s8 96 4 (0 : Int32) (fun v9 => aI s8 96 4 (1 : Int32) (fun v10 => sI s8 95 105 ((41 : Int32) + v9) v10 (fun s11 => aI s11 96 4 (0 : Int32) (fun v12 => aI s11 96 4 (2 : Int32) (fun v13 => sI s11 95 105 ((49 : Int32) + v12) v13 (fun s14 => rZ (1 : Int32) s14)))))))))))))
def X12_takesOne (s0 : Sta) : Option (Int32 × Sta) := aI s0 95 105 (0 : Int32) (fun v1 => if v1 = (6 : Int32) then (rZ (0 : Int32) s0) else (cA (X12_goBehind  s0) (fun q2 s3 => cA (X12_takes (0 : Int32) (0 : Int32) (5 : Int32) s3) (fun q4 s5 => if q4 = 0 then (rZ (0 : Int32) s5) else (cA (X12_takes (1 : Int32) (0 : Int32) (9 : Int32) s5) (fun q6 s7 => if q6 = 0 then (rZ (0 : Int32) s7) else (cA (X12_takes (2 : Int32) (0 : Int32) (9 : Int32) s7) (fun q8 s9 => if q8 = 0 then (rZ (0 : Int32) s9) else (cA (X12_takes (3 : Int32) (0 : Int32) (9 : Int32) s9) (fun q10 s11 => if q10 = 0 then (rZ (0 : Int32) s11) else (aI s11 96 4 (0 : Int32) (fun v12 => aI s11 96 4 (1 : Int32) (fun v13 => aI s11 96 4 (2 : Int32) (fun v14 => aI s11 96 4 (3 : Int32) (fun v15 => cA (X12_layOne 105 95 v12 v13 v14 v15 s11) (fun q16 s17 => rZ (1 : Int32) s17))))))))))))))))
def X12_takesItem (s0 : Sta) : Option (Int32 × Sta) := cA (X12_spells (5 : Int32) (112 : Int32) (114 : Int32) (105 : Int32) (122 : Int32) (101 : Int32) (0 : Int32) s0) (fun q1 s2 => if q1 = 0 then (cA (X12_spells (3 : Int32) (111 : Int32) (110 : Int32) (101 : Int32) (0 : Int32) (0 : Int32) (0 : Int32) s2) (fun q3 s4 => if q3 = 0 then (rZ (0 : Int32) s4) else (cA (X12_takesOne  s4) (fun q5 s6 => if q5 = 0 then (rZ (0 : Int32) s6) else (rZ (1 : Int32) s6))))) else (cA (X12_takesPrize  s2) (fun q7 s8 => rZ q7 s8)))
def X12_read_L109 : Nat → Int32 → Int32 → Sta → Option (Int32 × Sta)
  | 0, _, _, _ => none
  | n + 1, y1, y2, s0 => if y2 < (105 : Int32) then (aI s0 95 105 y2 (fun v22 => sI s0 83 209 y2 v22 (fun s23 => X12_read_L109 n y1 (y2 + (1 : Int32)) s23))) else (some (y1, s0))
def X12_read_L67 : Nat → Int32 → Sta → Option (Int32 × Sta)
  | 0, _, _ => none
  | n + 1, y1, s0 => fI s0 82 17 (fun v14 => if v14 = 0 then (X12_read_L109 FU y1 (0 : Int32) s0) else (cA (X12_takesItem  s0) (fun q15 s16 => if q15 = 0 then (fI s16 82 15 (fun v17 => some (((-10 : Int32) - v17), s16))) else (fI s16 82 17 (fun v18 => if v18 = (3 : Int32) then (cA (X12_goBehind  s16) (fun q19 s20 => X12_read_L67 n (y1 + (1 : Int32)) s20)) else (fI s16 82 15 (fun v21 => some (((-10 : Int32) - v21), s16))))))))
def X12_read (s0 : Sta) : Option (Int32 × Sta) := cA (X12_lookAt (0 : Int32) s0) (fun q1 s2 => cA (X12_spells (6 : Int32) (118 : Int32) (97 : Int32) (108 : Int32) (108 : Int32) (101 : Int32) (121 : Int32) s2) (fun q3 s4 => if q3 = 0 then (fI s4 82 15 (fun v13 => some (((-10 : Int32) - v13), s4))) else (cA (X12_goBehind  s4) (fun q5 s6 => fI s6 82 17 (fun v7 => if v7 = (3 : Int32) then (cA (X12_goBehind  s6) (fun q8 s9 => cA (X12_begin 105 95 s9) (fun q10 s11 => X12_read_L67 FU (1 : Int32) s11))) else (fI s6 82 15 (fun v12 => some (((-10 : Int32) - v12), s6))))))))
def X12_part (x1 : Int32) (s0 : Sta) : Option (Int64 × Sta) := if x1 = 0 then (fL s0 82 4 (fun v4 => some (v4, s0))) else (if x1 = (1 : Int32) then (fL s0 82 5 (fun v3 => some (v3, s0))) else (cA (X12_bad (-2 : Int32) s0) (fun q1 s2 => some (q1.toInt64, s2))))
def X12_image_L19 : Nat → Int32 → Int32 → Sta → Option (Int32 × Sta)
  | 0, _, _, _ => none
  | n + 1, y1, y2, s0 => if y2 < (209 : Int32) then (aI s0 83 209 y2 (fun v6 => sI s0 84 418 (((209 : Int32) * y1) + y2) v6 (fun s7 => X12_image_L19 n y1 (y2 + (1 : Int32)) s7))) else (sZ s0 85 2 y1 (1 : Int32) (fun s5 => some ((1 : Int32), s5)))
def X12_image (x1 : Int32) (s0 : Sta) : Option (Int32 × Sta) := cA (X12_in x1.toInt64 (0 : Int64) (1 : Int64) s0) (fun q1 s2 => if q1 = 0 then (cA (X12_bad (-2 : Int32) s2) (fun q3 s4 => some (q3, s4))) else (X12_image_L19 FU x1 (0 : Int32) s2))
def X12_from_L33 : Nat → Int32 → Int32 → Sta → Option (Int32 × Sta)
  | 0, _, _, _ => none
  | n + 1, y1, y2, s0 => if y2 < (209 : Int32) then (aI s0 84 418 (((209 : Int32) * y1) + y2) (fun v8 => sI s0 83 209 y2 v8 (fun s9 => X12_from_L33 n y1 (y2 + (1 : Int32)) s9))) else (some ((1 : Int32), s0))
def X12_from (x1 : Int32) (s0 : Sta) : Option (Int32 × Sta) := cA (X12_in x1.toInt64 (0 : Int64) (1 : Int64) s0) (fun q1 s2 => if q1 = 0 then (cA (X12_bad (-2 : Int32) s2) (fun q6 s7 => some (q6, s7))) else (aI s2 85 2 x1 (fun v3 => if v3 = 0 then (cA (X12_no  s2) (fun q4 s5 => some (q4, s5))) else (X12_from_L33 FU x1 (0 : Int32) s2))))
def X12_status (x1 : Int32) (s0 : Sta) : Option (Int32 × Sta) := cA (X12_in x1.toInt64 (0 : Int64) (2 : Int64) s0) (fun q1 s2 => if q1 = 0 then (cA (X12_bad (-1 : Int32) s2) (fun q3 s4 => some (q3, s4))) else (aI s2 86 3 x1 (fun v5 => some (v5, s2))))
def X12_manyPrizes_L4 : Nat → Int32 → Int32 → Sta → Option (Int32 × Sta)
  | 0, _, _, _ => none
  | n + 1, y1, y2, s0 => if y2 < (8 : Int32) then (aI s0 83 209 ((41 : Int32) + y2) (fun v1 => if v1 = (-1 : Int32) then (X12_manyPrizes_L4 n (y1 + (0 : Int32)) (y2 + (1 : Int32)) s0) else (X12_manyPrizes_L4 n (y1 + (1 : Int32)) (y2 + (1 : Int32)) s0))) else (some (y1, s0))
def X12_manyPrizes (s0 : Sta) : Option (Int32 × Sta) := X12_manyPrizes_L4 FU (0 : Int32) (0 : Int32) s0
def X12_manyWins_L4 : Nat → Int32 → Int32 → Sta → Option (Int32 × Sta)
  | 0, _, _, _ => none
  | n + 1, y1, y2, s0 => cA (X12_many  s0) (fun q1 s2 => if y2 < q1 then (aI s2 83 209 ((5 : Int32) + y2) (fun v3 => cA (X12_bits v3 s2) (fun q4 s5 => X12_manyWins_L4 n (y1 + q4) (y2 + (1 : Int32)) s5))) else (some (y1, s2)))
def X12_manyWins (s0 : Sta) : Option (Int32 × Sta) := X12_manyWins_L4 FU (0 : Int32) (0 : Int32) s0
def X12_counted (x1 : Int32) (s0 : Sta) : Option (Int32 × Sta) := tsw' x1 [(0, cA (X12_many  s0) (fun q2 s3 => some (q2, s3))), (1, aI s0 83 209 (4 : Int32) (fun v4 => some (v4, s0))), (2, cA (X12_manyPrizes  s0) (fun q5 s6 => some (q5, s6))), (3, cA (X12_manyWins  s0) (fun q7 s8 => some (q7, s8))), (4, aI s0 83 209 (1 : Int32) (fun v9 => some (v9, s0))), (5, aI s0 83 209 (2 : Int32) (fun v10 => some (v10, s0))), (6, aI s0 83 209 (3 : Int32) (fun v11 => some (v11, s0)))] (fI s0 82 14 (fun v1 => some (v1, s0)))
def X12_count (x1 : Int32) (s0 : Sta) : Option (Int32 × Sta) := cA (X12_in x1.toInt64 (0 : Int64) (7 : Int64) s0) (fun q1 s2 => if q1 = 0 then (cA (X12_bad (-2 : Int32) s2) (fun q3 s4 => some (q3, s4))) else (cA (X12_counted x1 s2) (fun q5 s6 => some (q5, s6))))
def X12_sums_L6 : Nat → Int32 → Int32 → Int64 → Int32 → Sta → Option (Int64 × Sta)
  | 0, _, _, _, _, _ => none
  | n + 1, y3, y4, y5, y7, s0 => if y7 < y4 then (aI s0 83 209 (y3 + y7) (fun v1 => X12_sums_L6 n y3 y4 (((31 : Int64) * y5) + v1.toInt64) (y7 + (1 : Int32)) s0)) else (some (y5, s0))
def X12_sums (x1 : Int64) (x2 : Int32) (x3 : Int32) (s0 : Sta) : Option (Int64 × Sta) := X12_sums_L6 FU x2 x3 x1 (0 : Int32) s0
def X12_digest_L79 : Nat → Int64 → Int32 → Sta → Option (Int64 × Sta)
  | 0, _, _, _ => none
  | n + 1, y1, y3, s0 => cA (X12_many  s0) (fun q5 s6 => if y3 < q5 then (aI s6 83 209 ((17 : Int32) + y3) (fun v15 => cA (X12_sums (((31 : Int64) * y1) + v15.toInt64) ((23 : Int32) + ((3 : Int32) * y3)) (3 : Int32) s6) (fun q16 s17 => aI s17 83 209 ((5 : Int32) + y3) (fun v18 => aI s17 83 209 ((11 : Int32) + y3) (fun v19 => X12_digest_L79 n (((31 : Int64) * (((31 : Int64) * q16) + v18.toInt64)) + v19.toInt64) (y3 + (1 : Int32)) s17))))) else (aI s6 83 209 (1 : Int32) (fun v7 => cA (X12_sums y1 (57 : Int32) ((4 : Int32) * v7) s6) (fun q8 s9 => aI s9 83 209 (2 : Int32) (fun v10 => cA (X12_sums q8 (81 : Int32) ((4 : Int32) * v10) s9) (fun q11 s12 => fL s12 82 4 (fun v13 => fL s12 82 5 (fun v14 => some ((((31 : Int64) * (((31 : Int64) * q11) + v13)) + v14), s12)))))))))
def X12_digest_L33 : Nat → Int64 → Int32 → Sta → Option (Int64 × Sta)
  | 0, _, _, _ => none
  | n + 1, y1, y3, s0 => if y3 < (8 : Int32) then (aI s0 83 209 ((41 : Int32) + y3) (fun v3 => aI s0 83 209 ((49 : Int32) + y3) (fun v4 => X12_digest_L33 n (((31 : Int64) * (((31 : Int64) * y1) + v3.toInt64)) + v4.toInt64) (y3 + (1 : Int32)) s0))) else (X12_digest_L79 FU y1 (0 : Int32) s0)
def X12_digest_L6 : Nat → Int64 → Int32 → Sta → Option (Int64 × Sta)
  | 0, _, _, _ => none
  | n + 1, y1, y3, s0 => if y3 < (8 : Int32) then (cA (X12_counted y3 s0) (fun q1 s2 => X12_digest_L6 n (((31 : Int64) * y1) + q1.toInt64) (y3 + (1 : Int32)) s2)) else (X12_digest_L33 FU y1 (0 : Int32) s0)
def X12_digest (s0 : Sta) : Option (Int64 × Sta) := X12_digest_L6 FU (1303 : Int64) (0 : Int32) s0

def J_coder (s : Sta) : Option (Int32 × Sta) := some (0, s)
def J_isLatin1 (s : Sta) : Option (Int32 × Sta) := some (1, s)
def J_length (tv : Nat) (s : Sta) : Option (Int32 × Sta) := cA (J_coder s) (fun q t => some (nI (txL.getD tv 0) >>> (q &&& 31), t))
def J_pre (i n : Int32) (s : Sta) : Option (Int32 × Sta) := if i < 0 then none else if i < n then some (i, s) else none
def J_chk (i n : Int32) (s : Sta) : Option (Unit × Sta) := cA (J_pre i n s) (fun _ t => some ((), t))
def J_lat (tv : Nat) (i : Int32) (s : Sta) : Option (Int32 × Sta) := cA (J_chk i (nI (txL.getD tv 0)) s) (fun _ t => if i < 0 ∨ txL.getD tv 0 ≤ i.toNatClampNeg then none else some ((txB.getD tv []).getD i.toNatClampNeg 0 &&& 255, t))
def rC (v : Int32) (s : Sta) : Option (Int32 × Sta) := if v < 0 ∨ 65535 < v then none else some (v, s)
def J_charAt (tv : Nat) (i : Int32) (s : Sta) : Option (Int32 × Sta) := cA (J_isLatin1 s) (fun q t => if q = 0 then none else cA (J_lat tv i t) (fun q t => rC q t))
def X8_isWord_L28 (tv : Nat) : Nat → Int32 → Sta → Option (Int32 × Sta)
  | 0, _, _ => none
  | n + 1, y2, s0 => cA (J_length tv s0) (fun q6 s7 => if y2 < q6 then (fI s7 80 2 (fun v8 => aI s7 81 150 (v8 + y2) (fun v9 => cA (J_charAt tv y2 s7) (fun q10 s11 => if v9 = q10 then (X8_isWord_L28 tv n (y2 + (1 : Int32)) s11) else (rZ (0 : Int32) s11))))) else (rZ (1 : Int32) s7))
def X8_isWord (tv : Nat) (s0 : Sta) : Option (Int32 × Sta) := fI s0 80 4 (fun v1 => if v1 = (1 : Int32) then (fI s0 80 3 (fun v2 => fI s0 80 2 (fun v3 => cA (J_length tv s0) (fun q4 s5 => if (v2 - v3) = q4 then (X8_isWord_L28 tv FU (0 : Int32) s5) else (rZ (0 : Int32) s5))))) else (rZ (0 : Int32) s0))
def X8_tellInto_L100 (rv : Nat) (k41 : Int32 → Int32 → Sta → Option (Int32 × Sta)) (y2 : Int32) (y3 : Int32) (z0 : Int32) (s0 : Sta) : Option (Int32 × Sta) := if z0 = 0 then (fI s0 80 2 (fun v23 => some (((-10 : Int32) - v23), s0))) else (cA (X8_endsItem  s0) (fun q24 s25 => if q24 = 0 then (fI s25 80 2 (fun v26 => some (((-10 : Int32) - v26), s25))) else (k41 (y2 + (1 : Int32)) (y3 + (1 : Int32)) s25)))
def X8_tellInto_L41 (rv : Nat) : Nat → Int32 → Int32 → Sta → Option (Int32 × Sta)
  | 0, _, _, _ => none
  | n + 1, y2, y3, s0 => if y3 < (150 : Int32) then (cA (X8_advance  s0) (fun q12 s13 => fI s13 80 4 (fun v14 => if v14 = 0 then (some (y2, s13)) else (cA (X8_isWord 1 s13) (fun q15 s16 => if q15 = 0 then (cA (X8_isWord 2 s16) (fun q17 s18 => if q17 = 0 then (X8_tellInto_L100 rv (X8_tellInto_L41 rv n) y2 y3 (0 : Int32) s18) else (cA (X8_tellOne rv s18) (fun q19 s20 => if q19 = 0 then (X8_tellInto_L100 rv (X8_tellInto_L41 rv n) y2 y3 (0 : Int32) s20) else (X8_tellInto_L100 rv (X8_tellInto_L41 rv n) y2 y3 (1 : Int32) s20))))) else (cA (X8_tellPrize rv s16) (fun q21 s22 => X8_tellInto_L100 rv (X8_tellInto_L41 rv n) y2 y3 q21 s22))))))) else (some (y2, s0))
def X8_tellInto (rv : Nat) (s0 : Sta) : Option (Int32 × Sta) := cA (X10_empty rv s0) (fun q1 s2 => pI s2 80 3 (0 : Int32) (fun s3 => cA (X8_advance  s3) (fun q4 s5 => cA (X8_isWord 0 s5) (fun q6 s7 => if q6 = 0 then (fI s7 80 2 (fun v8 => some (((-10 : Int32) - v8), s7))) else (cA (X8_endsItem  s7) (fun q9 s10 => if q9 = 0 then (fI s10 80 2 (fun v11 => some (((-10 : Int32) - v11), s10))) else (X8_tellInto_L41 rv FU (1 : Int32) (0 : Int32) s10)))))))
def X11_read (s0 : Sta) : Option (Int32 × Sta) := cA (X8_tellInto 14 s0) (fun q1 s2 => if q1 < 0 then (some (q1, s2)) else (cA (X10_take 1 14 s2) (fun q3 s4 => some (q1, s4))))
def aX {β : Type} (xs : Nat → Int32) (L : Nat) (i : Int32) (K : Int32 → Option β) : Option β := if i < 0 ∨ L ≤ i.toNatClampNeg then none else K (xs i.toNatClampNeg)
def L_law_L18 (xs : Nat → Int32) (L : Nat) : Nat → Int32 → Sta → Option (Int32 × Sta)
  | 0, _, _ => none
  | n + 1, y3, s0 => if ((Int32.ofNat L) - (5 : Int32)) < y3 then (some ((1 : Int32), s0)) else (aX xs L y3 (fun v1 => tsw' (v1 &&& (63 : Int32)) [(0, cA (X11_valley  s0) (fun q2 s3 => cA (X12_valley  s3) (fun q4 s5 => if q2 = q4 then (L_law_L18 xs L n (y3 + (5 : Int32)) s5) else (some (0, s5))))), (1, aX xs L (y3 + (1 : Int32)) (fun v6 => aX xs L (y3 + (2 : Int32)) (fun v7 => aX xs L (y3 + (3 : Int32)) (fun v8 => cA (X11_prize v6 v7 v8 s0) (fun q9 s10 => aX xs L (y3 + (1 : Int32)) (fun v11 => aX xs L (y3 + (2 : Int32)) (fun v12 => aX xs L (y3 + (3 : Int32)) (fun v13 => cA (X12_prize v11 v12 v13 s10) (fun q14 s15 => if q9 = q14 then (L_law_L18 xs L n (y3 + (5 : Int32)) s15) else (some (0, s15))))))))))), (2, aX xs L (y3 + (1 : Int32)) (fun v16 => aX xs L (y3 + (2 : Int32)) (fun v17 => aX xs L (y3 + (3 : Int32)) (fun v18 => aX xs L (y3 + (4 : Int32)) (fun v19 => cA (X11_one v16 v17 v18 v19 s0) (fun q20 s21 => aX xs L (y3 + (1 : Int32)) (fun v22 => aX xs L (y3 + (2 : Int32)) (fun v23 => aX xs L (y3 + (3 : Int32)) (fun v24 => aX xs L (y3 + (4 : Int32)) (fun v25 => cA (X12_one v22 v23 v24 v25 s21) (fun q26 s27 => if q20 = q26 then (L_law_L18 xs L n (y3 + (5 : Int32)) s27) else (some (0, s27))))))))))))), (3, aX xs L (y3 + (1 : Int32)) (fun v28 => cA (X11_type v28 s0) (fun q29 s30 => aX xs L (y3 + (1 : Int32)) (fun v31 => cA (X12_type v31 s30) (fun q32 s33 => if q29 = q32 then (L_law_L18 xs L n (y3 + (5 : Int32)) s33) else (some (0, s33))))))), (4, cA (X11_clear  s0) (fun q34 s35 => cA (X12_clear  s35) (fun q36 s37 => if q34 = q36 then (L_law_L18 xs L n (y3 + (5 : Int32)) s37) else (some (0, s37))))), (5, cA (X11_read  s0) (fun q38 s39 => cA (X12_read  s39) (fun q40 s41 => if q38 = q40 then (L_law_L18 xs L n (y3 + (5 : Int32)) s41) else (some (0, s41))))), (6, cA (X11_year  s0) (fun q42 s43 => cA (X12_year  s43) (fun q44 s45 => if q42 = q44 then (L_law_L18 xs L n (y3 + (5 : Int32)) s45) else (some (0, s45))))), (7, cA (X11_undo  s0) (fun q46 s47 => cA (X12_undo  s47) (fun q48 s49 => if q46 = q48 then (L_law_L18 xs L n (y3 + (5 : Int32)) s49) else (some (0, s49))))), (8, aX xs L (y3 + (1 : Int32)) (fun v50 => aX xs L (y3 + (2 : Int32)) (fun v51 => cA (X11_of v50 v51 s0) (fun q52 s53 => aX xs L (y3 + (1 : Int32)) (fun v54 => aX xs L (y3 + (2 : Int32)) (fun v55 => cA (X12_of v54 v55 s53) (fun q56 s57 => if q52 = q56 then (L_law_L18 xs L n (y3 + (5 : Int32)) s57) else (some (0, s57))))))))), (9, aX xs L (y3 + (1 : Int32)) (fun v58 => aX xs L (y3 + (2 : Int32)) (fun v59 => cA (X11_about v58 v59 s0) (fun q60 s61 => aX xs L (y3 + (1 : Int32)) (fun v62 => aX xs L (y3 + (2 : Int32)) (fun v63 => cA (X12_about v62 v63 s61) (fun q64 s65 => if q60 = q64 then (L_law_L18 xs L n (y3 + (5 : Int32)) s65) else (some (0, s65))))))))), (10, aX xs L (y3 + (1 : Int32)) (fun v66 => aX xs L (y3 + (2 : Int32)) (fun v67 => aX xs L (y3 + (3 : Int32)) (fun v68 => cA (X11_good v66 v67 v68 s0) (fun q69 s70 => aX xs L (y3 + (1 : Int32)) (fun v71 => aX xs L (y3 + (2 : Int32)) (fun v72 => aX xs L (y3 + (3 : Int32)) (fun v73 => cA (X12_good v71 v72 v73 s70) (fun q74 s75 => if q69 = q74 then (L_law_L18 xs L n (y3 + (5 : Int32)) s75) else (some (0, s75))))))))))), (11, aX xs L (y3 + (1 : Int32)) (fun v76 => cA (X11_enter v76 s0) (fun q77 s78 => aX xs L (y3 + (1 : Int32)) (fun v79 => cA (X12_enter v79 s78) (fun q80 s81 => if q77 = q80 then (L_law_L18 xs L n (y3 + (5 : Int32)) s81) else (some (0, s81))))))), (12, aX xs L (y3 + (1 : Int32)) (fun v82 => aX xs L (y3 + (2 : Int32)) (fun v83 => cA (X11_winner v82 v83 s0) (fun q84 s85 => aX xs L (y3 + (1 : Int32)) (fun v86 => aX xs L (y3 + (2 : Int32)) (fun v87 => cA (X12_winner v86 v87 s85) (fun q88 s89 => if q84 = q88 then (L_law_L18 xs L n (y3 + (5 : Int32)) s89) else (some (0, s89))))))))), (13, aX xs L (y3 + (1 : Int32)) (fun v90 => aX xs L (y3 + (2 : Int32)) (fun v91 => cA (X11_end v90 v91 s0) (fun q92 s93 => aX xs L (y3 + (1 : Int32)) (fun v94 => aX xs L (y3 + (2 : Int32)) (fun v95 => cA (X12_end v94 v95 s93) (fun q96 s97 => if q92 = q96 then (L_law_L18 xs L n (y3 + (5 : Int32)) s97) else (some (0, s97))))))))), (14, cA (X11_left  s0) (fun q98 s99 => cA (X12_left  s99) (fun q100 s101 => if q98 = q100 then (L_law_L18 xs L n (y3 + (5 : Int32)) s101) else (some (0, s101))))), (15, aX xs L (y3 + (1 : Int32)) (fun v102 => aX xs L (y3 + (2 : Int32)) (fun v103 => cA (X11_best v102 v103 s0) (fun q104 s105 => aX xs L (y3 + (1 : Int32)) (fun v106 => aX xs L (y3 + (2 : Int32)) (fun v107 => cA (X12_best v106 v107 s105) (fun q108 s109 => if q104 = q108 then (L_law_L18 xs L n (y3 + (5 : Int32)) s109) else (some (0, s109))))))))), (16, aX xs L (y3 + (1 : Int32)) (fun v110 => aX xs L (y3 + (2 : Int32)) (fun v111 => aX xs L (y3 + (3 : Int32)) (fun v112 => cA (X11_rivals v110 v111 v112 s0) (fun q113 s114 => aX xs L (y3 + (1 : Int32)) (fun v115 => aX xs L (y3 + (2 : Int32)) (fun v116 => aX xs L (y3 + (3 : Int32)) (fun v117 => cA (X12_rivals v115 v116 v117 s114) (fun q118 s119 => if q113 = q118 then (L_law_L18 xs L n (y3 + (5 : Int32)) s119) else (some (0, s119))))))))))), (17, aX xs L (y3 + (1 : Int32)) (fun v120 => cA (X11_handicap v120 s0) (fun q121 s122 => aX xs L (y3 + (1 : Int32)) (fun v123 => cA (X12_handicap v123 s122) (fun q124 s125 => if q121 = q124 then (L_law_L18 xs L n (y3 + (5 : Int32)) s125) else (some (0, s125))))))), (18, aX xs L (y3 + (1 : Int32)) (fun v126 => cA (X11_order v126 s0) (fun q127 s128 => aX xs L (y3 + (1 : Int32)) (fun v129 => cA (X12_order v129 s128) (fun q130 s131 => if q127 = q130 then (L_law_L18 xs L n (y3 + (5 : Int32)) s131) else (some (0, s131))))))), (19, aX xs L (y3 + (1 : Int32)) (fun v132 => aX xs L (y3 + (2 : Int32)) (fun v133 => aX xs L (y3 + (3 : Int32)) (fun v134 => aX xs L (y3 + (4 : Int32)) (fun v135 => cA (X11_note v132 v133 v134 v135 s0) (fun q136 s137 => aX xs L (y3 + (1 : Int32)) (fun v138 => aX xs L (y3 + (2 : Int32)) (fun v139 => aX xs L (y3 + (3 : Int32)) (fun v140 => aX xs L (y3 + (4 : Int32)) (fun v141 => cA (X12_note v138 v139 v140 v141 s137) (fun q142 s143 => if q136 = q142 then (L_law_L18 xs L n (y3 + (5 : Int32)) s143) else (some (0, s143))))))))))))), (20, aX xs L (y3 + (1 : Int32)) (fun v144 => aX xs L (y3 + (2 : Int32)) (fun v145 => aX xs L (y3 + (3 : Int32)) (fun v146 => aX xs L (y3 + (4 : Int32)) (fun v147 => cA (X11_beaten v144 v145 v146 v147 s0) (fun q148 s149 => aX xs L (y3 + (1 : Int32)) (fun v150 => aX xs L (y3 + (2 : Int32)) (fun v151 => aX xs L (y3 + (3 : Int32)) (fun v152 => aX xs L (y3 + (4 : Int32)) (fun v153 => cA (X12_beaten v150 v151 v152 v153 s149) (fun q154 s155 => if q148 = q154 then (L_law_L18 xs L n (y3 + (5 : Int32)) s155) else (some (0, s155))))))))))))), (21, aX xs L (y3 + (1 : Int32)) (fun v156 => cA (X11_forget v156 s0) (fun q157 s158 => aX xs L (y3 + (1 : Int32)) (fun v159 => cA (X12_forget v159 s158) (fun q160 s161 => if q157 = q160 then (L_law_L18 xs L n (y3 + (5 : Int32)) s161) else (some (0, s161))))))), (22, aX xs L (y3 + (1 : Int32)) (fun v162 => cA (X11_is v162 s0) (fun q163 s164 => aX xs L (y3 + (1 : Int32)) (fun v165 => cA (X12_is v165 s164) (fun q166 s167 => if q163 = q166 then (L_law_L18 xs L n (y3 + (5 : Int32)) s167) else (some (0, s167))))))), (23, aX xs L (y3 + (1 : Int32)) (fun v168 => cA (X11_offer v168 s0) (fun q169 s170 => aX xs L (y3 + (1 : Int32)) (fun v171 => cA (X12_offer v171 s170) (fun q172 s173 => if q169 = q172 then (L_law_L18 xs L n (y3 + (5 : Int32)) s173) else (some (0, s173))))))), (24, aX xs L (y3 + (1 : Int32)) (fun v174 => aX xs L (y3 + (2 : Int32)) (fun v175 => cA (X11_may v174 v175 s0) (fun q176 s177 => aX xs L (y3 + (1 : Int32)) (fun v178 => aX xs L (y3 + (2 : Int32)) (fun v179 => cA (X12_may v178 v179 s177) (fun q180 s181 => if q176 = q180 then (L_law_L18 xs L n (y3 + (5 : Int32)) s181) else (some (0, s181))))))))), (25, cA (X11_clash  s0) (fun q182 s183 => cA (X12_clash  s183) (fun q184 s185 => if q182 = q184 then (L_law_L18 xs L n (y3 + (5 : Int32)) s185) else (some (0, s185))))), (26, aX xs L (y3 + (1 : Int32)) (fun v186 => aX xs L (y3 + (2 : Int32)) (fun v187 => cA (X11_odds v186 v187 s0) (fun q188 s189 => aX xs L (y3 + (1 : Int32)) (fun v190 => aX xs L (y3 + (2 : Int32)) (fun v191 => cA (X12_odds v190 v191 s189) (fun q192 s193 => if q188 = q192 then (L_law_L18 xs L n (y3 + (5 : Int32)) s193) else (some (0, s193))))))))), (27, aX xs L (y3 + (1 : Int32)) (fun v194 => aX xs L (y3 + (2 : Int32)) (fun v195 => cA (X11_valleys v194 v195 s0) (fun q196 s197 => aX xs L (y3 + (1 : Int32)) (fun v198 => aX xs L (y3 + (2 : Int32)) (fun v199 => cA (X12_valleys v198 v199 s197) (fun q200 s201 => if q196 = q200 then (L_law_L18 xs L n (y3 + (5 : Int32)) s201) else (some (0, s201))))))))), (28, aX xs L (y3 + (1 : Int32)) (fun v202 => cA (X11_part v202 s0) (fun q203 s204 => aX xs L (y3 + (1 : Int32)) (fun v205 => cA (X12_part v205 s204) (fun q206 s207 => if (lg_cmp q203 q206) = 0 then (L_law_L18 xs L n (y3 + (5 : Int32)) s207) else (some (0, s207))))))), (29, aX xs L (y3 + (1 : Int32)) (fun v208 => cA (X11_image v208 s0) (fun q209 s210 => aX xs L (y3 + (1 : Int32)) (fun v211 => cA (X12_image v211 s210) (fun q212 s213 => if q209 = q212 then (L_law_L18 xs L n (y3 + (5 : Int32)) s213) else (some (0, s213))))))), (30, aX xs L (y3 + (1 : Int32)) (fun v214 => cA (X11_from v214 s0) (fun q215 s216 => aX xs L (y3 + (1 : Int32)) (fun v217 => cA (X12_from v217 s216) (fun q218 s219 => if q215 = q218 then (L_law_L18 xs L n (y3 + (5 : Int32)) s219) else (some (0, s219))))))), (31, aX xs L (y3 + (1 : Int32)) (fun v220 => cA (X11_status v220 s0) (fun q221 s222 => aX xs L (y3 + (1 : Int32)) (fun v223 => cA (X12_status v223 s222) (fun q224 s225 => if q221 = q224 then (L_law_L18 xs L n (y3 + (5 : Int32)) s225) else (some (0, s225))))))), (32, aX xs L (y3 + (1 : Int32)) (fun v226 => cA (X11_count v226 s0) (fun q227 s228 => aX xs L (y3 + (1 : Int32)) (fun v229 => cA (X12_count v229 s228) (fun q230 s231 => if q227 = q230 then (L_law_L18 xs L n (y3 + (5 : Int32)) s231) else (some (0, s231))))))), (33, cA (X11_digest  s0) (fun q232 s233 => cA (X12_digest  s233) (fun q234 s235 => if (lg_cmp q232 q234) = 0 then (L_law_L18 xs L n (y3 + (5 : Int32)) s235) else (some (0, s235)))))] (L_law_L18 xs L n (y3 + (5 : Int32)) s0)))
def zst : Sta := (fun _ _ => 0, fun _ _ => 0)
def mst : Sta := (fun _ _ => 0, fun k i => if k = 0 ∧ i = 5 then 1 else 0)
def iSt (sV sC sM : Sta) : Sta := (fun k => if k = 0 then (fun _ => 0) else if k < 14 then sV.1 (k - 1) else if k < 27 then sV.1 (k - 14) else if k < 29 then (fun _ => 0) else if k < 42 then sV.1 (k - 29) else if k < 55 then sV.1 (k - 42) else if k < 64 then sC.1 (k - 55) else if k = 64 then (fun _ => 0) else if k < 78 then sV.1 (k - 65) else if k < 82 then (fun _ => 0) else sM.1 (k - 82), fun k => if k < 82 then (fun i => if i = 8 then 1 else 0) else sM.2 (k - 82))
def FL : Nat := 600
end
section
/-! PURE HALF 1: numbers, evaluators, kinds -/
theorem ilt {a b : Int32} : a < b ↔ a.toInt < b.toInt := Int32.lt_iff_toInt_lt
theorem ile {a b : Int32} : a ≤ b ↔ a.toInt ≤ b.toInt := Int32.le_iff_toInt_le
theorem nIt {n : Nat} (h : n < 2 ^ 31) : (nI n).toInt = (n : Int) := nI_toInt h
theorem up1_s (σ : Sta) (k : Nat) (f : Nat → Int32) : (up1 σ k f).1 k = f := by simp [up1, va_up]
theorem up1_n {σ : Sta} {k j : Nat} {f : Nat → Int32} (h : j ≠ k) : (up1 σ k f).1 j = σ.1 j := by simp [up1, va_up, h]
theorem up1_2 (σ : Sta) (k : Nat) (f : Nat → Int32) : (up1 σ k f).2 = σ.2 := rfl
theorem up2_1 (σ : Sta) (k : Nat) (f : Nat → Int64) : (up2 σ k f).1 = σ.1 := rfl
theorem cA_e {α β : Type} (a : α) (s : Sta) (K : α → Sta → Option β) : cA (some (a, s)) K = K a s := rfl
theorem fI_e {β : Type} (σ : Sta) (k i : Nat) (K : Int32 → Option β) : fI σ k i K = K (σ.1 k i) := rfl
theorem fL_e {β : Type} (σ : Sta) (k i : Nat) (K : Int64 → Option β) : fL σ k i K = K (σ.2 k i) := rfl
theorem pI_e {β : Type} (σ : Sta) (k i : Nat) (v : Int32) (K : Sta → Option β) : pI σ k i v K = K (up1 σ k (upd (σ.1 k) i v)) := rfl
theorem pL_e {β : Type} (σ : Sta) (k i : Nat) (v : Int64) (K : Sta → Option β) : pL σ k i v K = K (up2 σ k (vp_updL (σ.2 k) i v)) := rfl
theorem cpI_e {β : Type} (σ : Sta) (k0 k1 n : Nat) (K : Sta → Option β) : cpI σ k0 k1 n K = K (up1 σ k1 (va_cpy (σ.1 k0) (σ.1 k1) 0 0 n)) := rfl
theorem aI_n {β : Type} {σ : Sta} {k n : Nat} {K : Int32 → Option β} (j : Nat) (h : j < n) (hn : n < 2 ^ 31 := by decide) : aI σ k n (nI j) K = K (σ.1 k j) := by
  rw [aI, if_neg (vp_in_nI h hn), nI_clamp (by omega)]
theorem sI_n {β : Type} {σ : Sta} {k n : Nat} {v : Int32} {K : Sta → Option β} (j : Nat) (h : j < n) (hn : n < 2 ^ 31 := by decide) : sI σ k n (nI j) v K = K (up1 σ k (upd (σ.1 k) j v)) := by
  rw [sI, if_neg (vp_in_nI h hn), nI_clamp (by omega)]
theorem sZ_n {β : Type} {σ : Sta} {k n : Nat} {v : Int32} {K : Sta → Option β} (j : Nat) (h : j < n) (hn : n < 2 ^ 31 := by decide) : sZ σ k n (nI j) v K = K (up1 σ k (upd (σ.1 k) j (vp_nar .boolean v))) := by
  rw [sZ, if_neg (vp_in_nI h hn), nI_clamp (by omega)]
theorem aR_n {β : Type} {n : Nat} {K : Nat → Option β} (j : Nat) (h : j < n) (hn : n < 2 ^ 31 := by decide) : aR n (nI j) K = K j := by
  rw [aR, if_neg (vp_in_nI h hn), nI_clamp (by omega)]
theorem rZ_0 (s : Sta) : rZ 0 s = some (0, s) := rfl
theorem rZ_1 (s : Sta) : rZ 1 s = some (1, s) := rfl
def bi (b : Bool) : Int32 := if b then 1 else 0
theorem rZ_b (b : Bool) (s : Sta) : rZ (bi b) s = some (bi b, s) := by cases b <;> rfl
theorem bi_0 (b : Bool) : bi b = 0 ↔ b = false := by cases b <;> simp [bi]
theorem bi_1 (b : Bool) : bi b = 1 ↔ b = true := by cases b <;> simp [bi]
theorem bi_if {β : Type} (b : Bool) (x y : β) : (if bi b = 0 then x else y) = if b then y else x := by cases b <;> simp [bi]
/-- a call whose picture is known -/
theorem cA_of {α β : Type} {f : Option (α × Sta)} {a : α} {s : Sta} {K : α → Sta → Option β} (h : f = some (a, s)) : cA f K = K a s := by rw [h]; rfl
-- within
theorem within_t {x a b : Int32} {s : Sta} (h1 : ¬ x < a) (h2 : ¬ b < x) : X11_within x a b s = some (1, s) := by
  rw [X11_within, if_neg h1, if_neg h2]; rfl
theorem within_f {x a b : Int32} {s : Sta} (h : x < a ∨ b < x) : X11_within x a b s = some (0, s) := by
  rw [X11_within]
  by_cases h1 : x < a
  · rw [if_pos h1]; rfl
  · rw [if_neg h1, if_pos (h.resolve_left h1)]; rfl
/-- 0 .. m -/
theorem within_nt {j m : Nat} {s : Sta} (h : j ≤ m) (hm : m < 2 ^ 31) : X11_within (nI j) 0 (nI m) s = some (1, s) :=
  within_t (nI_pos (by omega)) (nI_nlt h hm)
/-- 0 .. n - 1 -/
theorem within_ct {j n : Nat} {s : Sta} (h : j < n) (hn : n < 2 ^ 31) : X11_within (nI j) 0 (nI n - 1) s = some (1, s) := by
  obtain ⟨m, rfl⟩ : ∃ m, n = m + 1 := ⟨n - 1, by omega⟩
  rw [nI_pred]
  exact within_nt (by omega) (by omega)
theorem within_cf {x : Int32} {n : Nat} {s : Sta} (h : x < 0 ∨ nI n ≤ x) (hn : n < 2 ^ 31) : X11_within x 0 (nI n - 1) s = some (0, s) := by
  refine within_f ?_
  rcases h with h | h
  · exact Or.inl h
  · right
    cases n with
    | zero =>
      rw [nI_0] at h ⊢
      have h0 : (0 - 1 : Int32).toInt = -1 := by decide
      rw [ilt, h0]
      rw [ile] at h
      have : (0 : Int32).toInt = 0 := by decide
      omega
    | succ m =>
      rw [nI_pred, ilt, nIt (by omega)]
      rw [ile, nIt hn] at h
      omega
-- the reference's 'in'
theorem lgc_lt {a b : Int64} : lg_cmp a b < 0 ↔ a < b := by
  unfold lg_cmp
  by_cases h : b < a
  · have h2 : ¬ a < b := fun q => by
      rw [Int64.lt_iff_toInt_lt] at h q
      omega
    simp [h, h2]
    first | done | decide
  · by_cases h2 : a = b
    · subst h2
      simp
      first | done | decide
    · have h3 : a < b := by
        rw [Int64.lt_iff_toInt_lt] at h ⊢
        have : a.toInt ≠ b.toInt := fun q => h2 (Int64.toInt_inj.mp q)
        omega
      simp [h, h2, h3]
      first | done | decide
theorem lgc_gt {a b : Int64} : 0 < lg_cmp a b ↔ b < a := by
  unfold lg_cmp
  by_cases h : b < a
  · simp [h]
    first | done | decide
  · by_cases h2 : a = b
    · simp [h, h2]
      first | done | decide
    · simp [h, h2]
      first | done | decide
theorem in_t {a b c : Int64} {s : Sta} (h1 : ¬ a < b) (h2 : ¬ c < a) : X12_in a b c s = some (1, s) := by
  rw [X12_in, if_neg (fun q => h1 (lgc_lt.mp q)), if_neg (fun q => h2 (lgc_gt.mp q))]; rfl
theorem in_f {a b c : Int64} {s : Sta} (h : a < b ∨ c < a) : X12_in a b c s = some (0, s) := by
  rw [X12_in]
  by_cases h1 : a < b
  · rw [if_pos (lgc_lt.mpr h1)]; rfl
  · rw [if_neg (fun q => h1 (lgc_lt.mp q)), if_pos (lgc_gt.mpr (h.resolve_left h1))]; rfl
theorem wlt {a b : Int32} : a.toInt64 < b.toInt64 ↔ a < b := by
  rw [Int64.lt_iff_toInt_lt, ilt, Int32.toInt_toInt64, Int32.toInt_toInt64]
theorem in32_t {a b c : Int32} {s : Sta} (h1 : ¬ a < b) (h2 : ¬ c < a) : X12_in a.toInt64 b.toInt64 c.toInt64 s = some (1, s) := in_t (fun q => h1 (wlt.mp q)) (fun q => h2 (wlt.mp q))
theorem in32_f {a b c : Int32} {s : Sta} (h : a < b ∨ c < a) : X12_in a.toInt64 b.toInt64 c.toInt64 s = some (0, s) := in_f (h.imp wlt.mpr wlt.mpr)
/-- class and reference test ranges alike -/
theorem in_within (a b c : Int32) (s : Sta) : X12_in a.toInt64 b.toInt64 c.toInt64 s = X11_within a b c s := by
  by_cases h : a < b ∨ c < a
  · rw [in32_f h, within_f h]
  · rw [in32_t (fun q => h (Or.inl q)) (fun q => h (Or.inr q)), within_t (fun q => h (Or.inl q)) (fun q => h (Or.inr q))]
-- kinds
def wantsP (k : Nat) (w l : Int32) : Bool := if k = 1 ∨ k = 5 then !(decide (w < 15) && decide (1 < l)) else if k = 3 then (!(decide (w < 15) && decide (1 < l))) && !(decide (w < 8)) else true
def skillP (k : Nat) (a y : Int32) : Int32 := if k = 3 then a + 1 else if k = 4 then (if y - y / 2 * 2 = 1 then 2 * a else 0) else if k = 5 then (if 0 < a - y / 2 then a - y / 2 else 0) else a
def barP (k : Nat) (n : Int32) : Bool := if k = 2 then !decide (n < 2) else !decide (n < 1)
theorem k6 {P : Nat → Prop} (h0 : P 0) (h1 : P 1) (h2 : P 2) (h3 : P 3) (h4 : P 4) (h5 : P 5) (j : Nat) (hj : j < 6) : P j := by
  rcases (show j = 0 ∨ j = 1 ∨ j = 2 ∨ j = 3 ∨ j = 4 ∨ j = 5 by omega) with rfl | rfl | rfl | rfl | rfl | rfl <;> assumption
theorem V_wants_e {k : Nat} (hk : k < 6) (a b : Int32) (s : Sta) : V_wants k a b s = some (bi (wantsP k a b), s) := by
  rcases (show k = 0 ∨ k = 1 ∨ k = 2 ∨ k = 3 ∨ k = 4 ∨ k = 5 by omega) with rfl | rfl | rfl | rfl | rfl | rfl <;>
    by_cases h1 : a < 15 <;> by_cases h2 : 1 < b <;> by_cases h3 : a < 8 <;> simp [V_wants, X5_wants, X7_wants, X6_wants, wantsP, bi, rZ, cA, h1, h2, h3]
theorem V_skill_e {k : Nat} (hk : k < 6) (a b : Int32) (s : Sta) : V_skill k a b s = some (skillP k a b, s) := by
  rcases (show k = 0 ∨ k = 1 ∨ k = 2 ∨ k = 3 ∨ k = 4 ∨ k = 5 by omega) with rfl | rfl | rfl | rfl | rfl | rfl <;>
    by_cases h1 : b - b / 2 * 2 = 1 <;> by_cases h2 : 0 < a - b / 2 <;> simp [V_skill, X5_skill, X6_skill, X1_skill, X4_skill, skillP, cA, h1, h2]
theorem V_barredBy_e {k : Nat} (hk : k < 6) (a : Int32) (s : Sta) : V_barredBy k a s = some (bi (barP k a), s) := by
  rcases (show k = 0 ∨ k = 1 ∨ k = 2 ∨ k = 3 ∨ k = 4 ∨ k = 5 by omega) with rfl | rfl | rfl | rfl | rfl | rfl <;>
    by_cases h1 : a < 1 <;> by_cases h2 : a < 2 <;> simp [V_barredBy, X5_barredBy, X3_barredBy, barP, bi, rZ, h1, h2]
theorem M_triesAs {k : Nat} (hk : k < 6) (a b : Int32) (s : Sta) : X12_triesAs (nI k) a b s = some (bi (wantsP k a b), s) := by
  rcases (show k = 0 ∨ k = 1 ∨ k = 2 ∨ k = 3 ∨ k = 4 ∨ k = 5 by omega) with rfl | rfl | rfl | rfl | rfl | rfl <;>
    by_cases h1 : a < 15 <;> by_cases h2 : 1 < b <;> by_cases h3 : a < 8 <;> simp [X12_triesAs, X12_triesAs_L16, X12_triesAs_L50, wantsP, bi, rZ, h1, h2, h3, nI]
theorem M_isBarredBy {k : Nat} (hk : k < 6) (a : Int32) (s : Sta) : X12_isBarredBy (nI k) a s = some (bi (barP k a), s) := by
  rcases (show k = 0 ∨ k = 1 ∨ k = 2 ∨ k = 3 ∨ k = 4 ∨ k = 5 by omega) with rfl | rfl | rfl | rfl | rfl | rfl <;>
    by_cases h1 : a < 1 <;> by_cases h2 : a < 2 <;> simp [X12_isBarredBy, X12_isBarredBy_L11, barP, bi, rZ, h1, h2, nI]
theorem old_alike : ∀ a, a < 10 → ∀ y, y < 8 → ((0 < nI a - nI y / 2) ↔ (nI y / 2 < nI a)) := by decide +kernel
theorem M_goodAs {k a y : Nat} (hk : k < 6) (ha : a < 10) (hy : y < 8) (s : Sta) : X12_goodAs (nI k) (nI a) (nI y) s = some (skillP k (nI a) (nI y), s) := by
  have ho := old_alike a ha y hy
  rcases (show k = 0 ∨ k = 1 ∨ k = 2 ∨ k = 3 ∨ k = 4 ∨ k = 5 by omega) with rfl | rfl | rfl | rfl | rfl | rfl <;>
    by_cases h1 : nI y - nI y / 2 * 2 = 1 <;> by_cases h2 : nI y / 2 < nI a <;> simp [X12_goodAs, tsw', skillP, h1, h2, ho] <;> simp [nI]
-- how many bits
def popc : Nat → Nat → Nat
  | 0, _ => 0
  | k + 1, w => w % 2 + popc k (w / 2)
theorem nI_and1 {w : Nat} (h : w < 2 ^ 31) : nI w &&& (1 : Int32) = nI (w % 2) := by
  have h1 := pk_andN (n := w) (by omega) (m := 1) 1 (by decide)
  simpa using h1
theorem popc_0 : ∀ k, popc k 0 = 0
  | 0 => rfl
  | k + 1 => by simp [popc, popc_0 k]
theorem M_bitsL : ∀ (k f w : Nat) (acc : Int32) (s : Sta), w < 2 ^ k → k ≤ 30 → k < f → X12_bits_L4 f acc (nI w) s = some (acc + nI (popc k w), s)
  | k, 0, w, acc, s, _, _, h => by omega
  | 0, f + 1, w, acc, s, h, _, _ => by
    have hw : w = 0 := by simpa using h
    subst hw
    rw [X12_bits_L4, nI_0, if_neg (by decide)]
    simp [popc, nI_0]
  | k + 1, f + 1, w, acc, s, h, hk, hf => by
    rw [X12_bits_L4]
    have hw31 : w < 2 ^ 31 := Nat.lt_of_lt_of_le h (Nat.pow_le_pow_right (by decide) (by omega))
    by_cases h0 : w = 0
    · subst h0
      rw [nI_0, if_neg (by decide), popc_0, nI_0]
      simp
    · have hpos : (0 : Int32) < nI w := by
        have h1 := nI_lt (a := 0) (b := w) (by omega) hw31
        rw [nI_0] at h1
        exact h1
      have hs := pk_shrN hw31 ((1 : Int32) &&& 31) 1 (by decide)
      rw [if_pos hpos, nI_and1 hw31, hs, M_bitsL k f (w / 2 ^ 1) _ s (by rw [Nat.pow_succ] at h; omega) (by omega) (by omega), Int32.add_assoc, nI_add]
      simp [popc]
theorem M_bits {w : Nat} (h : w < 256) (s : Sta) : X12_bits (nI w) s = some (nI (popc 8 w), s) := by
  rw [X12_bits, M_bitsL 8 FU w 0 s h (by decide) (by decide)]
  simp
def bcE (x : Int32) : Int32 := match J6_bitCount_0f7a4 x (fun _ _ => 0, fun _ _ => 0) with
  | some q => q.1
  | none => 0
theorem bcE_e (x : Int32) (s : Sta) : J6_bitCount_0f7a4 x s = some (bcE x, s) := rfl
theorem bcE_p : ∀ w, w < 256 → bcE (nI w) = nI (popc 8 w) := by decide +kernel
theorem within7 {y : Nat} {s : Sta} (h : y < 8) : X11_within (nI y) 0 7 s = some (1, s) := within_nt (m := 7) (by omega) (by decide)
theorem within5 {y : Nat} {s : Sta} (h : y < 6) : X11_within (nI y) 0 5 s = some (1, s) := within_nt (m := 5) (by omega) (by decide)
theorem within2 {y : Nat} {s : Sta} (h : y < 3) : X11_within (nI y) 0 2 s = some (1, s) := within_nt (m := 2) (by omega) (by decide)
theorem within1 {y : Nat} {s : Sta} (h : y < 2) : X11_within (nI y) 0 1 s = some (1, s) := within_nt (m := 1) (by omega) (by decide)
theorem n10 : ¬ (1 : Int32) = 0 := by decide
theorem nm1 {t : Nat} (h : t < 2 ^ 31) : ¬ nI t = -1 := by
  intro e
  have h1 : (nI t).toInt = (-1 : Int32).toInt := by rw [e]
  rw [nIt h] at h1
  have : (-1 : Int32).toInt = -1 := by decide
  omega
theorem m3 (p t : Nat) : nI p * 3 + nI t = nI (3 * p + t) := by
  have h : (3 : Int32) = nI 3 := rfl
  rw [h, pk_mul, nI_add, Nat.mul_comm]
theorem sub7 {y : Nat} (h : y < 8) : (7 : Int32) - nI y = nI (7 - y) := by
  have h1 : (7 : Int32) = nI 7 := rfl
  rw [h1, pk_sub (by omega)]
end
section
/-! PURE HALF 2: how good one is in a contest; who wins -/
/-- a course that is as told: n people, kinds, arts, wins, sorts, worths -/
def WF (n : Nat) (kd ar wi so wo : Nat → Int32) : Prop := n ≤ 6 ∧ (∀ p, p < n → ∃ k, k < 6 ∧ kd p = nI k) ∧ (∀ p, p < n → ∀ t, t < 3 → ∃ a, a < 10 ∧ ar (3 * p + t) = nI a) ∧ (∀ p, p < n → ∃ w, w < 256 ∧ wi p = nI w) ∧ (∀ y, y < 8 → so y = -1 ∨ ∃ t, t < 3 ∧ so y = nI t) ∧ (∀ y, y < 8 → ∃ w, w ≤ 30 ∧ wo y = nI w)
def kno (x : Int32) : Nat := x.toNatClampNeg
theorem kno_n {k : Nat} (h : k < 2 ^ 31) : kno (nI k) = k := nI_clamp h
def stg (ch kd ar wi so wo : Nat → Int32) (p y : Nat) : Int32 :=
  if so y = -1 then 0 else if barP (kno (kd p)) (bcE (wi p)) then 0 else
  if (if ch p = -1 then wantsP (kno (kd p)) (wo y) (nI (7 - y)) else decide (ch p = nI y)) then skillP (kno (kd p)) (ar (3 * p + kno (so y))) (nI y) else 0
theorem C_isBarred {c r n p : Nat} {σ : Sta} (hw : WF n (σ.1 (r + 3)) (σ.1 (r + 4)) (σ.1 (r + 5)) (σ.1 (r + 1)) (σ.1 (r + 2))) (hp : p < n) : X0_isBarred c r (nI p) σ = some (bi (barP (kno (σ.1 (r + 3) p)) (bcE (σ.1 (r + 5) p))), σ) := by
  obtain ⟨hn, hk, ha, hwi, hso, hwo⟩ := hw
  obtain ⟨k, hk6, ek⟩ := hk p hp
  rw [X0_isBarred, aI_n p (by omega), ek, cA_of (within5 hk6), if_neg n10, aR_n k hk6, aI_n p (by omega), cA_of (bcE_e _ _), cA_of (V_barredBy_e hk6 _ _), kno_n (by omega)]
  cases barP k (bcE (σ.1 (r + 5) p)) <;> rfl
theorem C_strength {c r n p y : Nat} {σ : Sta} (hn0 : σ.1 r 10 = nI n) (hw : WF n (σ.1 (r + 3)) (σ.1 (r + 4)) (σ.1 (r + 5)) (σ.1 (r + 1)) (σ.1 (r + 2))) (hp : p < n) (hy : y < 8) : X0_strength c r (nI p) (nI y) σ = some (stg (σ.1 (c + 2)) (σ.1 (r + 3)) (σ.1 (r + 4)) (σ.1 (r + 5)) (σ.1 (r + 1)) (σ.1 (r + 2)) p y, σ) := by
  have hb := C_isBarred (c := c) hw hp
  obtain ⟨hn, hk, ha, hwi, hso, hwo⟩ := hw
  obtain ⟨k, hk6, ek⟩ := hk p hp
  rw [X0_strength, fI_e, hn0, cA_of (within_ct hp (by omega)), if_neg n10, cA_of (within7 hy), if_neg n10, aI_n y hy, stg]
  by_cases h1 : σ.1 (r + 1) y = -1
  · rw [if_pos h1, if_pos h1]
  · rw [if_neg h1, if_neg h1]
    obtain ⟨t, ht, et⟩ := (hso y hy).resolve_left h1
    rw [aI_n p (by omega), ek, cA_of (within5 hk6), if_neg n10, cA_of hb, ek, kno_n (by omega)]
    cases hbar : barP k (bcE (σ.1 (r + 5) p)) with
    | true => rfl
    | false =>
      simp only [bi, Bool.false_eq_true, if_false, if_true]
      rw [aI_n p (by omega)]
      have last : ∀ (b : Bool), X0_strength_L125 c r (nI p) (nI y) (nI k) (bi b) σ = some (if b then skillP k (σ.1 (r + 4) (3 * p + kno (σ.1 (r + 1) y))) (nI y) else 0, σ) := by
        intro b
        cases b with
        | false => rfl
        | true =>
          rw [X0_strength_L125, if_neg (by decide), aR_n k hk6, aI_n y hy, et, m3, aI_n (3 * p + t) (by omega), cA_of (V_skill_e hk6 _ _ _), kno_n (by omega)]
          rfl
      by_cases h2 : σ.1 (c + 2) p = -1
      · rw [if_pos h2, if_pos h2, X0_strength_L80, if_neg n10, aR_n k hk6, aI_n y hy, sub7 hy, cA_of (V_wants_e hk6 _ _ _), last]
      · rw [if_neg h2, if_neg h2, X0_strength_L80, if_pos rfl, aI_n p (by omega)]
        by_cases h3 : σ.1 (c + 2) p = nI y
        · rw [if_pos h3, decide_eq_true h3]
          exact last true
        · rw [if_neg h3, decide_eq_false h3]
          exact last false
end
section
/-! PURE HALF 3: a contest held, a year gone by, years gone by: the class -/
theorem up1_u (σ : Sta) (k : Nat) (f g : Nat → Int32) : up1 (up1 σ k f) k g = up1 σ k g := by
  unfold up1
  rw [bx_uu]
theorem up1_id (σ : Sta) (k : Nat) : up1 σ k (σ.1 k) = σ := by
  unfold up1
  have h : va_up σ.1 k (σ.1 k) = σ.1 := by
    funext j
    by_cases h : j = k
    · subst h; simp [va_up]
    · simp [va_up, h]
  rw [h]
def hs (g : Nat → Int32) : Nat → Int32 × Int32 × Int32 × Int32
  | 0 => (-1, 0, -1, 0)
  | p + 1 => if (hs g p).2.1 < g p then (nI p, g p, (hs g p).1, (hs g p).2.1) else if (hs g p).2.2.2 < g p then ((hs g p).1, (hs g p).2.1, nI p, g p) else hs g p
def ents (g : Nat → Int32) : Nat → Int32
  | 0 => 0
  | p + 1 => if 0 < g p then ents g p ||| ((1 : Int32) <<< (nI p &&& 31)) else ents g p
theorem updS (f : Nat → Int32) (k : Nat) (x : Int32) : upd f k x k = x := pk_us
theorem updN {f : Nat → Int32} {k j : Nat} {x : Int32} (h : j ≠ k) : upd f k x j = f j := pk_un h
/-- the strengths of a valley at r, a contest at c -/
def gSt (c r : Nat) (σ : Sta) (y : Nat) : Nat → Int32 := fun p => stg (σ.1 (c + 2)) (σ.1 (r + 3)) (σ.1 (r + 4)) (σ.1 (r + 5)) (σ.1 (r + 1)) (σ.1 (r + 2)) p y
def wfS (r n : Nat) (σ : Sta) : Prop := WF n (σ.1 (r + 3)) (σ.1 (r + 4)) (σ.1 (r + 5)) (σ.1 (r + 1)) (σ.1 (r + 2))
theorem gS_up {c r k y : Nat} {σ : Sta} {f : Nat → Int32} (h : ∀ i, i ≤ 5 → r + i ≠ k) (hc : c + 2 ≠ k) : gSt c r (up1 σ k f) y = gSt c r σ y := by
  unfold gSt
  rw [up1_n hc, up1_n (h 3 (by decide)), up1_n (h 4 (by decide)), up1_n (h 5 (by decide)), up1_n (h 1 (by decide)), up1_n (h 2 (by decide))]
theorem wfS_up {r k n : Nat} {σ : Sta} {f : Nat → Int32} (h : ∀ i, i ≤ 5 → r + i ≠ k) : wfS r n (up1 σ k f) ↔ wfS r n σ := by
  unfold wfS
  rw [up1_n (h 3 (by decide)), up1_n (h 4 (by decide)), up1_n (h 5 (by decide)), up1_n (h 1 (by decide)), up1_n (h 2 (by decide))]
theorem C_holdL {c r n y : Nat} {σ : Sta} (hrc : ∀ i, i ≤ 5 → r + i ≠ c) (hn0 : σ.1 r 10 = nI n) (hw : wfS r n σ) (hy : y < 8) : ∀ (d p fu : Nat) (f : Nat → Int32), p + d = n → d < fu → f 2 = ents (gSt c r σ y) p → f 3 = (hs (gSt c r σ y) p).1 → f 4 = (hs (gSt c r σ y) p).2.2.1 →
    ∃ f', X0_hold_L23 c r fu (nI y) (hs (gSt c r σ y) p).2.1 (hs (gSt c r σ y) p).2.2.2 (nI p) (up1 σ c f) = some ((), up1 σ c f') ∧ f' 2 = ents (gSt c r σ y) n ∧ f' 3 = (hs (gSt c r σ y) n).1 ∧ f' 4 = (hs (gSt c r σ y) n).2.2.1
  | d, p, 0, f, _, h, _, _, _ => by omega
  | 0, p, fu + 1, f, hpd, _, h2, h3, h4 => by
    have hpn : p = n := by omega
    subst hpn
    refine ⟨f, ?_, h2, h3, h4⟩
    rw [X0_hold_L23, fI_e, up1_n (by have := hrc 0 (by decide); simpa using this), hn0, if_neg (nI_nlt (Nat.le_refl _) (by have := hw.1; omega))]
  | d + 1, p, fu + 1, f, hpd, hf, h2, h3, h4 => by
    have hn6 := hw.1
    have hc2 : c + 2 ≠ c := by omega
    have hst : X0_strength c r (nI p) (nI y) (up1 σ c f) = some (gSt c r σ y p, up1 σ c f) := by
      have h := C_strength (c := c) (r := r) (p := p) (y := y) (σ := up1 σ c f) (n := n) (by rw [up1_n (by have := hrc 0 (by decide); simpa using this)]; exact hn0) ((wfS_up hrc).mpr hw) (by omega) hy
      rw [h]
      have h9 := congrFun (gS_up (y := y) (σ := σ) (f := f) hrc hc2) p
      unfold gSt at h9 ⊢
      rw [h9]
    rw [X0_hold_L23, fI_e, up1_n (by have := hrc 0 (by decide); simpa using this), hn0, if_pos (nI_lt (by omega) (by omega)), cA_of hst]
    have tailc : ∀ (f : Nat → Int32), f 2 = ents (gSt c r σ y) (p + 1) → f 3 = (hs (gSt c r σ y) p).1 → f 4 = (hs (gSt c r σ y) p).2.2.1 → ∃ f', X0_hold_L60 c r (X0_hold_L23 c r fu) (nI y) (hs (gSt c r σ y) p).2.1 (hs (gSt c r σ y) p).2.2.2 (nI p) (gSt c r σ y p) (up1 σ c f) = some ((), up1 σ c f') ∧ f' 2 = ents (gSt c r σ y) n ∧ f' 3 = (hs (gSt c r σ y) n).1 ∧ f' 4 = (hs (gSt c r σ y) n).2.2.1 := by
      intro f h2 h3 h4
      rw [X0_hold_L60]
      by_cases c1 : (hs (gSt c r σ y) p).2.1 < gSt c r σ y p
      · have e : hs (gSt c r σ y) (p + 1) = (nI p, gSt c r σ y p, (hs (gSt c r σ y) p).1, (hs (gSt c r σ y) p).2.1) := by rw [hs, if_pos c1]
        rw [if_pos c1, fI_e, pI_e, pI_e, up1_s, up1_u, up1_s, up1_u, nI_1]
        have ih := C_holdL hrc hn0 hw hy d (p + 1) fu (upd (upd f 4 (f 3)) 3 (nI p)) (by omega) (by omega) (by rw [updN (by decide), updN (by decide)]; exact h2) (by rw [updS, e]) (by rw [updN (by decide), updS, e, h3])
        rw [e] at ih
        exact ih
      · rw [if_neg c1]
        by_cases c2 : (hs (gSt c r σ y) p).2.2.2 < gSt c r σ y p
        · have e : hs (gSt c r σ y) (p + 1) = ((hs (gSt c r σ y) p).1, (hs (gSt c r σ y) p).2.1, nI p, gSt c r σ y p) := by rw [hs, if_neg c1, if_pos c2]
          rw [if_pos c2, pI_e, up1_s, up1_u, nI_1]
          have ih := C_holdL hrc hn0 hw hy d (p + 1) fu (upd f 4 (nI p)) (by omega) (by omega) (by rw [updN (by decide)]; exact h2) (by rw [updN (by decide), e]; exact h3) (by rw [updS, e])
          rw [e] at ih
          exact ih
        · have e : hs (gSt c r σ y) (p + 1) = hs (gSt c r σ y) p := by rw [hs, if_neg c1, if_neg c2]
          rw [if_neg c2, nI_1]
          have ih := C_holdL hrc hn0 hw hy d (p + 1) fu f (by omega) (by omega) h2 (by rw [e]; exact h3) (by rw [e]; exact h4)
          rw [e] at ih
          exact ih
    by_cases c0 : 0 < gSt c r σ y p
    · rw [if_pos c0, fI_e, pI_e, up1_s, up1_u]
      exact tailc _ (by rw [updS, ents, if_pos c0, h2]) (by rw [updN (by decide)]; exact h3) (by rw [updN (by decide)]; exact h4)
    · rw [if_neg c0]
      exact tailc f (by rw [ents, if_neg c0]; exact h2) h3 h4
theorem C_hold {c r n y : Nat} {σ : Sta} (hrc : ∀ i, i ≤ 5 → r + i ≠ c) (hn0 : σ.1 r 10 = nI n) (hw : wfS r n σ) (hy : y < 8) : ∃ f, X0_hold c r (nI y) σ = some ((), up1 σ c f) ∧ f 2 = ents (gSt c r σ y) n ∧ f 3 = (hs (gSt c r σ y) n).1 ∧ f 4 = (hs (gSt c r σ y) n).2.2.1 := by
  rw [X0_hold, pI_e, pI_e, pI_e, up1_s, up1_u, up1_s, up1_u]
  exact C_holdL hrc hn0 hw hy n 0 FU _ (by omega) (by have := hw.1; show n < 300; omega) (by rw [updN (by decide), updN (by decide), updS]; rfl) (by rw [updN (by decide), updS]; rfl) (by rw [updS]; rfl)
/-- first and second are nobody, or of the people -/
def who (n : Nat) (x : Int32) : Prop := x = -1 ∨ ∃ i, i < n ∧ x = nI i
theorem who_mono {n m : Nat} {x : Int32} (h : who n x) (hm : n ≤ m) : who m x := h.imp id (fun ⟨i, h1, h2⟩ => ⟨i, by omega, h2⟩)
theorem hs_who (g : Nat → Int32) : ∀ n, who n (hs g n).1 ∧ who n (hs g n).2.2.1
  | 0 => ⟨Or.inl rfl, Or.inl rfl⟩
  | p + 1 => by
    obtain ⟨h1, h2⟩ := hs_who g p
    rw [hs]
    split
    · exact ⟨Or.inr ⟨p, by omega, rfl⟩, who_mono h1 (by omega)⟩
    · split
      · exact ⟨who_mono h1 (by omega), Or.inr ⟨p, by omega, rfl⟩⟩
      · exact ⟨who_mono h1 (by omega), who_mono h2 (by omega)⟩
def addW (w : Nat → Int32) (x : Int32) (y : Nat) : Nat → Int32 := if x = -1 then w else upd w (kno x) (w (kno x) ||| ((1 : Int32) <<< (nI y &&& 31)))
def addS (q : Nat → Int32) (x : Int32) : Nat → Int32 := if x = -1 then q else upd q (kno x) (q (kno x) + 1)
theorem within_m1 {b : Int32} {s : Sta} : X11_within (-1) 0 b s = some (0, s) := within_f (Or.inl (by decide))
theorem lt8 {y : Nat} (h : y < 8) : nI y < 8 := nI_lt (b := 8) h (by decide)
theorem nlt8 : ¬ nI 8 < (8 : Int32) := by decide
/-- what a year that goes by does to a valley -/
def passed (r : Nat) (σ : Sta) (a b : Int32) (y : Nat) : Sta :=
  up1 (up1 (up1 (up1 (up1 σ (r + 5) (addW (σ.1 (r + 5)) a y)) (r + 6) (addS (σ.1 (r + 6)) b)) (r + 7) (upd (σ.1 (r + 7)) y a)) (r + 8) (upd (σ.1 (r + 8)) y b)) r (upd (upd (σ.1 r) 11 (nI (y + 1))) 12 (σ.1 r 12 + 1))
theorem C_pass {r n y : Nat} {σ : Sta} {a b : Int32} (hn0 : σ.1 r 10 = nI n) (hn6 : n ≤ 6) (hy0 : σ.1 r 11 = nI y) (hy : y < 8) (ha : who n a) (hb : who n b) : X10_pass r a b σ = some ((), passed r σ a b y) := by
  have e0 : ∀ i, 0 < i → r ≠ r + i := fun i h => by omega
  have l70 : ∀ τ : Sta, τ.1 r 11 = nI y → X10_pass_L70 r a b τ = some ((), up1 (up1 (up1 τ (r + 7) (upd (τ.1 (r + 7)) y a)) (r + 8) (upd (τ.1 (r + 8)) y b)) r (upd (upd (τ.1 r) 11 (nI (y + 1))) 12 (τ.1 r 12 + 1))) := by
    intro τ hτ
    rw [X10_pass_L70, fI_e, hτ, sI_n y hy, fI_e, up1_n (e0 7 (by decide)), hτ, sI_n y hy, up1_n (show r + 8 ≠ r + 7 by omega), fI_e, up1_n (e0 8 (by decide)), up1_n (e0 7 (by decide)), hτ, pI_e, up1_n (e0 8 (by decide)), up1_n (e0 7 (by decide)), fI_e, up1_s, updN (by decide), pI_e, up1_s, up1_u, nI_1]
  have l46 : ∀ τ : Sta, τ.1 r 11 = nI y → τ.1 r 10 = nI n → X10_pass_L46 r a b τ = X10_pass_L70 r a b (up1 τ (r + 6) (addS (τ.1 (r + 6)) b)) := by
    intro τ hτ hn
    rw [X10_pass_L46, fI_e, hn]
    rcases hb with rfl | ⟨i, hi, rfl⟩
    · rw [cA_of within_m1, if_pos rfl, addS, if_pos rfl, up1_id]
    · rw [cA_of (within_ct hi (by omega)), if_neg n10, aI_n i (by omega), sI_n i (by omega), addS, if_neg (nm1 (by omega)), kno_n (by omega)]
  rw [X10_pass, fI_e, hy0, if_neg (nI_pos (by omega)), fI_e, hy0, if_pos (lt8 hy), fI_e, hn0]
  have key : X10_pass_L46 r a b (up1 σ (r + 5) (addW (σ.1 (r + 5)) a y)) = some ((), passed r σ a b y) := by
    rw [l46 _ (by rw [up1_n (e0 5 (by decide))]; exact hy0) (by rw [up1_n (e0 5 (by decide))]; exact hn0), l70 _ (by rw [up1_n (e0 6 (by decide)), up1_n (e0 5 (by decide))]; exact hy0)]
    unfold passed
    rw [up1_n (show r + 6 ≠ r + 5 by omega), up1_n (show r + 7 ≠ r + 6 by omega), up1_n (show r + 7 ≠ r + 5 by omega), up1_n (show r + 8 ≠ r + 6 by omega), up1_n (show r + 8 ≠ r + 5 by omega), up1_n (e0 6 (by decide)), up1_n (e0 5 (by decide))]
  rcases ha with rfl | ⟨i, hi, rfl⟩
  · rw [cA_of within_m1, if_pos rfl]
    rw [addW, if_pos rfl, up1_id] at key
    exact key
  · rw [cA_of (within_ct hi (by omega)), if_neg n10, aI_n i (by omega), fI_e, hy0, sI_n i (by omega)]
    rw [addW, if_neg (nm1 (by omega)), kno_n (by omega)] at key
    exact key
end
section
/-! PURE HALF 4: years gone by on trial: the class -/
abbrev Cq : Type := (Nat → Int32) × (Nat → Int32)
def stp (n : Nat) (ch kd ar so wo : Nat → Int32) (y : Nat) (q : Cq) : Cq := (addW q.1 (hs (fun p => stg ch kd ar q.1 so wo p y) n).1 y, addS q.2 (hs (fun p => stg ch kd ar q.1 so wo p y) n).2.2.1)
def rn (n : Nat) (ch kd ar so wo : Nat → Int32) : Nat → Nat → Cq → Cq
  | 0, _, q => q
  | d + 1, y, q => rn n ch kd ar so wo d (y + 1) (stp n ch kd ar so wo y q)
theorem orb : ∀ w, w < 256 → ∀ y, y < 8 → nI w ||| ((1 : Int32) <<< (nI y &&& 31)) = nI (w ||| 2 ^ y) ∧ w ||| 2 ^ y < 256 := by decide +kernel
theorem WF_addW {n y : Nat} {kd ar wi so wo : Nat → Int32} {x : Int32} (h : WF n kd ar wi so wo) (hx : who n x) (hy : y < 8) : WF n kd ar (addW wi x y) so wo := by
  obtain ⟨h1, h2, h3, h4, h5, h6⟩ := h
  refine ⟨h1, h2, h3, fun p hp => ?_, h5, h6⟩
  rcases hx with rfl | ⟨i, hi, rfl⟩
  · rw [addW, if_pos rfl]
    exact h4 p hp
  · rw [addW, if_neg (nm1 (by omega)), kno_n (by omega)]
    by_cases e : p = i
    · subst e
      obtain ⟨w, hw, ew⟩ := h4 p hp
      rw [updS, ew]
      exact ⟨_, (orb w hw y hy).2, (orb w hw y hy).1⟩
    · rw [updN e]
      exact h4 p hp
theorem WF_stp {n y : Nat} {ch kd ar so wo : Nat → Int32} {q : Cq} (h : WF n kd ar q.1 so wo) (hy : y < 8) : WF n kd ar (stp n ch kd ar so wo y q).1 so wo := WF_addW h (hs_who _ n).1 hy
theorem WF_rn {n : Nat} {ch kd ar so wo : Nat → Int32} : ∀ (d y : Nat) (q : Cq), WF n kd ar q.1 so wo → y + d ≤ 8 → WF n kd ar (rn n ch kd ar so wo d y q).1 so wo
  | 0, _, _, h, _ => h
  | d + 1, y, q, h, hy => WF_rn d (y + 1) _ (WF_stp h (by omega)) (by omega)
theorem rn_add {n : Nat} {ch kd ar so wo : Nat → Int32} : ∀ (d e y : Nat) (q : Cq), rn n ch kd ar so wo (d + e) y q = rn n ch kd ar so wo e (y + d) (rn n ch kd ar so wo d y q)
  | 0, e, y, q => by rw [Nat.zero_add]; rfl
  | d + 1, e, y, q => by
    rw [show d + 1 + e = (d + e) + 1 by omega, rn, rn_add d e (y + 1), rn, show y + 1 + d = y + (d + 1) by omega]
/-- the trial: n people, year y, who chose what, .. -/
def Tr (n y : Nat) (ch kd ar so wo : Nat → Int32) (q : Cq) (τ : Sta) : Prop := τ.1 65 10 = nI n ∧ τ.1 65 11 = nI y ∧ τ.1 57 = ch ∧ τ.1 68 = kd ∧ τ.1 69 = ar ∧ τ.1 66 = so ∧ τ.1 67 = wo ∧ τ.1 70 = q.1 ∧ τ.1 71 = q.2
def FrT (σ τ : Sta) : Prop := (∀ k, k ≠ 55 → k ≠ 65 → k ≠ 70 → k ≠ 71 → k ≠ 72 → k ≠ 73 → τ.1 k = σ.1 k) ∧ τ.2 = σ.2
theorem FrT.rf (σ : Sta) : FrT σ σ := ⟨fun _ _ _ _ _ _ _ => rfl, rfl⟩
theorem FrT.tr {a b c : Sta} (h1 : FrT a b) (h2 : FrT b c) : FrT a c := ⟨fun k q1 q2 q3 q4 q5 q6 => (h2.1 k q1 q2 q3 q4 q5 q6).trans (h1.1 k q1 q2 q3 q4 q5 q6), h2.2.trans h1.2⟩
theorem Tr.gSt {n y : Nat} {ch kd ar so wo : Nat → Int32} {q : Cq} {τ : Sta} (h : Tr n y ch kd ar so wo q τ) (z : Nat) : gSt 55 65 τ z = fun p => stg ch kd ar q.1 so wo p z := by
  obtain ⟨h1, h2, h3, h4, h5, h6, h7, h8, h9⟩ := h
  funext p
  show stg (τ.1 57) (τ.1 68) (τ.1 69) (τ.1 70) (τ.1 66) (τ.1 67) p z = _
  rw [h3, h4, h5, h6, h7, h8]
theorem Tr.wf {n y : Nat} {ch kd ar so wo : Nat → Int32} {q : Cq} {τ : Sta} (h : Tr n y ch kd ar so wo q τ) (hw : WF n kd ar q.1 so wo) : wfS 65 n τ := by
  obtain ⟨h1, h2, h3, h4, h5, h6, h7, h8, h9⟩ := h
  show WF n (τ.1 68) (τ.1 69) (τ.1 70) (τ.1 66) (τ.1 67)
  rw [h4, h5, h6, h7, h8]
  exact hw
theorem C_runL {n e : Nat} {ch kd ar so wo : Nat → Int32} (he : e ≤ 8) : ∀ (d y fu : Nat) (q : Cq) (τ : Sta), y + d = e → d < fu → Tr n y ch kd ar so wo q τ → WF n kd ar q.1 so wo → ∃ τ', X2_runTo_L8 fu (nI e) (nI y) τ = some ((), τ') ∧ Tr n e ch kd ar so wo (rn n ch kd ar so wo d y q) τ' ∧ FrT τ τ'
  | d, y, 0, q, τ, _, h, _, _ => by omega
  | 0, y, fu + 1, q, τ, hyd, _, hT, hw => by
    have hye : y = e := by omega
    subst hye
    refine ⟨τ, ?_, hT, FrT.rf τ⟩
    rw [X2_runTo_L8, if_neg (nI_nlt (Nat.le_refl _) (by omega))]
  | d + 1, y, fu + 1, q, τ, hyd, hf, hT, hw => by
    obtain ⟨f, h1, h2, h3, h4⟩ := C_hold (c := 55) (r := 65) (y := y) (by intro i hi; omega) hT.1 (hT.wf hw) (by omega)
    rw [hT.gSt] at h3 h4
    have hwho := hs_who (fun p => stg ch kd ar q.1 so wo p y) n
    have hp := C_pass (r := 65) (σ := up1 τ 55 f) (n := n) (y := y) (a := f 3) (b := f 4) (by rw [up1_n (by decide)]; exact hT.1) hw.1 (by rw [up1_n (by decide)]; exact hT.2.1) (by omega) (by rw [h3]; exact hwho.1) (by rw [h4]; exact hwho.2)
    have hT2 : Tr n (y + 1) ch kd ar so wo (stp n ch kd ar so wo y q) (passed 65 (up1 τ 55 f) (f 3) (f 4) y) := by
      obtain ⟨g1, g2, g3, g4, g5, g6, g7, g8, g9⟩ := hT
      refine ⟨?_, ?_, ?_, ?_, ?_, ?_, ?_, ?_, ?_⟩ <;> simp [passed, up1, va_up, upd, stp] <;> first | assumption | (rw [g8, h3]) | (rw [g9, h4])
    have hF : FrT τ (passed 65 (up1 τ 55 f) (f 3) (f 4) y) := ⟨fun k q1 q2 q3 q4 q5 q6 => by simp [passed, up1, va_up, q1, q2, q3, q4, q5, q6], rfl⟩
    obtain ⟨τ', e1, e2, e3⟩ := C_runL he d (y + 1) fu _ _ (by omega) (by omega) hT2 (WF_stp hw (by omega))
    refine ⟨τ', ?_, e2, hF.tr e3⟩
    rw [X2_runTo_L8, if_pos (nI_lt (by omega) (by omega)), if_pos (lt8 (by omega)), cA_of h1, fI_e, fI_e, up1_s, cA_of hp, nI_1]
    exact e1
theorem C_runTo {n y e : Nat} {ch kd ar so wo : Nat → Int32} {q : Cq} {σ : Sta} (hT : Tr n y ch kd ar so wo q σ) (hw : WF n kd ar q.1 so wo) (hy : y ≤ e) (he : e ≤ 8) : ∃ τ, X2_runTo (nI e) σ = some ((), τ) ∧ Tr n e ch kd ar so wo (rn n ch kd ar so wo (e - y) y q) τ ∧ FrT σ τ := by
  rw [X2_runTo, fI_e, hT.2.1]
  exact C_runL he (e - y) y FU q σ (by omega) (by show _ < 300; omega) hT hw
end
section
/-! PURE HALF 5: fill, the trial's beginning; agreement of courses -/
theorem fillL {n k : Nat} {v : Int32} {σ : Sta} (hn : n < 2 ^ 31) : ∀ (d i fu : Nat) (f : Nat → Int32), i + d = n → d < fu → J7_fill_53178_L5 n k fu v (nI i) (nI n) (up1 σ k f) = some ((), up1 σ k (fun j => if i ≤ j ∧ j < n then v else f j))
  | d, i, 0, f, _, h => by omega
  | 0, i, fu + 1, f, hid, _ => by
    have hin : i = n := by omega
    subst hin
    rw [J7_fill_53178_L5, if_neg (nI_nlt (Nat.le_refl _) hn)]
    congr 3
    funext j
    rw [if_neg (by omega)]
  | d + 1, i, fu + 1, f, hid, hf => by
    rw [J7_fill_53178_L5, if_pos (nI_lt (by omega) hn), sI_n i (by omega) hn, up1_s, up1_u, nI_1, fillL hn d (i + 1) fu _ (by omega) (by omega)]
    congr 3
    funext j
    by_cases h : j = i
    · subst h
      rw [updS, if_neg (by omega), if_pos (by omega)]
    · rw [updN h]
      by_cases h2 : i + 1 ≤ j ∧ j < n
      · rw [if_pos h2, if_pos (by omega)]
      · rw [if_neg h2, if_neg (by omega)]
theorem fill_e {n k : Nat} {v : Int32} {σ : Sta} (hn : n < 300) : J7_fill_53178 n k v σ = some ((), up1 σ k (fun j => if j < n then v else σ.1 k j)) := by
  have h := fillL (n := n) (k := k) (v := v) (σ := σ) (by omega) n 0 FU (σ.1 k) (by omega) hn
  rw [up1_id] at h
  rw [J7_fill_53178]
  have h2 : J7_fill_53178_L5 n k FU v (0 : Int32) (Int32.ofNat n) σ = some ((), up1 σ k (fun j => if 0 ≤ j ∧ j < n then v else σ.1 k j)) := h
  rw [h2]
  simp
theorem allByKind_e (c : Nat) (σ : Sta) : X0_allByKind c σ = some ((), up1 σ (c + 2) (fun j => if j < 6 then -1 else σ.1 (c + 2) j)) := by
  rw [X0_allByKind, cA_of (fill_e (by decide))]
/-- cells that questions may change: contest, choices, trial, rows of worths; the reference's hand -/
def isQ (k : Nat) : Prop := k = 55 ∨ k = 57 ∨ (65 ≤ k ∧ k ≤ 73) ∨ k = 78 ∨ k = 79 ∨ (87 ≤ k ∧ k ≤ 93)
def FrQ (σ τ : Sta) : Prop := (∀ k, ¬ isQ k → τ.1 k = σ.1 k) ∧ τ.2 = σ.2
theorem FrQ.rf (σ : Sta) : FrQ σ σ := ⟨fun _ _ => rfl, rfl⟩
theorem FrQ.tr {a b c : Sta} (h1 : FrQ a b) (h2 : FrQ b c) : FrQ a c := ⟨fun k q => (h2.1 k q).trans (h1.1 k q), h2.2.trans h1.2⟩
theorem FrT.q {a b : Sta} (h : FrT a b) : FrQ a b := ⟨fun k q => h.1 k (fun e => q (Or.inl e)) (fun e => q (by unfold isQ; omega)) (fun e => q (by unfold isQ; omega)) (fun e => q (by unfold isQ; omega)) (fun e => q (by unfold isQ; omega)) (fun e => q (by unfold isQ; omega)), h.2⟩
theorem FrQ.up {σ : Sta} {k : Nat} {f : Nat → Int32} (h : isQ k) : FrQ σ (up1 σ k f) := ⟨fun j q => up1_n (fun e => q (by rw [e]; exact h)), rfl⟩
theorem FrQ.at {σ τ : Sta} (h : FrQ σ τ) {k : Nat} (hk : ¬ isQ k) : τ.1 k = σ.1 k := h.1 k hk
/-- cells that a trial changes -/
def isB (k : Nat) : Prop := k = 55 ∨ k = 57 ∨ (65 ≤ k ∧ k ≤ 73)
def FrB (σ τ : Sta) : Prop := (∀ k, ¬ isB k → τ.1 k = σ.1 k) ∧ τ.2 = σ.2
theorem FrB.rf (σ : Sta) : FrB σ σ := ⟨fun _ _ => rfl, rfl⟩
theorem FrB.tr {a b c : Sta} (h1 : FrB a b) (h2 : FrB b c) : FrB a c := ⟨fun k q => (h2.1 k q).trans (h1.1 k q), h2.2.trans h1.2⟩
theorem FrT.b {a b : Sta} (h : FrT a b) : FrB a b := ⟨fun k q => h.1 k (fun e => q (Or.inl e)) (fun e => q (by unfold isB; omega)) (fun e => q (by unfold isB; omega)) (fun e => q (by unfold isB; omega)) (fun e => q (by unfold isB; omega)) (fun e => q (by unfold isB; omega)), h.2⟩
theorem FrB.up {σ : Sta} {k : Nat} {f : Nat → Int32} (h : isB k) : FrB σ (up1 σ k f) := ⟨fun j q => up1_n (fun e => q (by rw [e]; exact h)), rfl⟩
theorem FrB.q {a b : Sta} (h : FrB a b) : FrQ a b := ⟨fun k q => h.1 k (fun e => q (by unfold isB at e; unfold isQ; omega)), h.2⟩
abbrev cpf (n : Nat) (f g : Nat → Int32) : Nat → Int32 := va_cpy f g 0 0 n
theorem cpf_in {n j : Nat} {f g : Nat → Int32} (h : j < n) : cpf n f g j = f j := by
  have := pk_cpy_in (f := f) (g := g) (sp := 0) (dp := 0) (n := n) (j := j) (by omega) (by omega)
  simpa using this
theorem C_begin {n y : Nat} {σ : Sta} (h10 : σ.1 1 10 = nI n) (h11 : σ.1 1 11 = nI y) : ∃ τ, X2_begin 1 σ = some ((), τ) ∧ Tr n y (fun j => if j < 6 then -1 else σ.1 57 j) (cpf 6 (σ.1 4) (σ.1 68)) (cpf 18 (σ.1 5) (σ.1 69)) (cpf 8 (σ.1 2) (σ.1 66)) (cpf 8 (σ.1 3) (σ.1 67)) (cpf 6 (σ.1 6) (σ.1 70), cpf 6 (σ.1 7) (σ.1 71)) τ ∧ FrB σ τ := by
  rw [X2_begin, X10_takeCourse]
  simp only [cpI_e, fI_e, pI_e, cA_e, allByKind_e]
  refine ⟨_, rfl, ?_, ?_⟩
  · refine ⟨?_, ?_, ?_, ?_, ?_, ?_, ?_, ?_, ?_⟩ <;> simp [up1, va_up, upd, h10, h11]
  · refine ⟨fun k hk => ?_, rfl⟩
    have : k ≠ 55 ∧ k ≠ 57 ∧ k ≠ 65 ∧ k ≠ 66 ∧ k ≠ 67 ∧ k ≠ 68 ∧ k ≠ 69 ∧ k ≠ 70 ∧ k ≠ 71 := by unfold isB at hk; omega
    obtain ⟨a1, a2, a3, a4, a5, a6, a7, a8, a9⟩ := this
    simp [up1, va_up, a1, a2, a3, a4, a5, a6, a7, a8, a9]
/-- two courses alike as far as anybody looks -/
def Ag (n : Nat) (ch kd ar so wo ch' kd' ar' so' wo' : Nat → Int32) : Prop := (∀ p, p < n → ch p = ch' p ∧ kd p = kd' p ∧ ∀ t, t < 3 → ar (3 * p + t) = ar' (3 * p + t)) ∧ ∀ y, y < 8 → so y = so' y ∧ wo y = wo' y
def AgQ (n : Nat) (q q' : Cq) : Prop := ∀ p, p < n → q.1 p = q'.1 p ∧ q.2 p = q'.2 p
theorem stg_ag {n p y : Nat} {ch kd ar so wo ch' kd' ar' so' wo' wi wi' : Nat → Int32} (h : Ag n ch kd ar so wo ch' kd' ar' so' wo') (hw : WF n kd ar wi so wo) (hwi : wi p = wi' p) (hp : p < n) (hy : y < 8) : stg ch kd ar wi so wo p y = stg ch' kd' ar' wi' so' wo' p y := by
  obtain ⟨h1, h2⟩ := h
  obtain ⟨a1, a2, a3⟩ := h1 p hp
  obtain ⟨b1, b2⟩ := h2 y hy
  unfold stg
  rw [← a1, ← a2, ← b1, ← b2, ← hwi]
  by_cases e : so y = -1
  · rw [if_pos e, if_pos e]
  · rw [if_neg e, if_neg e]
    obtain ⟨t, ht, et⟩ := (hw.2.2.2.2.1 y hy).resolve_left e
    rw [et, kno_n (by omega), a3 t ht]
theorem hs_ag {g g' : Nat → Int32} : ∀ n, (∀ p, p < n → g p = g' p) → hs g n = hs g' n
  | 0, _ => rfl
  | n + 1, h => by rw [hs, hs, hs_ag n (fun p hp => h p (by omega)), h n (by omega)]
theorem ents_ag {g g' : Nat → Int32} : ∀ n, (∀ p, p < n → g p = g' p) → ents g n = ents g' n
  | 0, _ => rfl
  | n + 1, h => by rw [ents, ents, ents_ag n (fun p hp => h p (by omega)), h n (by omega)]
theorem addW_ag {n p y : Nat} {w w' : Nat → Int32} {x : Int32} (h : ∀ p, p < n → w p = w' p) (hn : n ≤ 6) (hx : who n x) (hp : p < n) : addW w x y p = addW w' x y p := by
  rcases hx with rfl | ⟨i, hi, rfl⟩
  · rw [addW, addW, if_pos rfl, if_pos rfl]; exact h p hp
  · rw [addW, addW, if_neg (nm1 (by omega)), if_neg (nm1 (by omega)), kno_n (by omega)]
    by_cases e : p = i
    · subst e; rw [updS, updS, h p hp]
    · rw [updN e, updN e, h p hp]
theorem addS_ag {n p : Nat} {w w' : Nat → Int32} {x : Int32} (h : ∀ p, p < n → w p = w' p) (hn : n ≤ 6) (hx : who n x) (hp : p < n) : addS w x p = addS w' x p := by
  rcases hx with rfl | ⟨i, hi, rfl⟩
  · rw [addS, addS, if_pos rfl, if_pos rfl]; exact h p hp
  · rw [addS, addS, if_neg (nm1 (by omega)), if_neg (nm1 (by omega)), kno_n (by omega)]
    by_cases e : p = i
    · subst e; rw [updS, updS, h p hp]
    · rw [updN e, updN e, h p hp]
theorem stp_ag {n y : Nat} {ch kd ar so wo ch' kd' ar' so' wo' : Nat → Int32} {q q' : Cq} (h : Ag n ch kd ar so wo ch' kd' ar' so' wo') (hw : WF n kd ar q.1 so wo) (hq : AgQ n q q') (hy : y < 8) : AgQ n (stp n ch kd ar so wo y q) (stp n ch' kd' ar' so' wo' y q') := by
  have e : hs (fun p => stg ch kd ar q.1 so wo p y) n = hs (fun p => stg ch' kd' ar' q'.1 so' wo' p y) n := hs_ag n (fun p hp => stg_ag h hw (hq p hp).1 hp hy)
  intro p hp
  unfold stp
  rw [← e]
  exact ⟨addW_ag (fun p hp => (hq p hp).1) hw.1 (hs_who _ n).1 hp, addS_ag (fun p hp => (hq p hp).2) hw.1 (hs_who _ n).2 hp⟩
theorem rn_ag {n : Nat} {ch kd ar so wo ch' kd' ar' so' wo' : Nat → Int32} (h : Ag n ch kd ar so wo ch' kd' ar' so' wo') : ∀ (d y : Nat) (q q' : Cq), WF n kd ar q.1 so wo → AgQ n q q' → y + d ≤ 8 → AgQ n (rn n ch kd ar so wo d y q) (rn n ch' kd' ar' so' wo' d y q')
  | 0, _, _, _, _, hq, _ => hq
  | d + 1, y, q, q', hw, hq, hy => rn_ag h d (y + 1) _ _ (WF_stp hw (by omega)) (stp_ag h hw hq (by omega)) (by omega)
theorem WF_ag {n : Nat} {ch kd ar so wo ch' kd' ar' so' wo' wi wi' : Nat → Int32} (h : Ag n ch kd ar so wo ch' kd' ar' so' wo') (hwi : ∀ p, p < n → wi p = wi' p) (hw : WF n kd ar wi so wo) : WF n kd' ar' wi' so' wo' := by
  obtain ⟨h1, h2, h3, h4, h5, h6⟩ := hw
  exact ⟨h1, fun p hp => by rw [← (h.1 p hp).2.1]; exact h2 p hp, fun p hp t ht => by rw [← (h.1 p hp).2.2 t ht]; exact h3 p hp t ht, fun p hp => by rw [← hwi p hp]; exact h4 p hp, fun y hy => by rw [← (h.2 y hy).1]; exact h5 y hy, fun y hy => by rw [← (h.2 y hy).2]; exact h6 y hy⟩
end
section
/-! PURE HALF 6: the reference's contests and years -/
theorem a4 (p : Nat) : (4 : Int32) + nI p = nI (4 + p) := nI_add 4 p
theorem a5 (p : Nat) : (5 : Int32) + nI p = nI (5 + p) := nI_add 5 p
theorem a11 (p : Nat) : (11 : Int32) + nI p = nI (11 + p) := nI_add 11 p
theorem a17 (p : Nat) : (17 : Int32) + nI p = nI (17 + p) := nI_add 17 p
theorem a41 (p : Nat) : (41 : Int32) + nI p = nI (41 + p) := nI_add 41 p
theorem a49 (p : Nat) : (49 : Int32) + nI p = nI (49 + p) := nI_add 49 p
theorem m23 (p t : Nat) : ((23 : Int32) + (3 : Int32) * nI p) + nI t = nI (23 + (3 * p + t)) := by
  have h1 : (3 : Int32) = nI 3 := rfl
  have h2 : (23 : Int32) = nI 23 := rfl
  rw [h1, h2, pk_mul, nI_add, nI_add, Nat.add_assoc]
def kM (N : Nat → Int32) : Nat → Int32 := fun p => N (17 + p)
def aM (N : Nat → Int32) : Nat → Int32 := fun j => N (23 + j)
def chM (t : Nat → Int32) : Nat → Int32 := fun p => if t p = -2 then -1 else t p
def wfM (n : Nat) (σ : Sta) : Prop := WF n (kM (σ.1 83)) (aM (σ.1 83)) (σ.1 87) (σ.1 89) (σ.1 90) ∧ ∀ p, p < n → σ.1 91 p ≠ -1
def gM (σ : Sta) (y : Nat) : Nat → Int32 := fun p => stg (chM (σ.1 91)) (kM (σ.1 83)) (aM (σ.1 83)) (σ.1 87) (σ.1 89) (σ.1 90) p y
theorem aI0 {β : Type} {σ : Sta} {k n : Nat} {K : Int32 → Option β} (h : 0 < n) (hn : n < 2 ^ 31 := by decide) : aI σ k n (0 : Int32) K = K (σ.1 k 0) := aI_n 0 h hn
theorem M_many (σ : Sta) : X12_many σ = some (σ.1 83 0, σ) := by rw [X12_many, aI0 (by decide)]
theorem M_isBarred {n p : Nat} {σ : Sta} (hw : wfM n σ) (hp : p < n) : X12_isBarred (nI p) σ = some (bi (barP (kno (kM (σ.1 83) p)) (bcE (σ.1 87 p))), σ) := by
  obtain ⟨⟨hn, hk, ha, hwi, hso, hwo⟩, -⟩ := hw
  obtain ⟨k, hk6, ek⟩ := hk p hp
  obtain ⟨w, hw8, ew⟩ := hwi p hp
  have ek2 : σ.1 83 (17 + p) = nI k := ek
  rw [X12_isBarred, a17, aI_n (17 + p) (by omega), ek2, aI_n p (by omega), ew, cA_of (M_bits hw8 σ), cA_of (M_isBarredBy hk6 _ σ), rZ_b, bcE_p w hw8]
  unfold kM
  rw [ek2, kno_n (by omega)]
theorem M_tries {n p y : Nat} {σ : Sta} (hw : wfM n σ) (hp : p < n) (hy : y < 8) : X12_tries (nI p) (nI y) σ = some (bi (if chM (σ.1 91) p = -1 then wantsP (kno (kM (σ.1 83) p)) (σ.1 90 y) (nI (7 - y)) else decide (chM (σ.1 91) p = nI y)), σ) := by
  obtain ⟨⟨hn, hk, ha, hwi, hso, hwo⟩, hch⟩ := hw
  obtain ⟨k, hk6, ek⟩ := hk p hp
  have ek2 : σ.1 83 (17 + p) = nI k := ek
  rw [X12_tries, aI_n p (by omega)]
  by_cases h : σ.1 91 p = -2
  · have e : chM (σ.1 91) p = -1 := by rw [chM, if_pos h]
    rw [if_pos h, a17, aI_n (17 + p) (by omega), ek2, aI_n y hy, sub7 hy, cA_of (M_triesAs hk6 _ _ σ), rZ_b, if_pos e]
    unfold kM
    rw [ek2, kno_n (by omega)]
  · have e : chM (σ.1 91) p = σ.1 91 p := by rw [chM, if_neg h]
    rw [if_neg h, aI_n p (by omega), e, if_neg (hch p hp)]
    by_cases h2 : σ.1 91 p = nI y
    · rw [if_pos h2, decide_eq_true h2]; rfl
    · rw [if_neg h2, decide_eq_false h2]; rfl
theorem M_goodOf {n p t y : Nat} {σ : Sta} (hw : wfM n σ) (hp : p < n) (ht : t < 3) (hy : y < 8) : X12_goodOf (nI p) (nI t) (nI y) σ = some (skillP (kno (kM (σ.1 83) p)) (aM (σ.1 83) (3 * p + t)) (nI y), σ) := by
  obtain ⟨⟨hn, hk, ha, hwi, hso, hwo⟩, hch⟩ := hw
  obtain ⟨k, hk6, ek⟩ := hk p hp
  obtain ⟨a, ha10, ea⟩ := ha p hp t ht
  have ek2 : σ.1 83 (17 + p) = nI k := ek
  have ea2 : σ.1 83 (23 + (3 * p + t)) = nI a := ea
  rw [X12_goodOf, a17, aI_n (17 + p) (by omega), ek2, m23, aI_n (23 + (3 * p + t)) (by omega), ea2, cA_of (M_goodAs hk6 ha10 hy σ), ek, ea, kno_n (by omega)]
/-- what one is good for, if one enters -/
theorem M_goodIf {n p y : Nat} {σ : Sta} (hw : wfM n σ) (hp : p < n) (hy : y < 8) (h : ¬ gM σ y p < 1) : X12_goodOf (nI p) (σ.1 89 y) (nI y) σ = some (gM σ y p, σ) := by
  unfold gM stg at h ⊢
  by_cases h1 : σ.1 89 y = -1
  · rw [if_pos h1] at h
    exact absurd (by decide) h
  · rw [if_neg h1] at h ⊢
    obtain ⟨t, ht, et⟩ := (hw.1.2.2.2.2.1 y hy).resolve_left h1
    by_cases h2 : barP (kno (kM (σ.1 83) p)) (bcE (σ.1 87 p)) = true
    · rw [if_pos h2] at h
      exact absurd (by decide) h
    · rw [if_neg h2] at h ⊢
      by_cases h3 : (if chM (σ.1 91) p = -1 then wantsP (kno (kM (σ.1 83) p)) (σ.1 90 y) (nI (7 - y)) else decide (chM (σ.1 91) p = nI y)) = true
      · rw [if_pos h3, et, kno_n (by omega)]
        exact M_goodOf hw hp ht hy
      · rw [if_neg h3] at h
        exact absurd (by decide) h
theorem M_enters {n p y : Nat} {σ : Sta} (hw : wfM n σ) (hp : p < n) (hy : y < 8) : X12_enters (nI p) (nI y) σ = some (bi (!decide (gM σ y p < 1)), σ) := by
  rw [X12_enters, aI_n y hy]
  unfold gM stg
  by_cases h1 : σ.1 89 y = -1
  · rw [if_pos h1, if_pos h1]; rfl
  · rw [if_neg h1, if_neg h1, cA_of (M_isBarred hw hp)]
    obtain ⟨t, ht, et⟩ := (hw.1.2.2.2.2.1 y hy).resolve_left h1
    by_cases h2 : barP (kno (kM (σ.1 83) p)) (bcE (σ.1 87 p)) = true
    · rw [h2]; rfl
    · rw [if_neg h2, Bool.not_eq_true] at *
      rw [h2]
      simp only [bi, Bool.false_eq_true, if_false, if_true]
      rw [cA_of (M_tries hw hp hy)]
      by_cases h3 : (if chM (σ.1 91) p = -1 then wantsP (kno (kM (σ.1 83) p)) (σ.1 90 y) (nI (7 - y)) else decide (chM (σ.1 91) p = nI y)) = true
      · rw [if_pos h3, h3]
        simp only [bi, if_true, if_neg n10]
        rw [aI_n y hy, et, cA_of (M_goodOf hw hp ht hy), kno_n (by omega)]
        by_cases h4 : skillP (kno (kM (σ.1 83) p)) (aM (σ.1 83) (3 * p + t)) (nI y) < 1
        · rw [if_pos h4, decide_eq_true h4]; rfl
        · rw [if_neg h4, decide_eq_false h4]; rfl
      · rw [if_neg h3]
        rw [Bool.not_eq_true] at h3
        rw [h3]
        rfl
def mb (g : Nat → Int32) (x : Int32) : Nat → Int32 × Int32
  | 0 => (-1, 0)
  | p + 1 => if nI p = x then mb g x p else if g p < 1 then mb g x p else if (mb g x p).2 < g p then (nI p, g p) else mb g x p
theorem M_bestL {n y : Nat} {x : Int32} {σ : Sta} (hn0 : σ.1 83 0 = nI n) (hw : wfM n σ) (hy : y < 8) : ∀ (d p fu : Nat), p + d = n → d < fu → X12_bestIn_L8 fu (nI y) x (mb (gM σ y) x p).1 (mb (gM σ y) x p).2 (nI p) σ = some ((mb (gM σ y) x n).1, σ)
  | d, p, 0, _, h => by omega
  | 0, p, fu + 1, hpd, _ => by
    have e : p = n := by omega
    subst e
    rw [X12_bestIn_L8, cA_of (M_many σ), hn0, if_neg (nI_nlt (Nat.le_refl _) (by have := hw.1.1; omega))]
  | d + 1, p, fu + 1, hpd, hf => by
    have hn6 := hw.1.1
    have ih := M_bestL hn0 hw hy (x := x) d (p + 1) fu (by omega) (by omega)
    rw [X12_bestIn_L8, cA_of (M_many σ), hn0, if_pos (nI_lt (by omega) (by omega)), nI_1]
    by_cases c1 : nI p = x
    · rw [if_pos c1]
      rw [show mb (gM σ y) x (p + 1) = mb (gM σ y) x p by rw [mb, if_pos c1]] at ih
      exact ih
    · rw [if_neg c1, cA_of (M_enters hw (by omega) hy)]
      by_cases c2 : gM σ y p < 1
      · rw [decide_eq_true c2]
        rw [show mb (gM σ y) x (p + 1) = mb (gM σ y) x p by rw [mb, if_neg c1, if_pos c2]] at ih
        exact ih
      · rw [decide_eq_false c2, if_neg (by decide), aI_n y hy, cA_of (M_goodIf hw (by omega) hy c2)]
        by_cases c3 : (mb (gM σ y) x p).2 < gM σ y p
        · rw [if_pos c3, aI_n y hy, cA_of (M_goodIf hw (by omega) hy c2)]
          rw [show mb (gM σ y) x (p + 1) = (nI p, gM σ y p) by rw [mb, if_neg c1, if_neg c2, if_pos c3]] at ih
          exact ih
        · rw [if_neg c3]
          rw [show mb (gM σ y) x (p + 1) = mb (gM σ y) x p by rw [mb, if_neg c1, if_neg c2, if_neg c3]] at ih
          exact ih
theorem M_bestIn {n y : Nat} {x : Int32} {σ : Sta} (hn0 : σ.1 83 0 = nI n) (hw : wfM n σ) (hy : y < 8) : X12_bestIn (nI y) x σ = some ((mb (gM σ y) x n).1, σ) :=
  M_bestL hn0 hw hy n 0 FU (by omega) (by have := hw.1.1; show n < 300; omega)
-- one pass and two passes
theorem mb_pos (g : Nat → Int32) (x : Int32) : ∀ n, 0 ≤ (mb g x n).2.toInt
  | 0 => by
    show (0 : Int) ≤ (0 : Int32).toInt
    decide
  | p + 1 => by
    rw [mb]
    split
    · exact mb_pos g x p
    · split
      · exact mb_pos g x p
      · split
        · rename_i h1 h2 h3
          rw [ilt] at h3
          have := mb_pos g x p
          show 0 ≤ (g p).toInt
          omega
        · exact mb_pos g x p
theorem lt1 {x : Int32} : x < 1 ↔ x.toInt < 1 := by rw [ilt]; rfl
theorem mb_far {g : Nat → Int32} {i : Nat} (hi : i < 2 ^ 31) : ∀ p, p ≤ i → mb g (nI i) p = mb g (-1) p
  | 0, _ => rfl
  | p + 1, h => by
    rw [mb, mb, mb_far hi p (by omega), if_neg (fun e => by have := (nI_eq (by omega) hi).mp e; omega), if_neg (nm1 (by omega))]
theorem hs_mb {g : Nat → Int32} : ∀ n, n ≤ 6 → (hs g n).1 = (mb g (-1) n).1 ∧ (hs g n).2.1 = (mb g (-1) n).2 ∧ ((hs g n).1 = -1 → (hs g n).2.2.1 = -1 ∧ (hs g n).2.2.2 = 0 ∧ (hs g n).2.1 = 0) ∧ ((hs g n).1 ≠ -1 → (hs g n).2.2.1 = (mb g (hs g n).1 n).1 ∧ (hs g n).2.2.2 = (mb g (hs g n).1 n).2)
  | 0, _ => ⟨rfl, rfl, fun _ => ⟨rfl, rfl, rfl⟩, fun h => absurd rfl h⟩
  | p + 1, h6 => by
    obtain ⟨h1, h2, h3, h4⟩ := hs_mb (g := g) p (by omega)
    have hpos := mb_pos g (-1) p
    have hpm : ¬ nI p = -1 := nm1 (by omega)
    by_cases c1 : (hs g p).2.1 < g p
    · have c1' : (mb g (-1) p).2 < g p := by rw [← h2]; exact c1
      have c2 : ¬ g p < 1 := by rw [lt1]; rw [ilt] at c1'; omega
      have e1 : hs g (p + 1) = (nI p, g p, (hs g p).1, (hs g p).2.1) := by rw [hs, if_pos c1]
      have e2 : mb g (-1) (p + 1) = (nI p, g p) := by rw [mb, if_neg hpm, if_neg c2, if_pos c1']
      rw [e1, e2]
      refine ⟨rfl, rfl, fun h => absurd h hpm, fun _ => ?_⟩
      have e3 : mb g (nI p) (p + 1) = mb g (-1) p := by rw [mb, if_pos rfl, mb_far (by omega) p (Nat.le_refl p)]
      show (hs g p).1 = (mb g (nI p) (p + 1)).1 ∧ (hs g p).2.1 = (mb g (nI p) (p + 1)).2
      rw [e3]
      exact ⟨h1, h2⟩
    · have c1' : ¬ (mb g (-1) p).2 < g p := by rw [← h2]; exact c1
      have e2 : mb g (-1) (p + 1) = mb g (-1) p := by
        rw [mb, if_neg hpm]
        by_cases c0 : g p < 1
        · rw [if_pos c0]
        · rw [if_neg c0, if_neg c1']
      have hwho := (hs_who g p).1
      by_cases c2 : (hs g p).2.2.2 < g p
      · have e1 : hs g (p + 1) = ((hs g p).1, (hs g p).2.1, nI p, g p) := by rw [hs, if_neg c1, if_pos c2]
        have hne : (hs g p).1 ≠ -1 := by
          intro e
          obtain ⟨-, q2, q3⟩ := h3 e
          rw [q2] at c2
          rw [q3] at c1
          exact c1 c2
        obtain ⟨g1, g2⟩ := h4 hne
        rw [e1, e2]
        refine ⟨h1, h2, fun h => absurd h hne, fun _ => ?_⟩
        have hpos2 := mb_pos g (hs g p).1 p
        have c3 : ¬ g p < 1 := by
          rw [g2, ilt] at c2
          rw [lt1]
          omega
        obtain ⟨i, hi, ei⟩ := hwho.resolve_left hne
        have c4 : ¬ nI p = (hs g p).1 := by
          rw [ei]
          intro e
          have := (nI_eq (by omega) (by omega)).mp e
          omega
        show nI p = (mb g (hs g p).1 (p + 1)).1 ∧ g p = (mb g (hs g p).1 (p + 1)).2
        rw [mb, if_neg c4, if_neg c3, if_pos (by rw [← g2]; exact c2)]
        exact ⟨rfl, rfl⟩
      · have e1 : hs g (p + 1) = hs g p := by rw [hs, if_neg c1, if_neg c2]
        rw [e1, e2]
        refine ⟨h1, h2, h3, fun hne => ?_⟩
        obtain ⟨g1, g2⟩ := h4 hne
        obtain ⟨i, hi, ei⟩ := hwho.resolve_left hne
        have c4 : ¬ nI p = (hs g p).1 := by
          rw [ei]
          intro e
          have := (nI_eq (by omega) (by omega)).mp e
          omega
        have e3 : mb g (hs g p).1 (p + 1) = mb g (hs g p).1 p := by
          rw [mb, if_neg c4]
          by_cases c0 : g p < 1
          · rw [if_pos c0]
          · rw [if_neg c0, if_neg (by rw [← g2]; exact c2)]
        rw [e3]
        exact ⟨g1, g2⟩
theorem M_goYear {n y : Nat} {σ : Sta} (hn0 : σ.1 83 0 = nI n) (hw : wfM n σ) (hy : y < 8) : X12_goYear (nI y) σ = some ((hs (gM σ y) n).1, up1 (up1 σ 87 (addW (σ.1 87) (hs (gM σ y) n).1 y)) 88 (addS (σ.1 88) (hs (gM σ y) n).2.2.1)) := by
  have hn6 := hw.1.1
  obtain ⟨h1, h2, h3, h4⟩ := hs_mb (g := gM σ y) n hn6
  obtain ⟨w1, w2⟩ := hs_who (gM σ y) n
  generalize hs (gM σ y) n = q at *
  have l40 : ∀ (τ : Sta) (a : Int32), X12_goYear_L40 a q.2.2.1 τ = some (a, up1 τ 88 (addS (τ.1 88) q.2.2.1)) := by
    intro τ a
    rw [X12_goYear_L40]
    rcases w2 with e | ⟨i, hi, e⟩
    · rw [e, if_pos rfl, addS, if_pos rfl, up1_id]
    · rw [e, if_neg (nm1 (by omega)), aI_n i (by omega), sI_n i (by omega), addS, if_neg (nm1 (by omega)), kno_n (by omega)]
  have l22 : X12_goYear_L22 (nI y) q.1 q.2.2.1 σ = some (q.1, up1 (up1 σ 87 (addW (σ.1 87) q.1 y)) 88 (addS (σ.1 88) q.2.2.1)) := by
    rw [X12_goYear_L22]
    rcases w1 with e | ⟨i, hi, e⟩
    · rw [e, if_pos rfl, l40, addW, if_pos rfl, up1_id]
    · rw [e, if_neg (nm1 (by omega)), aI_n i (by omega), sI_n i (by omega), l40, addW, if_neg (nm1 (by omega)), kno_n (by omega), up1_n (by decide)]
  rw [X12_goYear, cA_of (M_bestIn hn0 hw hy), ← h1]
  by_cases e : q.1 = -1
  · rw [if_pos e]
    rw [(h3 e).1] at l22
    rw [l22, (h3 e).1]
  · rw [if_neg e, cA_of (M_bestIn hn0 hw hy), ← (h4 e).1]
    exact l22
end
section
/-! PURE HALF 7: the class' trial and the reference's hand over one course -/
def soN (N : Nat → Int32) : Nat → Int32 := fun y => N (41 + y)
def woN (N : Nat → Int32) : Nat → Int32 := fun y => N (49 + y)
def qN (N : Nat → Int32) : Cq := (fun p => N (5 + p), fun p => N (11 + p))
def ch0 : Nat → Int32 := fun _ => -1
def gN (N ch so wo : Nat → Int32) (q : Cq) (y : Nat) : Nat → Int32 := fun p => stg ch (kM N) (aM N) q.1 so wo p y
abbrev Wf (N : Nat → Int32) (n : Nat) (so wo : Nat → Int32) (q : Cq) : Prop := WF n (kM N) (aM N) q.1 so wo
def TC (N : Nat → Int32) (n y : Nat) (ch so wo : Nat → Int32) (q : Cq) (τ : Sta) : Prop := ∃ ch' kd' ar' so' wo' q', Tr n y ch' kd' ar' so' wo' q' τ ∧ Ag n ch (kM N) (aM N) so wo ch' kd' ar' so' wo' ∧ AgQ n q q'
abbrev rN (N : Nat → Int32) (n : Nat) (ch so wo : Nat → Int32) (d y : Nat) (q : Cq) : Cq := rn n ch (kM N) (aM N) so wo d y q
abbrev sN (N : Nat → Int32) (n : Nat) (ch so wo : Nat → Int32) (y : Nat) (q : Cq) : Cq := stp n ch (kM N) (aM N) so wo y q
theorem TC_run {N : Nat → Int32} {n y e : Nat} {ch so wo : Nat → Int32} {q : Cq} {σ : Sta} (h : TC N n y ch so wo q σ) (hw : Wf N n so wo q) (hy : y ≤ e) (he : e ≤ 8) : ∃ τ, X2_runTo (nI e) σ = some ((), τ) ∧ TC N n e ch so wo (rN N n ch so wo (e - y) y q) τ ∧ FrT σ τ := by
  obtain ⟨ch', kd', ar', so', wo', q', h1, h2, h3⟩ := h
  obtain ⟨τ, e1, e2, e3⟩ := C_runTo h1 (WF_ag h2 (fun p hp => (h3 p hp).1) hw) hy he
  exact ⟨τ, e1, ⟨_, _, _, _, _, _, e2, h2, rn_ag h2 _ _ _ _ hw h3 (by omega)⟩, e3⟩
theorem TC_g {N : Nat → Int32} {n y : Nat} {ch so wo : Nat → Int32} {q : Cq} {σ : Sta} (h : TC N n y ch so wo q σ) (hw : Wf N n so wo q) {z : Nat} (hz : z < 8) : σ.1 65 10 = nI n ∧ wfS 65 n σ ∧ ∀ p, p < n → gSt 55 65 σ z p = gN N ch so wo q z p := by
  obtain ⟨ch', kd', ar', so', wo', q', h1, h2, h3⟩ := h
  refine ⟨h1.1, h1.wf (WF_ag h2 (fun p hp => (h3 p hp).1) hw), fun p hp => ?_⟩
  rw [h1.gSt]
  exact (stg_ag h2 hw (h3 p hp).1 hp hz).symm
theorem TC_hold {N : Nat → Int32} {n y : Nat} {ch so wo : Nat → Int32} {q : Cq} {σ : Sta} (h : TC N n y ch so wo q σ) (hw : Wf N n so wo q) {z : Nat} (hz : z < 8) : ∃ f, X0_hold 55 65 (nI z) σ = some ((), up1 σ 55 f) ∧ f 2 = ents (gN N ch so wo q z) n ∧ f 3 = (hs (gN N ch so wo q z) n).1 ∧ f 4 = (hs (gN N ch so wo q z) n).2.2.1 := by
  obtain ⟨h1, h2, h3⟩ := TC_g h hw hz
  obtain ⟨f, e1, e2, e3, e4⟩ := C_hold (c := 55) (r := 65) (y := z) (by intro i hi; omega) h1 h2 hz
  rw [ents_ag n h3] at e2
  rw [hs_ag n h3] at e3 e4
  exact ⟨f, e1, e2, e3, e4⟩
theorem TC_str {N : Nat → Int32} {n y : Nat} {ch so wo : Nat → Int32} {q : Cq} {σ : Sta} (h : TC N n y ch so wo q σ) (hw : Wf N n so wo q) {z p : Nat} (hz : z < 8) (hp : p < n) : X0_strength 55 65 (nI p) (nI z) σ = some (gN N ch so wo q z p, σ) := by
  obtain ⟨h1, h2, h3⟩ := TC_g h hw hz
  have := C_strength (c := 55) (r := 65) h1 h2 hp hz
  rw [this, ← h3 p hp]
  rfl
theorem TC_up {N : Nat → Int32} {n y : Nat} {ch so wo : Nat → Int32} {q : Cq} {σ : Sta} (h : TC N n y ch so wo q σ) {k : Nat} {f : Nat → Int32} (hk : k = 55 ∨ k = 78 ∨ k = 79) : TC N n y ch so wo q (up1 σ k f) := by
  obtain ⟨ch', kd', ar', so', wo', q', h1, h2, h3⟩ := h
  refine ⟨ch', kd', ar', so', wo', q', ?_, h2, h3⟩
  obtain ⟨g1, g2, g3, g4, g5, g6, g7, g8, g9⟩ := h1
  refine ⟨?_, ?_, ?_, ?_, ?_, ?_, ?_, ?_, ?_⟩ <;> rw [up1_n (by omega)] <;> assumption
theorem TC_choose {N : Nat → Int32} {n y : Nat} {ch so wo : Nat → Int32} {q : Cq} {σ : Sta} (h : TC N n y ch so wo q σ) {p : Nat} (hp : p < 6) (z : Int32) : ∃ τ, X0_choose 55 (nI p) z σ = some ((), τ) ∧ TC N n y (upd ch p z) so wo q τ ∧ FrB σ τ := by
  obtain ⟨ch', kd', ar', so', wo', q', h1, h2, h3⟩ := h
  rw [X0_choose, cA_of (within5 hp), if_neg n10, sI_n p hp]
  refine ⟨_, rfl, ⟨upd ch' p z, kd', ar', so', wo', q', ?_, ⟨fun i hi => ?_, h2.2⟩, h3⟩, FrB.up (by unfold isB; omega)⟩
  · obtain ⟨g1, g2, g3, g4, g5, g6, g7, g8, g9⟩ := h1
    refine ⟨?_, ?_, ?_, ?_, ?_, ?_, ?_, ?_, ?_⟩
    · rw [up1_n (by decide)]; exact g1
    · rw [up1_n (by decide)]; exact g2
    · rw [up1_s, g3]
    all_goals rw [up1_n (by decide)]; assumption
  · obtain ⟨a1, a2, a3⟩ := h2.1 i hi
    refine ⟨?_, a2, a3⟩
    by_cases e : i = p
    · subst e; rw [updS, updS]
    · rw [updN e, updN e, a1]
theorem Ag_set {n i : Nat} {ch kd ar so wo ch' kd' ar' so' wo' : Nat → Int32} (h : Ag n ch kd ar so wo ch' kd' ar' so' wo') (s w : Int32) : Ag n ch kd ar (upd so i s) (upd wo i w) ch' kd' ar' (upd so' i s) (upd wo' i w) := by
  refine ⟨h.1, fun y hy => ?_⟩
  by_cases e : y = i
  · subst e; rw [updS, updS, updS, updS]; exact ⟨rfl, rfl⟩
  · rw [updN e, updN e, updN e, updN e]; exact h.2 y hy
theorem TC_set {N : Nat → Int32} {n y : Nat} {ch so wo : Nat → Int32} {q : Cq} {σ : Sta} (h : TC N n y ch so wo q σ) {i : Nat} (hi : i < 8) (s w : Int32) : ∃ τ, X10_setPrize 65 (nI i) s w σ = some ((), τ) ∧ TC N n y ch (upd so i s) (upd wo i w) q τ ∧ FrB σ τ := by
  obtain ⟨ch', kd', ar', so', wo', q', h1, h2, h3⟩ := h
  rw [X10_setPrize, sI_n i hi, sI_n i hi]
  refine ⟨_, rfl, ⟨ch', kd', ar', upd so' i s, upd wo' i w, q', ?_, Ag_set h2 s w, h3⟩, (FrB.up (by unfold isB; omega)).tr (FrB.up (by unfold isB; omega))⟩
  obtain ⟨g1, g2, g3, g4, g5, g6, g7, g8, g9⟩ := h1
  refine ⟨?_, ?_, ?_, ?_, ?_, ?_, ?_, ?_, ?_⟩ <;> simp [up1, va_up] <;> first | assumption | (rw [g6]) | (rw [g7])
theorem TC_swap {N : Nat → Int32} {n y : Nat} {ch so wo : Nat → Int32} {q : Cq} {σ : Sta} (h : TC N n y ch so wo q σ) {i j : Nat} (hi : i < 8) (hj : j < 8) : ∃ τ, X10_swapPrizes 65 (nI i) (nI j) σ = some ((), τ) ∧ TC N n y ch (upd (upd so i (so j)) j (so i)) (upd (upd wo i (wo j)) j (wo i)) q τ ∧ FrB σ τ := by
  have hv : σ.1 66 i = so i ∧ σ.1 67 i = wo i ∧ σ.1 66 j = so j ∧ σ.1 67 j = wo j := by
    obtain ⟨ch', kd', ar', so', wo', q', h1, h2, h3⟩ := h
    obtain ⟨g1, g2, g3, g4, g5, g6, g7, g8, g9⟩ := h1
    rw [g6, g7]
    exact ⟨(h2.2 i hi).1.symm, (h2.2 i hi).2.symm, (h2.2 j hj).1.symm, (h2.2 j hj).2.symm⟩
  obtain ⟨v1, v2, v3, v4⟩ := hv
  obtain ⟨τ1, e1, e2, e3⟩ := TC_set h hi (so j) (wo j)
  obtain ⟨τ2, f1, f2, f3⟩ := TC_set e2 hj (so i) (wo i)
  refine ⟨τ2, ?_, f2, e3.tr f3⟩
  rw [X10_swapPrizes, aI_n i hi, aI_n i hi, aI_n j hj, aI_n j hj]
  show cA (X10_setPrize 65 (nI i) (σ.1 66 j) (σ.1 67 j) σ) (fun q5 s6 => cA (X10_setPrize 65 (nI j) (σ.1 66 i) (σ.1 67 i) s6) _) = _
  rw [v1, v2, v3, v4, cA_of e1, cA_of f1]
-- worths won
def bt (w : Int32) (z : Nat) : Int32 := (w >>> (nI z &&& 31)) &&& 1
theorem bt_n : ∀ w, w < 256 → ∀ z, z < 8 → bt (nI w) z = nI (w / 2 ^ z % 2) := by decide +kernel
def wwi (wi wo : Nat → Int32) (p z : Nat) : Int32 := bt (wi p) z * wo z
def wsm (wi wo : Nat → Int32) (p : Nat) : Nat → Int32
  | 0 => 0
  | z + 1 => wsm wi wo p z + wwi wi wo p z
theorem TC_wi {N : Nat → Int32} {n y : Nat} {ch so wo : Nat → Int32} {q : Cq} {σ : Sta} (h : TC N n y ch so wo q σ) {p z : Nat} (hn : n ≤ 6) (hp : p < n) (hz : z < 8) : X10_worthWonIn 65 (nI p) (nI z) σ = some (wwi q.1 wo p z, σ) := by
  obtain ⟨ch', kd', ar', so', wo', q', h1, h2, h3⟩ := h
  obtain ⟨g1, g2, g3, g4, g5, g6, g7, g8, g9⟩ := h1
  rw [X10_worthWonIn, aI_n p (by omega), aI_n z hz]
  show some (((σ.1 70 p >>> (nI z &&& 31)) &&& 1) * σ.1 67 z, σ) = _
  rw [g8, g7, ← (h3 p hp).1, ← (h2.2 z hz).2]
  rfl
theorem TC_wbL {N : Nat → Int32} {n y : Nat} {ch so wo : Nat → Int32} {q : Cq} {σ : Sta} (h : TC N n y ch so wo q σ) {p : Nat} (hn : n ≤ 6) (hp : p < n) : ∀ (d z fu : Nat), z + d = 8 → d < fu → X10_worthWonBy_L4 65 fu (nI p) (wsm q.1 wo p z) (nI z) σ = some (wsm q.1 wo p 8, σ)
  | d, z, 0, _, h => by omega
  | 0, z, fu + 1, hz, _ => by
    have e : z = 8 := by omega
    subst e
    rw [X10_worthWonBy_L4, if_neg nlt8]
  | d + 1, z, fu + 1, hz, hf => by
    rw [X10_worthWonBy_L4, if_pos (lt8 (by omega)), cA_of (TC_wi h hn hp (by omega)), nI_1]
    exact TC_wbL h hn hp d (z + 1) fu (by omega) (by omega)
theorem TC_wb {N : Nat → Int32} {n y : Nat} {ch so wo : Nat → Int32} {q : Cq} {σ : Sta} (h : TC N n y ch so wo q σ) {p : Nat} (hn : n ≤ 6) (hp : p < n) : X10_worthWonBy 65 (nI p) σ = some (wsm q.1 wo p 8, σ) :=
  TC_wbL h hn hp 8 0 FU rfl (by decide)
-- the reference's hand
def HM (N : Nat → Int32) (n : Nat) (ch so wo : Nat → Int32) (q : Cq) (τ : Sta) : Prop := τ.1 83 = N ∧ N 0 = nI n ∧ (∀ p, p < n → τ.1 91 p ≠ -1 ∧ ch p = chM (τ.1 91) p ∧ q.1 p = τ.1 87 p ∧ q.2 p = τ.1 88 p) ∧ ∀ y, y < 8 → so y = τ.1 89 y ∧ wo y = τ.1 90 y
def FrH (σ τ : Sta) : Prop := (∀ k, k ≠ 87 → k ≠ 88 → τ.1 k = σ.1 k) ∧ τ.2 = σ.2
theorem FrH.rf (σ : Sta) : FrH σ σ := ⟨fun _ _ _ => rfl, rfl⟩
theorem FrH.tr {a b c : Sta} (h1 : FrH a b) (h2 : FrH b c) : FrH a c := ⟨fun k q1 q2 => (h2.1 k q1 q2).trans (h1.1 k q1 q2), h2.2.trans h1.2⟩
/-- cells of the hand -/
def isL (k : Nat) : Prop := 87 ≤ k ∧ k ≤ 91
def FrL (σ τ : Sta) : Prop := (∀ k, ¬ isL k → τ.1 k = σ.1 k) ∧ τ.2 = σ.2
theorem FrL.rf (σ : Sta) : FrL σ σ := ⟨fun _ _ => rfl, rfl⟩
theorem FrL.tr {a b c : Sta} (h1 : FrL a b) (h2 : FrL b c) : FrL a c := ⟨fun k q => (h2.1 k q).trans (h1.1 k q), h2.2.trans h1.2⟩
theorem FrL.up {σ : Sta} {k : Nat} {f : Nat → Int32} (h : isL k) : FrL σ (up1 σ k f) := ⟨fun j q => up1_n (fun e => q (by rw [e]; exact h)), rfl⟩
theorem FrL.q {a b : Sta} (h : FrL a b) : FrQ a b := ⟨fun k q => h.1 k (fun e => q (by unfold isL at e; unfold isQ; omega)), h.2⟩
theorem FrH.l {a b : Sta} (h : FrH a b) : FrL a b := ⟨fun k q => h.1 k (fun e => q (by unfold isL; omega)) (fun e => q (by unfold isL; omega)), h.2⟩
theorem FrH.q {a b : Sta} (h : FrH a b) : FrQ a b := ⟨fun k q => h.1 k (fun e => q (by unfold isQ; omega)) (fun e => q (by unfold isQ; omega)), h.2⟩
theorem HM_ag {N : Nat → Int32} {n : Nat} {ch so wo : Nat → Int32} {q : Cq} {τ : Sta} (h : HM N n ch so wo q τ) : Ag n ch (kM N) (aM N) so wo (chM (τ.1 91)) (kM (τ.1 83)) (aM (τ.1 83)) (τ.1 89) (τ.1 90) ∧ AgQ n q (τ.1 87, τ.1 88) := by
  obtain ⟨h1, h2, h3, h4⟩ := h
  rw [h1]
  exact ⟨⟨fun p hp => ⟨(h3 p hp).2.1, rfl, fun _ _ => rfl⟩, h4⟩, fun p hp => ⟨(h3 p hp).2.2.1, (h3 p hp).2.2.2⟩⟩
theorem HM_wf {N : Nat → Int32} {n : Nat} {ch so wo : Nat → Int32} {q : Cq} {τ : Sta} (h : HM N n ch so wo q τ) (hw : Wf N n so wo q) : wfM n τ :=
  ⟨WF_ag (HM_ag h).1 (fun p hp => ((HM_ag h).2 p hp).1) hw, fun p hp => (h.2.2.1 p hp).1⟩
theorem HM_g {N : Nat → Int32} {n : Nat} {ch so wo : Nat → Int32} {q : Cq} {τ : Sta} (h : HM N n ch so wo q τ) (hw : Wf N n so wo q) {z : Nat} (hz : z < 8) : ∀ p, p < n → gM τ z p = gN N ch so wo q z p :=
  fun p hp => (stg_ag (HM_ag h).1 hw ((HM_ag h).2 p hp).1 hp hz).symm
theorem HM_n {N : Nat → Int32} {n : Nat} {ch so wo : Nat → Int32} {q : Cq} {τ : Sta} (h : HM N n ch so wo q τ) : τ.1 83 0 = nI n := by rw [h.1]; exact h.2.1
theorem HM_enters {N : Nat → Int32} {n : Nat} {ch so wo : Nat → Int32} {q : Cq} {τ : Sta} (h : HM N n ch so wo q τ) (hw : Wf N n so wo q) {p z : Nat} (hp : p < n) (hz : z < 8) : X12_enters (nI p) (nI z) τ = some (bi (!decide (gN N ch so wo q z p < 1)), τ) := by
  rw [M_enters (HM_wf h hw) hp hz, HM_g h hw hz p hp]
theorem HM_good {N : Nat → Int32} {n : Nat} {ch so wo : Nat → Int32} {q : Cq} {τ : Sta} (h : HM N n ch so wo q τ) (hw : Wf N n so wo q) {p z : Nat} (hp : p < n) (hz : z < 8) (hg : ¬ gN N ch so wo q z p < 1) : X12_goodOf (nI p) (τ.1 89 z) (nI z) τ = some (gN N ch so wo q z p, τ) := by
  rw [← HM_g h hw hz p hp] at hg ⊢
  exact M_goodIf (HM_wf h hw) hp hz hg
theorem HM_year {N : Nat → Int32} {n : Nat} {ch so wo : Nat → Int32} {q : Cq} {σ : Sta} (h : HM N n ch so wo q σ) (hw : Wf N n so wo q) {z : Nat} (hz : z < 8) : ∃ τ, X12_goYear (nI z) σ = some ((hs (gN N ch so wo q z) n).1, τ) ∧ HM N n ch so wo (sN N n ch so wo z q) τ ∧ FrH σ τ := by
  have e := M_goYear (HM_n h) (HM_wf h hw) hz
  have eh := hs_ag n (HM_g h hw hz)
  rw [eh] at e
  refine ⟨_, e, ?_, ⟨fun k h1 h2 => by rw [up1_n h2, up1_n h1], rfl⟩⟩
  have hq := (HM_ag h).2
  obtain ⟨h1, h2, h3, h4⟩ := h
  refine ⟨by rw [up1_n (by decide), up1_n (by decide)]; exact h1, h2, fun p hp => ⟨?_, ?_, ?_, ?_⟩, fun y hy => ?_⟩
  · rw [up1_n (by decide), up1_n (by decide)]; exact (h3 p hp).1
  · rw [up1_n (by decide), up1_n (by decide)]; exact (h3 p hp).2.1
  · rw [up1_n (by decide), up1_s]
    exact addW_ag (fun p hp => (hq p hp).1) hw.1 (hs_who _ n).1 hp
  · rw [up1_s]
    exact addS_ag (fun p hp => (hq p hp).2) hw.1 (hs_who _ n).2 hp
  · rw [up1_n (by decide), up1_n (by decide), up1_n (by decide), up1_n (by decide)]; exact h4 y hy
theorem HM_tillL {N : Nat → Int32} {n e : Nat} {ch so wo : Nat → Int32} (he : e ≤ 8) : ∀ (d y fu : Nat) (q : Cq) (σ : Sta), y + d = e → d < fu → HM N n ch so wo q σ → Wf N n so wo q → ∃ τ, X12_goTill_L7 fu (nI e) (nI y) σ = some ((), τ) ∧ HM N n ch so wo (rN N n ch so wo d y q) τ ∧ FrH σ τ
  | d, y, 0, q, σ, _, h, _, _ => by omega
  | 0, y, fu + 1, q, σ, hyd, _, hH, hw => by
    have hye : y = e := by omega
    subst hye
    refine ⟨σ, ?_, hH, FrH.rf σ⟩
    rw [X12_goTill_L7, if_neg (nI_nlt (Nat.le_refl _) (by omega))]
  | d + 1, y, fu + 1, q, σ, hyd, hf, hH, hw => by
    obtain ⟨τ1, e1, e2, e3⟩ := HM_year hH hw (z := y) (by omega)
    obtain ⟨τ, f1, f2, f3⟩ := HM_tillL he d (y + 1) fu _ τ1 (by omega) (by omega) e2 (WF_stp hw (by omega))
    refine ⟨τ, ?_, f2, e3.tr f3⟩
    rw [X12_goTill_L7, if_pos (nI_lt (by omega) (by omega)), cA_of e1, nI_1]
    exact f1
theorem HM_till {N : Nat → Int32} {n y e : Nat} {ch so wo : Nat → Int32} {q : Cq} {σ : Sta} (h : HM N n ch so wo q σ) (hw : Wf N n so wo q) (h4 : N 4 = nI y) (hy : y ≤ e) (he : e ≤ 8) : ∃ τ, X12_goTill (nI e) σ = some ((), τ) ∧ HM N n ch so wo (rN N n ch so wo (e - y) y q) τ ∧ FrH σ τ := by
  have e0 : aI σ 83 209 (4 : Int32) (fun v1 => X12_goTill_L7 FU (nI e) v1 σ) = X12_goTill_L7 FU (nI e) (nI y) σ := by
    rw [show (4 : Int32) = nI 4 from rfl, aI_n 4 (by decide), h.1, h4]
  rw [X12_goTill, e0]
  exact HM_tillL he (e - y) y FU q σ (by omega) (by show _ < 300; omega) h hw
theorem HM_ch {N : Nat → Int32} {n : Nat} {ch so wo : Nat → Int32} {q : Cq} {σ : Sta} (h : HM N n ch so wo q σ) {p z : Nat} (hz : z < 8) : HM N n (upd ch p (nI z)) so wo q (up1 σ 91 (upd (σ.1 91) p (nI z))) := by
  obtain ⟨h1, h2, h3, h4⟩ := h
  refine ⟨by rw [up1_n (by decide)]; exact h1, h2, fun i hi => ?_, fun y hy => by rw [up1_n (by decide), up1_n (by decide)]; exact h4 y hy⟩
  obtain ⟨a1, a2, a3, a4⟩ := h3 i hi
  rw [up1_s, up1_n (by decide), up1_n (by decide)]
  refine ⟨?_, ?_, a3, a4⟩
  · by_cases e : i = p
    · subst e; rw [updS]; exact nm1 (by omega)
    · rw [updN e]; exact a1
  · unfold chM at a2 ⊢
    by_cases e : i = p
    · subst e
      rw [updS, updS, if_neg]
      intro e2
      have h9 : (nI z).toInt = (-2 : Int32).toInt := by rw [e2]
      rw [nIt (by omega)] at h9
      have : (-2 : Int32).toInt = -2 := by decide
      omega
    · rw [updN e, updN e]; exact a2
theorem HM_wsL {N : Nat → Int32} {n : Nat} {ch so wo : Nat → Int32} {q : Cq} {σ : Sta} (h : HM N n ch so wo q σ) (hw : Wf N n so wo q) {p : Nat} (hp : p < n) : ∀ (d z fu : Nat), z + d = 8 → d < fu → X12_worthOf_L4 fu (nI p) (wsm q.1 wo p z) (nI z) σ = some (wsm q.1 wo p 8, σ)
  | d, z, 0, _, h => by omega
  | 0, z, fu + 1, hz, _ => by
    have e : z = 8 := by omega
    subst e
    rw [X12_worthOf_L4, if_neg nlt8]
  | d + 1, z, fu + 1, hz, hf => by
    have hn := hw.1
    obtain ⟨w, hw8, ew⟩ := hw.2.2.2.1 p hp
    have e87 : σ.1 87 p = nI w := by rw [← (h.2.2.1 p hp).2.2.1]; exact ew
    have e90 : σ.1 90 z = wo z := ((h.2.2.2 z (by omega)).2).symm
    have ih := HM_wsL h hw hp d (z + 1) fu (by omega) (by omega)
    have hb : bt (nI w) z = 0 ∨ bt (nI w) z = 1 := by
      rw [bt_n w hw8 z (by omega)]
      rcases (show w / 2 ^ z % 2 = 0 ∨ w / 2 ^ z % 2 = 1 by omega) with e | e <;> rw [e]
      · exact Or.inl rfl
      · exact Or.inr rfl
    rw [X12_worthOf_L4, if_pos (lt8 (by omega)), aI_n p (by omega), e87, nI_1]
    have hwz : wsm q.1 wo p (z + 1) = wsm q.1 wo p z + bt (nI w) z * wo z := by rw [wsm, wwi, ew]
    rw [X12_has]
    rcases hb with e | e
    · have e' : ((nI w) >>> (nI z &&& 31)) &&& 1 = 0 := e
      rw [e', if_neg (by decide), rZ_0, cA_e, if_pos rfl]
      rw [hwz, e, Int32.zero_mul] at ih
      exact ih
    · have e' : ((nI w) >>> (nI z &&& 31)) &&& 1 = 1 := e
      rw [e', if_pos rfl, rZ_1, cA_e, if_neg n10, aI_n z (by omega), e90]
      rw [hwz, e, Int32.one_mul] at ih
      exact ih
theorem HM_ws {N : Nat → Int32} {n : Nat} {ch so wo : Nat → Int32} {q : Cq} {σ : Sta} (h : HM N n ch so wo q σ) (hw : Wf N n so wo q) {p : Nat} (hp : p < n) : X12_worthOf (nI p) σ = some (wsm q.1 wo p 8, σ) :=
  HM_wsL h hw hp 8 0 FU rfl (by decide)
end
section
/-! PURE HALF 8: a valley of the class and one of the reference alike; the invariant -/
/-- the undoable years: entry u - 1 holds what stood before the last year -/
def Hist (N f s : Nat → Int32) (n : Nat) : Nat → Nat → Nat → Prop
  | 0, _, _ => True
  | u + 1, yr, b => ∃ y, yr = y + 1 ∧ N (105 + 13 * u) = nI y ∧ who n (f y) ∧ who n (s y) ∧ (∀ p, p < n → N (b + (1 + p)) = addW (fun p => N (105 + 13 * u + (1 + p))) (f y) y p ∧ N (b + (7 + p)) = addS (fun p => N (105 + 13 * u + (7 + p))) (s y) p ∧ ∃ w, w < 2 ^ y ∧ N (105 + 13 * u + (1 + p)) = nI w) ∧ Hist N f s n u y (105 + 13 * u)
theorem Hist_c {N N' f f' s s' : Nat → Int32} {n : Nat} (hn : n ≤ 6) : ∀ (u yr b b' : Nat), Hist N f s n u yr b → (∀ k, 105 ≤ k → k < 105 + 13 * u → N' k = N k) → (∀ i, i < 13 → N' (b' + i) = N (b + i)) → (∀ y, y < yr → f' y = f y ∧ s' y = s y) → Hist N' f' s' n u yr b'
  | 0, _, _, _, _, _, _, _ => trivial
  | u + 1, yr, b, b', h, hN, hb, hf => by
    obtain ⟨y, h1, h2, h3, h4, h5, h6⟩ := h
    have e : ∀ i, i < 13 → N' (105 + 13 * u + i) = N (105 + 13 * u + i) := fun i hi => hN _ (by omega) (by omega)
    refine ⟨y, h1, ?_, ?_, ?_, fun p hp => ?_, ?_⟩
    · rw [← h2]; exact e 0 (by decide)
    · rw [(hf y (by omega)).1]; exact h3
    · rw [(hf y (by omega)).2]; exact h4
    · obtain ⟨a1, a2, w, a3, a4⟩ := h5 p hp
      rw [(hf y (by omega)).1, (hf y (by omega)).2, hb (1 + p) (by omega), hb (7 + p) (by omega), a1, a2, e (1 + p) (by omega)]
      refine ⟨addW_ag (n := n) (fun p hp => (e (1 + p) (by omega)).symm) hn h3 hp, addS_ag (n := n) (fun p hp => (e (7 + p) (by omega)).symm) hn h4 hp, w, a3, a4⟩
    · exact Hist_c hn u y _ _ h6 (fun k k1 k2 => hN k k1 (by omega)) e (fun z hz => hf z (by omega))

def VR (S : Nat → Nat → Int32) (r : Nat) (N : Nat → Int32) (n yr u nn nb : Nat) : Prop := (n ≤ 6) ∧ (yr ≤ 8) ∧ (u ≤ yr) ∧ (nn ≤ 6) ∧ (nb ≤ 6) ∧ (S r 10 = nI n) ∧ (S r 11 = nI yr) ∧ (S r 12 = nI u) ∧ (S (r + 9) 1 = nI nn) ∧ (S (r + 11) 1 = nI nb) ∧ (N 0 = nI n) ∧ (N 1 = nI nn) ∧ (N 2 = nI nb) ∧ (N 3 = nI u) ∧ (N 4 = nI yr) ∧ (∀ p, p < n → S (r + 3) p = N (17 + p) ∧ S (r + 5) p = N (5 + p) ∧ S (r + 6) p = N (11 + p) ∧ ∀ t, t < 3 → S (r + 4) (3 * p + t) = N (23 + (3 * p + t))) ∧ (∀ y, y < 8 → S (r + 1) y = N (41 + y) ∧ S (r + 2) y = N (49 + y)) ∧ (∀ j, j < 4 * nn → S (r + 10) j = N (57 + j)) ∧ (∀ j, j < 4 * nb → S (r + 12) j = N (81 + j)) ∧ (∀ p, p < n → ∃ k, k < 6 ∧ N (17 + p) = nI k) ∧ (∀ p, p < n → ∀ t, t < 3 → ∃ a, a < 10 ∧ N (23 + (3 * p + t)) = nI a) ∧ (∀ p, p < n → ∃ w, w < 2 ^ yr ∧ N (5 + p) = nI w) ∧ (∀ y, y < 8 → N (41 + y) = -1 ∨ ∃ t, t < 3 ∧ N (41 + y) = nI t) ∧ (∀ y, y < 8 → ∃ w, w ≤ 30 ∧ N (49 + y) = nI w) ∧ (∀ k, k < nb → ∃ i j t y, i < n ∧ j < n ∧ t < 3 ∧ y < 8 ∧ N (81 + 4 * k) = nI i ∧ N (81 + (4 * k + 1)) = nI j ∧ N (81 + (4 * k + 2)) = nI t ∧ N (81 + (4 * k + 3)) = nI y) ∧ (Hist N (S (r + 7)) (S (r + 8)) n u yr 4)
theorem VR.n6 {S : Nat → Nat → Int32} {r : Nat} {N : Nat → Int32} {n yr u nn nb : Nat} (h : VR S r N n yr u nn nb) : n ≤ 6 := h.1
theorem VR.y8 {S : Nat → Nat → Int32} {r : Nat} {N : Nat → Int32} {n yr u nn nb : Nat} (h : VR S r N n yr u nn nb) : yr ≤ 8 := h.2.1
theorem VR.uy {S : Nat → Nat → Int32} {r : Nat} {N : Nat → Int32} {n yr u nn nb : Nat} (h : VR S r N n yr u nn nb) : u ≤ yr := h.2.2.1
theorem VR.nn6 {S : Nat → Nat → Int32} {r : Nat} {N : Nat → Int32} {n yr u nn nb : Nat} (h : VR S r N n yr u nn nb) : nn ≤ 6 := h.2.2.2.1
theorem VR.nb6 {S : Nat → Nat → Int32} {r : Nat} {N : Nat → Int32} {n yr u nn nb : Nat} (h : VR S r N n yr u nn nb) : nb ≤ 6 := h.2.2.2.2.1
theorem VR.s10 {S : Nat → Nat → Int32} {r : Nat} {N : Nat → Int32} {n yr u nn nb : Nat} (h : VR S r N n yr u nn nb) : S r 10 = nI n := h.2.2.2.2.2.1
theorem VR.s11 {S : Nat → Nat → Int32} {r : Nat} {N : Nat → Int32} {n yr u nn nb : Nat} (h : VR S r N n yr u nn nb) : S r 11 = nI yr := h.2.2.2.2.2.2.1
theorem VR.s12 {S : Nat → Nat → Int32} {r : Nat} {N : Nat → Int32} {n yr u nn nb : Nat} (h : VR S r N n yr u nn nb) : S r 12 = nI u := h.2.2.2.2.2.2.2.1
theorem VR.sn {S : Nat → Nat → Int32} {r : Nat} {N : Nat → Int32} {n yr u nn nb : Nat} (h : VR S r N n yr u nn nb) : S (r + 9) 1 = nI nn := h.2.2.2.2.2.2.2.2.1
theorem VR.sb {S : Nat → Nat → Int32} {r : Nat} {N : Nat → Int32} {n yr u nn nb : Nat} (h : VR S r N n yr u nn nb) : S (r + 11) 1 = nI nb := h.2.2.2.2.2.2.2.2.2.1
theorem VR.N0 {S : Nat → Nat → Int32} {r : Nat} {N : Nat → Int32} {n yr u nn nb : Nat} (h : VR S r N n yr u nn nb) : N 0 = nI n := h.2.2.2.2.2.2.2.2.2.2.1
theorem VR.N1 {S : Nat → Nat → Int32} {r : Nat} {N : Nat → Int32} {n yr u nn nb : Nat} (h : VR S r N n yr u nn nb) : N 1 = nI nn := h.2.2.2.2.2.2.2.2.2.2.2.1
theorem VR.N2 {S : Nat → Nat → Int32} {r : Nat} {N : Nat → Int32} {n yr u nn nb : Nat} (h : VR S r N n yr u nn nb) : N 2 = nI nb := h.2.2.2.2.2.2.2.2.2.2.2.2.1
theorem VR.N3 {S : Nat → Nat → Int32} {r : Nat} {N : Nat → Int32} {n yr u nn nb : Nat} (h : VR S r N n yr u nn nb) : N 3 = nI u := h.2.2.2.2.2.2.2.2.2.2.2.2.2.1
theorem VR.N4 {S : Nat → Nat → Int32} {r : Nat} {N : Nat → Int32} {n yr u nn nb : Nat} (h : VR S r N n yr u nn nb) : N 4 = nI yr := h.2.2.2.2.2.2.2.2.2.2.2.2.2.2.1
theorem VR.pe {S : Nat → Nat → Int32} {r : Nat} {N : Nat → Int32} {n yr u nn nb : Nat} (h : VR S r N n yr u nn nb) : ∀ p, p < n → S (r + 3) p = N (17 + p) ∧ S (r + 5) p = N (5 + p) ∧ S (r + 6) p = N (11 + p) ∧ ∀ t, t < 3 → S (r + 4) (3 * p + t) = N (23 + (3 * p + t)) := h.2.2.2.2.2.2.2.2.2.2.2.2.2.2.2.1
theorem VR.ye {S : Nat → Nat → Int32} {r : Nat} {N : Nat → Int32} {n yr u nn nb : Nat} (h : VR S r N n yr u nn nb) : ∀ y, y < 8 → S (r + 1) y = N (41 + y) ∧ S (r + 2) y = N (49 + y) := h.2.2.2.2.2.2.2.2.2.2.2.2.2.2.2.2.1
theorem VR.no {S : Nat → Nat → Int32} {r : Nat} {N : Nat → Int32} {n yr u nn nb : Nat} (h : VR S r N n yr u nn nb) : ∀ j, j < 4 * nn → S (r + 10) j = N (57 + j) := h.2.2.2.2.2.2.2.2.2.2.2.2.2.2.2.2.2.1
theorem VR.be {S : Nat → Nat → Int32} {r : Nat} {N : Nat → Int32} {n yr u nn nb : Nat} (h : VR S r N n yr u nn nb) : ∀ j, j < 4 * nb → S (r + 12) j = N (81 + j) := h.2.2.2.2.2.2.2.2.2.2.2.2.2.2.2.2.2.2.1
theorem VR.kd {S : Nat → Nat → Int32} {r : Nat} {N : Nat → Int32} {n yr u nn nb : Nat} (h : VR S r N n yr u nn nb) : ∀ p, p < n → ∃ k, k < 6 ∧ N (17 + p) = nI k := h.2.2.2.2.2.2.2.2.2.2.2.2.2.2.2.2.2.2.2.1
theorem VR.ar {S : Nat → Nat → Int32} {r : Nat} {N : Nat → Int32} {n yr u nn nb : Nat} (h : VR S r N n yr u nn nb) : ∀ p, p < n → ∀ t, t < 3 → ∃ a, a < 10 ∧ N (23 + (3 * p + t)) = nI a := h.2.2.2.2.2.2.2.2.2.2.2.2.2.2.2.2.2.2.2.2.1
theorem VR.wi {S : Nat → Nat → Int32} {r : Nat} {N : Nat → Int32} {n yr u nn nb : Nat} (h : VR S r N n yr u nn nb) : ∀ p, p < n → ∃ w, w < 2 ^ yr ∧ N (5 + p) = nI w := h.2.2.2.2.2.2.2.2.2.2.2.2.2.2.2.2.2.2.2.2.2.1
theorem VR.so {S : Nat → Nat → Int32} {r : Nat} {N : Nat → Int32} {n yr u nn nb : Nat} (h : VR S r N n yr u nn nb) : ∀ y, y < 8 → N (41 + y) = -1 ∨ ∃ t, t < 3 ∧ N (41 + y) = nI t := h.2.2.2.2.2.2.2.2.2.2.2.2.2.2.2.2.2.2.2.2.2.2.1
theorem VR.wo {S : Nat → Nat → Int32} {r : Nat} {N : Nat → Int32} {n yr u nn nb : Nat} (h : VR S r N n yr u nn nb) : ∀ y, y < 8 → ∃ w, w ≤ 30 ∧ N (49 + y) = nI w := h.2.2.2.2.2.2.2.2.2.2.2.2.2.2.2.2.2.2.2.2.2.2.2.1
theorem VR.bb {S : Nat → Nat → Int32} {r : Nat} {N : Nat → Int32} {n yr u nn nb : Nat} (h : VR S r N n yr u nn nb) : ∀ k, k < nb → ∃ i j t y, i < n ∧ j < n ∧ t < 3 ∧ y < 8 ∧ N (81 + 4 * k) = nI i ∧ N (81 + (4 * k + 1)) = nI j ∧ N (81 + (4 * k + 2)) = nI t ∧ N (81 + (4 * k + 3)) = nI y := h.2.2.2.2.2.2.2.2.2.2.2.2.2.2.2.2.2.2.2.2.2.2.2.2.1
theorem VR.hi {S : Nat → Nat → Int32} {r : Nat} {N : Nat → Int32} {n yr u nn nb : Nat} (h : VR S r N n yr u nn nb) : Hist N (S (r + 7)) (S (r + 8)) n u yr 4 := h.2.2.2.2.2.2.2.2.2.2.2.2.2.2.2.2.2.2.2.2.2.2.2.2.2
theorem VR.to {S S' : Nat → Nat → Int32} {r r' : Nat} {N N' : Nat → Int32} {n yr u nn nb : Nat} (h : VR S r N n yr u nn nb) (c : S' r' 10 = S r 10 ∧ S' r' 11 = S r 11 ∧ S' r' 12 = S r 12 ∧ S' (r' + 9) 1 = S (r + 9) 1 ∧ S' (r' + 11) 1 = S (r + 11) 1)
    (a1 : ∀ j, j < 8 → S' (r' + 1) j = S (r + 1) j) (a2 : ∀ j, j < 8 → S' (r' + 2) j = S (r + 2) j) (a3 : ∀ j, j < 6 → S' (r' + 3) j = S (r + 3) j) (a4 : ∀ j, j < 18 → S' (r' + 4) j = S (r + 4) j) (a5 : ∀ j, j < 6 → S' (r' + 5) j = S (r + 5) j) (a6 : ∀ j, j < 6 → S' (r' + 6) j = S (r + 6) j) (a7 : ∀ j, j < yr → S' (r' + 7) j = S (r + 7) j) (a8 : ∀ j, j < yr → S' (r' + 8) j = S (r + 8) j) (a10 : ∀ j, j < 24 → S' (r' + 10) j = S (r + 10) j) (a12 : ∀ j, j < 24 → S' (r' + 12) j = S (r + 12) j)
    (hN : ∀ k, k < 105 + 13 * u → N' k = N k) : VR S' r' N' n yr u nn nb := by
  have hn := h.n6
  have h1 := h.nn6
  have h2 := h.nb6
  obtain ⟨c1, c2, c3, c4, c5⟩ := c
  refine ⟨h.n6, h.y8, h.uy, h.nn6, h.nb6, c1.trans h.s10, c2.trans h.s11, c3.trans h.s12, c4.trans h.sn, c5.trans h.sb, ?_, ?_, ?_, ?_, ?_, ?_, ?_, ?_, ?_, ?_, ?_, ?_, ?_, ?_, ?_, ?_⟩
  · rw [hN _ (by omega)]; exact h.N0
  · rw [hN _ (by omega)]; exact h.N1
  · rw [hN _ (by omega)]; exact h.N2
  · rw [hN _ (by omega)]; exact h.N3
  · rw [hN _ (by omega)]; exact h.N4
  · intro p hp
    obtain ⟨b1, b2, b3, b4⟩ := h.pe p hp
    rw [a3 p (by omega), a5 p (by omega), a6 p (by omega), hN _ (by omega), hN _ (by omega), hN _ (by omega)]
    exact ⟨b1, b2, b3, fun t ht => by rw [a4 _ (by omega), hN _ (by omega)]; exact b4 t ht⟩
  · intro y hy
    rw [a1 y hy, a2 y hy, hN _ (by omega), hN _ (by omega)]
    exact h.ye y hy
  · intro j hj
    rw [a10 j (by omega), hN _ (by omega)]
    exact h.no j hj
  · intro j hj
    rw [a12 j (by omega), hN _ (by omega)]
    exact h.be j hj
  · intro p hp
    rw [hN _ (by omega)]
    exact h.kd p hp
  · intro p hp t ht
    rw [hN _ (by omega)]
    exact h.ar p hp t ht
  · intro p hp
    rw [hN _ (by omega)]
    exact h.wi p hp
  · intro y hy
    rw [hN _ (by omega)]
    exact h.so y hy
  · intro y hy
    rw [hN _ (by omega)]
    exact h.wo y hy
  · intro k hk
    rw [hN _ (by omega), hN _ (by omega), hN _ (by omega), hN _ (by omega)]
    exact h.bb k hk
  · exact Hist_c hn u yr 4 4 h.hi (fun k _ k2 => hN k k2) (fun i hi => hN _ (by omega)) (fun y hy => ⟨a7 y hy, a8 y hy⟩)
theorem VR.cell {S S' : Nat → Nat → Int32} {r : Nat} {N : Nat → Int32} {n yr u nn nb : Nat} (h : VR S r N n yr u nn nb) (e : ∀ i, i < 13 → S' (r + i) = S (r + i)) : VR S' r N n yr u nn nb := by
  have e0 := e 0 (by decide)
  rw [Nat.add_zero] at e0
  exact h.to ⟨by rw [e0], by rw [e0], by rw [e0], by rw [e 9 (by decide)], by rw [e 11 (by decide)]⟩ (fun j _ => by rw [e 1 (by decide)]) (fun j _ => by rw [e 2 (by decide)]) (fun j _ => by rw [e 3 (by decide)]) (fun j _ => by rw [e 4 (by decide)]) (fun j _ => by rw [e 5 (by decide)]) (fun j _ => by rw [e 6 (by decide)]) (fun j _ => by rw [e 7 (by decide)]) (fun j _ => by rw [e 8 (by decide)]) (fun j _ => by rw [e 10 (by decide)]) (fun j _ => by rw [e 12 (by decide)]) (fun k _ => rfl)
theorem VR.wf {S : Nat → Nat → Int32} {r : Nat} {N : Nat → Int32} {n yr u nn nb : Nat} (h : VR S r N n yr u nn nb) : Wf N n (soN N) (woN N) (qN N) :=
  ⟨h.n6, h.kd, h.ar, fun p hp => by
    obtain ⟨w, h1, h2⟩ := h.wi p hp
    exact ⟨w, Nat.lt_of_lt_of_le h1 (Nat.pow_le_pow_right (by decide) h.y8), h2⟩, h.so, h.wo⟩
def Txt (S : Nat → Nat → Int32) : Prop := ∃ L, L ≤ 150 ∧ S 80 1 = nI L ∧ S 82 14 = nI L ∧ ∀ j, j < L → S 81 j = S 94 j
def Img (S : Nat → Nat → Int32) (i : Nat) : Prop := (S 28 i = 0 ∧ S 85 i = 0) ∨ (S 28 i = 1 ∧ S 85 i = 1 ∧ ∃ n yr u nn nb, VR S (29 + 13 * i) (fun k => S 84 (209 * i + k)) n yr u nn nb)
def Vnow (S : Nat → Nat → Int32) : Prop := ∃ n yr u nn nb, VR S 1 (S 83) n yr u nn nb
def Inv (σ : Sta) : Prop := Vnow σ.1 ∧ (∀ i, i < 2 → Img σ.1 i) ∧ (∀ i, i < 3 → σ.1 0 (9 + i) = σ.1 86 i) ∧ (σ.2 0 7 = σ.2 82 4 ∧ σ.2 0 8 = σ.2 82 5) ∧ Txt σ.1
theorem Vnow.c {S S' : Nat → Nat → Int32} (h : Vnow S) (e : ∀ k, 1 ≤ k → k ≤ 13 → S' k = S k) (e2 : S' 83 = S 83) : Vnow S' := by
  obtain ⟨n, yr, u, nn, nb, h⟩ := h
  refine ⟨n, yr, u, nn, nb, ?_⟩
  rw [e2]
  exact h.cell (fun i hi => e _ (by omega) (by omega))
theorem Img.c {S S' : Nat → Nat → Int32} {i : Nat} (h : Img S i) (hi : i < 2) (e : ∀ k, 28 ≤ k → k ≤ 54 → S' k = S k) (e2 : S' 84 = S 84) (e3 : S' 85 = S 85) : Img S' i := by
  unfold Img
  rw [e 28 (by decide) (by decide), e2, e3]
  refine h.imp id (fun ⟨h1, h2, n, yr, u, nn, nb, h3⟩ => ⟨h1, h2, n, yr, u, nn, nb, h3.cell (fun j hj => e _ (by omega) (by omega))⟩)
theorem Txt.c {S S' : Nat → Nat → Int32} (h : Txt S) (e1 : S' 80 1 = S 80 1) (e2 : S' 81 = S 81) (e3 : S' 82 14 = S 82 14) (e4 : S' 94 = S 94) : Txt S' := by
  obtain ⟨L, h1, h2, h3, h4⟩ := h
  refine ⟨L, h1, e1.trans h2, e3.trans h3, ?_⟩
  rw [e2, e4]
  exact h4
theorem Inv.q {σ τ : Sta} (h : Inv σ) (e : FrQ σ τ) : Inv τ := by
  obtain ⟨h1, h2, h3, h4, h5⟩ := h
  have q : ∀ k, k ≤ 54 ∨ (80 ≤ k ∧ k ≤ 86) ∨ k = 94 → τ.1 k = σ.1 k := fun k hk => e.1 k (by unfold isQ; omega)
  refine ⟨h1.c (fun k a b => q k (by omega)) (q 83 (by omega)), fun i hi => (h2 i hi).c hi (fun k a b => q k (by omega)) (q 84 (by omega)) (q 85 (by omega)), ?_, ?_, h5.c (by rw [q 80 (by omega)]) (q 81 (by omega)) (by rw [q 82 (by omega)]) (q 94 (by omega))⟩
  · intro i hi
    rw [q 0 (by omega), q 86 (by omega)]
    exact h3 i hi
  · rw [e.2]
    exact h4
theorem VR.begin {σ : Sta} {N : Nat → Int32} {n yr u nn nb : Nat} (h : VR σ.1 1 N n yr u nn nb) : ∃ τ, X2_begin 1 σ = some ((), τ) ∧ TC N n yr ch0 (soN N) (woN N) (qN N) τ ∧ FrB σ τ := by
  obtain ⟨τ, e1, e2, e3⟩ := C_begin h.s10 h.s11
  have hn := h.n6
  refine ⟨τ, e1, ⟨_, _, _, _, _, _, e2, ⟨fun p hp => ⟨?_, ?_, fun t ht => ?_⟩, fun y hy => ⟨?_, ?_⟩⟩, fun p hp => ⟨?_, ?_⟩⟩, e3⟩
  · show (-1 : Int32) = if p < 6 then -1 else _
    rw [if_pos (by omega)]
  · rw [cpf_in (by omega)]; exact ((h.pe p hp).1).symm
  · rw [cpf_in (by omega)]; exact ((h.pe p hp).2.2.2 t ht).symm
  · rw [cpf_in hy]; exact ((h.ye y hy).1).symm
  · rw [cpf_in hy]; exact ((h.ye y hy).2).symm
  · show _ = cpf 6 _ _ p
    rw [cpf_in (by omega)]; exact ((h.pe p hp).2.1).symm
  · show _ = cpf 6 _ _ p
    rw [cpf_in (by omega)]; exact ((h.pe p hp).2.2.1).symm
theorem lay2 {N : Nat → Int32} : ∀ (d y fu : Nat) (σ : Sta), y + d = 8 → d < fu → σ.1 83 = N → (∀ z, z < y → soN N z = σ.1 89 z ∧ woN N z = σ.1 90 z) → ∃ τ, X12_layHand_L55 fu (nI y) σ = some ((), τ) ∧ (∀ z, z < 8 → soN N z = τ.1 89 z ∧ woN N z = τ.1 90 z) ∧ (∀ k, k ≠ 89 → k ≠ 90 → τ.1 k = σ.1 k) ∧ τ.2 = σ.2
  | d, y, 0, σ, _, h, _, _ => by omega
  | 0, y, fu + 1, σ, hy, _, h83, hz => by
    have e : y = 8 := by omega
    subst e
    refine ⟨σ, ?_, hz, fun _ _ _ => rfl, rfl⟩
    rw [X12_layHand_L55, if_neg nlt8]
  | d + 1, y, fu + 1, σ, hy, hf, h83, hz => by
    rw [X12_layHand_L55, if_pos (lt8 (by omega)), a41, aI_n (41 + y) (by omega), sI_n y (by omega), a49, aI_n (49 + y) (by omega), sI_n y (by omega), nI_1]
    obtain ⟨τ, e1, e2, e3, e4⟩ := lay2 (N := N) d (y + 1) fu (up1 (up1 σ 89 (upd (σ.1 89) y (σ.1 83 (41 + y)))) 90 (upd ((up1 σ 89 (upd (σ.1 89) y (σ.1 83 (41 + y)))).1 90) y ((up1 σ 89 (upd (σ.1 89) y (σ.1 83 (41 + y)))).1 83 (49 + y)))) (by omega) (by omega) (by rw [up1_n (by decide), up1_n (by decide)]; exact h83) (fun z hz2 => by
      rw [up1_n (show 89 ≠ 90 by decide), up1_s, up1_s, up1_n (show 90 ≠ 89 by decide), up1_n (show 83 ≠ 89 by decide), h83]
      by_cases e : z = y
      · subst e; rw [updS, updS]; exact ⟨rfl, rfl⟩
      · rw [updN e, updN e]; exact hz z (by omega))
    exact ⟨τ, e1, e2, fun k k1 k2 => by rw [e3 k k1 k2, up1_n k2, up1_n k1], e4⟩
theorem lay1 {N : Nat → Int32} {n : Nat} (hn : n ≤ 6) (h0 : N 0 = nI n) : ∀ (d p fu : Nat) (σ : Sta), p + d = n → d < fu → σ.1 83 = N → (∀ i, i < p → σ.1 91 i = -2 ∧ N (5 + i) = σ.1 87 i ∧ N (11 + i) = σ.1 88 i) → ∃ τ, X12_layHand_L2 fu (nI p) σ = some ((), τ) ∧ HM N n ch0 (soN N) (woN N) (qN N) τ ∧ FrL σ τ
  | d, p, 0, σ, _, h, _, _ => by omega
  | 0, p, fu + 1, σ, hp, _, h83, hz => by
    have e : p = n := by omega
    subst e
    obtain ⟨τ, e1, e2, e3, e4⟩ := lay2 (N := N) 8 0 FU σ rfl (by decide) h83 (fun z h => by omega)
    refine ⟨τ, ?_, ⟨by rw [e3 83 (by decide) (by decide)]; exact h83, h0, fun i hi => ?_, e2⟩, ⟨fun k hk => e3 k (fun e => hk (by unfold isL; omega)) (fun e => hk (by unfold isL; omega)), e4⟩⟩
    · rw [X12_layHand_L2, cA_of (M_many σ), h83, h0, if_neg (nI_nlt (Nat.le_refl _) (by omega))]
      exact e1
    · rw [e3 91 (by decide) (by decide), e3 87 (by decide) (by decide), e3 88 (by decide) (by decide)]
      obtain ⟨b1, b2, b3⟩ := hz i hi
      refine ⟨by rw [b1]; decide, ?_, b2, b3⟩
      show (-1 : Int32) = if σ.1 91 i = -2 then -1 else _
      rw [if_pos b1]
  | d + 1, p, fu + 1, σ, hp, hf, h83, hz => by
    rw [X12_layHand_L2, cA_of (M_many σ), h83, h0, if_pos (nI_lt (by omega) (by omega)), a5, aI_n (5 + p) (by omega), sI_n p (by omega), a11, aI_n (11 + p) (by omega), sI_n p (by omega), sI_n p (by omega), nI_1, h83]
    generalize hτ : up1 σ 87 (upd (σ.1 87) p (N (5 + p))) = s1
    have q1 : s1.1 83 = N := by rw [← hτ, up1_n (by decide)]; exact h83
    rw [q1]
    obtain ⟨τ, e1, e2, e3⟩ := lay1 hn h0 d (p + 1) fu (up1 (up1 s1 88 (upd (s1.1 88) p (N (11 + p)))) 91 (upd ((up1 s1 88 (upd (s1.1 88) p (N (11 + p)))).1 91) p (-2))) (by omega) (by omega) (by rw [up1_n (by decide), up1_n (by decide)]; exact q1) (fun i hi => by
      rw [up1_s, up1_n (show 87 ≠ 91 by decide), up1_n (show 87 ≠ 88 by decide), up1_n (show 88 ≠ 91 by decide), up1_s, up1_n (show 91 ≠ 88 by decide), ← hτ, up1_s, up1_n (show 91 ≠ 87 by decide), up1_n (show 88 ≠ 87 by decide)]
      by_cases e : i = p
      · subst e; rw [updS, updS, updS]; exact ⟨rfl, rfl, rfl⟩
      · rw [updN e, updN e, updN e]; exact hz i (by omega))
    refine ⟨τ, e1, e2, FrL.tr ?_ e3⟩
    rw [← hτ]
    exact ((FrL.up (by unfold isL; omega)).tr (FrL.up (by unfold isL; omega))).tr (FrL.up (by unfold isL; omega))
theorem VR.lay {σ : Sta} {S : Nat → Nat → Int32} {r n yr u nn nb : Nat} (h : VR S r (σ.1 83) n yr u nn nb) : ∃ τ, X12_layHand σ = some ((), τ) ∧ HM (σ.1 83) n ch0 (soN (σ.1 83)) (woN (σ.1 83)) (qN (σ.1 83)) τ ∧ FrL σ τ :=
  lay1 h.n6 h.N0 n 0 FU σ (by omega) (by have := h.n6; show n < 300; omega) rfl (fun i hi => by omega)
end
section
/-! PURE HALF 9: ranges of arguments; what is refused -/
def inB (x a b : Int32) : Bool := !(decide (x < a)) && !(decide (b < x))
theorem within_b (x a b : Int32) (s : Sta) : X11_within x a b s = some (bi (inB x a b), s) := by
  by_cases h1 : x < a <;> by_cases h2 : b < x <;> simp [X11_within, inB, bi, rZ, h1, h2]
theorem in_b (x a b : Int32) (s : Sta) : X12_in x.toInt64 a.toInt64 b.toInt64 s = some (bi (inB x a b), s) := by rw [in_within, within_b]
theorem in_01 (x : Int32) (s : Sta) : X12_in x.toInt64 (0 : Int64) (1 : Int64) s = some (bi (inB x 0 1), s) := in_b x 0 1 s
theorem in_02 (x : Int32) (s : Sta) : X12_in x.toInt64 (0 : Int64) (2 : Int64) s = some (bi (inB x 0 2), s) := in_b x 0 2 s
theorem in_05 (x : Int32) (s : Sta) : X12_in x.toInt64 (0 : Int64) (5 : Int64) s = some (bi (inB x 0 5), s) := in_b x 0 5 s
theorem in_06 (x : Int32) (s : Sta) : X12_in x.toInt64 (0 : Int64) (6 : Int64) s = some (bi (inB x 0 6), s) := in_b x 0 6 s
theorem in_07 (x : Int32) (s : Sta) : X12_in x.toInt64 (0 : Int64) (7 : Int64) s = some (bi (inB x 0 7), s) := in_b x 0 7 s
theorem in_09 (x : Int32) (s : Sta) : X12_in x.toInt64 (0 : Int64) (9 : Int64) s = some (bi (inB x 0 9), s) := in_b x 0 9 s
theorem in_30 (x : Int32) (s : Sta) : X12_in x.toInt64 (1 : Int64) (30 : Int64) s = some (bi (inB x 1 30), s) := in_b x 1 30 s
theorem in_60 (x : Int32) (s : Sta) : X12_in x.toInt64 (0 : Int64) (60 : Int64) s = some (bi (inB x 0 60), s) := in_b x 0 60 s
theorem in_99 (x : Int32) (s : Sta) : X12_in x.toInt64 (0 : Int64) (999999 : Int64) s = some (bi (inB x 0 999999), s) := in_b x 0 999999 s
theorem in_12 (x : Int32) (s : Sta) : X12_in x.toInt64 (0 : Int64) (127 : Int64) s = some (bi (inB x 0 127), s) := in_b x 0 127 s
theorem M_isYear_b (x : Int32) (s : Sta) : X12_isYear x s = some (bi (inB x 0 7), s) := by rw [X12_isYear, in_07, cA_e, rZ_b]
theorem M_isSort_b (x : Int32) (s : Sta) : X12_isSort x s = some (bi (inB x 0 2), s) := by rw [X12_isSort, in_02, cA_e, rZ_b]
theorem C_isArt_b (x : Int32) (s : Sta) : X11_isArt x s = some (bi (inB x 0 9), s) := by rw [X11_isArt, within_b, cA_e, rZ_b]
theorem C_isOne_b {n : Nat} {σ : Sta} (h : σ.1 1 10 = nI n) (x : Int32) : X11_isOne x σ = some (bi (inB x 0 (nI n - 1)), σ) := by rw [X11_isOne, fI_e, h, within_b, cA_e, rZ_b]
theorem M_isOne_b {n : Nat} {σ : Sta} (h : σ.1 83 0 = nI n) (x : Int32) : X12_isOne x σ = some (bi (inB x 0 (nI n - 1)), σ) := by
  have e := in_b x 0 (nI n - 1) σ
  rw [X12_isOne, cA_of (M_many σ), h]
  show cA (X12_in x.toInt64 ((0 : Int32).toInt64) ((nI n - 1).toInt64) σ) _ = _
  rw [e, cA_e, rZ_b]
theorem C_toCome_b {y : Nat} {σ : Sta} (h : σ.1 1 11 = nI y) (x : Int32) : X11_isToCome x σ = some (bi (inB x (nI y) 7), σ) := by rw [X11_isToCome, fI_e, h, within_b, cA_e, rZ_b]
theorem aI4 {β : Type} {σ : Sta} {K : Int32 → Option β} : aI σ 83 209 (4 : Int32) K = K (σ.1 83 4) := aI_n 4 (by decide)
theorem aI1 {β : Type} {σ : Sta} {K : Int32 → Option β} : aI σ 83 209 (1 : Int32) K = K (σ.1 83 1) := aI_n 1 (by decide)
theorem aI2 {β : Type} {σ : Sta} {K : Int32 → Option β} : aI σ 83 209 (2 : Int32) K = K (σ.1 83 2) := aI_n 2 (by decide)
theorem aI3 {β : Type} {σ : Sta} {K : Int32 → Option β} : aI σ 83 209 (3 : Int32) K = K (σ.1 83 3) := aI_n 3 (by decide)
theorem M_toCome_b {y : Nat} {σ : Sta} (h : σ.1 83 4 = nI y) (x : Int32) : X12_isToCome x σ = some (bi (inB x (nI y) 7), σ) := by
  rw [X12_isToCome, aI4, h]
  show cA (X12_in x.toInt64 (nI y).toInt64 ((7 : Int32).toInt64) σ) _ = _
  rw [in_b, cA_e, rZ_b]
-- numbers out of ranges
theorem of_nn {x : Int32} (h : ¬ x < 0) : ∃ j, j < 2 ^ 31 ∧ x = nI j := by
  rw [ilt] at h
  have h0 : (0 : Int32).toInt = 0 := by decide
  have h1 := Int32.toInt_lt x
  refine ⟨x.toInt.toNat, by omega, Int32.toInt_inj.mp ?_⟩
  rw [nIt (by omega)]
  omega
theorem inB_n {x : Int32} {m : Nat} (hm : m < 2 ^ 31) (h : inB x 0 (nI m) = true) : ∃ j, j ≤ m ∧ x = nI j := by
  simp only [inB, Bool.and_eq_true, Bool.not_eq_true', decide_eq_false_iff_not] at h
  obtain ⟨j, h1, rfl⟩ := of_nn h.1
  refine ⟨j, ?_, rfl⟩
  have h2 := h.2
  rw [ilt, nIt h1, nIt hm] at h2
  omega
theorem inB_1 {x : Int32} {n : Nat} (hn : n ≤ 6) (h : inB x 0 (nI n - 1) = true) : ∃ j, j < n ∧ x = nI j := by
  cases n with
  | zero =>
    simp only [inB, Bool.and_eq_true, Bool.not_eq_true', decide_eq_false_iff_not] at h
    obtain ⟨h1, h2⟩ := h
    rw [ilt] at h1 h2
    have e0 : (0 : Int32).toInt = 0 := by decide
    have e1 : (nI 0 - 1).toInt = -1 := by decide
    omega
  | succ m =>
    rw [nI_pred] at h
    obtain ⟨j, h1, h2⟩ := inB_n (by omega) h
    exact ⟨j, by omega, h2⟩
theorem inB_t {x : Int32} {y : Nat} (hy : y ≤ 8) (h : inB x (nI y) 7 = true) : ∃ j, y ≤ j ∧ j < 8 ∧ x = nI j := by
  simp only [inB, Bool.and_eq_true, Bool.not_eq_true', decide_eq_false_iff_not] at h
  have h0 : ¬ x < 0 := by
    have h1 := h.1
    rw [ilt, nIt (by omega)] at h1
    rw [ilt]
    have e0 : (0 : Int32).toInt = 0 := by decide
    omega
  obtain ⟨j, h1, rfl⟩ := of_nn h0
  have h2 := h.1
  have h3 := h.2
  have e7 : (7 : Int32).toInt = 7 := by decide
  rw [ilt, nIt h1, nIt (by omega)] at h2
  rw [ilt, nIt h1, e7] at h3
  exact ⟨j, by omega, by omega, rfl⟩
theorem inB_30 {x : Int32} (h : inB x 1 30 = true) : ∃ j, 1 ≤ j ∧ j ≤ 30 ∧ x = nI j := by
  simp only [inB, Bool.and_eq_true, Bool.not_eq_true', decide_eq_false_iff_not] at h
  have e1 : (1 : Int32).toInt = 1 := by decide
  have e30 : (30 : Int32).toInt = 30 := by decide
  have e0 : (0 : Int32).toInt = 0 := by decide
  have h2 := h.1
  have h3 := h.2
  rw [ilt, e1] at h2
  obtain ⟨j, h1, rfl⟩ := of_nn (x := x) (by rw [ilt, e0]; omega)
  rw [nIt h1] at h2
  rw [ilt, nIt h1, e30] at h3
  exact ⟨j, by omega, by omega, rfl⟩
-- what is refused
def badC (σ : Sta) : Sta := up1 σ 0 (upd (σ.1 0) 9 (σ.1 0 9 + 1))
def noC (σ : Sta) : Sta := up1 σ 0 (upd (σ.1 0) 10 (σ.1 0 10 + 1))
def fullC (σ : Sta) : Sta := up1 σ 0 (upd (σ.1 0) 11 (σ.1 0 11 + 1))
def badM (σ : Sta) : Sta := up1 σ 86 (upd (σ.1 86) 0 (σ.1 86 0 + 1))
def noM (σ : Sta) : Sta := up1 σ 86 (upd (σ.1 86) 1 (σ.1 86 1 + 1))
def fullM (σ : Sta) : Sta := up1 σ 86 (upd (σ.1 86) 2 (σ.1 86 2 + 1))
theorem C_bad (σ : Sta) : X11_bad σ = some (-2, badC σ) := rfl
theorem C_no (σ : Sta) : X11_no σ = some (-3, noC σ) := rfl
theorem C_full (σ : Sta) : X11_full σ = some (-4, fullC σ) := rfl
theorem M_bad (v : Int32) (σ : Sta) : X12_bad v σ = some (v, badM σ) := by
  rw [X12_bad, show (0 : Int32) = nI 0 from rfl, aI_n 0 (by decide), sI_n 0 (by decide)]
  rfl
theorem M_no (σ : Sta) : X12_no σ = some (-3, noM σ) := by
  rw [X12_no, show (1 : Int32) = nI 1 from rfl, aI_n 1 (by decide), sI_n 1 (by decide)]
  rfl
theorem M_full (σ : Sta) : X12_full σ = some (-4, fullM σ) := by
  rw [X12_full, show (2 : Int32) = nI 2 from rfl, aI_n 2 (by decide), sI_n 2 (by decide)]
  rfl
theorem Inv_ref {σ : Sta} (h : Inv σ) {i : Nat} (hi : i < 3) : Inv (up1 (up1 σ 0 (upd (σ.1 0) (9 + i) (σ.1 0 (9 + i) + 1))) 86 (upd (σ.1 86) i (σ.1 86 i + 1))) := by
  obtain ⟨h1, h2, h3, h4, h5⟩ := h
  have q : ∀ k, k ≠ 0 → k ≠ 86 → (up1 (up1 σ 0 (upd (σ.1 0) (9 + i) (σ.1 0 (9 + i) + 1))) 86 (upd (σ.1 86) i (σ.1 86 i + 1))).1 k = σ.1 k := fun k k1 k2 => by rw [up1_n k2, up1_n k1]
  refine ⟨h1.c (fun k a b => q k (by omega) (by omega)) (q 83 (by decide) (by decide)), fun i hi => (h2 i hi).c hi (fun k a b => q k (by omega) (by omega)) (q 84 (by decide) (by decide)) (q 85 (by decide) (by decide)), ?_, h4, h5.c (by rw [q 80 (by decide) (by decide)]) (q 81 (by decide) (by decide)) (by rw [q 82 (by decide) (by decide)]) (q 94 (by decide) (by decide))⟩
  intro j hj
  rw [up1_n (show 0 ≠ 86 by decide), up1_s, up1_s]
  by_cases e : j = i
  · subst e; rw [updS, updS, h3 j hj]
  · rw [updN (by omega), updN e, h3 j hj]
def Pair {α : Type} (f g : Sta → Option (α × Sta)) (σ : Sta) : Prop := ∃ a τ τ', f σ = some (a, τ) ∧ g τ = some (a, τ') ∧ Inv τ'
theorem pair_bad {α : Type} {f g : Sta → Option (α × Sta)} {σ : Sta} {a : α} (h : Inv σ) (hf : f σ = some (a, badC σ)) (hg : g (badC σ) = some (a, badM (badC σ))) : Pair f g σ :=
  ⟨a, _, _, hf, hg, by
    have := Inv_ref h (i := 0) (by decide)
    unfold badM badC
    rw [up1_n (show 86 ≠ 0 by decide)]
    exact this⟩
theorem pair_no {f g : Sta → Option (Int32 × Sta)} {σ : Sta} (h : Inv σ) (hf : f σ = some (-3, noC σ)) (hg : g (noC σ) = some (-3, noM (noC σ))) : Pair f g σ :=
  ⟨_, _, _, hf, hg, by
    have := Inv_ref h (i := 1) (by decide)
    unfold noM noC
    rw [up1_n (show 86 ≠ 0 by decide)]
    exact this⟩
theorem pair_full {f g : Sta → Option (Int32 × Sta)} {σ : Sta} (h : Inv σ) (hf : f σ = some (-4, fullC σ)) (hg : g (fullC σ) = some (-4, fullM (fullC σ))) : Pair f g σ :=
  ⟨_, _, _, hf, hg, by
    have := Inv_ref h (i := 2) (by decide)
    unfold fullM fullC
    rw [up1_n (show 86 ≠ 0 by decide)]
    exact this⟩
theorem pair_q {α : Type} {f g : Sta → Option (α × Sta)} {σ : Sta} {a : α} (h : Inv σ) (hf : ∃ τ, f σ = some (a, τ) ∧ FrQ σ τ) (hg : ∀ τ, FrQ σ τ → ∃ τ', g τ = some (a, τ') ∧ FrQ τ τ') : Pair f g σ := by
  obtain ⟨τ, h1, h2⟩ := hf
  obtain ⟨τ', h3, h4⟩ := hg τ h2
  exact ⟨a, τ, τ', h1, h3, h.q (h2.tr h4)⟩
theorem badC_n {σ : Sta} {k : Nat} (h : k ≠ 0) : (badC σ).1 k = σ.1 k := up1_n h
theorem badC_83 (σ : Sta) (i : Nat) : (badC σ).1 83 i = σ.1 83 i := by rw [badC_n (by decide)]
end
section
/-! PURE HALF 10: questions about contests to come -/
theorem pos1 {x : Int32} : 0 < x ↔ ¬ x < 1 := by
  rw [ilt, ilt]
  have e0 : (0 : Int32).toInt = 0 := by decide
  have e1 : (1 : Int32).toInt = 1 := by decide
  omega
abbrev cur (N : Nat → Int32) (n yr y : Nat) : Cq := rN N n ch0 (soN N) (woN N) (y - yr) yr (qN N)
abbrev gCt (N : Nat → Int32) (n yr y : Nat) : Nat → Int32 := gN N ch0 (soN N) (woN N) (cur N n yr y) y
theorem VR.cw {S : Nat → Nat → Int32} {r : Nat} {N : Nat → Int32} {n yr u nn nb : Nat} (h : VR S r N n yr u nn nb) {y : Nat} (h1 : yr ≤ y) (h2 : y ≤ 8) : Wf N n (soN N) (woN N) (cur N n yr y) := WF_rn _ _ _ h.wf (by omega)
theorem VR.con {σ : Sta} {N : Nat → Int32} {n yr u nn nb : Nat} (h : VR σ.1 1 N n yr u nn nb) {y : Nat} (h1 : yr ≤ y) (h2 : y < 8) : ∃ τ, X2_contestOf 1 (nI y) σ = some ((), τ) ∧ τ.1 55 2 = ents (gCt N n yr y) n ∧ τ.1 55 3 = (hs (gCt N n yr y) n).1 ∧ τ.1 55 4 = (hs (gCt N n yr y) n).2.2.1 ∧ FrQ σ τ := by
  obtain ⟨τ1, e1, e2, e3⟩ := h.begin
  obtain ⟨τ2, f1, f2, f3⟩ := TC_run e2 h.wf h1 (by omega)
  obtain ⟨f, g1, g2, g3, g4⟩ := TC_hold f2 (h.cw h1 (by omega)) h2
  refine ⟨_, ?_, by rw [up1_s]; exact g2, by rw [up1_s]; exact g3, by rw [up1_s]; exact g4, (e3.q.tr f3.q).tr (FrQ.up (Or.inl rfl))⟩
  rw [X2_contestOf, cA_of e1, cA_of f1, cA_of g1]
theorem VR.trial {σ : Sta} {N : Nat → Int32} {n yr u nn nb : Nat} (h : VR σ.1 1 N n yr u nn nb) : ∃ τ1 τ, X2_begin 1 σ = some ((), τ1) ∧ X2_runTo (8 : Int32) τ1 = some ((), τ) ∧ TC N n 8 ch0 (soN N) (woN N) (cur N n yr 8) τ ∧ FrB σ τ := by
  obtain ⟨τ1, e1, e2, e3⟩ := h.begin
  obtain ⟨τ2, f1, f2, f3⟩ := TC_run (e := 8) e2 h.wf h.y8 (by omega)
  exact ⟨τ1, τ2, e1, f1, f2, e3.tr f3.b⟩
theorem VR.hand {σ : Sta} {S : Nat → Nat → Int32} {r n yr u nn nb : Nat} (h : VR S r (σ.1 83) n yr u nn nb) {y : Nat} (h1 : yr ≤ y) (h2 : y ≤ 8) : ∃ τ1 τ, X12_layHand σ = some ((), τ1) ∧ X12_goTill (nI y) τ1 = some ((), τ) ∧ HM (σ.1 83) n ch0 (soN (σ.1 83)) (woN (σ.1 83)) (cur (σ.1 83) n yr y) τ ∧ FrL σ τ := by
  obtain ⟨τ1, e1, e2, e3⟩ := h.lay
  obtain ⟨τ2, f1, f2, f3⟩ := HM_till e2 h.wf h.N4 h1 h2
  exact ⟨τ1, τ2, e1, f1, f2, e3.tr f3.l⟩
theorem M_enterL {N : Nat → Int32} {n z : Nat} {ch so wo : Nat → Int32} {q : Cq} {τ : Sta} (h : HM N n ch so wo q τ) (hw : Wf N n so wo q) (hz : z < 8) : ∀ (d p fu : Nat), p + d = n → d < fu → X12_enter_L28 fu (nI z) (ents (gN N ch so wo q z) p) (nI p) τ = some (ents (gN N ch so wo q z) n, τ)
  | d, p, 0, _, h => by omega
  | 0, p, fu + 1, hp, _ => by
    have e : p = n := by omega
    subst e
    rw [X12_enter_L28, cA_of (M_many τ), HM_n h, if_neg (nI_nlt (Nat.le_refl _) (by have := hw.1; omega))]
  | d + 1, p, fu + 1, hp, hf => by
    have hn := hw.1
    have ih := M_enterL h hw hz d (p + 1) fu (by omega) (by omega)
    rw [X12_enter_L28, cA_of (M_many τ), HM_n h, if_pos (nI_lt (by omega) (by omega)), cA_of (HM_enters h hw (by omega) hz), nI_1, bi_if, Int32.or_zero]
    rw [ents] at ih
    by_cases c : gN N ch so wo q z p < 1
    · rw [decide_eq_true c]
      rw [if_neg (fun q => pos1.mp q c)] at ih
      exact ih
    · rw [decide_eq_false c]
      rw [if_pos (pos1.mpr c)] at ih
      exact ih
theorem HM_best {N : Nat → Int32} {n z : Nat} {ch so wo : Nat → Int32} {q : Cq} {τ : Sta} (h : HM N n ch so wo q τ) (hw : Wf N n so wo q) (hz : z < 8) : X12_bestIn (nI z) (-1) τ = some ((hs (gN N ch so wo q z) n).1, τ) ∧ ((hs (gN N ch so wo q z) n).1 ≠ -1 → X12_bestIn (nI z) (hs (gN N ch so wo q z) n).1 τ = some ((hs (gN N ch so wo q z) n).2.2.1, τ)) ∧ ((hs (gN N ch so wo q z) n).1 = -1 → (hs (gN N ch so wo q z) n).2.2.1 = -1) := by
  obtain ⟨a1, a2, a3, a4⟩ := hs_mb (g := gM τ z) n hw.1
  rw [← hs_ag n (HM_g h hw hz)]
  refine ⟨?_, fun e => ?_, fun e => (a3 e).1⟩
  · rw [M_bestIn (HM_n h) (HM_wf h hw) hz, a1]
  · rw [M_bestIn (HM_n h) (HM_wf h hw) hz, (a4 e).1]

theorem P_enter {σ : Sta} (h : Inv σ) (x1 : Int32) : Pair (X11_enter x1) (X12_enter x1) σ := by
  obtain ⟨n, yr, u, nn, nb, hv⟩ := h.1
  have b0 : (badC σ).1 83 0 = nI n := by rw [badC_83]; exact hv.N0
  have b4 : (badC σ).1 83 4 = nI yr := by rw [badC_83]; exact hv.N4
  by_cases e0 : inB x1 (nI yr) 7 = true
  rotate_left
  · rw [Bool.not_eq_true] at e0; exact pair_bad (a := -2) h (by simp only [X11_enter, C_toCome_b hv.s11, e0, cA_e, bi_if, within_b, C_isArt_b, C_bad, Bool.false_eq_true, ite_false, ite_true, if_true, if_false]) (by simp only [X12_enter, M_toCome_b b4, e0, cA_e, bi_if, M_isYear_b, M_isSort_b, in_01, in_02, in_05, in_06, in_07, in_09, in_30, in_60, in_99, in_12, M_bad, Bool.false_eq_true, ite_false, ite_true, if_true, if_false])
  obtain ⟨j0, hj0a, hj0, rfl⟩ := inB_t hv.y8 e0
  refine pair_q h (a := ents (gCt (σ.1 83) n yr j0) n) ?_ (fun τ hτ => ?_)
  · simp only [X11_enter, C_toCome_b hv.s11, e0, cA_e, bi_if, within_b, C_isArt_b, C_bad, Bool.false_eq_true, ite_false, ite_true, if_true, if_false]
    obtain ⟨τ, e1, e2, e3, e4, e5⟩ := hv.con hj0a hj0
    rw [cA_of e1, fI_e, e2]
    exact ⟨τ, rfl, e5⟩
  · have t83 : τ.1 83 = σ.1 83 := hτ.at (by unfold isQ; omega)
    have t0 : τ.1 83 0 = nI n := by rw [t83]; exact hv.N0
    have t4 : τ.1 83 4 = nI yr := by rw [t83]; exact hv.N4
    have tv : VR σ.1 1 (τ.1 83) n yr u nn nb := by rw [t83]; exact hv
    simp only [X12_enter, M_toCome_b t4, e0, cA_e, bi_if, M_isYear_b, M_isSort_b, in_01, in_02, in_05, in_06, in_07, in_09, in_30, in_60, in_99, in_12, M_bad, Bool.false_eq_true, ite_false, ite_true, if_true, if_false]
    obtain ⟨τ1, τ2, f1, f2, f3, f4⟩ := tv.hand hj0a (by omega)
    rw [cA_of f1, cA_of f2]
    have := M_enterL f3 (tv.cw hj0a (by omega)) hj0 n 0 FU (by omega) (by have := hv.n6; show n < 300; omega)
    rw [t83] at this
    exact ⟨τ2, this, f4.q⟩
theorem P_winner {σ : Sta} (h : Inv σ) (x1 x2 : Int32) : Pair (X11_winner x1 x2) (X12_winner x1 x2) σ := by
  obtain ⟨n, yr, u, nn, nb, hv⟩ := h.1
  have b0 : (badC σ).1 83 0 = nI n := by rw [badC_83]; exact hv.N0
  have b4 : (badC σ).1 83 4 = nI yr := by rw [badC_83]; exact hv.N4
  by_cases e0 : inB x1 (nI yr) 7 = true
  rotate_left
  · rw [Bool.not_eq_true] at e0; exact pair_bad (a := -2) h (by simp only [X11_winner, C_toCome_b hv.s11, e0, cA_e, bi_if, within_b, C_isArt_b, C_bad, Bool.false_eq_true, ite_false, ite_true, if_true, if_false]) (by simp only [X12_winner, M_toCome_b b4, e0, cA_e, bi_if, M_isYear_b, M_isSort_b, in_01, in_02, in_05, in_06, in_07, in_09, in_30, in_60, in_99, in_12, M_bad, Bool.false_eq_true, ite_false, ite_true, if_true, if_false])
  by_cases e1 : inB x2 0 1 = true
  rotate_left
  · rw [Bool.not_eq_true] at e1; exact pair_bad (a := -2) h (by simp only [X11_winner, C_toCome_b hv.s11, e0, e1, cA_e, bi_if, within_b, C_isArt_b, C_bad, Bool.false_eq_true, ite_false, ite_true, if_true, if_false]) (by simp only [X12_winner, M_toCome_b b4, e0, e1, cA_e, bi_if, M_isYear_b, M_isSort_b, in_01, in_02, in_05, in_06, in_07, in_09, in_30, in_60, in_99, in_12, M_bad, Bool.false_eq_true, ite_false, ite_true, if_true, if_false])
  obtain ⟨j0, hj0a, hj0, rfl⟩ := inB_t hv.y8 e0
  obtain ⟨j1, hj1, rfl⟩ := inB_n (m := 1) (by decide) e1
  refine pair_q h (a := (if j1 = 0 then (hs (gCt (σ.1 83) n yr j0) n).1 else (hs (gCt (σ.1 83) n yr j0) n).2.2.1)) ?_ (fun τ hτ => ?_)
  · simp only [X11_winner, C_toCome_b hv.s11, e0, e1, cA_e, bi_if, within_b, C_isArt_b, C_bad, Bool.false_eq_true, ite_false, ite_true, if_true, if_false]
    obtain ⟨τ, e1, e2, e3, e4, e5⟩ := hv.con hj0a hj0
    rw [cA_of e1, fI_e, fI_e, e3, e4]
    rcases (show j1 = 0 ∨ j1 = 1 by omega) with rfl | rfl
    · exact ⟨τ, rfl, e5⟩
    · exact ⟨τ, rfl, e5⟩
  · have t83 : τ.1 83 = σ.1 83 := hτ.at (by unfold isQ; omega)
    have t0 : τ.1 83 0 = nI n := by rw [t83]; exact hv.N0
    have t4 : τ.1 83 4 = nI yr := by rw [t83]; exact hv.N4
    have tv : VR σ.1 1 (τ.1 83) n yr u nn nb := by rw [t83]; exact hv
    simp only [X12_winner, M_toCome_b t4, e0, e1, cA_e, bi_if, M_isYear_b, M_isSort_b, in_01, in_02, in_05, in_06, in_07, in_09, in_30, in_60, in_99, in_12, M_bad, Bool.false_eq_true, ite_false, ite_true, if_true, if_false]
    obtain ⟨τ1, τ2, f1, f2, f3, f4⟩ := tv.hand hj0a (by omega)
    obtain ⟨g1, g2, g3⟩ := HM_best f3 (tv.cw hj0a (by omega)) hj0
    rw [t83] at g1 g2 g3
    rw [cA_of f1, cA_of f2, cA_of g1]
    refine ⟨τ2, ?_, f4.q⟩
    rcases (show j1 = 0 ∨ j1 = 1 by omega) with rfl | rfl
    · rfl
    · rw [if_neg (show ¬ (nI 1 : Int32) = 0 by decide), if_neg (show ¬ (1 : Nat) = 0 by decide)]
      by_cases c : (hs (gCt (σ.1 83) n yr j0) n).1 = -1
      · rw [if_pos c, c, g3 c]
      · rw [if_neg c, cA_of (g2 c)]
theorem P_end {σ : Sta} (h : Inv σ) (x1 x2 : Int32) : Pair (X11_end x1 x2) (X12_end x1 x2) σ := by
  obtain ⟨n, yr, u, nn, nb, hv⟩ := h.1
  have b0 : (badC σ).1 83 0 = nI n := by rw [badC_83]; exact hv.N0
  have b4 : (badC σ).1 83 4 = nI yr := by rw [badC_83]; exact hv.N4
  by_cases e0 : inB x1 0 (nI n - 1) = true
  rotate_left
  · rw [Bool.not_eq_true] at e0; exact pair_bad (a := -2) h (by simp only [X11_end, C_isOne_b hv.s10, e0, cA_e, bi_if, within_b, C_isArt_b, C_bad, Bool.false_eq_true, ite_false, ite_true, if_true, if_false]) (by simp only [X12_end, M_isOne_b b0, e0, cA_e, bi_if, M_isYear_b, M_isSort_b, in_01, in_02, in_05, in_06, in_07, in_09, in_30, in_60, in_99, in_12, M_bad, Bool.false_eq_true, ite_false, ite_true, if_true, if_false])
  by_cases e1 : inB x2 0 1 = true
  rotate_left
  · rw [Bool.not_eq_true] at e1; exact pair_bad (a := -2) h (by simp only [X11_end, C_isOne_b hv.s10, e0, e1, cA_e, bi_if, within_b, C_isArt_b, C_bad, Bool.false_eq_true, ite_false, ite_true, if_true, if_false]) (by simp only [X12_end, M_isOne_b b0, e0, e1, cA_e, bi_if, M_isYear_b, M_isSort_b, in_01, in_02, in_05, in_06, in_07, in_09, in_30, in_60, in_99, in_12, M_bad, Bool.false_eq_true, ite_false, ite_true, if_true, if_false])
  obtain ⟨j0, hj0, rfl⟩ := inB_1 hv.n6 e0
  obtain ⟨j1, hj1, rfl⟩ := inB_n (m := 1) (by decide) e1
  refine pair_q h (a := (if j1 = 0 then wsm (cur (σ.1 83) n yr 8).1 (woN (σ.1 83)) j0 8 else (cur (σ.1 83) n yr 8).2 j0)) ?_ (fun τ hτ => ?_)
  · simp only [X11_end, C_isOne_b hv.s10, e0, e1, cA_e, bi_if, within_b, C_isArt_b, C_bad, Bool.false_eq_true, ite_false, ite_true, if_true, if_false]
    obtain ⟨τ1, τ, e1, e2, e3, e4⟩ := hv.trial
    rw [cA_of e1, cA_of e2, cA_of (TC_wb e3 hv.n6 hj0), aI_n j0 (by have := hv.n6; omega)]
    refine ⟨τ, ?_, e4.q⟩
    rcases (show j1 = 0 ∨ j1 = 1 by omega) with rfl | rfl
    · rfl
    · obtain ⟨ch', kd', ar', so', wo', q', h1, h2, h3⟩ := e3
      rw [if_neg (show ¬ (nI 1 : Int32) = 0 by decide), if_neg (show ¬ (1 : Nat) = 0 by decide), (h3 j0 hj0).2]
      obtain ⟨g1, g2, g3, g4, g5, g6, g7, g8, g9⟩ := h1
      rw [← g9]
  · have t83 : τ.1 83 = σ.1 83 := hτ.at (by unfold isQ; omega)
    have t0 : τ.1 83 0 = nI n := by rw [t83]; exact hv.N0
    have t4 : τ.1 83 4 = nI yr := by rw [t83]; exact hv.N4
    have tv : VR σ.1 1 (τ.1 83) n yr u nn nb := by rw [t83]; exact hv
    simp only [X12_end, M_isOne_b t0, e0, e1, cA_e, bi_if, M_isYear_b, M_isSort_b, in_01, in_02, in_05, in_06, in_07, in_09, in_30, in_60, in_99, in_12, M_bad, Bool.false_eq_true, ite_false, ite_true, if_true, if_false]
    obtain ⟨τ1, τ2, f1, f2, f3, f4⟩ := tv.hand hv.y8 (by omega)
    have hw := tv.cw hv.y8 (Nat.le_refl _)
    have g1 := HM_ws f3 hw hj0
    have f2' : X12_goTill (8 : Int32) τ1 = some ((), τ2) := f2
    rw [cA_of f1, cA_of f2', cA_of g1, aI_n j0 (by have := hv.n6; omega)]
    refine ⟨τ2, ?_, f4.q⟩
    rw [t83]
    rcases (show j1 = 0 ∨ j1 = 1 by omega) with rfl | rfl
    · rfl
    · rw [if_neg (show ¬ (nI 1 : Int32) = 0 by decide), if_neg (show ¬ (1 : Nat) = 0 by decide)]
      have := (f3.2.2.1 j0 hj0).2.2.2
      rw [t83] at this
      rw [this]
end
section
/-! PURE HALF 11: what stands: of, about, good, status, part, count, digest -/
theorem VR.ag {S : Nat → Nat → Int32} {N : Nat → Int32} {r n yr u nn nb : Nat} (h : VR S r N n yr u nn nb) (ch : Nat → Int32) : Ag n ch (kM N) (aM N) (soN N) (woN N) ch (S (r + 3)) (S (r + 4)) (S (r + 1)) (S (r + 2)) ∧ AgQ n (qN N) (S (r + 5), S (r + 6)) :=
  ⟨⟨fun p hp => ⟨rfl, (h.pe p hp).1.symm, fun t ht => ((h.pe p hp).2.2.2 t ht).symm⟩, fun y hy => ⟨(h.ye y hy).1.symm, (h.ye y hy).2.symm⟩⟩, fun p hp => ⟨(h.pe p hp).2.1.symm, (h.pe p hp).2.2.1.symm⟩⟩
theorem VR.wfc {σ : Sta} {N : Nat → Int32} {r n yr u nn nb : Nat} (h : VR σ.1 r N n yr u nn nb) : wfS r n σ := WF_ag (h.ag ch0).1 (fun p hp => ((h.ag ch0).2 p hp).1) h.wf
theorem predN {k : Nat} (h : 0 < k) : nI k - 1 = nI (k - 1) := by
  obtain ⟨m, rfl⟩ : ∃ m, k = m + 1 := ⟨k - 1, by omega⟩
  rw [nI_pred]
  rfl
theorem C_skillBy {c k : Nat} (hk : k < 6) (a y : Int32) (s : Sta) : X0_skillBy c (nI k) a y s = some (skillP k a y, s) := by
  rw [X0_skillBy, cA_of (within5 hk), if_neg n10, aR_n k hk, cA_of (V_skill_e hk _ _ _)]
theorem VR.mgood {σ : Sta} {S : Nat → Nat → Int32} {r n yr u nn nb : Nat} (h : VR S r (σ.1 83) n yr u nn nb) {p t y : Nat} (hp : p < n) (ht : t < 3) (hy : y < 8) : X12_goodOf (nI p) (nI t) (nI y) σ = some (skillP (kno (kM (σ.1 83) p)) (aM (σ.1 83) (3 * p + t)) (nI y), σ) := by
  have hn := h.n6
  obtain ⟨k, hk6, ek⟩ := h.kd p hp
  obtain ⟨a, ha10, ea⟩ := h.ar p hp t ht
  have ek2 : kM (σ.1 83) p = nI k := ek
  have ea2 : aM (σ.1 83) (3 * p + t) = nI a := ea
  rw [X12_goodOf, a17, aI_n (17 + p) (by omega), ek, m23, aI_n (23 + (3 * p + t)) (by omega), ea, cA_of (M_goodAs hk6 ha10 hy σ), ek2, ea2, kno_n (by omega)]

theorem P_of {σ : Sta} (h : Inv σ) (x1 x2 : Int32) : Pair (X11_of x1 x2) (X12_of x1 x2) σ := by
  obtain ⟨n, yr, u, nn, nb, hv⟩ := h.1
  have b0 : (badC σ).1 83 0 = nI n := by rw [badC_83]; exact hv.N0
  have b4 : (badC σ).1 83 4 = nI yr := by rw [badC_83]; exact hv.N4
  by_cases e0 : inB x1 0 (nI n - 1) = true
  rotate_left
  · rw [Bool.not_eq_true] at e0; exact pair_bad (a := -2) h (by simp only [X11_of, C_isOne_b hv.s10, e0, cA_e, bi_if, within_b, C_isArt_b, C_bad, Bool.false_eq_true, ite_false, ite_true, if_true, if_false]) (by simp only [X12_of, M_isOne_b b0, e0, cA_e, bi_if, M_isYear_b, M_isSort_b, in_01, in_02, in_05, in_06, in_07, in_09, in_30, in_60, in_99, in_12, M_bad, Bool.false_eq_true, ite_false, ite_true, if_true, if_false])
  by_cases e1 : inB x2 0 6 = true
  rotate_left
  · rw [Bool.not_eq_true] at e1; exact pair_bad (a := -2) h (by simp only [X11_of, C_isOne_b hv.s10, e0, e1, cA_e, bi_if, within_b, C_isArt_b, C_bad, Bool.false_eq_true, ite_false, ite_true, if_true, if_false]) (by simp only [X12_of, M_isOne_b b0, e0, e1, cA_e, bi_if, M_isYear_b, M_isSort_b, in_01, in_02, in_05, in_06, in_07, in_09, in_30, in_60, in_99, in_12, M_bad, Bool.false_eq_true, ite_false, ite_true, if_true, if_false])
  obtain ⟨j0, hj0, rfl⟩ := inB_1 hv.n6 e0
  obtain ⟨j1, hj1, rfl⟩ := inB_n (m := 6) (by decide) e1
  refine pair_q h (a := (if j1 = 0 then σ.1 83 (17 + j0) else if j1 = 4 then σ.1 83 (5 + j0) else if j1 = 5 then σ.1 83 (11 + j0) else if j1 = 6 then bi (barP (kno (kM (σ.1 83) j0)) (bcE (σ.1 83 (5 + j0)))) else σ.1 83 (23 + (3 * j0 + (j1 - 1))))) ?_ (fun τ hτ => ?_)
  · simp only [X11_of, C_isOne_b hv.s10, e0, e1, cA_e, bi_if, within_b, C_isArt_b, C_bad, Bool.false_eq_true, ite_false, ite_true, if_true, if_false]
    have hn := hv.n6
    obtain ⟨p1, p2, p3, p4⟩ := hv.pe j0 hj0
    refine ⟨σ, ?_, FrQ.rf σ⟩
    rcases (show j1 = 0 ∨ j1 = 1 ∨ j1 = 2 ∨ j1 = 3 ∨ j1 = 4 ∨ j1 = 5 ∨ j1 = 6 by omega) with rfl | rfl | rfl | rfl | rfl | rfl | rfl
    · show aI σ 4 6 (nI j0) (fun v7 => some (v7, σ)) = some (σ.1 83 (17 + j0), σ)
      rw [aI_n j0 (by omega), ← p1]
    · show aI σ 5 18 (nI j0 * 3 + nI 1 - 1) (fun v7 => some (v7, σ)) = some (σ.1 83 (23 + (3 * j0 + 0)), σ)
      rw [m3, predN (by omega), aI_n _ (by omega), ← p4 0 (by decide)]
      rfl
    · show aI σ 5 18 (nI j0 * 3 + nI 2 - 1) (fun v7 => some (v7, σ)) = some (σ.1 83 (23 + (3 * j0 + 1)), σ)
      rw [m3, predN (by omega), aI_n _ (by omega), ← p4 1 (by decide)]
      rfl
    · show aI σ 5 18 (nI j0 * 3 + nI 3 - 1) (fun v7 => some (v7, σ)) = some (σ.1 83 (23 + (3 * j0 + 2)), σ)
      rw [m3, predN (by omega), aI_n _ (by omega), ← p4 2 (by decide)]
      rfl
    · show aI σ 6 6 (nI j0) (fun v7 => some (v7, σ)) = some (σ.1 83 (5 + j0), σ)
      rw [aI_n j0 (by omega), ← p2]
    · show aI σ 7 6 (nI j0) (fun v7 => some (v7, σ)) = some (σ.1 83 (11 + j0), σ)
      rw [aI_n j0 (by omega), ← p3]
    · have hb := C_isBarred (c := 55) (r := 1) hv.wfc hj0
      rw [show σ.1 (1 + 3) j0 = kM (σ.1 83) j0 from p1, show σ.1 (1 + 5) j0 = σ.1 83 (5 + j0) from p2] at hb
      show cA (X0_isBarred 55 1 (nI j0) σ) (fun q10 s11 => if q10 = 0 then some ((0 : Int32), s11) else some ((1 : Int32), s11)) = some (bi (barP (kno (kM (σ.1 83) j0)) (bcE (σ.1 83 (5 + j0)))), σ)
      rw [cA_of hb]
      cases barP (kno (kM (σ.1 83) j0)) (bcE (σ.1 83 (5 + j0))) <;> rfl
  · have t83 : τ.1 83 = σ.1 83 := hτ.at (by unfold isQ; omega)
    have t0 : τ.1 83 0 = nI n := by rw [t83]; exact hv.N0
    have t4 : τ.1 83 4 = nI yr := by rw [t83]; exact hv.N4
    have tv : VR σ.1 1 (τ.1 83) n yr u nn nb := by rw [t83]; exact hv
    simp only [X12_of, M_isOne_b t0, e0, e1, cA_e, bi_if, M_isYear_b, M_isSort_b, in_01, in_02, in_05, in_06, in_07, in_09, in_30, in_60, in_99, in_12, M_bad, Bool.false_eq_true, ite_false, ite_true, if_true, if_false]
    have hn := hv.n6
    obtain ⟨τ1, f1, f2, f3⟩ := tv.lay
    rw [cA_of f1]
    have q83 : τ1.1 83 = σ.1 83 := by rw [f3.1 83 (by unfold isL; omega)]; exact t83
    obtain ⟨-, -, w1, -⟩ := f2
    have w1' := w1 j0 hj0
    rw [t83] at w1'
    obtain ⟨-, -, w2, w3⟩ := w1'
    refine ⟨τ1, ?_, f3.q⟩
    rcases (show j1 = 0 ∨ j1 = 1 ∨ j1 = 2 ∨ j1 = 3 ∨ j1 = 4 ∨ j1 = 5 ∨ j1 = 6 by omega) with rfl | rfl | rfl | rfl | rfl | rfl | rfl
    · show aI τ1 83 209 (17 + nI j0) (fun v7 => some (v7, τ1)) = some (σ.1 83 (17 + j0), τ1)
      rw [a17, aI_n _ (by omega), q83]
    · show aI τ1 83 209 (23 + 3 * nI j0 + nI 1 - 1) (fun v7 => some (v7, τ1)) = some (σ.1 83 (23 + (3 * j0 + 0)), τ1)
      rw [m23, predN (by omega), aI_n _ (by omega), q83]
      rfl
    · show aI τ1 83 209 (23 + 3 * nI j0 + nI 2 - 1) (fun v7 => some (v7, τ1)) = some (σ.1 83 (23 + (3 * j0 + 1)), τ1)
      rw [m23, predN (by omega), aI_n _ (by omega), q83]
      rfl
    · show aI τ1 83 209 (23 + 3 * nI j0 + nI 3 - 1) (fun v7 => some (v7, τ1)) = some (σ.1 83 (23 + (3 * j0 + 2)), τ1)
      rw [m23, predN (by omega), aI_n _ (by omega), q83]
      rfl
    · show aI τ1 87 6 (nI j0) (fun v7 => some (v7, τ1)) = some (σ.1 83 (5 + j0), τ1)
      rw [aI_n _ (by omega), ← w2]
      rfl
    · show aI τ1 88 6 (nI j0) (fun v7 => some (v7, τ1)) = some (σ.1 83 (11 + j0), τ1)
      rw [aI_n _ (by omega), ← w3]
      rfl
    · obtain ⟨τ1', f1', f2', f3'⟩ := tv.lay
      have et : τ1' = τ1 := by
        rw [f1] at f1'
        injection f1' with e
        exact (congrArg Prod.snd e).symm
      subst et
      have hb := M_isBarred (HM_wf f2' tv.wf) hj0
      rw [q83, ← w2] at hb
      show cA (X12_isBarred (nI j0) τ1') (fun q10 s11 => if q10 = 0 then some ((0 : Int32), s11) else some ((1 : Int32), s11)) = some (bi (barP (kno (kM (σ.1 83) j0)) (bcE (σ.1 83 (5 + j0)))), τ1')
      rw [cA_of hb]
      show (if bi (barP (kno (kM (σ.1 83) j0)) (bcE (σ.1 83 (5 + j0)))) = 0 then _ else _) = _
      cases barP (kno (kM (σ.1 83) j0)) (bcE (σ.1 83 (5 + j0))) <;> rfl
theorem P_about {σ : Sta} (h : Inv σ) (x1 x2 : Int32) : Pair (X11_about x1 x2) (X12_about x1 x2) σ := by
  obtain ⟨n, yr, u, nn, nb, hv⟩ := h.1
  have b0 : (badC σ).1 83 0 = nI n := by rw [badC_83]; exact hv.N0
  have b4 : (badC σ).1 83 4 = nI yr := by rw [badC_83]; exact hv.N4
  by_cases e0 : inB x1 0 7 = true
  rotate_left
  · rw [Bool.not_eq_true] at e0; exact pair_bad (a := -10) h (by simp only [X11_about, e0, cA_e, bi_if, within_b, C_isArt_b, C_bad, Bool.false_eq_true, ite_false, ite_true, if_true, if_false]) (by simp only [X12_about, e0, cA_e, bi_if, M_isYear_b, M_isSort_b, in_01, in_02, in_05, in_06, in_07, in_09, in_30, in_60, in_99, in_12, M_bad, Bool.false_eq_true, ite_false, ite_true, if_true, if_false])
  by_cases e1 : inB x2 0 1 = true
  rotate_left
  · rw [Bool.not_eq_true] at e1; exact pair_bad (a := -10) h (by simp only [X11_about, e0, e1, cA_e, bi_if, within_b, C_isArt_b, C_bad, Bool.false_eq_true, ite_false, ite_true, if_true, if_false]) (by simp only [X12_about, e0, e1, cA_e, bi_if, M_isYear_b, M_isSort_b, in_01, in_02, in_05, in_06, in_07, in_09, in_30, in_60, in_99, in_12, M_bad, Bool.false_eq_true, ite_false, ite_true, if_true, if_false])
  obtain ⟨j0, hj0, rfl⟩ := inB_n (m := 7) (by decide) e0
  obtain ⟨j1, hj1, rfl⟩ := inB_n (m := 1) (by decide) e1
  refine pair_q h (a := (if j1 = 0 then σ.1 83 (41 + j0) else σ.1 83 (49 + j0))) ?_ (fun τ hτ => ?_)
  · simp only [X11_about, e0, e1, cA_e, bi_if, within_b, C_isArt_b, C_bad, Bool.false_eq_true, ite_false, ite_true, if_true, if_false]
    obtain ⟨p1, p2⟩ := hv.ye j0 (by omega)
    refine ⟨σ, ?_, FrQ.rf σ⟩
    rw [aI_n j0 (by omega), aI_n j0 (by omega), p1, p2]
    rcases (show j1 = 0 ∨ j1 = 1 by omega) with rfl | rfl <;> rfl
  · have t83 : τ.1 83 = σ.1 83 := hτ.at (by unfold isQ; omega)
    have t0 : τ.1 83 0 = nI n := by rw [t83]; exact hv.N0
    have t4 : τ.1 83 4 = nI yr := by rw [t83]; exact hv.N4
    have tv : VR σ.1 1 (τ.1 83) n yr u nn nb := by rw [t83]; exact hv
    simp only [X12_about, e0, e1, cA_e, bi_if, M_isYear_b, M_isSort_b, in_01, in_02, in_05, in_06, in_07, in_09, in_30, in_60, in_99, in_12, M_bad, Bool.false_eq_true, ite_false, ite_true, if_true, if_false]
    refine ⟨τ, ?_, FrQ.rf τ⟩
    rw [a41, a49, aI_n _ (by omega), aI_n _ (by omega), t83]
    rcases (show j1 = 0 ∨ j1 = 1 by omega) with rfl | rfl <;> rfl
theorem P_good {σ : Sta} (h : Inv σ) (x1 x2 x3 : Int32) : Pair (X11_good x1 x2 x3) (X12_good x1 x2 x3) σ := by
  obtain ⟨n, yr, u, nn, nb, hv⟩ := h.1
  have b0 : (badC σ).1 83 0 = nI n := by rw [badC_83]; exact hv.N0
  have b4 : (badC σ).1 83 4 = nI yr := by rw [badC_83]; exact hv.N4
  by_cases e0 : inB x1 0 (nI n - 1) = true
  rotate_left
  · rw [Bool.not_eq_true] at e0; exact pair_bad (a := -2) h (by simp only [X11_good, C_isOne_b hv.s10, e0, cA_e, bi_if, within_b, C_isArt_b, C_bad, Bool.false_eq_true, ite_false, ite_true, if_true, if_false]) (by simp only [X12_good, M_isOne_b b0, e0, cA_e, bi_if, M_isYear_b, M_isSort_b, in_01, in_02, in_05, in_06, in_07, in_09, in_30, in_60, in_99, in_12, M_bad, Bool.false_eq_true, ite_false, ite_true, if_true, if_false])
  by_cases e1 : inB x2 0 2 = true
  rotate_left
  · rw [Bool.not_eq_true] at e1; exact pair_bad (a := -2) h (by simp only [X11_good, C_isOne_b hv.s10, e0, e1, cA_e, bi_if, within_b, C_isArt_b, C_bad, Bool.false_eq_true, ite_false, ite_true, if_true, if_false]) (by simp only [X12_good, M_isOne_b b0, e0, e1, cA_e, bi_if, M_isYear_b, M_isSort_b, in_01, in_02, in_05, in_06, in_07, in_09, in_30, in_60, in_99, in_12, M_bad, Bool.false_eq_true, ite_false, ite_true, if_true, if_false])
  by_cases e2 : inB x3 0 7 = true
  rotate_left
  · rw [Bool.not_eq_true] at e2; exact pair_bad (a := -2) h (by simp only [X11_good, C_isOne_b hv.s10, e0, e1, e2, cA_e, bi_if, within_b, C_isArt_b, C_bad, Bool.false_eq_true, ite_false, ite_true, if_true, if_false]) (by simp only [X12_good, M_isOne_b b0, e0, e1, e2, cA_e, bi_if, M_isYear_b, M_isSort_b, in_01, in_02, in_05, in_06, in_07, in_09, in_30, in_60, in_99, in_12, M_bad, Bool.false_eq_true, ite_false, ite_true, if_true, if_false])
  obtain ⟨j0, hj0, rfl⟩ := inB_1 hv.n6 e0
  obtain ⟨j1, hj1, rfl⟩ := inB_n (m := 2) (by decide) e1
  obtain ⟨j2, hj2, rfl⟩ := inB_n (m := 7) (by decide) e2
  refine pair_q h (a := skillP (kno (kM (σ.1 83) j0)) (aM (σ.1 83) (3 * j0 + j1)) (nI j2)) ?_ (fun τ hτ => ?_)
  · simp only [X11_good, C_isOne_b hv.s10, e0, e1, e2, cA_e, bi_if, within_b, C_isArt_b, C_bad, Bool.false_eq_true, ite_false, ite_true, if_true, if_false]
    have hn := hv.n6
    obtain ⟨p1, p2, p3, p4⟩ := hv.pe j0 hj0
    obtain ⟨k, hk6, ek⟩ := hv.kd j0 hj0
    refine ⟨σ, ?_, FrQ.rf σ⟩
    rw [aI_n j0 (by omega), m3, aI_n _ (by omega), p1, p4 j1 (by omega), ek, cA_of (C_skillBy hk6 _ _ _), show kM (σ.1 83) j0 = nI k from ek, kno_n (by omega)]
    rfl
  · have t83 : τ.1 83 = σ.1 83 := hτ.at (by unfold isQ; omega)
    have t0 : τ.1 83 0 = nI n := by rw [t83]; exact hv.N0
    have t4 : τ.1 83 4 = nI yr := by rw [t83]; exact hv.N4
    have tv : VR σ.1 1 (τ.1 83) n yr u nn nb := by rw [t83]; exact hv
    simp only [X12_good, M_isOne_b t0, e0, e1, e2, cA_e, bi_if, M_isYear_b, M_isSort_b, in_01, in_02, in_05, in_06, in_07, in_09, in_30, in_60, in_99, in_12, M_bad, Bool.false_eq_true, ite_false, ite_true, if_true, if_false]
    refine ⟨τ, ?_, FrQ.rf τ⟩
    rw [cA_of (tv.mgood hj0 (by omega) (by omega)), t83]
theorem P_status {σ : Sta} (h : Inv σ) (x1 : Int32) : Pair (X11_status x1) (X12_status x1) σ := by
  by_cases e : inB x1 0 2 = true
  · have e' := e
    obtain ⟨j, hj, rfl⟩ := inB_n (m := 2) (by decide) e
    refine pair_q h (a := σ.1 86 j) ⟨σ, ?_, FrQ.rf σ⟩ (fun τ hτ => ⟨τ, ?_, FrQ.rf τ⟩)
    · rw [← h.2.2.1 j (by omega)]
      rcases (show j = 0 ∨ j = 1 ∨ j = 2 by omega) with rfl | rfl | rfl <;> rfl
    · simp only [X12_status, e', cA_e, bi_if, M_isYear_b, M_isSort_b, in_01, in_02, in_05, in_06, in_07, in_09, in_30, in_60, in_99, in_12, M_bad, Bool.false_eq_true, ite_false, ite_true, if_true, if_false]
      rw [aI_n j (by omega), hτ.at (by unfold isQ; omega)]
  · rw [Bool.not_eq_true] at e
    have hne : ∀ j, j ≤ 2 → ¬ x1 = nI j := by
      intro j hj q
      subst q
      rcases (show j = 0 ∨ j = 1 ∨ j = 2 by omega) with rfl | rfl | rfl <;> exact absurd e (by decide)
    refine pair_bad (a := -1) h ?_ ?_
    · rw [X11_status, tsw', if_neg (show ¬ x1 = ((0 : Int32), fI σ 0 9 fun v3 => some (v3, σ)).fst from hne 0 (by decide)), tsw', if_neg (show ¬ x1 = ((1 : Int32), fI σ 0 10 fun v3 => some (v3, σ)).fst from hne 1 (by decide)), tsw', if_neg (show ¬ x1 = ((2 : Int32), fI σ 0 11 fun v3 => some (v3, σ)).fst from hne 2 (by decide)), tsw', C_bad, cA_e]
    · simp only [X12_status, e, cA_e, bi_if, M_isYear_b, M_isSort_b, in_01, in_02, in_05, in_06, in_07, in_09, in_30, in_60, in_99, in_12, M_bad, Bool.false_eq_true, ite_false, ite_true, if_true, if_false]
theorem P_part {σ : Sta} (h : Inv σ) (x1 : Int32) : Pair (X11_part x1) (X12_part x1) σ := by
  by_cases e : inB x1 0 1 = true
  · have e' := e
    obtain ⟨j, hj, rfl⟩ := inB_n (m := 1) (by decide) e
    refine pair_q h (a := if j = 0 then σ.2 0 7 else σ.2 0 8) ⟨σ, ?_, FrQ.rf σ⟩ (fun τ hτ => ⟨τ, ?_, FrQ.rf τ⟩)
    · simp only [X11_part, e', cA_e, bi_if, within_b, C_isArt_b, C_bad, Bool.false_eq_true, ite_false, ite_true, if_true, if_false]
      rcases (show j = 0 ∨ j = 1 by omega) with rfl | rfl <;> rfl
    · rw [h.2.2.2.1.1, h.2.2.2.1.2, ← hτ.2]
      rcases (show j = 0 ∨ j = 1 by omega) with rfl | rfl <;> rfl
  · rw [Bool.not_eq_true] at e
    have hne : ∀ j, j ≤ 1 → ¬ x1 = nI j := by
      intro j hj q
      subst q
      rcases (show j = 0 ∨ j = 1 by omega) with rfl | rfl <;> exact absurd e (by decide)
    refine pair_bad (a := (-2 : Int32).toInt64) h ?_ ?_
    · simp only [X11_part, e, cA_e, bi_if, within_b, C_isArt_b, C_bad, Bool.false_eq_true, ite_false, ite_true, if_true, if_false]
    · rw [X12_part, if_neg (show ¬ x1 = 0 from hne 0 (by decide)), if_neg (show ¬ x1 = 1 from hne 1 (by decide)), M_bad, cA_e]
def tl (so : Nat → Int32) : Nat → Int32
  | 0 => 0
  | y + 1 => if so y = -1 then tl so y else tl so y + 1
def wlA (wi : Nat → Int32) : Nat → Int32
  | 0 => 0
  | p + 1 => wlA wi p + bcE (wi p)
theorem C_toldL {σ : Sta} {N : Nat → Int32} {n yr u nn nb : Nat} (h : VR σ.1 1 N n yr u nn nb) : ∀ (d y fu : Nat), y + d = 8 → d < fu → X10_prizesTold_L4 1 fu (tl (soN N) y) (nI y) σ = some (tl (soN N) 8, σ)
  | d, y, 0, _, h => by omega
  | 0, y, fu + 1, hy, _ => by
    have e : y = 8 := by omega
    subst e
    rw [X10_prizesTold_L4, if_neg nlt8]
  | d + 1, y, fu + 1, hy, hf => by
    have ih := C_toldL h d (y + 1) fu (by omega) (by omega)
    rw [tl] at ih
    have e : σ.1 (1 + 1) y = soN N y := (h.ye y (by omega)).1
    rw [X10_prizesTold_L4, if_pos (lt8 (by omega)), aI_n y (by omega), e, nI_1]
    by_cases c : soN N y = -1
    · rw [if_pos c] at ih ⊢; exact ih
    · rw [if_neg c] at ih ⊢; exact ih
theorem M_toldL {σ : Sta} : ∀ (d y fu : Nat), y + d = 8 → d < fu → X12_manyPrizes_L4 fu (tl (soN (σ.1 83)) y) (nI y) σ = some (tl (soN (σ.1 83)) 8, σ)
  | d, y, 0, _, h => by omega
  | 0, y, fu + 1, hy, _ => by
    have e : y = 8 := by omega
    subst e
    rw [X12_manyPrizes_L4, if_neg nlt8]
  | d + 1, y, fu + 1, hy, hf => by
    have ih := M_toldL (σ := σ) d (y + 1) fu (by omega) (by omega)
    rw [tl] at ih
    rw [X12_manyPrizes_L4, if_pos (lt8 (by omega)), a41, aI_n _ (by omega), nI_1, Int32.add_zero]
    by_cases c : σ.1 83 (41 + y) = -1
    · rw [if_pos c]
      rw [if_pos (show soN (σ.1 83) y = -1 from c)] at ih; exact ih
    · rw [if_neg c]
      rw [if_neg (show ¬ soN (σ.1 83) y = -1 from c)] at ih; exact ih
theorem C_winsL {σ : Sta} {N : Nat → Int32} {n yr u nn nb : Nat} (h : VR σ.1 1 N n yr u nn nb) : ∀ (d p fu : Nat), p + d = n → d < fu → X10_winsOfAll_L4 1 fu (wlA (qN N).1 p) (nI p) σ = some (wlA (qN N).1 n, σ)
  | d, p, 0, _, h => by omega
  | 0, p, fu + 1, hp, _ => by
    have hn := h.n6
    have e : p = n := by omega
    subst e
    rw [X10_winsOfAll_L4, fI_e, h.s10, if_neg (nI_nlt (Nat.le_refl _) (by omega))]
  | d + 1, p, fu + 1, hp, hf => by
    have hn := h.n6
    have ih := C_winsL h d (p + 1) fu (by omega) (by omega)
    have e : σ.1 (1 + 5) p = (qN N).1 p := (h.pe p (by omega)).2.1
    rw [X10_winsOfAll_L4, fI_e, h.s10, if_pos (nI_lt (by omega) (by omega)), aI_n p (by omega), e, cA_of (bcE_e _ _), nI_1]
    exact ih
theorem M_winsL {σ : Sta} {S : Nat → Nat → Int32} {r n yr u nn nb : Nat} (h : VR S r (σ.1 83) n yr u nn nb) : ∀ (d p fu : Nat), p + d = n → d < fu → X12_manyWins_L4 fu (wlA (qN (σ.1 83)).1 p) (nI p) σ = some (wlA (qN (σ.1 83)).1 n, σ)
  | d, p, 0, _, h => by omega
  | 0, p, fu + 1, hp, _ => by
    have hn := h.n6
    have e : p = n := by omega
    subst e
    rw [X12_manyWins_L4, cA_of (M_many σ), h.N0, if_neg (nI_nlt (Nat.le_refl _) (by omega))]
  | d + 1, p, fu + 1, hp, hf => by
    have hn := h.n6
    have ih := M_winsL h d (p + 1) fu (by omega) (by omega)
    obtain ⟨w, hw, ew⟩ := h.wf.2.2.2.1 p (by omega)
    rw [wlA, ew, bcE_p w hw] at ih
    have ew2 : σ.1 83 (5 + p) = nI w := ew
    rw [X12_manyWins_L4, cA_of (M_many σ), h.N0, if_pos (nI_lt (by omega) (by omega)), a5, aI_n _ (by omega), ew2, cA_of (M_bits hw σ), nI_1]
    exact ih
def amt (N : Nat → Int32) (n : Nat) (len : Int32) (j : Nat) : Int32 := if j = 0 then N 0 else if j = 1 then N 4 else if j = 2 then tl (soN N) 8 else if j = 3 then wlA (qN N).1 n else if j = 4 then N 1 else if j = 5 then N 2 else if j = 6 then N 3 else len
theorem C_amount {σ : Sta} {N : Nat → Int32} {n yr u nn nb : Nat} (h : VR σ.1 1 N n yr u nn nb) {j : Nat} (hj : j < 8) : X11_amount (nI j) σ = some (amt N n (σ.1 80 1) j, σ) := by
  have hn := h.n6
  rcases (show j = 0 ∨ j = 1 ∨ j = 2 ∨ j = 3 ∨ j = 4 ∨ j = 5 ∨ j = 6 ∨ j = 7 by omega) with rfl | rfl | rfl | rfl | rfl | rfl | rfl | rfl
  · show some (σ.1 1 10, σ) = some (N 0, σ)
    rw [h.s10, h.N0]
  · show some (σ.1 1 11, σ) = some (N 4, σ)
    rw [h.s11, h.N4]
  · show cA (X10_prizesTold 1 σ) (fun q s => some (q, s)) = some (tl (soN N) 8, σ)
    rw [cA_of (show X10_prizesTold 1 σ = some (tl (soN N) 8, σ) from C_toldL h 8 0 FU rfl (by decide))]
  · show cA (X10_winsOfAll 1 σ) (fun q s => some (q, s)) = some (wlA (qN N).1 n, σ)
    rw [cA_of (show X10_winsOfAll 1 σ = some (wlA (qN N).1 n, σ) from C_winsL h n 0 FU (by omega) (by show n < 300; omega))]
  · show some (σ.1 10 1, σ) = some (N 1, σ)
    rw [show σ.1 10 1 = nI nn from h.sn, h.N1]
  · show some (σ.1 12 1, σ) = some (N 2, σ)
    rw [show σ.1 12 1 = nI nb from h.sb, h.N2]
  · show some (σ.1 1 12, σ) = some (N 3, σ)
    rw [h.s12, h.N3]
  · rfl
theorem M_counted {σ : Sta} {S : Nat → Nat → Int32} {r n yr u nn nb : Nat} (h : VR S r (σ.1 83) n yr u nn nb) {j : Nat} (hj : j < 8) : X12_counted (nI j) σ = some (amt (σ.1 83) n (σ.1 82 14) j, σ) := by
  have hn := h.n6
  rcases (show j = 0 ∨ j = 1 ∨ j = 2 ∨ j = 3 ∨ j = 4 ∨ j = 5 ∨ j = 6 ∨ j = 7 by omega) with rfl | rfl | rfl | rfl | rfl | rfl | rfl | rfl
  · show cA (X12_many σ) (fun q s => some (q, s)) = some (σ.1 83 0, σ)
    rw [cA_of (M_many σ)]
  · show aI σ 83 209 4 (fun v => some (v, σ)) = some (σ.1 83 4, σ)
    rw [aI4]
  · show cA (X12_manyPrizes σ) (fun q s => some (q, s)) = some (tl (soN (σ.1 83)) 8, σ)
    rw [cA_of (show X12_manyPrizes σ = some (tl (soN (σ.1 83)) 8, σ) from M_toldL 8 0 FU rfl (by decide))]
  · show cA (X12_manyWins σ) (fun q s => some (q, s)) = some (wlA (qN (σ.1 83)).1 n, σ)
    rw [cA_of (show X12_manyWins σ = some (wlA (qN (σ.1 83)).1 n, σ) from M_winsL h n 0 FU (by omega) (by show n < 300; omega))]
  · show aI σ 83 209 1 (fun v => some (v, σ)) = some (σ.1 83 1, σ)
    rw [aI1]
  · show aI σ 83 209 2 (fun v => some (v, σ)) = some (σ.1 83 2, σ)
    rw [aI2]
  · show aI σ 83 209 3 (fun v => some (v, σ)) = some (σ.1 83 3, σ)
    rw [aI3]
  · rfl
theorem Inv.len {σ : Sta} (h : Inv σ) : σ.1 80 1 = σ.1 82 14 := by
  obtain ⟨-, -, -, -, L, h1, h2, h3, h4⟩ := h
  rw [h2, h3]
theorem P_count {σ : Sta} (h : Inv σ) (x1 : Int32) : Pair (X11_count x1) (X12_count x1) σ := by
  obtain ⟨n, yr, u, nn, nb, hv⟩ := h.1
  have b0 : (badC σ).1 83 0 = nI n := by rw [badC_83]; exact hv.N0
  have b4 : (badC σ).1 83 4 = nI yr := by rw [badC_83]; exact hv.N4
  by_cases e0 : inB x1 0 7 = true
  rotate_left
  · rw [Bool.not_eq_true] at e0; exact pair_bad (a := -2) h (by simp only [X11_count, e0, cA_e, bi_if, within_b, C_isArt_b, C_bad, Bool.false_eq_true, ite_false, ite_true, if_true, if_false]) (by simp only [X12_count, e0, cA_e, bi_if, M_isYear_b, M_isSort_b, in_01, in_02, in_05, in_06, in_07, in_09, in_30, in_60, in_99, in_12, M_bad, Bool.false_eq_true, ite_false, ite_true, if_true, if_false])
  obtain ⟨j0, hj0, rfl⟩ := inB_n (m := 7) (by decide) e0
  refine pair_q h (a := amt (σ.1 83) n (σ.1 82 14) j0) ?_ (fun τ hτ => ?_)
  · simp only [X11_count, e0, cA_e, bi_if, within_b, C_isArt_b, C_bad, Bool.false_eq_true, ite_false, ite_true, if_true, if_false]
    have := C_amount hv (j := j0) (by omega)
    rw [h.len] at this
    rw [cA_of this]
    exact ⟨σ, rfl, FrQ.rf σ⟩
  · have t83 : τ.1 83 = σ.1 83 := hτ.at (by unfold isQ; omega)
    have t0 : τ.1 83 0 = nI n := by rw [t83]; exact hv.N0
    have t4 : τ.1 83 4 = nI yr := by rw [t83]; exact hv.N4
    have tv : VR σ.1 1 (τ.1 83) n yr u nn nb := by rw [t83]; exact hv
    simp only [X12_count, e0, cA_e, bi_if, M_isYear_b, M_isSort_b, in_01, in_02, in_05, in_06, in_07, in_09, in_30, in_60, in_99, in_12, M_bad, Bool.false_eq_true, ite_false, ite_true, if_true, if_false]
    have := M_counted tv (j := j0) (by omega)
    rw [cA_of this, t83, hτ.at (show ¬ isQ 82 by unfold isQ; omega)]
    exact ⟨τ, rfl, FrQ.rf τ⟩
-- digest
def sm (f : Nat → Int32) (h : Int64) : Nat → Int64
  | 0 => h
  | k + 1 => 31 * sm f h k + (f k).toInt64
theorem sm_ag {f g : Nat → Int32} {h : Int64} : ∀ k, (∀ i, i < k → f i = g i) → sm f h k = sm g h k
  | 0, _ => rfl
  | k + 1, e => by rw [sm, sm, sm_ag k (fun i hi => e i (by omega)), e k (by omega)]
def sy (so wo : Nat → Int32) (h : Int64) : Nat → Int64
  | 0 => h
  | y + 1 => 31 * (31 * sy so wo h y + (so y).toInt64) + (wo y).toInt64
def sp (kd ar wi se : Nat → Int32) (h : Int64) : Nat → Int64
  | 0 => h
  | p + 1 => 31 * (31 * sm (fun t => ar (3 * p + t)) (31 * sp kd ar wi se h p + (kd p).toInt64) 3 + (wi p).toInt64) + (se p).toInt64
theorem x4 (n : Nat) : nI n * 4 = nI (4 * n) := by
  have h : (4 : Int32) = nI 4 := rfl
  rw [h, pk_mul, Nat.mul_comm]
theorem x4' (n : Nat) : (4 : Int32) * nI n = nI (4 * n) := by
  have h : (4 : Int32) = nI 4 := rfl
  rw [h, pk_mul]
theorem C_mixT {σ : Sta} {r m : Nat} (hm : m ≤ 6) (h1 : σ.1 r 1 = nI m) (h : Int64) : ∀ (d i fu : Nat), i + d = 4 * m → d < fu → X9_mixedInto_L2 r fu (sm (σ.1 (r + 1)) h i) (nI i) σ = some (sm (σ.1 (r + 1)) h (4 * m), σ)
  | d, i, 0, _, h => by omega
  | 0, i, fu + 1, hi, _ => by
    have e : i = 4 * m := by omega
    rw [X9_mixedInto_L2, fI_e, h1, x4, e, if_neg (nI_nlt (Nat.le_refl _) (by omega))]
  | d + 1, i, fu + 1, hi, hf => by
    have ih := C_mixT hm h1 h d (i + 1) fu (by omega) (by omega)
    rw [X9_mixedInto_L2, fI_e, h1, x4, if_pos (nI_lt (by omega) (by omega)), aI_n i (by omega), nI_1]
    exact ih
theorem M_sumsL {σ : Sta} {a m : Nat} (hm : a + m ≤ 209) (h : Int64) : ∀ (d i fu : Nat), i + d = m → d < fu → X12_sums_L6 fu (nI a) (nI m) (sm (fun i => σ.1 83 (a + i)) h i) (nI i) σ = some (sm (fun i => σ.1 83 (a + i)) h m, σ)
  | d, i, 0, _, h => by omega
  | 0, i, fu + 1, hi, _ => by
    have e : i = m := by omega
    subst e
    rw [X12_sums_L6, if_neg (nI_nlt (Nat.le_refl _) (by omega))]
  | d + 1, i, fu + 1, hi, hf => by
    have ih := M_sumsL (σ := σ) hm h d (i + 1) fu (by omega) (by omega)
    rw [X12_sums_L6, if_pos (nI_lt (by omega) (by omega)), nI_add, aI_n _ (by omega), nI_1]
    exact ih
theorem M_sums {σ : Sta} {a m : Nat} (hm : a + m ≤ 209) (h : Int64) : X12_sums h (nI a) (nI m) σ = some (sm (fun i => σ.1 83 (a + i)) h m, σ) := M_sumsL hm h m 0 FU (by omega) (by show m < 300; omega)
theorem C_mix3 {σ : Sta} {p : Nat} (hp : p < 6) (h : Int64) (K : Int64 → Int32 → Sta → Option (Int64 × Sta)) : ∀ (d t fu : Nat), t + d = 3 → d < fu → X10_mixedInto_L69 1 K fu (sm (fun t => σ.1 5 (3 * p + t)) h t) (nI p) (nI t) σ = K (31 * (31 * sm (fun t => σ.1 5 (3 * p + t)) h 3 + (σ.1 6 p).toInt64) + (σ.1 7 p).toInt64) (nI (p + 1)) σ
  | d, t, 0, _, h => by omega
  | 0, t, fu + 1, hi, _ => by
    have e : t = 3 := by omega
    subst e
    rw [X10_mixedInto_L69, if_neg (by decide), aI_n p hp, aI_n p hp, nI_1]
  | d + 1, t, fu + 1, hi, hf => by
    have ih := C_mix3 (σ := σ) hp h K d (t + 1) fu (by omega) (by omega)
    rw [X10_mixedInto_L69, if_pos (show nI t < 3 from nI_lt (b := 3) (by omega) (by decide)), m3, aI_n _ (by omega), nI_1]
    exact ih
theorem C_mixP {σ : Sta} {N : Nat → Int32} {n yr u nn nb : Nat} (hv : VR σ.1 1 N n yr u nn nb) (h : Int64) : ∀ (d p fu : Nat), p + d = n → d < fu → X10_mixedInto_L44 1 fu (sp (kM N) (aM N) (qN N).1 (qN N).2 h p) (nI p) σ = some (sm (fun i => N (81 + i)) (sm (fun i => N (57 + i)) (sp (kM N) (aM N) (qN N).1 (qN N).2 h n) (4 * nn)) (4 * nb), σ)
  | d, p, 0, _, h => by omega
  | 0, p, fu + 1, hp, _ => by
    have hn := hv.n6
    have h1 := hv.nn6
    have h2 := hv.nb6
    have e : p = n := by omega
    subst e
    have t1 := C_mixT (σ := σ) (r := 10) hv.nn6 hv.sn (sp (kM N) (aM N) (qN N).1 (qN N).2 h p) (4 * nn) 0 FU (by omega) (by show _ < 300; omega)
    rw [sm_ag (g := fun i => N (57 + i)) (4 * nn) (fun i hi => hv.no i hi)] at t1
    have t2 := C_mixT (σ := σ) (r := 12) hv.nb6 hv.sb (sm (fun i => N (57 + i)) (sp (kM N) (aM N) (qN N).1 (qN N).2 h p) (4 * nn)) (4 * nb) 0 FU (by omega) (by show _ < 300; omega)
    rw [sm_ag (g := fun i => N (81 + i)) (4 * nb) (fun i hi => hv.be i hi)] at t2
    rw [X10_mixedInto_L44, fI_e, hv.s10, if_neg (nI_nlt (Nat.le_refl _) (by omega))]
    rw [cA_of (show X9_mixedInto (1 + 9) (sp (kM N) (aM N) (qN N).1 (qN N).2 h p) σ = _ from t1), cA_of (show X9_mixedInto (1 + 11) (sm (fun i => N (57 + i)) (sp (kM N) (aM N) (qN N).1 (qN N).2 h p) (4 * nn)) σ = _ from t2)]
  | d + 1, p, fu + 1, hp, hf => by
    have hn := hv.n6
    have ih := C_mixP hv h d (p + 1) fu (by omega) (by omega)
    obtain ⟨p1, p2, p3, p4⟩ := hv.pe p (by omega)
    have c3 := C_mix3 (σ := σ) (p := p) (by omega) (31 * sp (kM N) (aM N) (qN N).1 (qN N).2 h p + (kM N p).toInt64) (X10_mixedInto_L44 1 fu) 3 0 FU (by omega) (by decide)
    rw [X10_mixedInto_L44, fI_e, hv.s10, if_pos (nI_lt (by omega) (by omega)), aI_n p (by omega), show σ.1 (1 + 3) p = kM N p from p1]
    refine Eq.trans c3 ?_
    rw [sm_ag (g := fun t => aM N (3 * p + t)) 3 (fun t ht => p4 t ht), show σ.1 6 p = (qN N).1 p from p2, show σ.1 7 p = (qN N).2 p from p3]
    exact ih
theorem C_mixY {σ : Sta} {N : Nat → Int32} {n yr u nn nb : Nat} (hv : VR σ.1 1 N n yr u nn nb) (h : Int64) : ∀ (d y fu : Nat), y + d = 8 → d < fu → X10_mixedInto_L2 1 fu (sy (soN N) (woN N) h y) (nI y) σ = some (sm (fun i => N (81 + i)) (sm (fun i => N (57 + i)) (sp (kM N) (aM N) (qN N).1 (qN N).2 (sy (soN N) (woN N) h 8) n) (4 * nn)) (4 * nb), σ)
  | d, y, 0, _, h => by omega
  | 0, y, fu + 1, hy, _ => by
    have hn := hv.n6
    have e : y = 8 := by omega
    subst e
    rw [X10_mixedInto_L2, if_neg nlt8]
    exact C_mixP hv _ n 0 FU (by omega) (by show n < 300; omega)
  | d + 1, y, fu + 1, hy, hf => by
    have ih := C_mixY hv h d (y + 1) fu (by omega) (by omega)
    rw [X10_mixedInto_L2, if_pos (lt8 (by omega)), aI_n y (by omega), aI_n y (by omega), show σ.1 (1 + 1) y = soN N y from (hv.ye y (by omega)).1, show σ.1 (1 + 2) y = woN N y from (hv.ye y (by omega)).2, nI_1]
    exact ih
def sa (f : Nat → Int32) : Nat → Int64
  | 0 => 1303
  | j + 1 => 31 * sa f j + (f j).toInt64
def dig (N : Nat → Int32) (n nn nb : Nat) (len : Int32) (a b : Int64) : Int64 := 31 * (31 * sm (fun i => N (81 + i)) (sm (fun i => N (57 + i)) (sp (kM N) (aM N) (qN N).1 (qN N).2 (sy (soN N) (woN N) (sa (amt N n len) 8) 8) n) (4 * nn)) (4 * nb) + a) + b
theorem C_digL {σ : Sta} {N : Nat → Int32} {n yr u nn nb : Nat} (hv : VR σ.1 1 N n yr u nn nb) : ∀ (d y fu : Nat), y + d = 8 → d < fu → X11_digest_L6 fu (sa (amt N n (σ.1 80 1)) y) (nI y) σ = some (dig N n nn nb (σ.1 80 1) (σ.2 0 7) (σ.2 0 8), σ)
  | d, y, 0, _, h => by omega
  | 0, y, fu + 1, hy, _ => by
    have e : y = 8 := by omega
    subst e
    rw [X11_digest_L6, if_neg nlt8, cA_of (show X10_mixedInto 1 (sa (amt N n (σ.1 80 1)) 8) σ = _ from C_mixY hv (sa (amt N n (σ.1 80 1)) 8) 8 0 FU rfl (by decide))]
    rfl
  | d + 1, y, fu + 1, hy, hf => by
    have ih := C_digL hv d (y + 1) fu (by omega) (by omega)
    rw [X11_digest_L6, if_pos (lt8 (by omega)), cA_of (C_amount hv (by omega)), nI_1]
    exact ih
theorem m23' (p : Nat) : (23 : Int32) + (3 : Int32) * nI p = nI (23 + 3 * p) := by
  have h1 : (3 : Int32) = nI 3 := rfl
  have h2 : (23 : Int32) = nI 23 := rfl
  rw [h1, h2, pk_mul, nI_add]
theorem M_digP {σ : Sta} {S : Nat → Nat → Int32} {r n yr u nn nb : Nat} (hv : VR S r (σ.1 83) n yr u nn nb) (h : Int64) : ∀ (d p fu : Nat), p + d = n → d < fu → X12_digest_L79 fu (sp (kM (σ.1 83)) (aM (σ.1 83)) (qN (σ.1 83)).1 (qN (σ.1 83)).2 h p) (nI p) σ = some (31 * (31 * sm (fun i => σ.1 83 (81 + i)) (sm (fun i => σ.1 83 (57 + i)) (sp (kM (σ.1 83)) (aM (σ.1 83)) (qN (σ.1 83)).1 (qN (σ.1 83)).2 h n) (4 * nn)) (4 * nb) + σ.2 82 4) + σ.2 82 5, σ)
  | d, p, 0, _, h => by omega
  | 0, p, fu + 1, hp, _ => by
    have hn := hv.n6
    have h1 := hv.nn6
    have h2 := hv.nb6
    have e : p = n := by omega
    subst e
    rw [X12_digest_L79, cA_of (M_many σ), hv.N0, if_neg (nI_nlt (Nat.le_refl _) (by omega)), aI1, hv.N1, x4', show (57 : Int32) = nI 57 from rfl, cA_of (M_sums (by omega) _), aI2, hv.N2, x4', show (81 : Int32) = nI 81 from rfl, cA_of (M_sums (by omega) _)]
    rfl
  | d + 1, p, fu + 1, hp, hf => by
    have hn := hv.n6
    have ih := M_digP hv h d (p + 1) fu (by omega) (by omega)
    rw [X12_digest_L79, cA_of (M_many σ), hv.N0, if_pos (nI_lt (by omega) (by omega)), a17, aI_n _ (by omega), m23', show (3 : Int32) = nI 3 from rfl, cA_of (M_sums (by omega) _), a5, aI_n _ (by omega), a11, aI_n _ (by omega), nI_1]
    rw [sp] at ih
    rw [sm_ag (g := fun t => aM (σ.1 83) (3 * p + t)) 3 (fun t _ => by show σ.1 83 (23 + 3 * p + t) = σ.1 83 (23 + (3 * p + t)); rw [Nat.add_assoc])]
    exact ih
theorem M_digY {σ : Sta} {S : Nat → Nat → Int32} {r n yr u nn nb : Nat} (hv : VR S r (σ.1 83) n yr u nn nb) (h : Int64) : ∀ (d y fu : Nat), y + d = 8 → d < fu → X12_digest_L33 fu (sy (soN (σ.1 83)) (woN (σ.1 83)) h y) (nI y) σ = some (31 * (31 * sm (fun i => σ.1 83 (81 + i)) (sm (fun i => σ.1 83 (57 + i)) (sp (kM (σ.1 83)) (aM (σ.1 83)) (qN (σ.1 83)).1 (qN (σ.1 83)).2 (sy (soN (σ.1 83)) (woN (σ.1 83)) h 8) n) (4 * nn)) (4 * nb) + σ.2 82 4) + σ.2 82 5, σ)
  | d, y, 0, _, h => by omega
  | 0, y, fu + 1, hy, _ => by
    have hn := hv.n6
    have e : y = 8 := by omega
    subst e
    rw [X12_digest_L33, if_neg nlt8]
    exact M_digP hv _ n 0 FU (by omega) (by show n < 300; omega)
  | d + 1, y, fu + 1, hy, hf => by
    have ih := M_digY hv h d (y + 1) fu (by omega) (by omega)
    rw [X12_digest_L33, if_pos (lt8 (by omega)), a41, a49, aI_n _ (by omega), aI_n _ (by omega), nI_1]
    exact ih
theorem M_digL {σ : Sta} {S : Nat → Nat → Int32} {r n yr u nn nb : Nat} (hv : VR S r (σ.1 83) n yr u nn nb) : ∀ (d y fu : Nat), y + d = 8 → d < fu → X12_digest_L6 fu (sa (amt (σ.1 83) n (σ.1 82 14)) y) (nI y) σ = some (dig (σ.1 83) n nn nb (σ.1 82 14) (σ.2 82 4) (σ.2 82 5), σ)
  | d, y, 0, _, h => by omega
  | 0, y, fu + 1, hy, _ => by
    have e : y = 8 := by omega
    subst e
    rw [X12_digest_L6, if_neg nlt8]
    exact M_digY hv _ 8 0 FU rfl (by decide)
  | d + 1, y, fu + 1, hy, hf => by
    have ih := M_digL hv d (y + 1) fu (by omega) (by omega)
    rw [X12_digest_L6, if_pos (lt8 (by omega)), cA_of (M_counted hv (by omega)), nI_1]
    exact ih
theorem P_digest {σ : Sta} (h : Inv σ) : Pair X11_digest X12_digest σ := by
  obtain ⟨n, yr, u, nn, nb, hv⟩ := h.1
  refine pair_q h (a := dig (σ.1 83) n nn nb (σ.1 82 14) (σ.2 82 4) (σ.2 82 5)) ⟨σ, ?_, FrQ.rf σ⟩ (fun τ hτ => ⟨τ, ?_, FrQ.rf τ⟩)
  · rw [← h.len, ← h.2.2.2.1.1, ← h.2.2.2.1.2]
    exact C_digL hv 8 0 FU rfl (by decide)
  · have t83 : τ.1 83 = σ.1 83 := hτ.at (by unfold isQ; omega)
    have tv : VR σ.1 1 (τ.1 83) n yr u nn nb := by rw [t83]; exact hv
    have := M_digL tv 8 0 FU rfl (by decide)
    rw [t83, hτ.at (show ¬ isQ 82 by unfold isQ; omega), hτ.2] at this
    exact this
end
section
/-! PURE HALF 12: what one is, what to offer, how good one may be, clashes, the handicap -/
def allB (f : Nat → Bool) : Nat → Bool
  | 0 => true
  | m + 1 => allB f m && f m
theorem allB_f {f : Nat → Bool} {r : Nat} (h : allB f r = false) : ∀ d, allB f (r + d) = false
  | 0 => h
  | d + 1 => by
    show (allB f (r + d) && f (r + d)) = false
    rw [allB_f h d]
    rfl
def bO (f : Nat → Bool) : Nat → Int32
  | 0 => 0
  | k + 1 => if f k then bO f k ||| ((1 : Int32) <<< (nI k &&& 31)) else bO f k
theorem C_cell {σ : Sta} {r m i c : Nat} (h1 : σ.1 r 1 = nI m) (hm : m ≤ 6) (hi : i < m) (hc : c < 4) : X9_cell r (nI i) (nI c) σ = some (σ.1 (r + 1) (4 * i + c), σ) := by
  rw [X9_cell, if_neg (nI_pos (by omega)), fI_e, h1, if_pos (nI_lt hi (by omega)), if_neg (nI_pos (by omega)), if_pos (show nI c < 4 from nI_lt (b := 4) hc (by decide)), x4, nI_add, aI_n _ (by omega)]
theorem C_cell0 {σ : Sta} {r m i : Nat} (h1 : σ.1 r 1 = nI m) (hm : m ≤ 6) (hi : i < m) : X9_cell r (nI i) (0 : Int32) σ = some (σ.1 (r + 1) (4 * i), σ) := C_cell (c := 0) h1 hm hi (by decide)
theorem C_cell1 {σ : Sta} {r m i : Nat} (h1 : σ.1 r 1 = nI m) (hm : m ≤ 6) (hi : i < m) : X9_cell r (nI i) (1 : Int32) σ = some (σ.1 (r + 1) (4 * i + 1), σ) := C_cell (c := 1) h1 hm hi (by decide)
theorem C_cell2 {σ : Sta} {r m i : Nat} (h1 : σ.1 r 1 = nI m) (hm : m ≤ 6) (hi : i < m) : X9_cell r (nI i) (2 : Int32) σ = some (σ.1 (r + 1) (4 * i + 2), σ) := C_cell (c := 2) h1 hm hi (by decide)
theorem C_cell3 {σ : Sta} {r m i : Nat} (h1 : σ.1 r 1 = nI m) (hm : m ≤ 6) (hi : i < m) : X9_cell r (nI i) (3 : Int32) σ = some (σ.1 (r + 1) (4 * i + 3), σ) := C_cell (c := 3) h1 hm hi (by decide)
theorem lt6 {k : Nat} (h : k < 6) : nI k < 6 := nI_lt (b := 6) h (by decide)
theorem nlt6 : ¬ nI 6 < (6 : Int32) := by decide
theorem e57 (r : Nat) : (57 : Int32) + (4 : Int32) * nI r = nI (57 + 4 * r) := by
  rw [x4', show (57 : Int32) = nI 57 from rfl, nI_add]
theorem e57c (r : Nat) (c : Nat) : nI (57 + 4 * r) + nI c = nI (57 + (4 * r + c)) := by rw [nI_add, Nat.add_assoc]
theorem e81 (r : Nat) : (81 : Int32) + (4 : Int32) * nI r = nI (81 + 4 * r) := by
  rw [x4', show (81 : Int32) = nI 81 from rfl, nI_add]
theorem e81c (r : Nat) (c : Nat) : nI (81 + 4 * r) + nI c = nI (81 + (4 * r + c)) := by rw [nI_add, Nat.add_assoc]
/-- a note, and a kind -/
def fit (N : Nat → Int32) (p : Int32) (k r : Nat) : Bool := !decide (N (57 + 4 * r) = p) || (wantsP k (N (57 + (4 * r + 1))) (N (57 + (4 * r + 2))) == decide (N (57 + (4 * r + 3)) = 1))
theorem C_kindFits {σ : Sta} {N : Nat → Int32} {n yr u nn nb : Nat} (hv : VR σ.1 1 N n yr u nn nb) {k : Nat} (hk : k < 6) (p : Int32) : ∀ (d r fu : Nat), r + d = nn → d < fu → allB (fit N p k) r = true → X0_kindFits_L3 55 10 fu p (nI k) (nI r) σ = some (bi (allB (fit N p k) nn), σ)
  | d, r, 0, _, h, _ => by omega
  | 0, r, fu + 1, hr, _, ha => by
    have e : r = nn := by omega
    subst e
    have h6 := hv.nn6
    rw [X0_kindFits_L3, fI_e, show σ.1 10 1 = nI r from hv.sn, if_neg (nI_nlt (Nat.le_refl _) (by omega)), ha]
    rfl
  | d + 1, r, fu + 1, hr, hf, ha => by
    have h6 := hv.nn6
    have hr2 : r < nn := by omega
    have c0 := C_cell0 (σ := σ) (r := 10) hv.sn h6 hr2
    have c1 := C_cell1 (σ := σ) (r := 10) hv.sn h6 hr2
    have c2 := C_cell2 (σ := σ) (r := 10) hv.sn h6 hr2
    have c3 := C_cell3 (σ := σ) (r := 10) hv.sn h6 hr2
    rw [show σ.1 (10 + 1) (4 * r) = N (57 + 4 * r) from hv.no (4 * r) (by omega)] at c0
    rw [show σ.1 (10 + 1) (4 * r + 1) = N (57 + (4 * r + 1)) from hv.no (4 * r + 1) (by omega)] at c1
    rw [show σ.1 (10 + 1) (4 * r + 2) = N (57 + (4 * r + 2)) from hv.no (4 * r + 2) (by omega)] at c2
    rw [show σ.1 (10 + 1) (4 * r + 3) = N (57 + (4 * r + 3)) from hv.no (4 * r + 3) (by omega)] at c3
    have step : ∀ b : Bool, decide (N (57 + (4 * r + 3)) = 1) = b → X0_kindFits_L28 55 10 (X0_kindFits_L3 55 10 fu) p (nI k) (nI r) (bi b) σ = some (bi (allB (fit N p k) nn), σ) := by
      intro b hb
      have ih := C_kindFits hv hk p d (r + 1) fu (by omega) (by omega)
      have ea : allB (fit N p k) (r + 1) = fit N p k r := by rw [allB, ha, Bool.true_and]
      rw [ea] at ih
      rw [X0_kindFits_L28, cA_of c0, nI_1]
      by_cases q1 : N (57 + 4 * r) = p
      · rw [if_pos q1, aR_n k hk, cA_of c1, cA_of c2, cA_of (V_wants_e hk _ _ _)]
        have ef : fit N p k r = (wantsP k (N (57 + (4 * r + 1))) (N (57 + (4 * r + 2))) == b) := by
          rw [fit, hb, decide_eq_true q1]
          rfl
        by_cases q2 : wantsP k (N (57 + (4 * r + 1))) (N (57 + (4 * r + 2))) = b
        · rw [if_pos (by rw [q2])]
          exact ih (by rw [ef, q2]; exact beq_self_eq_true b)
        · have en : ¬ bi (wantsP k (N (57 + (4 * r + 1))) (N (57 + (4 * r + 2)))) = bi b := by
            intro q
            apply q2
            revert q
            generalize wantsP k (N (57 + (4 * r + 1))) (N (57 + (4 * r + 2))) = w
            cases w <;> cases b <;> decide
          rw [if_neg en]
          have e0 : allB (fit N p k) (r + 1) = false := by
            rw [ea, ef]
            exact beq_false_of_ne q2
          have e1 := allB_f e0 d
          rw [show r + 1 + d = nn by omega] at e1
          rw [e1]
          rfl
      · rw [if_neg q1]
        exact ih (by rw [fit, decide_eq_false q1]; rfl)
    rw [X0_kindFits_L3, fI_e, show σ.1 10 1 = nI nn from hv.sn, if_pos (nI_lt (by omega) (by omega)), cA_of c3]
    by_cases q : N (57 + (4 * r + 3)) = 1
    · rw [if_pos q]
      exact step true (decide_eq_true q)
    · rw [if_neg q]
      exact step false (decide_eq_false q)
theorem C_kinds {σ : Sta} {N : Nat → Int32} {n yr u nn nb : Nat} (hv : VR σ.1 1 N n yr u nn nb) (p : Int32) : ∀ (d k fu : Nat), k + d = 6 → d < fu → X0_kindsThatFit_L5 55 10 fu p (bO (fun k => allB (fit N p k) nn) k) (nI k) σ = some (bO (fun k => allB (fit N p k) nn) 6, σ)
  | d, k, 0, _, h => by omega
  | 0, k, fu + 1, hk, _ => by
    have e : k = 6 := by omega
    subst e
    rw [X0_kindsThatFit_L5, if_neg nlt6]
  | d + 1, k, fu + 1, hk, hf => by
    have ih := C_kinds hv p d (k + 1) fu (by omega) (by omega)
    have h6 := hv.nn6
    rw [X0_kindsThatFit_L5, if_pos (lt6 (by omega)), cA_of (show X0_kindFits 55 10 p (nI k) σ = _ from C_kindFits hv (by omega) p nn 0 FU (by omega) (by show nn < 300; omega) rfl), bi_if, nI_1]
    rw [bO] at ih
    cases q : allB (fit N p k) nn with
    | true =>
      simp only [q, if_true] at ih ⊢
      exact ih
    | false =>
      simp only [q, Bool.false_eq_true, if_false] at ih ⊢
      exact ih
theorem M_kindsR {σ : Sta} {S : Nat → Nat → Int32} {r n yr u nn nb : Nat} (hv : VR S r (σ.1 83) n yr u nn nb) {k : Nat} (hk : k < 6) (p z : Int32) (K : Int32 → Int32 → Int32 → Sta → Option (Int32 × Sta)) : ∀ (d i fu : Nat), i + d = nn → d < fu → X12_kindsOf_L16 K fu p z (nI k) (bi (allB (fit (σ.1 83) p k) i)) (nI i) σ = K p (if allB (fit (σ.1 83) p k) nn then z ||| ((1 : Int32) <<< (nI k &&& 31)) else z) (nI (k + 1)) σ
  | d, i, 0, _, h => by omega
  | 0, i, fu + 1, hi, _ => by
    have h6 := hv.nn6
    have e : i = nn := by omega
    subst e
    rw [X12_kindsOf_L16, aI1, hv.N1, if_neg (nI_nlt (Nat.le_refl _) (by omega)), bi_if, Int32.or_zero, nI_1]
    cases allB (fit (σ.1 83) p k) i <;> rfl
  | d + 1, i, fu + 1, hi, hf => by
    have h6 := hv.nn6
    have ih := M_kindsR hv hk p z K d (i + 1) fu (by omega) (by omega)
    rw [allB] at ih
    rw [X12_kindsOf_L16, aI1, hv.N1, if_pos (nI_lt (by omega) (by omega)), nI_1]
    cases ha : allB (fit (σ.1 83) p k) i with
    | false =>
      rw [ha, Bool.false_and] at ih
      exact ih
    | true =>
      rw [ha, Bool.true_and] at ih
      rw [if_neg (show ¬ bi true = 0 by decide), e57, aI_n _ (by omega)]
      by_cases q1 : σ.1 83 (57 + 4 * i) = p
      · rw [if_pos q1, show (1 : Int32) = nI 1 from rfl, show (2 : Int32) = nI 2 from rfl, show (3 : Int32) = nI 3 from rfl, e57c, e57c, e57c, aI_n _ (by omega), aI_n _ (by omega), cA_of (M_triesAs hk _ _ σ), aI_n _ (by omega)]
        have step : ∀ b : Bool, decide (σ.1 83 (57 + (4 * i + 3)) = 1) = b → X12_kindsOf_L92 K (X12_kindsOf_L16 K fu) p z (nI k) (nI i) (bi b) (bi (wantsP k (σ.1 83 (57 + (4 * i + 1))) (σ.1 83 (57 + (4 * i + 2))))) σ = K p (if allB (fit (σ.1 83) p k) nn then z ||| ((1 : Int32) <<< (nI k &&& 31)) else z) (nI (k + 1)) σ := by
          intro b hb
          have ef : fit (σ.1 83) p k i = (wantsP k (σ.1 83 (57 + (4 * i + 1))) (σ.1 83 (57 + (4 * i + 2))) == b) := by
            rw [fit, hb, decide_eq_true q1]
            rfl
          rw [ef] at ih
          rw [X12_kindsOf_L92, nI_1]
          revert ih
          generalize wantsP k (σ.1 83 (57 + (4 * i + 1))) (σ.1 83 (57 + (4 * i + 2))) = w
          intro ih
          cases w <;> cases b <;> exact ih
        by_cases q : σ.1 83 (57 + (4 * i + 3)) = nI 1
        · rw [if_pos q]
          exact step true (decide_eq_true q)
        · rw [if_neg q]
          exact step false (decide_eq_false q)
      · rw [if_neg q1]
        rw [show fit (σ.1 83) p k i = true by rw [fit, decide_eq_false q1]; rfl] at ih
        exact ih
theorem M_kinds {σ : Sta} {S : Nat → Nat → Int32} {r n yr u nn nb : Nat} (hv : VR S r (σ.1 83) n yr u nn nb) (p : Int32) : ∀ (d k fu : Nat), k + d = 6 → d < fu → X12_kindsOf_L4 fu p (bO (fun k => allB (fit (σ.1 83) p k) nn) k) (nI k) σ = some (bO (fun k => allB (fit (σ.1 83) p k) nn) 6, σ)
  | d, k, 0, _, h => by omega
  | 0, k, fu + 1, hk, _ => by
    have e : k = 6 := by omega
    subst e
    rw [X12_kindsOf_L4, if_neg nlt6]
  | d + 1, k, fu + 1, hk, hf => by
    have ih := M_kinds hv p d (k + 1) fu (by omega) (by omega)
    have h6 := hv.nn6
    rw [X12_kindsOf_L4, if_pos (lt6 (by omega))]
    exact (M_kindsR hv (k := k) (by omega) p _ _ nn 0 FU (by omega) (by show nn < 300; omega)).trans ih

theorem P_is {σ : Sta} (h : Inv σ) (x1 : Int32) : Pair (X11_is x1) (X12_is x1) σ := by
  obtain ⟨n, yr, u, nn, nb, hv⟩ := h.1
  have b0 : (badC σ).1 83 0 = nI n := by rw [badC_83]; exact hv.N0
  have b4 : (badC σ).1 83 4 = nI yr := by rw [badC_83]; exact hv.N4
  by_cases e0 : inB x1 0 (nI n - 1) = true
  rotate_left
  · rw [Bool.not_eq_true] at e0; exact pair_bad (a := -2) h (by simp only [X11_is, C_isOne_b hv.s10, e0, cA_e, bi_if, within_b, C_isArt_b, C_bad, Bool.false_eq_true, ite_false, ite_true, if_true, if_false]) (by simp only [X12_is, M_isOne_b b0, e0, cA_e, bi_if, M_isYear_b, M_isSort_b, in_01, in_02, in_05, in_06, in_07, in_09, in_30, in_60, in_99, in_12, M_bad, Bool.false_eq_true, ite_false, ite_true, if_true, if_false])
  obtain ⟨j0, hj0, rfl⟩ := inB_1 hv.n6 e0
  refine pair_q h (a := bO (fun k => allB (fit (σ.1 83) (nI j0) k) nn) 6) ?_ (fun τ hτ => ?_)
  · simp only [X11_is, C_isOne_b hv.s10, e0, cA_e, bi_if, within_b, C_isArt_b, C_bad, Bool.false_eq_true, ite_false, ite_true, if_true, if_false]
    rw [cA_of (show X0_kindsThatFit 55 (1 + 9) (nI j0) σ = _ from C_kinds hv (nI j0) 6 0 FU rfl (by decide))]
    exact ⟨σ, rfl, FrQ.rf σ⟩
  · have t83 : τ.1 83 = σ.1 83 := hτ.at (by unfold isQ; omega)
    have t0 : τ.1 83 0 = nI n := by rw [t83]; exact hv.N0
    have t4 : τ.1 83 4 = nI yr := by rw [t83]; exact hv.N4
    have tv : VR σ.1 1 (τ.1 83) n yr u nn nb := by rw [t83]; exact hv
    simp only [X12_is, M_isOne_b t0, e0, cA_e, bi_if, M_isYear_b, M_isSort_b, in_01, in_02, in_05, in_06, in_07, in_09, in_30, in_60, in_99, in_12, M_bad, Bool.false_eq_true, ite_false, ite_true, if_true, if_false]
    rw [cA_of (show X12_kindsOf (nI j0) τ = _ from M_kinds tv (nI j0) 6 0 FU rfl (by decide)), t83]
    exact ⟨τ, rfl, FrQ.rf τ⟩
-- offer
theorem bO_n (f : Nat → Bool) : ∀ k, k ≤ 6 → ∃ s, s < 2 ^ k ∧ bO f k = nI s
  | 0, _ => ⟨0, by decide, rfl⟩
  | k + 1, hk => by
    obtain ⟨s, h1, h2⟩ := bO_n f k (by omega)
    rw [bO]
    by_cases c : f k = true
    · rw [if_pos c, h2]
      have hs : s < 256 := Nat.lt_of_lt_of_le h1 (Nat.le_trans (Nat.pow_le_pow_right (by decide) (show k ≤ 8 by omega)) (by decide))
      refine ⟨s ||| 2 ^ k, ?_, (orb s hs k (by omega)).1⟩
      exact Nat.or_lt_two_pow (by rw [Nat.pow_succ]; omega) (Nat.pow_lt_pow_right (by decide) (by omega))
    · rw [if_neg c]
      exact ⟨s, by rw [Nat.pow_succ]; omega, h2⟩
def ct (s : Nat) (w l : Int32) : Nat → Nat
  | 0 => 0
  | k + 1 => ct s w l k + if s / 2 ^ k % 2 = 1 ∧ wantsP k w l = true then 1 else 0
theorem ct_le (s : Nat) (w l : Int32) : ∀ k, ct s w l k ≤ k
  | 0 => Nat.le_refl _
  | k + 1 => by
    rw [ct]
    have := ct_le s w l k
    split <;> omega
def gr (A T : Int32) : Int32 := if T < A - T then A - T else T
theorem gr_alike : ∀ a, a < 7 → ∀ t, t < 7 → (if nI a < 2 * nI t then nI t else nI a - nI t) = gr (nI a) (nI t) ∧ gr (nI a) (nI t) < 7 := by decide +kernel
theorem popc6 : ∀ s, s < 64 → popc 8 s < 7 := by decide +kernel
def gw (s : Nat) (l : Int32) (w : Nat) : Int32 := gr (nI (popc 8 s)) (nI (ct s (nI w) l 6))
def tw (g : Nat → Int32) (L : Int32) : Nat → Int32 × Int32
  | 0 => (L, -1)
  | w + 1 => if g (w + 1) < (tw g L w).1 then (g (w + 1), nI (w + 1)) else tw g L w
theorem tw_eq (g : Nat → Int32) (h : g 1 < 7) : ∀ w, tw g 7 (w + 1) = tw g 1000000 (w + 1)
  | 0 => by
    rw [tw, tw, tw, tw, if_pos h, if_pos]
    rw [ilt] at h ⊢
    have e7 : (7 : Int32).toInt = 7 := by decide
    have e9 : (1000000 : Int32).toInt = 1000000 := by decide
    show (g 1).toInt < (1000000 : Int32).toInt
    omega
  | w + 1 => by
    have ih := tw_eq g h w
    rw [tw, ih]
    conv => rhs; rw [tw]
theorem C_tellK {s : Nat} (hs : s < 64) {w : Nat} (l A y4 y5 : Int32) (σ : Sta) (K : Int32 → Int32 → Int32 → Int32 → Int32 → Int32 → Sta → Option (Int32 × Sta)) : ∀ (d k fu : Nat), k + d = 6 → d < fu → X0_tellingWorth_L34 55 K fu (nI s) l A y4 y5 (nI w) (nI (ct s (nI w) l k)) (nI k) σ = (if gr A (nI (ct s (nI w) l 6)) < y4 then K (nI s) l A (gr A (nI (ct s (nI w) l 6))) (nI w) (nI (w + 1)) σ else K (nI s) l A y4 y5 (nI (w + 1)) σ)
  | d, k, 0, _, h => by omega
  | 0, k, fu + 1, hk, _ => by
    have e : k = 6 := by omega
    subst e
    rw [X0_tellingWorth_L34, if_neg nlt6, nI_1]
    rfl
  | d + 1, k, fu + 1, hk, hf => by
    have ih := C_tellK hs l A y4 y5 σ K d (k + 1) fu (by omega) (by omega) (w := w)
    rw [ct] at ih
    have eb : (nI s >>> (nI k &&& 31)) &&& 1 = nI (s / 2 ^ k % 2) := bt_n s (by omega) k (by omega)
    rw [X0_tellingWorth_L34, if_pos (lt6 (by omega)), eb, nI_1]
    by_cases c1 : s / 2 ^ k % 2 = 1
    · rw [c1, if_pos (show nI 1 = 1 from rfl), aR_n k (by omega), cA_of (V_wants_e (by omega) _ _ _), bi_if]
      by_cases c2 : wantsP k (nI w) l = true
      · rw [if_pos c2, nI_1]
        rw [if_pos ⟨c1, c2⟩] at ih
        exact ih
      · rw [if_neg c2]
        rw [if_neg (fun q => c2 q.2)] at ih
        exact ih
    · have e0 : s / 2 ^ k % 2 = 0 := by omega
      rw [e0, if_neg (show ¬ nI 0 = 1 by decide)]
      rw [if_neg (fun q => c1 q.1)] at ih
      exact ih
theorem C_tellL {s : Nat} (hs : s < 64) (l : Int32) (σ : Sta) : ∀ (d w fu : Nat), w + d = 30 → d < fu → X0_tellingWorth_L21 55 fu (nI s) l (nI (popc 8 s)) (tw (gw s l) 7 w).1 (tw (gw s l) 7 w).2 (nI (w + 1)) σ = some ((tw (gw s l) 7 30).2, σ)
  | d, w, 0, _, h => by omega
  | 0, w, fu + 1, hw, _ => by
    have e : w = 30 := by omega
    subst e
    rw [X0_tellingWorth_L21, if_pos (by decide)]
  | d + 1, w, fu + 1, hw, hf => by
    have ih := C_tellL hs l σ d (w + 1) fu (by omega) (by omega)
    rw [X0_tellingWorth_L21, if_neg (show ¬ (30 : Int32) < nI (w + 1) from (nI_nlt (show w + 1 ≤ 30 by omega) (by decide) : ¬ nI 30 < nI (w + 1)))]
    refine Eq.trans (C_tellK hs l _ _ _ σ _ 6 0 FU rfl (by decide)) ?_
    show (if gw s l (w + 1) < (tw (gw s l) 7 w).1 then _ else _) = _
    rw [tw] at ih
    by_cases c : gw s l (w + 1) < (tw (gw s l) 7 w).1
    · rw [if_pos c] at ih ⊢; exact ih
    · rw [if_neg c] at ih ⊢; exact ih
theorem C_tell {s : Nat} (hs : s < 64) (l : Int32) (σ : Sta) : X0_tellingWorth 55 (nI s) l σ = some (if popc 8 s = 0 then -1 else (tw (gw s l) 7 30).2, σ) := by
  have hp := popc6 s hs
  rw [X0_tellingWorth, cA_of (bcE_e _ _), bcE_p s (by omega)]
  by_cases c : popc 8 s = 0
  · rw [if_pos c, c, if_pos (show nI 0 = 0 from rfl)]
  · rw [if_neg c, if_neg]
    · exact C_tellL hs l σ 30 0 FU rfl (by decide)
    · intro e
      exact c ((nI_eq (a := popc 8 s) (b := 0) (by omega) (by decide)).mp e)
theorem M_has {s : Nat} (hs : s < 256) {k : Nat} (hk : k < 8) (σ : Sta) : X12_has (nI s) (nI k) σ = some (bi (decide (s / 2 ^ k % 2 = 1)), σ) := by
  have eb : (nI s >>> (nI k &&& 31)) &&& 1 = nI (s / 2 ^ k % 2) := bt_n s hs k hk
  rw [X12_has, eb]
  rcases (show s / 2 ^ k % 2 = 0 ∨ s / 2 ^ k % 2 = 1 by omega) with e | e <;> rw [e] <;> rfl
theorem M_tellK {s : Nat} (hs : s < 64) {w : Nat} (l y4 y5 : Int32) (σ : Sta) (K : Int32 → Int32 → Int32 → Int32 → Int32 → Sta → Option (Int32 × Sta)) : ∀ (d k fu : Nat), k + d = 6 → d < fu → X12_offer_L73 K fu (nI s) l y4 y5 (nI w) (nI (ct s (nI w) l k)) (nI k) σ = (if gw s l w < y5 then K (nI s) l (nI w) (gw s l w) (nI (w + 1)) σ else K (nI s) l y4 y5 (nI (w + 1)) σ)
  | d, k, 0, _, h => by omega
  | 0, k, fu + 1, hk, _ => by
    have e : k = 6 := by omega
    subst e
    have hp := popc6 s hs
    have hc := ct_le s (nI w) l 6
    have ga := (gr_alike (popc 8 s) hp (ct s (nI w) l 6) (by omega)).1
    have fin : ∀ z : Int32, z = gw s l w → X12_offer_L139 K (nI s) l y4 y5 (nI w) z σ = (if gw s l w < y5 then K (nI s) l (nI w) (gw s l w) (nI (w + 1)) σ else K (nI s) l y4 y5 (nI (w + 1)) σ) := by
      intro z hz
      rw [X12_offer_L139, hz, X12_offer_L155, X12_offer_L155, nI_1]
      by_cases c : gw s l w < y5
      · rw [if_pos c, if_pos c, if_pos c]
      · rw [if_neg c, if_neg c, if_neg c]
    rw [X12_offer_L73, if_neg nlt6, cA_of (M_bits (by omega) σ)]
    by_cases c : nI (popc 8 s) < 2 * nI (ct s (nI w) l 6)
    · rw [if_pos c] at ga ⊢
      exact fin _ ga
    · rw [if_neg c] at ga ⊢
      rw [cA_of (M_bits (by omega) σ)]
      exact fin _ ga
  | d + 1, k, fu + 1, hk, hf => by
    have ih := M_tellK hs l y4 y5 σ K d (k + 1) fu (by omega) (by omega) (w := w)
    rw [ct] at ih
    rw [X12_offer_L73, if_pos (lt6 (by omega)), cA_of (M_has (by omega) (by omega) σ), bi_if, nI_1, Int32.add_zero]
    by_cases c1 : s / 2 ^ k % 2 = 1
    · rw [if_pos (decide_eq_true c1), cA_of (M_triesAs (by omega) _ _ σ), bi_if]
      by_cases c2 : wantsP k (nI w) l = true
      · rw [if_pos c2, nI_1]
        rw [if_pos ⟨c1, c2⟩] at ih
        exact ih
      · rw [if_neg c2]
        rw [if_neg (fun q => c2 q.2)] at ih
        exact ih
    · rw [if_neg (fun q => c1 (of_decide_eq_true q))]
      rw [if_neg (fun q => c1 q.1)] at ih
      exact ih
theorem M_tellL {s : Nat} (hs : s < 64) (h0 : 0 < s) (l : Int32) (σ : Sta) : ∀ (d w fu : Nat), w + d = 30 → d < fu → X12_offer_L56 fu (nI s) l (tw (gw s l) 1000000 w).2 (tw (gw s l) 1000000 w).1 (nI (w + 1)) σ = some ((tw (gw s l) 1000000 30).2, σ)
  | d, w, 0, _, h => by omega
  | 0, w, fu + 1, hw, _ => by
    have e : w = 30 := by omega
    subst e
    rw [X12_offer_L56, if_pos (by decide)]
  | d + 1, w, fu + 1, hw, hf => by
    have ih := M_tellL hs h0 l σ d (w + 1) fu (by omega) (by omega)
    rw [X12_offer_L56, if_neg (show ¬ (30 : Int32) < nI (w + 1) from (nI_nlt (show w + 1 ≤ 30 by omega) (by decide) : ¬ nI 30 < nI (w + 1))), if_pos (show (0 : Int32) < nI s from nI_lt (a := 0) h0 (by omega))]
    refine Eq.trans (M_tellK hs l _ _ σ _ 6 0 FU rfl (by decide)) ?_
    rw [tw] at ih
    by_cases c : gw s l (w + 1) < (tw (gw s l) 1000000 w).1
    · rw [if_pos c] at ih ⊢; exact ih
    · rw [if_neg c] at ih ⊢; exact ih
theorem popc_z : ∀ s, s < 64 → (popc 8 s = 0 ↔ s = 0) := by decide +kernel
theorem M_tell {s : Nat} (hs : s < 64) (l : Int32) (σ : Sta) : X12_offer_L45 (nI s) l σ = some (if popc 8 s = 0 then -1 else (tw (gw s l) 7 30).2, σ) := by
  rw [X12_offer_L45]
  by_cases c : s = 0
  · subst c
    rfl
  · rw [if_neg (fun q => c ((popc_z s hs).mp q))]
    have e := tw_eq (gw s l) (gr_alike _ (popc6 s hs) _ (by have := ct_le s (nI 1) l 6; omega)).2 29
    rw [e]
    exact M_tellL hs (by omega) l σ 30 0 FU rfl (by decide)
theorem behind : ∀ y, y ≤ 8 → (if (0 : Int32) < 7 - nI y then 7 - nI y else 0) = (if nI y = 8 then 0 else 7 - nI y) := by decide +kernel
theorem P_offer {σ : Sta} (h : Inv σ) (x1 : Int32) : Pair (X11_offer x1) (X12_offer x1) σ := by
  obtain ⟨n, yr, u, nn, nb, hv⟩ := h.1
  have b0 : (badC σ).1 83 0 = nI n := by rw [badC_83]; exact hv.N0
  have b4 : (badC σ).1 83 4 = nI yr := by rw [badC_83]; exact hv.N4
  by_cases e0 : inB x1 0 (nI n - 1) = true
  rotate_left
  · rw [Bool.not_eq_true] at e0; exact pair_bad (a := -2) h (by simp only [X11_offer, C_isOne_b hv.s10, e0, cA_e, bi_if, within_b, C_isArt_b, C_bad, Bool.false_eq_true, ite_false, ite_true, if_true, if_false]) (by simp only [X12_offer, M_isOne_b b0, e0, cA_e, bi_if, M_isYear_b, M_isSort_b, in_01, in_02, in_05, in_06, in_07, in_09, in_30, in_60, in_99, in_12, M_bad, Bool.false_eq_true, ite_false, ite_true, if_true, if_false])
  obtain ⟨j0, hj0, rfl⟩ := inB_1 hv.n6 e0
  obtain ⟨s, hs, es⟩ := bO_n (fun k => allB (fit (σ.1 83) (nI j0) k) nn) 6 (by decide)
  refine pair_q h (a := (if popc 8 s = 0 then -1 else (tw (gw s (if nI yr = 8 then 0 else 7 - nI yr)) 7 30).2)) ?_ (fun τ hτ => ?_)
  · simp only [X11_offer, C_isOne_b hv.s10, e0, cA_e, bi_if, within_b, C_isArt_b, C_bad, Bool.false_eq_true, ite_false, ite_true, if_true, if_false]
    rw [fI_e, hv.s11, behind yr hv.y8, cA_of (show X0_kindsThatFit 55 (1 + 9) (nI j0) σ = _ from C_kinds hv (nI j0) 6 0 FU rfl (by decide)), es, cA_of (C_tell hs _ σ)]
    exact ⟨σ, rfl, FrQ.rf σ⟩
  · have t83 : τ.1 83 = σ.1 83 := hτ.at (by unfold isQ; omega)
    have t0 : τ.1 83 0 = nI n := by rw [t83]; exact hv.N0
    have t4 : τ.1 83 4 = nI yr := by rw [t83]; exact hv.N4
    have tv : VR σ.1 1 (τ.1 83) n yr u nn nb := by rw [t83]; exact hv
    simp only [X12_offer, M_isOne_b t0, e0, cA_e, bi_if, M_isYear_b, M_isSort_b, in_01, in_02, in_05, in_06, in_07, in_09, in_30, in_60, in_99, in_12, M_bad, Bool.false_eq_true, ite_false, ite_true, if_true, if_false]
    rw [cA_of (show X12_kindsOf (nI j0) τ = _ from M_kinds tv (nI j0) 6 0 FU rfl (by decide)), aI4, aI4, t4, t83, es, M_tell hs, M_tell hs]
    refine ⟨τ, ?_, FrQ.rf τ⟩
    by_cases c : nI yr = 8
    · rw [if_pos c, if_pos c]
    · rw [if_neg c, if_neg c]
end
section
/-! PURE HALF 13: how good one may be, clashes, the handicap -/
def gt (N : Nat → Int32) (k : Nat) (w one art : Int32) : Int32 := skillP (kno (N (17 + kno w))) (if w = one then art else N (23 + (3 * kno w + kno (N (81 + (4 * k + 2)))))) (N (81 + (4 * k + 3)))
def sb (N : Nat → Int32) (k : Nat) (one art : Int32) : Bool := decide (gt N k (N (81 + (4 * k + 1))) one art < gt N k (N (81 + 4 * k)) one art)
theorem aB0 {β : Type} {σ : Sta} {k : Nat} {K : Int32 → Option β} (h : k < 6) : aI σ 83 209 ((81 : Int32) + ((4 : Int32) * nI k)) K = K (σ.1 83 (81 + 4 * k)) := by rw [e81, aI_n _ (by omega)]
theorem aBc {β : Type} {σ : Sta} {k c : Nat} {K : Int32 → Option β} (h : k < 6) (hc : c < 4) : aI σ 83 209 (((81 : Int32) + ((4 : Int32) * nI k)) + nI c) K = K (σ.1 83 (81 + (4 * k + c))) := by rw [e81, e81c, aI_n _ (by omega)]
theorem aB1 {β : Type} {σ : Sta} {k : Nat} {K : Int32 → Option β} (h : k < 6) : aI σ 83 209 (((81 : Int32) + ((4 : Int32) * nI k)) + (1 : Int32)) K = K (σ.1 83 (81 + (4 * k + 1))) := aBc (c := 1) h (by decide)
theorem aB2 {β : Type} {σ : Sta} {k : Nat} {K : Int32 → Option β} (h : k < 6) : aI σ 83 209 (((81 : Int32) + ((4 : Int32) * nI k)) + (2 : Int32)) K = K (σ.1 83 (81 + (4 * k + 2))) := aBc (c := 2) h (by decide)
theorem aB3 {β : Type} {σ : Sta} {k : Nat} {K : Int32 → Option β} (h : k < 6) : aI σ 83 209 (((81 : Int32) + ((4 : Int32) * nI k)) + (3 : Int32)) K = K (σ.1 83 (81 + (4 * k + 3))) := aBc (c := 3) h (by decide)
theorem C_so {σ : Sta} {N : Nat → Int32} {n yr u nn nb : Nat} (hv : VR σ.1 1 N n yr u nn nb) {k : Nat} (hk : k < nb) (one art : Int32) : X0_isSoWith 55 1 (nI k) one art σ = some (bi (sb N k one art), σ) := by
  have h6 := hv.nb6
  have hn := hv.n6
  obtain ⟨i, j, t, y, hi, hj, ht, hy, e0, e1, e2, e3⟩ := hv.bb k hk
  have c0 := C_cell0 (σ := σ) (r := 1 + 11) hv.sb h6 hk
  have c1 := C_cell1 (σ := σ) (r := 1 + 11) hv.sb h6 hk
  have c2 := C_cell2 (σ := σ) (r := 1 + 11) hv.sb h6 hk
  have c3 := C_cell3 (σ := σ) (r := 1 + 11) hv.sb h6 hk
  rw [show σ.1 (1 + 11 + 1) (4 * k) = nI i from (hv.be (4 * k) (by omega)).trans e0] at c0
  rw [show σ.1 (1 + 11 + 1) (4 * k + 1) = nI j from (hv.be (4 * k + 1) (by omega)).trans e1] at c1
  rw [show σ.1 (1 + 11 + 1) (4 * k + 2) = nI t from (hv.be (4 * k + 2) (by omega)).trans e2] at c2
  rw [show σ.1 (1 + 11 + 1) (4 * k + 3) = nI y from (hv.be (4 * k + 3) (by omega)).trans e3] at c3
  obtain ⟨pi, -, -, ai⟩ := hv.pe i hi
  obtain ⟨pj, -, -, aj⟩ := hv.pe j hj
  obtain ⟨ki, hki, eki⟩ := hv.kd i hi
  obtain ⟨kj, hkj, ekj⟩ := hv.kd j hj
  have gi : gt N k (nI i) one art = skillP ki (if nI i = one then art else N (23 + (3 * i + t))) (nI y) := by
    rw [gt, kno_n (by omega), eki, kno_n (by omega), e2, kno_n (by omega), e3]
  have gj : gt N k (nI j) one art = skillP kj (if nI j = one then art else N (23 + (3 * j + t))) (nI y) := by
    rw [gt, kno_n (by omega), ekj, kno_n (by omega), e2, kno_n (by omega), e3]
  have l134 : ∀ a b : Int32, X0_isSoWith_L134 55 1 (nI i) (nI j) (nI y) a b σ = some (bi (decide (skillP kj b (nI y) < skillP ki a (nI y))), σ) := by
    intro a b
    rw [X0_isSoWith_L134, aI_n i (by omega), pi, eki, cA_of (C_skillBy hki _ _ _), aI_n j (by omega), pj, ekj, cA_of (C_skillBy hkj _ _ _)]
    by_cases c : skillP kj b (nI y) < skillP ki a (nI y)
    · rw [if_pos c, decide_eq_true c]; rfl
    · rw [if_neg c, decide_eq_false c]; rfl
  have l109 : ∀ a : Int32, X0_isSoWith_L109 55 1 one art (nI i) (nI j) (nI t) (nI y) a σ = some (bi (decide (gt N k (nI j) one art < skillP ki a (nI y))), σ) := by
    intro a
    rw [X0_isSoWith_L109, gj]
    by_cases c : nI j = one
    · rw [if_pos c, if_pos c]; exact l134 a art
    · rw [if_neg c, if_neg c, m3, aI_n _ (by omega), aj t ht]; exact l134 a _
  rw [X0_isSoWith, cA_of c0, cA_of c1, cA_of c2, cA_of c3, fI_e, hv.s10, cA_of (within_ct hi (by omega)), if_neg n10, fI_e, hv.s10, cA_of (within_ct hj (by omega)), if_neg n10, cA_of (within2 ht), if_neg n10, sb, e0, e1]
  by_cases c : nI i = one
  · rw [if_pos c, l109, gi, if_pos c]
  · rw [if_neg c, m3, aI_n _ (by omega), ai t ht, l109, gi, if_neg c]
theorem M_then {σ : Sta} {S : Nat → Nat → Int32} {r n yr u nn nb : Nat} (hv : VR S r (σ.1 83) n yr u nn nb) {k : Nat} (hk : k < nb) {i : Nat} (hi : i < n) (one : Int32) {a : Nat} (ha : a < 10) : X12_goodThen (nI k) (nI i) one (nI a) σ = some (gt (σ.1 83) k (nI i) one (nI a), σ) := by
  have h6 := hv.nb6
  have hn := hv.n6
  obtain ⟨_, _, t, y, _, _, ht, hy, _, _, e2, e3⟩ := hv.bb k hk
  obtain ⟨ki, hki, eki⟩ := hv.kd i hi
  rw [X12_goodThen, aB2 (by omega), aB3 (by omega), e2, e3, gt, kno_n (by omega), eki, kno_n (by omega), e2, e3, kno_n (by omega)]
  by_cases c : nI i = one
  · rw [if_pos c, if_pos c, a17, aI_n _ (by omega), eki, cA_of (M_goodAs hki ha hy σ)]
  · rw [if_neg c, if_neg c, cA_of (hv.mgood hi ht hy)]
    have : kM (σ.1 83) i = nI ki := eki
    rw [this, kno_n (by omega)]
    rfl
theorem M_so {σ : Sta} {S : Nat → Nat → Int32} {r n yr u nn nb : Nat} (hv : VR S r (σ.1 83) n yr u nn nb) {k : Nat} (hk : k < nb) (one : Int32) {a : Nat} (ha : a < 10) : X12_isBeaten (nI k) one (nI a) σ = some (bi (sb (σ.1 83) k one (nI a)), σ) := by
  have h6 := hv.nb6
  obtain ⟨i, j, _, _, hi, hj, _, _, e0, e1, _, _⟩ := hv.bb k hk
  rw [X12_isBeaten, aB0 (by omega), e0, cA_of (M_then hv hk hi one ha), aB1 (by omega), e1, cA_of (M_then hv hk hj one ha), sb, e0, e1]
  by_cases c : gt (σ.1 83) k (nI j) one (nI a) < gt (σ.1 83) k (nI i) one (nI a)
  · rw [if_pos c, decide_eq_true c]; rfl
  · rw [if_neg c, decide_eq_false c]; rfl
-- clash
def cl (f : Nat → Bool) : Nat → Int32
  | 0 => 0
  | k + 1 => if f k then cl f k else cl f k + 1
theorem C_clashL {σ : Sta} {N : Nat → Int32} {n yr u nn nb : Nat} (hv : VR σ.1 1 N n yr u nn nb) : ∀ (d k fu : Nat), k + d = nb → d < fu → X11_clash_L4 fu (cl (fun k => sb N k (-1) 0) k) (nI k) σ = some (cl (fun k => sb N k (-1) 0) nb, σ)
  | d, k, 0, _, h => by omega
  | 0, k, fu + 1, hk, _ => by
    have h6 := hv.nb6
    have e : k = nb := by omega
    subst e
    rw [X11_clash_L4, fI_e, hv.sb, if_neg (nI_nlt (Nat.le_refl _) (by omega))]
  | d + 1, k, fu + 1, hk, hf => by
    have h6 := hv.nb6
    have ih := C_clashL hv d (k + 1) fu (by omega) (by omega)
    have hs : X0_isSo 55 1 (nI k) σ = some (bi (sb N k (-1) 0), σ) := by rw [X0_isSo, cA_of (C_so hv (by omega) _ _), rZ_b]
    rw [X11_clash_L4, fI_e, hv.sb, if_pos (nI_lt (by omega) (by omega)), cA_of hs, bi_if, nI_1]
    rw [cl] at ih
    cases q : sb N k (-1) 0 with
    | true =>
      simp only [q, if_true] at ih ⊢
      exact ih
    | false =>
      simp only [q, Bool.false_eq_true, if_false] at ih ⊢
      exact ih
theorem M_clashL {σ : Sta} {S : Nat → Nat → Int32} {r n yr u nn nb : Nat} (hv : VR S r (σ.1 83) n yr u nn nb) : ∀ (d k fu : Nat), k + d = nb → d < fu → X12_clash_L4 fu (cl (fun k => sb (σ.1 83) k (-1) 0) k) (nI k) σ = some (cl (fun k => sb (σ.1 83) k (-1) 0) nb, σ)
  | d, k, 0, _, h => by omega
  | 0, k, fu + 1, hk, _ => by
    have h6 := hv.nb6
    have e : k = nb := by omega
    subst e
    rw [X12_clash_L4, aI2, hv.N2, if_neg (nI_nlt (Nat.le_refl _) (by omega))]
  | d + 1, k, fu + 1, hk, hf => by
    have h6 := hv.nb6
    have ih := M_clashL hv d (k + 1) fu (by omega) (by omega)
    rw [X12_clash_L4, aI2, hv.N2, if_pos (nI_lt (by omega) (by omega)), cA_of (show X12_isBeaten (nI k) (-1) 0 σ = some (bi (sb (σ.1 83) k (-1) 0), σ) from M_so hv (by omega) (-1) (a := 0) (by decide)), bi_if, nI_1, Int32.add_zero]
    rw [cl] at ih
    cases q : sb (σ.1 83) k (-1) 0 with
    | true =>
      simp only [q, if_true] at ih ⊢
      exact ih
    | false =>
      simp only [q, Bool.false_eq_true, if_false] at ih ⊢
      exact ih
theorem P_clash {σ : Sta} (h : Inv σ) : Pair X11_clash X12_clash σ := by
  obtain ⟨n, yr, u, nn, nb, hv⟩ := h.1
  have h6 := hv.nb6
  refine pair_q h (a := cl (fun k => sb (σ.1 83) k (-1) 0) nb) ⟨σ, ?_, FrQ.rf σ⟩ (fun τ hτ => ⟨τ, ?_, FrQ.rf τ⟩)
  · exact C_clashL hv nb 0 FU (by omega) (by show nb < 300; omega)
  · have t83 : τ.1 83 = σ.1 83 := hτ.at (by unfold isQ; omega)
    have tv : VR σ.1 1 (τ.1 83) n yr u nn nb := by rw [t83]; exact hv
    have := M_clashL tv nb 0 FU (by omega) (by show nb < 300; omega)
    rw [t83] at this
    exact this
end
section
-- may
def mr (N : Nat → Int32) (p s a : Int32) (k : Nat) : Bool := !(decide (N (81 + 4 * k) = p) || decide (N (81 + (4 * k + 1)) = p)) || !decide (N (81 + (4 * k + 2)) = s) || sb N k p a
theorem C_artL {σ : Sta} {N : Nat → Int32} {n yr u nn nb : Nat} (hv : VR σ.1 1 N n yr u nn nb) (p s a : Int32) : ∀ (d k fu : Nat), k + d = nb → d < fu → allB (mr N p s a) k = true → X0_artFits_L9 55 1 fu p s a (nI k) σ = some (bi (allB (mr N p s a) nb), σ)
  | d, k, 0, _, h, _ => by omega
  | 0, k, fu + 1, hk, _, ha => by
    have h6 := hv.nb6
    have e : k = nb := by omega
    subst e
    rw [X0_artFits_L9, fI_e, hv.sb, if_neg (nI_nlt (Nat.le_refl _) (by omega)), ha]
    rfl
  | d + 1, k, fu + 1, hk, hf, ha => by
    have h6 := hv.nb6
    have hk2 : k < nb := by omega
    have ih := C_artL hv p s a d (k + 1) fu (by omega) (by omega)
    have ea : allB (mr N p s a) (k + 1) = mr N p s a k := by rw [allB, ha, Bool.true_and]
    rw [ea] at ih
    have c0 := C_cell0 (σ := σ) (r := 1 + 11) hv.sb h6 hk2
    have c1 := C_cell1 (σ := σ) (r := 1 + 11) hv.sb h6 hk2
    have c2 := C_cell2 (σ := σ) (r := 1 + 11) hv.sb h6 hk2
    rw [show σ.1 (1 + 11 + 1) (4 * k) = N (81 + 4 * k) from hv.be (4 * k) (by omega)] at c0
    rw [show σ.1 (1 + 11 + 1) (4 * k + 1) = N (81 + (4 * k + 1)) from hv.be (4 * k + 1) (by omega)] at c1
    rw [show σ.1 (1 + 11 + 1) (4 * k + 2) = N (81 + (4 * k + 2)) from hv.be (4 * k + 2) (by omega)] at c2
    have step : ∀ b : Bool, (decide (N (81 + 4 * k) = p) || decide (N (81 + (4 * k + 1)) = p)) = b → X0_artFits_L48 55 1 (X0_artFits_L9 55 1 fu) p s a (nI k) (bi b) σ = some (bi (allB (mr N p s a) nb), σ) := by
      intro b hb
      rw [X0_artFits_L48, bi_if, nI_1]
      rw [mr, hb] at ih
      cases b with
      | false => exact ih rfl
      | true =>
        rw [if_pos rfl, cA_of c2]
        by_cases q : N (81 + (4 * k + 2)) = s
        · rw [if_pos q, cA_of (C_so hv hk2 p a), bi_if]
          cases q2 : sb N k p a with
          | true => exact ih (by rw [q2, Bool.or_true])
          | false =>
            have e0 : allB (mr N p s a) (k + 1) = false := by
              rw [ea, mr, hb, decide_eq_true q, q2]
              rfl
            have e1 := allB_f e0 d
            rw [show k + 1 + d = nb by omega] at e1
            rw [e1]
            rfl
        · rw [if_neg q]
          exact ih (by rw [decide_eq_false q]; simp)
    rw [X0_artFits_L9, fI_e, hv.sb, if_pos (nI_lt (by omega) (by omega)), cA_of c0]
    by_cases q1 : N (81 + 4 * k) = p
    · rw [if_pos q1]
      exact step true (by rw [decide_eq_true q1, Bool.true_or])
    · rw [if_neg q1, cA_of c1]
      by_cases q2 : N (81 + (4 * k + 1)) = p
      · rw [if_pos q2]
        exact step true (by rw [decide_eq_true q2, Bool.or_true])
      · rw [if_neg q2]
        exact step false (by rw [decide_eq_false q1, decide_eq_false q2]; rfl)
theorem lt10 {k : Nat} (h : k < 10) : nI k < 10 := nI_lt (b := 10) h (by decide)
theorem C_mayL {σ : Sta} {N : Nat → Int32} {n yr u nn nb : Nat} (hv : VR σ.1 1 N n yr u nn nb) (p s : Int32) : ∀ (d a fu : Nat), a + d = 10 → d < fu → X11_may_L27 fu p s (bO (fun a => allB (mr N p s (nI a)) nb) a) (nI a) σ = some (bO (fun a => allB (mr N p s (nI a)) nb) 10, σ)
  | d, k, 0, _, h => by omega
  | 0, k, fu + 1, hk, _ => by
    have e : k = 10 := by omega
    subst e
    rw [X11_may_L27, if_neg (by decide)]
  | d + 1, k, fu + 1, hk, hf => by
    have ih := C_mayL hv p s d (k + 1) fu (by omega) (by omega)
    have h6 := hv.nb6
    rw [X11_may_L27, if_pos (lt10 (by omega)), cA_of (show X0_artFits 55 1 p s (nI k) σ = _ from C_artL hv p s (nI k) nb 0 FU (by omega) (by show nb < 300; omega) rfl), bi_if, nI_1]
    rw [bO] at ih
    cases q : allB (mr N p s (nI k)) nb with
    | true =>
      simp only [q, if_true] at ih ⊢
      exact ih
    | false =>
      simp only [q, Bool.false_eq_true, if_false] at ih ⊢
      exact ih
theorem M_mayR {σ : Sta} {S : Nat → Nat → Int32} {r n yr u nn nb : Nat} (hv : VR S r (σ.1 83) n yr u nn nb) {a : Nat} (ha : a < 10) (p s z : Int32) (K : Int32 → Int32 → Int32 → Int32 → Sta → Option (Int32 × Sta)) : ∀ (d k fu : Nat), k + d = nb → d < fu → X12_may_L40 K fu p s z (nI a) (bi (allB (mr (σ.1 83) p s (nI a)) k)) (nI k) σ = K p s (if allB (mr (σ.1 83) p s (nI a)) nb then z ||| ((1 : Int32) <<< (nI a &&& 31)) else z) (nI (a + 1)) σ
  | d, i, 0, _, h => by omega
  | 0, i, fu + 1, hi, _ => by
    have h6 := hv.nb6
    have e : i = nb := by omega
    subst e
    rw [X12_may_L40, aI2, hv.N2, if_neg (nI_nlt (Nat.le_refl _) (by omega)), bi_if, Int32.or_zero, nI_1]
    cases allB (mr (σ.1 83) p s (nI a)) i <;> rfl
  | d + 1, k, fu + 1, hk, hf => by
    have h6 := hv.nb6
    have hk2 : k < nb := by omega
    have ih := M_mayR hv ha p s z K d (k + 1) fu (by omega) (by omega)
    rw [allB] at ih
    have step : ∀ b : Bool, (decide (σ.1 83 (81 + 4 * k) = p) || decide (σ.1 83 (81 + (4 * k + 1)) = p)) = b → X12_may_L90 K (X12_may_L40 K fu) p s z (nI a) (bi (allB (mr (σ.1 83) p s (nI a)) k)) (nI k) (bi b) σ = K p s (if allB (mr (σ.1 83) p s (nI a)) nb then z ||| ((1 : Int32) <<< (nI a &&& 31)) else z) (nI (a + 1)) σ := by
      intro b hb
      rw [X12_may_L90, nI_1]
      cases hA : allB (mr (σ.1 83) p s (nI a)) k with
      | false =>
        rw [hA, Bool.false_and] at ih
        exact ih
      | true =>
        rw [hA, Bool.true_and] at ih
        rw [if_neg (show ¬ bi true = 0 by decide), bi_if]
        cases b with
        | false =>
          have em : mr (σ.1 83) p s (nI a) k = true := by rw [mr, hb]; simp
          rw [em, show bi true = 1 from rfl] at ih
          exact ih
        | true =>
          rw [if_pos rfl, aB2 (by omega)]
          by_cases q : σ.1 83 (81 + (4 * k + 2)) = s
          · rw [if_pos q, cA_of (M_so hv hk2 p ha), bi_if]
            cases q2 : sb (σ.1 83) k p (nI a) with
            | true =>
              have em : mr (σ.1 83) p s (nI a) k = true := by rw [mr, q2, Bool.or_true]
              rw [em, show bi true = 1 from rfl] at ih
              exact ih
            | false =>
              have em : mr (σ.1 83) p s (nI a) k = false := by rw [mr, hb, decide_eq_true q, q2]; rfl
              rw [em, show bi false = 0 from rfl] at ih
              exact ih
          · rw [if_neg q]
            have em : mr (σ.1 83) p s (nI a) k = true := by rw [mr, decide_eq_false q]; simp
            rw [em, show bi true = 1 from rfl] at ih
            exact ih
    rw [X12_may_L40, aI2, hv.N2, if_pos (nI_lt (by omega) (by omega)), aB0 (by omega), aB1 (by omega)]
    by_cases q1 : σ.1 83 (81 + 4 * k) = p
    · rw [if_pos q1]
      exact step true (by rw [decide_eq_true q1, Bool.true_or])
    · rw [if_neg q1]
      by_cases q2 : σ.1 83 (81 + (4 * k + 1)) = p
      · rw [if_pos q2]
        exact step true (by rw [decide_eq_true q2, Bool.or_true])
      · rw [if_neg q2]
        exact step false (by rw [decide_eq_false q1, decide_eq_false q2]; rfl)
theorem M_mayL {σ : Sta} {S : Nat → Nat → Int32} {r n yr u nn nb : Nat} (hv : VR S r (σ.1 83) n yr u nn nb) (p s : Int32) : ∀ (d a fu : Nat), a + d = 10 → d < fu → X12_may_L27 fu p s (bO (fun a => allB (mr (σ.1 83) p s (nI a)) nb) a) (nI a) σ = some (bO (fun a => allB (mr (σ.1 83) p s (nI a)) nb) 10, σ)
  | d, k, 0, _, h => by omega
  | 0, k, fu + 1, hk, _ => by
    have e : k = 10 := by omega
    subst e
    rw [X12_may_L27, if_neg (by decide)]
  | d + 1, k, fu + 1, hk, hf => by
    have ih := M_mayL hv p s d (k + 1) fu (by omega) (by omega)
    have h6 := hv.nb6
    rw [X12_may_L27, if_pos (lt10 (by omega))]
    exact (M_mayR hv (a := k) (by omega) p s _ _ nb 0 FU (by omega) (by show nb < 300; omega)).trans ih

theorem P_may {σ : Sta} (h : Inv σ) (x1 x2 : Int32) : Pair (X11_may x1 x2) (X12_may x1 x2) σ := by
  obtain ⟨n, yr, u, nn, nb, hv⟩ := h.1
  have b0 : (badC σ).1 83 0 = nI n := by rw [badC_83]; exact hv.N0
  have b4 : (badC σ).1 83 4 = nI yr := by rw [badC_83]; exact hv.N4
  by_cases e0 : inB x1 0 (nI n - 1) = true
  rotate_left
  · rw [Bool.not_eq_true] at e0; exact pair_bad (a := -2) h (by simp only [X11_may, C_isOne_b hv.s10, e0, cA_e, bi_if, within_b, C_isArt_b, C_bad, Bool.false_eq_true, ite_false, ite_true, if_true, if_false]) (by simp only [X12_may, M_isOne_b b0, e0, cA_e, bi_if, M_isYear_b, M_isSort_b, in_01, in_02, in_05, in_06, in_07, in_09, in_30, in_60, in_99, in_12, M_bad, Bool.false_eq_true, ite_false, ite_true, if_true, if_false])
  by_cases e1 : inB x2 0 2 = true
  rotate_left
  · rw [Bool.not_eq_true] at e1; exact pair_bad (a := -2) h (by simp only [X11_may, C_isOne_b hv.s10, e0, e1, cA_e, bi_if, within_b, C_isArt_b, C_bad, Bool.false_eq_true, ite_false, ite_true, if_true, if_false]) (by simp only [X12_may, M_isOne_b b0, e0, e1, cA_e, bi_if, M_isYear_b, M_isSort_b, in_01, in_02, in_05, in_06, in_07, in_09, in_30, in_60, in_99, in_12, M_bad, Bool.false_eq_true, ite_false, ite_true, if_true, if_false])
  obtain ⟨j0, hj0, rfl⟩ := inB_1 hv.n6 e0
  obtain ⟨j1, hj1, rfl⟩ := inB_n (m := 2) (by decide) e1
  refine pair_q h (a := bO (fun a => allB (mr (σ.1 83) (nI j0) (nI j1) (nI a)) nb) 10) ?_ (fun τ hτ => ?_)
  · simp only [X11_may, C_isOne_b hv.s10, e0, e1, cA_e, bi_if, within_b, C_isArt_b, C_bad, Bool.false_eq_true, ite_false, ite_true, if_true, if_false]
    exact ⟨σ, C_mayL hv (nI j0) (nI j1) 10 0 FU rfl (by decide), FrQ.rf σ⟩
  · have t83 : τ.1 83 = σ.1 83 := hτ.at (by unfold isQ; omega)
    have t0 : τ.1 83 0 = nI n := by rw [t83]; exact hv.N0
    have t4 : τ.1 83 4 = nI yr := by rw [t83]; exact hv.N4
    have tv : VR σ.1 1 (τ.1 83) n yr u nn nb := by rw [t83]; exact hv
    simp only [X12_may, M_isOne_b t0, e0, e1, cA_e, bi_if, M_isYear_b, M_isSort_b, in_01, in_02, in_05, in_06, in_07, in_09, in_30, in_60, in_99, in_12, M_bad, Bool.false_eq_true, ite_false, ite_true, if_true, if_false]
    have := M_mayL tv (nI j0) (nI j1) 10 0 FU rfl (by decide)
    rw [t83] at this
    exact ⟨τ, this, FrQ.rf τ⟩
end
section
-- handicap
theorem skN : ∀ k, k < 6 → ∀ a, a < 10 → ∀ y, y < 8 → kno (skillP k (nI a) (nI y)) < 19 ∧ skillP k (nI a) (nI y) = nI (kno (skillP k (nI a) (nI y))) := by decide +kernel
theorem gN_b {N ch so wo : Nat → Int32} {q : Cq} {n p y : Nat} (hw : Wf N n so wo q) (hp : p < n) (hy : y < 8) : ∃ b, b < 19 ∧ gN N ch so wo q y p = nI b := by
  unfold gN stg
  by_cases h1 : so y = -1
  · rw [if_pos h1]; exact ⟨0, by decide, rfl⟩
  · rw [if_neg h1]
    obtain ⟨t, ht, et⟩ := (hw.2.2.2.2.1 y hy).resolve_left h1
    obtain ⟨k, hk, ek⟩ := hw.2.1 p hp
    obtain ⟨a, ha, ea⟩ := hw.2.2.1 p hp t ht
    rw [et, kno_n (by omega), ea, ek, kno_n (by omega)]
    generalize (if ch p = -1 then wantsP k (wo y) (nI (7 - y)) else decide (ch p = nI y)) = bb
    generalize barP k (bcE (q.1 p)) = cc
    cases cc with
    | true => exact ⟨0, by decide, rfl⟩
    | false =>
      cases bb with
      | true => exact ⟨_, (skN k hk a ha y hy).1, (skN k hk a ha y hy).2⟩
      | false => exact ⟨0, by decide, rfl⟩
def hc (g : Nat → Int32) (p own : Nat) : Nat → Int32
  | 0 => 0
  | q + 1 => hc g p own q + (if q = p then 0 else if nI (if q < p then own - 1 else own) < g q then g q - nI (if q < p then own - 1 else own) else 0)
theorem VR.str1 {σ : Sta} {N : Nat → Int32} {n yr u nn nb : Nat} (hv : VR σ.1 1 N n yr u nn nb) (hc : ∀ j, j < 6 → σ.1 57 j = -1) {p y : Nat} (hp : p < n) (hy : y < 8) : X0_strength 55 1 (nI p) (nI y) σ = some (gN N ch0 (soN N) (woN N) (qN N) y p, σ) := by
  have hn := hv.n6
  rw [C_strength (c := 55) (r := 1) hv.s10 hv.wfc hp hy]
  have a := hv.ag ch0
  have a2 : Ag n ch0 (kM N) (aM N) (soN N) (woN N) (σ.1 57) (σ.1 4) (σ.1 5) (σ.1 2) (σ.1 3) := ⟨fun p hp => ⟨(hc p (by omega)).symm, (a.1.1 p hp).2.1, (a.1.1 p hp).2.2⟩, a.1.2⟩
  have e := stg_ag a2 hv.wf ((a.2 p hp).1) hp hy
  show some (stg (σ.1 57) (σ.1 4) (σ.1 5) (σ.1 6) (σ.1 2) (σ.1 3) p y, σ) = _
  unfold gN
  rw [e]
theorem sub_pos : ∀ a, a < 19 → ∀ b, b < 19 → ((0 : Int32) < nI a - nI b ↔ nI b < nI a) := by decide +kernel
theorem C_handL {σ : Sta} {N : Nat → Int32} {n yr u nn nb : Nat} (hv : VR σ.1 1 N n yr u nn nb) (h57 : ∀ j, j < 6 → σ.1 57 j = -1) {p own : Nat} (hp : p < n) (ho : 1 ≤ own) (ho2 : own < 19) (hy : yr < 8) : ∀ (d q fu : Nat), q + d = n → d < fu → X0_handicapOf_L78 55 1 fu (nI p) (nI yr) (nI own) (hc (gN N ch0 (soN N) (woN N) (qN N) yr) p own q) (nI q) σ = some (hc (gN N ch0 (soN N) (woN N) (qN N) yr) p own n, σ)
  | d, q, 0, _, h => by omega
  | 0, q, fu + 1, hq, _ => by
    have hn := hv.n6
    have e : q = n := by omega
    subst e
    rw [X0_handicapOf_L78, fI_e, hv.s10, if_neg (nI_nlt (Nat.le_refl _) (by omega))]
  | d + 1, q, fu + 1, hq, hf => by
    have hn := hv.n6
    have ih := C_handL hv h57 hp ho ho2 hy d (q + 1) fu (by omega) (by omega)
    obtain ⟨b, hb, eb⟩ := gN_b (ch := ch0) hv.wf (show q < n by omega) hy
    rw [hc] at ih
    have l108 : ∀ o2, o2 < 19 → X0_handicapOf_L108 55 1 (X0_handicapOf_L78 55 1 fu) (nI p) (nI yr) (nI own) (hc (gN N ch0 (soN N) (woN N) (qN N) yr) p own q) (nI q) (nI o2) σ = X0_handicapOf_L78 55 1 fu (nI p) (nI yr) (nI own) (hc (gN N ch0 (soN N) (woN N) (qN N) yr) p own q + (if nI o2 < gN N ch0 (soN N) (woN N) (qN N) yr q then gN N ch0 (soN N) (woN N) (qN N) yr q - nI o2 else 0)) (nI (q + 1)) σ := by
      intro o2 h2
      rw [X0_handicapOf_L108, cA_of (hv.str1 h57 (by omega) hy), nI_1, eb]
      have := sub_pos b hb o2 h2
      by_cases c : nI o2 < nI b
      · rw [if_pos c, if_pos (this.mpr c)]
      · rw [if_neg c, if_neg (fun q => c (this.mp q))]
    rw [X0_handicapOf_L78, fI_e, hv.s10, if_pos (nI_lt (by omega) (by omega)), nI_1]
    by_cases c : q = p
    · rw [c, if_pos rfl]
      rw [c, if_pos rfl, Int32.add_zero] at ih
      exact ih
    · rw [if_neg (fun e => c ((nI_eq (by omega) (by omega)).mp e))]
      rw [if_neg c] at ih
      by_cases c2 : q < p
      · rw [if_pos (nI_lt c2 (by omega)), predN (by omega), l108 _ (by omega)]
        rw [if_pos c2] at ih
        exact ih
      · rw [if_neg (nI_nlt (by omega) (by omega)), l108 _ (by omega)]
        rw [if_neg c2] at ih
        exact ih
theorem M_handL {N : Nat → Int32} {n y : Nat} {ch so wo : Nat → Int32} {q : Cq} {τ : Sta} (h : HM N n ch so wo q τ) (hw : Wf N n so wo q) (hy : y < 8) {p own : Nat} (hp : p < n) (ho : 1 ≤ own) (ho2 : own < 19) : ∀ (d o fu : Nat), o + d = n → d < fu → X12_handicap_L86 fu (nI p) (nI y) (nI own) (hc (gN N ch so wo q y) p own o) (nI o) τ = some (hc (gN N ch so wo q y) p own n, τ)
  | d, q, 0, _, h => by omega
  | 0, q, fu + 1, hq, _ => by
    have hn := hw.1
    have e : q = n := by omega
    subst e
    rw [X12_handicap_L86, cA_of (M_many τ), HM_n h, if_neg (nI_nlt (Nat.le_refl _) (by omega))]
  | d + 1, o, fu + 1, hq, hf => by
    have hn := hw.1
    have ih := M_handL h hw hy hp ho ho2 d (o + 1) fu (by omega) (by omega)
    obtain ⟨b, hb, eb⟩ := gN_b (ch := ch) hw (show o < n by omega) hy
    rw [hc] at ih
    have l143 : ∀ (o2 z : Int32), X12_handicap_L143 (X12_handicap_L86 fu) (nI p) (nI y) (nI own) (hc (gN N ch so wo q y) p own o) (nI o) o2 z τ = X12_handicap_L86 fu (nI p) (nI y) (nI own) (hc (gN N ch so wo q y) p own o + (if o2 < z then z - o2 else 0)) (nI (o + 1)) τ := by
      intro o2 z
      rw [X12_handicap_L143, nI_1]
      by_cases c : o2 < z
      · rw [if_pos c, if_pos c]
      · rw [if_neg c, if_neg c]
    have l108 : ∀ o2, o2 < 19 → (o = p → 1 ≤ o2) → X12_handicap_L108 (X12_handicap_L86 fu) (nI p) (nI y) (nI own) (hc (gN N ch so wo q y) p own o) (nI o) (nI o2) τ = X12_handicap_L86 fu (nI p) (nI y) (nI own) (hc (gN N ch so wo q y) p own o + (if o = p then 0 else if nI o2 < gN N ch so wo q y o then gN N ch so wo q y o - nI o2 else 0)) (nI (o + 1)) τ := by
      intro o2 h2 h3
      rw [X12_handicap_L108]
      by_cases c : o = p
      · rw [c, if_pos rfl, if_pos rfl]
        rw [c] at l143
        rw [l143, if_neg]
        rw [show (0 : Int32) = nI 0 from rfl]
        exact nI_nlt (by omega) (by omega)
      · rw [if_neg (fun e => c ((nI_eq (by omega) (by omega)).mp e)), if_neg c, cA_of (HM_enters h hw (by omega) hy), bi_if]
        by_cases c2 : gN N ch so wo q y o < 1
        · rw [decide_eq_true c2, l143]
          have b0 : b = 0 := by
            rw [eb, lt1, nIt (by omega)] at c2
            omega
          rw [eb, b0]
          rfl
        · rw [decide_eq_false c2]
          simp only [Bool.not_false, if_true]
          rw [aI_n y hy, cA_of (HM_good h hw (by omega) hy c2), l143]
    rw [X12_handicap_L86, cA_of (M_many τ), HM_n h, if_pos (nI_lt (by omega) (by omega))]
    by_cases c2 : o < p
    · rw [if_pos (nI_lt c2 (by omega)), predN (by omega), l108 _ (by omega) (by omega)]
      rw [if_pos c2] at ih
      exact ih
    · rw [if_neg (nI_nlt (by omega) (by omega)), l108 _ (by omega) (by omega)]
      rw [if_neg c2] at ih
      exact ih
def hcap (N : Nat → Int32) (n yr p : Nat) : Int32 := if yr = 8 then -1 else if soN N yr = -1 then -1 else if barP (kno (kM N p)) (bcE (N (5 + p))) then -1 else if skillP (kno (kM N p)) (aM N (3 * p + kno (soN N yr))) (nI yr) = 0 then -1 else hc (gN N ch0 (soN N) (woN N) (qN N) yr) p (kno (skillP (kno (kM N p)) (aM N (3 * p + kno (soN N yr))) (nI yr))) n
theorem C_hand {σ : Sta} {N : Nat → Int32} {n yr u nn nb : Nat} (hv : VR σ.1 1 N n yr u nn nb) (h57 : ∀ j, j < 6 → σ.1 57 j = -1) {p : Nat} (hp : p < n) : X0_handicapOf 55 1 (nI p) σ = some (hcap N n yr p, σ) := by
  have hn := hv.n6
  rw [X0_handicapOf, fI_e, hv.s11, hcap]
  by_cases c1 : yr = 8
  · subst c1
    rw [if_pos rfl, within_b]
    rfl
  · have hy : yr < 8 := by have := hv.y8; omega
    rw [if_neg c1, cA_of (within7 hy), if_neg n10, aI_n yr hy, show σ.1 (1 + 1) yr = soN N yr from (hv.ye yr hy).1]
    by_cases c2 : soN N yr = -1
    · rw [if_pos c2, if_pos c2]
    · rw [if_neg c2, if_neg c2]
      obtain ⟨p1, p2, p3, p4⟩ := hv.pe p hp
      have hb := C_isBarred (c := 55) (r := 1) hv.wfc hp
      rw [show σ.1 (1 + 3) p = kM N p from p1, show σ.1 (1 + 5) p = N (5 + p) from p2] at hb
      rw [cA_of hb, bi_if]
      by_cases c3 : barP (kno (kM N p)) (bcE (N (5 + p))) = true
      · rw [if_pos c3, if_pos c3]
      · rw [if_neg c3, if_neg c3]
        obtain ⟨t, ht, et⟩ := (hv.so yr hy).resolve_left c2
        obtain ⟨k, hk, ek⟩ := hv.kd p hp
        obtain ⟨a, ha, ea⟩ := hv.ar p hp t ht
        have ek2 : kM N p = nI k := ek
        have et2 : soN N yr = nI t := et
        have ea2 : aM N (3 * p + t) = nI a := ea
        rw [aI_n p (by omega), aI_n yr hy, show σ.1 (1 + 1) yr = nI t from (hv.ye yr hy).1.trans et, m3, aI_n _ (by omega), show σ.1 (1 + 4) (3 * p + t) = nI a from (p4 t ht).trans ea, show σ.1 (1 + 3) p = nI k from p1.trans ek, cA_of (C_skillBy hk _ _ _), ek2, et2, kno_n (by omega), kno_n (by omega), ea2]
        obtain ⟨s1, s2⟩ := skN k hk a ha yr hy
        by_cases c4 : skillP k (nI a) (nI yr) = 0
        · rw [if_pos c4, if_pos (by rw [c4]; decide)]
        · rw [if_neg c4]
          generalize kno (skillP k (nI a) (nI yr)) = w at s1 s2
          rw [s2] at c4 ⊢
          have w0 : 1 ≤ w := by
            rcases Nat.eq_zero_or_pos w with e | e
            · subst e; exact absurd rfl c4
            · exact e
          rw [if_neg (show ¬ nI w < 1 from nI_nlt (show 1 ≤ w from w0) (by omega))]
          exact C_handL hv h57 hp w0 s1 hy n 0 FU (by omega) (by show n < 300; omega)
theorem M_hand {σ τ : Sta} {S : Nat → Nat → Int32} {r n yr u nn nb : Nat} (hv : VR S r (σ.1 83) n yr u nn nb) {p : Nat} (hp : p < n) (h1 : HM (σ.1 83) n ch0 (soN (σ.1 83)) (woN (σ.1 83)) (qN (σ.1 83)) τ) : (if nI yr = (8 : Int32) then (some ((-1 : Int32), τ)) else (aI τ 89 8 (nI yr) (fun v6 => if v6 = (-1 : Int32) then (some ((-1 : Int32), τ)) else (cA (X12_isBarred (nI p) τ) (fun q7 s8 => if q7 = 0 then (aI s8 89 8 (nI yr) (fun v9 => cA (X12_goodOf (nI p) v9 (nI yr) s8) (fun q10 s11 => if q10 = 0 then (some ((-1 : Int32), s11)) else (aI s11 89 8 (nI yr) (fun v12 => cA (X12_goodOf (nI p) v12 (nI yr) s11) (fun q13 s14 => X12_handicap_L86 FU (nI p) (nI yr) q13 (0 : Int32) (0 : Int32) s14)))))) else (some ((-1 : Int32), s8))))))) = some (hcap (σ.1 83) n yr p, τ) := by
  have hn := hv.n6
  rw [hcap]
  by_cases c1 : yr = 8
  · subst c1
    rw [if_pos rfl]
    rfl
  · have hy : yr < 8 := by have := hv.y8; omega
    have e89 : τ.1 89 yr = soN (σ.1 83) yr := ((h1.2.2.2 yr hy).1).symm
    rw [if_neg c1, if_neg (show ¬ nI yr = 8 from fun e => c1 ((nI_eq (b := 8) (by omega) (by decide)).mp e)), aI_n yr hy, e89]
    by_cases c2 : soN (σ.1 83) yr = -1
    · rw [if_pos c2, if_pos c2]
    · rw [if_neg c2, if_neg c2]
      have hb := M_isBarred (HM_wf h1 hv.wf) hp
      rw [h1.1, ← (h1.2.2.1 p hp).2.2.1] at hb
      have hb2 : X12_isBarred (nI p) τ = some (bi (barP (kno (kM (σ.1 83) p)) (bcE (σ.1 83 (5 + p)))), τ) := hb
      rw [cA_of hb2, bi_if]
      by_cases c3 : barP (kno (kM (σ.1 83) p)) (bcE (σ.1 83 (5 + p))) = true
      · rw [if_pos c3, if_pos c3]
      · rw [if_neg c3, if_neg c3]
        obtain ⟨t, ht, et⟩ := (hv.so yr hy).resolve_left c2
        obtain ⟨k, hk, ek⟩ := hv.kd p hp
        obtain ⟨a, ha, ea⟩ := hv.ar p hp t ht
        have ek2 : kM (σ.1 83) p = nI k := ek
        have et2 : soN (σ.1 83) yr = nI t := et
        have ea2 : aM (σ.1 83) (3 * p + t) = nI a := ea
        have tv : VR S r (τ.1 83) n yr u nn nb := by rw [h1.1]; exact hv
        have hg := tv.mgood hp ht hy
        rw [h1.1, ek2, ea2, kno_n (by omega)] at hg
        rw [aI_n yr hy, e89, et2, cA_of hg, ek2, kno_n (by omega), kno_n (by omega), ea2]
        obtain ⟨s1, s2⟩ := skN k hk a ha yr hy
        by_cases c4 : skillP k (nI a) (nI yr) = 0
        · rw [if_pos c4, if_pos c4]
        · rw [if_neg c4, if_neg c4, aI_n yr hy, e89, et2, cA_of hg]
          generalize kno (skillP k (nI a) (nI yr)) = w at s1 s2
          rw [s2] at c4 ⊢
          have w0 : 1 ≤ w := by
            rcases Nat.eq_zero_or_pos w with e | e
            · subst e; exact absurd rfl c4
            · exact e
          exact M_handL h1 hv.wf hy hp w0 s1 n 0 FU (by omega) (by show n < 300; omega)

theorem P_handicap {σ : Sta} (h : Inv σ) (x1 : Int32) : Pair (X11_handicap x1) (X12_handicap x1) σ := by
  obtain ⟨n, yr, u, nn, nb, hv⟩ := h.1
  have b0 : (badC σ).1 83 0 = nI n := by rw [badC_83]; exact hv.N0
  have b4 : (badC σ).1 83 4 = nI yr := by rw [badC_83]; exact hv.N4
  by_cases e0 : inB x1 0 (nI n - 1) = true
  rotate_left
  · rw [Bool.not_eq_true] at e0; exact pair_bad (a := -2) h (by simp only [X11_handicap, C_isOne_b hv.s10, e0, cA_e, bi_if, within_b, C_isArt_b, C_bad, Bool.false_eq_true, ite_false, ite_true, if_true, if_false]) (by simp only [X12_handicap, M_isOne_b b0, e0, cA_e, bi_if, M_isYear_b, M_isSort_b, in_01, in_02, in_05, in_06, in_07, in_09, in_30, in_60, in_99, in_12, M_bad, Bool.false_eq_true, ite_false, ite_true, if_true, if_false])
  obtain ⟨j0, hj0, rfl⟩ := inB_1 hv.n6 e0
  refine pair_q h (a := hcap (σ.1 83) n yr j0) ?_ (fun τ hτ => ?_)
  · simp only [X11_handicap, C_isOne_b hv.s10, e0, cA_e, bi_if, within_b, C_isArt_b, C_bad, Bool.false_eq_true, ite_false, ite_true, if_true, if_false]
    rw [allByKind_e, cA_e]
    have hv' : VR (up1 σ (55 + 2) (fun j => if j < 6 then -1 else σ.1 (55 + 2) j)).1 1 (σ.1 83) n yr u nn nb := hv.cell (fun i hi => up1_n (by omega))
    rw [cA_of (C_hand hv' (fun j hj => by rw [up1_s]; exact if_pos hj) hj0)]
    exact ⟨_, rfl, FrQ.up (by unfold isQ; omega)⟩
  · have t83 : τ.1 83 = σ.1 83 := hτ.at (by unfold isQ; omega)
    have t0 : τ.1 83 0 = nI n := by rw [t83]; exact hv.N0
    have t4 : τ.1 83 4 = nI yr := by rw [t83]; exact hv.N4
    have tv : VR σ.1 1 (τ.1 83) n yr u nn nb := by rw [t83]; exact hv
    simp only [X12_handicap, M_isOne_b t0, e0, cA_e, bi_if, M_isYear_b, M_isSort_b, in_01, in_02, in_05, in_06, in_07, in_09, in_30, in_60, in_99, in_12, M_bad, Bool.false_eq_true, ite_false, ite_true, if_true, if_false]
    obtain ⟨τ1, f1, f2, f3⟩ := tv.lay
    rw [aI4, t4, cA_of f1]
    have := M_hand tv hj0 f2
    rw [t83] at this
    exact ⟨τ1, this, f3.q⟩
end
section
/-! PURE HALF 14: what changes the valley -/
def isN (k : Nat) : Prop := (1 ≤ k ∧ k ≤ 13) ∨ k = 83 ∨ isQ k
def FrN (σ τ : Sta) : Prop := (∀ k, ¬ isN k → τ.1 k = σ.1 k) ∧ τ.2 = σ.2
theorem FrN.rf (σ : Sta) : FrN σ σ := ⟨fun _ _ => rfl, rfl⟩
theorem FrN.tr {a b c : Sta} (h1 : FrN a b) (h2 : FrN b c) : FrN a c := ⟨fun k q => (h2.1 k q).trans (h1.1 k q), h2.2.trans h1.2⟩
theorem FrN.up {σ : Sta} {k : Nat} {f : Nat → Int32} (h : isN k) : FrN σ (up1 σ k f) := ⟨fun j q => up1_n (fun e => q (by rw [e]; exact h)), rfl⟩
theorem FrQ.nn {a b : Sta} (h : FrQ a b) : FrN a b := ⟨fun k q => h.1 k (fun e => q (Or.inr (Or.inr e))), h.2⟩
theorem Inv.n {σ τ : Sta} (h : Inv σ) (e : FrN σ τ) (hv : Vnow τ.1) : Inv τ := by
  obtain ⟨h1, h2, h3, h4, h5⟩ := h
  have q : ∀ k, k = 0 ∨ (14 ≤ k ∧ k ≤ 54) ∨ (80 ≤ k ∧ k ≤ 82) ∨ (84 ≤ k ∧ k ≤ 86) ∨ (94 ≤ k ∧ k ≤ 96) → τ.1 k = σ.1 k := fun k hk => e.1 k (by unfold isN isQ; omega)
  refine ⟨hv, fun i hi => (h2 i hi).c hi (fun k a b => q k (by omega)) (q 84 (by omega)) (q 85 (by omega)), ?_, ?_, h5.c (by rw [q 80 (by omega)]) (q 81 (by omega)) (by rw [q 82 (by omega)]) (q 94 (by omega))⟩
  · intro i hi
    rw [q 0 (by omega), q 86 (by omega)]
    exact h3 i hi
  · rw [e.2]
    exact h4
def isX (k : Nat) : Prop := (14 ≤ k ∧ k ≤ 26) ∨ (80 ≤ k ∧ k ≤ 82) ∨ (94 ≤ k ∧ k ≤ 96)
def FrX (σ τ : Sta) : Prop := (∀ k, ¬ isX k → τ.1 k = σ.1 k) ∧ τ.2 = σ.2
theorem FrX.rf (σ : Sta) : FrX σ σ := ⟨fun _ _ => rfl, rfl⟩
theorem FrX.tr {a b c : Sta} (h1 : FrX a b) (h2 : FrX b c) : FrX a c := ⟨fun k q => (h2.1 k q).trans (h1.1 k q), h2.2.trans h1.2⟩
theorem FrX.up {σ : Sta} {k : Nat} {f : Nat → Int32} (h : isX k) : FrX σ (up1 σ k f) := ⟨fun j q => up1_n (fun e => q (by rw [e]; exact h)), rfl⟩
theorem Inv.x {σ τ : Sta} (h : Inv σ) (e : FrX σ τ) (ht : Txt τ.1) : Inv τ := by
  obtain ⟨h1, h2, h3, h4, h5⟩ := h
  have q : ∀ k, k ≤ 13 ∨ (27 ≤ k ∧ k ≤ 79) ∨ (83 ≤ k ∧ k ≤ 93) → τ.1 k = σ.1 k := fun k hk => e.1 k (by unfold isX; omega)
  refine ⟨h1.c (fun k a b => q k (by omega)) (q 83 (by omega)), fun i hi => (h2 i hi).c hi (fun k a b => q k (by omega)) (q 84 (by omega)) (q 85 (by omega)), ?_, ?_, ht⟩
  · intro i hi
    rw [q 0 (by omega), q 86 (by omega)]
    exact h3 i hi
  · rw [e.2]
    exact h4
-- the relation in groups
def gPe (S : Nat → Nat → Int32) (r : Nat) (N : Nat → Int32) (n yr : Nat) : Prop := (∀ p, p < n → S (r + 3) p = N (17 + p) ∧ S (r + 5) p = N (5 + p) ∧ S (r + 6) p = N (11 + p) ∧ ∀ t, t < 3 → S (r + 4) (3 * p + t) = N (23 + (3 * p + t))) ∧ (∀ p, p < n → ∃ k, k < 6 ∧ N (17 + p) = nI k) ∧ (∀ p, p < n → ∀ t, t < 3 → ∃ a, a < 10 ∧ N (23 + (3 * p + t)) = nI a) ∧ (∀ p, p < n → ∃ w, w < 2 ^ yr ∧ N (5 + p) = nI w)
def gYe (S : Nat → Nat → Int32) (r : Nat) (N : Nat → Int32) : Prop := (∀ y, y < 8 → S (r + 1) y = N (41 + y) ∧ S (r + 2) y = N (49 + y)) ∧ (∀ y, y < 8 → N (41 + y) = -1 ∨ ∃ t, t < 3 ∧ N (41 + y) = nI t) ∧ (∀ y, y < 8 → ∃ w, w ≤ 30 ∧ N (49 + y) = nI w)
def gNo (S : Nat → Nat → Int32) (r : Nat) (N : Nat → Int32) (nn : Nat) : Prop := ∀ j, j < 4 * nn → S (r + 10) j = N (57 + j)
def gBe (S : Nat → Nat → Int32) (r : Nat) (N : Nat → Int32) (n nb : Nat) : Prop := (∀ j, j < 4 * nb → S (r + 12) j = N (81 + j)) ∧ (∀ k, k < nb → ∃ i j t y, i < n ∧ j < n ∧ t < 3 ∧ y < 8 ∧ N (81 + 4 * k) = nI i ∧ N (81 + (4 * k + 1)) = nI j ∧ N (81 + (4 * k + 2)) = nI t ∧ N (81 + (4 * k + 3)) = nI y)
theorem VR.gpe {S : Nat → Nat → Int32} {r : Nat} {N : Nat → Int32} {n yr u nn nb : Nat} (h : VR S r N n yr u nn nb) : gPe S r N n yr := ⟨h.pe, h.kd, h.ar, h.wi⟩
theorem VR.gye {S : Nat → Nat → Int32} {r : Nat} {N : Nat → Int32} {n yr u nn nb : Nat} (h : VR S r N n yr u nn nb) : gYe S r N := ⟨h.ye, h.so, h.wo⟩
theorem VR.gno {S : Nat → Nat → Int32} {r : Nat} {N : Nat → Int32} {n yr u nn nb : Nat} (h : VR S r N n yr u nn nb) : gNo S r N nn := h.no
theorem VR.gbe {S : Nat → Nat → Int32} {r : Nat} {N : Nat → Int32} {n yr u nn nb : Nat} (h : VR S r N n yr u nn nb) : gBe S r N n nb := ⟨h.be, h.bb⟩
theorem VR.mk {S : Nat → Nat → Int32} {r : Nat} {N : Nat → Int32} {n yr u nn nb : Nat} (c : n ≤ 6 ∧ yr ≤ 8 ∧ u ≤ yr ∧ nn ≤ 6 ∧ nb ≤ 6) (s : S r 10 = nI n ∧ S r 11 = nI yr ∧ S r 12 = nI u ∧ S (r + 9) 1 = nI nn ∧ S (r + 11) 1 = nI nb) (m : N 0 = nI n ∧ N 1 = nI nn ∧ N 2 = nI nb ∧ N 3 = nI u ∧ N 4 = nI yr) (a : gPe S r N n yr) (b : gYe S r N) (d : gNo S r N nn) (e : gBe S r N n nb) (f : Hist N (S (r + 7)) (S (r + 8)) n u yr 4) : VR S r N n yr u nn nb :=
  ⟨c.1, c.2.1, c.2.2.1, c.2.2.2.1, c.2.2.2.2, s.1, s.2.1, s.2.2.1, s.2.2.2.1, s.2.2.2.2, m.1, m.2.1, m.2.2.1, m.2.2.2.1, m.2.2.2.2, a.1, b.1, d, e.1, a.2.1, a.2.2.1, a.2.2.2, b.2.1, b.2.2, e.2, f⟩
theorem gPe.c {S S' : Nat → Nat → Int32} {r n yr : Nat} {N N' : Nat → Int32} (h : gPe S r N n yr) (hn : n ≤ 6) (a3 : S' (r + 3) = S (r + 3)) (a4 : S' (r + 4) = S (r + 4)) (a5 : S' (r + 5) = S (r + 5)) (a6 : S' (r + 6) = S (r + 6)) (hN : ∀ k, 5 ≤ k → k < 41 → N' k = N k) : gPe S' r N' n yr := by
  obtain ⟨h1, h2, h3, h4⟩ := h
  refine ⟨fun p hp => ?_, fun p hp => ?_, fun p hp t ht => ?_, fun p hp => ?_⟩
  · rw [a3, a4, a5, a6, hN _ (by omega) (by omega), hN _ (by omega) (by omega), hN _ (by omega) (by omega)]
    exact ⟨(h1 p hp).1, (h1 p hp).2.1, (h1 p hp).2.2.1, fun t ht => by rw [hN _ (by omega) (by omega)]; exact (h1 p hp).2.2.2 t ht⟩
  · rw [hN _ (by omega) (by omega)]; exact h2 p hp
  · rw [hN _ (by omega) (by omega)]; exact h3 p hp t ht
  · rw [hN _ (by omega) (by omega)]; exact h4 p hp
theorem gYe.c {S S' : Nat → Nat → Int32} {r : Nat} {N N' : Nat → Int32} (h : gYe S r N) (a1 : S' (r + 1) = S (r + 1)) (a2 : S' (r + 2) = S (r + 2)) (hN : ∀ k, 41 ≤ k → k < 57 → N' k = N k) : gYe S' r N' := by
  obtain ⟨h1, h2, h3⟩ := h
  refine ⟨fun y hy => ?_, fun y hy => ?_, fun y hy => ?_⟩
  · rw [a1, a2, hN _ (by omega) (by omega), hN _ (by omega) (by omega)]; exact h1 y hy
  · rw [hN _ (by omega) (by omega)]; exact h2 y hy
  · rw [hN _ (by omega) (by omega)]; exact h3 y hy
theorem gNo.c {S S' : Nat → Nat → Int32} {r nn : Nat} {N N' : Nat → Int32} (h : gNo S r N nn) (hn : nn ≤ 6) (a : S' (r + 10) = S (r + 10)) (hN : ∀ k, 57 ≤ k → k < 81 → N' k = N k) : gNo S' r N' nn := by
  intro j hj
  rw [a, hN _ (by omega) (by omega)]
  exact h j hj
theorem gBe.c {S S' : Nat → Nat → Int32} {r n nb n' : Nat} {N N' : Nat → Int32} (h : gBe S r N n nb) (hn : nb ≤ 6) (hnn : n ≤ n') (a : S' (r + 12) = S (r + 12)) (hN : ∀ k, 81 ≤ k → k < 105 → N' k = N k) : gBe S' r N' n' nb := by
  refine ⟨fun j hj => ?_, fun k hk => ?_⟩
  · rw [a, hN _ (by omega) (by omega)]; exact h.1 j hj
  · rw [hN _ (by omega) (by omega), hN _ (by omega) (by omega), hN _ (by omega) (by omega), hN _ (by omega) (by omega)]
    obtain ⟨i, j, t, y, b1, b2, b3⟩ := h.2 k hk
    exact ⟨i, j, t, y, by omega, by omega, b3⟩
-- an empty valley
theorem VR.zero {S : Nat → Nat → Int32} {r : Nat} {N : Nat → Int32} (s : S r 10 = 0 ∧ S r 11 = 0 ∧ S r 12 = 0 ∧ S (r + 9) 1 = 0 ∧ S (r + 11) 1 = 0) (m : N 0 = 0 ∧ N 1 = 0 ∧ N 2 = 0 ∧ N 3 = 0 ∧ N 4 = 0) (a : ∀ y, y < 8 → S (r + 1) y = -1 ∧ S (r + 2) y = 0) (b : ∀ y, y < 8 → N (41 + y) = -1 ∧ N (49 + y) = 0) : VR S r N 0 0 0 0 0 :=
  VR.mk (by omega) s m ⟨fun p hp => by omega, fun p hp => by omega, fun p hp => by omega, fun p hp => by omega⟩ ⟨fun y hy => by rw [(a y hy).1, (a y hy).2, (b y hy).1, (b y hy).2]; exact ⟨rfl, rfl⟩, fun y hy => Or.inl (b y hy).1, fun y hy => ⟨0, by omega, (b y hy).2⟩⟩ (fun j hj => by omega) ⟨fun j hj => by omega, fun k hk => by omega⟩ trivial
theorem C_empty (r : Nat) (σ : Sta) : ∃ τ, X10_empty r σ = some ((), τ) ∧ (τ.1 r 10 = 0 ∧ τ.1 r 11 = 0 ∧ τ.1 r 12 = 0 ∧ τ.1 (r + 9) 1 = 0 ∧ τ.1 (r + 11) 1 = 0) ∧ (∀ y, y < 8 → τ.1 (r + 1) y = -1 ∧ τ.1 (r + 2) y = 0) ∧ (∀ k, k < r ∨ r + 11 < k → τ.1 k = σ.1 k) ∧ τ.2 = σ.2 := by
  rw [X10_empty, cA_of (fill_e (by decide)), cA_of (fill_e (by decide)), pI_e, pI_e, pI_e, pI_e, pI_e]
  refine ⟨_, rfl, ⟨?_, ?_, ?_, ?_, ?_⟩, fun y hy => ⟨?_, ?_⟩, fun k hk => ?_, rfl⟩
  · rw [up1_n (by omega), up1_n (by omega), up1_s, up1_s, up1_s, updN (by decide), updN (by decide), updS]
  · rw [up1_n (by omega), up1_n (by omega), up1_s, up1_s, updN (by decide), updS]
  · rw [up1_n (by omega), up1_n (by omega), up1_s, updS]
  · rw [up1_n (by omega), up1_s, updS]
  · rw [up1_s, updS]
  · rw [up1_n (by omega), up1_n (by omega), up1_n (by omega), up1_n (by omega), up1_n (by omega), up1_n (by omega), up1_s, if_pos hy]
  · rw [up1_n (by omega), up1_n (by omega), up1_n (by omega), up1_n (by omega), up1_n (by omega), up1_s, if_pos hy]
  · rw [up1_n (by omega), up1_n (by omega), up1_n (by omega), up1_n (by omega), up1_n (by omega), up1_n (by omega), up1_n (by omega)]
theorem lt105 {i : Nat} (h : i < 105) : nI i < (105 : Int32) := nI_lt (b := 105) h (by decide)
theorem M_begin2 {nav kav : Nat} (hv : 105 ≤ nav) (hv2 : nav < 2 ^ 31) {σ : Sta} : ∀ (d y fu : Nat) (f : Nat → Int32), y + d = 8 → d < fu → X12_begin_L20 nav kav fu (nI y) (up1 σ kav f) = some ((), up1 σ kav (fun j => if 41 + y ≤ j ∧ j < 49 then -1 else f j))
  | d, y, 0, f, _, h => by omega
  | 0, y, fu + 1, f, hy, _ => by
    have e : y = 8 := by omega
    subst e
    rw [X12_begin_L20, if_neg nlt8]
    congr 3
    funext j
    rw [if_neg (by omega)]
  | d + 1, y, fu + 1, f, hy, hf => by
    rw [X12_begin_L20, if_pos (lt8 (by omega)), a41, sI_n (41 + y) (by omega) hv2, up1_s, up1_u, nI_1, M_begin2 hv hv2 d (y + 1) fu _ (by omega) (by omega)]
    congr 3
    funext j
    by_cases h : j = 41 + y
    · subst h
      rw [updS, if_neg (by omega), if_pos (by omega)]
    · rw [updN h]
      by_cases h2 : 41 + (y + 1) ≤ j ∧ j < 49
      · rw [if_pos h2, if_pos (by omega)]
      · rw [if_neg h2, if_neg (by omega)]
theorem M_begin1 {nav kav : Nat} (hv : 105 ≤ nav) (hv2 : nav < 2 ^ 31) {σ : Sta} : ∀ (d i fu : Nat) (f : Nat → Int32), i + d = 105 → d < fu → X12_begin_L2 nav kav fu (nI i) (up1 σ kav f) = some ((), up1 σ kav (fun j => if 41 ≤ j ∧ j < 49 then -1 else if i ≤ j ∧ j < 105 then 0 else f j))
  | d, y, 0, f, _, h => by omega
  | 0, i, fu + 1, f, hi, _ => by
    have e : i = 105 := by omega
    subst e
    rw [X12_begin_L2, if_neg (by decide), show (0 : Int32) = nI 0 from rfl, M_begin2 hv hv2 8 0 FU f rfl (by decide)]
    congr 3
    funext j
    by_cases h2 : 41 ≤ j ∧ j < 49
    · rw [if_pos h2, if_pos (by omega)]
    · rw [if_neg h2, if_neg (by omega), if_neg (by omega)]
  | d + 1, i, fu + 1, f, hi, hf => by
    rw [X12_begin_L2, if_pos (lt105 (by omega)), sI_n i (by omega) hv2, up1_s, up1_u, nI_1, M_begin1 hv hv2 d (i + 1) fu _ (by omega) (by omega)]
    congr 3
    funext j
    by_cases h2 : 41 ≤ j ∧ j < 49
    · rw [if_pos h2, if_pos h2]
    · rw [if_neg h2, if_neg h2]
      by_cases h : j = i
      · subst h
        rw [updS, if_neg (by omega), if_pos (by omega)]
      · rw [updN h]
        by_cases h3 : i + 1 ≤ j ∧ j < 105
        · rw [if_pos h3, if_pos (by omega)]
        · rw [if_neg h3, if_neg (by omega)]
def beg (f : Nat → Int32) : Nat → Int32 := fun j => if 41 ≤ j ∧ j < 49 then -1 else if j < 105 then 0 else f j
theorem M_begin {nav kav : Nat} (hv : 105 ≤ nav) (hv2 : nav < 2 ^ 31) (σ : Sta) : X12_begin nav kav σ = some ((), up1 σ kav (beg (σ.1 kav))) := by
  have h := M_begin1 (kav := kav) hv hv2 (σ := σ) 105 0 FU (σ.1 kav) rfl (by decide)
  rw [up1_id] at h
  rw [X12_begin]
  refine h.trans ?_
  congr 3
  funext j
  unfold beg
  by_cases h2 : 41 ≤ j ∧ j < 49
  · rw [if_pos h2, if_pos h2]
  · rw [if_neg h2, if_neg h2]
    by_cases h3 : j < 105
    · rw [if_pos h3, if_pos (by omega)]
    · rw [if_neg h3, if_neg (by omega)]
theorem beg0 (f : Nat → Int32) : (beg f 0 = 0 ∧ beg f 1 = 0 ∧ beg f 2 = 0 ∧ beg f 3 = 0 ∧ beg f 4 = 0) ∧ ∀ y, y < 8 → beg f (41 + y) = -1 ∧ beg f (49 + y) = 0 := by
  refine ⟨⟨rfl, rfl, rfl, rfl, rfl⟩, fun y hy => ?_⟩
  unfold beg
  rw [if_pos (by omega), if_neg (by omega), if_pos (by omega)]
  exact ⟨rfl, rfl⟩
theorem P_valley {σ : Sta} (h : Inv σ) : Pair X11_valley X12_valley σ := by
  obtain ⟨n, yr, u, nn, nb, hv⟩ := h.1
  obtain ⟨τ, c1, c2, c3, c4, c5⟩ := C_empty 1 σ
  have t83 : τ.1 83 = σ.1 83 := c4 83 (by omega)
  refine ⟨nI n, τ, up1 τ 83 (beg (τ.1 83)), ?_, ?_, ?_⟩
  · rw [X11_valley, fI_e, hv.s10, cA_of c1]
  · rw [X12_valley, cA_of (M_many τ), cA_of (M_begin (by decide) (by decide) τ), t83, hv.N0]
  · refine h.n (FrN.tr (b := τ) ⟨fun k hk => c4 k (by unfold isN at hk; omega), c5⟩ (FrN.up (by unfold isN; omega))) ⟨0, 0, 0, 0, 0, ?_⟩
    rw [up1_s]
    refine VR.zero ?_ (beg0 _).1 ?_ (beg0 _).2
    · rw [up1_n (by decide), up1_n (by decide), up1_n (by decide)]; exact c2
    · intro y hy
      rw [up1_n (by decide), up1_n (by decide)]
      exact c3 y hy
-- a prize
theorem C_setPrize (r : Nat) {y : Nat} (hy : y < 8) (s w : Int32) (σ : Sta) : X10_setPrize r (nI y) s w σ = some ((), up1 (up1 σ (r + 1) (upd (σ.1 (r + 1)) y s)) (r + 2) (upd (σ.1 (r + 2)) y w)) := by
  rw [X10_setPrize, sI_n y hy, sI_n y hy, up1_n (by omega)]
def prz (N : Nat → Int32) (y : Nat) (s w : Int32) : Nat → Int32 := upd (upd N (41 + y) s) (49 + y) w
theorem VR.prize {S S' : Nat → Nat → Int32} {r : Nat} {N N' : Nat → Int32} {n yr u nn nb : Nat} (h : VR S r N n yr u nn nb) {y t w : Nat} (hy : y < 8) (ht : t < 3) (hw : w ≤ 30) (e0 : S' r 10 = S r 10 ∧ S' r 11 = S r 11 ∧ S' r 12 = 0) (e1 : S' (r + 1) = upd (S (r + 1)) y (nI t)) (e2 : S' (r + 2) = upd (S (r + 2)) y (nI w)) (e3 : ∀ i, 3 ≤ i → i < 13 → S' (r + i) = S (r + i)) (hN3 : N' 3 = 0) (hN : ∀ k, k ≠ 3 → N' k = prz N y (nI t) (nI w) k) : VR S' r N' n yr 0 nn nb := by
  have o : ∀ k, k ≠ 3 → k ≠ 41 + y → k ≠ 49 + y → N' k = N k := fun k k1 k2 k3 => by rw [hN k k1, prz, updN k3, updN k2]
  refine VR.mk ⟨h.n6, h.y8, by omega, h.nn6, h.nb6⟩ ⟨e0.1.trans h.s10, e0.2.1.trans h.s11, e0.2.2, by rw [e3 9 (by omega) (by omega)]; exact h.sn, by rw [e3 11 (by omega) (by omega)]; exact h.sb⟩ ⟨by rw [o 0 (by omega) (by omega) (by omega)]; exact h.N0, by rw [o 1 (by omega) (by omega) (by omega)]; exact h.N1, by rw [o 2 (by omega) (by omega) (by omega)]; exact h.N2, hN3, by rw [o 4 (by omega) (by omega) (by omega)]; exact h.N4⟩
    (h.gpe.c h.n6 (e3 3 (by omega) (by omega)) (e3 4 (by omega) (by omega)) (e3 5 (by omega) (by omega)) (e3 6 (by omega) (by omega)) (fun k k1 k2 => o k (by omega) (by omega) (by omega))) ?_
    (h.gno.c h.nn6 (e3 10 (by omega) (by omega)) (fun k k1 k2 => o k (by omega) (by omega) (by omega))) (h.gbe.c h.nb6 (Nat.le_refl _) (e3 12 (by omega) (by omega)) (fun k k1 k2 => o k (by omega) (by omega) (by omega))) trivial
  have v41 : N' (41 + y) = nI t := by rw [hN _ (by omega), prz, updN (by omega), updS]
  have v49 : N' (49 + y) = nI w := by rw [hN _ (by omega), prz, updS]
  refine ⟨fun z hz => ?_, fun z hz => ?_, fun z hz => ?_⟩
  · rw [e1, e2]
    by_cases e : z = y
    · subst e
      rw [v41, v49, updS, updS]
      exact ⟨rfl, rfl⟩
    · rw [updN e, updN e, o _ (by omega) (by omega) (by omega), o _ (by omega) (by omega) (by omega)]
      exact h.ye z hz
  · by_cases e : z = y
    · subst e
      exact Or.inr ⟨t, ht, v41⟩
    · rw [o _ (by omega) (by omega) (by omega)]
      exact h.so z hz
  · by_cases e : z = y
    · subst e
      exact ⟨w, hw, v49⟩
    · rw [o _ (by omega) (by omega) (by omega)]
      exact h.wo z hz
theorem sI3 {β : Type} {σ : Sta} {v : Int32} {K : Sta → Option β} : sI σ 83 209 (3 : Int32) v K = K (up1 σ 83 (upd (σ.1 83) 3 v)) := sI_n 3 (by decide)
theorem sI4 {β : Type} {σ : Sta} {v : Int32} {K : Sta → Option β} : sI σ 83 209 (4 : Int32) v K = K (up1 σ 83 (upd (σ.1 83) 4 v)) := sI_n 4 (by decide)
theorem sI1 {β : Type} {σ : Sta} {v : Int32} {K : Sta → Option β} : sI σ 83 209 (1 : Int32) v K = K (up1 σ 83 (upd (σ.1 83) 1 v)) := sI_n 1 (by decide)
theorem sI2 {β : Type} {σ : Sta} {v : Int32} {K : Sta → Option β} : sI σ 83 209 (2 : Int32) v K = K (up1 σ 83 (upd (σ.1 83) 2 v)) := sI_n 2 (by decide)
theorem sI0 {β : Type} {σ : Sta} {k n : Nat} {v : Int32} {K : Sta → Option β} (h : 0 < n) (hn : n < 2 ^ 31) : sI σ k n (0 : Int32) v K = K (up1 σ k (upd (σ.1 k) 0 v)) := sI_n 0 h hn

theorem P_prize {σ : Sta} (h : Inv σ) (x1 x2 x3 : Int32) : Pair (X11_prize x1 x2 x3) (X12_prize x1 x2 x3) σ := by
  obtain ⟨n, yr, u, nn, nb, hv⟩ := h.1
  have b0 : (badC σ).1 83 0 = nI n := by rw [badC_83]; exact hv.N0
  have b4 : (badC σ).1 83 4 = nI yr := by rw [badC_83]; exact hv.N4
  by_cases e0 : inB x1 0 7 = true
  rotate_left
  · rw [Bool.not_eq_true] at e0; exact pair_bad (a := -2) h (by simp only [X11_prize, e0, cA_e, bi_if, within_b, C_isArt_b, C_bad, Bool.false_eq_true, ite_false, ite_true, if_true, if_false]) (by simp only [X12_prize, e0, cA_e, bi_if, M_isYear_b, M_isSort_b, in_01, in_02, in_05, in_06, in_07, in_09, in_30, in_60, in_99, in_12, M_bad, Bool.false_eq_true, ite_false, ite_true, if_true, if_false])
  by_cases e1 : inB x2 0 2 = true
  rotate_left
  · rw [Bool.not_eq_true] at e1; exact pair_bad (a := -2) h (by simp only [X11_prize, e0, e1, cA_e, bi_if, within_b, C_isArt_b, C_bad, Bool.false_eq_true, ite_false, ite_true, if_true, if_false]) (by simp only [X12_prize, e0, e1, cA_e, bi_if, M_isYear_b, M_isSort_b, in_01, in_02, in_05, in_06, in_07, in_09, in_30, in_60, in_99, in_12, M_bad, Bool.false_eq_true, ite_false, ite_true, if_true, if_false])
  by_cases e2 : inB x3 1 30 = true
  rotate_left
  · rw [Bool.not_eq_true] at e2; exact pair_bad (a := -2) h (by simp only [X11_prize, e0, e1, e2, cA_e, bi_if, within_b, C_isArt_b, C_bad, Bool.false_eq_true, ite_false, ite_true, if_true, if_false]) (by simp only [X12_prize, e0, e1, e2, cA_e, bi_if, M_isYear_b, M_isSort_b, in_01, in_02, in_05, in_06, in_07, in_09, in_30, in_60, in_99, in_12, M_bad, Bool.false_eq_true, ite_false, ite_true, if_true, if_false])
  obtain ⟨j0, hj0, rfl⟩ := inB_n (m := 7) (by decide) e0
  obtain ⟨j1, hj1, rfl⟩ := inB_n (m := 2) (by decide) e1
  obtain ⟨j2, hj2a, hj2, rfl⟩ := inB_30 e2
  have hj0' : j0 < 8 := by omega
  refine ⟨σ.1 3 j0, up1 (up1 (up1 σ 2 (upd (σ.1 2) j0 (nI j1))) 3 (upd (σ.1 3) j0 (nI j2))) 1 (upd (σ.1 1) 12 0), up1 (up1 (up1 (up1 σ 2 (upd (σ.1 2) j0 (nI j1))) 3 (upd (σ.1 3) j0 (nI j2))) 1 (upd (σ.1 1) 12 0)) 83 (upd (upd (upd (σ.1 83) (41 + j0) (nI j1)) (49 + j0) (nI j2)) 3 0), ?_, ?_, ?_⟩
  rotate_left
  · simp only [X12_prize, e0, e1, e2, cA_e, bi_if, M_isYear_b, M_isSort_b, in_01, in_02, in_05, in_06, in_07, in_09, in_30, in_60, in_99, in_12, M_bad, Bool.false_eq_true, ite_false, ite_true, if_true, if_false]
    rw [a49, aI_n (49 + j0) (by omega), a41, sI_n (41 + j0) (by omega), sI_n (49 + j0) (by omega), sI3, up1_s, up1_u, up1_s, up1_u, up1_n (show 83 ≠ 1 by decide), up1_n (show 83 ≠ 3 by decide), up1_n (show 83 ≠ 2 by decide), ← (hv.ye j0 hj0').2]
  · refine h.n (((FrN.up (by unfold isN; omega)).tr (FrN.up (by unfold isN; omega))).tr ((FrN.up (by unfold isN; omega)).tr (FrN.up (by unfold isN; omega)))) ⟨n, yr, 0, nn, nb, ?_⟩
    rw [up1_s]
    refine hv.prize (y := j0) (t := j1) (w := j2) (by omega) (by omega) (by omega) ?_ ?_ ?_ ?_ ?_ ?_
    · rw [up1_n (show 1 ≠ 83 by decide), up1_s, updN (by decide), updN (by decide), updS]; exact ⟨rfl, rfl, rfl⟩
    · rw [up1_n (show 1 + 1 ≠ 83 by decide), up1_n (show 1 + 1 ≠ 1 by decide), up1_n (show 1 + 1 ≠ 3 by decide)]; exact up1_s _ _ _
    · rw [up1_n (show 1 + 2 ≠ 83 by decide), up1_n (show 1 + 2 ≠ 1 by decide)]; exact up1_s _ _ _
    · intro i i1 i2
      rw [up1_n (by omega), up1_n (by omega), up1_n (by omega), up1_n (by omega)]
    · rw [updS]
    · intro k hk
      rw [updN hk]; rfl
  · simp only [X11_prize, e0, e1, e2, cA_e, bi_if, within_b, C_isArt_b, C_bad, Bool.false_eq_true, ite_false, ite_true, if_true, if_false]
    rw [aI_n j0 (by omega), cA_of (C_setPrize 1 (by omega) _ _ σ), pI_e, up1_n (show 1 ≠ 1 + 2 by decide), up1_n (show 1 ≠ 1 + 1 by decide)]

-- one comes
theorem m3a (p : Nat) : nI p * 3 = nI (3 * p) := by
  have h1 : (3 : Int32) = nI 3 := rfl
  rw [h1, pk_mul, Nat.mul_comm]
theorem m3b (p : Nat) : nI p * 3 + 1 = nI (3 * p + 1) := m3 p 1
theorem m3c (p : Nat) : nI p * 3 + 2 = nI (3 * p + 2) := m3 p 2
theorem m23a (p : Nat) : (23 : Int32) + (3 : Int32) * nI p = nI (23 + 3 * p) := by
  have h1 : (3 : Int32) = nI 3 := rfl
  have h2 : (23 : Int32) = nI 23 := rfl
  rw [h1, h2, pk_mul, nI_add]
def add1 (r n : Nat) (x1 x2 x3 x4 : Int32) (σ : Sta) : Sta := up1 (up1 (up1 (up1 (up1 σ (r + 3) (upd (σ.1 (r + 3)) n x1)) (r + 4) (upd (upd (upd (σ.1 (r + 4)) (3 * n) x2) (3 * n + 1) x3) (3 * n + 2) x4)) (r + 5) (upd (σ.1 (r + 5)) n 0)) (r + 6) (upd (σ.1 (r + 6)) n 0)) r (upd (σ.1 r) 10 (nI (n + 1)))
theorem C_addOne {r n : Nat} {σ : Sta} (h : σ.1 r 10 = nI n) (hn : n < 6) (x1 x2 x3 x4 : Int32) : X10_addOne r x1 x2 x3 x4 σ = some ((), add1 r n x1 x2 x3 x4 σ) := by
  have q3 : r ≠ r + 3 := by omega
  have q4 : r ≠ r + 4 := by omega
  have q5 : r ≠ r + 5 := by omega
  have q6 : r ≠ r + 6 := by omega
  have p1 : r + 4 ≠ r + 3 := by omega
  have p2 : r + 5 ≠ r + 3 := by omega
  have p3 : r + 5 ≠ r + 4 := by omega
  have p4 : r + 6 ≠ r + 3 := by omega
  have p5 : r + 6 ≠ r + 4 := by omega
  have p6 : r + 6 ≠ r + 5 := by omega
  rw [X10_addOne, fI_e, h, if_pos (lt6 hn), fI_e, h, sI_n n hn, fI_e, up1_n q3, h, m3a, sI_n (3 * n) (by omega), up1_n p1, fI_e, up1_n q4, up1_n q3, h, m3b, sI_n (3 * n + 1) (by omega), up1_s, up1_u, fI_e, up1_n q4, up1_n q3, h, m3c, sI_n (3 * n + 2) (by omega), up1_s, up1_u, fI_e, up1_n q4, up1_n q3, h, sI_n n hn, up1_n p3, up1_n p2, fI_e, up1_n q5, up1_n q4, up1_n q3, h, sI_n n hn, up1_n p6, up1_n p5, up1_n p4, fI_e, up1_n q6, up1_n q5, up1_n q4, up1_n q3, h, pI_e, up1_n q6, up1_n q5, up1_n q4, up1_n q3, nI_1]
  rfl
def lone (N : Nat → Int32) (n : Nat) (x1 x2 x3 x4 : Int32) : Nat → Int32 := upd (upd (upd (upd (upd (upd (upd N (17 + n) x1) (23 + 3 * n) x2) (23 + (3 * n + 1)) x3) (23 + (3 * n + 2)) x4) (5 + n) 0) (11 + n) 0) 0 (nI (n + 1))
theorem M_layOne {nav kav n : Nat} {σ : Sta} (h : σ.1 kav 0 = nI n) (hn : n < 6) (hv : 105 ≤ nav) (hv2 : nav < 2 ^ 31) (x1 x2 x3 x4 : Int32) : X12_layOne nav kav x1 x2 x3 x4 σ = some ((), up1 σ kav (lone (σ.1 kav) n x1 x2 x3 x4)) := by
  rw [X12_layOne, aI0 (by omega) hv2, h, a17, sI_n (17 + n) (by omega) hv2, m23a, sI_n (23 + 3 * n) (by omega) hv2, up1_s, up1_u, nI_1, sI_n (23 + 3 * n + 1) (by omega) hv2, up1_s, up1_u, show (2 : Int32) = nI 2 from rfl, nI_add, sI_n (23 + 3 * n + 2) (by omega) hv2, up1_s, up1_u, a5, sI_n (5 + n) (by omega) hv2, up1_s, up1_u, a11, sI_n (11 + n) (by omega) hv2, up1_s, up1_u, aI0 (by omega) hv2, sI0 (by omega) hv2, up1_s, up1_u, updN (by omega), updN (by omega), updN (by omega), updN (by omega), updN (by omega), updN (by omega), h, nI_1]
  rfl
theorem lone_17 {N : Nat → Int32} {n p : Nat} {x1 x2 x3 x4 : Int32} (hn : n < 6) (hp : p < 6) : lone N n x1 x2 x3 x4 (17 + p) = if p = n then x1 else N (17 + p) := by
  unfold lone upd
  (repeat' split) <;> first | rfl | (exfalso; omega)
theorem lone_5 {N : Nat → Int32} {n p : Nat} {x1 x2 x3 x4 : Int32} (hn : n < 6) (hp : p < 6) : lone N n x1 x2 x3 x4 (5 + p) = if p = n then 0 else N (5 + p) := by
  unfold lone upd
  (repeat' split) <;> first | rfl | (exfalso; omega)
theorem lone_11 {N : Nat → Int32} {n p : Nat} {x1 x2 x3 x4 : Int32} (hn : n < 6) (hp : p < 6) : lone N n x1 x2 x3 x4 (11 + p) = if p = n then 0 else N (11 + p) := by
  unfold lone upd
  (repeat' split) <;> first | rfl | (exfalso; omega)
theorem lone_23 {N : Nat → Int32} {n p t : Nat} {x1 x2 x3 x4 : Int32} (hn : n < 6) (hp : p < 6) (ht : t < 3) : lone N n x1 x2 x3 x4 (23 + (3 * p + t)) = if p = n then (if t = 0 then x2 else if t = 1 then x3 else x4) else N (23 + (3 * p + t)) := by
  unfold lone upd
  (repeat' split) <;> first | rfl | (exfalso; omega)
theorem lone_o {N : Nat → Int32} {n k : Nat} {x1 x2 x3 x4 : Int32} (hn : n < 6) (hk : k < 5 ∨ 41 ≤ k) (h0 : k ≠ 0) : lone N n x1 x2 x3 x4 k = N k := by
  unfold lone upd
  (repeat' split) <;> first | rfl | (exfalso; omega)
theorem add1_4 {f : Nat → Int32} {n p t : Nat} {x2 x3 x4 : Int32} (ht : t < 3) : upd (upd (upd f (3 * n) x2) (3 * n + 1) x3) (3 * n + 2) x4 (3 * p + t) = if p = n then (if t = 0 then x2 else if t = 1 then x3 else x4) else f (3 * p + t) := by
  unfold upd
  (repeat' split) <;> first | rfl | (exfalso; omega)
theorem VR.one {S S' : Nat → Nat → Int32} {r : Nat} {N N' : Nat → Int32} {n yr u nn nb : Nat} (h : VR S r N n yr u nn nb) {k a b c : Nat} (hn : n < 6) (hk : k < 6) (ha : a < 10) (hb : b < 10) (hc : c < 10) (e0 : S' r 10 = nI (n + 1) ∧ S' r 11 = S r 11 ∧ S' r 12 = 0) (e1 : S' (r + 1) = S (r + 1)) (e2 : S' (r + 2) = S (r + 2)) (e3 : S' (r + 3) = upd (S (r + 3)) n (nI k)) (e4 : S' (r + 4) = upd (upd (upd (S (r + 4)) (3 * n) (nI a)) (3 * n + 1) (nI b)) (3 * n + 2) (nI c)) (e5 : S' (r + 5) = upd (S (r + 5)) n 0) (e6 : S' (r + 6) = upd (S (r + 6)) n 0) (e7 : ∀ i, 7 ≤ i → i < 13 → S' (r + i) = S (r + i)) (hN3 : N' 3 = 0) (hN : ∀ j, j ≠ 3 → N' j = lone N n (nI k) (nI a) (nI b) (nI c) j) : VR S' r N' (n + 1) yr 0 nn nb := by
  have o : ∀ j, j ≠ 3 → j < 5 ∨ 41 ≤ j → j ≠ 0 → N' j = N j := fun j k1 k2 k3 => by rw [hN j k1, lone_o hn k2 k3]
  refine VR.mk ⟨by omega, h.y8, by omega, h.nn6, h.nb6⟩ ⟨e0.1, e0.2.1.trans h.s11, e0.2.2, by rw [e7 9 (by omega) (by omega)]; exact h.sn, by rw [e7 11 (by omega) (by omega)]; exact h.sb⟩ ⟨by rw [hN 0 (by omega)]; exact updS _ _ _, by rw [o 1 (by omega) (by omega) (by omega)]; exact h.N1, by rw [o 2 (by omega) (by omega) (by omega)]; exact h.N2, hN3, by rw [o 4 (by omega) (by omega) (by omega)]; exact h.N4⟩
    ?_ (h.gye.c e1 e2 (fun k k1 k2 => o k (by omega) (by omega) (by omega)))
    (h.gno.c h.nn6 (e7 10 (by omega) (by omega)) (fun k k1 k2 => o k (by omega) (by omega) (by omega))) (h.gbe.c h.nb6 (by omega) (e7 12 (by omega) (by omega)) (fun k k1 k2 => o k (by omega) (by omega) (by omega))) trivial
  have hm : ∀ t, t < 3 → ∃ x, x < 10 ∧ (if t = 0 then nI a else if t = 1 then nI b else nI c) = nI x := by
    intro t ht
    rcases (show t = 0 ∨ t = 1 ∨ t = 2 by omega) with rfl | rfl | rfl
    · exact ⟨a, ha, rfl⟩
    · exact ⟨b, hb, rfl⟩
    · exact ⟨c, hc, rfl⟩
  refine ⟨fun p hp => ?_, fun p hp => ?_, fun p hp t ht => ?_, fun p hp => ?_⟩
  · rw [e3, e4, e5, e6, hN _ (by omega), hN _ (by omega), hN _ (by omega), lone_17 hn (by omega), lone_5 hn (by omega), lone_11 hn (by omega)]
    refine ⟨?_, ?_, ?_, fun t ht => ?_⟩
    · by_cases e : p = n
      · rw [if_pos e, e, updS]
      · rw [if_neg e, updN e]; exact (h.pe p (by omega)).1
    · by_cases e : p = n
      · rw [if_pos e, e, updS]
      · rw [if_neg e, updN e]; exact (h.pe p (by omega)).2.1
    · by_cases e : p = n
      · rw [if_pos e, e, updS]
      · rw [if_neg e, updN e]; exact (h.pe p (by omega)).2.2.1
    · rw [hN _ (by omega), lone_23 hn (by omega) ht, add1_4 ht]
      by_cases e : p = n
      · rw [if_pos e, if_pos e]
      · rw [if_neg e, if_neg e]; exact (h.pe p (by omega)).2.2.2 t ht
  · rw [hN _ (by omega), lone_17 hn (by omega)]
    by_cases e : p = n
    · rw [if_pos e]; exact ⟨k, hk, rfl⟩
    · rw [if_neg e]; exact h.kd p (by omega)
  · rw [hN _ (by omega), lone_23 hn (by omega) ht]
    by_cases e : p = n
    · rw [if_pos e]; exact hm t ht
    · rw [if_neg e]; exact h.ar p (by omega) t ht
  · rw [hN _ (by omega), lone_5 hn (by omega)]
    by_cases e : p = n
    · rw [if_pos e]; exact ⟨0, Nat.two_pow_pos yr, rfl⟩
    · rw [if_neg e]; exact h.wi p (by omega)
theorem add1_at {r n : Nat} {x1 x2 x3 x4 : Int32} {σ : Sta} : (add1 r n x1 x2 x3 x4 σ).1 r = upd (σ.1 r) 10 (nI (n + 1)) ∧ (add1 r n x1 x2 x3 x4 σ).1 (r + 3) = upd (σ.1 (r + 3)) n x1 ∧ (add1 r n x1 x2 x3 x4 σ).1 (r + 4) = upd (upd (upd (σ.1 (r + 4)) (3 * n) x2) (3 * n + 1) x3) (3 * n + 2) x4 ∧ (add1 r n x1 x2 x3 x4 σ).1 (r + 5) = upd (σ.1 (r + 5)) n 0 ∧ (add1 r n x1 x2 x3 x4 σ).1 (r + 6) = upd (σ.1 (r + 6)) n 0 ∧ ∀ k, k ≠ r → k < r + 3 ∨ r + 6 < k → (add1 r n x1 x2 x3 x4 σ).1 k = σ.1 k := by
  unfold add1
  refine ⟨up1_s _ _ _, ?_, ?_, ?_, ?_, fun k k1 k2 => ?_⟩
  · rw [up1_n (by omega), up1_n (by omega), up1_n (by omega), up1_n (by omega), up1_s]
  · rw [up1_n (by omega), up1_n (by omega), up1_n (by omega), up1_s]
  · rw [up1_n (by omega), up1_n (by omega), up1_s]
  · rw [up1_n (by omega), up1_s]
  · rw [up1_n (by omega), up1_n (by omega), up1_n (by omega), up1_n (by omega), up1_n (by omega)]

theorem P_one {σ : Sta} (h : Inv σ) (x1 x2 x3 x4 : Int32) : Pair (X11_one x1 x2 x3 x4) (X12_one x1 x2 x3 x4) σ := by
  obtain ⟨n, yr, u, nn, nb, hv⟩ := h.1
  have b0 : (badC σ).1 83 0 = nI n := by rw [badC_83]; exact hv.N0
  have b4 : (badC σ).1 83 4 = nI yr := by rw [badC_83]; exact hv.N4
  by_cases e0 : inB x1 0 5 = true
  rotate_left
  · rw [Bool.not_eq_true] at e0; exact pair_bad (a := -2) h (by simp only [X11_one, e0, cA_e, bi_if, within_b, C_isArt_b, C_bad, Bool.false_eq_true, ite_false, ite_true, if_true, if_false]) (by simp only [X12_one, e0, cA_e, bi_if, M_isYear_b, M_isSort_b, in_01, in_02, in_05, in_06, in_07, in_09, in_30, in_60, in_99, in_12, M_bad, Bool.false_eq_true, ite_false, ite_true, if_true, if_false])
  by_cases e1 : inB x2 0 9 = true
  rotate_left
  · rw [Bool.not_eq_true] at e1; exact pair_bad (a := -2) h (by simp only [X11_one, e0, e1, cA_e, bi_if, within_b, C_isArt_b, C_bad, Bool.false_eq_true, ite_false, ite_true, if_true, if_false]) (by simp only [X12_one, e0, e1, cA_e, bi_if, M_isYear_b, M_isSort_b, in_01, in_02, in_05, in_06, in_07, in_09, in_30, in_60, in_99, in_12, M_bad, Bool.false_eq_true, ite_false, ite_true, if_true, if_false])
  by_cases e2 : inB x3 0 9 = true
  rotate_left
  · rw [Bool.not_eq_true] at e2; exact pair_bad (a := -2) h (by simp only [X11_one, e0, e1, e2, cA_e, bi_if, within_b, C_isArt_b, C_bad, Bool.false_eq_true, ite_false, ite_true, if_true, if_false]) (by simp only [X12_one, e0, e1, e2, cA_e, bi_if, M_isYear_b, M_isSort_b, in_01, in_02, in_05, in_06, in_07, in_09, in_30, in_60, in_99, in_12, M_bad, Bool.false_eq_true, ite_false, ite_true, if_true, if_false])
  by_cases e3 : inB x4 0 9 = true
  rotate_left
  · rw [Bool.not_eq_true] at e3; exact pair_bad (a := -2) h (by simp only [X11_one, e0, e1, e2, e3, cA_e, bi_if, within_b, C_isArt_b, C_bad, Bool.false_eq_true, ite_false, ite_true, if_true, if_false]) (by simp only [X12_one, e0, e1, e2, e3, cA_e, bi_if, M_isYear_b, M_isSort_b, in_01, in_02, in_05, in_06, in_07, in_09, in_30, in_60, in_99, in_12, M_bad, Bool.false_eq_true, ite_false, ite_true, if_true, if_false])
  obtain ⟨j0, hj0, rfl⟩ := inB_n (m := 5) (by decide) e0
  obtain ⟨j1, hj1, rfl⟩ := inB_n (m := 9) (by decide) e1
  obtain ⟨j2, hj2, rfl⟩ := inB_n (m := 9) (by decide) e2
  obtain ⟨j3, hj3, rfl⟩ := inB_n (m := 9) (by decide) e3
  have hn := hv.n6
  by_cases c6 : n = 6
  · subst c6
    refine pair_full h ?_ ?_
    · simp only [X11_one, e0, e1, e2, e3, cA_e, bi_if, within_b, C_isArt_b, C_bad, Bool.false_eq_true, ite_false, ite_true, if_true, if_false]
      rw [fI_e, hv.s10, if_neg (by decide), cA_of (C_full σ)]
    · have hq : (fullC σ).1 83 = σ.1 83 := up1_n (by decide)
      simp only [X12_one, e0, e1, e2, e3, cA_e, bi_if, M_isYear_b, M_isSort_b, in_01, in_02, in_05, in_06, in_07, in_09, in_30, in_60, in_99, in_12, M_bad, Bool.false_eq_true, ite_false, ite_true, if_true, if_false]
      rw [cA_of (M_many _), hq, hv.N0, if_pos (show nI 6 = (6 : Int32) from rfl), cA_of (M_full _)]
  have hn' : n < 6 := by omega
  obtain ⟨q0, q3, q4, q5, q6, qo⟩ := add1_at (r := 1) (n := n) (x1 := nI j0) (x2 := nI j1) (x3 := nI j2) (x4 := nI j3) (σ := σ)
  have hq2 : (add1 1 n (nI j0) (nI j1) (nI j2) (nI j3) σ).2 = σ.2 := rfl
  have hc : X11_one (nI j0) (nI j1) (nI j2) (nI j3) σ = some (nI n, up1 (add1 1 n (nI j0) (nI j1) (nI j2) (nI j3) σ) 1 (upd (upd (σ.1 1) 10 (nI (n + 1))) 12 0)) := by
    simp only [X11_one, e0, e1, e2, e3, cA_e, bi_if, within_b, C_isArt_b, C_bad, Bool.false_eq_true, ite_false, ite_true, if_true, if_false]
    rw [fI_e, hv.s10, if_pos (lt6 hn'), cA_of (C_addOne hv.s10 hn' _ _ _ _), pI_e, q0, fI_e, up1_s, updN (by decide), updS, nI_pred]
  generalize add1 1 n (nI j0) (nI j1) (nI j2) (nI j3) σ = τ at *
  have t83 : τ.1 83 = σ.1 83 := qo 83 (by omega) (by omega)
  have u83 : (up1 τ 1 (upd (upd (σ.1 1) 10 (nI (n + 1))) 12 0)).1 83 = σ.1 83 := by rw [up1_n (by decide)]; exact t83
  refine ⟨nI n, _, up1 (up1 τ 1 (upd (upd (σ.1 1) 10 (nI (n + 1))) 12 0)) 83 (upd (lone (σ.1 83) n (nI j0) (nI j1) (nI j2) (nI j3)) 3 0), hc, ?_, ?_⟩
  · simp only [X12_one, e0, e1, e2, e3, cA_e, bi_if, M_isYear_b, M_isSort_b, in_01, in_02, in_05, in_06, in_07, in_09, in_30, in_60, in_99, in_12, M_bad, Bool.false_eq_true, ite_false, ite_true, if_true, if_false]
    rw [cA_of (M_many _), u83, hv.N0, if_neg (show ¬ nI n = (6 : Int32) from fun e => c6 ((nI_eq (b := 6) (by omega) (by omega)).mp e)), cA_of (M_layOne (by rw [u83]; exact hv.N0) hn' (by decide) (by decide) _ _ _ _), u83, sI3, up1_s, up1_u, cA_of (M_many _), up1_s, updN (by decide), show lone (σ.1 83) n (nI j0) (nI j1) (nI j2) (nI j3) 0 = nI (n + 1) from updS _ _ _, nI_pred]
  · refine h.n (FrN.tr (b := τ) ⟨fun k hk => qo k (by unfold isN at hk; omega) (by unfold isN at hk; omega), hq2⟩ ((FrN.up (by unfold isN; omega)).tr (FrN.up (by unfold isN; omega)))) ⟨n + 1, yr, 0, nn, nb, ?_⟩
    rw [up1_s]
    refine hv.one (k := j0) (a := j1) (b := j2) (c := j3) hn' (by omega) (by omega) (by omega) (by omega) ?_ ?_ ?_ ?_ ?_ ?_ ?_ ?_ ?_ ?_
    · rw [up1_n (show 1 ≠ 83 by decide), up1_s, updN (by decide), updS, updN (by decide), updN (by decide), updS]; exact ⟨rfl, rfl, rfl⟩
    · rw [up1_n (by decide), up1_n (by decide)]; exact qo _ (by omega) (by omega)
    · rw [up1_n (by decide), up1_n (by decide)]; exact qo _ (by omega) (by omega)
    · rw [up1_n (by decide), up1_n (by decide)]; exact q3
    · rw [up1_n (by decide), up1_n (by decide)]; exact q4
    · rw [up1_n (by decide), up1_n (by decide)]; exact q5
    · rw [up1_n (by decide), up1_n (by decide)]; exact q6
    · intro i i1 i2
      rw [up1_n (by omega), up1_n (by omega)]; exact qo _ (by omega) (by omega)
    · rw [updS]
    · intro k hk
      rw [updN hk]

-- the text
theorem P_clear {σ : Sta} (h : Inv σ) : Pair X11_clear X12_clear σ := by
  obtain ⟨L, h1, h2, h3, h4⟩ := h.2.2.2.2
  refine ⟨nI L, up1 σ 80 (upd (σ.1 80) 1 0), up1 (up1 σ 80 (upd (σ.1 80) 1 0)) 82 (upd (σ.1 82) 14 0), ?_, ?_, ?_⟩
  · rw [X11_clear, fI_e, h2, pI_e]
  · rw [X12_clear, fI_e, up1_n (show 82 ≠ 80 by decide), h3, pI_e, up1_n (show 82 ≠ 80 by decide)]
  · refine h.x ((FrX.up (by unfold isX; omega)).tr (FrX.up (by unfold isX; omega))) ⟨0, by omega, ?_, ?_, fun j hj => by omega⟩
    · rw [up1_n (by decide), up1_s, updS]; rfl
    · rw [up1_s, updS]; rfl
theorem lt150 {i : Nat} (h : i < 150) : nI i < (150 : Int32) := nI_lt (b := 150) h (by decide)

theorem P_type {σ : Sta} (h : Inv σ) (x1 : Int32) : Pair (X11_type x1) (X12_type x1) σ := by
  obtain ⟨n, yr, u, nn, nb, hv⟩ := h.1
  have b0 : (badC σ).1 83 0 = nI n := by rw [badC_83]; exact hv.N0
  have b4 : (badC σ).1 83 4 = nI yr := by rw [badC_83]; exact hv.N4
  by_cases e0 : inB x1 0 127 = true
  rotate_left
  · rw [Bool.not_eq_true] at e0; exact pair_bad (a := -2) h (by simp only [X11_type, e0, cA_e, bi_if, within_b, C_isArt_b, C_bad, Bool.false_eq_true, ite_false, ite_true, if_true, if_false]) (by simp only [X12_type, e0, cA_e, bi_if, M_isYear_b, M_isSort_b, in_01, in_02, in_05, in_06, in_07, in_09, in_30, in_60, in_99, in_12, M_bad, Bool.false_eq_true, ite_false, ite_true, if_true, if_false])
  obtain ⟨j0, hj0, rfl⟩ := inB_n (m := 127) (by decide) e0
  obtain ⟨L, h1, h2, h3, h4⟩ := h.2.2.2.2
  by_cases c6 : L = 150
  · subst c6
    refine pair_full h ?_ ?_
    · simp only [X11_type, e0, cA_e, bi_if, within_b, C_isArt_b, C_bad, Bool.false_eq_true, ite_false, ite_true, if_true, if_false]
      rw [fI_e, h2, if_neg (by decide), cA_of (C_full σ)]
    · have hq : (fullC σ).1 82 = σ.1 82 := up1_n (by decide)
      simp only [X12_type, e0, cA_e, bi_if, M_isYear_b, M_isSort_b, in_01, in_02, in_05, in_06, in_07, in_09, in_30, in_60, in_99, in_12, M_bad, Bool.false_eq_true, ite_false, ite_true, if_true, if_false]
      rw [fI_e, hq, h3, if_pos (show nI 150 = (150 : Int32) from rfl), cA_of (M_full _)]
  have hL : L < 150 := by omega
  refine ⟨nI (L + 1), up1 (up1 σ 81 (upd (σ.1 81) L (nI j0))) 80 (upd (σ.1 80) 1 (nI (L + 1))), up1 (up1 (up1 (up1 σ 81 (upd (σ.1 81) L (nI j0))) 80 (upd (σ.1 80) 1 (nI (L + 1)))) 94 (upd (σ.1 94) L (nI j0))) 82 (upd (σ.1 82) 14 (nI (L + 1))), ?_, ?_, ?_⟩
  · simp only [X11_type, e0, cA_e, bi_if, within_b, C_isArt_b, C_bad, Bool.false_eq_true, ite_false, ite_true, if_true, if_false]
    have ha : X8_append (nI j0) σ = some ((), up1 (up1 σ 81 (upd (σ.1 81) L (nI j0))) 80 (upd (σ.1 80) 1 (nI (L + 1)))) := by
      rw [X8_append, fI_e, h2, if_pos (lt150 hL), fI_e, h2, sI_n L hL, fI_e, up1_n (show 80 ≠ 81 by decide), h2, pI_e, up1_n (show 80 ≠ 81 by decide), nI_1]
    rw [fI_e, h2, if_pos (lt150 hL), cA_of ha, fI_e, up1_s, updS]
  · simp only [X12_type, e0, cA_e, bi_if, M_isYear_b, M_isSort_b, in_01, in_02, in_05, in_06, in_07, in_09, in_30, in_60, in_99, in_12, M_bad, Bool.false_eq_true, ite_false, ite_true, if_true, if_false]
    rw [fI_e, up1_n (show 82 ≠ 80 by decide), up1_n (show 82 ≠ 81 by decide), h3, if_neg (show ¬ nI L = (150 : Int32) from fun e => c6 ((nI_eq (b := 150) (by omega) (by omega)).mp e)), fI_e, up1_n (show 82 ≠ 80 by decide), up1_n (show 82 ≠ 81 by decide), h3, sI_n L hL, fI_e, up1_n (show 82 ≠ 94 by decide), up1_n (show 82 ≠ 80 by decide), up1_n (show 82 ≠ 81 by decide), h3, pI_e, up1_n (show 82 ≠ 94 by decide), up1_n (show 82 ≠ 80 by decide), up1_n (show 82 ≠ 81 by decide), fI_e, up1_s, updS, nI_1, up1_n (show 94 ≠ 80 by decide), up1_n (show 94 ≠ 81 by decide)]
  · refine h.x (((FrX.up (by unfold isX; omega)).tr (FrX.up (by unfold isX; omega))).tr ((FrX.up (by unfold isX; omega)).tr (FrX.up (by unfold isX; omega)))) ⟨L + 1, by omega, ?_, ?_, fun j hj => ?_⟩
    · rw [up1_n (by decide), up1_n (by decide), up1_s, updS]
    · rw [up1_s, updS]
    · rw [up1_n (show 81 ≠ 82 by decide), up1_n (show 81 ≠ 94 by decide), up1_n (show 81 ≠ 80 by decide), up1_s, up1_n (show 94 ≠ 82 by decide), up1_s]
      by_cases e : j = L
      · rw [e, updS, updS]
      · rw [updN e, updN e]; exact h4 j (by omega)

-- rows of notes and beatings
theorem ok_if {β : Type} {b : Bool} {x y : β} (h : b = true) : (if bi b = 0 then x else y) = y := by rw [bi_if, if_pos h]
def row4 (f : Nat → Int32) (b : Nat) (x1 x2 x3 x4 : Int32) : Nat → Int32 := upd (upd (upd (upd f b x1) (b + 1) x2) (b + 2) x3) (b + 3) x4
theorem row4_sh {f g : Nat → Int32} {b c j : Nat} {x1 x2 x3 x4 : Int32} (h : j < b → f j = g (c + j)) (hj : j < b + 4) : row4 f b x1 x2 x3 x4 j = row4 g (c + b) x1 x2 x3 x4 (c + j) := by
  unfold row4 upd
  (repeat' split) <;> first | rfl | (exfalso; omega) | (exact h (by omega))
theorem row4_o {f : Nat → Int32} {b j : Nat} {x1 x2 x3 x4 : Int32} (h : j < b ∨ b + 4 ≤ j) : row4 f b x1 x2 x3 x4 j = f j := by
  unfold row4 upd
  (repeat' split) <;> first | rfl | (exfalso; omega)
theorem row4_in (f : Nat → Int32) (b : Nat) (x1 x2 x3 x4 : Int32) : row4 f b x1 x2 x3 x4 b = x1 ∧ row4 f b x1 x2 x3 x4 (b + 1) = x2 ∧ row4 f b x1 x2 x3 x4 (b + 2) = x3 ∧ row4 f b x1 x2 x3 x4 (b + 3) = x4 := by
  unfold row4
  refine ⟨?_, ?_, ?_, ?_⟩
  · rw [updN (by omega), updN (by omega), updN (by omega), updS]
  · rw [updN (by omega), updN (by omega), updS]
  · rw [updN (by omega), updS]
  · rw [updS]
theorem m4a (m : Nat) : nI m * 4 = nI (4 * m) := by
  have h : (4 : Int32) = nI 4 := rfl
  rw [h, pk_mul, Nat.mul_comm]
theorem m4l (m : Nat) : (4 : Int32) * nI m = nI (4 * m) := by
  have h : (4 : Int32) = nI 4 := rfl
  rw [h, pk_mul]
theorem nI_p2 (a : Nat) : nI a + 2 = nI (a + 2) := nI_add a 2
theorem nI_p3 (a : Nat) : nI a + 3 = nI (a + 3) := nI_add a 3
theorem a57 (p : Nat) : (57 : Int32) + nI p = nI (57 + p) := nI_add 57 p
theorem a81 (p : Nat) : (81 : Int32) + nI p = nI (81 + p) := nI_add 81 p
theorem C_add {r m : Nat} {σ : Sta} (h : σ.1 r 1 = nI m) (hm : m < 6) (x1 x2 x3 x4 : Int32) : X9_add r x1 x2 x3 x4 σ = some ((), up1 (up1 σ (r + 1) (row4 (σ.1 (r + 1)) (4 * m) x1 x2 x3 x4)) r (upd (σ.1 r) 1 (nI (m + 1)))) := by
  have q : r ≠ r + 1 := by omega
  rw [X9_add, fI_e, h, if_pos (lt6 hm), fI_e, h, m4a, sI_n (4 * m) (by omega), nI_1, sI_n (4 * m + 1) (by omega), up1_s, up1_u, nI_p2, sI_n (4 * m + 2) (by omega), up1_s, up1_u, nI_p3, sI_n (4 * m + 3) (by omega), up1_s, up1_u, fI_e, up1_n q, h, pI_e, up1_n q, nI_1]
  rfl
theorem VR.note {S S' : Nat → Nat → Int32} {r : Nat} {N N' : Nat → Int32} {n yr u nn nb : Nat} (h : VR S r N n yr u nn nb) (hn : nn < 6) {x1 x2 x3 x4 : Int32} (e9 : S' (r + 9) 1 = nI (nn + 1)) (e10 : S' (r + 10) = row4 (S (r + 10)) (4 * nn) x1 x2 x3 x4) (eo : ∀ i, i < 13 → i ≠ 9 → i ≠ 10 → S' (r + i) = S (r + i)) (hN : ∀ j, N' j = upd (row4 N (57 + 4 * nn) x1 x2 x3 x4) 1 (nI (nn + 1)) j) : VR S' r N' n yr u (nn + 1) nb := by
  have o : ∀ j, j ≠ 1 → j < 57 ∨ 81 ≤ j → N' j = N j := fun j k1 k2 => by rw [hN j, updN k1, row4_o (by omega)]
  have e0 : S' r = S r := eo 0 (by omega) (by omega) (by omega)
  have hn6 := h.n6
  refine VR.mk ⟨h.n6, h.y8, h.uy, by omega, h.nb6⟩ ⟨by rw [e0]; exact h.s10, by rw [e0]; exact h.s11, by rw [e0]; exact h.s12, e9, by rw [eo 11 (by omega) (by omega) (by omega)]; exact h.sb⟩ ⟨by rw [o 0 (by omega) (by omega)]; exact h.N0, by rw [hN 1, updS], by rw [o 2 (by omega) (by omega)]; exact h.N2, by rw [o 3 (by omega) (by omega)]; exact h.N3, by rw [o 4 (by omega) (by omega)]; exact h.N4⟩
    (h.gpe.c h.n6 (eo 3 (by omega) (by omega) (by omega)) (eo 4 (by omega) (by omega) (by omega)) (eo 5 (by omega) (by omega) (by omega)) (eo 6 (by omega) (by omega) (by omega)) (fun k k1 k2 => o k (by omega) (by omega)))
    (h.gye.c (eo 1 (by omega) (by omega) (by omega)) (eo 2 (by omega) (by omega) (by omega)) (fun k k1 k2 => o k (by omega) (by omega))) ?_ (h.gbe.c h.nb6 (Nat.le_refl _) (eo 12 (by omega) (by omega) (by omega)) (fun k k1 k2 => o k (by omega) (by omega))) ?_
  · intro j hj
    rw [e10, hN, updN (by omega)]
    exact row4_sh (fun hj2 => h.no j hj2) (by omega)
  · rw [eo 7 (by omega) (by omega) (by omega), eo 8 (by omega) (by omega) (by omega)]
    exact Hist_c hn6 u yr 4 4 h.hi (fun k k1 k2 => o k (by omega) (by omega)) (fun i hi => o _ (by omega) (by omega)) (fun y hy => ⟨rfl, rfl⟩)
theorem VR.beat {S S' : Nat → Nat → Int32} {r : Nat} {N N' : Nat → Int32} {n yr u nn nb : Nat} (h : VR S r N n yr u nn nb) (hn : nb < 6) {i1 i2 i3 i4 : Nat} (h1 : i1 < n) (h2 : i2 < n) (h3 : i3 < 3) (h4 : i4 < 8) (e9 : S' (r + 11) 1 = nI (nb + 1)) (e10 : S' (r + 12) = row4 (S (r + 12)) (4 * nb) (nI i1) (nI i2) (nI i3) (nI i4)) (eo : ∀ i, i < 13 → i ≠ 11 → i ≠ 12 → S' (r + i) = S (r + i)) (hN : ∀ j, N' j = upd (row4 N (81 + 4 * nb) (nI i1) (nI i2) (nI i3) (nI i4)) 2 (nI (nb + 1)) j) : VR S' r N' n yr u nn (nb + 1) := by
  have o : ∀ j, j ≠ 2 → j < 81 ∨ 105 ≤ j → N' j = N j := fun j k1 k2 => by rw [hN j, updN k1, row4_o (by omega)]
  have e0 : S' r = S r := eo 0 (by omega) (by omega) (by omega)
  have hn6 := h.n6
  refine VR.mk ⟨h.n6, h.y8, h.uy, h.nn6, by omega⟩ ⟨by rw [e0]; exact h.s10, by rw [e0]; exact h.s11, by rw [e0]; exact h.s12, by rw [eo 9 (by omega) (by omega) (by omega)]; exact h.sn, e9⟩ ⟨by rw [o 0 (by omega) (by omega)]; exact h.N0, by rw [o 1 (by omega) (by omega)]; exact h.N1, by rw [hN 2, updS], by rw [o 3 (by omega) (by omega)]; exact h.N3, by rw [o 4 (by omega) (by omega)]; exact h.N4⟩
    (h.gpe.c h.n6 (eo 3 (by omega) (by omega) (by omega)) (eo 4 (by omega) (by omega) (by omega)) (eo 5 (by omega) (by omega) (by omega)) (eo 6 (by omega) (by omega) (by omega)) (fun k k1 k2 => o k (by omega) (by omega)))
    (h.gye.c (eo 1 (by omega) (by omega) (by omega)) (eo 2 (by omega) (by omega) (by omega)) (fun k k1 k2 => o k (by omega) (by omega))) (h.gno.c h.nn6 (eo 10 (by omega) (by omega) (by omega)) (fun k k1 k2 => o k (by omega) (by omega))) ⟨?_, ?_⟩ ?_
  · intro j hj
    rw [e10, hN, updN (by omega)]
    exact row4_sh (fun hj2 => h.be j hj2) (by omega)
  · intro k hk
    rw [hN, hN, hN, hN, updN (by omega), updN (by omega), updN (by omega), updN (by omega)]
    by_cases e : k = nb
    · subst e
      obtain ⟨r1, r2, r3, r4⟩ := row4_in N (81 + 4 * k) (nI i1) (nI i2) (nI i3) (nI i4)
      exact ⟨i1, i2, i3, i4, h1, h2, h3, h4, r1, r2, r3, r4⟩
    · rw [row4_o (by omega), row4_o (by omega), row4_o (by omega), row4_o (by omega)]
      exact h.bb k (by omega)
  · rw [eo 7 (by omega) (by omega) (by omega), eo 8 (by omega) (by omega) (by omega)]
    exact Hist_c hn6 u yr 4 4 h.hi (fun k k1 k2 => o k (by omega) (by omega)) (fun i hi => o _ (by omega) (by omega)) (fun y hy => ⟨rfl, rfl⟩)

theorem P_note {σ : Sta} (h : Inv σ) (x1 x2 x3 x4 : Int32) : Pair (X11_note x1 x2 x3 x4) (X12_note x1 x2 x3 x4) σ := by
  obtain ⟨n, yr, u, nn, nb, hv⟩ := h.1
  have b0 : (badC σ).1 83 0 = nI n := by rw [badC_83]; exact hv.N0
  have b4 : (badC σ).1 83 4 = nI yr := by rw [badC_83]; exact hv.N4
  by_cases e0 : inB x1 0 (nI n - 1) = true
  rotate_left
  · rw [Bool.not_eq_true] at e0; exact pair_bad (a := -2) h (by simp only [X11_note, C_isOne_b hv.s10, e0, cA_e, bi_if, within_b, C_isArt_b, C_bad, Bool.false_eq_true, ite_false, ite_true, if_true, if_false]) (by simp only [X12_note, M_isOne_b b0, e0, cA_e, bi_if, M_isYear_b, M_isSort_b, in_01, in_02, in_05, in_06, in_07, in_09, in_30, in_60, in_99, in_12, M_bad, Bool.false_eq_true, ite_false, ite_true, if_true, if_false])
  by_cases e1 : inB x2 1 30 = true
  rotate_left
  · rw [Bool.not_eq_true] at e1; exact pair_bad (a := -2) h (by simp only [X11_note, C_isOne_b hv.s10, e0, e1, cA_e, bi_if, within_b, C_isArt_b, C_bad, Bool.false_eq_true, ite_false, ite_true, if_true, if_false]) (by simp only [X12_note, M_isOne_b b0, e0, e1, cA_e, bi_if, M_isYear_b, M_isSort_b, in_01, in_02, in_05, in_06, in_07, in_09, in_30, in_60, in_99, in_12, M_bad, Bool.false_eq_true, ite_false, ite_true, if_true, if_false])
  by_cases e2 : inB x3 0 7 = true
  rotate_left
  · rw [Bool.not_eq_true] at e2; exact pair_bad (a := -2) h (by simp only [X11_note, C_isOne_b hv.s10, e0, e1, e2, cA_e, bi_if, within_b, C_isArt_b, C_bad, Bool.false_eq_true, ite_false, ite_true, if_true, if_false]) (by simp only [X12_note, M_isOne_b b0, e0, e1, e2, cA_e, bi_if, M_isYear_b, M_isSort_b, in_01, in_02, in_05, in_06, in_07, in_09, in_30, in_60, in_99, in_12, M_bad, Bool.false_eq_true, ite_false, ite_true, if_true, if_false])
  by_cases e3 : inB x4 0 1 = true
  rotate_left
  · rw [Bool.not_eq_true] at e3; exact pair_bad (a := -2) h (by simp only [X11_note, C_isOne_b hv.s10, e0, e1, e2, e3, cA_e, bi_if, within_b, C_isArt_b, C_bad, Bool.false_eq_true, ite_false, ite_true, if_true, if_false]) (by simp only [X12_note, M_isOne_b b0, e0, e1, e2, e3, cA_e, bi_if, M_isYear_b, M_isSort_b, in_01, in_02, in_05, in_06, in_07, in_09, in_30, in_60, in_99, in_12, M_bad, Bool.false_eq_true, ite_false, ite_true, if_true, if_false])
  obtain ⟨j0, hj0, rfl⟩ := inB_1 hv.n6 e0
  obtain ⟨j1, hj1a, hj1, rfl⟩ := inB_30 e1
  obtain ⟨j2, hj2, rfl⟩ := inB_n (m := 7) (by decide) e2
  obtain ⟨j3, hj3, rfl⟩ := inB_n (m := 1) (by decide) e3
  have hn := hv.nn6
  by_cases c6 : nn = 6
  · subst c6
    refine pair_full h ?_ ?_
    · simp only [X11_note, C_isOne_b hv.s10, e0, e1, e2, e3, cA_e, bi_if, within_b, C_isArt_b, C_bad, Bool.false_eq_true, ite_false, ite_true, if_true, if_false]
      rw [fI_e, hv.sn, if_neg (by decide), cA_of (C_full σ)]
    · have hq : (fullC σ).1 83 = σ.1 83 := up1_n (by decide)
      have t0 : (fullC σ).1 83 0 = nI n := by rw [hq]; exact hv.N0
      generalize fullC σ = ρ at hq t0 ⊢
      rw [X12_note, M_isOne_b t0, cA_e, ok_if e0, in_30, cA_e, ok_if e1, in_07, cA_e, ok_if e2, in_01, cA_e, ok_if e3, aI1, hq, hv.N1, if_pos (show nI 6 = (6 : Int32) from rfl), cA_of (M_full _)]
  have hn' : nn < 6 := by omega
  have hc : X11_note (nI j0) (nI j1) (nI j2) (nI j3) σ = some (nI (nn + 1), up1 (up1 σ 11 (row4 (σ.1 11) (4 * nn) (nI j0) (nI j1) (nI j2) (nI j3))) 10 (upd (σ.1 10) 1 (nI (nn + 1)))) := by
    simp only [X11_note, C_isOne_b hv.s10, e0, e1, e2, e3, cA_e, bi_if, within_b, C_isArt_b, C_bad, Bool.false_eq_true, ite_false, ite_true, if_true, if_false]
    rw [fI_e, hv.sn, if_pos (lt6 hn'), cA_of (C_add hv.sn hn' _ _ _ _), fI_e, up1_s, updS]
  have u83 : (up1 (up1 σ 11 (row4 (σ.1 11) (4 * nn) (nI j0) (nI j1) (nI j2) (nI j3))) 10 (upd (σ.1 10) 1 (nI (nn + 1)))).1 83 = σ.1 83 := by rw [up1_n (by decide), up1_n (by decide)]
  have f1 : FrN σ (up1 (up1 σ 11 (row4 (σ.1 11) (4 * nn) (nI j0) (nI j1) (nI j2) (nI j3))) 10 (upd (σ.1 10) 1 (nI (nn + 1)))) := (FrN.up (by unfold isN; omega)).tr (FrN.up (by unfold isN; omega))
  have g9 : (up1 (up1 σ 11 (row4 (σ.1 11) (4 * nn) (nI j0) (nI j1) (nI j2) (nI j3))) 10 (upd (σ.1 10) 1 (nI (nn + 1)))).1 10 1 = nI (nn + 1) := by rw [up1_s, updS]
  have g10 : (up1 (up1 σ 11 (row4 (σ.1 11) (4 * nn) (nI j0) (nI j1) (nI j2) (nI j3))) 10 (upd (σ.1 10) 1 (nI (nn + 1)))).1 11 = row4 (σ.1 11) (4 * nn) (nI j0) (nI j1) (nI j2) (nI j3) := by rw [up1_n (by decide), up1_s]
  have go : ∀ k, k ≠ 10 → k ≠ 11 → (up1 (up1 σ 11 (row4 (σ.1 11) (4 * nn) (nI j0) (nI j1) (nI j2) (nI j3))) 10 (upd (σ.1 10) 1 (nI (nn + 1)))).1 k = σ.1 k := fun k k1 k2 => by rw [up1_n k1, up1_n k2]
  generalize up1 (up1 σ 11 (row4 (σ.1 11) (4 * nn) (nI j0) (nI j1) (nI j2) (nI j3))) 10 (upd (σ.1 10) 1 (nI (nn + 1))) = τ at *
  have t0 : τ.1 83 0 = nI n := by rw [u83]; exact hv.N0
  refine ⟨nI (nn + 1), τ, up1 τ 83 (upd (row4 (σ.1 83) (57 + 4 * nn) (nI j0) (nI j1) (nI j2) (nI j3)) 1 (nI (nn + 1))), hc, ?_, ?_⟩
  · unfold row4
    rw [X12_note, M_isOne_b t0, cA_e, ok_if e0, in_30, cA_e, ok_if e1, in_07, cA_e, ok_if e2, in_01, cA_e, ok_if e3, aI1, u83, hv.N1, if_neg (show ¬ nI nn = (6 : Int32) from fun e => c6 ((nI_eq (b := 6) (by omega) (by omega)).mp e)), aI1, u83, hv.N1, m4l, a57, sI_n (57 + 4 * nn) (by omega), nI_1, sI_n (57 + 4 * nn + 1) (by omega), up1_s, up1_u, nI_p2, sI_n (57 + 4 * nn + 2) (by omega), up1_s, up1_u, nI_p3, sI_n (57 + 4 * nn + 3) (by omega), up1_s, up1_u, aI1, sI1, up1_s, up1_u, aI1, up1_s, updS, updN (by omega), updN (by omega), updN (by omega), updN (by omega), u83, hv.N1, nI_1]
  · refine h.n (f1.tr (FrN.up (by unfold isN; omega))) ⟨n, yr, u, nn + 1, nb, ?_⟩
    rw [up1_s]
    refine hv.note hn' (x1 := nI j0) (x2 := nI j1) (x3 := nI j2) (x4 := nI j3) ?_ ?_ ?_ ?_
    · rw [up1_n (by decide)]; exact g9
    · rw [up1_n (by decide)]; exact g10
    · intro i i1 i2 i3
      rw [up1_n (by omega)]; exact go _ (by omega) (by omega)
    · intro j
      rfl
theorem P_beaten {σ : Sta} (h : Inv σ) (x1 x2 x3 x4 : Int32) : Pair (X11_beaten x1 x2 x3 x4) (X12_beaten x1 x2 x3 x4) σ := by
  obtain ⟨n, yr, u, nn, nb, hv⟩ := h.1
  have b0 : (badC σ).1 83 0 = nI n := by rw [badC_83]; exact hv.N0
  have b4 : (badC σ).1 83 4 = nI yr := by rw [badC_83]; exact hv.N4
  by_cases e0 : inB x1 0 (nI n - 1) = true
  rotate_left
  · rw [Bool.not_eq_true] at e0; exact pair_bad (a := -2) h (by simp only [X11_beaten, C_isOne_b hv.s10, e0, cA_e, bi_if, within_b, C_isArt_b, C_bad, Bool.false_eq_true, ite_false, ite_true, if_true, if_false]) (by simp only [X12_beaten, M_isOne_b b0, e0, cA_e, bi_if, M_isYear_b, M_isSort_b, in_01, in_02, in_05, in_06, in_07, in_09, in_30, in_60, in_99, in_12, M_bad, Bool.false_eq_true, ite_false, ite_true, if_true, if_false])
  by_cases e1 : inB x2 0 (nI n - 1) = true
  rotate_left
  · rw [Bool.not_eq_true] at e1; exact pair_bad (a := -2) h (by simp only [X11_beaten, C_isOne_b hv.s10, e0, e1, cA_e, bi_if, within_b, C_isArt_b, C_bad, Bool.false_eq_true, ite_false, ite_true, if_true, if_false]) (by simp only [X12_beaten, M_isOne_b b0, e0, e1, cA_e, bi_if, M_isYear_b, M_isSort_b, in_01, in_02, in_05, in_06, in_07, in_09, in_30, in_60, in_99, in_12, M_bad, Bool.false_eq_true, ite_false, ite_true, if_true, if_false])
  by_cases e2 : x1 = x2
  · exact pair_bad (a := -2) h (by simp only [X11_beaten, C_isOne_b hv.s10, e0, e1, e2, cA_e, bi_if, within_b, C_isArt_b, C_bad, Bool.false_eq_true, ite_false, ite_true, if_true, if_false]) (by simp only [X12_beaten, M_isOne_b b0, e0, e1, e2, cA_e, bi_if, M_isYear_b, M_isSort_b, in_01, in_02, in_05, in_06, in_07, in_09, in_30, in_60, in_99, in_12, M_bad, Bool.false_eq_true, ite_false, ite_true, if_true, if_false])
  by_cases e3 : inB x3 0 2 = true
  rotate_left
  · rw [Bool.not_eq_true] at e3; exact pair_bad (a := -2) h (by simp only [X11_beaten, C_isOne_b hv.s10, e0, e1, e2, e3, cA_e, bi_if, within_b, C_isArt_b, C_bad, Bool.false_eq_true, ite_false, ite_true, if_true, if_false]) (by simp only [X12_beaten, M_isOne_b b0, e0, e1, e2, e3, cA_e, bi_if, M_isYear_b, M_isSort_b, in_01, in_02, in_05, in_06, in_07, in_09, in_30, in_60, in_99, in_12, M_bad, Bool.false_eq_true, ite_false, ite_true, if_true, if_false])
  by_cases e4 : inB x4 0 7 = true
  rotate_left
  · rw [Bool.not_eq_true] at e4; exact pair_bad (a := -2) h (by simp only [X11_beaten, C_isOne_b hv.s10, e0, e1, e2, e3, e4, cA_e, bi_if, within_b, C_isArt_b, C_bad, Bool.false_eq_true, ite_false, ite_true, if_true, if_false]) (by simp only [X12_beaten, M_isOne_b b0, e0, e1, e2, e3, e4, cA_e, bi_if, M_isYear_b, M_isSort_b, in_01, in_02, in_05, in_06, in_07, in_09, in_30, in_60, in_99, in_12, M_bad, Bool.false_eq_true, ite_false, ite_true, if_true, if_false])
  obtain ⟨j0, hj0, rfl⟩ := inB_1 hv.n6 e0
  obtain ⟨j1, hj1, rfl⟩ := inB_1 hv.n6 e1
  obtain ⟨j3, hj3, rfl⟩ := inB_n (m := 2) (by decide) e3
  obtain ⟨j4, hj4, rfl⟩ := inB_n (m := 7) (by decide) e4
  have hn := hv.nb6
  by_cases c6 : nb = 6
  · subst c6
    refine pair_full h ?_ ?_
    · simp only [X11_beaten, C_isOne_b hv.s10, e0, e1, e2, e3, e4, cA_e, bi_if, within_b, C_isArt_b, C_bad, Bool.false_eq_true, ite_false, ite_true, if_true, if_false]
      rw [fI_e, hv.sb, if_neg (by decide), cA_of (C_full σ)]
    · have hq : (fullC σ).1 83 = σ.1 83 := up1_n (by decide)
      have t0 : (fullC σ).1 83 0 = nI n := by rw [hq]; exact hv.N0
      generalize fullC σ = ρ at hq t0 ⊢
      rw [X12_beaten, M_isOne_b t0, cA_e, ok_if e0, M_isOne_b t0, cA_e, ok_if e1, if_neg e2, M_isSort_b, cA_e, ok_if e3, M_isYear_b, cA_e, ok_if e4, aI2, hq, hv.N2, if_pos (show nI 6 = (6 : Int32) from rfl), cA_of (M_full _)]
  have hn' : nb < 6 := by omega
  have hc : X11_beaten (nI j0) (nI j1) (nI j3) (nI j4) σ = some (nI (nb + 1), up1 (up1 σ 13 (row4 (σ.1 13) (4 * nb) (nI j0) (nI j1) (nI j3) (nI j4))) 12 (upd (σ.1 12) 1 (nI (nb + 1)))) := by
    simp only [X11_beaten, C_isOne_b hv.s10, e0, e1, e2, e3, e4, cA_e, bi_if, within_b, C_isArt_b, C_bad, Bool.false_eq_true, ite_false, ite_true, if_true, if_false]
    rw [fI_e, hv.sb, if_pos (lt6 hn'), cA_of (C_add hv.sb hn' _ _ _ _), fI_e, up1_s, updS]
  have u83 : (up1 (up1 σ 13 (row4 (σ.1 13) (4 * nb) (nI j0) (nI j1) (nI j3) (nI j4))) 12 (upd (σ.1 12) 1 (nI (nb + 1)))).1 83 = σ.1 83 := by rw [up1_n (by decide), up1_n (by decide)]
  have f1 : FrN σ (up1 (up1 σ 13 (row4 (σ.1 13) (4 * nb) (nI j0) (nI j1) (nI j3) (nI j4))) 12 (upd (σ.1 12) 1 (nI (nb + 1)))) := (FrN.up (by unfold isN; omega)).tr (FrN.up (by unfold isN; omega))
  have g9 : (up1 (up1 σ 13 (row4 (σ.1 13) (4 * nb) (nI j0) (nI j1) (nI j3) (nI j4))) 12 (upd (σ.1 12) 1 (nI (nb + 1)))).1 12 1 = nI (nb + 1) := by rw [up1_s, updS]
  have g10 : (up1 (up1 σ 13 (row4 (σ.1 13) (4 * nb) (nI j0) (nI j1) (nI j3) (nI j4))) 12 (upd (σ.1 12) 1 (nI (nb + 1)))).1 13 = row4 (σ.1 13) (4 * nb) (nI j0) (nI j1) (nI j3) (nI j4) := by rw [up1_n (by decide), up1_s]
  have go : ∀ k, k ≠ 12 → k ≠ 13 → (up1 (up1 σ 13 (row4 (σ.1 13) (4 * nb) (nI j0) (nI j1) (nI j3) (nI j4))) 12 (upd (σ.1 12) 1 (nI (nb + 1)))).1 k = σ.1 k := fun k k1 k2 => by rw [up1_n k1, up1_n k2]
  generalize up1 (up1 σ 13 (row4 (σ.1 13) (4 * nb) (nI j0) (nI j1) (nI j3) (nI j4))) 12 (upd (σ.1 12) 1 (nI (nb + 1))) = τ at *
  have t0 : τ.1 83 0 = nI n := by rw [u83]; exact hv.N0
  refine ⟨nI (nb + 1), τ, up1 τ 83 (upd (row4 (σ.1 83) (81 + 4 * nb) (nI j0) (nI j1) (nI j3) (nI j4)) 2 (nI (nb + 1))), hc, ?_, ?_⟩
  · unfold row4
    rw [X12_beaten, M_isOne_b t0, cA_e, ok_if e0, M_isOne_b t0, cA_e, ok_if e1, if_neg e2, M_isSort_b, cA_e, ok_if e3, M_isYear_b, cA_e, ok_if e4, aI2, u83, hv.N2, if_neg (show ¬ nI nb = (6 : Int32) from fun e => c6 ((nI_eq (b := 6) (by omega) (by omega)).mp e)), aI2, u83, hv.N2, m4l, a81, sI_n (81 + 4 * nb) (by omega), nI_1, sI_n (81 + 4 * nb + 1) (by omega), up1_s, up1_u, nI_p2, sI_n (81 + 4 * nb + 2) (by omega), up1_s, up1_u, nI_p3, sI_n (81 + 4 * nb + 3) (by omega), up1_s, up1_u, aI2, sI2, up1_s, up1_u, aI2, up1_s, updS, updN (by omega), updN (by omega), updN (by omega), updN (by omega), u83, hv.N2, nI_1]
  · refine h.n (f1.tr (FrN.up (by unfold isN; omega))) ⟨n, yr, u, nn, nb + 1, ?_⟩
    rw [up1_s]
    refine hv.beat hn' (i1 := j0) (i2 := j1) (i3 := j3) (i4 := j4) hj0 hj1 (by omega) (by omega) ?_ ?_ ?_ ?_
    · rw [up1_n (by decide)]; exact g9
    · rw [up1_n (by decide)]; exact g10
    · intro i i1 i2 i3
      rw [up1_n (by omega)]; exact go _ (by omega) (by omega)
    · intro j
      rfl
theorem P_forget {σ : Sta} (h : Inv σ) (x1 : Int32) : Pair (X11_forget x1) (X12_forget x1) σ := by
  obtain ⟨n, yr, u, nn, nb, hv⟩ := h.1
  have b0 : (badC σ).1 83 0 = nI n := by rw [badC_83]; exact hv.N0
  have b4 : (badC σ).1 83 4 = nI yr := by rw [badC_83]; exact hv.N4
  by_cases e0 : inB x1 0 1 = true
  rotate_left
  · rw [Bool.not_eq_true] at e0; exact pair_bad (a := -2) h (by simp only [X11_forget, e0, cA_e, bi_if, within_b, C_isArt_b, C_bad, Bool.false_eq_true, ite_false, ite_true, if_true, if_false]) (by simp only [X12_forget, e0, cA_e, bi_if, M_isYear_b, M_isSort_b, in_01, in_02, in_05, in_06, in_07, in_09, in_30, in_60, in_99, in_12, M_bad, Bool.false_eq_true, ite_false, ite_true, if_true, if_false])
  obtain ⟨j0, hj0, rfl⟩ := inB_n (m := 1) (by decide) e0
  rcases (show j0 = 0 ∨ j0 = 1 by omega) with rfl | rfl
  · refine ⟨nI nn, up1 σ 10 (upd (σ.1 10) 1 0), up1 (up1 σ 10 (upd (σ.1 10) 1 0)) 83 (upd (σ.1 83) 1 0), ?_, ?_, ?_⟩
    · simp only [X11_forget, e0, cA_e, bi_if, within_b, C_isArt_b, C_bad, Bool.false_eq_true, ite_false, ite_true, if_true, if_false]
      rw [if_pos (show nI 0 = (0 : Int32) from rfl), fI_e, hv.sn, pI_e]
    · simp only [X12_forget, e0, cA_e, bi_if, M_isYear_b, M_isSort_b, in_01, in_02, in_05, in_06, in_07, in_09, in_30, in_60, in_99, in_12, M_bad, Bool.false_eq_true, ite_false, ite_true, if_true, if_false]
      rw [show (1 : Int32) + nI 0 = nI 1 from rfl, aI_n 1 (by decide), sI_n 1 (by decide), up1_n (show 83 ≠ 10 by decide), hv.N1]
    · refine h.n ((FrN.up (by unfold isN; omega)).tr (FrN.up (by unfold isN; omega))) ⟨n, yr, u, 0, nb, ?_⟩
      rw [up1_s]
      have o : ∀ j, j ≠ 1 → upd (σ.1 83) 1 0 j = σ.1 83 j := fun j hj => updN hj
      have e : ∀ k, k ≠ 10 → k ≠ 83 → (up1 (up1 σ 10 (upd (σ.1 10) 1 0)) 83 (upd (σ.1 83) 1 0)).1 k = σ.1 k := fun k k1 k2 => by rw [up1_n k2, up1_n k1]
      have e10 : (up1 (up1 σ 10 (upd (σ.1 10) 1 0)) 83 (upd (σ.1 83) 1 0)).1 10 1 = 0 := by rw [up1_n (by decide), up1_s, updS]
      generalize (up1 (up1 σ 10 (upd (σ.1 10) 1 0)) 83 (upd (σ.1 83) 1 0)).1 = S' at *
      refine VR.mk ⟨hv.n6, hv.y8, hv.uy, by omega, hv.nb6⟩ ⟨by rw [e 1 (by decide) (by decide)]; exact hv.s10, by rw [e 1 (by decide) (by decide)]; exact hv.s11, by rw [e 1 (by decide) (by decide)]; exact hv.s12, e10, by rw [e (1 + 11) (by decide) (by decide)]; exact hv.sb⟩ ⟨by rw [o 0 (by decide)]; exact hv.N0, by rw [updS]; rfl, by rw [o 2 (by decide)]; exact hv.N2, by rw [o 3 (by decide)]; exact hv.N3, by rw [o 4 (by decide)]; exact hv.N4⟩
        (hv.gpe.c hv.n6 (e _ (by decide) (by decide)) (e _ (by decide) (by decide)) (e _ (by decide) (by decide)) (e _ (by decide) (by decide)) (fun k k1 k2 => o k (by omega)))
        (hv.gye.c (e _ (by decide) (by decide)) (e _ (by decide) (by decide)) (fun k k1 k2 => o k (by omega))) (fun j hj => by omega) (hv.gbe.c hv.nb6 (Nat.le_refl _) (e _ (by decide) (by decide)) (fun k k1 k2 => o k (by omega))) ?_
      rw [e (1 + 7) (by decide) (by decide), e (1 + 8) (by decide) (by decide)]
      exact Hist_c hv.n6 u yr 4 4 hv.hi (fun k k1 k2 => o k (by omega)) (fun i hi => o _ (by omega)) (fun y hy => ⟨rfl, rfl⟩)
  · refine ⟨nI nb, up1 σ 12 (upd (σ.1 12) 1 0), up1 (up1 σ 12 (upd (σ.1 12) 1 0)) 83 (upd (σ.1 83) 2 0), ?_, ?_, ?_⟩
    · simp only [X11_forget, e0, cA_e, bi_if, within_b, C_isArt_b, C_bad, Bool.false_eq_true, ite_false, ite_true, if_true, if_false]
      rw [if_neg (show ¬ (nI 1 : Int32) = 0 by decide), fI_e, hv.sb, pI_e]
    · simp only [X12_forget, e0, cA_e, bi_if, M_isYear_b, M_isSort_b, in_01, in_02, in_05, in_06, in_07, in_09, in_30, in_60, in_99, in_12, M_bad, Bool.false_eq_true, ite_false, ite_true, if_true, if_false]
      rw [show (1 : Int32) + nI 1 = nI 2 from rfl, aI_n 2 (by decide), sI_n 2 (by decide), up1_n (show 83 ≠ 12 by decide), hv.N2]
    · refine h.n ((FrN.up (by unfold isN; omega)).tr (FrN.up (by unfold isN; omega))) ⟨n, yr, u, nn, 0, ?_⟩
      rw [up1_s]
      have o : ∀ j, j ≠ 2 → upd (σ.1 83) 2 0 j = σ.1 83 j := fun j hj => updN hj
      have e : ∀ k, k ≠ 12 → k ≠ 83 → (up1 (up1 σ 12 (upd (σ.1 12) 1 0)) 83 (upd (σ.1 83) 2 0)).1 k = σ.1 k := fun k k1 k2 => by rw [up1_n k2, up1_n k1]
      have e12 : (up1 (up1 σ 12 (upd (σ.1 12) 1 0)) 83 (upd (σ.1 83) 2 0)).1 12 1 = 0 := by rw [up1_n (by decide), up1_s, updS]
      generalize (up1 (up1 σ 12 (upd (σ.1 12) 1 0)) 83 (upd (σ.1 83) 2 0)).1 = S' at *
      refine VR.mk ⟨hv.n6, hv.y8, hv.uy, hv.nn6, by omega⟩ ⟨by rw [e 1 (by decide) (by decide)]; exact hv.s10, by rw [e 1 (by decide) (by decide)]; exact hv.s11, by rw [e 1 (by decide) (by decide)]; exact hv.s12, by rw [e (1 + 9) (by decide) (by decide)]; exact hv.sn, e12⟩ ⟨by rw [o 0 (by decide)]; exact hv.N0, by rw [o 1 (by decide)]; exact hv.N1, by rw [updS]; rfl, by rw [o 3 (by decide)]; exact hv.N3, by rw [o 4 (by decide)]; exact hv.N4⟩
        (hv.gpe.c hv.n6 (e _ (by decide) (by decide)) (e _ (by decide) (by decide)) (e _ (by decide) (by decide)) (e _ (by decide) (by decide)) (fun k k1 k2 => o k (by omega)))
        (hv.gye.c (e _ (by decide) (by decide)) (e _ (by decide) (by decide)) (fun k k1 k2 => o k (by omega))) (hv.gno.c hv.nn6 (e _ (by decide) (by decide)) (fun k k1 k2 => o k (by omega))) ⟨fun j hj => by omega, fun k hk => by omega⟩ ?_
      rw [e (1 + 7) (by decide) (by decide), e (1 + 8) (by decide) (by decide)]
      exact Hist_c hv.n6 u yr 4 4 hv.hi (fun k k1 k2 => o k (by omega)) (fun i hi => o _ (by omega)) (fun y hy => ⟨rfl, rfl⟩)
end
section
/-! PURE HALF 15: images, years, undoing -/
theorem VR.mem {S : Nat → Nat → Int32} {r : Nat} {N N' : Nat → Int32} {n yr u nn nb : Nat} (h : VR S r N n yr u nn nb) (hN : ∀ k, k < 209 → N' k = N k) : VR S r N' n yr u nn nb :=
  h.to ⟨rfl, rfl, rfl, rfl, rfl⟩ (fun _ _ => rfl) (fun _ _ => rfl) (fun _ _ => rfl) (fun _ _ => rfl) (fun _ _ => rfl) (fun _ _ => rfl) (fun _ _ => rfl) (fun _ _ => rfl) (fun _ _ => rfl) (fun _ _ => rfl) (fun k hk => hN k (by have := h.uy; have := h.y8; omega))

theorem C_take_29_1 (σ : Sta) : ∃ τ, X10_take 29 1 σ = some ((), τ) ∧ (∀ (N N' : Nat → Int32) (n yr u nn nb : Nat), VR σ.1 1 N n yr u nn nb → (∀ k, k < 105 + 13 * u → N' k = N k) → VR τ.1 29 N' n yr u nn nb) ∧ (∀ k, ¬ (29 ≤ k ∧ k ≤ 41) → τ.1 k = σ.1 k) ∧ τ.2 = σ.2 := by
  rw [X10_take, X10_takeCourse]
  simp only [cpI_e, fI_e, pI_e, cA_e, X9_takeRows]
  refine ⟨_, rfl, fun N N' n yr u nn nb h hN => ?_, fun k hk => ?_, rfl⟩
  · have y8 := h.y8
    refine h.to ⟨?_, ?_, ?_, ?_, ?_⟩ (fun j hj => ?_) (fun j hj => ?_) (fun j hj => ?_) (fun j hj => ?_) (fun j hj => ?_) (fun j hj => ?_) (fun j hj => ?_) (fun j hj => ?_) (fun j hj => ?_) (fun j hj => ?_) hN
    all_goals first | (simp [up1, va_up, upd, va_cpy, hj]; done) | (simp [up1, va_up, upd, va_cpy, show j < 8 by omega]; done) | (simp [up1, va_up, upd]; done)
  · have : k ≠ 29 ∧ k ≠ 30 ∧ k ≠ 31 ∧ k ≠ 32 ∧ k ≠ 33 ∧ k ≠ 34 ∧ k ≠ 35 ∧ k ≠ 36 ∧ k ≠ 37 ∧ k ≠ 38 ∧ k ≠ 39 ∧ k ≠ 40 ∧ k ≠ 41 := by omega
    obtain ⟨a0, a1, a2, a3, a4, a5, a6, a7, a8, a9, a10, a11, a12⟩ := this
    simp [up1, va_up, a0, a1, a2, a3, a4, a5, a6, a7, a8, a9, a10, a11, a12]
theorem C_take_42_1 (σ : Sta) : ∃ τ, X10_take 42 1 σ = some ((), τ) ∧ (∀ (N N' : Nat → Int32) (n yr u nn nb : Nat), VR σ.1 1 N n yr u nn nb → (∀ k, k < 105 + 13 * u → N' k = N k) → VR τ.1 42 N' n yr u nn nb) ∧ (∀ k, ¬ (42 ≤ k ∧ k ≤ 54) → τ.1 k = σ.1 k) ∧ τ.2 = σ.2 := by
  rw [X10_take, X10_takeCourse]
  simp only [cpI_e, fI_e, pI_e, cA_e, X9_takeRows]
  refine ⟨_, rfl, fun N N' n yr u nn nb h hN => ?_, fun k hk => ?_, rfl⟩
  · have y8 := h.y8
    refine h.to ⟨?_, ?_, ?_, ?_, ?_⟩ (fun j hj => ?_) (fun j hj => ?_) (fun j hj => ?_) (fun j hj => ?_) (fun j hj => ?_) (fun j hj => ?_) (fun j hj => ?_) (fun j hj => ?_) (fun j hj => ?_) (fun j hj => ?_) hN
    all_goals first | (simp [up1, va_up, upd, va_cpy, hj]; done) | (simp [up1, va_up, upd, va_cpy, show j < 8 by omega]; done) | (simp [up1, va_up, upd]; done)
  · have : k ≠ 42 ∧ k ≠ 43 ∧ k ≠ 44 ∧ k ≠ 45 ∧ k ≠ 46 ∧ k ≠ 47 ∧ k ≠ 48 ∧ k ≠ 49 ∧ k ≠ 50 ∧ k ≠ 51 ∧ k ≠ 52 ∧ k ≠ 53 ∧ k ≠ 54 := by omega
    obtain ⟨a0, a1, a2, a3, a4, a5, a6, a7, a8, a9, a10, a11, a12⟩ := this
    simp [up1, va_up, a0, a1, a2, a3, a4, a5, a6, a7, a8, a9, a10, a11, a12]
theorem C_take_1_29 (σ : Sta) : ∃ τ, X10_take 1 29 σ = some ((), τ) ∧ (∀ (N N' : Nat → Int32) (n yr u nn nb : Nat), VR σ.1 29 N n yr u nn nb → (∀ k, k < 105 + 13 * u → N' k = N k) → VR τ.1 1 N' n yr u nn nb) ∧ (∀ k, ¬ (1 ≤ k ∧ k ≤ 13) → τ.1 k = σ.1 k) ∧ τ.2 = σ.2 := by
  rw [X10_take, X10_takeCourse]
  simp only [cpI_e, fI_e, pI_e, cA_e, X9_takeRows]
  refine ⟨_, rfl, fun N N' n yr u nn nb h hN => ?_, fun k hk => ?_, rfl⟩
  · have y8 := h.y8
    refine h.to ⟨?_, ?_, ?_, ?_, ?_⟩ (fun j hj => ?_) (fun j hj => ?_) (fun j hj => ?_) (fun j hj => ?_) (fun j hj => ?_) (fun j hj => ?_) (fun j hj => ?_) (fun j hj => ?_) (fun j hj => ?_) (fun j hj => ?_) hN
    all_goals first | (simp [up1, va_up, upd, va_cpy, hj]; done) | (simp [up1, va_up, upd, va_cpy, show j < 8 by omega]; done) | (simp [up1, va_up, upd]; done)
  · have : k ≠ 1 ∧ k ≠ 2 ∧ k ≠ 3 ∧ k ≠ 4 ∧ k ≠ 5 ∧ k ≠ 6 ∧ k ≠ 7 ∧ k ≠ 8 ∧ k ≠ 9 ∧ k ≠ 10 ∧ k ≠ 11 ∧ k ≠ 12 ∧ k ≠ 13 := by omega
    obtain ⟨a0, a1, a2, a3, a4, a5, a6, a7, a8, a9, a10, a11, a12⟩ := this
    simp [up1, va_up, a0, a1, a2, a3, a4, a5, a6, a7, a8, a9, a10, a11, a12]
theorem C_take_1_42 (σ : Sta) : ∃ τ, X10_take 1 42 σ = some ((), τ) ∧ (∀ (N N' : Nat → Int32) (n yr u nn nb : Nat), VR σ.1 42 N n yr u nn nb → (∀ k, k < 105 + 13 * u → N' k = N k) → VR τ.1 1 N' n yr u nn nb) ∧ (∀ k, ¬ (1 ≤ k ∧ k ≤ 13) → τ.1 k = σ.1 k) ∧ τ.2 = σ.2 := by
  rw [X10_take, X10_takeCourse]
  simp only [cpI_e, fI_e, pI_e, cA_e, X9_takeRows]
  refine ⟨_, rfl, fun N N' n yr u nn nb h hN => ?_, fun k hk => ?_, rfl⟩
  · have y8 := h.y8
    refine h.to ⟨?_, ?_, ?_, ?_, ?_⟩ (fun j hj => ?_) (fun j hj => ?_) (fun j hj => ?_) (fun j hj => ?_) (fun j hj => ?_) (fun j hj => ?_) (fun j hj => ?_) (fun j hj => ?_) (fun j hj => ?_) (fun j hj => ?_) hN
    all_goals first | (simp [up1, va_up, upd, va_cpy, hj]; done) | (simp [up1, va_up, upd, va_cpy, show j < 8 by omega]; done) | (simp [up1, va_up, upd]; done)
  · have : k ≠ 1 ∧ k ≠ 2 ∧ k ≠ 3 ∧ k ≠ 4 ∧ k ≠ 5 ∧ k ≠ 6 ∧ k ≠ 7 ∧ k ≠ 8 ∧ k ≠ 9 ∧ k ≠ 10 ∧ k ≠ 11 ∧ k ≠ 12 ∧ k ≠ 13 := by omega
    obtain ⟨a0, a1, a2, a3, a4, a5, a6, a7, a8, a9, a10, a11, a12⟩ := this
    simp [up1, va_up, a0, a1, a2, a3, a4, a5, a6, a7, a8, a9, a10, a11, a12]
theorem C_take_1_14 (σ : Sta) : ∃ τ, X10_take 1 14 σ = some ((), τ) ∧ (∀ (N N' : Nat → Int32) (n yr u nn nb : Nat), VR σ.1 14 N n yr u nn nb → (∀ k, k < 105 + 13 * u → N' k = N k) → VR τ.1 1 N' n yr u nn nb) ∧ (∀ k, ¬ (1 ≤ k ∧ k ≤ 13) → τ.1 k = σ.1 k) ∧ τ.2 = σ.2 := by
  rw [X10_take, X10_takeCourse]
  simp only [cpI_e, fI_e, pI_e, cA_e, X9_takeRows]
  refine ⟨_, rfl, fun N N' n yr u nn nb h hN => ?_, fun k hk => ?_, rfl⟩
  · have y8 := h.y8
    refine h.to ⟨?_, ?_, ?_, ?_, ?_⟩ (fun j hj => ?_) (fun j hj => ?_) (fun j hj => ?_) (fun j hj => ?_) (fun j hj => ?_) (fun j hj => ?_) (fun j hj => ?_) (fun j hj => ?_) (fun j hj => ?_) (fun j hj => ?_) hN
    all_goals first | (simp [up1, va_up, upd, va_cpy, hj]; done) | (simp [up1, va_up, upd, va_cpy, show j < 8 by omega]; done) | (simp [up1, va_up, upd]; done)
  · have : k ≠ 1 ∧ k ≠ 2 ∧ k ≠ 3 ∧ k ≠ 4 ∧ k ≠ 5 ∧ k ≠ 6 ∧ k ≠ 7 ∧ k ≠ 8 ∧ k ≠ 9 ∧ k ≠ 10 ∧ k ≠ 11 ∧ k ≠ 12 ∧ k ≠ 13 := by omega
    obtain ⟨a0, a1, a2, a3, a4, a5, a6, a7, a8, a9, a10, a11, a12⟩ := this
    simp [up1, va_up, a0, a1, a2, a3, a4, a5, a6, a7, a8, a9, a10, a11, a12]

theorem m209 (i k : Nat) : (209 : Int32) * nI i + nI k = nI (209 * i + k) := by
  have h : (209 : Int32) = nI 209 := rfl
  rw [h, pk_mul, nI_add]
theorem lt209 {i : Nat} (h : i < 209) : nI i < (209 : Int32) := nI_lt (b := 209) h (by decide)
theorem nar1 : vp_nar .boolean (1 : Int32) = 1 := by decide
theorem M_imageL {σ : Sta} {i : Nat} (hi : i < 2) : ∀ (d k fu : Nat) (f : Nat → Int32), k + d = 209 → d < fu → ∃ f', X12_image_L19 fu (nI i) (nI k) (up1 σ 84 f) = some (1, up1 (up1 σ 84 f') 85 (upd (σ.1 85) i 1)) ∧ (∀ j, j < 209 → k ≤ j → f' (209 * i + j) = σ.1 83 j) ∧ (∀ j, j < 209 * i + k ∨ 209 * i + 209 ≤ j → f' j = f j)
  | d, k, 0, f, _, h => by omega
  | 0, k, fu + 1, f, hk, _ => by
    have e : k = 209 := by omega
    subst e
    refine ⟨f, ?_, fun j h1 h2 => by omega, fun j hj => rfl⟩
    rw [X12_image_L19, if_neg (by decide), sZ_n i hi, up1_n (by decide), nar1]
  | d + 1, k, fu + 1, f, hk, hf => by
    obtain ⟨f', e1, e2, e3⟩ := M_imageL hi d (k + 1) fu (upd f (209 * i + k) (σ.1 83 k)) (by omega) (by omega)
    refine ⟨f', ?_, fun j h1 h2 => ?_, fun j hj => ?_⟩
    · rw [X12_image_L19, if_pos (lt209 (by omega)), aI_n k (by omega), up1_n (by decide), m209, sI_n (209 * i + k) (by omega), up1_s, up1_u, nI_1]
      exact e1
    · by_cases e : j = k
      · rw [e, e3 _ (by omega), updS]
      · exact e2 j h1 (by omega)
    · rw [e3 j (by omega), updN (by omega)]
theorem M_fromL {σ : Sta} {i : Nat} (hi : i < 2) : ∀ (d k fu : Nat) (f : Nat → Int32), k + d = 209 → d < fu → ∃ f', X12_from_L33 fu (nI i) (nI k) (up1 σ 83 f) = some (1, up1 σ 83 f') ∧ (∀ j, j < 209 → k ≤ j → f' j = σ.1 84 (209 * i + j)) ∧ (∀ j, j < k → f' j = f j)
  | d, k, 0, f, _, h => by omega
  | 0, k, fu + 1, f, hk, _ => by
    have e : k = 209 := by omega
    subst e
    refine ⟨f, ?_, fun j h1 h2 => by omega, fun j hj => rfl⟩
    rw [X12_from_L33, if_neg (by decide)]
  | d + 1, k, fu + 1, f, hk, hf => by
    obtain ⟨f', e1, e2, e3⟩ := M_fromL hi d (k + 1) fu (upd f k (σ.1 84 (209 * i + k))) (by omega) (by omega)
    refine ⟨f', ?_, fun j h1 h2 => ?_, fun j hj => ?_⟩
    · rw [X12_from_L33, if_pos (lt209 (by omega)), m209, aI_n (209 * i + k) (by omega), up1_n (by decide), sI_n k (by omega), up1_s, up1_u, nI_1]
      exact e1
    · by_cases e : j = k
      · rw [e, e3 _ (by omega), updS]
      · exact e2 j h1 (by omega)
    · rw [e3 j (by omega), updN (by omega)]

theorem P_image {σ : Sta} (h : Inv σ) (x1 : Int32) : Pair (X11_image x1) (X12_image x1) σ := by
  obtain ⟨n, yr, u, nn, nb, hv⟩ := h.1
  have b0 : (badC σ).1 83 0 = nI n := by rw [badC_83]; exact hv.N0
  have b4 : (badC σ).1 83 4 = nI yr := by rw [badC_83]; exact hv.N4
  by_cases e0 : inB x1 0 1 = true
  rotate_left
  · rw [Bool.not_eq_true] at e0; exact pair_bad (a := -2) h (by simp only [X11_image, e0, cA_e, bi_if, within_b, C_isArt_b, C_bad, Bool.false_eq_true, ite_false, ite_true, if_true, if_false]) (by simp only [X12_image, e0, cA_e, bi_if, M_isYear_b, M_isSort_b, in_01, in_02, in_05, in_06, in_07, in_09, in_30, in_60, in_99, in_12, M_bad, Bool.false_eq_true, ite_false, ite_true, if_true, if_false])
  obtain ⟨j0, hj0, rfl⟩ := inB_n (m := 1) (by decide) e0
  rcases (show j0 = 0 ∨ j0 = 1 by omega) with rfl | rfl
  · obtain ⟨τ, c1, c2, c3, c4⟩ := C_take_29_1 σ
    have c1' : X10_take (29 + 13 * 0) 1 σ = some ((), τ) := c1
    obtain ⟨f', m1, m2, m3⟩ := M_imageL (σ := up1 τ 28 (upd (τ.1 28) 0 1)) (i := 0) (by decide) 209 0 FU (τ.1 84) rfl (by decide)
    have q84 : (up1 τ 28 (upd (τ.1 28) 0 1)).1 84 = τ.1 84 := up1_n (by decide)
    rw [← q84, up1_id] at m1
    have t83 : (up1 τ 28 (upd (τ.1 28) 0 1)).1 83 = σ.1 83 := by rw [up1_n (by decide)]; exact c3 83 (by omega)
    refine ⟨1, up1 τ 28 (upd (τ.1 28) 0 1), up1 (up1 (up1 τ 28 (upd (τ.1 28) 0 1)) 84 f') 85 (upd ((up1 τ 28 (upd (τ.1 28) 0 1)).1 85) 0 1), ?_, ?_, ?_⟩
    rotate_left
    · rw [X12_image, in_01, e0, cA_e, bi_if, if_pos rfl]
      exact m1
    · obtain ⟨h1, h2, h3, h4, h5⟩ := h
      rw [up1_n (show 85 ≠ 28 by decide)]
      have q : ∀ k, k ≠ 28 → k ≠ 84 → k ≠ 85 → ¬ (29 ≤ k ∧ k ≤ 41) → (up1 (up1 (up1 τ 28 (upd (τ.1 28) 0 1)) 84 f') 85 (upd (τ.1 85) 0 1)).1 k = σ.1 k := fun k k1 k2 k3 k4 => by rw [up1_n k3, up1_n k2, up1_n k1]; exact c3 k k4
      have q28 : (up1 (up1 (up1 τ 28 (upd (τ.1 28) 0 1)) 84 f') 85 (upd (τ.1 85) 0 1)).1 28 = upd (σ.1 28) 0 1 := by rw [up1_n (by decide), up1_n (by decide), up1_s, c3 28 (by omega)]
      have q85 : (up1 (up1 (up1 τ 28 (upd (τ.1 28) 0 1)) 84 f') 85 (upd (τ.1 85) 0 1)).1 85 = upd (σ.1 85) 0 1 := by rw [up1_s, c3 85 (by omega)]
      have q84' : (up1 (up1 (up1 τ 28 (upd (τ.1 28) 0 1)) 84 f') 85 (upd (τ.1 85) 0 1)).1 84 = f' := by rw [up1_n (by decide), up1_s]
      have qv : ∀ k, 29 ≤ k → k ≤ 41 → (up1 (up1 (up1 τ 28 (upd (τ.1 28) 0 1)) 84 f') 85 (upd (τ.1 85) 0 1)).1 k = τ.1 k := fun k k1 k2 => by rw [up1_n (by omega), up1_n (by omega), up1_n (by omega)]
      have q2 : (up1 (up1 (up1 τ 28 (upd (τ.1 28) 0 1)) 84 f') 85 (upd (τ.1 85) 0 1)).2 = σ.2 := c4
      generalize up1 (up1 (up1 τ 28 (upd (τ.1 28) 0 1)) 84 f') 85 (upd (τ.1 85) 0 1) = ρ at *
      refine ⟨h1.c (fun k a b => q k (by omega) (by omega) (by omega) (by omega)) (q 83 (by omega) (by omega) (by omega) (by omega)), fun i hi => ?_, ?_, ?_, h5.c (by rw [q 80 (by omega) (by omega) (by omega) (by omega)]) (q 81 (by omega) (by omega) (by omega) (by omega)) (by rw [q 82 (by omega) (by omega) (by omega) (by omega)]) (q 94 (by omega) (by omega) (by omega) (by omega))⟩
      · by_cases e : i = 0
        · subst e
          refine Or.inr ⟨by rw [q28, updS], by rw [q85, updS], n, yr, u, nn, nb, ?_⟩
          have w := c2 _ (fun k => ρ.1 84 (209 * 0 + k)) n yr u nn nb hv (fun k hk => by
            have a1 := hv.uy
            have a2 := hv.y8
            show ρ.1 84 (209 * 0 + k) = _
            rw [q84', m2 k (by omega) (by omega), t83])
          exact w.cell (fun i hi => qv _ (by omega) (by omega))
        · have ei : i = 1 := by omega
          subst ei
          have a28 : ρ.1 28 1 = σ.1 28 1 := by rw [q28, updN (by decide)]
          have a85 : ρ.1 85 1 = σ.1 85 1 := by rw [q85, updN (by decide)]
          unfold Img
          rw [a28, a85]
          refine (h2 1 (by decide)).imp id (fun ⟨b1, b2, n, yr, u, nn, nb, b3⟩ => ⟨b1, b2, n, yr, u, nn, nb, ?_⟩)
          refine VR.mem (VR.cell b3 (fun i hi => q _ (by omega) (by omega) (by omega) (by omega))) (fun k hk => ?_)
          show ρ.1 84 (209 * 1 + k) = σ.1 84 (209 * 1 + k)
          rw [q84', m3 _ (by omega), c3 84 (by omega)]
      · intro i hi
        rw [q 0 (by omega) (by omega) (by omega) (by omega), q 86 (by omega) (by omega) (by omega) (by omega)]
        exact h3 i hi
      · rw [q2]
        exact h4
    · rw [X11_image, within_b, e0, cA_e, bi_if, if_pos rfl, aR_n 0 (by decide), cA_of c1', sZ_n 0 (by decide), nar1]
  · obtain ⟨τ, c1, c2, c3, c4⟩ := C_take_42_1 σ
    have c1' : X10_take (29 + 13 * 1) 1 σ = some ((), τ) := c1
    obtain ⟨f', m1, m2, m3⟩ := M_imageL (σ := up1 τ 28 (upd (τ.1 28) 1 1)) (i := 1) (by decide) 209 0 FU (τ.1 84) rfl (by decide)
    have q84 : (up1 τ 28 (upd (τ.1 28) 1 1)).1 84 = τ.1 84 := up1_n (by decide)
    rw [← q84, up1_id] at m1
    have t83 : (up1 τ 28 (upd (τ.1 28) 1 1)).1 83 = σ.1 83 := by rw [up1_n (by decide)]; exact c3 83 (by omega)
    refine ⟨1, up1 τ 28 (upd (τ.1 28) 1 1), up1 (up1 (up1 τ 28 (upd (τ.1 28) 1 1)) 84 f') 85 (upd ((up1 τ 28 (upd (τ.1 28) 1 1)).1 85) 1 1), ?_, ?_, ?_⟩
    rotate_left
    · rw [X12_image, in_01, e0, cA_e, bi_if, if_pos rfl]
      exact m1
    · obtain ⟨h1, h2, h3, h4, h5⟩ := h
      rw [up1_n (show 85 ≠ 28 by decide)]
      have q : ∀ k, k ≠ 28 → k ≠ 84 → k ≠ 85 → ¬ (42 ≤ k ∧ k ≤ 54) → (up1 (up1 (up1 τ 28 (upd (τ.1 28) 1 1)) 84 f') 85 (upd (τ.1 85) 1 1)).1 k = σ.1 k := fun k k1 k2 k3 k4 => by rw [up1_n k3, up1_n k2, up1_n k1]; exact c3 k k4
      have q28 : (up1 (up1 (up1 τ 28 (upd (τ.1 28) 1 1)) 84 f') 85 (upd (τ.1 85) 1 1)).1 28 = upd (σ.1 28) 1 1 := by rw [up1_n (by decide), up1_n (by decide), up1_s, c3 28 (by omega)]
      have q85 : (up1 (up1 (up1 τ 28 (upd (τ.1 28) 1 1)) 84 f') 85 (upd (τ.1 85) 1 1)).1 85 = upd (σ.1 85) 1 1 := by rw [up1_s, c3 85 (by omega)]
      have q84' : (up1 (up1 (up1 τ 28 (upd (τ.1 28) 1 1)) 84 f') 85 (upd (τ.1 85) 1 1)).1 84 = f' := by rw [up1_n (by decide), up1_s]
      have qv : ∀ k, 42 ≤ k → k ≤ 54 → (up1 (up1 (up1 τ 28 (upd (τ.1 28) 1 1)) 84 f') 85 (upd (τ.1 85) 1 1)).1 k = τ.1 k := fun k k1 k2 => by rw [up1_n (by omega), up1_n (by omega), up1_n (by omega)]
      have q2 : (up1 (up1 (up1 τ 28 (upd (τ.1 28) 1 1)) 84 f') 85 (upd (τ.1 85) 1 1)).2 = σ.2 := c4
      generalize up1 (up1 (up1 τ 28 (upd (τ.1 28) 1 1)) 84 f') 85 (upd (τ.1 85) 1 1) = ρ at *
      refine ⟨h1.c (fun k a b => q k (by omega) (by omega) (by omega) (by omega)) (q 83 (by omega) (by omega) (by omega) (by omega)), fun i hi => ?_, ?_, ?_, h5.c (by rw [q 80 (by omega) (by omega) (by omega) (by omega)]) (q 81 (by omega) (by omega) (by omega) (by omega)) (by rw [q 82 (by omega) (by omega) (by omega) (by omega)]) (q 94 (by omega) (by omega) (by omega) (by omega))⟩
      · by_cases e : i = 1
        · subst e
          refine Or.inr ⟨by rw [q28, updS], by rw [q85, updS], n, yr, u, nn, nb, ?_⟩
          have w := c2 _ (fun k => ρ.1 84 (209 * 1 + k)) n yr u nn nb hv (fun k hk => by
            have a1 := hv.uy
            have a2 := hv.y8
            show ρ.1 84 (209 * 1 + k) = _
            rw [q84', m2 k (by omega) (by omega), t83])
          exact w.cell (fun i hi => qv _ (by omega) (by omega))
        · have ei : i = 0 := by omega
          subst ei
          have a28 : ρ.1 28 0 = σ.1 28 0 := by rw [q28, updN (by decide)]
          have a85 : ρ.1 85 0 = σ.1 85 0 := by rw [q85, updN (by decide)]
          unfold Img
          rw [a28, a85]
          refine (h2 0 (by decide)).imp id (fun ⟨b1, b2, n, yr, u, nn, nb, b3⟩ => ⟨b1, b2, n, yr, u, nn, nb, ?_⟩)
          refine VR.mem (VR.cell b3 (fun i hi => q _ (by omega) (by omega) (by omega) (by omega))) (fun k hk => ?_)
          show ρ.1 84 (209 * 0 + k) = σ.1 84 (209 * 0 + k)
          rw [q84', m3 _ (by omega), c3 84 (by omega)]
      · intro i hi
        rw [q 0 (by omega) (by omega) (by omega) (by omega), q 86 (by omega) (by omega) (by omega) (by omega)]
        exact h3 i hi
      · rw [q2]
        exact h4
    · rw [X11_image, within_b, e0, cA_e, bi_if, if_pos rfl, aR_n 1 (by decide), cA_of c1', sZ_n 1 (by decide), nar1]
theorem P_from {σ : Sta} (h : Inv σ) (x1 : Int32) : Pair (X11_from x1) (X12_from x1) σ := by
  obtain ⟨n, yr, u, nn, nb, hv⟩ := h.1
  have b0 : (badC σ).1 83 0 = nI n := by rw [badC_83]; exact hv.N0
  have b4 : (badC σ).1 83 4 = nI yr := by rw [badC_83]; exact hv.N4
  by_cases e0 : inB x1 0 1 = true
  rotate_left
  · rw [Bool.not_eq_true] at e0; exact pair_bad (a := -2) h (by simp only [X11_from, e0, cA_e, bi_if, within_b, C_isArt_b, C_bad, Bool.false_eq_true, ite_false, ite_true, if_true, if_false]) (by simp only [X12_from, e0, cA_e, bi_if, M_isYear_b, M_isSort_b, in_01, in_02, in_05, in_06, in_07, in_09, in_30, in_60, in_99, in_12, M_bad, Bool.false_eq_true, ite_false, ite_true, if_true, if_false])
  obtain ⟨j0, hj0, rfl⟩ := inB_n (m := 1) (by decide) e0
  rcases (show j0 = 0 ∨ j0 = 1 by omega) with rfl | rfl
  · rcases h.2.1 0 (by decide) with ⟨k1, k2⟩ | ⟨k1, k2, n', yr', u', nn', nb', k3⟩
    · refine pair_no h ?_ ?_
      · rw [X11_from, within_b, e0, cA_e, bi_if, if_pos rfl, aI_n 0 (by decide), k1, if_pos rfl, cA_of (C_no σ)]
      · have hq : (noC σ).1 85 = σ.1 85 := up1_n (by decide)
        generalize noC σ = ρ at hq ⊢
        rw [X12_from, in_01, e0, cA_e, bi_if, if_pos rfl, aI_n 0 (by decide), hq, k2, if_pos rfl, cA_of (M_no ρ)]
    · obtain ⟨τ, c1, c2, c3, c4⟩ := C_take_1_29 σ
      have c1' : X10_take 1 (29 + 13 * 0) σ = some ((), τ) := c1
      obtain ⟨f', m1, m2, m3⟩ := M_fromL (σ := τ) (i := 0) (by decide) 209 0 FU (τ.1 83) rfl (by decide)
      rw [up1_id] at m1
      have t85 : τ.1 85 = σ.1 85 := c3 85 (by omega)
      have t84 : τ.1 84 = σ.1 84 := c3 84 (by omega)
      refine ⟨1, τ, up1 τ 83 f', ?_, ?_, ?_⟩
      · rw [X11_from, within_b, e0, cA_e, bi_if, if_pos rfl, aI_n 0 (by decide), k1, if_neg (by decide), aR_n 0 (by decide), cA_of c1']
      · rw [X12_from, in_01, e0, cA_e, bi_if, if_pos rfl, aI_n 0 (by decide), t85, k2, if_neg (by decide)]
        exact m1
      · refine h.n (FrN.tr (b := τ) ⟨fun k hk => c3 k (by unfold isN at hk; omega), c4⟩ (FrN.up (by unfold isN; omega))) ⟨n', yr', u', nn', nb', ?_⟩
        rw [up1_s]
        have w := c2 _ f' n' yr' u' nn' nb' k3 (fun k hk => by
          have a1 := k3.uy
          have a2 := k3.y8
          rw [m2 k (by omega) (by omega), t84])
        exact w.cell (fun i hi => up1_n (by omega))
  · rcases h.2.1 1 (by decide) with ⟨k1, k2⟩ | ⟨k1, k2, n', yr', u', nn', nb', k3⟩
    · refine pair_no h ?_ ?_
      · rw [X11_from, within_b, e0, cA_e, bi_if, if_pos rfl, aI_n 1 (by decide), k1, if_pos rfl, cA_of (C_no σ)]
      · have hq : (noC σ).1 85 = σ.1 85 := up1_n (by decide)
        generalize noC σ = ρ at hq ⊢
        rw [X12_from, in_01, e0, cA_e, bi_if, if_pos rfl, aI_n 1 (by decide), hq, k2, if_pos rfl, cA_of (M_no ρ)]
    · obtain ⟨τ, c1, c2, c3, c4⟩ := C_take_1_42 σ
      have c1' : X10_take 1 (29 + 13 * 1) σ = some ((), τ) := c1
      obtain ⟨f', m1, m2, m3⟩ := M_fromL (σ := τ) (i := 1) (by decide) 209 0 FU (τ.1 83) rfl (by decide)
      rw [up1_id] at m1
      have t85 : τ.1 85 = σ.1 85 := c3 85 (by omega)
      have t84 : τ.1 84 = σ.1 84 := c3 84 (by omega)
      refine ⟨1, τ, up1 τ 83 f', ?_, ?_, ?_⟩
      · rw [X11_from, within_b, e0, cA_e, bi_if, if_pos rfl, aI_n 1 (by decide), k1, if_neg (by decide), aR_n 1 (by decide), cA_of c1']
      · rw [X12_from, in_01, e0, cA_e, bi_if, if_pos rfl, aI_n 1 (by decide), t85, k2, if_neg (by decide)]
        exact m1
      · refine h.n (FrN.tr (b := τ) ⟨fun k hk => c3 k (by unfold isN at hk; omega), c4⟩ (FrN.up (by unfold isN; omega))) ⟨n', yr', u', nn', nb', ?_⟩
        rw [up1_s]
        have w := c2 _ f' n' yr' u' nn' nb' k3 (fun k hk => by
          have a1 := k3.uy
          have a2 := k3.y8
          rw [m2 k (by omega) (by omega), t84])
        exact w.cell (fun i hi => up1_n (by omega))

-- a year
theorem some_fst {α : Type} {a b : α} {s t : Sta} (h : (some (a, s) : Option (α × Sta)) = some (b, t)) : a = b := congrArg Prod.fst (Option.some.inj h)
theorem C_yearS {σ : Sta} {N : Nat → Int32} {n yr u nn nb : Nat} (hv : VR σ.1 1 N n yr u nn nb) (hy : yr < 8) : ∃ τ, X11_year σ = some ((hs (gN N ch0 (soN N) (woN N) (qN N) yr) n).1, τ) ∧ τ.1 1 = upd (upd (σ.1 1) 11 (nI (yr + 1))) 12 (nI (u + 1)) ∧ τ.1 6 = addW (σ.1 6) (hs (gN N ch0 (soN N) (woN N) (qN N) yr) n).1 yr ∧ τ.1 7 = addS (σ.1 7) (hs (gN N ch0 (soN N) (woN N) (qN N) yr) n).2.2.1 ∧ τ.1 8 = upd (σ.1 8) yr (hs (gN N ch0 (soN N) (woN N) (qN N) yr) n).1 ∧ τ.1 9 = upd (σ.1 9) yr (hs (gN N ch0 (soN N) (woN N) (qN N) yr) n).2.2.1 ∧ (∀ k, k ≠ 1 → k < 6 ∨ 9 < k → ¬ isQ k → τ.1 k = σ.1 k) ∧ τ.2 = σ.2 := by
  have hn := hv.n6
  have ab := allByKind_e 55 σ
  have h57 : ∀ j, j < 6 → (up1 σ (55 + 2) (fun j => if j < 6 then -1 else σ.1 (55 + 2) j)).1 57 j = -1 := fun j hj => by
    rw [show 57 = 55 + 2 from rfl, up1_s, if_pos hj]
  have hs1 : ∀ k, k ≠ 57 → (up1 σ (55 + 2) (fun j => if j < 6 then -1 else σ.1 (55 + 2) j)).1 k = σ.1 k := fun k hk => up1_n hk
  have h2 : (up1 σ (55 + 2) (fun j => if j < 6 then -1 else σ.1 (55 + 2) j)).2 = σ.2 := rfl
  generalize up1 σ (55 + 2) (fun j => if j < 6 then -1 else σ.1 (55 + 2) j) = ρ at *
  have hv1 : VR ρ.1 1 N n yr u nn nb := hv.cell (fun i hi => hs1 _ (by omega))
  obtain ⟨f, g1, g2, g3, g4⟩ := C_hold (c := 55) (r := 1) (y := yr) (by intro i hi; omega) hv1.s10 hv1.wfc hy
  have eg : ∀ p, p < n → gSt 55 1 ρ yr p = gN N ch0 (soN N) (woN N) (qN N) yr p := fun p hp => some_fst ((C_strength (c := 55) (r := 1) hv1.s10 hv1.wfc hp hy).symm.trans (hv1.str1 h57 hp hy))
  rw [hs_ag n eg] at g3 g4
  obtain ⟨w1, w2⟩ := hs_who (gN N ch0 (soN N) (woN N) (qN N) yr) n
  generalize hs (gN N ch0 (soN N) (woN N) (qN N) yr) n = q at *
  have hp := C_pass (r := 1) (σ := up1 ρ 55 f) (n := n) (y := yr) (a := f 3) (b := f 4) (by rw [up1_n (by decide)]; exact hv1.s10) hn (by rw [up1_n (by decide)]; exact hv1.s11) hy (by rw [g3]; exact w1) (by rw [g4]; exact w2)
  refine ⟨passed 1 (up1 ρ 55 f) (f 3) (f 4) yr, ?_, ?_, ?_, ?_, ?_, ?_, ?_, ?_⟩
  · rw [X11_year, fI_e, hv.s11, if_pos (lt8 hy), cA_of ab, fI_e, hv1.s11, cA_of g1, fI_e, fI_e, up1_s, cA_of hp, fI_e]
    have e55 : (passed 1 (up1 ρ 55 f) (f 3) (f 4) yr).1 55 = f := by simp [passed, up1, va_up]
    rw [e55, g3]
  · have e : (passed 1 (up1 ρ 55 f) (f 3) (f 4) yr).1 1 = upd (upd (ρ.1 1) 11 (nI (yr + 1))) 12 (ρ.1 1 12 + 1) := by simp [passed, up1, va_up]
    rw [e, hs1 1 (by decide), hv.s12, nI_1]
  · rw [← g3, ← hs1 6 (by decide)]; simp [passed, up1, va_up]
  · rw [← g4, ← hs1 7 (by decide)]; simp [passed, up1, va_up]
  · rw [← g3, ← hs1 8 (by decide)]; simp [passed, up1, va_up]
  · rw [← g4, ← hs1 9 (by decide)]; simp [passed, up1, va_up]
  · intro k k1 k2 k3
    have q1 : k ≠ 55 ∧ k ≠ 57 ∧ k ≠ 6 ∧ k ≠ 7 ∧ k ≠ 8 ∧ k ≠ 9 := by unfold isQ at k3; omega
    obtain ⟨b1, b2, b3, b4, b5, b6⟩ := q1
    rw [← hs1 k b2]
    simp [passed, up1, va_up, k1, b1, b3, b4, b5, b6]
  · exact h2
theorem lt13 {i : Nat} (h : i < 13) : nI i < (13 : Int32) := nI_lt (b := 13) h (by decide)
theorem m105 (u k : Nat) : ((105 : Int32) + (13 : Int32) * nI u) + nI k = nI (105 + 13 * u + k) := by
  have h : (13 : Int32) = nI 13 := rfl
  have h2 : (105 : Int32) = nI 105 := rfl
  rw [h, h2, pk_mul, nI_add, nI_add]
theorem M_keepL {σ : Sta} {N : Nat → Int32} {u : Nat} (hu : u < 8) : ∀ (d k fu : Nat) (f : Nat → Int32), k + d = 13 → d < fu → f 3 = nI u → (∀ i, i < 13 → f (4 + i) = N (4 + i)) → ∃ f', X12_keep_L53 fu (nI k) (up1 σ 83 f) = some ((), up1 σ 83 f') ∧ f' 3 = nI (u + 1) ∧ (∀ i, i < 13 → k ≤ i → f' (105 + 13 * u + i) = N (4 + i)) ∧ (∀ j, j ≠ 3 → j < 105 + 13 * u + k ∨ 105 + 13 * u + 13 ≤ j → f' j = f j)
  | d, k, 0, f, _, h, _, _ => by omega
  | 0, k, fu + 1, f, hk, _, h3, h4 => by
    have e : k = 13 := by omega
    subst e
    refine ⟨upd f 3 (nI (u + 1)), ?_, updS _ _ _, fun j h1 h2 => by omega, fun j hj _ => updN hj⟩
    rw [X12_keep_L53, if_neg (by decide), aI3, up1_s, h3, sI3, up1_s, up1_u, nI_1]
  | d + 1, k, fu + 1, f, hk, hf, h3, h4 => by
    obtain ⟨f', e1, e2, e3, e4⟩ := M_keepL (σ := σ) (N := N) hu d (k + 1) fu (upd f (105 + 13 * u + k) (N (4 + k))) (by omega) (by omega) (by rw [updN (by omega)]; exact h3) (fun i hi => by rw [updN (by omega)]; exact h4 i hi)
    refine ⟨f', ?_, e2, fun j h1 h2 => ?_, fun j hj h2 => ?_⟩
    · rw [X12_keep_L53, if_pos (lt13 (by omega)), aI3, up1_s, h3, a4, aI_n (4 + k) (by omega), up1_s, h4 k (by omega), m105, sI_n (105 + 13 * u + k) (by omega), up1_s, up1_u, nI_1]
      exact e1
    · by_cases e : j = k
      · rw [e, e4 _ (by omega) (by omega), updS]
      · exact e3 j h1 (by omega)
    · rw [e4 j hj (by omega), updN (by omega)]
theorem M_yearL {σ : Sta} {n : Nat} {a : Int32} (hn : n ≤ 6) : ∀ (d p fu : Nat) (f : Nat → Int32), p + d = n → d < fu → f 0 = nI n → ∃ f', X12_year_L37 fu a (nI p) (up1 σ 83 f) = some (a, up1 σ 83 f') ∧ f' 4 = f 4 + 1 ∧ (∀ i, i < n → p ≤ i → f' (5 + i) = σ.1 87 i ∧ f' (11 + i) = σ.1 88 i) ∧ (∀ i, i < p → f' (5 + i) = f (5 + i) ∧ f' (11 + i) = f (11 + i)) ∧ (∀ j, j < 4 ∨ 17 ≤ j → f' j = f j)
  | d, p, 0, f, _, h, _ => by omega
  | 0, p, fu + 1, f, hp, _, h0 => by
    have e : p = n := by omega
    subst e
    refine ⟨upd f 4 (f 4 + 1), ?_, updS _ _ _, fun j h1 h2 => by omega, fun i hi => ⟨updN (by omega), updN (by omega)⟩, fun j hj => updN (by omega)⟩
    rw [X12_year_L37, cA_of (M_many _), up1_s, h0, if_neg (nI_nlt (Nat.le_refl _) (by omega)), aI4, up1_s, sI4, up1_s, up1_u]
  | d + 1, p, fu + 1, f, hp, hf, h0 => by
    obtain ⟨f', e1, e2, e3, e4, e5⟩ := M_yearL (σ := σ) (a := a) hn d (p + 1) fu (upd (upd f (5 + p) (σ.1 87 p)) (11 + p) (σ.1 88 p)) (by omega) (by omega) (by rw [updN (by omega), updN (by omega)]; exact h0)
    refine ⟨f', ?_, ?_, fun i h1 h2 => ?_, fun i hi => ?_, fun j hj => ?_⟩
    · rw [X12_year_L37, cA_of (M_many _), up1_s, h0, if_pos (nI_lt (by omega) (by omega)), aI_n p (by omega), up1_n (by decide), a5, sI_n (5 + p) (by omega), up1_s, up1_u, aI_n p (by omega), up1_n (by decide), a11, sI_n (11 + p) (by omega), up1_s, up1_u, nI_1]
      exact e1
    · rw [e2, updN (by omega), updN (by omega)]
    · by_cases e : i = p
      · subst e
        obtain ⟨x1, x2⟩ := e4 i (by omega)
        rw [x1, x2, updN (show 5 + i ≠ 11 + i by omega), updS, updS]
        exact ⟨rfl, rfl⟩
      · exact e3 i h1 (by omega)
    · obtain ⟨x1, x2⟩ := e4 i (by omega)
      rw [x1, x2, updN (by omega), updN (by omega), updN (by omega), updN (by omega)]
      exact ⟨rfl, rfl⟩
    · rw [e5 j hj, updN (by omega), updN (by omega)]
theorem orlt {w y : Nat} (h : w < 2 ^ y) (hy : y < 8) : ∃ v, v < 2 ^ (y + 1) ∧ nI w ||| ((1 : Int32) <<< (nI y &&& 31)) = nI v := by
  have h8 : w < 256 := Nat.lt_of_lt_of_le h (Nat.pow_le_pow_right (n := 2) (by decide) (show y ≤ 8 by omega))
  refine ⟨w ||| 2 ^ y, ?_, (orb w h8 y hy).1⟩
  exact Nat.or_lt_two_pow (Nat.lt_of_lt_of_le h (Nat.pow_le_pow_right (by decide) (by omega))) (Nat.pow_lt_pow_right (by decide) (by omega))
theorem addW_lt {n y p : Nat} {w : Nat → Int32} {x : Int32} (hn : n ≤ 6) (h : ∀ p, p < n → ∃ v, v < 2 ^ y ∧ w p = nI v) (hy : y < 8) (hx : who n x) (hp : p < n) : ∃ v, v < 2 ^ (y + 1) ∧ addW w x y p = nI v := by
  obtain ⟨v, hv, ev⟩ := h p hp
  have small : ∃ v, v < 2 ^ (y + 1) ∧ w p = nI v := ⟨v, Nat.lt_of_lt_of_le hv (Nat.pow_le_pow_right (by decide) (by omega)), ev⟩
  rcases hx with rfl | ⟨i, hi, rfl⟩
  · rw [addW, if_pos rfl]; exact small
  · rw [addW, if_neg (nm1 (by omega)), kno_n (by omega)]
    by_cases e : p = i
    · subst e
      rw [updS, ev]
      exact orlt hv hy
    · rw [updN e]; exact small
theorem P_year {σ : Sta} (h : Inv σ) : Pair X11_year X12_year σ := by
  obtain ⟨n, yr, u, nn, nb, hv⟩ := h.1
  have hn := hv.n6
  have huy := hv.uy
  have hy8 := hv.y8
  by_cases c8 : yr = 8
  · subst c8
    refine pair_no h ?_ ?_
    · rw [X11_year, fI_e, hv.s11, if_neg nlt8, cA_of (C_no σ)]
    · have hq : (noC σ).1 83 = σ.1 83 := up1_n (by decide)
      generalize noC σ = ρ at hq ⊢
      rw [X12_year, aI4, hq, hv.N4, if_pos (show nI 8 = (8 : Int32) from rfl), cA_of (M_no ρ)]
  have hy : yr < 8 := by omega
  obtain ⟨τ, c1, c2, c3, c4, c5, c6, c7, c9⟩ := C_yearS hv hy
  have t83 : τ.1 83 = σ.1 83 := c7 83 (by omega) (by omega) (by unfold isQ; omega)
  obtain ⟨N1, k1, k2, k3, k4⟩ := M_keepL (σ := τ) (N := σ.1 83) (u := u) (by omega) 13 0 FU (σ.1 83) rfl (by decide) hv.N3 (fun i hi => rfl)
  rw [← t83, up1_id] at k1
  have kk : X12_keep τ = some ((), up1 τ 83 N1) := by
    rw [X12_keep, aI3, t83, hv.N3, if_neg (show ¬ nI u = (8 : Int32) from fun e => by have := (nI_eq (b := 8) (by omega) (by omega)).mp e; omega)]
    exact k1
  have n0 : N1 0 = nI n := by rw [k4 0 (by omega) (by omega)]; exact hv.N0
  have n4 : N1 4 = nI yr := by rw [k4 4 (by omega) (by omega)]; exact hv.N4
  have nlo : ∀ j, j ≠ 3 → j < 105 → N1 j = σ.1 83 j := fun j j1 j2 => k4 j j1 (by omega)
  have hag : Ag n ch0 (kM (σ.1 83)) (aM (σ.1 83)) (soN (σ.1 83)) (woN (σ.1 83)) ch0 (kM N1) (aM N1) (soN N1) (woN N1) := ⟨fun p hp => ⟨rfl, (nlo _ (by omega) (by omega)).symm, fun t ht => (nlo _ (by omega) (by omega)).symm⟩, fun y hy => ⟨(nlo _ (by omega) (by omega)).symm, (nlo _ (by omega) (by omega)).symm⟩⟩
  have hqq : AgQ n (qN (σ.1 83)) (qN N1) := fun p hp => ⟨(nlo _ (by omega) (by omega)).symm, (nlo _ (by omega) (by omega)).symm⟩
  have hw1 : Wf N1 n (soN N1) (woN N1) (qN N1) := WF_ag hag (fun p hp => (hqq p hp).1) hv.wf
  obtain ⟨ρ1, l1, l2, l3⟩ := lay1 (N := N1) (n := n) hn n0 n 0 FU (up1 τ 83 N1) (by omega) (by show n < 300; omega) (up1_s _ _ _) (fun i hi => by omega)
  have l1' : X12_layHand (up1 τ 83 N1) = some ((), ρ1) := l1
  obtain ⟨ρ2, g1, g2, g3⟩ := HM_year l2 hw1 hy
  have eh : hs (gN N1 ch0 (soN N1) (woN N1) (qN N1) yr) n = hs (gN (σ.1 83) ch0 (soN (σ.1 83)) (woN (σ.1 83)) (qN (σ.1 83)) yr) n := (hs_ag n (fun p hp => stg_ag hag hv.wf (hqq p hp).1 hp hy)).symm
  rw [eh] at g1
  obtain ⟨w1, w2⟩ := hs_who (gN (σ.1 83) ch0 (soN (σ.1 83)) (woN (σ.1 83)) (qN (σ.1 83)) yr) n
  have hst : AgQ n (sN (σ.1 83) n ch0 (soN (σ.1 83)) (woN (σ.1 83)) yr (qN (σ.1 83))) (sN N1 n ch0 (soN N1) (woN N1) yr (qN N1)) := stp_ag hag hv.wf hqq hy
  have e83 : ρ2.1 83 = N1 := g2.1
  obtain ⟨N2, y1, y2, y3, y4, y5⟩ := M_yearL (σ := ρ2) (n := n) (a := (hs (gN (σ.1 83) ch0 (soN (σ.1 83)) (woN (σ.1 83)) (qN (σ.1 83)) yr) n).1) hn n 0 FU N1 (by omega) (by show n < 300; omega) n0
  rw [← e83, up1_id] at y1
  have sN1 : ∀ p, p < n → N2 (5 + p) = addW (qN (σ.1 83)).1 (hs (gN (σ.1 83) ch0 (soN (σ.1 83)) (woN (σ.1 83)) (qN (σ.1 83)) yr) n).1 yr p ∧ N2 (11 + p) = addS (qN (σ.1 83)).2 (hs (gN (σ.1 83) ch0 (soN (σ.1 83)) (woN (σ.1 83)) (qN (σ.1 83)) yr) n).2.2.1 p := by
    intro p hp
    obtain ⟨a1, a2⟩ := y3 p hp (by omega)
    obtain ⟨b1, b2, b3, b4⟩ := g2.2.2.1 p hp
    rw [a1, a2, ← b3, ← b4, ← (hst p hp).1, ← (hst p hp).2]
    exact ⟨rfl, rfl⟩
  generalize hs (gN (σ.1 83) ch0 (soN (σ.1 83)) (woN (σ.1 83)) (qN (σ.1 83)) yr) n = q at *
  have f1 : FrN σ τ := ⟨fun k hk => c7 k (by unfold isN at hk; omega) (by unfold isN at hk; omega) (fun e => hk (Or.inr (Or.inr e))), c9⟩
  refine ⟨q.1, τ, up1 ρ2 83 N2, c1, ?_, ?_⟩
  · rw [X12_year, aI4, t83, hv.N4, if_neg (show ¬ nI yr = (8 : Int32) from fun e => c8 ((nI_eq (b := 8) (by omega) (by omega)).mp e)), cA_of kk, cA_of l1', aI4, l2.1, n4, cA_of g1]
    exact y1
  · refine h.n ((f1.tr (FrN.up (k := 83) (f := N1) (by unfold isN; omega))).tr ((l3.q.nn.tr g3.q.nn).tr (FrN.up (k := 83) (f := N2) (by unfold isN; omega)))) ⟨n, yr + 1, u + 1, nn, nb, ?_⟩
    rw [up1_s]
    have hS : ∀ k, k ≤ 13 → (up1 ρ2 83 N2).1 k = τ.1 k := fun k hk => by
      rw [up1_n (by omega), g3.1 k (by omega) (by omega), l3.1 k (by unfold isL; omega), up1_n (by omega)]
    have hvc : VR (up1 ρ2 83 N2).1 1 N2 n (yr + 1) (u + 1) nn nb → VR (up1 ρ2 83 N2).1 1 N2 n (yr + 1) (u + 1) nn nb := id
    refine hvc ?_
    have n2o : ∀ j, j ≠ 3 → j < 4 ∨ 17 ≤ j → j < 105 → N2 j = σ.1 83 j := fun j j1 j2 j3 => by rw [y5 j j2, nlo j j1 j3]
    refine VR.mk ⟨hn, by omega, by omega, hv.nn6, hv.nb6⟩ ⟨?_, ?_, ?_, ?_, ?_⟩ ⟨?_, ?_, ?_, ?_, ?_⟩ ⟨fun p hp => ⟨?_, ?_, ?_, fun t ht => ?_⟩, fun p hp => ?_, fun p hp t ht => ?_, fun p hp => ?_⟩ (hv.gye.c (by rw [hS _ (by omega)]; exact c7 _ (by omega) (by omega) (by unfold isQ; omega)) (by rw [hS _ (by omega)]; exact c7 _ (by omega) (by omega) (by unfold isQ; omega)) (fun k k1 k2 => n2o k (by omega) (by omega) (by omega))) (hv.gno.c hv.nn6 (by rw [hS _ (by omega)]; exact c7 _ (by omega) (by omega) (by unfold isQ; omega)) (fun k k1 k2 => n2o k (by omega) (by omega) (by omega))) (hv.gbe.c hv.nb6 (Nat.le_refl _) (by rw [hS _ (by omega)]; exact c7 _ (by omega) (by omega) (by unfold isQ; omega)) (fun k k1 k2 => n2o k (by omega) (by omega) (by omega))) ?_
    · rw [hS 1 (by omega), c2, updN (by decide), updN (by decide)]; exact hv.s10
    · rw [hS 1 (by omega), c2, updN (by decide), updS]
    · rw [hS 1 (by omega), c2, updS]
    · rw [hS (1 + 9) (by omega), c7 (1 + 9) (by omega) (by omega) (by unfold isQ; omega)]; exact hv.sn
    · rw [hS (1 + 11) (by omega), c7 (1 + 11) (by omega) (by omega) (by unfold isQ; omega)]; exact hv.sb
    · rw [n2o 0 (by omega) (by omega) (by omega)]; exact hv.N0
    · rw [n2o 1 (by omega) (by omega) (by omega)]; exact hv.N1
    · rw [n2o 2 (by omega) (by omega) (by omega)]; exact hv.N2
    · rw [y5 3 (by omega), k2]
    · rw [y2, n4, nI_1]
    · rw [hS (1 + 3) (by omega), c7 (1 + 3) (by omega) (by omega) (by unfold isQ; omega), n2o _ (by omega) (by omega) (by omega)]; exact (hv.pe p hp).1
    · rw [hS (1 + 5) (by omega), show 1 + 5 = 6 from rfl, c3, (sN1 p hp).1]
      exact addW_ag (n := n) (fun p hp => (hv.pe p hp).2.1) hn w1 hp
    · rw [hS (1 + 6) (by omega), show 1 + 6 = 7 from rfl, c4, (sN1 p hp).2]
      exact addS_ag (n := n) (fun p hp => (hv.pe p hp).2.2.1) hn w2 hp
    · rw [hS (1 + 4) (by omega), c7 (1 + 4) (by omega) (by omega) (by unfold isQ; omega), n2o _ (by omega) (by omega) (by omega)]; exact (hv.pe p hp).2.2.2 t ht
    · rw [n2o _ (by omega) (by omega) (by omega)]; exact hv.kd p hp
    · rw [n2o _ (by omega) (by omega) (by omega)]; exact hv.ar p hp t ht
    · rw [(sN1 p hp).1]
      exact addW_lt hn hv.wi hy w1 hp
    · rw [hS (1 + 7) (by omega), hS (1 + 8) (by omega), show 1 + 7 = 8 from rfl, show 1 + 8 = 9 from rfl, c5, c6]
      have past : ∀ i, i < 13 → N2 (105 + 13 * u + i) = σ.1 83 (4 + i) := fun i hi => by rw [y5 _ (by omega), k3 i hi (by omega)]
      refine ⟨yr, rfl, by rw [show 105 + 13 * u = 105 + 13 * u + 0 from rfl, past 0 (by omega)]; exact hv.N4, by rw [updS]; exact w1, by rw [updS]; exact w2, fun p hp => ⟨?_, ?_, ?_⟩, ?_⟩
      · rw [updS, show 4 + (1 + p) = 5 + p by omega, (sN1 p hp).1]
        exact addW_ag (n := n) (fun p hp => by rw [past (1 + p) (by omega), show 4 + (1 + p) = 5 + p by omega]; rfl) hn w1 hp
      · rw [updS, show 4 + (7 + p) = 11 + p by omega, (sN1 p hp).2]
        exact addS_ag (n := n) (fun p hp => by rw [past (7 + p) (by omega), show 4 + (7 + p) = 11 + p by omega]; rfl) hn w2 hp
      · obtain ⟨w, hw, ew⟩ := hv.wi p hp
        exact ⟨w, hw, by rw [past (1 + p) (by omega), show 4 + (1 + p) = 5 + p by omega]; exact ew⟩
      · exact Hist_c hn u yr 4 (105 + 13 * u) hv.hi (fun k k1 k2 => by rw [y5 k (by omega), k4 k (by omega) (by omega)]) past (fun y hy => ⟨updN (by omega), updN (by omega)⟩)
-- undoing
def backW (w : Nat → Int32) (x : Int32) (y : Nat) : Nat → Int32 := if x = -1 then w else upd w (kno x) (w (kno x) &&& (((1 : Int32) <<< (nI y &&& 31)) ^^^ (-1 : Int32)))
def backS (q : Nat → Int32) (x : Int32) : Nat → Int32 := if x = -1 then q else upd q (kno x) (q (kno x) - 1)
theorem C_takeBack {n y u : Nat} {σ : Sta} {a b : Int32} (hn0 : σ.1 1 10 = nI n) (hn6 : n ≤ 6) (hy0 : σ.1 1 11 = nI (y + 1)) (hu0 : σ.1 1 12 = nI (u + 1)) (hy : y < 8) (hu : u < 8) (ea : σ.1 8 y = a) (eb : σ.1 9 y = b) (ha : who n a) (hb : who n b) : X10_takeBack 1 σ = some ((), up1 (up1 (up1 σ 1 (upd (upd (σ.1 1) 11 (nI y)) 12 (nI u))) 6 (backW (σ.1 6) a y)) 7 (backS (σ.1 7) b)) := by
  have l95 : ∀ τ : Sta, τ.1 1 10 = nI n → X10_takeBack_L95 1 b τ = some ((), up1 τ 7 (backS (τ.1 7) b)) := by
    intro τ ht
    rw [X10_takeBack_L95, fI_e, ht]
    rcases hb with rfl | ⟨i, hi, rfl⟩
    · rw [cA_of within_m1, if_pos rfl, backS, if_pos rfl, up1_id]
    · rw [cA_of (within_ct hi (by omega)), if_neg n10, aI_n i (by omega), sI_n i (by omega), backS, if_neg (nm1 (by omega)), kno_n (by omega)]
  have p1 : (0 : Int32) < nI (y + 1) := nI_lt (a := 0) (by omega) (by omega)
  have p2 : ¬ (8 : Int32) < nI (y + 1) := nI_nlt (a := 8) (by omega) (by omega)
  have p3 : (0 : Int32) < nI (u + 1) := nI_lt (a := 0) (by omega) (by omega)
  rw [X10_takeBack, fI_e, hy0, if_pos p1, fI_e, hy0, if_neg p2, fI_e, hu0, if_pos p3, fI_e, hy0, nI_pred, pI_e, fI_e, up1_s, updN (by decide), hu0, nI_pred, pI_e, up1_s, up1_u, fI_e, up1_s, updN (by decide), updS, aI_n y (by omega), up1_n (show 1 + 7 ≠ 1 by decide), fI_e, up1_s, updN (by decide), updS, aI_n y (by omega), up1_n (show 1 + 8 ≠ 1 by decide), fI_e, up1_s, updN (by decide), updN (by decide), hn0, show σ.1 (1 + 7) y = a from ea, show σ.1 (1 + 8) y = b from eb]
  rcases ha with rfl | ⟨i, hi, rfl⟩
  · rw [cA_of within_m1, if_pos rfl, l95 _ (by rw [up1_s, updN (by decide), updN (by decide)]; exact hn0), backW, if_pos rfl, up1_n (show 7 ≠ 1 by decide)]
    have e : up1 (up1 σ 1 (upd (upd (σ.1 1) 11 (nI y)) 12 (nI u))) 6 (σ.1 6) = up1 σ 1 (upd (upd (σ.1 1) 11 (nI y)) 12 (nI u)) := by
      have q : (up1 σ 1 (upd (upd (σ.1 1) 11 (nI y)) 12 (nI u))).1 6 = σ.1 6 := up1_n (by decide)
      rw [← q, up1_id]
    rw [e]
  · rw [cA_of (within_ct hi (by omega)), if_neg n10, aI_n i (by omega), fI_e, up1_s, updN (by decide), updS, sI_n i (by omega), l95 _ (by rw [up1_n (by decide), up1_s, updN (by decide), updN (by decide)]; exact hn0), backW, if_neg (nm1 (by omega)), kno_n (by omega), up1_n (show 7 ≠ 1 + 5 by decide), up1_n (show 7 ≠ 1 by decide), up1_n (show 1 + 5 ≠ 1 by decide)]
theorem M_undoL {σ : Sta} {u : Nat} {N : Nat → Int32} (hu : u < 8) : ∀ (d k fu : Nat) (f : Nat → Int32), k + d = 13 → d < fu → f 3 = nI u → (∀ i, i < 13 → f (105 + 13 * u + i) = N (105 + 13 * u + i)) → ∃ f', X12_undo_L26 fu (nI k) (up1 σ 83 f) = some (f' 4, up1 σ 83 f') ∧ (∀ i, i < 13 → k ≤ i → f' (4 + i) = N (105 + 13 * u + i)) ∧ (∀ j, j < 4 + k ∨ 17 ≤ j → f' j = f j)
  | d, k, 0, f, _, h, _, _ => by omega
  | 0, k, fu + 1, f, hk, _, h3, h4 => by
    have e : k = 13 := by omega
    subst e
    refine ⟨f, ?_, fun j h1 h2 => by omega, fun j hj => rfl⟩
    rw [X12_undo_L26, if_neg (by decide), aI4, up1_s]
  | d + 1, k, fu + 1, f, hk, hf, h3, h4 => by
    obtain ⟨f', e1, e3, e4⟩ := M_undoL (σ := σ) (N := N) hu d (k + 1) fu (upd f (4 + k) (N (105 + 13 * u + k))) (by omega) (by omega) (by rw [updN (by omega)]; exact h3) (fun i hi => by rw [updN (by omega)]; exact h4 i hi)
    refine ⟨f', ?_, fun j h1 h2 => ?_, fun j hj => ?_⟩
    · rw [X12_undo_L26, if_pos (lt13 (by omega)), aI3, up1_s, h3, m105, aI_n (105 + 13 * u + k) (by omega), up1_s, h4 k (by omega), a4, sI_n (4 + k) (by omega), up1_s, up1_u, nI_1]
      exact e1
    · by_cases e : j = k
      · rw [e, e4 _ (by omega), updS]
      · exact e3 j h1 (by omega)
    · rw [e4 j (by omega), updN (by omega)]
theorem andb : ∀ y, y < 8 → ∀ w, w < 2 ^ y → (nI w ||| ((1 : Int32) <<< (nI y &&& 31))) &&& (((1 : Int32) <<< (nI y &&& 31)) ^^^ (-1 : Int32)) = nI w := by decide +kernel
theorem backW_e {n y p : Nat} {v w : Nat → Int32} {x : Int32} (hn : n ≤ 6) (hy : y < 8) (hx : who n x) (hp : p < n) (h : ∀ p, p < n → v p = addW w x y p) (hw : ∀ p, p < n → ∃ k, k < 2 ^ y ∧ w p = nI k) : backW v x y p = w p := by
  rcases hx with rfl | ⟨i, hi, rfl⟩
  · rw [backW, if_pos rfl, h p hp, addW, if_pos rfl]
  · rw [backW, if_neg (nm1 (by omega)), kno_n (by omega)]
    by_cases e : p = i
    · subst e
      obtain ⟨k, hk, ek⟩ := hw p hp
      rw [updS, h p hp, addW, if_neg (nm1 (by omega)), kno_n (by omega), updS, ek]
      exact andb y hy k hk
    · rw [updN e, h p hp, addW, if_neg (nm1 (by omega)), kno_n (by omega), updN e]
theorem backS_e {n p : Nat} {v w : Nat → Int32} {x : Int32} (hn : n ≤ 6) (hx : who n x) (hp : p < n) (h : ∀ p, p < n → v p = addS w x p) : backS v x p = w p := by
  rcases hx with rfl | ⟨i, hi, rfl⟩
  · rw [backS, if_pos rfl, h p hp, addS, if_pos rfl]
  · rw [backS, if_neg (nm1 (by omega)), kno_n (by omega)]
    by_cases e : p = i
    · subst e
      rw [updS, h p hp, addS, if_neg (nm1 (by omega)), kno_n (by omega), updS, Int32.add_sub_cancel]
    · rw [updN e, h p hp, addS, if_neg (nm1 (by omega)), kno_n (by omega), updN e]
theorem P_undo {σ : Sta} (h : Inv σ) : Pair X11_undo X12_undo σ := by
  obtain ⟨n, yr, u, nn, nb, hv⟩ := h.1
  have hn := hv.n6
  have huy := hv.uy
  have hy8 := hv.y8
  cases u with
  | zero =>
    refine pair_no h ?_ ?_
    · rw [X11_undo, fI_e, hv.s12, if_neg (by decide), cA_of (C_no σ)]
    · have hq : (noC σ).1 83 = σ.1 83 := up1_n (by decide)
      generalize noC σ = ρ at hq ⊢
      rw [X12_undo, aI3, hq, hv.N3, if_pos (show nI 0 = (0 : Int32) from rfl), cA_of (M_no ρ)]
  | succ u =>
    obtain ⟨y, ey, d1, d2, d3, d4, d5⟩ := hv.hi
    subst ey
    have w1 := hv.pe
    have hc := C_takeBack hv.s10 hn hv.s11 hv.s12 (by omega) (by omega) rfl rfl d2 d3
    have u83 : (up1 (up1 (up1 σ 1 (upd (upd (σ.1 1) 11 (nI y)) 12 (nI u))) 6 (backW (σ.1 6) (σ.1 8 y) y)) 7 (backS (σ.1 7) (σ.1 9 y))).1 83 = σ.1 83 := by rw [up1_n (by decide), up1_n (by decide), up1_n (by decide)]
    have s1 : (up1 (up1 (up1 σ 1 (upd (upd (σ.1 1) 11 (nI y)) 12 (nI u))) 6 (backW (σ.1 6) (σ.1 8 y) y)) 7 (backS (σ.1 7) (σ.1 9 y))).1 1 = upd (upd (σ.1 1) 11 (nI y)) 12 (nI u) := by rw [up1_n (by decide), up1_n (by decide), up1_s]
    have s6 : (up1 (up1 (up1 σ 1 (upd (upd (σ.1 1) 11 (nI y)) 12 (nI u))) 6 (backW (σ.1 6) (σ.1 8 y) y)) 7 (backS (σ.1 7) (σ.1 9 y))).1 6 = backW (σ.1 6) (σ.1 8 y) y := by rw [up1_n (by decide), up1_s]
    have s7 : (up1 (up1 (up1 σ 1 (upd (upd (σ.1 1) 11 (nI y)) 12 (nI u))) 6 (backW (σ.1 6) (σ.1 8 y) y)) 7 (backS (σ.1 7) (σ.1 9 y))).1 7 = backS (σ.1 7) (σ.1 9 y) := up1_s _ _ _
    have so : ∀ k, k ≠ 1 → k ≠ 6 → k ≠ 7 → (up1 (up1 (up1 σ 1 (upd (upd (σ.1 1) 11 (nI y)) 12 (nI u))) 6 (backW (σ.1 6) (σ.1 8 y) y)) 7 (backS (σ.1 7) (σ.1 9 y))).1 k = σ.1 k := fun k k1 k2 k3 => by rw [up1_n k3, up1_n k2, up1_n k1]
    have s2 : (up1 (up1 (up1 σ 1 (upd (upd (σ.1 1) 11 (nI y)) 12 (nI u))) 6 (backW (σ.1 6) (σ.1 8 y) y)) 7 (backS (σ.1 7) (σ.1 9 y))).2 = σ.2 := rfl
    generalize up1 (up1 (up1 σ 1 (upd (upd (σ.1 1) 11 (nI y)) 12 (nI u))) 6 (backW (σ.1 6) (σ.1 8 y) y)) 7 (backS (σ.1 7) (σ.1 9 y)) = τ at *
    obtain ⟨N2, m1, m2, m3⟩ := M_undoL (σ := τ) (N := σ.1 83) (u := u) (by omega) 13 0 FU (upd (σ.1 83) 3 (nI u)) rfl (by decide) (updS _ _ _) (fun i hi => updN (by omega))
    have f4 : N2 4 = nI y := (m2 0 (by omega) (by omega)).trans d1
    rw [f4] at m1
    refine ⟨nI y, τ, up1 τ 83 N2, ?_, ?_, ?_⟩
    · rw [X11_undo, fI_e, hv.s12, if_pos (show (0 : Int32) < nI (u + 1) from nI_lt (a := 0) (by omega) (by omega)), cA_of hc, fI_e, s1, updN (by decide), updS]
    · rw [X12_undo, aI3, u83, hv.N3, if_neg (nI_ne0 (by omega) (by omega)), aI3, u83, hv.N3, nI_pred, sI3, u83]
      exact m1
    · refine h.n (FrN.tr (b := τ) ⟨fun k hk => so k (by unfold isN at hk; omega) (by unfold isN at hk; omega) (by unfold isN at hk; omega), s2⟩ (FrN.up (by unfold isN; omega))) ⟨n, y, u, nn, nb, ?_⟩
      rw [up1_s]
      have hS : ∀ k, k ≤ 13 → (up1 τ 83 N2).1 k = τ.1 k := fun k hk => up1_n (by omega)
      have n2o : ∀ j, j ≠ 3 → j < 4 ∨ 17 ≤ j → N2 j = σ.1 83 j := fun j j1 j2 => by rw [m3 j (by omega), updN j1]
      have wins : ∀ p, p < n → N2 (5 + p) = σ.1 83 (105 + 13 * u + (1 + p)) := fun p hp => by rw [show 5 + p = 4 + (1 + p) by omega, m2 (1 + p) (by omega) (by omega)]
      have secs : ∀ p, p < n → N2 (11 + p) = σ.1 83 (105 + 13 * u + (7 + p)) := fun p hp => by rw [show 11 + p = 4 + (7 + p) by omega, m2 (7 + p) (by omega) (by omega)]
      refine VR.mk ⟨hn, by omega, by omega, hv.nn6, hv.nb6⟩ ⟨?_, ?_, ?_, ?_, ?_⟩ ⟨?_, ?_, ?_, ?_, ?_⟩ ⟨fun p hp => ⟨?_, ?_, ?_, fun t ht => ?_⟩, fun p hp => ?_, fun p hp t ht => ?_, fun p hp => ?_⟩ (hv.gye.c (by rw [hS _ (by omega)]; exact so _ (by omega) (by omega) (by omega)) (by rw [hS _ (by omega)]; exact so _ (by omega) (by omega) (by omega)) (fun k k1 k2 => n2o k (by omega) (by omega))) (hv.gno.c hv.nn6 (by rw [hS _ (by omega)]; exact so _ (by omega) (by omega) (by omega)) (fun k k1 k2 => n2o k (by omega) (by omega))) (hv.gbe.c hv.nb6 (Nat.le_refl _) (by rw [hS _ (by omega)]; exact so _ (by omega) (by omega) (by omega)) (fun k k1 k2 => n2o k (by omega) (by omega))) ?_
      · rw [hS 1 (by omega), s1, updN (by decide), updN (by decide)]; exact hv.s10
      · rw [hS 1 (by omega), s1, updN (by decide), updS]
      · rw [hS 1 (by omega), s1, updS]
      · rw [hS (1 + 9) (by omega), so (1 + 9) (by omega) (by omega) (by omega)]; exact hv.sn
      · rw [hS (1 + 11) (by omega), so (1 + 11) (by omega) (by omega) (by omega)]; exact hv.sb
      · rw [n2o 0 (by omega) (by omega)]; exact hv.N0
      · rw [n2o 1 (by omega) (by omega)]; exact hv.N1
      · rw [n2o 2 (by omega) (by omega)]; exact hv.N2
      · rw [m3 3 (by omega), updS]
      · exact f4
      · rw [hS (1 + 3) (by omega), so (1 + 3) (by omega) (by omega) (by omega), n2o _ (by omega) (by omega)]; exact (hv.pe p hp).1
      · rw [hS (1 + 5) (by omega), show 1 + 5 = 6 from rfl, s6, wins p hp]
        refine backW_e (w := fun p => σ.1 83 (105 + 13 * u + (1 + p))) hn (by omega) d2 hp (fun p hp => ?_) (fun p hp => (d4 p hp).2.2)
        rw [show σ.1 6 p = σ.1 83 (5 + p) from (hv.pe p hp).2.1, show 5 + p = 4 + (1 + p) by omega]
        exact (d4 p hp).1
      · rw [hS (1 + 6) (by omega), show 1 + 6 = 7 from rfl, s7, secs p hp]
        refine backS_e (w := fun p => σ.1 83 (105 + 13 * u + (7 + p))) hn d3 hp (fun p hp => ?_)
        rw [show σ.1 7 p = σ.1 83 (11 + p) from (hv.pe p hp).2.2.1, show 11 + p = 4 + (7 + p) by omega]
        exact (d4 p hp).2.1
      · rw [hS (1 + 4) (by omega), so (1 + 4) (by omega) (by omega) (by omega), n2o _ (by omega) (by omega)]; exact (hv.pe p hp).2.2.2 t ht
      · rw [n2o _ (by omega) (by omega)]; exact hv.kd p hp
      · rw [n2o _ (by omega) (by omega)]; exact hv.ar p hp t ht
      · rw [wins p hp]; exact (d4 p hp).2.2
      · rw [hS (1 + 7) (by omega), hS (1 + 8) (by omega), so (1 + 7) (by omega) (by omega) (by omega), so (1 + 8) (by omega) (by omega) (by omega)]
        exact Hist_c hn u y (105 + 13 * u) 4 d5 (fun k k1 k2 => n2o k (by omega) (by omega)) (fun i hi => m2 i hi (by omega)) (fun y hy => ⟨rfl, rfl⟩)
end
section
/-! PURE HALF 16: whose wins are whose; left, best, order -/
theorem orI (a b : Nat) : nI a ||| nI b = nI (a ||| b) := Int32.toBitVec_inj.mp (by
  rw [Int32.toBitVec_or]
  exact BitVec.ofNat_or.symm)
def tb (x : Int32) (z : Nat) : Bool := (kno x).testBit z
theorem tb_n {w z : Nat} (h : w < 2 ^ 31) : tb (nI w) z = w.testBit z := by rw [tb, kno_n h]
theorem bt_tb {w z : Nat} (h : w < 256) (hz : z < 8) : bt (nI w) z = if tb (nI w) z then 1 else 0 := by
  rw [bt_n w h z hz, tb_n (by omega), ← Nat.toNat_testBit]
  cases w.testBit z <;> rfl
theorem addW_tb {n y p z : Nat} {w : Nat → Int32} {x : Int32} (hn : n ≤ 6) (h : ∀ p, p < n → ∃ v, v < 256 ∧ w p = nI v) (hy : y < 8) (hx : who n x) (hp : p < n) : tb (addW w x y p) z = (tb (w p) z || (decide (y = z) && decide (x = nI p))) := by
  obtain ⟨v, hv, ev⟩ := h p hp
  rcases hx with rfl | ⟨i, hi, rfl⟩
  · rw [addW, if_pos rfl, decide_eq_false (show ¬ (-1 : Int32) = nI p from fun e => nm1 (t := p) (by omega) e.symm), Bool.and_false, Bool.or_false]
  · rw [addW, if_neg (nm1 (by omega)), kno_n (by omega)]
    by_cases e : p = i
    · subst e
      rw [updS, ev, (orb v hv y hy).1, tb_n (by have := (orb v hv y hy).2; omega), tb_n (by omega), Nat.testBit_or, Nat.testBit_two_pow, decide_eq_true rfl, Bool.and_true]
    · rw [updN e, decide_eq_false (show ¬ nI i = nI p from fun e2 => e ((nI_eq (by omega) (by omega)).mp e2).symm), Bool.and_false, Bool.or_false]
/-- who wins year z of a run from y on -/
abbrev win (N : Nat → Int32) (n : Nat) (ch so wo : Nat → Int32) (y : Nat) (q : Cq) (z : Nat) : Int32 := (hs (gN N ch so wo (rN N n ch so wo (z - y) y q) z) n).1
theorem rn_tb {N : Nat → Int32} {n : Nat} {ch so wo : Nat → Int32} {p z : Nat} (hp : p < n) : ∀ (d y : Nat) (q : Cq), Wf N n so wo q → y + d ≤ 8 → tb ((rN N n ch so wo d y q).1 p) z = (tb (q.1 p) z || (decide (y ≤ z ∧ z < y + d) && decide (win N n ch so wo y q z = nI p)))
  | 0, y, q, hw, hy => by
    rw [decide_eq_false (show ¬ (y ≤ z ∧ z < y + 0) by omega), Bool.false_and, Bool.or_false]
    rfl
  | d + 1, y, q, hw, hy => by
    have ih := rn_tb (ch := ch) (z := z) hp d (y + 1) (sN N n ch so wo y q) (WF_stp hw (by omega)) (by omega)
    have e0 : rN N n ch so wo (d + 1) y q = rN N n ch so wo d (y + 1) (sN N n ch so wo y q) := rfl
    rw [e0, ih]
    have es : tb ((sN N n ch so wo y q).1 p) z = (tb (q.1 p) z || (decide (y = z) && decide (win N n ch so wo y q y = nI p))) := by
      have := addW_tb (z := z) hw.1 hw.2.2.2.1 (show y < 8 by omega) (hs_who (gN N ch so wo q y) n).1 hp
      rw [show win N n ch so wo y q y = (hs (gN N ch so wo q y) n).1 by unfold win; rw [Nat.sub_self]; rfl]
      exact this
    rw [es]
    by_cases c : y = z
    · subst c
      rw [decide_eq_true (show y = y from rfl), decide_eq_false (show ¬ (y + 1 ≤ y ∧ y < y + 1 + d) by omega), decide_eq_true (show y ≤ y ∧ y < y + (d + 1) by omega), Bool.false_and, Bool.or_false]
    · rw [decide_eq_false c, Bool.false_and, Bool.or_false]
      by_cases c2 : y ≤ z ∧ z < y + (d + 1)
      · have e1 : win N n ch so wo (y + 1) (sN N n ch so wo y q) z = win N n ch so wo y q z := by
          unfold win
          rw [show z - y = (z - (y + 1)) + 1 by omega]
          rfl
        rw [decide_eq_true c2, decide_eq_true (show y + 1 ≤ z ∧ z < y + 1 + d by omega), e1]
      · rw [decide_eq_false c2, decide_eq_false (show ¬ (y + 1 ≤ z ∧ z < y + 1 + d) by omega), Bool.false_and, Bool.false_and]
theorem tb_lt {w y z : Nat} (h : w < 2 ^ y) (hy : y ≤ 8) (hz : y ≤ z) : tb (nI w) z = false := by
  have h8 : w < 256 := Nat.lt_of_lt_of_le h (Nat.pow_le_pow_right (n := 2) (by decide) hy)
  rw [tb_n (by omega)]
  exact Nat.testBit_lt_two_pow (Nat.lt_of_lt_of_le h (Nat.pow_le_pow_right (by decide) hz))
-- left
def orA (wi : Nat → Int32) : Nat → Int32
  | 0 => 0
  | p + 1 => orA wi p ||| wi p
theorem orA_n {wi : Nat → Int32} {z : Nat} : ∀ n, (∀ p, p < n → ∃ v, v < 256 ∧ wi p = nI v) → ∃ v, v < 256 ∧ orA wi n = nI v ∧ (v.testBit z = true ↔ ∃ p, p < n ∧ tb (wi p) z = true)
  | 0, _ => ⟨0, by decide, rfl, by
    rw [Nat.zero_testBit]
    exact ⟨fun h => by simp at h, fun ⟨p, hp, _⟩ => by omega⟩⟩
  | n + 1, h => by
    obtain ⟨v, v1, v2, v3⟩ := orA_n (z := z) n (fun p hp => h p (by omega))
    obtain ⟨w, w1, w2⟩ := h n (by omega)
    refine ⟨v ||| w, Nat.or_lt_two_pow (n := 8) v1 w1, by rw [orA, v2, w2, orI], ?_⟩
    rw [Nat.testBit_or, Bool.or_eq_true, v3]
    constructor
    · rintro (⟨p, hp, e⟩ | e)
      · exact ⟨p, by omega, e⟩
      · exact ⟨n, by omega, by rw [w2, tb_n (by omega)]; exact e⟩
    · rintro ⟨p, hp, e⟩
      by_cases c : p = n
      · subst c
        rw [w2, tb_n (by omega)] at e
        exact Or.inr e
      · exact Or.inl ⟨p, by omega, e⟩
def lfS (so W : Nat → Int32) : Nat → Nat → Int32 → Int32
  | 0, _, acc => acc
  | d + 1, y, acc => lfS so W d (y + 1) (if W y = -1 then (if so y = -1 then acc else acc ||| ((1 : Int32) <<< (nI y &&& 31))) else acc)
abbrev winC (N : Nat → Int32) (n yr z : Nat) : Int32 := win N n ch0 (soN N) (woN N) yr (qN N) z
theorem C_left2 {σ : Sta} {N W : Nat → Int32} {n yr u nn nb : Nat} {won : Int32} (hv : VR σ.1 1 N n yr u nn nb) : ∀ (d y fu : Nat) (acc : Int32), y + d = 8 → d < fu → (∀ z, y ≤ z → z < 8 → (bt won z = 0 ↔ W z = -1)) → X2_untaken_L52 1 fu won acc (nI y) σ = some (lfS (soN N) W d y acc, σ)
  | d, y, 0, acc, _, h, _ => by omega
  | 0, y, fu + 1, acc, hy, _, hW => by
    have e : y = 8 := by omega
    subst e
    rw [X2_untaken_L52, if_neg nlt8]
    rfl
  | d + 1, y, fu + 1, acc, hy, hf, hW => by
    have e : σ.1 (1 + 1) y = soN N y := (hv.ye y (by omega)).1
    rw [X2_untaken_L52, if_pos (lt8 (by omega)), aI_n y (by omega), e, lfS, nI_1]
    have w := hW y (Nat.le_refl _) (by omega)
    have ih := fun acc => C_left2 (W := W) (won := won) hv d (y + 1) fu acc (by omega) (by omega) (fun z z1 z2 => hW z (by omega) z2)
    by_cases c1 : soN N y = -1
    · rw [if_pos c1, if_pos c1, ite_self, ih]
    · rw [if_neg c1, if_neg c1]
      by_cases c2 : W y = -1
      · rw [if_pos c2, if_pos (show (won >>> (nI y &&& 31)) &&& (1 : Int32) = 0 from w.mpr c2), ih]
      · rw [if_neg c2, if_neg (show ¬ (won >>> (nI y &&& 31)) &&& (1 : Int32) = 0 from fun e => c2 (w.mp e)), ih]
theorem C_left1 {σ : Sta} {n : Nat} {q : Nat → Int32} (hn : n ≤ 6) (h10 : σ.1 65 10 = nI n) (h70 : ∀ p, p < n → σ.1 70 p = q p) : ∀ (d p fu : Nat), p + d = n → d < fu → X2_untaken_L15 1 fu (orA q p) (nI p) σ = X2_untaken_L52 1 FU (orA q n) 0 (σ.1 1 11) σ
  | d, p, 0, _, h => by omega
  | 0, p, fu + 1, hp, _ => by
    have e : p = n := by omega
    subst e
    rw [X2_untaken_L15, fI_e, h10, if_neg (nI_nlt (Nat.le_refl _) (by omega)), fI_e]
  | d + 1, p, fu + 1, hp, hf => by
    rw [X2_untaken_L15, fI_e, h10, if_pos (nI_lt (by omega) (by omega)), aI_n p (by omega), show σ.1 (65 + 5) p = q p from h70 p (by omega), nI_1]
    exact C_left1 hn h10 h70 d (p + 1) fu (by omega) (by omega)
theorem VR.q {σ τ : Sta} {N : Nat → Int32} {n yr u nn nb : Nat} (h : VR σ.1 1 N n yr u nn nb) (e : FrQ σ τ) : VR τ.1 1 N n yr u nn nb := h.cell (fun i hi => e.1 _ (by unfold isQ; omega))
theorem VR.wonIs {S : Nat → Nat → Int32} {r : Nat} {N : Nat → Int32} {n yr u nn nb : Nat} (h : VR S r N n yr u nn nb) {z : Nat} (h1 : yr ≤ z) (h2 : z < 8) : bt (orA (cur N n yr 8).1 n) z = 0 ↔ winC N n yr z = -1 := by
  have hw8 := h.cw h.y8 (Nat.le_refl 8)
  obtain ⟨v, v1, v2, v3⟩ := orA_n (wi := (cur N n yr 8).1) (z := z) n hw8.2.2.2.1
  have key : (∃ p, p < n ∧ tb ((cur N n yr 8).1 p) z = true) ↔ winC N n yr z ≠ -1 := by
    constructor
    · rintro ⟨p, hp, e⟩
      rw [rn_tb hp (8 - yr) yr (qN N) h.wf (by have := h.y8; omega)] at e
      obtain ⟨w, w1, w2⟩ := h.wi p hp
      rw [show (qN N).1 p = nI w from w2, tb_lt w1 h.y8 h1, Bool.false_or, Bool.and_eq_true] at e
      have e2 := of_decide_eq_true e.2
      show winC N n yr z ≠ -1
      rw [show winC N n yr z = nI p from e2]
      exact nm1 (by have := h.n6; omega)
    · intro hne
      obtain ⟨p, hp, e⟩ := (hs_who (gN N ch0 (soN N) (woN N) (cur N n yr z) z) n).1.resolve_left hne
      refine ⟨p, hp, ?_⟩
      rw [rn_tb hp (8 - yr) yr (qN N) h.wf (by have := h.y8; omega), decide_eq_true (show win N n ch0 (soN N) (woN N) yr (qN N) z = nI p from e), decide_eq_true (show yr ≤ z ∧ z < yr + (8 - yr) by omega)]
      simp
  rw [v2, bt_tb v1 h2, tb_n (by omega)]
  rw [key] at v3
  by_cases c : v.testBit z = true
  · rw [if_pos c]
    exact ⟨fun e => absurd e (by decide), fun e => absurd e (v3.mp c)⟩
  · rw [if_neg c]
    exact ⟨fun _ => Classical.not_not.mp (fun e => c (v3.mpr e)), fun _ => rfl⟩
theorem rN_1 (N : Nat → Int32) (n : Nat) (ch so wo : Nat → Int32) (d y : Nat) (q : Cq) : rN N n ch so wo (d + 1) y q = sN N n ch so wo (y + d) (rN N n ch so wo d y q) := by
  rw [show rN N n ch so wo (d + 1) y q = rn n ch (kM N) (aM N) so wo (d + 1) y q from rfl, rn_add d 1 y q]
  rfl
theorem M_leftL {N : Nat → Int32} {n yr : Nat} (hy8 : yr ≤ 8) (hw0 : Wf N n (soN N) (woN N) (qN N)) : ∀ (d y fu : Nat) (acc : Int32) (σ : Sta), y + d = 8 → yr ≤ y → d < fu → HM N n ch0 (soN N) (woN N) (cur N n yr y) σ → ∃ τ, X12_left_L13 fu acc (nI y) σ = some (lfS (soN N) (winC N n yr) d y acc, τ) ∧ FrH σ τ
  | d, y, 0, acc, σ, _, _, h, _ => by omega
  | 0, y, fu + 1, acc, σ, hy, _, _, hH => by
    have e : y = 8 := by omega
    subst e
    refine ⟨σ, ?_, FrH.rf σ⟩
    rw [X12_left_L13, if_neg nlt8]
    rfl
  | d + 1, y, fu + 1, acc, σ, hy, hyr, hf, hH => by
    have hw : Wf N n (soN N) (woN N) (cur N n yr y) := WF_rn _ _ _ hw0 (by omega)
    obtain ⟨τ1, e1, e2, e3⟩ := HM_year hH hw (z := y) (by omega)
    have e2' : HM N n ch0 (soN N) (woN N) (cur N n yr (y + 1)) τ1 := by
      have := rN_1 N n ch0 (soN N) (woN N) (y - yr) yr (qN N)
      rw [show yr + (y - yr) = y by omega, show y - yr + 1 = y + 1 - yr by omega] at this
      unfold cur
      rw [this]
      exact e2
    have ih := fun acc => M_leftL hy8 hw0 d (y + 1) fu acc τ1 (by omega) (by omega) (by omega) e2'
    have s89 : τ1.1 89 y = soN N y := ((e2'.2.2.2 y (by omega)).1).symm
    rw [X12_left_L13, if_pos (lt8 (by omega)), cA_of e1, lfS, nI_1]
    by_cases c1 : winC N n yr y = -1
    · rw [if_pos (show (hs (gN N ch0 (soN N) (woN N) (cur N n yr y) y) n).1 = -1 from c1), if_pos c1, aI_n y (by omega), s89]
      by_cases c2 : soN N y = -1
      · rw [if_pos c2, if_pos c2, Int32.or_zero]
        obtain ⟨τ, t1, t2⟩ := ih acc
        exact ⟨τ, t1, e3.tr t2⟩
      · rw [if_neg c2, if_neg c2]
        obtain ⟨τ, t1, t2⟩ := ih (acc ||| ((1 : Int32) <<< (nI y &&& 31)))
        exact ⟨τ, t1, e3.tr t2⟩
    · rw [if_neg (show ¬ (hs (gN N ch0 (soN N) (woN N) (cur N n yr y) y) n).1 = -1 from c1), if_neg c1, Int32.or_zero]
      obtain ⟨τ, t1, t2⟩ := ih acc
      exact ⟨τ, t1, e3.tr t2⟩
theorem P_left {σ : Sta} (h : Inv σ) : Pair X11_left X12_left σ := by
  obtain ⟨n, yr, u, nn, nb, hv⟩ := h.1
  have hn := hv.n6
  have hy8 := hv.y8
  refine pair_q h (a := lfS (soN (σ.1 83)) (winC (σ.1 83) n yr) (8 - yr) yr 0) ?_ (fun τ hτ => ?_)
  · obtain ⟨τ1, τ, e1, e2, e3, e4⟩ := hv.trial
    have hv2 := hv.q e4.q
    obtain ⟨ch', kd', ar', so', wo', q', h1, h2, h3⟩ := e3
    obtain ⟨g1, g2, g3, g4, g5, g6, g7, g8, g9⟩ := h1
    have L1 := C_left1 (σ := τ) (n := n) (q := (cur (σ.1 83) n yr 8).1) hn g1 (fun p hp => by rw [g8]; exact ((h3 p hp).1).symm) n 0 FU (by omega) (by show n < 300; omega)
    have L2 := C_left2 (won := orA (cur (σ.1 83) n yr 8).1 n) (W := winC (σ.1 83) n yr) hv2 (8 - yr) yr FU 0 (by omega) (by show _ < 300; omega) (fun z z1 z2 => hv.wonIs z1 z2)
    refine ⟨τ, ?_, e4.q⟩
    have L1' : X2_untaken_L15 1 FU (0 : Int32) (0 : Int32) τ = X2_untaken_L52 1 FU (orA (cur (σ.1 83) n yr 8).1 n) 0 (τ.1 1 11) τ := L1
    have hu : X2_untaken 1 σ = some (lfS (soN (σ.1 83)) (winC (σ.1 83) n yr) (8 - yr) yr 0, τ) := by
      rw [X2_untaken, cA_of e1, cA_of e2, L1', hv2.s11, L2]
    rw [X11_left, cA_of hu]
  · have t83 : τ.1 83 = σ.1 83 := hτ.at (by unfold isQ; omega)
    have tv : VR σ.1 1 (τ.1 83) n yr u nn nb := by rw [t83]; exact hv
    obtain ⟨τ1, e1, e2, e3⟩ := tv.lay
    have e2' : HM (τ.1 83) n ch0 (soN (τ.1 83)) (woN (τ.1 83)) (cur (τ.1 83) n yr yr) τ1 := by
      unfold cur
      rw [Nat.sub_self]
      exact e2
    obtain ⟨τ2, f1, f2⟩ := M_leftL hy8 tv.wf (8 - yr) yr FU 0 τ1 (by omega) (Nat.le_refl _) (by show _ < 300; omega) e2'
    rw [t83] at f1
    refine ⟨τ2, ?_, e3.q.tr f2.q⟩
    rw [X12_left, cA_of e1, aI4, e2.1, tv.N4]
    exact f1
-- one who tries in one year alone
theorem mb_win {g : Nat → Int32} {x : Int32} {p : Nat} (hp : p < 2 ^ 31) : ∀ n, n ≤ 6 → (mb g x n).1 = nI p → ¬ g p < 1
  | 0, _, h => absurd h.symm (nm1 hp)
  | n + 1, h6, h => by
    rw [mb] at h
    split at h
    · exact mb_win hp n (by omega) h
    · split at h
      · exact mb_win hp n (by omega) h
      · split at h
        · rename_i h1 h2 h3
          have := (nI_eq (by omega) hp).mp h
          rw [← this]
          exact h2
        · exact mb_win hp n (by omega) h
theorem hs_win {g : Nat → Int32} {n p : Nat} (hn : n ≤ 6) (hp : p < 2 ^ 31) (h : (hs g n).1 = nI p) : ¬ g p < 1 := mb_win hp n hn ((hs_mb (g := g) n hn).1.symm.trans h)
theorem stg_not {ch kd ar wi so wo : Nat → Int32} {p y z : Nat} (h : ch p = nI y) (hy : y < 8) (hz : z < 8) (hne : y ≠ z) : stg ch kd ar wi so wo p z = 0 := by
  unfold stg
  rw [h, if_neg (nm1 (t := y) (by omega)), decide_eq_false (fun e => hne ((nI_eq (by omega) (by omega)).mp e))]
  simp
theorem try_tb {N : Nat → Int32} {n : Nat} {ch so wo : Nat → Int32} {q : Cq} {p y yr e z : Nat} (hw : Wf N n so wo q) (hp : p < n) (hc : ch p = nI y) (h1 : yr ≤ y) (h2 : y < 8) (h3 : y + 1 ≤ e) (h4 : e ≤ 8) (hz : z < 8) : tb ((rN N n ch so wo (e - yr) yr q).1 p) z = (tb (q.1 p) z || (decide (z = y) && decide (win N n ch so wo yr q y = nI p))) := by
  rw [rn_tb hp (e - yr) yr q hw (by omega)]
  by_cases c : z = y
  · subst c
    rw [decide_eq_true (show yr ≤ z ∧ z < yr + (e - yr) by omega), decide_eq_true (show z = z from rfl)]
  · rw [decide_eq_false c, Bool.false_and, Bool.or_false]
    by_cases c2 : win N n ch so wo yr q z = nI p
    · have hn := hw.1
      have := hs_win (g := gN N ch so wo (rN N n ch so wo (z - yr) yr q) z) hn (p := p) (by omega) c2
      refine absurd ?_ this
      rw [show gN N ch so wo (rN N n ch so wo (z - yr) yr q) z p = 0 from stg_not hc h2 hz (fun e => c e.symm)]
      decide
    · rw [decide_eq_false c2, Bool.and_false, Bool.or_false]
theorem wwi_tb {wi wo : Nat → Int32} {p z w : Nat} (h : wi p = nI w) (hw : w < 256) (hz : z < 8) : wwi wi wo p z = if tb (wi p) z then wo z else 0 := by
  rw [wwi, h, bt_tb hw hz]
  cases tb (nI w) z
  · exact Int32.zero_mul
  · exact Int32.one_mul _
theorem wsm_one {a b wo : Nat → Int32} {p y : Nat} (h : ∀ z, z < 8 → z ≠ y → wwi a wo p z = wwi b wo p z) (h0 : wwi b wo p y = 0) : ∀ k, k ≤ 8 → wsm a wo p k = wsm b wo p k + (if y < k then wwi a wo p y else 0)
  | 0, _ => by
    rw [if_neg (by omega)]
    rfl
  | k + 1, hk => by
    rw [wsm, wsm, wsm_one h h0 k (by omega)]
    by_cases c : k = y
    · subst c
      rw [h0, if_neg (by omega), if_pos (by omega), Int32.add_zero]
    · rw [h k (by omega) c]
      by_cases c2 : y < k
      · rw [if_pos c2, if_pos (by omega), Int32.add_assoc, Int32.add_assoc, Int32.add_comm (wwi a wo p y)]
      · rw [if_neg c2, if_neg (by omega), Int32.add_zero, Int32.add_zero]
theorem try_ws {N : Nat → Int32} {n : Nat} {ch so wo : Nat → Int32} {q : Cq} {p y yr e w : Nat} (hw : Wf N n so wo q) (hp : p < n) (hc : ch p = nI y) (h1 : yr ≤ y) (h2 : y < 8) (h3 : y + 1 ≤ e) (h4 : e ≤ 8) (hq : q.1 p = nI w) (hqw : w < 2 ^ yr) : wsm (rN N n ch so wo (8 - yr) yr q).1 wo p 8 = wsm q.1 wo p 8 + wwi (rN N n ch so wo (e - yr) yr q).1 wo p y := by
  have hw8 : Wf N n so wo (rN N n ch so wo (8 - yr) yr q) := WF_rn _ _ _ hw (by omega)
  have hwe : Wf N n so wo (rN N n ch so wo (e - yr) yr q) := WF_rn _ _ _ hw (by omega)
  obtain ⟨v, v1, v2⟩ := hw.2.2.2.1 p hp
  obtain ⟨v8, v81, v82⟩ := hw8.2.2.2.1 p hp
  obtain ⟨ve, ve1, ve2⟩ := hwe.2.2.2.1 p hp
  have t8 := fun z hz => try_tb (z := z) hw hp hc h1 h2 (show y + 1 ≤ 8 by omega) (Nat.le_refl 8) hz
  have te := fun z hz => try_tb (z := z) hw hp hc h1 h2 h3 h4 hz
  have z0 : tb (q.1 p) y = false := by rw [hq]; exact tb_lt hqw (by omega) h1
  rw [wsm_one (b := q.1) (y := y) (fun z hz hne => by
    rw [wwi_tb v82 v81 hz, wwi_tb v2 v1 hz, t8 z hz, decide_eq_false hne, Bool.false_and, Bool.or_false]) (by
    rw [wwi_tb v2 v1 h2, z0]
    rfl) 8 (Nat.le_refl 8), if_pos h2, wwi_tb v82 v81 h2, wwi_tb ve2 ve1 h2, t8 y h2, te y h2]
-- best
abbrev bV (N : Nat → Int32) (n yr p y : Nat) : Int32 := wwi (rN N n (upd ch0 p (nI y)) (soN N) (woN N) (y + 1 - yr) yr (qN N)).1 (woN N) p y
def bsS (V : Nat → Int32) : Nat → Nat → Int32 → Int32 → Int32 × Int32
  | 0, _, a, b => (a, b)
  | d + 1, y, a, b => if a < V y then bsS V d (y + 1) (V y) (nI y) else bsS V d (y + 1) a b
theorem C_bestL {N : Nat → Int32} {n yr u nn nb p : Nat} (hp : p < n) : ∀ (d y fu : Nat) (a b : Int32) (σ : Sta), y + d = 8 → yr ≤ y → d < fu → VR σ.1 1 N n yr u nn nb → ∃ τ, X2_bestYear_L11 1 fu (nI p) a b (nI y) σ = some ((bsS (bV N n yr p) d y a b).2, τ) ∧ FrB σ τ
  | d, y, 0, a, b, σ, _, _, h, _ => by omega
  | 0, y, fu + 1, a, b, σ, hy, _, _, hv => by
    have e : y = 8 := by omega
    subst e
    exact ⟨σ, by rw [X2_bestYear_L11, if_neg nlt8]; rfl, FrB.rf σ⟩
  | d + 1, y, fu + 1, a, b, σ, hy, hyr, hf, hv => by
    have hn := hv.n6
    obtain ⟨τ1, e1, e2, e3⟩ := hv.begin
    obtain ⟨τ2, f1, f2, f3⟩ := TC_choose e2 (p := p) (by omega) (nI y)
    obtain ⟨τ3, g1, g2, g3⟩ := TC_run (e := y + 1) f2 hv.wf (by omega) (by omega)
    have w1 := TC_wi g2 (p := p) (z := y) hn hp (by omega)
    have fr : FrB σ τ3 := (e3.tr f3).tr g3.b
    have hv3 := hv.q fr.q
    rw [X2_bestYear_L11, if_pos (lt8 (by omega)), cA_of e1, cA_of f1, nI_1, cA_of g1, cA_of w1, bsS]
    by_cases c : a < bV N n yr p y
    · rw [if_pos c, if_pos c, cA_of w1]
      obtain ⟨τ, t1, t2⟩ := C_bestL hp d (y + 1) fu (bV N n yr p y) (nI y) τ3 (by omega) (by omega) (by omega) hv3
      exact ⟨τ, t1, fr.tr t2⟩
    · rw [if_neg c, if_neg c]
      obtain ⟨τ, t1, t2⟩ := C_bestL hp d (y + 1) fu a b τ3 (by omega) (by omega) (by omega) hv3
      exact ⟨τ, t1, fr.tr t2⟩
theorem addsub (a b : Int32) : a + b - a = b := by rw [Int32.add_comm, Int32.add_sub_cancel]
theorem M_winsBy {σ : Sta} {S : Nat → Nat → Int32} {r n yr u nn nb p y : Nat} (h : VR S r (σ.1 83) n yr u nn nb) (hp : p < n) (h1 : yr ≤ y) (h2 : y < 8) : ∃ τ, X12_winsBy (nI p) (nI y) σ = some (bV (σ.1 83) n yr p y, τ) ∧ FrL σ τ := by
  have hn := h.n6
  obtain ⟨τ1, e1, e2, e3⟩ := h.lay
  have w0 := HM_ws e2 h.wf hp
  have c1 := HM_ch e2 (p := p) (z := y) h2
  obtain ⟨τ2, f1, f2, f3⟩ := HM_till (e := 8) c1 h.wf h.N4 h.y8 (Nat.le_refl 8)
  have f1' : X12_goTill (8 : Int32) (up1 τ1 91 (upd (τ1.1 91) p (nI y))) = some ((), τ2) := f1
  have w8 := HM_ws f2 (WF_rn _ _ _ h.wf (by have := h.y8; omega)) hp
  obtain ⟨w, x1, x2⟩ := h.wi p hp
  refine ⟨τ2, ?_, (e3.tr (FrL.up (by unfold isL; omega))).tr f3.l⟩
  rw [X12_winsBy, cA_of e1, cA_of w0, sI_n p (by omega), cA_of f1', cA_of w8, try_ws (ch := upd ch0 p (nI y)) (y := y) (e := y + 1) h.wf hp (updS _ _ _) h1 h2 (Nat.le_refl _) (by omega) x2 x1, addsub]
theorem M_bestYL {N : Nat → Int32} {S : Nat → Nat → Int32} {r n yr u nn nb p : Nat} {x2 : Int32} (hv : VR S r N n yr u nn nb) (hp : p < n) : ∀ (d y fu : Nat) (a b : Int32) (σ : Sta), y + d = 8 → yr ≤ y → d < fu → σ.1 83 = N → ∃ τ, X12_best_L38 fu (nI p) x2 b a (nI y) σ = some (if x2 = 0 then (bsS (bV N n yr p) d y a b).2 else if (bsS (bV N n yr p) d y a b).2 = -1 then (bsS (bV N n yr p) d y a b).2 else (bsS (bV N n yr p) d y a b).1, τ) ∧ FrL σ τ
  | d, y, 0, a, b, σ, _, _, h, _ => by omega
  | 0, y, fu + 1, a, b, σ, hy, _, _, h83 => by
    have e : y = 8 := by omega
    subst e
    refine ⟨σ, ?_, FrL.rf σ⟩
    rw [X12_best_L38, if_neg nlt8, bsS]
    by_cases c1 : x2 = 0
    · rw [if_pos c1, if_pos c1]
    · rw [if_neg c1, if_neg c1]
      by_cases c2 : b = -1
      · rw [if_pos c2, if_pos c2]
      · rw [if_neg c2, if_neg c2]
  | d + 1, y, fu + 1, a, b, σ, hy, hyr, hf, h83 => by
    obtain ⟨τ1, e1, e2⟩ := M_winsBy (σ := σ) (S := S) (r := r) (u := u) (nn := nn) (nb := nb) (by rw [h83]; exact hv) hp hyr (by omega)
    rw [h83] at e1
    have t83 : τ1.1 83 = N := by rw [e2.1 83 (by unfold isL; omega)]; exact h83
    rw [X12_best_L38, if_pos (lt8 (by omega)), cA_of e1, bsS]
    by_cases c : a < bV N n yr p y
    · rw [if_pos c, X12_best_L67, if_pos c, nI_1]
      obtain ⟨τ, t1, t2⟩ := M_bestYL (x2 := x2) hv hp d (y + 1) fu (bV N n yr p y) (nI y) τ1 (by omega) (by omega) (by omega) t83
      rw [if_pos c]
      exact ⟨τ, t1, e2.tr t2⟩
    · rw [if_neg c, X12_best_L67, if_neg c, nI_1]
      obtain ⟨τ, t1, t2⟩ := M_bestYL (x2 := x2) hv hp d (y + 1) fu a b τ1 (by omega) (by omega) (by omega) t83
      rw [if_neg c]
      exact ⟨τ, t1, e2.tr t2⟩
theorem bs_most {V wo : Nat → Int32} (hV : ∀ y, y < 8 → V y = 0 ∨ V y = wo y) : ∀ (d y : Nat) (a b : Int32), y + d ≤ 8 → 0 ≤ a.toInt → (b = -1 ∨ ∃ z, z < 8 ∧ b = nI z ∧ a = wo z) → ((bsS V d y a b).2 = -1 ∨ ∃ z, z < 8 ∧ (bsS V d y a b).2 = nI z ∧ (bsS V d y a b).1 = wo z)
  | 0, y, a, b, _, _, h => h
  | d + 1, y, a, b, hy, ha, h => by
    rw [bsS]
    by_cases c : a < V y
    · rw [if_pos c]
      have c' := ilt.mp c
      refine bs_most hV d (y + 1) _ _ (by omega) (by omega) (Or.inr ⟨y, by omega, rfl, ?_⟩)
      rcases hV y (by omega) with e | e
      · rw [e] at c'
        have : (0 : Int32).toInt = 0 := by decide
        omega
      · exact e
    · rw [if_neg c]
      exact bs_most hV d (y + 1) a b (by omega) ha h
theorem bV_is {S : Nat → Nat → Int32} {r : Nat} {N : Nat → Int32} {n yr u nn nb p y : Nat} (h : VR S r N n yr u nn nb) (hp : p < n) (hy : y < 8) : bV N n yr p y = 0 ∨ bV N n yr p y = woN N y := by
  by_cases c : yr ≤ y + 1
  · have hwe : Wf N n (soN N) (woN N) (rN N n (upd ch0 p (nI y)) (soN N) (woN N) (y + 1 - yr) yr (qN N)) := WF_rn _ _ _ h.wf (by omega)
    obtain ⟨v, v1, v2⟩ := hwe.2.2.2.1 p hp
    unfold bV
    rw [wwi_tb v2 v1 hy]
    cases tb ((rN N n (upd ch0 p (nI y)) (soN N) (woN N) (y + 1 - yr) yr (qN N)).1 p) y
    · exact Or.inl rfl
    · exact Or.inr rfl
  · have e : y + 1 - yr = 0 := by omega
    unfold bV
    rw [e]
    obtain ⟨v, v1, v2⟩ := h.wf.2.2.2.1 p hp
    rw [show rN N n (upd ch0 p (nI y)) (soN N) (woN N) 0 yr (qN N) = qN N from rfl, wwi_tb v2 v1 hy]
    cases tb ((qN N).1 p) y
    · exact Or.inl rfl
    · exact Or.inr rfl

theorem P_best {σ : Sta} (h : Inv σ) (x1 x2 : Int32) : Pair (X11_best x1 x2) (X12_best x1 x2) σ := by
  obtain ⟨n, yr, u, nn, nb, hv⟩ := h.1
  have b0 : (badC σ).1 83 0 = nI n := by rw [badC_83]; exact hv.N0
  have b4 : (badC σ).1 83 4 = nI yr := by rw [badC_83]; exact hv.N4
  by_cases e0 : inB x1 0 (nI n - 1) = true
  rotate_left
  · rw [Bool.not_eq_true] at e0; exact pair_bad (a := -2) h (by simp only [X11_best, C_isOne_b hv.s10, e0, cA_e, bi_if, within_b, C_isArt_b, C_bad, Bool.false_eq_true, ite_false, ite_true, if_true, if_false]) (by simp only [X12_best, M_isOne_b b0, e0, cA_e, bi_if, M_isYear_b, M_isSort_b, in_01, in_02, in_05, in_06, in_07, in_09, in_30, in_60, in_99, in_12, M_bad, Bool.false_eq_true, ite_false, ite_true, if_true, if_false])
  by_cases e1 : inB x2 0 1 = true
  rotate_left
  · rw [Bool.not_eq_true] at e1; exact pair_bad (a := -2) h (by simp only [X11_best, C_isOne_b hv.s10, e0, e1, cA_e, bi_if, within_b, C_isArt_b, C_bad, Bool.false_eq_true, ite_false, ite_true, if_true, if_false]) (by simp only [X12_best, M_isOne_b b0, e0, e1, cA_e, bi_if, M_isYear_b, M_isSort_b, in_01, in_02, in_05, in_06, in_07, in_09, in_30, in_60, in_99, in_12, M_bad, Bool.false_eq_true, ite_false, ite_true, if_true, if_false])
  obtain ⟨j0, hj0, rfl⟩ := inB_1 hv.n6 e0
  obtain ⟨j1, hj1, rfl⟩ := inB_n (m := 1) (by decide) e1
  refine pair_q h (a := (if nI j1 = 0 then (bsS (bV (σ.1 83) n yr j0) (8 - yr) yr 0 (-1)).2 else if (bsS (bV (σ.1 83) n yr j0) (8 - yr) yr 0 (-1)).2 = -1 then (bsS (bV (σ.1 83) n yr j0) (8 - yr) yr 0 (-1)).2 else (bsS (bV (σ.1 83) n yr j0) (8 - yr) yr 0 (-1)).1)) ?_ (fun τ hτ => ?_)
  · simp only [X11_best, C_isOne_b hv.s10, e0, e1, cA_e, bi_if, within_b, C_isArt_b, C_bad, Bool.false_eq_true, ite_false, ite_true, if_true, if_false]
    have hy8 := hv.y8
    obtain ⟨τ, t1, t2⟩ := C_bestL (N := σ.1 83) (u := u) (nn := nn) (nb := nb) hj0 (8 - yr) yr FU 0 (-1) σ (by omega) (Nat.le_refl _) (by show _ < 300; omega) hv
    have tb : X2_bestYear 1 (nI j0) σ = some ((bsS (bV (σ.1 83) n yr j0) (8 - yr) yr 0 (-1)).2, τ) := by rw [X2_bestYear, fI_e, hv.s11]; exact t1
    have hv2 := hv.q t2.q
    have hm := bs_most (V := bV (σ.1 83) n yr j0) (wo := woN (σ.1 83)) (fun y hy => bV_is hv hj0 hy) (8 - yr) yr 0 (-1) (by omega) (by decide) (Or.inl rfl)
    rw [cA_of tb]
    refine ⟨τ, ?_, t2.q⟩
    generalize bsS (bV (σ.1 83) n yr j0) (8 - yr) yr 0 (-1) = q at *
    by_cases c1 : q.2 = -1
    · rw [if_pos c1, if_pos c1, ite_self]
    · rw [if_neg c1, if_neg c1]
      by_cases c2 : nI j1 = (0 : Int32)
      · rw [if_pos c2, if_pos c2]
      · rw [if_neg c2, if_neg c2]
        obtain ⟨z, z1, z2, z3⟩ := hm.resolve_left c1
        rw [z2, aI_n z z1, (hv2.ye z z1).2, z3]
        rfl
  · have t83 : τ.1 83 = σ.1 83 := hτ.at (by unfold isQ; omega)
    have t0 : τ.1 83 0 = nI n := by rw [t83]; exact hv.N0
    have t4 : τ.1 83 4 = nI yr := by rw [t83]; exact hv.N4
    have tv : VR σ.1 1 (τ.1 83) n yr u nn nb := by rw [t83]; exact hv
    simp only [X12_best, M_isOne_b t0, e0, e1, cA_e, bi_if, M_isYear_b, M_isSort_b, in_01, in_02, in_05, in_06, in_07, in_09, in_30, in_60, in_99, in_12, M_bad, Bool.false_eq_true, ite_false, ite_true, if_true, if_false]
    have hy8 := hv.y8
    obtain ⟨τ2, f1, f2⟩ := M_bestYL (x2 := nI j1) tv hj0 (8 - yr) yr FU 0 (-1) τ (by omega) (Nat.le_refl _) (by show _ < 300; omega) rfl
    rw [t83] at f1
    refine ⟨τ2, ?_, f2.q⟩
    rw [aI4, t4]
    exact f1

-- order
abbrev oS (so : Nat → Int32) (i j : Nat) : Nat → Int32 := upd (upd so i (so j)) j (so i)
abbrev oV (N : Nat → Int32) (n yr p i j : Nat) : Int32 := wsm (rN N n ch0 (oS (soN N) i j) (oS (woN N) i j) (8 - yr) yr (qN N)).1 (oS (woN N) i j) p 8
theorem oS_at {so : Nat → Int32} {i j z : Nat} : oS so i j z = so i ∨ oS so i j z = so j ∨ oS so i j z = so z := by
  unfold oS
  by_cases c : z = j
  · subst c; rw [updS]; exact Or.inl rfl
  · rw [updN c]
    by_cases c2 : z = i
    · subst c2; rw [updS]; exact Or.inr (Or.inl rfl)
    · rw [updN c2]; exact Or.inr (Or.inr rfl)
theorem VR.wfo {S : Nat → Nat → Int32} {r : Nat} {N : Nat → Int32} {n yr u nn nb i j : Nat} (h : VR S r N n yr u nn nb) (hi : i < 8) (hj : j < 8) : Wf N n (oS (soN N) i j) (oS (woN N) i j) (qN N) := by
  obtain ⟨h1, h2, h3, h4, h5, h6⟩ := h.wf
  refine ⟨h1, h2, h3, h4, fun z hz => ?_, fun z hz => ?_⟩
  · rcases oS_at (so := soN N) (i := i) (j := j) (z := z) with e | e | e <;> rw [e]
    · exact h5 i hi
    · exact h5 j hj
    · exact h5 z hz
  · rcases oS_at (so := woN N) (i := i) (j := j) (z := z) with e | e | e <;> rw [e]
    · exact h6 i hi
    · exact h6 j hj
    · exact h6 z hz
def osI (V : Nat → Int32) (i : Nat) : Nat → Nat → Int32 → Int32 → Int32 × Int32
  | 0, _, a, b => (a, b)
  | d + 1, j, a, b => if a < V j then osI V i d (j + 1) (V j) ((10 : Int32) * nI i + nI j) else osI V i d (j + 1) a b
def osO (V : Nat → Nat → Int32) : Nat → Nat → Int32 → Int32 → Int32
  | 0, _, _, b => b
  | d + 1, i, a, b => osO V d (i + 1) (osI (V i) i (7 - i) (i + 1) a b).1 (osI (V i) i (7 - i) (i + 1) a b).2
theorem C_ordI {N : Nat → Int32} {n yr u nn nb p i : Nat} {K : Int32 → Int32 → Int32 → Int32 → Sta → Option (Int32 × Sta)} (hp : p < n) (hi : i < 8) : ∀ (d j fu : Nat) (a b : Int32) (σ : Sta), j + d = 8 → d < fu → VR σ.1 1 N n yr u nn nb → ∃ τ, X2_bestSwap_L42 1 K fu (nI p) a b (nI i) (nI j) σ = K (nI p) (osI (oV N n yr p i) i d j a b).1 (osI (oV N n yr p i) i d j a b).2 (nI (i + 1)) τ ∧ FrB σ τ
  | d, j, 0, a, b, σ, _, h, _ => by omega
  | 0, j, fu + 1, a, b, σ, hj, _, hv => by
    have e : j = 8 := by omega
    subst e
    exact ⟨σ, by rw [X2_bestSwap_L42, if_neg nlt8, nI_1]; rfl, FrB.rf σ⟩
  | d + 1, j, fu + 1, a, b, σ, hj, hf, hv => by
    have hn := hv.n6
    have hy8 := hv.y8
    obtain ⟨τ1, e1, e2, e3⟩ := hv.begin
    obtain ⟨τ2, f1, f2, f3⟩ := TC_swap e2 (i := i) (j := j) hi (by omega)
    obtain ⟨τ3, g1, g2, g3⟩ := TC_run (e := 8) f2 (hv.wfo hi (by omega)) hy8 (Nat.le_refl 8)
    have g1' : X2_runTo (8 : Int32) τ2 = some ((), τ3) := g1
    have w1 := TC_wb g2 (p := p) hn hp
    have fr : FrB σ τ3 := (e3.tr f3).tr g3.b
    have hv3 := hv.q fr.q
    rw [X2_bestSwap_L42, if_pos (lt8 (by omega)), cA_of e1, cA_of f1, cA_of g1', cA_of w1, osI, nI_1]
    by_cases c : a < oV N n yr p i j
    · rw [if_pos c, if_pos c, cA_of w1]
      obtain ⟨τ, t1, t2⟩ := C_ordI (K := K) hp hi d (j + 1) fu (oV N n yr p i j) ((10 : Int32) * nI i + nI j) τ3 (by omega) (by omega) hv3
      exact ⟨τ, t1, fr.tr t2⟩
    · rw [if_neg c, if_neg c]
      obtain ⟨τ, t1, t2⟩ := C_ordI (K := K) hp hi d (j + 1) fu a b τ3 (by omega) (by omega) hv3
      exact ⟨τ, t1, fr.tr t2⟩
theorem C_ordO {N : Nat → Int32} {n yr u nn nb p : Nat} (hp : p < n) : ∀ (d i fu : Nat) (a b : Int32) (σ : Sta), i + d = 8 → d < fu → VR σ.1 1 N n yr u nn nb → ∃ τ, X2_bestSwap_L29 1 fu (nI p) a b (nI i) σ = some (osO (oV N n yr p) d i a b, τ) ∧ FrB σ τ
  | d, i, 0, a, b, σ, _, h, _ => by omega
  | 0, i, fu + 1, a, b, σ, hi, _, hv => by
    have e : i = 8 := by omega
    subst e
    exact ⟨σ, by rw [X2_bestSwap_L29, if_neg nlt8]; rfl, FrB.rf σ⟩
  | d + 1, i, fu + 1, a, b, σ, hi, hf, hv => by
    obtain ⟨τ1, e1, e2⟩ := C_ordI (K := X2_bestSwap_L29 1 fu) hp (show i < 8 by omega) (7 - i) (i + 1) FU a b σ (by omega) (by show _ < 300; omega) hv
    obtain ⟨τ, t1, t2⟩ := C_ordO hp d (i + 1) fu (osI (oV N n yr p i) i (7 - i) (i + 1) a b).1 (osI (oV N n yr p i) i (7 - i) (i + 1) a b).2 τ1 (by omega) (by omega) (hv.q e2.q)
    refine ⟨τ, ?_, e2.tr t2⟩
    rw [X2_bestSwap_L29, if_pos (lt8 (by omega)), nI_1, e1, osO]
    exact t1
theorem HM_swap {N : Nat → Int32} {n i j : Nat} {ch so wo : Nat → Int32} {q : Cq} {σ : Sta} (h : HM N n ch so wo q σ) (s1 : Int32) (s2 : Int32) (s3 : Int32) (s4 : Int32) : HM N n ch (upd (upd so i s1) j s3) (upd (upd wo i s2) j s4) q (up1 (up1 (up1 (up1 σ 89 (upd (σ.1 89) i s1)) 90 (upd (σ.1 90) i s2)) 89 (upd (upd (σ.1 89) i s1) j s3)) 90 (upd (upd (σ.1 90) i s2) j s4)) := by
  obtain ⟨h1, h2, h3, h4⟩ := h
  have o : ∀ k, k ≠ 89 → k ≠ 90 → (up1 (up1 (up1 (up1 σ 89 (upd (σ.1 89) i s1)) 90 (upd (σ.1 90) i s2)) 89 (upd (upd (σ.1 89) i s1) j s3)) 90 (upd (upd (σ.1 90) i s2) j s4)).1 k = σ.1 k := fun k k1 k2 => by rw [up1_n k2, up1_n k1, up1_n k2, up1_n k1]
  refine ⟨by rw [o 83 (by decide) (by decide)]; exact h1, h2, fun p hp => by rw [o 91 (by decide) (by decide), o 87 (by decide) (by decide), o 88 (by decide) (by decide)]; exact h3 p hp, fun y hy => ?_⟩
  rw [up1_n (show 89 ≠ 90 by decide), up1_s, up1_s]
  obtain ⟨b1, b2⟩ := h4 y hy
  by_cases c : y = j
  · subst c; rw [updS, updS, updS, updS]; exact ⟨rfl, rfl⟩
  · rw [updN c, updN c, updN c, updN c]
    by_cases c2 : y = i
    · subst c2; rw [updS, updS, updS, updS]; exact ⟨rfl, rfl⟩
    · rw [updN c2, updN c2, updN c2, updN c2]; exact ⟨b1, b2⟩
theorem M_ordI {N : Nat → Int32} {S : Nat → Nat → Int32} {r n yr u nn nb p i : Nat} {K : Int32 → Int32 → Int32 → Int32 → Sta → Option (Int32 × Sta)} (hv : VR S r N n yr u nn nb) (hp : p < n) (hi : i < 8) : ∀ (d j fu : Nat) (a b : Int32) (σ : Sta), j + d = 8 → d < fu → σ.1 83 = N → ∃ τ, X12_order_L54 K fu (nI p) b a (nI i) (nI j) σ = K (nI p) (osI (oV N n yr p i) i d j a b).2 (osI (oV N n yr p i) i d j a b).1 (nI (i + 1)) τ ∧ FrL σ τ
  | d, j, 0, a, b, σ, _, h, _ => by omega
  | 0, j, fu + 1, a, b, σ, hj, _, h83 => by
    have e : j = 8 := by omega
    subst e
    exact ⟨σ, by rw [X12_order_L54, if_neg nlt8, nI_1]; rfl, FrL.rf σ⟩
  | d + 1, j, fu + 1, a, b, σ, hj, hf, h83 => by
    have hy8 := hv.y8
    have hv' : VR S r (σ.1 83) n yr u nn nb := by rw [h83]; exact hv
    obtain ⟨τ1, e1, e2, e3⟩ := hv'.lay
    rw [h83] at e2
    have q83 : τ1.1 83 = N := e2.1
    have hH := HM_swap (i := i) (j := j) e2 (soN N j) (woN N j) (soN N i) (woN N i)
    obtain ⟨τ2, f1, f2, f3⟩ := HM_till (e := 8) hH (hv.wfo hi (by omega)) hv.N4 hy8 (Nat.le_refl 8)
    have f1' : X12_goTill (8 : Int32) (up1 (up1 (up1 (up1 τ1 89 (upd (τ1.1 89) i (N (41 + j)))) 90 (upd (τ1.1 90) i (N (49 + j)))) 89 (upd (upd (τ1.1 89) i (N (41 + j))) j (N (41 + i)))) 90 (upd (upd (τ1.1 90) i (N (49 + j))) j (N (49 + i)))) = some ((), τ2) := f1
    have w8 := HM_ws f2 (WF_rn _ _ _ (hv.wfo hi (by omega)) (by omega)) hp
    have fr : FrL σ τ2 := (e3.tr (((FrL.up (by unfold isL; omega)).tr (FrL.up (by unfold isL; omega))).tr ((FrL.up (by unfold isL; omega)).tr (FrL.up (by unfold isL; omega))))).tr f3.l
    have t83 : τ2.1 83 = N := f2.1
    rw [X12_order_L54, if_pos (lt8 (by omega)), cA_of e1, a41, aI_n (41 + j) (by omega), q83, sI_n i hi, a49, aI_n (49 + j) (by omega), up1_n (show 83 ≠ 89 by decide), q83, sI_n i hi, up1_n (show 90 ≠ 89 by decide), a41, aI_n (41 + i) (by omega), up1_n (show 83 ≠ 90 by decide), up1_n (show 83 ≠ 89 by decide), q83, sI_n j (by omega), up1_n (show 89 ≠ 90 by decide), up1_s, a49, aI_n (49 + i) (by omega), up1_n (show 83 ≠ 89 by decide), up1_n (show 83 ≠ 90 by decide), up1_n (show 83 ≠ 89 by decide), q83, sI_n j (by omega), up1_n (show 90 ≠ 89 by decide), up1_s, cA_of f1', cA_of w8, osI]
    by_cases c : a < oV N n yr p i j
    · rw [if_pos c, if_pos c, X12_order_L160, cA_of w8, if_pos c, cA_of w8, nI_1]
      obtain ⟨τ, t1, t2⟩ := M_ordI (K := K) hv hp hi d (j + 1) fu (oV N n yr p i j) ((10 : Int32) * nI i + nI j) τ2 (by omega) (by omega) t83
      exact ⟨τ, t1, fr.tr t2⟩
    · rw [if_neg c, if_neg c, X12_order_L160, cA_of w8, if_neg c, nI_1]
      obtain ⟨τ, t1, t2⟩ := M_ordI (K := K) hv hp hi d (j + 1) fu a b τ2 (by omega) (by omega) t83
      exact ⟨τ, t1, fr.tr t2⟩
theorem M_ordO {N : Nat → Int32} {S : Nat → Nat → Int32} {r n yr u nn nb p : Nat} (hv : VR S r N n yr u nn nb) (hp : p < n) : ∀ (d i fu : Nat) (a b : Int32) (σ : Sta), i + d = 8 → d < fu → σ.1 83 = N → ∃ τ, X12_order_L41 fu (nI p) b a (nI i) σ = some (osO (oV N n yr p) d i a b, τ) ∧ FrL σ τ
  | d, i, 0, a, b, σ, _, h, _ => by omega
  | 0, i, fu + 1, a, b, σ, hi, _, h83 => by
    have e : i = 8 := by omega
    subst e
    exact ⟨σ, by rw [X12_order_L41, if_neg nlt8]; rfl, FrL.rf σ⟩
  | d + 1, i, fu + 1, a, b, σ, hi, hf, h83 => by
    obtain ⟨τ1, e1, e2⟩ := M_ordI (K := X12_order_L41 fu) hv hp (show i < 8 by omega) (7 - i) (i + 1) FU a b σ (by omega) (by show _ < 300; omega) h83
    obtain ⟨τ, t1, t2⟩ := M_ordO hv hp d (i + 1) fu (osI (oV N n yr p i) i (7 - i) (i + 1) a b).1 (osI (oV N n yr p i) i (7 - i) (i + 1) a b).2 τ1 (by omega) (by omega) (by rw [e2.1 83 (by unfold isL; omega)]; exact h83)
    refine ⟨τ, ?_, e2.tr t2⟩
    rw [X12_order_L41, if_pos (lt8 (by omega)), nI_1, e1, osO]
    exact t1

theorem P_order {σ : Sta} (h : Inv σ) (x1 : Int32) : Pair (X11_order x1) (X12_order x1) σ := by
  obtain ⟨n, yr, u, nn, nb, hv⟩ := h.1
  have b0 : (badC σ).1 83 0 = nI n := by rw [badC_83]; exact hv.N0
  have b4 : (badC σ).1 83 4 = nI yr := by rw [badC_83]; exact hv.N4
  by_cases e0 : inB x1 0 (nI n - 1) = true
  rotate_left
  · rw [Bool.not_eq_true] at e0; exact pair_bad (a := -2) h (by simp only [X11_order, C_isOne_b hv.s10, e0, cA_e, bi_if, within_b, C_isArt_b, C_bad, Bool.false_eq_true, ite_false, ite_true, if_true, if_false]) (by simp only [X12_order, M_isOne_b b0, e0, cA_e, bi_if, M_isYear_b, M_isSort_b, in_01, in_02, in_05, in_06, in_07, in_09, in_30, in_60, in_99, in_12, M_bad, Bool.false_eq_true, ite_false, ite_true, if_true, if_false])
  obtain ⟨j0, hj0, rfl⟩ := inB_1 hv.n6 e0
  refine pair_q h (a := osO (oV (σ.1 83) n yr j0) (8 - yr) yr (wsm (cur (σ.1 83) n yr 8).1 (woN (σ.1 83)) j0 8) (-1)) ?_ (fun τ hτ => ?_)
  · simp only [X11_order, C_isOne_b hv.s10, e0, cA_e, bi_if, within_b, C_isArt_b, C_bad, Bool.false_eq_true, ite_false, ite_true, if_true, if_false]
    have hy8 := hv.y8
    obtain ⟨τ1, τ2, d1, d2, d3, d4⟩ := hv.trial
    have hv2 := hv.q d4.q
    obtain ⟨τ, t1, t2⟩ := C_ordO (N := σ.1 83) (u := u) (nn := nn) (nb := nb) hj0 (8 - yr) yr FU (wsm (cur (σ.1 83) n yr 8).1 (woN (σ.1 83)) j0 8) (-1) τ2 (by omega) (by show _ < 300; omega) hv2
    have tb : X2_bestSwap 1 (nI j0) σ = some (osO (oV (σ.1 83) n yr j0) (8 - yr) yr (wsm (cur (σ.1 83) n yr 8).1 (woN (σ.1 83)) j0 8) (-1), τ) := by
      rw [X2_bestSwap, cA_of d1, cA_of d2, cA_of (TC_wb d3 hv.n6 hj0), fI_e, hv2.s11]
      exact t1
    rw [cA_of tb]
    exact ⟨τ, rfl, (d4.tr t2).q⟩
  · have t83 : τ.1 83 = σ.1 83 := hτ.at (by unfold isQ; omega)
    have t0 : τ.1 83 0 = nI n := by rw [t83]; exact hv.N0
    have t4 : τ.1 83 4 = nI yr := by rw [t83]; exact hv.N4
    have tv : VR σ.1 1 (τ.1 83) n yr u nn nb := by rw [t83]; exact hv
    simp only [X12_order, M_isOne_b t0, e0, cA_e, bi_if, M_isYear_b, M_isSort_b, in_01, in_02, in_05, in_06, in_07, in_09, in_30, in_60, in_99, in_12, M_bad, Bool.false_eq_true, ite_false, ite_true, if_true, if_false]
    have hy8 := hv.y8
    obtain ⟨τ1, τ2, f1, f2, f3, f4⟩ := tv.hand hv.y8 (by omega)
    have f2' : X12_goTill (8 : Int32) τ1 = some ((), τ2) := f2
    have g1 := HM_ws f3 (tv.cw hv.y8 (Nat.le_refl _)) hj0
    obtain ⟨τ3, h1, h2⟩ := M_ordO tv hj0 (8 - yr) yr FU (wsm (cur (τ.1 83) n yr 8).1 (woN (τ.1 83)) j0 8) (-1) τ2 (by omega) (by show _ < 300; omega) f3.1
    rw [cA_of f1, cA_of f2', cA_of g1, aI4, f3.1, tv.N4]
    rw [t83] at h1 ⊢
    exact ⟨τ3, h1, f4.q.tr h2.q⟩
end
section
/-! PURE HALF 17: rivals -/
theorem m8 (i j : Nat) : nI i * 8 + nI j = nI (8 * i + j) := by
  have h : (8 : Int32) = nI 8 := rfl
  rw [h, pk_mul, nI_add, Nat.mul_comm]
theorem m8l (i j : Nat) : (8 : Int32) * nI i + nI j = nI (8 * i + j) := by
  have h : (8 : Int32) = nI 8 := rfl
  rw [h, pk_mul, nI_add]
abbrev rCh (a b i j : Nat) : Nat → Int32 := upd (upd ch0 a (nI i)) b (nI j)
abbrev rA (N : Nat → Int32) (n yr a b i j : Nat) : Int32 := wwi (rN N n (rCh a b i j) (soN N) (woN N) (max i j + 1 - yr) yr (qN N)).1 (woN N) a i
abbrev rB (N : Nat → Int32) (n yr a b i j : Nat) : Int32 := wwi (rN N n (rCh a b i j) (soN N) (woN N) (max i j + 1 - yr) yr (qN N)).1 (woN N) b j
theorem maxN {i j : Nat} (hi : i < 8) (hj : j < 8) : (if nI i < nI j then nI j else nI i) = nI (max i j) := by
  by_cases c : i < j
  · rw [if_pos (nI_lt c (by omega)), Nat.max_eq_right (by omega)]
  · rw [if_neg (nI_nlt (by omega) (by omega)), Nat.max_eq_left (by omega)]
theorem C_weighI {N : Nat → Int32} {n yr u nn nb a b i : Nat} {K : Int32 → Int32 → Int32 → Sta → Option (Unit × Sta)} (ha : a < n) (hb : b < n) (hi : i < 8) (hyi : yr ≤ i) : ∀ (d j fu : Nat) (σ : Sta), j + d = 8 → d < fu → yr ≤ j → VR σ.1 1 N n yr u nn nb → ∃ τ, X2_weighRivals_L19 1 K fu (nI a) (nI b) (nI i) (nI j) σ = K (nI a) (nI b) (nI (i + 1)) τ ∧ FrQ σ τ ∧ (∀ z, j ≤ z → z < 8 → τ.1 78 (8 * i + z) = rA N n yr a b i z ∧ τ.1 79 (8 * i + z) = rB N n yr a b i z) ∧ (∀ k, k < 8 * i + j ∨ 8 * i + 8 ≤ k → τ.1 78 k = σ.1 78 k ∧ τ.1 79 k = σ.1 79 k)
  | d, j, 0, σ, _, h, _, _ => by omega
  | 0, j, fu + 1, σ, hj, _, _, hv => by
    have e : j = 8 := by omega
    subst e
    exact ⟨σ, by rw [X2_weighRivals_L19, if_neg nlt8, nI_1], FrQ.rf σ, fun z z1 z2 => by omega, fun k _ => ⟨rfl, rfl⟩⟩
  | d + 1, j, fu + 1, σ, hj, hf, hyj, hv => by
    have hn := hv.n6
    obtain ⟨τ1, e1, e2, e3⟩ := hv.begin
    obtain ⟨τ2, f1, f2, f3⟩ := TC_choose e2 (p := a) (by omega) (nI i)
    obtain ⟨τ3, g1, g2, g3⟩ := TC_choose f2 (p := b) (by omega) (nI j)
    obtain ⟨τ4, h1, h2, h3⟩ := TC_run (e := max i j + 1) g2 hv.wf (by omega) (by omega)
    have fr : FrB σ τ4 := ((e3.tr f3).tr g3).tr h3.b
    have w1 := TC_wi h2 (p := a) (z := i) hn ha hi
    have w2 := TC_wi (TC_up h2 (k := 78) (f := upd (τ4.1 78) (8 * i + j) (rA N n yr a b i j)) (by omega)) (p := b) (z := j) hn hb (by omega)
    have q78 : τ4.1 78 = σ.1 78 := fr.1 78 (by unfold isB; omega)
    have q79 : τ4.1 79 = σ.1 79 := fr.1 79 (by unfold isB; omega)
    have fr2 : FrQ σ (up1 (up1 τ4 78 (upd (τ4.1 78) (8 * i + j) (rA N n yr a b i j))) 79 (upd (τ4.1 79) (8 * i + j) (rB N n yr a b i j))) := fr.q.tr ((FrQ.up (by unfold isQ; omega)).tr (FrQ.up (by unfold isQ; omega)))
    obtain ⟨τ, t1, t2, t3, t4⟩ := C_weighI (K := K) ha hb hi hyi d (j + 1) fu (up1 (up1 τ4 78 (upd (τ4.1 78) (8 * i + j) (rA N n yr a b i j))) 79 (upd (τ4.1 79) (8 * i + j) (rB N n yr a b i j))) (by omega) (by omega) (by omega) (hv.q fr2)
    refine ⟨τ, ?_, fr2.tr t2, fun z z1 z2 => ?_, fun k hk => ?_⟩
    · rw [X2_weighRivals_L19, if_pos (lt8 (by omega)), cA_of e1, cA_of f1, cA_of g1, maxN hi (by omega), nI_1, cA_of h1, cA_of w1, m8, sI_n (8 * i + j) (by omega), cA_of w2, sI_n (8 * i + j) (by omega), up1_n (show 79 ≠ 78 by decide), nI_1]
      exact t1
    · by_cases c : z = j
      · subst c
        obtain ⟨x1, x2⟩ := t4 (8 * i + z) (by omega)
        rw [x1, x2, up1_n (show 78 ≠ 79 by decide), up1_s, up1_s, updS, updS]
        exact ⟨rfl, rfl⟩
      · exact t3 z (by omega) z2
    · obtain ⟨x1, x2⟩ := t4 k (by omega)
      rw [x1, x2, up1_n (show 78 ≠ 79 by decide), up1_s, up1_s, updN (by omega), updN (by omega), q78, q79]
      exact ⟨rfl, rfl⟩
theorem C_weighO {N : Nat → Int32} {n yr u nn nb a b : Nat} (ha : a < n) (hb : b < n) : ∀ (d i fu : Nat) (σ : Sta), i + d = 8 → d < fu → yr ≤ i → VR σ.1 1 N n yr u nn nb → ∃ τ, X2_weighRivals_L6 1 fu (nI a) (nI b) (nI i) σ = some ((), τ) ∧ FrQ σ τ ∧ (∀ y z, i ≤ y → y < 8 → yr ≤ z → z < 8 → τ.1 78 (8 * y + z) = rA N n yr a b y z ∧ τ.1 79 (8 * y + z) = rB N n yr a b y z) ∧ (∀ k, k < 8 * i → τ.1 78 k = σ.1 78 k ∧ τ.1 79 k = σ.1 79 k)
  | d, i, 0, σ, _, h, _, _ => by omega
  | 0, i, fu + 1, σ, hi, _, _, hv => by
    have e : i = 8 := by omega
    subst e
    exact ⟨σ, by rw [X2_weighRivals_L6, if_neg nlt8], FrQ.rf σ, fun y z z1 z2 => by omega, fun k _ => ⟨rfl, rfl⟩⟩
  | d + 1, i, fu + 1, σ, hi, hf, hyi, hv => by
    have hy8 := hv.y8
    obtain ⟨τ1, e1, e2, e3, e4⟩ := C_weighI (K := X2_weighRivals_L6 1 fu) ha hb (show i < 8 by omega) hyi (8 - yr) yr FU σ (by omega) (by show _ < 300; omega) (Nat.le_refl _) hv
    obtain ⟨τ, t1, t2, t3, t4⟩ := C_weighO ha hb d (i + 1) fu τ1 (by omega) (by omega) (by omega) (hv.q e2)
    refine ⟨τ, ?_, e2.tr t2, fun y z z1 z2 z3 z4 => ?_, fun k hk => ?_⟩
    · rw [X2_weighRivals_L6, if_pos (lt8 (by omega)), fI_e, hv.s11, e1]
      exact t1
    · by_cases c : y = i
      · subst c
        obtain ⟨x1, x2⟩ := t4 (8 * y + z) (by omega)
        rw [x1, x2]
        exact e3 z z3 z4
      · exact t3 y z (by omega) z2 z3 z4
    · obtain ⟨x1, x2⟩ := t4 k (by omega)
      obtain ⟨x3, x4⟩ := e4 k (by omega)
      rw [x1, x2, x3, x4]
      exact ⟨rfl, rfl⟩
theorem negadd (a b : Int32) : -a + (a + b) = b := by rw [← Int32.add_assoc, Int32.add_left_neg, Int32.zero_add]
theorem HM_up {N : Nat → Int32} {n : Nat} {ch so wo : Nat → Int32} {q : Cq} {σ : Sta} (h : HM N n ch so wo q σ) {k : Nat} {f : Nat → Int32} (hk : k = 92 ∨ k = 93) : HM N n ch so wo q (up1 σ k f) := by
  obtain ⟨h1, h2, h3, h4⟩ := h
  refine ⟨by rw [up1_n (by omega)]; exact h1, h2, fun p hp => ?_, fun y hy => ?_⟩
  · rw [up1_n (by omega), up1_n (by omega), up1_n (by omega)]; exact h3 p hp
  · rw [up1_n (by omega), up1_n (by omega)]; exact h4 y hy
theorem M_weighI {N : Nat → Int32} {S : Nat → Nat → Int32} {r n yr u nn nb a b i : Nat} {x3 : Int32} {K : Int32 → Int32 → Int32 → Int32 → Sta → Option (Int32 × Sta)} (hv : VR S r N n yr u nn nb) (ha : a < n) (hb : b < n) (hab : a ≠ b) (hi : i < 8) (hyi : yr ≤ i) : ∀ (d j fu : Nat) (σ : Sta), j + d = 8 → d < fu → yr ≤ j → σ.1 83 = N → ∃ τ, X12_rivals_L56 K fu (nI a) (nI b) x3 (nI i) (nI j) σ = K (nI a) (nI b) x3 (nI (i + 1)) τ ∧ FrQ σ τ ∧ (∀ z, j ≤ z → z < 8 → τ.1 92 (8 * i + z) = rA N n yr a b i z ∧ τ.1 93 (8 * i + z) = rB N n yr a b i z) ∧ (∀ k, k < 8 * i + j ∨ 8 * i + 8 ≤ k → τ.1 92 k = σ.1 92 k ∧ τ.1 93 k = σ.1 93 k)
  | d, j, 0, σ, _, h, _, _ => by omega
  | 0, j, fu + 1, σ, hj, _, _, h83 => by
    have e : j = 8 := by omega
    subst e
    exact ⟨σ, by rw [X12_rivals_L56, if_neg nlt8, nI_1], FrQ.rf σ, fun z z1 z2 => by omega, fun k _ => ⟨rfl, rfl⟩⟩
  | d + 1, j, fu + 1, σ, hj, hf, hyj, h83 => by
    have hn := hv.n6
    have hy8 := hv.y8
    have hv' : VR S r (σ.1 83) n yr u nn nb := by rw [h83]; exact hv
    obtain ⟨τ1, e1, e2, e3⟩ := hv'.lay
    rw [h83] at e2
    have w0 := HM_ws e2 hv.wf ha
    have H1 := HM_up e2 (k := 92) (f := upd (τ1.1 92) (8 * i + j) (-(wsm (qN N).1 (woN N) a 8))) (Or.inl rfl)
    have w1 := HM_ws H1 hv.wf hb
    have H2 := HM_up H1 (k := 93) (f := upd (τ1.1 93) (8 * i + j) (-(wsm (qN N).1 (woN N) b 8))) (Or.inr rfl)
    have H3 := HM_ch (HM_ch H2 (p := a) (z := i) hi) (p := b) (z := j) (show j < 8 by omega)
    obtain ⟨τ2, f1, f2, f3⟩ := HM_till (e := 8) H3 hv.wf hv.N4 hy8 (Nat.le_refl 8)
    have hw8 : Wf N n (soN N) (woN N) (rN N n (rCh a b i j) (soN N) (woN N) (8 - yr) yr (qN N)) := WF_rn _ _ _ hv.wf (by omega)
    have w2 := HM_ws f2 hw8 ha
    obtain ⟨wa, xa1, xa2⟩ := hv.wi a ha
    obtain ⟨wb, xb1, xb2⟩ := hv.wi b hb
    have ta := try_ws (ch := rCh a b i j) (y := i) (e := max i j + 1) hv.wf ha (by unfold rCh; rw [updN hab, updS]) hyi hi (by omega) (by omega) xa2 xa1
    have tb := try_ws (ch := rCh a b i j) (y := j) (e := max i j + 1) hv.wf hb (by unfold rCh; rw [updS]) hyj (by omega) (by omega) (by omega) xb2 xb1
    have q92 : τ1.1 92 = σ.1 92 := e3.1 92 (by unfold isL; omega)
    have q93 : τ1.1 93 = σ.1 93 := e3.1 93 (by unfold isL; omega)
    have r92 : τ2.1 92 = upd (σ.1 92) (8 * i + j) (-(wsm (qN N).1 (woN N) a 8)) := by rw [f3.1 92 (by omega) (by omega), up1_n (by decide), up1_n (by decide), up1_n (by decide), up1_s, q92]
    have r93 : τ2.1 93 = upd (σ.1 93) (8 * i + j) (-(wsm (qN N).1 (woN N) b 8)) := by rw [f3.1 93 (by omega) (by omega), up1_n (by decide), up1_n (by decide), up1_s, q93]
    have va : τ2.1 92 (8 * i + j) + wsm (rN N n (rCh a b i j) (soN N) (woN N) (8 - yr) yr (qN N)).1 (woN N) a 8 = rA N n yr a b i j := by rw [r92, updS, ta, negadd]
    have vb : τ2.1 93 (8 * i + j) + wsm (rN N n (rCh a b i j) (soN N) (woN N) (8 - yr) yr (qN N)).1 (woN N) b 8 = rB N n yr a b i j := by rw [r93, updS, tb, negadd]
    have H4 := HM_up f2 (k := 92) (f := upd (τ2.1 92) (8 * i + j) (rA N n yr a b i j)) (Or.inl rfl)
    have w3 := HM_ws H4 hw8 hb
    have f1' : X12_goTill (8 : Int32) (up1 (up1 (up1 (up1 τ1 92 (upd (τ1.1 92) (8 * i + j) (-(wsm (qN N).1 (woN N) a 8)))) 93 (upd (τ1.1 93) (8 * i + j) (-(wsm (qN N).1 (woN N) b 8)))) 91 (upd (τ1.1 91) a (nI i))) 91 (upd (upd (τ1.1 91) a (nI i)) b (nI j))) = some ((), τ2) := by
      rw [up1_s, up1_n (show 91 ≠ 93 by decide), up1_n (show 91 ≠ 92 by decide)] at f1
      exact f1
    have s83 : (up1 (up1 τ2 92 (upd (τ2.1 92) (8 * i + j) (rA N n yr a b i j))) 93 (upd (τ2.1 93) (8 * i + j) (rB N n yr a b i j))).1 83 = N := by rw [up1_n (by decide), up1_n (by decide)]; exact f2.1
    have fr2 : FrQ σ (up1 (up1 τ2 92 (upd (τ2.1 92) (8 * i + j) (rA N n yr a b i j))) 93 (upd (τ2.1 93) (8 * i + j) (rB N n yr a b i j))) := ((e3.q.tr (((FrQ.up (by unfold isQ; omega)).tr (FrQ.up (by unfold isQ; omega))).tr ((FrQ.up (by unfold isQ; omega)).tr (FrQ.up (by unfold isQ; omega))))).tr f3.q).tr ((FrQ.up (by unfold isQ; omega)).tr (FrQ.up (by unfold isQ; omega)))
    obtain ⟨τ, t1, t2, t3, t4⟩ := M_weighI (K := K) (x3 := x3) hv ha hb hab hi hyi d (j + 1) fu (up1 (up1 τ2 92 (upd (τ2.1 92) (8 * i + j) (rA N n yr a b i j))) 93 (upd (τ2.1 93) (8 * i + j) (rB N n yr a b i j))) (by omega) (by omega) (by omega) s83
    refine ⟨τ, ?_, fr2.tr t2, fun z z1 z2 => ?_, fun k hk => ?_⟩
    · rw [X12_rivals_L56, if_pos (lt8 (by omega)), cA_of e1, cA_of w0, m8l, sI_n (8 * i + j) (by omega), cA_of w1, sI_n (8 * i + j) (by omega), up1_n (show 93 ≠ 92 by decide), sI_n a (by omega), up1_n (show 91 ≠ 93 by decide), up1_n (show 91 ≠ 92 by decide), sI_n b (by omega), up1_s, cA_of f1', aI_n (8 * i + j) (by omega), cA_of w2, sI_n (8 * i + j) (by omega), va, aI_n (8 * i + j) (by omega), cA_of w3, sI_n (8 * i + j) (by omega), up1_n (show 93 ≠ 92 by decide), vb, nI_1]
      exact t1
    · by_cases c : z = j
      · subst c
        obtain ⟨x1, x2⟩ := t4 (8 * i + z) (by omega)
        rw [x1, x2, up1_n (show 92 ≠ 93 by decide), up1_s, up1_s, updS, updS]
        exact ⟨rfl, rfl⟩
      · exact t3 z (by omega) z2
    · obtain ⟨x1, x2⟩ := t4 k (by omega)
      rw [x1, x2, up1_n (show 92 ≠ 93 by decide), up1_s, up1_s, updN (by omega), updN (by omega), r92, r93, updN (by omega), updN (by omega)]
      exact ⟨rfl, rfl⟩
theorem M_weighO {N : Nat → Int32} {S : Nat → Nat → Int32} {r n yr u nn nb a b : Nat} {x3 : Int32} (hv : VR S r N n yr u nn nb) (ha : a < n) (hb : b < n) (hab : a ≠ b) : ∀ (d i fu : Nat) (σ : Sta), i + d = 8 → d < fu → yr ≤ i → σ.1 83 = N → ∃ τ, X12_rivals_L41 fu (nI a) (nI b) x3 (nI i) σ = X12_rivals_L196 FU x3 0 (-5) (nI yr) τ ∧ FrQ σ τ ∧ (∀ y z, i ≤ y → y < 8 → yr ≤ z → z < 8 → τ.1 92 (8 * y + z) = rA N n yr a b y z ∧ τ.1 93 (8 * y + z) = rB N n yr a b y z) ∧ (∀ k, k < 8 * i → τ.1 92 k = σ.1 92 k ∧ τ.1 93 k = σ.1 93 k)
  | d, i, 0, σ, _, h, _, _ => by omega
  | 0, i, fu + 1, σ, hi, _, _, h83 => by
    have e : i = 8 := by omega
    subst e
    exact ⟨σ, by rw [X12_rivals_L41, if_neg nlt8, aI4, h83, hv.N4], FrQ.rf σ, fun y z z1 z2 => by omega, fun k _ => ⟨rfl, rfl⟩⟩
  | d + 1, i, fu + 1, σ, hi, hf, hyi, h83 => by
    have hy8 := hv.y8
    obtain ⟨τ1, e1, e2, e3, e4⟩ := M_weighI (K := X12_rivals_L41 fu) (x3 := x3) hv ha hb hab (show i < 8 by omega) hyi (8 - yr) yr FU σ (by omega) (by show _ < 300; omega) (Nat.le_refl _) h83
    obtain ⟨τ, t1, t2, t3, t4⟩ := M_weighO (x3 := x3) hv ha hb hab d (i + 1) fu τ1 (by omega) (by omega) (by omega) (by rw [e2.at (by unfold isQ; omega)]; exact h83)
    refine ⟨τ, ?_, e2.tr t2, fun y z z1 z2 z3 z4 => ?_, fun k hk => ?_⟩
    · rw [X12_rivals_L41, if_pos (lt8 (by omega)), aI4, h83, hv.N4, e1]
      exact t1
    · by_cases c : y = i
      · subst c
        obtain ⟨x1, x2⟩ := t4 (8 * y + z) (by omega)
        rw [x1, x2]
        exact e3 z z3 z4
      · exact t3 y z (by omega) z2 z3 z4
    · obtain ⟨x1, x2⟩ := t4 k (by omega)
      obtain ⟨x3, x4⟩ := e4 k (by omega)
      rw [x1, x2, x3, x4]
      exact ⟨rfl, rfl⟩
-- what rests
def rst (A B : Nat → Nat → Int32) (i j : Nat) : Nat → Nat → Bool
  | 0, _ => true
  | d + 1, y => if A i j < A y j then false else if B i j < B i y then false else rst A B i j d (y + 1)
def Tab (σ : Sta) (k : Nat) (yr : Nat) (A : Nat → Nat → Int32) : Prop := ∀ y z, yr ≤ y → y < 8 → yr ≤ z → z < 8 → σ.1 k (8 * y + z) = A y z
theorem C_restsL {σ : Sta} {A B : Nat → Nat → Int32} {yr i j : Nat} (hA : Tab σ 78 yr A) (hB : Tab σ 79 yr B) (h1 : yr ≤ i) (h2 : i < 8) (h3 : yr ≤ j) (h4 : j < 8) : ∀ (d y fu : Nat), y + d = 8 → d < fu → yr ≤ y → X2_rests_L11 fu (nI i) (nI j) (nI (8 * i + j)) (nI y) σ = some (bi (rst A B i j d y), σ)
  | d, y, 0, _, h, _ => by omega
  | 0, y, fu + 1, hy, _, _ => by
    have e : y = 8 := by omega
    subst e
    rw [X2_rests_L11, if_neg nlt8]
    rfl
  | d + 1, y, fu + 1, hy, hf, hyy => by
    rw [X2_rests_L11, if_pos (lt8 (by omega)), m8, aI_n (8 * y + j) (by omega), aI_n (8 * i + j) (by omega), hA y j hyy (by omega) h3 h4, hA i j h1 h2 h3 h4, rst]
    by_cases c1 : A i j < A y j
    · rw [if_pos c1, if_pos c1]; rfl
    · rw [if_neg c1, if_neg c1, m8, aI_n (8 * i + y) (by omega), aI_n (8 * i + j) (by omega), hB i y h1 h2 hyy (by omega), hB i j h1 h2 h3 h4]
      by_cases c2 : B i j < B i y
      · rw [if_pos c2, if_pos c2]; rfl
      · rw [if_neg c2, if_neg c2, nI_1]
        exact C_restsL hA hB h1 h2 h3 h4 d (y + 1) fu (by omega) (by omega) (by omega)
theorem M_rests0 {σ : Sta} {x1 x2 : Int32} : ∀ (d y fu : Nat), y + d = 8 → d < fu → X12_rests_L10 fu x1 x2 0 (nI y) σ = some (0, σ)
  | d, y, 0, _, h => by omega
  | 0, y, fu + 1, hy, _ => by
    have e : y = 8 := by omega
    subst e
    rw [X12_rests_L10, if_neg nlt8]
    rfl
  | d + 1, y, fu + 1, hy, hf => by
    rw [X12_rests_L10, if_pos (lt8 (by omega)), if_pos rfl, nI_1]
    exact M_rests0 d (y + 1) fu (by omega) (by omega)
theorem M_restsL {σ : Sta} {A B : Nat → Nat → Int32} {yr i j : Nat} (hA : Tab σ 92 yr A) (hB : Tab σ 93 yr B) (h1 : yr ≤ i) (h2 : i < 8) (h3 : yr ≤ j) (h4 : j < 8) : ∀ (d y fu : Nat), y + d = 8 → d < fu → yr ≤ y → X12_rests_L10 fu (nI i) (nI j) 1 (nI y) σ = some (bi (rst A B i j d y), σ)
  | d, y, 0, _, h, _ => by omega
  | 0, y, fu + 1, hy, _, _ => by
    have e : y = 8 := by omega
    subst e
    rw [X12_rests_L10, if_neg nlt8]
    rfl
  | d + 1, y, fu + 1, hy, hf, hyy => by
    rw [X12_rests_L10, if_pos (lt8 (by omega)), if_neg n10, m8l, aI_n (8 * y + j) (by omega), m8l, aI_n (8 * i + j) (by omega), hA y j hyy (by omega) h3 h4, hA i j h1 h2 h3 h4, rst]
    by_cases c1 : A i j < A y j
    · rw [if_pos c1, if_pos c1, nI_1, M_rests0 d (y + 1) fu (by omega) (by omega)]; rfl
    · rw [if_neg c1, if_neg c1, m8l, aI_n (8 * i + y) (by omega), aI_n (8 * i + j) (by omega), hB i y h1 h2 hyy (by omega), hB i j h1 h2 h3 h4]
      by_cases c2 : B i j < B i y
      · rw [if_pos c2, if_pos c2, nI_1, M_rests0 d (y + 1) fu (by omega) (by omega)]; rfl
      · rw [if_neg c2, if_neg c2, nI_1]
        exact M_restsL hA hB h1 h2 h3 h4 d (y + 1) fu (by omega) (by omega) (by omega)
-- the k-th
def cIn (R : Nat → Nat → Bool) (k : Int32) (i : Nat) : Nat → Nat → Nat → Option Int32 × Nat
  | 0, _, c => (none, c)
  | d + 1, j, c => if R i j then (if nI c = k then (some (nI (8 * i + j)), c) else cIn R k i d (j + 1) (c + 1)) else cIn R k i d (j + 1) c
def cOu (R : Nat → Nat → Bool) (k : Int32) (yr : Nat) : Nat → Nat → Nat → Int32
  | 0, _, c => if k = -1 then nI c else -5
  | d + 1, i, c => match (cIn R k i (8 - yr) yr c).1 with
    | some v => v
    | none => cOu R k yr d (i + 1) (cIn R k i (8 - yr) yr c).2
def rIn (R : Nat → Nat → Bool) (k : Int32) (i : Nat) : Nat → Nat → Nat → Int32 → Nat × Int32
  | 0, _, c, t => (c, t)
  | d + 1, j, c, t => if R i j then rIn R k i d (j + 1) (c + 1) (if nI c = k then nI (8 * i + j) else t) else rIn R k i d (j + 1) c t
def rOu (R : Nat → Nat → Bool) (k : Int32) (yr : Nat) : Nat → Nat → Nat → Int32 → Int32
  | 0, _, c, t => if k = -1 then nI c else t
  | d + 1, i, c, t => rOu R k yr d (i + 1) (rIn R k i (8 - yr) yr c t).1 (rIn R k i (8 - yr) yr c t).2
theorem rIn_le {R : Nat → Nat → Bool} {k : Int32} {i : Nat} : ∀ (d j c : Nat) (t : Int32), (rIn R k i d j c t).1 ≤ c + d ∧ c ≤ (rIn R k i d j c t).1
  | 0, j, c, t => ⟨Nat.le_refl _, Nat.le_refl _⟩
  | d + 1, j, c, t => by
    rw [rIn]
    split
    · have := rIn_le (R := R) (k := k) (i := i) d (j + 1) (c + 1) (if nI c = k then nI (8 * i + j) else t)
      omega
    · have := rIn_le (R := R) (k := k) (i := i) d (j + 1) c t
      omega
/-- once told, it stays told -/
theorem rIn_af {R : Nat → Nat → Bool} {kk i : Nat} (hk : kk < 2 ^ 31) : ∀ (d j c : Nat) (t : Int32), kk < c → c + d < 2 ^ 31 → (rIn R (nI kk) i d j c t).2 = t
  | 0, j, c, t, _, _ => rfl
  | d + 1, j, c, t, h, hc => by
    rw [rIn]
    split
    · rw [if_neg (fun e => by have := (nI_eq (by omega) hk).mp e; omega)]
      exact rIn_af hk d (j + 1) (c + 1) t (by omega) (by omega)
    · exact rIn_af hk d (j + 1) c t h (by omega)
theorem rOu_af {R : Nat → Nat → Bool} {kk yr : Nat} (hk : kk < 2 ^ 31) : ∀ (d i c : Nat) (t : Int32), kk < c → c + 8 * d < 2 ^ 31 → rOu R (nI kk) yr d i c t = t
  | 0, i, c, t, _, _ => by rw [rOu, if_neg (nm1 hk)]
  | d + 1, i, c, t, h, hc => by
    have l := rIn_le (R := R) (k := nI kk) (i := i) (8 - yr) yr c t
    rw [rOu, rIn_af hk (8 - yr) yr c t h (by omega)]
    exact rOu_af hk d (i + 1) _ t (by omega) (by omega)
theorem cIn_is {R : Nat → Nat → Bool} {k : Int32} {i : Nat} : ∀ (d j c : Nat) (t : Int32), c + d < 2 ^ 31 → ((cIn R k i d j c).1 = none ∧ rIn R k i d j c t = ((cIn R k i d j c).2, t)) ∨ (∃ v kk, kk < 2 ^ 31 ∧ k = nI kk ∧ (cIn R k i d j c).1 = some v ∧ (rIn R k i d j c t).2 = v ∧ kk < (rIn R k i d j c t).1)
  | 0, j, c, t, _ => Or.inl ⟨rfl, rfl⟩
  | d + 1, j, c, t, hc => by
    rw [cIn, rIn]
    split
    · by_cases e : nI c = k
      · rw [if_pos e, if_pos e]
        subst e
        refine Or.inr ⟨_, c, by omega, rfl, rfl, rIn_af (by omega) d (j + 1) (c + 1) _ (by omega) (by omega), ?_⟩
        have l := rIn_le (R := R) (k := nI c) (i := i) d (j + 1) (c + 1) (nI (8 * i + j))
        omega
      · rw [if_neg e, if_neg e]
        exact cIn_is d (j + 1) (c + 1) t (by omega)
    · exact cIn_is d (j + 1) c t (by omega)
theorem cOu_is {R : Nat → Nat → Bool} {k : Int32} {yr : Nat} : ∀ (d i c : Nat), c + 8 * d < 2 ^ 31 → cOu R k yr d i c = rOu R k yr d i c (-5)
  | 0, i, c, _ => rfl
  | d + 1, i, c, hc => by
    have l := rIn_le (R := R) (k := k) (i := i) (8 - yr) yr c (-5)
    rw [cOu, rOu]
    rcases cIn_is (R := R) (k := k) (i := i) (8 - yr) yr c (-5) (by omega) with ⟨e1, e2⟩ | ⟨v, kk, k1, k2, e1, e2, e3⟩
    · rw [e1, e2]
      rw [e2] at l
      exact cOu_is d (i + 1) _ (by omega)
    · rw [e1, e2]
      subst k2
      exact (rOu_af k1 d (i + 1) _ v e3 (by omega)).symm
theorem C_restI {σ : Sta} {A B : Nat → Nat → Int32} {yr i : Nat} {k : Int32} {K : Int32 → Int32 → Int32 → Int32 → Sta → Option (Int32 × Sta)} (hA : Tab σ 78 yr A) (hB : Tab σ 79 yr B) (hyr : yr ≤ 8) (h1 : yr ≤ i) (h2 : i < 8) : ∀ (d j fu c : Nat), j + d = 8 → d < fu → yr ≤ j → X2_resting_L15 K fu (nI yr) k (nI c) (nI i) (nI j) σ = match (cIn (fun i j => rst A B i j (8 - yr) yr) k i d j c).1 with
    | some v => some (v, σ)
    | none => K (nI yr) k (nI (cIn (fun i j => rst A B i j (8 - yr) yr) k i d j c).2) (nI (i + 1)) σ
  | d, j, 0, c, _, h, _ => by omega
  | 0, j, fu + 1, c, hj, _, _ => by
    have e : j = 8 := by omega
    subst e
    rw [X2_resting_L15, if_neg nlt8, nI_1]
    rfl
  | d + 1, j, fu + 1, c, hj, hf, hyj => by
    have hr : X2_rests (nI yr) (nI i) (nI j) σ = some (bi (rst A B i j (8 - yr) yr), σ) := by
      rw [X2_rests, m8]
      exact C_restsL hA hB h1 h2 hyj (by omega) (8 - yr) yr FU (by omega) (by show _ < 300; omega) (Nat.le_refl _)
    rw [X2_resting_L15, if_pos (lt8 (by omega)), cA_of hr, bi_if, nI_1, nI_1, m8, cIn]
    by_cases c1 : rst A B i j (8 - yr) yr = true
    · rw [if_pos c1, if_pos c1]
      by_cases c2 : nI c = k
      · rw [if_pos c2, if_pos c2]
      · rw [if_neg c2, if_neg c2]
        exact C_restI hA hB hyr h1 h2 d (j + 1) fu (c + 1) (by omega) (by omega) (by omega)
    · rw [if_neg c1, if_neg c1]
      exact C_restI hA hB hyr h1 h2 d (j + 1) fu c (by omega) (by omega) (by omega)
theorem C_restO {σ : Sta} {A B : Nat → Nat → Int32} {yr : Nat} {k : Int32} (hA : Tab σ 78 yr A) (hB : Tab σ 79 yr B) (hyr : yr ≤ 8) : ∀ (d i fu c : Nat), i + d = 8 → d < fu → yr ≤ i → X2_resting_L5 fu (nI yr) k (nI c) (nI i) σ = some (cOu (fun i j => rst A B i j (8 - yr) yr) k yr d i c, σ)
  | d, i, 0, c, _, h, _ => by omega
  | 0, i, fu + 1, c, hi, _, _ => by
    have e : i = 8 := by omega
    subst e
    rw [X2_resting_L5, if_neg nlt8, cOu]
    by_cases c1 : k = -1
    · rw [if_pos c1, if_pos c1]
    · rw [if_neg c1, if_neg c1]
  | d + 1, i, fu + 1, c, hi, hf, hyi => by
    rw [X2_resting_L5, if_pos (lt8 (by omega)), C_restI hA hB hyr hyi (by omega) (8 - yr) yr FU c (by omega) (by show _ < 300; omega) (Nat.le_refl _), cOu]
    cases (cIn (fun i j => rst A B i j (8 - yr) yr) k i (8 - yr) yr c).1 with
    | some v => rfl
    | none => exact C_restO hA hB hyr d (i + 1) fu _ (by omega) (by omega) (by omega)
theorem M_restI {σ : Sta} {A B : Nat → Nat → Int32} {yr i : Nat} {k : Int32} {K : Int32 → Int32 → Int32 → Int32 → Sta → Option (Int32 × Sta)} (hA : Tab σ 92 yr A) (hB : Tab σ 93 yr B) (h4 : σ.1 83 4 = nI yr) (hyr : yr ≤ 8) (h1 : yr ≤ i) (h2 : i < 8) : ∀ (d j fu c : Nat) (t : Int32), j + d = 8 → d < fu → yr ≤ j → X12_rivals_L211 K fu k (nI c) t (nI i) (nI j) σ = K k (nI (rIn (fun i j => rst A B i j (8 - yr) yr) k i d j c t).1) (rIn (fun i j => rst A B i j (8 - yr) yr) k i d j c t).2 (nI (i + 1)) σ
  | d, j, 0, c, t, _, h, _ => by omega
  | 0, j, fu + 1, c, t, hj, _, _ => by
    have e : j = 8 := by omega
    subst e
    rw [X12_rivals_L211, if_neg nlt8, nI_1]
    rfl
  | d + 1, j, fu + 1, c, t, hj, hf, hyj => by
    have hr : X12_rests (nI i) (nI j) σ = some (bi (rst A B i j (8 - yr) yr), σ) := by
      rw [X12_rests, aI4, h4]
      exact M_restsL hA hB h1 h2 hyj (by omega) (8 - yr) yr FU (by omega) (by show _ < 300; omega) (Nat.le_refl _)
    rw [X12_rivals_L211, if_pos (lt8 (by omega)), cA_of hr, bi_if, nI_1, nI_1, m8l, rIn]
    by_cases c1 : rst A B i j (8 - yr) yr = true
    · rw [if_pos c1, if_pos c1]
      by_cases c2 : nI c = k
      · rw [if_pos c2, if_pos c2]
        exact M_restI hA hB h4 hyr h1 h2 d (j + 1) fu (c + 1) _ (by omega) (by omega) (by omega)
      · rw [if_neg c2, if_neg c2]
        exact M_restI hA hB h4 hyr h1 h2 d (j + 1) fu (c + 1) t (by omega) (by omega) (by omega)
    · rw [if_neg c1, if_neg c1]
      exact M_restI hA hB h4 hyr h1 h2 d (j + 1) fu c t (by omega) (by omega) (by omega)
theorem M_restO {σ : Sta} {A B : Nat → Nat → Int32} {yr : Nat} {k : Int32} (hA : Tab σ 92 yr A) (hB : Tab σ 93 yr B) (h4 : σ.1 83 4 = nI yr) (hyr : yr ≤ 8) : ∀ (d i fu c : Nat) (t : Int32), i + d = 8 → d < fu → yr ≤ i → X12_rivals_L196 fu k (nI c) t (nI i) σ = some (rOu (fun i j => rst A B i j (8 - yr) yr) k yr d i c t, σ)
  | d, i, 0, c, t, _, h, _ => by omega
  | 0, i, fu + 1, c, t, hi, _, _ => by
    have e : i = 8 := by omega
    subst e
    rw [X12_rivals_L196, if_neg nlt8, rOu]
    by_cases c1 : k = -1
    · rw [if_pos c1, if_pos c1]
    · rw [if_neg c1, if_neg c1]
  | d + 1, i, fu + 1, c, t, hi, hf, hyi => by
    rw [X12_rivals_L196, if_pos (lt8 (by omega)), aI4, h4, M_restI hA hB h4 hyr hyi (by omega) (8 - yr) yr FU c t (by omega) (by show _ < 300; omega) (Nat.le_refl _), rOu]
    exact M_restO hA hB h4 hyr d (i + 1) fu _ _ (by omega) (by omega) (by omega)

theorem P_rivals {σ : Sta} (h : Inv σ) (x1 x2 x3 : Int32) : Pair (X11_rivals x1 x2 x3) (X12_rivals x1 x2 x3) σ := by
  obtain ⟨n, yr, u, nn, nb, hv⟩ := h.1
  have b0 : (badC σ).1 83 0 = nI n := by rw [badC_83]; exact hv.N0
  have b4 : (badC σ).1 83 4 = nI yr := by rw [badC_83]; exact hv.N4
  by_cases e0 : inB x1 0 (nI n - 1) = true
  rotate_left
  · rw [Bool.not_eq_true] at e0; exact pair_bad (a := -10) h (by simp only [X11_rivals, C_isOne_b hv.s10, e0, cA_e, bi_if, within_b, C_isArt_b, C_bad, Bool.false_eq_true, ite_false, ite_true, if_true, if_false]) (by simp only [X12_rivals, M_isOne_b b0, e0, cA_e, bi_if, M_isYear_b, M_isSort_b, in_01, in_02, in_05, in_06, in_07, in_09, in_30, in_60, in_99, in_12, M_bad, Bool.false_eq_true, ite_false, ite_true, if_true, if_false])
  by_cases e1 : inB x2 0 (nI n - 1) = true
  rotate_left
  · rw [Bool.not_eq_true] at e1; exact pair_bad (a := -10) h (by simp only [X11_rivals, C_isOne_b hv.s10, e0, e1, cA_e, bi_if, within_b, C_isArt_b, C_bad, Bool.false_eq_true, ite_false, ite_true, if_true, if_false]) (by simp only [X12_rivals, M_isOne_b b0, e0, e1, cA_e, bi_if, M_isYear_b, M_isSort_b, in_01, in_02, in_05, in_06, in_07, in_09, in_30, in_60, in_99, in_12, M_bad, Bool.false_eq_true, ite_false, ite_true, if_true, if_false])
  by_cases e2 : x1 = x2
  · exact pair_bad (a := -10) h (by simp only [X11_rivals, C_isOne_b hv.s10, e0, e1, e2, cA_e, bi_if, within_b, C_isArt_b, C_bad, Bool.false_eq_true, ite_false, ite_true, if_true, if_false]) (by simp only [X12_rivals, M_isOne_b b0, e0, e1, e2, cA_e, bi_if, M_isYear_b, M_isSort_b, in_01, in_02, in_05, in_06, in_07, in_09, in_30, in_60, in_99, in_12, M_bad, Bool.false_eq_true, ite_false, ite_true, if_true, if_false])
  by_cases e3 : x3 < -1
  · exact pair_bad (a := -10) h (by simp only [X11_rivals, C_isOne_b hv.s10, e0, e1, e2, e3, cA_e, bi_if, within_b, C_isArt_b, C_bad, Bool.false_eq_true, ite_false, ite_true, if_true, if_false]) (by simp only [X12_rivals, M_isOne_b b0, e0, e1, e2, e3, cA_e, bi_if, M_isYear_b, M_isSort_b, in_01, in_02, in_05, in_06, in_07, in_09, in_30, in_60, in_99, in_12, M_bad, Bool.false_eq_true, ite_false, ite_true, if_true, if_false])
  obtain ⟨j0, hj0, rfl⟩ := inB_1 hv.n6 e0
  obtain ⟨j1, hj1, rfl⟩ := inB_1 hv.n6 e1
  refine pair_q h (a := cOu (fun i j => rst (rA (σ.1 83) n yr j0 j1) (rB (σ.1 83) n yr j0 j1) i j (8 - yr) yr) x3 yr (8 - yr) yr 0) ?_ (fun τ hτ => ?_)
  · simp only [X11_rivals, C_isOne_b hv.s10, e0, e1, e2, e3, cA_e, bi_if, within_b, C_isArt_b, C_bad, Bool.false_eq_true, ite_false, ite_true, if_true, if_false]
    have hy8 := hv.y8
    obtain ⟨τ, t1, t2, t3, t4⟩ := C_weighO (N := σ.1 83) (u := u) (nn := nn) (nb := nb) hj0 hj1 (8 - yr) yr FU σ (by omega) (by show _ < 300; omega) (Nat.le_refl _) hv
    have hw : X2_weighRivals 1 (nI j0) (nI j1) σ = some ((), τ) := by rw [X2_weighRivals, fI_e, hv.s11]; exact t1
    have hv2 := hv.q t2
    have hr := C_restO (σ := τ) (A := rA (σ.1 83) n yr j0 j1) (B := rB (σ.1 83) n yr j0 j1) (k := x3) (fun y z a b c d => (t3 y z a b c d).1) (fun y z a b c d => (t3 y z a b c d).2) hy8 (8 - yr) yr FU 0 (by omega) (by show _ < 300; omega) (Nat.le_refl _)
    have hr' : X2_resting (nI yr) x3 τ = some (cOu (fun i j => rst (rA (σ.1 83) n yr j0 j1) (rB (σ.1 83) n yr j0 j1) i j (8 - yr) yr) x3 yr (8 - yr) yr 0, τ) := hr
    rw [cA_of hw, fI_e, hv2.s11, cA_of hr']
    exact ⟨τ, rfl, t2⟩
  · have t83 : τ.1 83 = σ.1 83 := hτ.at (by unfold isQ; omega)
    have t0 : τ.1 83 0 = nI n := by rw [t83]; exact hv.N0
    have t4 : τ.1 83 4 = nI yr := by rw [t83]; exact hv.N4
    have tv : VR σ.1 1 (τ.1 83) n yr u nn nb := by rw [t83]; exact hv
    simp only [X12_rivals, M_isOne_b t0, e0, e1, e2, e3, cA_e, bi_if, M_isYear_b, M_isSort_b, in_01, in_02, in_05, in_06, in_07, in_09, in_30, in_60, in_99, in_12, M_bad, Bool.false_eq_true, ite_false, ite_true, if_true, if_false]
    have hy8 := hv.y8
    have hab : j0 ≠ j1 := fun e => e2 (by rw [e])
    obtain ⟨τ2, t1, t2, t3, t4'⟩ := M_weighO (x3 := x3) tv hj0 hj1 hab (8 - yr) yr FU τ (by omega) (by show _ < 300; omega) (Nat.le_refl _) rfl
    have h4' : τ2.1 83 4 = nI yr := by rw [t2.at (by unfold isQ; omega)]; exact t4
    have hr := M_restO (σ := τ2) (A := rA (τ.1 83) n yr j0 j1) (B := rB (τ.1 83) n yr j0 j1) (k := x3) (fun y z a b c d => (t3 y z a b c d).1) (fun y z a b c d => (t3 y z a b c d).2) h4' hy8 (8 - yr) yr FU 0 (-5) (by omega) (by show _ < 300; omega) (Nat.le_refl _)
    have hr' : X12_rivals_L196 FU x3 0 (-5) (nI yr) τ2 = some (rOu (fun i j => rst (rA (τ.1 83) n yr j0 j1) (rB (τ.1 83) n yr j0 j1) i j (8 - yr) yr) x3 yr (8 - yr) yr 0 (-5), τ2) := hr
    rw [aI4, t4, t1, hr', ← cOu_is (8 - yr) yr 0 (by omega), t83]
    exact ⟨τ2, rfl, t2⟩
end
section
/-! PURE HALF 18: odds, valleys by a seed -/
def sA (g : Nat → Int32) : Nat → Int32
  | 0 => 0
  | p + 1 => sA g p + g p
theorem sA_n {g : Nat → Int32} : ∀ n, (∀ p, p < n → ∃ b, b < 19 ∧ g p = nI b) → ∃ s, s ≤ 18 * n ∧ sA g n = nI s ∧ ∀ p b, p < n → b < 19 → g p = nI b → b ≤ s
  | 0, _ => ⟨0, by omega, rfl, fun p b hp => by omega⟩
  | n + 1, h => by
    obtain ⟨s, s1, s2, s3⟩ := sA_n n (fun p hp => h p (by omega))
    obtain ⟨b, b1, b2⟩ := h n (by omega)
    refine ⟨s + b, by omega, by rw [sA, s2, b2, nI_add], fun p c hp hc e => ?_⟩
    by_cases q : p = n
    · subst q
      rw [b2] at e
      have := (nI_eq (by omega) (by omega)).mp e
      omega
    · have := s3 p c (by omega) hc e
      omega
theorem TC_all {N : Nat → Int32} {n y : Nat} {ch so wo : Nat → Int32} {q : Cq} {σ : Sta} (h : TC N n y ch so wo q σ) (hw : Wf N n so wo q) {z : Nat} (hz : z < 8) : ∀ (d p fu : Nat), p + d = n → d < fu → X0_strengthOfAll_L5 55 65 fu (nI z) (sA (gN N ch so wo q z) p) (nI p) σ = some (sA (gN N ch so wo q z) n, σ)
  | d, p, 0, _, h => by omega
  | 0, p, fu + 1, hp, _ => by
    have hn := hw.1
    have e : p = n := by omega
    subst e
    rw [X0_strengthOfAll_L5, fI_e, (TC_g h hw hz).1, if_neg (nI_nlt (Nat.le_refl _) (by omega))]
  | d + 1, p, fu + 1, hp, hf => by
    have hn := hw.1
    rw [X0_strengthOfAll_L5, fI_e, (TC_g h hw hz).1, if_pos (nI_lt (by omega) (by omega)), cA_of (TC_str h hw hz (by omega)), nI_1]
    exact TC_all h hw hz d (p + 1) fu (by omega) (by omega)
-- the fraction
def gdN (b s : Nat) : Nat → Nat → Nat → Nat
  | 0, _, g => g
  | k + 1, d, g => gdN b s k (d + 1) (if b % d = 0 ∧ s % d = 0 then d else g)
theorem gdN_is : ∀ b, b < 19 → ∀ s, s < 109 → 0 < b → gdN b s (b - 1) 2 1 = Nat.gcd b s := by decide +kernel
theorem dvI_n {β : Type} {d : Nat} {F : Option β} (h0 : 0 < d) (h : d < 2 ^ 31) : dvI (nI d) F = F := by rw [dvI, if_neg (nI_ne0 h0 h)]
theorem fracL {b s : Nat} {σ : Sta} (hb : b < 19) (hs : s < 109) : ∀ (k d fu g : Nat), d + k = b + 1 → k < fu → 0 < d → 0 < g → g < 2 ^ 31 → ∃ g', gdN b s k d g = g' ∧ 0 < g' ∧ X11_setFraction_L24 fu (nI b) (nI s) (nI g) (nI d) σ = some ((), up2 (up2 σ 0 (vp_updL (σ.2 0) 7 (lN (b / g')))) 0 (vp_updL ((up2 σ 0 (vp_updL (σ.2 0) 7 (lN (b / g')))).2 0) 8 (lN (s / g'))))
  | k, d, 0, g, _, h, _, _, _ => by omega
  | 0, d, fu + 1, g, hk, _, hd, hg, hg2 => by
    refine ⟨g, rfl, hg, ?_⟩
    have q1 : b / g < 2 ^ 31 := Nat.lt_of_le_of_lt (Nat.div_le_self b g) (by omega)
    have q2 : s / g < 2 ^ 31 := Nat.lt_of_le_of_lt (Nat.div_le_self s g) (by omega)
    rw [X11_setFraction_L24, if_pos (nI_lt (by omega) (by omega)), dvI_n hg hg2, pL_e, dvI_n hg hg2, pL_e, pk_div (by omega) hg hg2, pk_div (by omega) hg hg2, nI_l q1, nI_l q2]
  | k + 1, d, fu + 1, g, hk, hf, hd, hg, hg2 => by
    have z1 : nI (b % d) = (0 : Int32) ↔ b % d = 0 := nI_eq (b := 0) (Nat.lt_of_le_of_lt (Nat.mod_le b d) (by omega)) (by decide)
    have z2 : nI (s % d) = (0 : Int32) ↔ s % d = 0 := nI_eq (b := 0) (Nat.lt_of_le_of_lt (Nat.mod_le s d) (by omega)) (by decide)
    rw [X11_setFraction_L24, if_neg (nI_nlt (by omega) (by omega)), dvI_n hd (by omega), pk_rem (by omega) hd (by omega), pk_rem (by omega) hd (by omega), dvI_n hd (by omega), nI_1, gdN]
    by_cases c1 : b % d = 0
    · rw [if_pos (z1.mpr c1)]
      by_cases c2 : s % d = 0
      · rw [if_pos (z2.mpr c2), if_pos ⟨c1, c2⟩]
        exact fracL hb hs k (d + 1) fu d (by omega) (by omega) (by omega) hd (by omega)
      · rw [if_neg (fun e => c2 (z2.mp e)), if_neg (fun e => c2 e.2)]
        exact fracL hb hs k (d + 1) fu g (by omega) (by omega) (by omega) hg hg2
    · rw [if_neg (fun e => c1 (z1.mp e)), if_neg (fun e => c1 e.1)]
      exact fracL hb hs k (d + 1) fu g (by omega) (by omega) (by omega) hg hg2
theorem updLS (f : Nat → Int64) (k : Nat) (x : Int64) : vp_updL f k x k = x := by simp [vp_updL]
theorem updLN {f : Nat → Int64} {k j : Nat} {x : Int64} (h : j ≠ k) : vp_updL f k x j = f j := by simp [vp_updL, h]
theorem up2_s (σ : Sta) (k : Nat) (f : Nat → Int64) : (up2 σ k f).2 k = f := by simp [up2, va_up]
theorem up2_n {σ : Sta} {k j : Nat} {f : Nat → Int64} (h : j ≠ k) : (up2 σ k f).2 j = σ.2 j := by simp [up2, va_up, h]
theorem lt0n {b : Nat} (h0 : 0 < b) (h : b < 2 ^ 31) : (0 : Int32) < nI b := nI_lt (a := 0) h0 h
theorem C_frac {b s : Nat} (hb : b < 19) (hs : s < 109) (hbs : b ≤ s) (σ : Sta) : ∃ τ, X11_setFraction (nI b) (nI s) σ = some ((), τ) ∧ τ.1 = σ.1 ∧ (∀ k, k ≠ 0 → τ.2 k = σ.2 k) ∧ τ.2 0 7 = (if b = 0 then 0 else lN (b / Nat.gcd b s)) ∧ τ.2 0 8 = (if b = 0 then 1 else lN (s / Nat.gcd b s)) := by
  rw [X11_setFraction, pL_e, pL_e]
  by_cases c : b = 0
  · subst c
    rw [if_neg (show ¬ (0 : Int32) < nI 0 by decide)]
    refine ⟨_, rfl, rfl, fun k hk => ?_, ?_, ?_⟩
    · rw [up2_n hk, up2_n hk]
    · rw [up2_s, updLN (by decide), up2_s, updLS, if_pos rfl]
    · rw [up2_s, updLS, if_pos rfl]
  · rw [if_pos (lt0n (by omega) (by omega)), if_pos (lt0n (by omega) (by omega))]
    have r1 : (up2 (up2 σ 0 (vp_updL (σ.2 0) 7 0)) 0 (vp_updL ((up2 σ 0 (vp_updL (σ.2 0) 7 0)).2 0) 8 1)).1 = σ.1 := rfl
    have r2 : ∀ k, k ≠ 0 → (up2 (up2 σ 0 (vp_updL (σ.2 0) 7 0)) 0 (vp_updL ((up2 σ 0 (vp_updL (σ.2 0) 7 0)).2 0) 8 1)).2 k = σ.2 k := fun k hk => by rw [up2_n hk, up2_n hk]
    generalize up2 (up2 σ 0 (vp_updL (σ.2 0) 7 0)) 0 (vp_updL ((up2 σ 0 (vp_updL (σ.2 0) 7 0)).2 0) 8 1) = ρ at r1 r2 ⊢
    obtain ⟨g, g1, g2, g3⟩ := fracL (σ := ρ) hb hs (b - 1) 2 FU 1 (by omega) (by show _ < 300; omega) (by decide) (by decide) (by decide)
    rw [gdN_is b hb s hs (by omega)] at g1
    subst g1
    refine ⟨_, g3, r1, fun k hk => ?_, ?_, ?_⟩
    · rw [up2_n hk, up2_n hk]; exact r2 k hk
    · rw [up2_s, updLN (by decide), up2_s, updLS, if_neg c]
    · rw [up2_s, updLS, if_neg c]
theorem lN_div {a b : Nat} (ha : a < 2 ^ 63) (hb : b < 2 ^ 63) : lN a / lN b = lN (a / b) := (Int64.ofNat_div ha hb).symm
theorem lN_rem {a b : Nat} (ha : a < 2 ^ 63) (hb : b < 2 ^ 63) : lN a - lN a / lN b * lN b = lN (a % b) := by
  rw [lN_div ha hb, lN_mul, lN_sub (Nat.div_mul_le_self a b)]
  congr 1
  have := Nat.div_add_mod a b
  rw [Nat.mul_comm] at this
  omega
theorem lN_ne {b : Nat} (h0 : 0 < b) (h : b < 2 ^ 31) : ¬ lN b = 0 := fun e => by
  have := (lN_eq (b := 0) h (by decide)).mp e
  omega
theorem euL {x1 x2 : Nat} {σ : Sta} (h1 : x1 < 2 ^ 31) (h2 : x2 < 2 ^ 31) : ∀ (fu a b : Nat), b < fu → a < 2 ^ 31 → b < 2 ^ 31 → 0 < a + b → X12_fraction_L6 fu (lN x1) (lN x2) (lN a) (lN b) σ = some ((), up2 (up2 σ 82 (vp_updL (σ.2 82) 4 (lN (x1 / Nat.gcd a b)))) 82 (vp_updL ((up2 σ 82 (vp_updL (σ.2 82) 4 (lN (x1 / Nat.gcd a b)))).2 82) 5 (lN (x2 / Nat.gcd a b))))
  | 0, a, b, h, _, _, _ => by omega
  | fu + 1, a, b, hf, ha, hb, hp => by
    by_cases c : b = 0
    · subst c
      rw [X12_fraction_L6, if_pos ((lg_cmp_eq _ _).mpr (show lN 0 = 0 from rfl)), dvL, if_neg (lN_ne (by omega) ha), pL_e, dvL, if_neg (lN_ne (by omega) ha), pL_e, Nat.gcd_zero_right, lN_div (by omega) (by omega), lN_div (by omega) (by omega)]
    · have q : a % b < b := Nat.mod_lt a (by omega)
      rw [X12_fraction_L6, if_neg (fun e => lN_ne (show 0 < b by omega) hb ((lg_cmp_eq _ _).mp e)), dvL, if_neg (lN_ne (by omega) hb), lN_rem (by omega) (by omega), euL h1 h2 fu b (a % b) (by omega) hb (by omega) (by omega)]
      have e : Nat.gcd b (a % b) = Nat.gcd a b := by rw [Nat.gcd_comm b, ← Nat.gcd_rec, Nat.gcd_comm]
      rw [e]
theorem M_frac {x1 x2 : Nat} (h1 : x1 < 2 ^ 31) (h2 : x2 < 300) (hp : 0 < x2) (σ : Sta) : ∃ τ, X12_fraction (lN x1) (lN x2) σ = some ((), τ) ∧ τ.1 = σ.1 ∧ (∀ k, k ≠ 82 → τ.2 k = σ.2 k) ∧ τ.2 82 4 = lN (x1 / Nat.gcd x1 x2) ∧ τ.2 82 5 = lN (x2 / Nat.gcd x1 x2) := by
  refine ⟨_, euL (σ := σ) h1 (by omega) FU x1 x2 h2 h1 (by omega) (by omega), rfl, fun k hk => ?_, ?_, ?_⟩
  · rw [up2_n hk, up2_n hk]
  · rw [up2_s, updLN (by decide), up2_s, updLS]
  · rw [up2_s, updLS]
theorem lt1_0 {b : Nat} (hb : b < 19) : nI b < (1 : Int32) ↔ b = 0 := by
  have := nI_ltI (a := b) (b := 1) (by omega) (by decide)
  refine this.trans ?_
  omega
theorem M_oddsL {N : Nat → Int32} {n z p : Nat} {ch so wo : Nat → Int32} {q : Cq} {σ : Sta} (h : HM N n ch so wo q σ) (hw : Wf N n so wo q) (hz : z < 8) (hp0 : p < n) {b s : Nat} (hb : b < 19) (eb : gN N ch so wo q z p = nI b) (es : sA (gN N ch so wo q z) n = nI s) (hs : s < 109) (hbs : b ≤ s) : ∀ (d o fu : Nat), o + d = n → d < fu → ∃ τ, X12_odds_L37 fu (nI p) (nI z) (sA (gN N ch so wo q z) o) (nI o) σ = some (1, τ) ∧ τ.1 = σ.1 ∧ (∀ k, k ≠ 82 → τ.2 k = σ.2 k) ∧ τ.2 82 4 = (if b = 0 then 0 else lN (b / Nat.gcd b s)) ∧ τ.2 82 5 = (if b = 0 then 1 else lN (s / Nat.gcd b s))
  | d, o, 0, _, h => by omega
  | 0, o, fu + 1, ho, _ => by
    have hn := hw.1
    have e : o = n := by omega
    subst e
    rw [X12_odds_L37, cA_of (M_many σ), HM_n h, if_neg (nI_nlt (Nat.le_refl _) (by omega)), cA_of (HM_enters h hw hp0 hz), bi_if, eb]
    by_cases c : b = 0
    · rw [decide_eq_true ((lt1_0 hb).mpr c)]
      obtain ⟨τ, t1, t2, t3, t4, t5⟩ := M_frac (x1 := 0) (x2 := 1) (by decide) (by decide) (by decide) σ
      have t1' : X12_fraction (0 : Int64) (1 : Int64) σ = some ((), τ) := t1
      refine ⟨τ, ?_, t2, t3, ?_, ?_⟩
      · rw [if_neg (by decide), cA_of t1']
      · rw [t4, if_pos c]; rfl
      · rw [t5, if_pos c]; rfl
    · have nlt : ¬ gN N ch so wo q z p < 1 := by rw [eb]; exact fun e => c ((lt1_0 hb).mp e)
      have nlt' : ¬ nI b < (1 : Int32) := fun e => c ((lt1_0 hb).mp e)
      rw [decide_eq_false nlt']
      obtain ⟨τ, t1, t2, t3, t4, t5⟩ := M_frac (x1 := b) (x2 := s) (by omega) (by omega) (by omega) σ
      have hg := HM_good h hw hp0 hz nlt
      refine ⟨τ, ?_, t2, t3, ?_, ?_⟩
      · rw [if_pos (by decide), aI_n z hz, cA_of hg, eb, es, nI_l (by omega), nI_l (by omega), cA_of t1]
      · rw [t4, if_neg c]
      · rw [t5, if_neg c]
  | d + 1, o, fu + 1, ho, hf => by
    have hn := hw.1
    obtain ⟨bo, bo1, bo2⟩ := gN_b (ch := ch) hw (show o < n by omega) hz
    have ih := M_oddsL h hw hz hp0 hb eb es hs hbs d (o + 1) fu (by omega) (by omega)
    rw [X12_odds_L37, cA_of (M_many σ), HM_n h, if_pos (nI_lt (by omega) (by omega)), cA_of (HM_enters h hw (by omega) hz), bi_if, nI_1]
    rw [sA] at ih
    by_cases c : gN N ch so wo q z o < 1
    · rw [decide_eq_true c, if_neg (by decide)]
      rw [bo2] at c
      have := (lt1_0 bo1).mp c
      rw [bo2, this] at ih
      exact ih
    · rw [decide_eq_false c, if_pos (by decide), aI_n z hz, cA_of (HM_good h hw (by omega) hz c)]
      exact ih

theorem P_odds {σ : Sta} (h : Inv σ) (x1 x2 : Int32) : Pair (X11_odds x1 x2) (X12_odds x1 x2) σ := by
  obtain ⟨n, yr, u, nn, nb, hv⟩ := h.1
  have b0 : (badC σ).1 83 0 = nI n := by rw [badC_83]; exact hv.N0
  have b4 : (badC σ).1 83 4 = nI yr := by rw [badC_83]; exact hv.N4
  by_cases e0 : inB x1 0 (nI n - 1) = true
  rotate_left
  · rw [Bool.not_eq_true] at e0; exact pair_bad (a := -2) h (by simp only [X11_odds, C_isOne_b hv.s10, e0, cA_e, bi_if, within_b, C_isArt_b, C_bad, Bool.false_eq_true, ite_false, ite_true, if_true, if_false]) (by simp only [X12_odds, M_isOne_b b0, e0, cA_e, bi_if, M_isYear_b, M_isSort_b, in_01, in_02, in_05, in_06, in_07, in_09, in_30, in_60, in_99, in_12, M_bad, Bool.false_eq_true, ite_false, ite_true, if_true, if_false])
  by_cases e1 : inB x2 (nI yr) 7 = true
  rotate_left
  · rw [Bool.not_eq_true] at e1; exact pair_bad (a := -2) h (by simp only [X11_odds, C_isOne_b hv.s10, C_toCome_b hv.s11, e0, e1, cA_e, bi_if, within_b, C_isArt_b, C_bad, Bool.false_eq_true, ite_false, ite_true, if_true, if_false]) (by simp only [X12_odds, M_isOne_b b0, M_toCome_b b4, e0, e1, cA_e, bi_if, M_isYear_b, M_isSort_b, in_01, in_02, in_05, in_06, in_07, in_09, in_30, in_60, in_99, in_12, M_bad, Bool.false_eq_true, ite_false, ite_true, if_true, if_false])
  obtain ⟨j0, hj0, rfl⟩ := inB_1 hv.n6 e0
  obtain ⟨j1, hj1a, hj1, rfl⟩ := inB_t hv.y8 e1
  have hn := hv.n6
  have hw := hv.cw hj1a (show j1 ≤ 8 by omega)
  obtain ⟨b, b1, b2⟩ := gN_b (ch := ch0) hw hj0 hj1
  obtain ⟨s, s1, s2, s3⟩ := sA_n (g := gCt (σ.1 83) n yr j1) n (fun p hp => gN_b (ch := ch0) hw hp hj1)
  have hbs := s3 j0 b hj0 b1 b2
  obtain ⟨τ1, c1, c2, c3⟩ := hv.begin
  obtain ⟨τ2, d1, d2, d3⟩ := TC_run c2 hv.wf hj1a (show j1 ≤ 8 by omega)
  have k1 := TC_str d2 hw hj1 hj0
  have k2 : X0_strengthOfAll 55 65 (nI j1) τ2 = some (sA (gCt (σ.1 83) n yr j1) n, τ2) := TC_all d2 hw hj1 n 0 FU (by omega) (by show n < 300; omega)
  obtain ⟨τ3, f1, f2, f3, f4, f5⟩ := C_frac b1 (show s < 109 by omega) hbs τ2
  have fr : FrB σ τ2 := c3.tr d3.b
  have t83 : τ3.1 83 = σ.1 83 := by rw [f2]; exact fr.q.at (by unfold isQ; omega)
  have t0 : τ3.1 83 0 = nI n := by rw [t83]; exact hv.N0
  have t4 : τ3.1 83 4 = nI yr := by rw [t83]; exact hv.N4
  have tv : VR σ.1 1 (τ3.1 83) n yr u nn nb := by rw [t83]; exact hv
  obtain ⟨τ4, τ5, g1, g2, g3, g4⟩ := tv.hand hj1a (show j1 ≤ 8 by omega)
  rw [t83] at g3
  obtain ⟨τ6, m1, m2, m3, m4, m5⟩ := M_oddsL g3 hw hj1 hj0 b1 b2 s2 (by omega) hbs n 0 FU (by omega) (by show n < 300; omega)
  refine ⟨1, τ3, τ6, ?_, ?_, ?_⟩
  · simp only [X11_odds, C_isOne_b hv.s10, C_toCome_b hv.s11, e0, e1, cA_e, bi_if, within_b, C_isArt_b, C_bad, Bool.false_eq_true, ite_false, ite_true, if_true, if_false]
    rw [cA_of c1, cA_of d1, cA_of k1, cA_of k2, b2, s2, cA_of f1]
  · simp only [X12_odds, M_isOne_b t0, M_toCome_b t4, e0, e1, cA_e, bi_if, M_isYear_b, M_isSort_b, in_01, in_02, in_05, in_06, in_07, in_09, in_30, in_60, in_99, in_12, M_bad, Bool.false_eq_true, ite_false, ite_true, if_true, if_false]
    rw [cA_of g1, cA_of g2]
    exact m1
  · have hQ : ∀ k, ¬ isQ k → τ6.1 k = σ.1 k := fun k hk => by rw [m2, g4.q.1 k hk, f2, fr.q.1 k hk]
    obtain ⟨v1, v2, v3, v4, v5⟩ := h.q (τ := (τ6.1, σ.2)) ⟨hQ, rfl⟩
    refine ⟨v1, v2, v3, ⟨?_, ?_⟩, v5⟩
    · rw [m3 0 (by decide), g4.2, f4, m4]
    · rw [m3 0 (by decide), g4.2, f5, m5]
end
section
/-! PURE HALF 19: valleys by a seed -/
abbrev nx (x : Int64) : Int64 := ((x * (1103515245 : Int64)) + (12345 : Int64)) - ((x * (1103515245 : Int64)) + (12345 : Int64)) / (2147483648 : Int64) * (2147483648 : Int64)
abbrev sx (x : Int64) : Int32 := ((x / (65536 : Int64)) - (x / (65536 : Int64)) / (3 : Int64) * (3 : Int64)).toInt32
abbrev wx (x : Int64) : Int32 := ((x / (1048576 : Int64)) - (x / (1048576 : Int64)) / (30 : Int64) * (30 : Int64)).toInt32 + (1 : Int32)
def Xr (x : Int64) : Prop := ∃ X : Nat, X < 2147483648 ∧ x = lN X
theorem nx_r {x : Int64} (h : Xr x) : Xr (nx x) := by
  obtain ⟨X, h1, rfl⟩ := h
  refine ⟨(X * 1103515245 + 12345) % 2147483648, Nat.mod_lt _ (by decide), ?_⟩
  show (lN X * lN 1103515245 + lN 12345) - (lN X * lN 1103515245 + lN 12345) / lN 2147483648 * lN 2147483648 = _
  have hb : X * 1103515245 + 12345 < 2 ^ 63 := by omega
  rw [lN_mul, lN_add, lN_rem hb (by decide)]
theorem sx_r {x : Int64} (h : Xr x) : ∃ t, t < 3 ∧ sx x = nI t := by
  obtain ⟨X, h1, rfl⟩ := h
  refine ⟨X / 65536 % 3, Nat.mod_lt _ (by decide), ?_⟩
  show ((lN X / lN 65536) - (lN X / lN 65536) / lN 3 * lN 3).toInt32 = _
  rw [lN_div (by omega) (by decide), lN_rem (by omega) (by decide), lN_i]
theorem wx_r {x : Int64} (h : Xr x) : ∃ t, t ≤ 30 ∧ wx x = nI t := by
  obtain ⟨X, h1, rfl⟩ := h
  refine ⟨X / 1048576 % 30 + 1, by have := Nat.mod_lt (X / 1048576) (show 30 > 0 by decide); omega, ?_⟩
  show ((lN X / lN 1048576) - (lN X / lN 1048576) / lN 30 * lN 30).toInt32 + 1 = _
  rw [lN_div (by omega) (by decide), lN_rem (by omega) (by decide), lN_i, nI_1]
def Sd (zf : Int64 → Int64) (zg zw : Int64 → Int32) : Prop := (∀ x : Int64, ((x * (1103515245 : Int64)) + (12345 : Int64)) - ((x * (1103515245 : Int64)) + (12345 : Int64)) / (2147483648 : Int64) * (2147483648 : Int64) = zf x) ∧ (∀ x : Int64, ((x / (65536 : Int64)) - (x / (65536 : Int64)) / (3 : Int64) * (3 : Int64)).toInt32 = zg x) ∧ (∀ x : Int64, ((x / (1048576 : Int64)) - (x / (1048576 : Int64)) / (30 : Int64) * (30 : Int64)).toInt32 + (1 : Int32) = zw x) ∧ (∀ x, Xr x → Xr (zf x)) ∧ (∀ x, Xr x → ∃ t, t < 3 ∧ zg x = nI t) ∧ (∀ x, Xr x → ∃ t, t ≤ 30 ∧ zw x = nI t)
theorem Sd_is : ∃ zf zg zw, Sd zf zg zw := ⟨fun x => nx x, fun x => sx x, fun x => wx x, fun _ => rfl, fun _ => rfl, fun _ => rfl, fun _ h => nx_r h, fun _ h => sx_r h, fun _ h => wx_r h⟩
def xk (zf : Int64 → Int64) : Nat → Int64 → Int64
  | 0, x => x
  | k + 1, x => xk zf k (zf x)
abbrev kf (v : Int32) : Nat → Int32 := fun _ => v
def vS (zf : Int64 → Int64) (zg zw : Int64 → Int32) (N : Nat → Int32) (n : Nat) : Nat → Nat → Int64 → Cq → Int32 → Int32
  | 0, _, _, _, s => s
  | d + 1, y, x, q, s => vS zf zg zw N n d (y + 1) (zf x) (sN N n ch0 (kf (zg (zf x))) (kf (zw (zf x))) y q) (if (hs (gN N ch0 (kf (zg (zf x))) (kf (zw (zf x))) q y) n).1 = -1 then s + 0 else s + zw (zf x))
theorem gN_y {N ch so wo so' wo' : Nat → Int32} {q : Cq} {y : Nat} (h1 : so y = so' y) (h2 : wo y = wo' y) : gN N ch so wo q y = gN N ch so' wo' q y := by
  funext p
  unfold gN stg
  rw [h1, h2]
theorem sN_y {N ch so wo so' wo' : Nat → Int32} {q : Cq} {n y : Nat} (h1 : so y = so' y) (h2 : wo y = wo' y) : sN N n ch so wo y q = sN N n ch so' wo' y q := by
  have e := gN_y (N := N) (ch := ch) (q := q) h1 h2
  unfold gN at e
  unfold sN stp
  rw [e]
theorem Wf_set {N so wo : Nat → Int32} {n i t w : Nat} {q : Cq} (h : Wf N n so wo q) (ht : t < 3) (hw : w ≤ 30) : Wf N n (upd so i (nI t)) (upd wo i (nI w)) q := by
  obtain ⟨h1, h2, h3, h4, h5, h6⟩ := h
  refine ⟨h1, h2, h3, h4, fun z hz => ?_, fun z hz => ?_⟩
  · by_cases c : z = i
    · subst c; rw [updS]; exact Or.inr ⟨t, ht, rfl⟩
    · rw [updN c]; exact h5 z hz
  · by_cases c : z = i
    · subst c; rw [updS]; exact ⟨w, hw, rfl⟩
    · rw [updN c]; exact h6 z hz
theorem TC_step {N : Nat → Int32} {n y : Nat} {ch so wo : Nat → Int32} {q : Cq} {σ : Sta} (h : TC N n y ch so wo q σ) (hw : Wf N n so wo q) (hy : y < 8) : ∃ f τ, X0_hold 55 65 (nI y) σ = some ((), up1 σ 55 f) ∧ f 3 = (hs (gN N ch so wo q y) n).1 ∧ X10_pass 65 (f 3) (f 4) (up1 σ 55 f) = some ((), τ) ∧ τ.1 55 3 = (hs (gN N ch so wo q y) n).1 ∧ τ.1 67 y = wo y ∧ TC N n (y + 1) ch so wo (sN N n ch so wo y q) τ ∧ FrB σ τ := by
  obtain ⟨ch', kd', ar', so', wo', q', h1, h2, h3⟩ := h
  have hw' := WF_ag h2 (fun p hp => (h3 p hp).1) hw
  obtain ⟨f, c1, c2, c3, c4⟩ := C_hold (c := 55) (r := 65) (y := y) (by intro i hi; omega) h1.1 (h1.wf hw') hy
  rw [h1.gSt] at c3 c4
  have hwho := hs_who (fun p => stg ch' kd' ar' q'.1 so' wo' p y) n
  have hp := C_pass (r := 65) (σ := up1 σ 55 f) (n := n) (y := y) (a := f 3) (b := f 4) (by rw [up1_n (by decide)]; exact h1.1) hw.1 (by rw [up1_n (by decide)]; exact h1.2.1) hy (by rw [c3]; exact hwho.1) (by rw [c4]; exact hwho.2)
  have eg : hs (gN N ch so wo q y) n = hs (fun p => stg ch' kd' ar' q'.1 so' wo' p y) n := hs_ag n (fun p hp => stg_ag h2 hw (h3 p hp).1 hp hy)
  have e55 : (passed 65 (up1 σ 55 f) (f 3) (f 4) y).1 55 = f := by simp [passed, up1, va_up]
  have e67 : (passed 65 (up1 σ 55 f) (f 3) (f 4) y).1 67 = σ.1 67 := by simp [passed, up1, va_up]
  have hT2 : Tr n (y + 1) ch' kd' ar' so' wo' (stp n ch' kd' ar' so' wo' y q') (passed 65 (up1 σ 55 f) (f 3) (f 4) y) := by
    obtain ⟨g1, g2, g3, g4, g5, g6, g7, g8, g9⟩ := h1
    refine ⟨?_, ?_, ?_, ?_, ?_, ?_, ?_, ?_, ?_⟩ <;> simp [passed, up1, va_up, upd, stp] <;> first | assumption | (rw [g8, c3]) | (rw [g9, c4])
  have hF : FrT σ (passed 65 (up1 σ 55 f) (f 3) (f 4) y) := ⟨fun k q1 q2 q3 q4 q5 q6 => by simp [passed, up1, va_up, q1, q2, q3, q4, q5, q6], rfl⟩
  refine ⟨f, _, c1, by rw [eg]; exact c3, hp, by rw [e55, eg]; exact c3, ?_, ⟨_, _, _, _, _, _, hT2, h2, stp_ag h2 hw h3 hy⟩, hF.b⟩
  rw [e67, h1.2.2.2.2.2.2.1]
  exact ((h2.2 y hy).2).symm
theorem C_valI {zf : Int64 → Int64} {zg zw : Int64 → Int32} (hS : Sd zf zg zw) {N : Nat → Int32} {n : Nat} {x3 y7 : Int32} {K : Int32 → Int64 → Int32 → Int32 → Sta → Option (Int32 × Sta)} : ∀ (d y fu : Nat) (x : Int64) (s : Int32) (so wo : Nat → Int32) (q : Cq) (σ : Sta), y + d = 8 → d < fu → Xr x → TC N n y ch0 so wo q σ → Wf N n so wo q → ∃ τ, X2_worthInValleys_L27 1 K fu x3 x s y7 (nI y) σ = K x3 (xk zf d x) (vS zf zg zw N n d y x q s) (y7 + 1) τ ∧ FrB σ τ
  | d, y, 0, x, s, so, wo, q, σ, _, h, _, _, _ => by omega
  | 0, y, fu + 1, x, s, so, wo, q, σ, hy, _, hx, hT, hw => by
    have e : y = 8 := by omega
    subst e
    exact ⟨σ, by rw [X2_worthInValleys_L27, if_neg nlt8]; rfl, FrB.rf σ⟩
  | d + 1, y, fu + 1, x, s, so, wo, q, σ, hy, hf, hx, hT, hw => by
    obtain ⟨t, t1, t2⟩ := hS.2.2.2.2.1 _ (hS.2.2.2.1 _ hx)
    obtain ⟨w, w1, w2⟩ := hS.2.2.2.2.2 _ (hS.2.2.2.1 _ hx)
    obtain ⟨τ1, e1, e2, e3⟩ := TC_set hT (i := y) (by omega) (zg (zf x)) (zw (zf x))
    have hw1 : Wf N n (upd so y (zg (zf x))) (upd wo y (zw (zf x))) q := by rw [t2, w2]; exact Wf_set hw t1 w1
    obtain ⟨f, τ2, f1, f2, f3, f4, f5, f6, f7⟩ := TC_step e2 hw1 (show y < 8 by omega)
    rw [updS] at f5
    have eg : gN N ch0 (upd so y (zg (zf x))) (upd wo y (zw (zf x))) q y = gN N ch0 (kf (zg (zf x))) (kf (zw (zf x))) q y := gN_y (updS _ _ _) (updS _ _ _)
    have es : sN N n ch0 (upd so y (zg (zf x))) (upd wo y (zw (zf x))) y q = sN N n ch0 (kf (zg (zf x))) (kf (zw (zf x))) y q := sN_y (updS _ _ _) (updS _ _ _)
    rw [eg] at f2 f4
    have hw2 : Wf N n (upd so y (zg (zf x))) (upd wo y (zw (zf x))) (sN N n ch0 (upd so y (zg (zf x))) (upd wo y (zw (zf x))) y q) := WF_stp hw1 (by omega)
    rw [es] at f6 hw2
    have fr : FrB σ τ2 := e3.tr f7
    rw [X2_worthInValleys_L27, if_pos (lt8 (by omega)), hS.1, hS.2.1, hS.2.2.1, cA_of e1, cA_of f1, fI_e, fI_e, up1_s, cA_of f3, fI_e, f4, nI_1, vS]
    by_cases c : (hs (gN N ch0 (kf (zg (zf x))) (kf (zw (zf x))) q y) n).1 = -1
    · rw [if_pos c, if_pos c]
      obtain ⟨τ, g1, g2⟩ := C_valI hS (x3 := x3) (y7 := y7) (K := K) d (y + 1) fu (zf x) (s + 0) _ _ _ τ2 (by omega) (by omega) (hS.2.2.2.1 _ hx) f6 hw2
      exact ⟨τ, g1, fr.tr g2⟩
    · rw [if_neg c, if_neg c, aI_n y (by omega), show τ2.1 (65 + 2) y = zw (zf x) from f5]
      obtain ⟨τ, g1, g2⟩ := C_valI hS (x3 := x3) (y7 := y7) (K := K) d (y + 1) fu (zf x) (s + zw (zf x)) _ _ _ τ2 (by omega) (by omega) (hS.2.2.2.1 _ hx) f6 hw2
      exact ⟨τ, g1, fr.tr g2⟩
termination_by structural d => d
theorem xk_r {zf : Int64 → Int64} {zg zw : Int64 → Int32} (hS : Sd zf zg zw) (k : Nat) : ∀ (x : Int64), Xr x → Xr (xk zf k x) := by
  induction k with
  | zero => exact fun _ h => h
  | succ k ih => exact fun x h => ih (zf x) (hS.2.2.2.1 _ h)
def vO (zf : Int64 → Int64) (zg zw : Int64 → Int32) (N : Nat → Int32) (n yr : Nat) : Nat → Int64 → Int32 → Int32
  | 0, _, s => s
  | t + 1, x, s => vO zf zg zw N n yr t (xk zf (8 - yr) x) (vS zf zg zw N n (8 - yr) yr x (qN N) s)
theorem C_valO {zf : Int64 → Int64} {zg zw : Int64 → Int32} (hS : Sd zf zg zw) {N : Nat → Int32} {n yr u nn nb m : Nat} (hm : m ≤ 60) : ∀ (d t fu : Nat) (x : Int64) (s : Int32) (σ : Sta), t + d = m → d < fu → Xr x → VR σ.1 1 N n yr u nn nb → ∃ τ, X2_worthInValleys_L10 1 fu (nI m) x s (nI t) σ = some (vO zf zg zw N n yr d x s, τ) ∧ FrB σ τ
  | d, t, 0, x, s, σ, _, h, _, _ => by omega
  | 0, t, fu + 1, x, s, σ, ht, _, hx, hv => by
    have e : t = m := by omega
    subst e
    exact ⟨σ, by rw [X2_worthInValleys_L10, if_neg (nI_nlt (Nat.le_refl _) (by omega))]; rfl, FrB.rf σ⟩
  | d + 1, t, fu + 1, x, s, σ, ht, hf, hx, hv => by
    have hy8 := hv.y8
    obtain ⟨τ1, e1, e2, e3⟩ := hv.begin
    have hv1 := hv.q e3.q
    obtain ⟨τ2, f1, f2⟩ := C_valI hS (x3 := nI m) (y7 := nI t) (K := X2_worthInValleys_L10 1 fu) (8 - yr) yr FU x s _ _ _ τ1 (by omega) (by show _ < 300; omega) hx e2 hv.wf
    obtain ⟨τ, g1, g2⟩ := C_valO hS hm d (t + 1) fu (xk zf (8 - yr) x) (vS zf zg zw N n (8 - yr) yr x (qN N) s) τ2 (by omega) (by omega) (xk_r hS _ _ hx) (hv1.q f2.q)
    refine ⟨τ, ?_, (e3.tr f2).tr g2⟩
    rw [X2_worthInValleys_L10, if_pos (nI_lt (by omega) (by omega)), cA_of e1, fI_e, hv1.s11, f1, nI_1, vO]
    exact g1
theorem HM_set {N : Nat → Int32} {n i : Nat} {ch so wo : Nat → Int32} {q : Cq} {σ : Sta} (h : HM N n ch so wo q σ) (s w : Int32) : HM N n ch (upd so i s) (upd wo i w) q (up1 (up1 σ 89 (upd (σ.1 89) i s)) 90 (upd (σ.1 90) i w)) := by
  obtain ⟨h1, h2, h3, h4⟩ := h
  have o : ∀ k, k ≠ 89 → k ≠ 90 → (up1 (up1 σ 89 (upd (σ.1 89) i s)) 90 (upd (σ.1 90) i w)).1 k = σ.1 k := fun k k1 k2 => by rw [up1_n k2, up1_n k1]
  refine ⟨by rw [o 83 (by decide) (by decide)]; exact h1, h2, fun p hp => by rw [o 91 (by decide) (by decide), o 87 (by decide) (by decide), o 88 (by decide) (by decide)]; exact h3 p hp, fun y hy => ?_⟩
  rw [up1_n (show 89 ≠ 90 by decide), up1_s, up1_s]
  by_cases c : y = i
  · subst c; rw [updS, updS, updS, updS]; exact ⟨rfl, rfl⟩
  · rw [updN c, updN c, updN c, updN c]; exact h4 y hy
theorem M_val1 {zf : Int64 → Int64} {zg zw : Int64 → Int32} (hS : Sd zf zg zw) {N : Nat → Int32} {n yr : Nat} {x3 t0 : Int32} {K : Int32 → Int64 → Int32 → Int32 → Sta → Option (Int32 × Sta)} (h4 : N 4 = nI yr) : ∀ (d y fu : Nat) (x : Int64) (s : Int32) (so wo : Nat → Int32) (q : Cq) (σ : Sta), y + d = 8 → d < fu → Xr x → HM N n ch0 so wo q σ → Wf N n so wo q → ∃ τ so' wo', X12_valleys_L58 K fu x3 x s t0 (nI y) σ = X12_valleys_L129 K FU x3 (xk zf d x) s t0 (nI yr) τ ∧ HM N n ch0 so' wo' q τ ∧ Wf N n so' wo' q ∧ (∀ z, y ≤ z → z < 8 → so' z = zg (xk zf (z - y + 1) x) ∧ wo' z = zw (xk zf (z - y + 1) x)) ∧ (∀ z, z < y → so' z = so z ∧ wo' z = wo z) ∧ FrL σ τ
  | d, y, 0, x, s, so, wo, q, σ, _, h, _, _, _ => by omega
  | 0, y, fu + 1, x, s, so, wo, q, σ, hy, _, hx, hH, hw => by
    have e : y = 8 := by omega
    subst e
    refine ⟨σ, so, wo, ?_, hH, hw, fun z z1 z2 => by omega, fun z _ => ⟨rfl, rfl⟩, FrL.rf σ⟩
    rw [X12_valleys_L58, if_neg nlt8, aI4, hH.1, h4]
    rfl
  | d + 1, y, fu + 1, x, s, so, wo, q, σ, hy, hf, hx, hH, hw => by
    obtain ⟨t, t1, t2⟩ := hS.2.2.2.2.1 _ (hS.2.2.2.1 _ hx)
    obtain ⟨w, w1, w2⟩ := hS.2.2.2.2.2 _ (hS.2.2.2.1 _ hx)
    have hw1 : Wf N n (upd so y (zg (zf x))) (upd wo y (zw (zf x))) q := by rw [t2, w2]; exact Wf_set hw t1 w1
    obtain ⟨τ, so', wo', e1, e2, e3, e4, e5, e6⟩ := M_val1 hS (x3 := x3) (t0 := t0) (K := K) h4 d (y + 1) fu (zf x) s _ _ q _ (by omega) (by omega) (hS.2.2.2.1 _ hx) (HM_set hH (i := y) (zg (zf x)) (zw (zf x))) hw1
    refine ⟨τ, so', wo', ?_, e2, e3, fun z z1 z2 => ?_, fun z hz => ?_, FrL.tr ((FrL.up (by unfold isL; omega)).tr (FrL.up (by unfold isL; omega))) e6⟩
    · rw [X12_valleys_L58, if_pos (lt8 (by omega)), hS.1, hS.2.1, hS.2.2.1, sI_n y (by omega), sI_n y (by omega), up1_n (show 90 ≠ 89 by decide), nI_1]
      exact e1
    · by_cases c : z = y
      · subst c
        obtain ⟨b1, b2⟩ := e5 z (by omega)
        rw [b1, b2, updS, updS, Nat.sub_self]
        exact ⟨rfl, rfl⟩
      · obtain ⟨b1, b2⟩ := e4 z (by omega) z2
        rw [b1, b2, show z - y + 1 = (z - (y + 1) + 1) + 1 by omega]
        exact ⟨rfl, rfl⟩
    · obtain ⟨b1, b2⟩ := e5 z (by omega)
      rw [b1, b2, updN (by omega), updN (by omega)]
      exact ⟨rfl, rfl⟩
termination_by structural d => d
theorem M_val2 {zf : Int64 → Int64} {zg zw : Int64 → Int32} (hS : Sd zf zg zw) {N : Nat → Int32} {n : Nat} {x3 t0 : Int32} {xe : Int64} {so wo : Nat → Int32} {K : Int32 → Int64 → Int32 → Int32 → Sta → Option (Int32 × Sta)} : ∀ (d y fu : Nat) (x : Int64) (s : Int32) (q : Cq) (σ : Sta), y + d = 8 → d < fu → (∀ z, y ≤ z → z < 8 → so z = zg (xk zf (z - y + 1) x) ∧ wo z = zw (xk zf (z - y + 1) x)) → HM N n ch0 so wo q σ → Wf N n so wo q → ∃ τ, X12_valleys_L129 K fu x3 xe s t0 (nI y) σ = K x3 xe (vS zf zg zw N n d y x q s) (t0 + 1) τ ∧ FrL σ τ
  | d, y, 0, x, s, q, σ, _, h, _, _, _ => by omega
  | 0, y, fu + 1, x, s, q, σ, hy, _, hx, hH, hw => by
    have e : y = 8 := by omega
    subst e
    exact ⟨σ, by rw [X12_valleys_L129, if_neg nlt8]; rfl, FrL.rf σ⟩
  | d + 1, y, fu + 1, x, s, q, σ, hy, hf, hx, hH, hw => by
    obtain ⟨τ1, e1, e2, e3⟩ := HM_year hH hw (z := y) (by omega)
    obtain ⟨b1, b2⟩ := hx y (Nat.le_refl _) (by omega)
    rw [Nat.sub_self] at b1 b2
    have b1' : so y = zg (zf x) := b1
    have b2' : wo y = zw (zf x) := b2
    have eg : gN N ch0 so wo q y = gN N ch0 (kf (zg (zf x))) (kf (zw (zf x))) q y := gN_y b1' b2'
    have es : sN N n ch0 so wo y q = sN N n ch0 (kf (zg (zf x))) (kf (zw (zf x))) y q := sN_y b1' b2'
    have hw2 : Wf N n so wo (sN N n ch0 so wo y q) := WF_stp hw (by omega)
    rw [eg] at e1
    rw [es] at e2 hw2
    have hx2 : ∀ z, y + 1 ≤ z → z < 8 → so z = zg (xk zf (z - (y + 1) + 1) (zf x)) ∧ wo z = zw (xk zf (z - (y + 1) + 1) (zf x)) := fun z z1 z2 => by
      have := hx z (by omega) z2
      rw [show z - y + 1 = (z - (y + 1) + 1) + 1 by omega] at this
      exact this
    rw [X12_valleys_L129, if_pos (lt8 (by omega)), cA_of e1, nI_1, vS]
    by_cases c : (hs (gN N ch0 (kf (zg (zf x))) (kf (zw (zf x))) q y) n).1 = -1
    · rw [if_pos c, if_pos c]
      obtain ⟨τ, g1, g2⟩ := M_val2 hS (x3 := x3) (t0 := t0) (xe := xe) (K := K) d (y + 1) fu (zf x) (s + 0) _ τ1 (by omega) (by omega) hx2 e2 hw2
      exact ⟨τ, g1, e3.l.tr g2⟩
    · have e90 : τ1.1 90 y = zw (zf x) := by rw [← b2']; exact ((e2.2.2.2 y (by omega)).2).symm
      rw [if_neg c, if_neg c, aI_n y (by omega), e90]
      obtain ⟨τ, g1, g2⟩ := M_val2 hS (x3 := x3) (t0 := t0) (xe := xe) (K := K) d (y + 1) fu (zf x) (s + zw (zf x)) _ τ1 (by omega) (by omega) hx2 e2 hw2
      exact ⟨τ, g1, e3.l.tr g2⟩
termination_by structural d => d
theorem M_valO {zf : Int64 → Int64} {zg zw : Int64 → Int32} (hS : Sd zf zg zw) {N : Nat → Int32} {S : Nat → Nat → Int32} {r n yr u nn nb m : Nat} (hv : VR S r N n yr u nn nb) (hm : m ≤ 60) : ∀ (d t fu : Nat) (x : Int64) (s : Int32) (σ : Sta), t + d = m → d < fu → Xr x → σ.1 83 = N → ∃ τ, X12_valleys_L40 fu (nI m) x s (nI t) σ = some (vO zf zg zw N n yr d x s, τ) ∧ FrL σ τ
  | d, t, 0, x, s, σ, _, h, _, _ => by omega
  | 0, t, fu + 1, x, s, σ, ht, _, hx, h83 => by
    have e : t = m := by omega
    subst e
    exact ⟨σ, by rw [X12_valleys_L40, if_neg (nI_nlt (Nat.le_refl _) (by omega))]; rfl, FrL.rf σ⟩
  | d + 1, t, fu + 1, x, s, σ, ht, hf, hx, h83 => by
    have hy8 := hv.y8
    have hv' : VR S r (σ.1 83) n yr u nn nb := by rw [h83]; exact hv
    obtain ⟨τ1, e1, e2, e3⟩ := hv'.lay
    rw [h83] at e2
    obtain ⟨τ2, so', wo', f1, f2, f3, f4, f5, f6⟩ := M_val1 hS (x3 := nI m) (t0 := nI t) (K := X12_valleys_L40 fu) hv.N4 (8 - yr) yr FU x s _ _ _ τ1 (by omega) (by show _ < 300; omega) hx e2 hv.wf
    obtain ⟨τ3, g1, g2⟩ := M_val2 hS (x3 := nI m) (t0 := nI t) (xe := xk zf (8 - yr) x) (K := X12_valleys_L40 fu) (8 - yr) yr FU x s (qN N) τ2 (by omega) (by show _ < 300; omega) f4 f2 f3
    have fr : FrL σ τ3 := (e3.tr f6).tr g2
    obtain ⟨τ, k1, k2⟩ := M_valO hS hv hm d (t + 1) fu (xk zf (8 - yr) x) (vS zf zg zw N n (8 - yr) yr x (qN N) s) τ3 (by omega) (by omega) (xk_r hS _ _ hx) (by rw [fr.1 83 (by unfold isL; omega)]; exact h83)
    refine ⟨τ, ?_, fr.tr k2⟩
    rw [X12_valleys_L40, if_pos (nI_lt (by omega) (by omega)), cA_of e1, aI4, e2.1, hv.N4, f1, g1, nI_1, vO]
    exact k1

theorem P_valleys {σ : Sta} (h : Inv σ) (x1 x2 : Int32) : Pair (X11_valleys x1 x2) (X12_valleys x1 x2) σ := by
  obtain ⟨n, yr, u, nn, nb, hv⟩ := h.1
  obtain ⟨zf, zg, zw, hS⟩ := Sd_is
  have b0 : (badC σ).1 83 0 = nI n := by rw [badC_83]; exact hv.N0
  have b4 : (badC σ).1 83 4 = nI yr := by rw [badC_83]; exact hv.N4
  by_cases e0 : inB x1 0 999999 = true
  rotate_left
  · rw [Bool.not_eq_true] at e0; exact pair_bad (a := -2) h (by simp only [X11_valleys, e0, cA_e, bi_if, within_b, C_isArt_b, C_bad, Bool.false_eq_true, ite_false, ite_true, if_true, if_false]) (by simp only [X12_valleys, e0, cA_e, bi_if, M_isYear_b, M_isSort_b, in_01, in_02, in_05, in_06, in_07, in_09, in_30, in_60, in_99, in_12, M_bad, Bool.false_eq_true, ite_false, ite_true, if_true, if_false])
  by_cases e1 : inB x2 0 60 = true
  rotate_left
  · rw [Bool.not_eq_true] at e1; exact pair_bad (a := -2) h (by simp only [X11_valleys, e0, e1, cA_e, bi_if, within_b, C_isArt_b, C_bad, Bool.false_eq_true, ite_false, ite_true, if_true, if_false]) (by simp only [X12_valleys, e0, e1, cA_e, bi_if, M_isYear_b, M_isSort_b, in_01, in_02, in_05, in_06, in_07, in_09, in_30, in_60, in_99, in_12, M_bad, Bool.false_eq_true, ite_false, ite_true, if_true, if_false])
  obtain ⟨j0, hj0, rfl⟩ := inB_n (m := 999999) (by decide) e0
  obtain ⟨j1, hj1, rfl⟩ := inB_n (m := 60) (by decide) e1
  refine pair_q h (a := vO zf zg zw (σ.1 83) n yr j1 (lN j0) 0) ?_ (fun τ hτ => ?_)
  · simp only [X11_valleys, e0, e1, cA_e, bi_if, within_b, C_isArt_b, C_bad, Bool.false_eq_true, ite_false, ite_true, if_true, if_false]
    obtain ⟨τ, t1, t2⟩ := C_valO hS (N := σ.1 83) (u := u) (nn := nn) (nb := nb) (m := j1) hj1 j1 0 FU (lN j0) 0 σ (by omega) (by show _ < 300; omega) ⟨j0, by omega, rfl⟩ hv
    have tb : X2_worthInValleys 1 (nI j0) (nI j1) σ = some (vO zf zg zw (σ.1 83) n yr j1 (lN j0) 0, τ) := by
      rw [X2_worthInValleys, nI_l (by omega)]
      exact t1
    rw [cA_of tb]
    exact ⟨τ, rfl, t2.q⟩
  · have t83 : τ.1 83 = σ.1 83 := hτ.at (by unfold isQ; omega)
    have t0 : τ.1 83 0 = nI n := by rw [t83]; exact hv.N0
    have t4 : τ.1 83 4 = nI yr := by rw [t83]; exact hv.N4
    have tv : VR σ.1 1 (τ.1 83) n yr u nn nb := by rw [t83]; exact hv
    simp only [X12_valleys, e0, e1, cA_e, bi_if, M_isYear_b, M_isSort_b, in_01, in_02, in_05, in_06, in_07, in_09, in_30, in_60, in_99, in_12, M_bad, Bool.false_eq_true, ite_false, ite_true, if_true, if_false]
    obtain ⟨τ2, t1, t2⟩ := M_valO hS tv hj1 j1 0 FU (lN j0) 0 τ (by omega) (by show _ < 300; omega) ⟨j0, by omega, rfl⟩ rfl
    rw [t83] at t1
    rw [nI_l (by omega)]
    exact ⟨τ2, t1, t2.q⟩
end
section
/-! PURE HALF 20: the text's tokens -/
def tkS (x : Int32) : Bool := decide (x = 32)
def tkL (x : Int32) : Bool := inB x 97 122
def tkF (x : Int32) : Bool := inB x 48 57
def tk_r (pf : Int32 → Bool) (B : Nat → Int32) : Nat → Nat → Nat
  | 0, i => i
  | d + 1, i => if pf (B i) then tk_r pf B d (i + 1) else i
theorem tk_rb (pf : Int32 → Bool) (B : Nat → Int32) : ∀ (d i : Nat), i ≤ tk_r pf B d i ∧ tk_r pf B d i ≤ i + d
  | 0, i => ⟨Nat.le_refl _, Nat.le_refl _⟩
  | d + 1, i => by
    have h := tk_rb pf B d (i + 1)
    rw [tk_r]
    by_cases c : pf (B i) = true
    · rw [if_pos c]; omega
    · rw [if_neg c]; omega
theorem tk_r1 {pf : Int32 → Bool} {B : Nat → Int32} {L s : Nat} (hs : s < L) (c : pf (B s) = true) : tk_r pf B (L - s) s = tk_r pf B (L - (s + 1)) (s + 1) := by
  obtain ⟨d, hd⟩ : ∃ d, L - s = d + 1 := ⟨L - s - 1, by omega⟩
  rw [hd, tk_r, if_pos c, show L - (s + 1) = d by omega]
def tk_n (B : Nat → Int32) (s : Nat) : Nat → Int32
  | 0 => 0
  | k + 1 => (10 * tk_n B s k + B (s + k)) - 48
def tk_B (B : Nat → Int32) (L e : Nat) : Nat := tk_r tkS B (L - e) e
def tk_E (B : Nat → Int32) (L s : Nat) : Nat := if s = L then s else if tkL (B s) then tk_r tkL B (L - s) s else if tkF (B s) then tk_r tkF B (L - s) s else s + 1
def tk_K (B : Nat → Int32) (L s : Nat) : Int32 := if s = L then 0 else if tkL (B s) then 1 else if tkF (B s) then (if tk_E B L s - s ≤ 2 then 2 else 4) else if B s = 59 then 3 else 4
def tk_V (B : Nat → Int32) (L s : Nat) : Int32 := tk_n B s (min (tk_E B L s - s) 2)
theorem tk_Bb {B : Nat → Int32} {L e : Nat} (h : e ≤ L) : e ≤ tk_B B L e ∧ tk_B B L e ≤ L := by
  have := tk_rb tkS B (L - e) e
  unfold tk_B
  omega
theorem tk_Eb {B : Nat → Int32} {L s : Nat} (h : s ≤ L) : s ≤ tk_E B L s ∧ tk_E B L s ≤ L := by
  unfold tk_E
  by_cases c : s = L
  · rw [if_pos c]; omega
  · rw [if_neg c]
    have h1 := tk_rb tkL B (L - s) s
    have h2 := tk_rb tkF B (L - s) s
    by_cases c1 : tkL (B s) = true
    · rw [if_pos c1]; omega
    · rw [if_neg c1]
      by_cases c2 : tkF (B s) = true
      · rw [if_pos c2]; omega
      · rw [if_neg c2]; omega
theorem tk_Es {B : Nat → Int32} {L s : Nat} (h : s < L) : s < tk_E B L s := by
  unfold tk_E
  rw [if_neg (by omega)]
  by_cases c1 : tkL (B s) = true
  · rw [if_pos c1, tk_r1 h c1]
    have := tk_rb tkL B (L - (s + 1)) (s + 1)
    omega
  · rw [if_neg c1]
    by_cases c2 : tkF (B s) = true
    · rw [if_pos c2, tk_r1 h c2]
      have := tk_rb tkF B (L - (s + 1)) (s + 1)
      omega
    · rw [if_neg c2]; omega
theorem tk_ui (f : Nat → Int32) (k : Nat) : upd f k (f k) = f := by
  funext j
  by_cases e : j = k
  · rw [e, updS]
  · rw [updN e]
theorem tk_uu (f : Nat → Int32) (k : Nat) (a b : Int32) : upd (upd f k a) k b = upd f k b := by
  funext j
  by_cases e : j = k
  · rw [e, updS, updS]
  · rw [updN e, updN e, updN e]
theorem C_isL (x : Int32) (s : Sta) : X8_isLetter x s = some (bi (tkL x), s) := by
  by_cases h1 : x < 97 <;> by_cases h2 : 122 < x <;> simp [X8_isLetter, tkL, inB, bi, rZ, h1, h2]
theorem C_isF (x : Int32) (s : Sta) : X8_isFigure x s = some (bi (tkF x), s) := by
  by_cases h1 : x < 48 <;> by_cases h2 : 57 < x <;> simp [X8_isFigure, tkF, inB, bi, rZ, h1, h2]
theorem M_isL (x : Int32) (s : Sta) : X12_isSmall x s = some (bi (tkL x), s) := by
  rw [X12_isSmall, show X12_in x.toInt64 (97 : Int64) (122 : Int64) s = some (bi (inB x 97 122), s) from in_b x 97 122 s, cA_e, rZ_b]
  rfl
theorem M_isF (x : Int32) (s : Sta) : X12_isFigure x s = some (bi (tkF x), s) := by
  rw [X12_isFigure, show X12_in x.toInt64 (48 : Int64) (57 : Int64) s = some (bi (inB x 48 57), s) from in_b x 48 57 s, cA_e, rZ_b]
  rfl
-- the class
theorem C_skip {σ : Sta} {L : Nat} {B : Nat → Int32} (hL : L ≤ 150) (hB : ∀ j, j < L → σ.1 81 j = B j) : ∀ (d i fu : Nat) (f : Nat → Int32), i + d = L → d < fu → f 1 = nI L → f 2 = nI i → X8_advance_L8 fu (up1 σ 80 f) = X8_advance_L46 (up1 σ 80 (upd f 2 (nI (tk_r tkS B d i))))
  | d, i, 0, f, _, h, _, _ => by omega
  | 0, i, fu + 1, f, h, _, h1, h2 => by
    have e : i = L := by omega
    rw [X8_advance_L8, fI_e, fI_e, up1_s, h1, h2, if_neg (nI_nlt (by omega) (by omega)), tk_r, ← h2, tk_ui]
  | d + 1, i, fu + 1, f, h, hf, h1, h2 => by
    have hi : i < L := by omega
    rw [X8_advance_L8, fI_e, fI_e, fI_e, up1_s, h1, h2, if_pos (nI_lt hi (by omega)), aI_n i (by omega), up1_n (show 81 ≠ 80 by decide), hB i hi, tk_r]
    by_cases c : B i = 32
    · rw [if_pos c, if_pos (show tkS (B i) = true from decide_eq_true c), fI_e, up1_s, h2, pI_e, up1_s, up1_u, nI_1, C_skip hL hB d (i + 1) fu (upd f 2 (nI (i + 1))) (by omega) (by omega) (by rw [updN (by decide)]; exact h1) (updS _ _ _), tk_uu]
    · rw [if_neg c, if_neg (show ¬ tkS (B i) = true from fun e => c (of_decide_eq_true e)), ← h2, tk_ui]
termination_by structural d => d
theorem C_lets {σ : Sta} {L : Nat} {B : Nat → Int32} (hL : L ≤ 150) (hB : ∀ j, j < L → σ.1 81 j = B j) : ∀ (d i fu : Nat) (f : Nat → Int32), i + d = L → d < fu → f 1 = nI L → f 3 = nI i → X8_advance_L93 fu (up1 σ 80 f) = some ((), up1 σ 80 (upd f 3 (nI (tk_r tkL B d i))))
  | d, i, 0, f, _, h, _, _ => by omega
  | 0, i, fu + 1, f, h, _, h1, h2 => by
    have e : i = L := by omega
    rw [X8_advance_L93, fI_e, fI_e, up1_s, h1, h2, if_neg (nI_nlt (by omega) (by omega)), tk_r, ← h2, tk_ui]
  | d + 1, i, fu + 1, f, h, hf, h1, h2 => by
    have hi : i < L := by omega
    rw [X8_advance_L93, fI_e, fI_e, fI_e, up1_s, h1, h2, if_pos (nI_lt hi (by omega)), aI_n i (by omega), up1_n (show 81 ≠ 80 by decide), hB i hi, cA_of (C_isL _ _), bi_if, tk_r]
    by_cases c : tkL (B i) = true
    · rw [if_pos c, if_pos c, fI_e, up1_s, h2, pI_e, up1_s, up1_u, nI_1, C_lets hL hB d (i + 1) fu (upd f 3 (nI (i + 1))) (by omega) (by omega) (by rw [updN (by decide)]; exact h1) (updS _ _ _), tk_uu]
    · rw [if_neg c, if_neg c, ← h2, tk_ui]
termination_by structural d => d
theorem lt2 {k : Nat} (h : k < 2) : nI k < (2 : Int32) := nI_lt (b := 2) h (by decide)
theorem nlt2 {k : Nat} (h : 2 ≤ k) (hk : k < 2 ^ 31) : ¬ nI k < (2 : Int32) := nI_nlt (b := 2) h hk
theorem gt2 {k : Nat} (h : 2 < k) (hk : k < 2 ^ 31) : (2 : Int32) < nI k := nI_lt (a := 2) h hk
theorem ngt2 {k : Nat} (h : k ≤ 2) : ¬ (2 : Int32) < nI k := nI_nlt (a := 2) h (by decide)
theorem C_figE {σ : Sta} {L s i : Nat} {B : Nat → Int32} (hL : L ≤ 150) (f : Nat → Int32) (hi : i ≤ L) (hs : s ≤ i) (h1 : f 1 = nI L) (h2 : f 2 = nI s) (h3 : f 3 = nI i) (h5 : f 5 = tk_n B s (min (i - s) 2)) : ∃ g, X8_takeFigures_L81 (up1 σ 80 f) = some ((), up1 σ 80 g) ∧ g 1 = nI L ∧ g 2 = nI s ∧ g 3 = nI i ∧ g 4 = (if i - s ≤ 2 then 2 else 4) ∧ g 5 = tk_n B s (min (i - s) 2) := by
  rw [X8_takeFigures_L81, fI_e, fI_e, up1_s, h2, h3, pk_sub hs]
  have t : ∀ v : Int32, upd f 4 v 1 = nI L ∧ upd f 4 v 2 = nI s ∧ upd f 4 v 3 = nI i ∧ upd f 4 v 5 = tk_n B s (min (i - s) 2) := fun v => by
    rw [updN (by decide), updN (by decide), updN (by decide), updN (by decide)]
    exact ⟨h1, h2, h3, h5⟩
  by_cases c : i - s ≤ 2
  · rw [if_neg (ngt2 c), pI_e, up1_s, up1_u]
    obtain ⟨t1, t2, t3, t4⟩ := t 2
    exact ⟨_, rfl, t1, t2, t3, by rw [updS, if_pos c], t4⟩
  · rw [if_pos (gt2 (by omega) (by omega)), pI_e, up1_s, up1_u]
    obtain ⟨t1, t2, t3, t4⟩ := t 4
    exact ⟨_, rfl, t1, t2, t3, by rw [updS, if_neg c], t4⟩
theorem C_figs {σ : Sta} {L s : Nat} {B : Nat → Int32} (hL : L ≤ 150) (hB : ∀ j, j < L → σ.1 81 j = B j) : ∀ (d i fu : Nat) (f : Nat → Int32), i + d = L → d < fu → s ≤ i → f 1 = nI L → f 2 = nI s → f 3 = nI i → f 5 = tk_n B s (min (i - s) 2) → ∃ g, X8_takeFigures_L5 fu (up1 σ 80 f) = some ((), up1 σ 80 g) ∧ g 1 = nI L ∧ g 2 = nI s ∧ g 3 = nI (tk_r tkF B d i) ∧ g 4 = (if tk_r tkF B d i - s ≤ 2 then 2 else 4) ∧ g 5 = tk_n B s (min (tk_r tkF B d i - s) 2)
  | d, i, 0, f, _, h, _, _, _, _, _ => by omega
  | 0, i, fu + 1, f, h, _, hs, h1, h2, h3, h5 => by
    have e : i = L := by omega
    rw [X8_takeFigures_L5, fI_e, fI_e, up1_s, h1, h3, if_neg (nI_nlt (by omega) (by omega)), tk_r]
    exact C_figE hL f (by omega) hs h1 h2 h3 h5
  | d + 1, i, fu + 1, f, h, hf, hs, h1, h2, h3, h5 => by
    have hi : i < L := by omega
    rw [X8_takeFigures_L5, fI_e, fI_e, fI_e, up1_s, h1, h3, if_pos (nI_lt hi (by omega)), aI_n i (by omega), up1_n (show 81 ≠ 80 by decide), hB i hi, cA_of (C_isF _ _), bi_if, tk_r]
    by_cases c : tkF (B i) = true
    · rw [if_pos c, if_pos c, fI_e, fI_e, up1_s, h3, h2, pk_sub hs]
      by_cases c2 : i - s < 2
      · rw [if_pos (lt2 c2), fI_e, fI_e, up1_s, h3, aI_n i (by omega), up1_n (show 81 ≠ 80 by decide), hB i hi, pI_e, up1_s, up1_u, X8_takeFigures_L68, fI_e, up1_s, updN (by decide), h3, pI_e, up1_s, up1_u, nI_1]
        refine C_figs hL hB d (i + 1) fu _ (by omega) (by omega) (by omega) (by rw [updN (by decide), updN (by decide)]; exact h1) (by rw [updN (by decide), updN (by decide)]; exact h2) (updS _ _ _) ?_
        rw [updN (by decide), updS, h5, Nat.min_eq_left (by omega), Nat.min_eq_left (by omega), show i + 1 - s = (i - s) + 1 by omega, tk_n, show s + (i - s) = i by omega]
      · rw [if_neg (nlt2 (by omega) (by omega)), X8_takeFigures_L68, fI_e, up1_s, h3, pI_e, up1_s, up1_u, nI_1]
        refine C_figs hL hB d (i + 1) fu _ (by omega) (by omega) (by omega) (by rw [updN (by decide)]; exact h1) (by rw [updN (by decide)]; exact h2) (updS _ _ _) ?_
        rw [updN (by decide), h5, Nat.min_eq_right (by omega), Nat.min_eq_right (by omega)]
    · rw [if_neg c, if_neg c]
      exact C_figE hL f (by omega) hs h1 h2 h3 h5
termination_by structural d => d
theorem tk_E0 {B : Nat → Int32} {L s : Nat} (h : s = L) : tk_E B L s = s := by rw [tk_E, if_pos h]
theorem tk_K0 {B : Nat → Int32} {L s : Nat} (h : s = L) : tk_K B L s = 0 := by rw [tk_K, if_pos h]
theorem tk_EL {B : Nat → Int32} {L s : Nat} (h : s < L) (c : tkL (B s) = true) : tk_E B L s = tk_r tkL B (L - s) s ∧ tk_K B L s = 1 := by rw [tk_E, tk_K, if_neg (show ¬ s = L by omega), if_neg (show ¬ s = L by omega), if_pos c, if_pos c]; exact ⟨rfl, rfl⟩
theorem tk_EF {B : Nat → Int32} {L s : Nat} (h : s < L) (c : ¬ tkL (B s) = true) (c2 : tkF (B s) = true) : tk_E B L s = tk_r tkF B (L - s) s ∧ tk_K B L s = if tk_r tkF B (L - s) s - s ≤ 2 then 2 else 4 := by
  have e : tk_E B L s = tk_r tkF B (L - s) s := by rw [tk_E, if_neg (by omega), if_neg c, if_pos c2]
  rw [tk_K, e, if_neg (by omega), if_neg c, if_pos c2]; exact ⟨rfl, rfl⟩
theorem tk_EO {B : Nat → Int32} {L s : Nat} (h : s < L) (c : ¬ tkL (B s) = true) (c2 : ¬ tkF (B s) = true) : tk_E B L s = s + 1 ∧ tk_K B L s = if B s = 59 then 3 else 4 := by
  rw [tk_E, tk_K, if_neg (show ¬ s = L by omega), if_neg (show ¬ s = L by omega), if_neg c, if_neg c, if_neg c2, if_neg c2]; exact ⟨rfl, rfl⟩
theorem C_46 {σ : Sta} {L s : Nat} {B : Nat → Int32} (hL : L ≤ 150) (hB : ∀ j, j < L → σ.1 81 j = B j) (f : Nat → Int32) (hs : s ≤ L) (h1 : f 1 = nI L) (h2 : f 2 = nI s) : ∃ g, X8_advance_L46 (up1 σ 80 f) = some ((), up1 σ 80 g) ∧ g 1 = nI L ∧ g 2 = nI s ∧ g 3 = nI (tk_E B L s) ∧ g 4 = tk_K B L s ∧ (tk_K B L s = 2 → g 5 = tk_V B L s) := by
  rw [X8_advance_L46, fI_e, up1_s, h2, pI_e, up1_s, up1_u, fI_e, fI_e, up1_s, updN (by decide), updN (by decide), h1, h2]
  by_cases c0 : s = L
  · rw [if_neg (nI_nlt (by omega) (by omega)), pI_e, up1_s, up1_u, tk_E0 c0, tk_K0 c0]
    refine ⟨_, rfl, ?_, ?_, ?_, updS _ _ _, fun e => absurd e (by decide)⟩
    · rw [updN (by decide), updN (by decide)]; exact h1
    · rw [updN (by decide), updN (by decide)]; exact h2
    · rw [updN (by decide), updS]
  · have hs' : s < L := by omega
    rw [if_pos (nI_lt hs' (by omega)), fI_e, up1_s, updN (by decide), h2, aI_n s (by omega), up1_n (show 81 ≠ 80 by decide), hB s hs', cA_of (C_isL _ _), bi_if]
    by_cases c1 : tkL (B s) = true
    · obtain ⟨e1, e2⟩ := tk_EL hs' c1
      rw [if_pos c1, pI_e, up1_s, up1_u, C_lets hL hB (L - s) s FU _ (by omega) (by show _ < 300; omega) (by rw [updN (by decide), updN (by decide)]; exact h1) (by rw [updN (by decide), updS]), e1, e2]
      refine ⟨_, rfl, ?_, ?_, updS _ _ _, ?_, fun e => absurd e (by decide)⟩
      · rw [updN (by decide), updN (by decide), updN (by decide)]; exact h1
      · rw [updN (by decide), updN (by decide), updN (by decide)]; exact h2
      · rw [updN (by decide), updS]
    · rw [if_neg c1, fI_e, up1_s, updN (by decide), h2, aI_n s (by omega), up1_n (show 81 ≠ 80 by decide), hB s hs', cA_of (C_isF _ _), bi_if]
      by_cases c2 : tkF (B s) = true
      · obtain ⟨e1, e2⟩ := tk_EF hs' c1 c2
        obtain ⟨g, g0, g1, g2, g3, g4, g5⟩ := C_figs hL hB (s := s) (L - s) s FU (upd (upd f 3 (nI s)) 5 0) (by omega) (by show _ < 300; omega) (Nat.le_refl _) (by rw [updN (by decide), updN (by decide)]; exact h1) (by rw [updN (by decide), updN (by decide)]; exact h2) (by rw [updN (by decide), updS]) (by rw [updS, Nat.sub_self]; rfl)
        have gt : X8_takeFigures (up1 σ 80 (upd f 3 (nI s))) = some ((), up1 σ 80 g) := by
          rw [X8_takeFigures, pI_e, up1_s, up1_u]
          exact g0
        rw [if_pos c2, cA_of gt]
        refine ⟨g, rfl, g1, g2, by rw [g3, e1], by rw [g4, e2], fun _ => by rw [g5, tk_V, e1]⟩
      · obtain ⟨e1, e2⟩ := tk_EO hs' c1 c2
        rw [if_neg c2, fI_e, up1_s, updN (by decide), h2, aI_n s (by omega), up1_n (show 81 ≠ 80 by decide), hB s hs']
        have t : ∀ v : Int32, ∃ g, X8_advance_L174 v (up1 σ 80 (upd f 3 (nI s))) = some ((), up1 σ 80 g) ∧ g 1 = nI L ∧ g 2 = nI s ∧ g 3 = nI (s + 1) ∧ g 4 = v := fun v => by
          rw [X8_advance_L174, pI_e, up1_s, up1_u, fI_e, up1_s, updN (by decide), updN (by decide), h2, pI_e, up1_s, up1_u, nI_1]
          refine ⟨_, rfl, ?_, ?_, updS _ _ _, ?_⟩
          · rw [updN (by decide), updN (by decide), updN (by decide)]; exact h1
          · rw [updN (by decide), updN (by decide), updN (by decide)]; exact h2
          · rw [updN (by decide), updS]
        rw [e1, e2]
        by_cases c3 : B s = 59
        · rw [if_pos c3, if_pos c3]
          obtain ⟨g, g0, g1, g2, g3, g4⟩ := t 3
          exact ⟨g, g0, g1, g2, g3, g4, fun e => absurd e (by decide)⟩
        · rw [if_neg c3, if_neg c3]
          obtain ⟨g, g0, g1, g2, g3, g4⟩ := t 4
          exact ⟨g, g0, g1, g2, g3, g4, fun e => absurd e (by decide)⟩
def CT (B : Nat → Int32) (L s : Nat) (σ : Sta) : Prop := s ≤ L ∧ σ.1 80 1 = nI L ∧ σ.1 80 2 = nI s ∧ σ.1 80 3 = nI (tk_E B L s) ∧ σ.1 80 4 = tk_K B L s ∧ (tk_K B L s = 2 → σ.1 80 5 = tk_V B L s) ∧ ∀ j, j < L → σ.1 81 j = B j
def MT (B : Nat → Int32) (L s : Nat) (ρ : Sta) : Prop := s ≤ L ∧ ρ.1 82 14 = nI L ∧ ρ.1 82 15 = nI s ∧ ρ.1 82 16 = nI (tk_E B L s - s) ∧ ρ.1 82 17 = tk_K B L s ∧ (tk_K B L s = 2 → ρ.1 82 18 = tk_V B L s) ∧ ∀ j, j < L → ρ.1 94 j = B j
def tk_N (B : Nat → Int32) (L s : Nat) : Nat := tk_B B L (tk_E B L s)
theorem C_adv {σ : Sta} {L e : Nat} {B : Nat → Int32} (hL : L ≤ 150) (hB : ∀ j, j < L → σ.1 81 j = B j) (he : e ≤ L) (h1 : σ.1 80 1 = nI L) (h3 : σ.1 80 3 = nI e) : ∃ f, X8_advance σ = some ((), up1 σ 80 f) ∧ CT B L (tk_B B L e) (up1 σ 80 f) := by
  rw [X8_advance, fI_e, h3, pI_e, C_skip hL hB (L - e) e FU _ (by omega) (by show _ < 300; omega) (by rw [updN (by decide)]; exact h1) (updS _ _ _), tk_uu]
  have hb := (tk_Bb (B := B) he).2
  obtain ⟨g, g0, g1, g2, g3, g4, g5⟩ := C_46 hL hB (upd (σ.1 80) 2 (nI (tk_B B L e))) hb (by rw [updN (by decide)]; exact h1) (updS _ _ _)
  refine ⟨g, g0, hb, ?_, ?_, ?_, ?_, ?_, fun j hj => ?_⟩
  · rw [up1_s]; exact g1
  · rw [up1_s]; exact g2
  · rw [up1_s]; exact g3
  · rw [up1_s]; exact g4
  · rw [up1_s]; exact g5
  · rw [up1_n (by decide)]; exact hB j hj
theorem CT.adv {B : Nat → Int32} {L s : Nat} {σ : Sta} (h : CT B L s σ) (hL : L ≤ 150) : ∃ f, X8_advance σ = some ((), up1 σ 80 f) ∧ CT B L (tk_N B L s) (up1 σ 80 f) := by
  obtain ⟨h1, h2, h3, h4, h5, h6, h7⟩ := h
  exact C_adv hL h7 (tk_Eb h1).2 h2 h4
-- the reference
theorem M_skip {ρ : Sta} {L : Nat} {B : Nat → Int32} (hL : L ≤ 150) (hB : ∀ j, j < L → ρ.1 94 j = B j) : ∀ (d i fu : Nat) (f : Nat → Int32), i + d = L → d < fu → f 14 = nI L → f 15 = nI i → X12_lookAt_L5 fu (up1 ρ 82 f) = X12_lookAt_L43 (up1 ρ 82 (upd f 15 (nI (tk_r tkS B d i))))
  | d, i, 0, f, _, h, _, _ => by omega
  | 0, i, fu + 1, f, h, _, h1, h2 => by
    have e : i = L := by omega
    rw [X12_lookAt_L5, fI_e, fI_e, up1_s, h1, h2, if_neg (nI_nlt (by omega) (by omega)), tk_r, ← h2, tk_ui]
  | d + 1, i, fu + 1, f, h, hf, h1, h2 => by
    have hi : i < L := by omega
    rw [X12_lookAt_L5, fI_e, fI_e, fI_e, up1_s, h1, h2, if_pos (nI_lt hi (by omega)), aI_n i (by omega), up1_n (show 94 ≠ 82 by decide), hB i hi, tk_r]
    by_cases c : B i = 32
    · rw [if_pos c, if_pos (show tkS (B i) = true from decide_eq_true c), fI_e, up1_s, h2, pI_e, up1_s, up1_u, nI_1, M_skip hL hB d (i + 1) fu (upd f 15 (nI (i + 1))) (by omega) (by omega) (by rw [updN (by decide)]; exact h1) (updS _ _ _), tk_uu]
    · rw [if_neg c, if_neg (show ¬ tkS (B i) = true from fun e => c (of_decide_eq_true e)), ← h2, tk_ui]
termination_by structural d => d
theorem M_long {ρ : Sta} {L s : Nat} {B : Nat → Int32} {pf : Int32 → Bool} (hL : L ≤ 150) (hB : ∀ j, j < L → ρ.1 94 j = B j) : ∀ (d i fu : Nat) (f : Nat → Int32), i + d = L → d < fu → s ≤ i → f 14 = nI L → f 15 = nI s → f 16 = nI (i - s) → (f 17 = 1 ∧ pf = tkL ∨ f 17 = 2 ∧ pf = tkF) → X12_lookAt_L136 fu 1 (up1 ρ 82 f) = X12_lookAt_L218 FU 0 (up1 ρ 82 (upd f 16 (nI (tk_r pf B d i - s))))
  | d, i, 0, f, _, h, _, _, _, _, _ => by omega
  | 0, i, fu + 1, f, h, _, hs, h1, h2, h3, h4 => by
    have e : i = L := by omega
    rw [X12_lookAt_L136, if_neg n10, fI_e, fI_e, fI_e, up1_s, h1, h2, h3, nI_add, if_neg (nI_nlt (by omega) (by omega)), tk_r, ← h3, tk_ui]
  | d + 1, i, fu + 1, f, h, hf, hs, h1, h2, h3, h4 => by
    have hi : i < L := by omega
    have ei : s + (i - s) = i := by omega
    rw [X12_lookAt_L136, if_neg n10, fI_e, fI_e, fI_e, up1_s, h1, h2, h3, nI_add, ei, if_pos (nI_lt hi (by omega)), fI_e, fI_e, up1_s, h2, h3, nI_add, ei, aI_n i (by omega), up1_n (show 94 ≠ 82 by decide), hB i hi, fI_e, up1_s]
    have t : X12_lookAt_L193 (X12_lookAt_L136 fu) (bi (pf (B i))) (up1 ρ 82 f) = X12_lookAt_L218 FU 0 (up1 ρ 82 (upd f 16 (nI (tk_r pf B (d + 1) i - s)))) := by
      rw [X12_lookAt_L193, fI_e, up1_s, h3, bi_if, tk_r]
      by_cases c : pf (B i) = true
      · rw [if_pos c, if_pos c, pI_e, up1_s, up1_u, nI_1, c, show bi true = 1 from rfl, M_long (s := s) hL hB d (i + 1) fu _ (by omega) (by omega) (by omega) (by rw [updN (by decide)]; exact h1) (by rw [updN (by decide)]; exact h2) (by rw [updS, show i + 1 - s = i - s + 1 by omega]) (by rw [updN (by decide)]; exact h4), tk_uu]
      · obtain ⟨fu', rfl⟩ : ∃ k, fu = k + 1 := ⟨fu - 1, by omega⟩
        rw [if_neg c, if_neg c, Bool.eq_false_iff.mpr c, show bi false = 0 from rfl, pI_e, up1_s, up1_u, Int32.add_zero, X12_lookAt_L136, if_pos rfl]
    rcases h4 with ⟨h4, rfl⟩ | ⟨h4, rfl⟩
    · rw [h4, if_pos rfl, cA_of (M_isL _ _)]
      exact t
    · rw [h4, if_neg (by decide), cA_of (M_isF _ _)]
      exact t
termination_by structural d => d
theorem M_valL {ρ : Sta} {L s l : Nat} {B : Nat → Int32} (hL : L ≤ 150) (hB : ∀ j, j < L → ρ.1 94 j = B j) (hl : s + l ≤ L) : ∀ (d k fu : Nat) (f : Nat → Int32), k + d = min l 2 → d < fu → f 15 = nI s → f 16 = nI l → f 17 = 2 → f 18 = tk_n B s k → X12_lookAt_L218 fu (nI k) (up1 ρ 82 f) = X12_lookAt_L274 (up1 ρ 82 (upd f 18 (tk_n B s (min l 2))))
  | d, k, 0, f, _, h, _, _, _, _ => by omega
  | 0, k, fu + 1, f, h, _, h1, h2, h3, h4 => by
    have e : k = min l 2 := by omega
    rw [← e, ← h4, tk_ui, X12_lookAt_L218, fI_e, up1_s, h2]
    by_cases c : k < l
    · rw [if_pos (nI_lt c (by omega)), if_neg (nlt2 (by omega) (by omega))]
    · rw [if_neg (nI_nlt (by omega) (by omega))]
  | d + 1, k, fu + 1, f, h, hf, h1, h2, h3, h4 => by
    rw [X12_lookAt_L218, fI_e, up1_s, h2, if_pos (nI_lt (by omega) (by omega)), if_pos (lt2 (by omega)), fI_e, up1_s, h3, if_pos rfl, fI_e, fI_e, up1_s, h4, h1, nI_add, aI_n (s + k) (by omega), up1_n (show 94 ≠ 82 by decide), hB _ (by omega), pI_e, up1_s, up1_u, nI_1, M_valL hL hB hl d (k + 1) fu _ (by omega) (by omega) (by rw [updN (by decide)]; exact h1) (by rw [updN (by decide)]; exact h2) (by rw [updN (by decide)]; exact h3) (by rw [updS]; rfl), tk_uu]
termination_by structural d => d
theorem M_274 {ρ : Sta} {l : Nat} {z : Int32} (f : Nat → Int32) (hl : l < 2 ^ 31) (h2 : f 16 = nI l) (h3 : f 17 = z) : X12_lookAt_L274 (up1 ρ 82 f) = some ((), up1 ρ 82 (upd f 17 (if z = 2 then (if l ≤ 2 then 2 else 4) else z))) := by
  rw [X12_lookAt_L274, fI_e, up1_s, h3]
  by_cases c : z = 2
  · rw [if_pos c, if_pos c, fI_e, up1_s, h2]
    by_cases c2 : l ≤ 2
    · rw [if_neg (ngt2 c2), fI_e, pI_e, up1_s, up1_u, h3, if_pos c2, c]
    · rw [if_pos (gt2 (by omega) hl), pI_e, up1_s, up1_u, if_neg c2]
  · rw [if_neg c, if_neg c, fI_e, pI_e, up1_s, up1_u, h3]
theorem M_fin {ρ : Sta} {L s l : Nat} {B : Nat → Int32} {z : Int32} (hL : L ≤ 150) (hB : ∀ j, j < L → ρ.1 94 j = B j) (hl : s + l ≤ L) (f : Nat → Int32) (h0 : f 14 = nI L) (h1 : f 15 = nI s) (h2 : f 16 = nI l) (h3 : f 17 = z) (h4 : f 18 = 0) : ∃ g, X12_lookAt_L218 FU 0 (up1 ρ 82 f) = some ((), up1 ρ 82 g) ∧ g 14 = nI L ∧ g 15 = nI s ∧ g 16 = nI l ∧ g 17 = (if z = 2 then (if l ≤ 2 then 2 else 4) else z) ∧ (z = 2 → g 18 = tk_n B s (min l 2)) := by
  by_cases c : z = 2
  · have e := M_valL (s := s) (l := l) hL hB hl (min l 2) 0 FU f (by omega) (by show _ < 300; omega) h1 h2 (h3.trans c) h4
    rw [show nI 0 = (0 : Int32) from rfl] at e
    rw [e, M_274 (l := l) (z := z) _ (by omega) (by rw [updN (by decide)]; exact h2) (by rw [updN (by decide)]; exact h3)]
    refine ⟨_, rfl, ?_, ?_, ?_, updS _ _ _, fun _ => ?_⟩
    · rw [updN (by decide), updN (by decide)]; exact h0
    · rw [updN (by decide), updN (by decide)]; exact h1
    · rw [updN (by decide), updN (by decide)]; exact h2
    · rw [updN (by decide), updS]
  · have e : X12_lookAt_L218 FU 0 (up1 ρ 82 f) = X12_lookAt_L274 (up1 ρ 82 f) := by
      show X12_lookAt_L218 (299 + 1) 0 (up1 ρ 82 f) = _
      rw [X12_lookAt_L218, fI_e, up1_s, h2, fI_e, up1_s, h3, if_neg c]
      by_cases c2 : (0 : Int32) < nI l
      · rw [if_pos c2, if_pos (by decide)]
      · rw [if_neg c2]
    rw [e, M_274 (l := l) (z := z) _ (by omega) h2 h3]
    refine ⟨_, rfl, ?_, ?_, ?_, updS _ _ _, fun e => absurd e c⟩
    · rw [updN (by decide)]; exact h0
    · rw [updN (by decide)]; exact h1
    · rw [updN (by decide)]; exact h2
theorem M_43 {ρ : Sta} {L s : Nat} {B : Nat → Int32} (hL : L ≤ 150) (hB : ∀ j, j < L → ρ.1 94 j = B j) (f : Nat → Int32) (hs : s ≤ L) (h1 : f 14 = nI L) (h2 : f 15 = nI s) : ∃ g, X12_lookAt_L43 (up1 ρ 82 f) = some ((), up1 ρ 82 g) ∧ g 14 = nI L ∧ g 15 = nI s ∧ g 16 = nI (tk_E B L s - s) ∧ g 17 = tk_K B L s ∧ (tk_K B L s = 2 → g 18 = tk_V B L s) := by
  rw [X12_lookAt_L43, pI_e, up1_s, up1_u, pI_e, up1_s, up1_u, pI_e, up1_s, up1_u, fI_e, fI_e, up1_s]
  have f14 : upd (upd (upd f 16 0) 17 0) 18 0 14 = nI L := by rw [updN (by decide), updN (by decide), updN (by decide)]; exact h1
  have f15 : upd (upd (upd f 16 0) 17 0) 18 0 15 = nI s := by rw [updN (by decide), updN (by decide), updN (by decide)]; exact h2
  have f16 : upd (upd (upd f 16 0) 17 0) 18 0 16 = 0 := by rw [updN (by decide), updN (by decide), updS]
  have f17 : upd (upd (upd f 16 0) 17 0) 18 0 17 = 0 := by rw [updN (by decide), updS]
  have f18 : upd (upd (upd f 16 0) 17 0) 18 0 18 = 0 := updS _ _ _
  generalize upd (upd (upd f 16 0) 17 0) 18 0 = f' at *
  rw [f14, f15]
  by_cases c0 : s = L
  · rw [if_pos (by rw [c0]), tk_E0 c0, tk_K0 c0, Nat.sub_self]
    exact ⟨_, rfl, f14, f15, f16, f17, fun e => absurd e (by decide)⟩
  · have hs' : s < L := by omega
    rw [if_neg (fun e => c0 ((nI_eq (by omega) (by omega)).mp e)), fI_e, up1_s, f15, aI_n s (by omega), up1_n (show 94 ≠ 82 by decide), hB s hs', cA_of (M_isL _ _), bi_if]
    have t : ∀ z : Int32, X12_lookAt_L114 z (up1 ρ 82 f') = if z < 3 then X12_lookAt_L136 FU 1 (up1 ρ 82 (upd (upd f' 17 z) 16 1)) else X12_lookAt_L136 FU 0 (up1 ρ 82 (upd (upd f' 17 z) 16 1)) := fun z => by
      rw [X12_lookAt_L114, pI_e, up1_s, up1_u, pI_e, up1_s, up1_u, fI_e, up1_s, updN (by decide), updS]
    have k14 : ∀ z : Int32, upd (upd f' 17 z) 16 1 14 = nI L := fun z => by rw [updN (by decide), updN (by decide)]; exact f14
    have k15 : ∀ z : Int32, upd (upd f' 17 z) 16 1 15 = nI s := fun z => by rw [updN (by decide), updN (by decide)]; exact f15
    have k16 : ∀ z : Int32, upd (upd f' 17 z) 16 1 16 = nI (s + 1 - s) := fun z => by rw [updS, show s + 1 - s = 1 by omega]; rfl
    have k17 : ∀ z : Int32, upd (upd f' 17 z) 16 1 17 = z := fun z => by rw [updN (by decide), updS]
    have k18 : ∀ z : Int32, upd (upd f' 17 z) 16 1 18 = 0 := fun z => by rw [updN (by decide), updN (by decide)]; exact f18
    have eb := (tk_Eb (B := B) hs)
    have es := tk_Es (B := B) hs'
    by_cases c1 : tkL (B s) = true
    · obtain ⟨e1, e2⟩ := tk_EL hs' c1
      rw [if_pos c1, t, if_pos (by decide), M_long (s := s) (pf := tkL) hL hB (L - (s + 1)) (s + 1) FU _ (by omega) (by show _ < 300; omega) (by omega) (k14 1) (k15 1) (k16 1) (Or.inl ⟨k17 1, rfl⟩), ← tk_r1 hs' c1, ← e1]
      obtain ⟨g, g0, g1, g2, g3, g4, g5⟩ := M_fin (z := 1) hL hB (s := s) (l := tk_E B L s - s) (by omega) (upd (upd (upd f' 17 1) 16 1) 16 (nI (tk_E B L s - s))) (by rw [updN (by decide)]; exact k14 1) (by rw [updN (by decide)]; exact k15 1) (updS _ _ _) (by rw [updN (by decide)]; exact k17 1) (by rw [updN (by decide)]; exact k18 1)
      rw [if_neg (by decide)] at g4
      exact ⟨g, g0, g1, g2, g3, by rw [g4, e2], fun e => by rw [e2] at e; exact absurd e (by decide)⟩
    · rw [if_neg c1, cA_of (M_isF _ _), bi_if]
      by_cases c2 : tkF (B s) = true
      · obtain ⟨e1, e2⟩ := tk_EF hs' c1 c2
        rw [if_pos c2, t, if_pos (by decide), M_long (s := s) (pf := tkF) hL hB (L - (s + 1)) (s + 1) FU _ (by omega) (by show _ < 300; omega) (by omega) (k14 2) (k15 2) (k16 2) (Or.inr ⟨k17 2, rfl⟩), ← tk_r1 hs' c2, ← e1]
        obtain ⟨g, g0, g1, g2, g3, g4, g5⟩ := M_fin (z := 2) hL hB (s := s) (l := tk_E B L s - s) (by omega) (upd (upd (upd f' 17 2) 16 1) 16 (nI (tk_E B L s - s))) (by rw [updN (by decide)]; exact k14 2) (by rw [updN (by decide)]; exact k15 2) (updS _ _ _) (by rw [updN (by decide)]; exact k17 2) (by rw [updN (by decide)]; exact k18 2)
        rw [if_pos rfl] at g4
        rw [← e1] at e2
        exact ⟨g, g0, g1, g2, g3, by rw [g4, e2], fun _ => g5 rfl⟩
      · obtain ⟨e1, e2⟩ := tk_EO hs' c1 c2
        rw [if_neg c2, e1, e2]
        have q : ∀ z : Int32, ¬ z < 3 → ¬ z = 2 → ∃ g, X12_lookAt_L114 z (up1 ρ 82 f') = some ((), up1 ρ 82 g) ∧ g 14 = nI L ∧ g 15 = nI s ∧ g 16 = nI (s + 1 - s) ∧ g 17 = z := fun z z1 z2 => by
          obtain ⟨g, g0, g1, g2, g3, g4, g5⟩ := M_fin (z := z) hL hB (s := s) (l := s + 1 - s) (by omega) (upd (upd f' 17 z) 16 1) (k14 z) (k15 z) (k16 z) (k17 z) (k18 z)
          rw [if_neg z2] at g4
          refine ⟨g, ?_, g1, g2, g3, g4⟩
          rw [t, if_neg z1]
          exact g0
        by_cases c3 : B s = 59
        · rw [if_pos c3, if_pos c3]
          obtain ⟨g, g0, g1, g2, g3, g4⟩ := q 3 (by decide) (by decide)
          exact ⟨g, g0, g1, g2, g3, g4, fun e => absurd e (by decide)⟩
        · rw [if_neg c3, if_neg c3]
          obtain ⟨g, g0, g1, g2, g3, g4⟩ := q 4 (by decide) (by decide)
          exact ⟨g, g0, g1, g2, g3, g4, fun e => absurd e (by decide)⟩
theorem M_look {ρ : Sta} {L e : Nat} {B : Nat → Int32} (hL : L ≤ 150) (hB : ∀ j, j < L → ρ.1 94 j = B j) (he : e ≤ L) (h1 : ρ.1 82 14 = nI L) : ∃ f, X12_lookAt (nI e) ρ = some ((), up1 ρ 82 f) ∧ MT B L (tk_B B L e) (up1 ρ 82 f) := by
  rw [X12_lookAt, pI_e, M_skip hL hB (L - e) e FU _ (by omega) (by show _ < 300; omega) (by rw [updN (by decide)]; exact h1) (updS _ _ _), tk_uu]
  have hb := (tk_Bb (B := B) he).2
  obtain ⟨g, g0, g1, g2, g3, g4, g5⟩ := M_43 hL hB (upd (ρ.1 82) 15 (nI (tk_B B L e))) hb (by rw [updN (by decide)]; exact h1) (updS _ _ _)
  refine ⟨g, g0, hb, ?_, ?_, ?_, ?_, ?_, fun j hj => ?_⟩
  · rw [up1_s]; exact g1
  · rw [up1_s]; exact g2
  · rw [up1_s]; exact g3
  · rw [up1_s]; exact g4
  · rw [up1_s]; exact g5
  · rw [up1_n (by decide)]; exact hB j hj
theorem MT.go {B : Nat → Int32} {L s : Nat} {ρ : Sta} (h : MT B L s ρ) (hL : L ≤ 150) : ∃ f, X12_goBehind ρ = some ((), up1 ρ 82 f) ∧ MT B L (tk_N B L s) (up1 ρ 82 f) := by
  obtain ⟨h1, h2, h3, h4, h5, h6, h7⟩ := h
  have hb := tk_Eb (B := B) h1
  obtain ⟨f, f1, f2⟩ := M_look hL h7 hb.2 h2
  refine ⟨f, ?_, f2⟩
  rw [X12_goBehind, fI_e, fI_e, h3, h4, nI_add, show s + (tk_E B L s - s) = tk_E B L s by omega, cA_of f1]
-- words
def tk_m (W B : Nat → Int32) (s : Nat) : Nat → Nat → Bool
  | 0, _ => true
  | d + 1, k => decide (B (s + k) = W k) && tk_m W B s d (k + 1)
def tk_W (W : Nat → Int32) (n : Nat) (B : Nat → Int32) (L s : Nat) : Bool := decide (tk_K B L s = 1) && (decide (tk_E B L s - s = n) && tk_m W B s n 0)
theorem C_wordL {σ : Sta} {L s n tv : Nat} {W B : Nat → Int32} (hL : L ≤ 150) (hn : n ≤ 6) (hB : ∀ j, j < L → σ.1 81 j = B j) (h2 : σ.1 80 2 = nI s) (hs : s + n ≤ L) (hl : J_length tv σ = some (nI n, σ)) (hc : ∀ k, k < n → J_charAt tv (nI k) σ = some (W k, σ)) : ∀ (d k fu : Nat), k + d = n → d < fu → X8_isWord_L28 tv fu (nI k) σ = some (bi (tk_m W B s d k), σ)
  | d, k, 0, _, h => by omega
  | 0, k, fu + 1, h, _ => by
    rw [X8_isWord_L28, cA_of hl, if_neg (nI_nlt (by omega) (by omega)), tk_m]
    rfl
  | d + 1, k, fu + 1, h, hf => by
    rw [X8_isWord_L28, cA_of hl, if_pos (nI_lt (by omega) (by omega)), fI_e, h2, nI_add, aI_n (s + k) (by omega), hB _ (by omega), cA_of (hc k (by omega)), tk_m]
    by_cases c : B (s + k) = W k
    · rw [if_pos c, nI_1, C_wordL hL hn hB h2 hs hl hc d (k + 1) fu (by omega) (by omega), decide_eq_true c, Bool.true_and]
    · rw [if_neg c, decide_eq_false c, Bool.false_and]
      rfl
termination_by structural d => d
theorem CT.word {B : Nat → Int32} {L s n tv : Nat} {σ : Sta} {W : Nat → Int32} (h : CT B L s σ) (hL : L ≤ 150) (hn : n ≤ 6) (hl : J_length tv σ = some (nI n, σ)) (hc : ∀ k, k < n → J_charAt tv (nI k) σ = some (W k, σ)) : X8_isWord tv σ = some (bi (tk_W W n B L s), σ) := by
  obtain ⟨h1, h2, h3, h4, h5, h6, h7⟩ := h
  have hb := tk_Eb (B := B) h1
  rw [X8_isWord, fI_e, h5, tk_W]
  by_cases c : tk_K B L s = 1
  · rw [if_pos c, fI_e, fI_e, h4, h3, pk_sub hb.1, cA_of hl, decide_eq_true c, Bool.true_and]
    by_cases c2 : tk_E B L s - s = n
    · rw [if_pos (by rw [c2]), decide_eq_true c2, Bool.true_and]
      exact C_wordL hL hn h7 h3 (by omega) hl hc n 0 FU (by omega) (by show _ < 300; omega)
    · rw [if_neg (fun e => c2 ((nI_eq (by omega) (by omega)).mp e)), decide_eq_false c2, Bool.false_and]
      rfl
  · rw [if_neg c, decide_eq_false c, Bool.false_and]
    rfl
def tk_w (a b c d e f : Int32) (k : Nat) : Int32 := if k = 0 then a else if k = 1 then b else if k = 2 then c else if k = 3 then d else if k = 4 then e else f
theorem M_wordL {ρ : Sta} {L s n : Nat} {B : Nat → Int32} {w0 w1 w2 w3 w4 w5 : Int32} (hL : L ≤ 150) (hn : n ≤ 6) (hB : ∀ j, j < L → ρ.1 94 j = B j) (h2 : ρ.1 82 15 = nI s) (hs : s + n ≤ L) : ∀ (d k fu : Nat), k + d = n → d < fu → X12_spells_L26 fu (nI n) w0 w1 w2 w3 w4 w5 1 (nI k) ρ = some (bi (tk_m (tk_w w0 w1 w2 w3 w4 w5) B s d k), ρ)
  | d, k, 0, _, h => by omega
  | 0, k, fu + 1, h, _ => by
    rw [X12_spells_L26, if_neg (nI_nlt (by omega) (by omega)), tk_m]
    rfl
  | d + 1, k, fu + 1, h, hf => by
    rw [X12_spells_L26, if_pos (nI_lt (by omega) (by omega)), if_neg n10, fI_e, h2, nI_add, aI_n (s + k) (by omega), hB _ (by omega), tk_m]
    have t : ∀ w : Int32, w = tk_w w0 w1 w2 w3 w4 w5 k → X12_spells_L103 (X12_spells_L26 fu) (nI n) w0 w1 w2 w3 w4 w5 (nI k) w (B (s + k)) ρ = some (bi (decide (B (s + k) = tk_w w0 w1 w2 w3 w4 w5 k) && tk_m (tk_w w0 w1 w2 w3 w4 w5) B s d (k + 1)), ρ) := fun w hw => by
      rw [X12_spells_L103, ← hw]
      by_cases c : B (s + k) = w
      · rw [if_pos c, nI_1, M_wordL hL hn hB h2 hs d (k + 1) fu (by omega) (by omega), decide_eq_true c, Bool.true_and]
      · obtain ⟨fu', rfl⟩ : ∃ k, fu = k + 1 := ⟨fu - 1, by omega⟩
        rw [if_neg c, decide_eq_false c, Bool.false_and, X12_spells_L26]
        by_cases c2 : nI k + 1 < nI n
        · rw [if_pos c2, if_pos rfl]; rfl
        · rw [if_neg c2]; rfl
    have e0 : (nI k = 0) ↔ k = 0 := nI_eq (b := 0) (by omega) (by omega)
    have e1 : (nI k = 1) ↔ k = 1 := nI_eq (b := 1) (by omega) (by omega)
    have e2 : (nI k = 2) ↔ k = 2 := nI_eq (b := 2) (by omega) (by omega)
    have e3 : (nI k = 3) ↔ k = 3 := nI_eq (b := 3) (by omega) (by omega)
    have e4 : (nI k = 4) ↔ k = 4 := nI_eq (b := 4) (by omega) (by omega)
    simp only [e0, e1, e2, e3, e4]
    by_cases c0 : k = 0
    · rw [if_pos c0]; exact t _ (by rw [tk_w, if_pos c0])
    rw [if_neg c0]
    by_cases c1 : k = 1
    · rw [if_pos c1]; exact t _ (by rw [tk_w, if_neg c0, if_pos c1])
    rw [if_neg c1]
    by_cases c2 : k = 2
    · rw [if_pos c2]; exact t _ (by rw [tk_w, if_neg c0, if_neg c1, if_pos c2])
    rw [if_neg c2]
    by_cases c3 : k = 3
    · rw [if_pos c3]; exact t _ (by rw [tk_w, if_neg c0, if_neg c1, if_neg c2, if_pos c3])
    rw [if_neg c3]
    by_cases c4 : k = 4
    · rw [if_pos c4]; exact t _ (by rw [tk_w, if_neg c0, if_neg c1, if_neg c2, if_neg c3, if_pos c4])
    rw [if_neg c4]
    exact t _ (by rw [tk_w, if_neg c0, if_neg c1, if_neg c2, if_neg c3, if_neg c4])
termination_by structural d => d
theorem MT.word {B : Nat → Int32} {L s n : Nat} {ρ : Sta} {w0 w1 w2 w3 w4 w5 : Int32} (h : MT B L s ρ) (hL : L ≤ 150) (hn : n ≤ 6) : X12_spells (nI n) w0 w1 w2 w3 w4 w5 ρ = some (bi (tk_W (tk_w w0 w1 w2 w3 w4 w5) n B L s), ρ) := by
  obtain ⟨h1, h2, h3, h4, h5, h6, h7⟩ := h
  have hb := tk_Eb (B := B) h1
  have z : X12_spells_L26 FU (nI n) w0 w1 w2 w3 w4 w5 0 0 ρ = some (bi false, ρ) := by
    show X12_spells_L26 (299 + 1) (nI n) w0 w1 w2 w3 w4 w5 0 0 ρ = _
    rw [X12_spells_L26]
    by_cases c2 : (0 : Int32) < nI n
    · rw [if_pos c2, if_pos rfl]; rfl
    · rw [if_neg c2]; rfl
  rw [X12_spells, fI_e, h5, tk_W]
  by_cases c : tk_K B L s = 1
  · rw [if_pos c, fI_e, h4, decide_eq_true c, Bool.true_and]
    by_cases c2 : tk_E B L s - s = n
    · rw [if_pos (by rw [c2]), decide_eq_true c2, Bool.true_and]
      exact M_wordL hL hn h7 h3 (by omega) n 0 FU (by omega) (by show _ < 300; omega)
    · rw [if_neg (fun e => c2 ((nI_eq (by omega) (by omega)).mp e)), decide_eq_false c2, Bool.false_and]
      exact z
  · rw [if_neg c, decide_eq_false c, Bool.false_and]
    exact z
end
section
/-! PURE HALF 21: read -/
def FC (σ τ : Sta) : Prop := (∀ k, ¬ ((14 ≤ k ∧ k ≤ 26) ∨ k = 80) → τ.1 k = σ.1 k) ∧ τ.2 = σ.2
def FM (σ τ : Sta) : Prop := (∀ k, k ≠ 82 → k ≠ 95 → k ≠ 96 → τ.1 k = σ.1 k) ∧ τ.2 = σ.2
theorem FC.rf (σ : Sta) : FC σ σ := ⟨fun _ _ => rfl, rfl⟩
theorem FC.tr {a b c : Sta} (h1 : FC a b) (h2 : FC b c) : FC a c := ⟨fun k q => (h2.1 k q).trans (h1.1 k q), h2.2.trans h1.2⟩
theorem FC.up {σ : Sta} {k : Nat} {f : Nat → Int32} (h : (14 ≤ k ∧ k ≤ 26) ∨ k = 80) : FC σ (up1 σ k f) := ⟨fun j q => up1_n (fun e => q (by rw [e]; exact h)), rfl⟩
theorem FM.rf (σ : Sta) : FM σ σ := ⟨fun _ _ _ _ => rfl, rfl⟩
theorem FM.tr {a b c : Sta} (h1 : FM a b) (h2 : FM b c) : FM a c := ⟨fun k q1 q2 q3 => (h2.1 k q1 q2 q3).trans (h1.1 k q1 q2 q3), h2.2.trans h1.2⟩
theorem FM.up {σ : Sta} {k : Nat} {f : Nat → Int32} (h : k = 82 ∨ k = 95 ∨ k = 96) : FM σ (up1 σ k f) := ⟨fun j q1 q2 q3 => up1_n (by omega), rfl⟩
theorem CT.fr {B : Nat → Int32} {L s : Nat} {σ τ : Sta} (h : CT B L s σ) (e : τ.1 80 = σ.1 80) (e2 : τ.1 81 = σ.1 81) : CT B L s τ := by
  unfold CT
  rw [e, e2]
  exact h
theorem MT.fr {B : Nat → Int32} {L s : Nat} {σ τ : Sta} (h : MT B L s σ) (e : τ.1 82 = σ.1 82) (e2 : τ.1 94 = σ.1 94) : MT B L s τ := by
  unfold MT
  rw [e, e2]
  exact h
theorem tk_Nb {B : Nat → Int32} {L s : Nat} (h : s ≤ L) : s ≤ tk_N B L s ∧ tk_N B L s ≤ L := by
  have h1 := tk_Eb (B := B) h
  have h2 := tk_Bb (B := B) h1.2
  unfold tk_N
  omega
theorem tk_Ns {B : Nat → Int32} {L s : Nat} (h : s < L) : s < tk_N B L s := by
  have h0 := tk_Es (B := B) h
  have h1 := tk_Eb (B := B) (Nat.le_of_lt h)
  have h2 := tk_Bb (B := B) h1.2
  unfold tk_N
  omega
theorem tk_nz {B : Nat → Int32} {L s : Nat} (h : s ≤ L) (k : ¬ tk_K B L s = 0) : s < L := by
  by_cases c : s = L
  · exact absurd (tk_K0 c) k
  · omega
-- numbers
def okN (B : Nat → Int32) (L s : Nat) (lo hi : Int32) : Bool := decide (tk_K B L s = 2) && inB (tk_V B L s) lo hi
theorem CT.num {B : Nat → Int32} {L s : Nat} {σ : Sta} (h : CT B L s σ) (hL : L ≤ 150) (lo hi : Int32) : ∃ f, X8_hasNumber lo hi σ = some (bi (okN B L (tk_N B L s) lo hi), up1 σ 80 f) ∧ CT B L (tk_N B L s) (up1 σ 80 f) := by
  obtain ⟨f, f1, f2⟩ := h.adv hL
  refine ⟨f, ?_, f2⟩
  obtain ⟨h1, h2, h3, h4, h5, h6, h7⟩ := f2
  rw [X8_hasNumber, cA_of f1, fI_e, h5, okN]
  by_cases c : tk_K B L (tk_N B L s) = 2
  · rw [if_pos c, fI_e, h6 c, cA_of (within_b _ _ _ _), bi_if, decide_eq_true c, Bool.true_and]
    cases inB (tk_V B L (tk_N B L s)) lo hi <;> rfl
  · rw [if_neg c, decide_eq_false c, Bool.false_and]
    rfl
theorem CT.v {B : Nat → Int32} {L s : Nat} {σ : Sta} {lo hi : Int32} (h : CT B L s σ) (o : okN B L s lo hi = true) : σ.1 80 5 = tk_V B L s ∧ inB (tk_V B L s) lo hi = true := by
  rw [okN, Bool.and_eq_true, decide_eq_true_eq] at o
  exact ⟨h.2.2.2.2.2.1 o.1, o.2⟩
theorem MT.num {B : Nat → Int32} {L s i : Nat} {ρ : Sta} (h : MT B L s ρ) (hL : L ≤ 150) (hi4 : i < 4) (lo hi : Int32) : (okN B L s lo hi = false → X12_takes (nI i) lo hi ρ = some (0, ρ)) ∧ (okN B L s lo hi = true → ∃ f, X12_takes (nI i) lo hi ρ = some (1, up1 (up1 ρ 96 (upd (ρ.1 96) i (tk_V B L s))) 82 f) ∧ MT B L (tk_N B L s) (up1 (up1 ρ 96 (upd (ρ.1 96) i (tk_V B L s))) 82 f)) := by
  have hr : MT B L s (up1 ρ 96 (upd (ρ.1 96) i (tk_V B L s))) := h.fr (up1_n (by decide)) (up1_n (by decide))
  obtain ⟨g, g1, g2⟩ := hr.go hL
  obtain ⟨h1, h2, h3, h4, h5, h6, h7⟩ := h
  rw [X12_takes, fI_e, h5, okN]
  by_cases c : tk_K B L s = 2
  · rw [if_pos c, fI_e, h6 c, cA_of (in_b _ _ _ _), bi_if, decide_eq_true c, Bool.true_and]
    cases hq : inB (tk_V B L s) lo hi with
    | false => exact ⟨fun _ => rfl, fun e => by cases e⟩
    | true =>
      refine ⟨(fun e => by cases e), fun _ => ⟨g, ?_, g2⟩⟩
      rw [if_pos rfl, fI_e, h6 c, sI_n i hi4, cA_of g1]
      rfl
  · rw [if_neg c, decide_eq_false c, Bool.false_and]
    exact ⟨fun _ => rfl, fun e => by cases e⟩
-- a prize told
def Told (B : Nat → Int32) (L s : Nat) (b : Bool) (s' : Nat) (σ ρ σ' ρ' : Sta) : Prop := s ≤ s' ∧ CT B L s' σ' ∧ FC σ σ' ∧ FM ρ ρ' ∧ (b = false → MT B L s' ρ') ∧ (b = true → MT B L (tk_N B L s') ρ' ∧ ∃ n, VR σ'.1 14 (ρ'.1 95) n 0 0 0 0)
theorem ax0 {β : Type} {σ : Sta} {K : Int32 → Option β} : aI σ 96 4 (0 : Int32) K = K (σ.1 96 0) := aI_n 0 (by decide)
theorem ax1 {β : Type} {σ : Sta} {K : Int32 → Option β} : aI σ 96 4 (1 : Int32) K = K (σ.1 96 1) := aI_n 1 (by decide)
theorem ax2 {β : Type} {σ : Sta} {K : Int32 → Option β} : aI σ 96 4 (2 : Int32) K = K (σ.1 96 2) := aI_n 2 (by decide)
theorem ax3 {β : Type} {σ : Sta} {K : Int32 → Option β} : aI σ 96 4 (3 : Int32) K = K (σ.1 96 3) := aI_n 3 (by decide)
theorem ux {σ : Sta} {f g : Nat → Int32} : (up1 (up1 σ 96 f) 82 g).1 96 = f := by rw [up1_n (by decide), up1_s]
theorem S_prize {B : Nat → Int32} {L s n : Nat} {σ ρ : Sta} (hL : L ≤ 150) (hC : CT B L s σ) (hM : MT B L s ρ) (hv : VR σ.1 14 (ρ.1 95) n 0 0 0 0) : ∃ b s' σ' ρ', X8_tellPrize 14 σ = some (bi b, σ') ∧ X12_takesPrize ρ = some (bi b, ρ') ∧ Told B L s b s' σ ρ σ' ρ' := by
  obtain ⟨g0, m0, M0⟩ := hM.go hL
  have b1 := tk_Nb (B := B) hC.1
  have b2 := tk_Nb (B := B) b1.2
  have b3 := tk_Nb (B := B) b2.2
  generalize e1 : tk_N B L s = s1 at *
  generalize e2 : tk_N B L s1 = s2 at *
  generalize e3 : tk_N B L s2 = s3 at *
  obtain ⟨f1, c1, C1⟩ := hC.num hL 0 7
  obtain ⟨t1, u1⟩ := M0.num hL (i := 0) (by decide) 0 7
  rw [e1] at c1 C1
  rw [X8_tellPrize, cA_of c1, bi_if, X12_takesPrize, cA_of m0]
  cases o1 : okN B L s1 0 7 with
  | false =>
    refine ⟨false, s1, _, _, rfl, by rw [cA_of (show X12_takes 0 0 7 _ = _ from t1 o1)]; rfl, b1.1, C1, FC.up (Or.inr rfl), FM.up (Or.inl rfl), fun _ => M0, fun e => by cases e⟩
  | true =>
    obtain ⟨g1, m1, M1⟩ := u1 o1
    obtain ⟨w1, w1'⟩ := C1.v o1
    rw [e2] at M1
    rw [if_pos rfl, fI_e, w1, cA_of (show X12_takes 0 0 7 _ = _ from m1), if_neg n10]
    obtain ⟨f2, c2, C2⟩ := C1.num hL 0 2
    obtain ⟨t2, u2⟩ := M1.num hL (i := 1) (by decide) 0 2
    rw [e2] at c2 C2
    rw [cA_of c2, bi_if]
    cases o2 : okN B L s2 0 2 with
    | false =>
      exact ⟨false, s2, _, _, rfl, by rw [cA_of (show X12_takes 1 0 2 _ = _ from t2 o2)]; rfl, by omega, C2, (FC.up (Or.inr rfl)).tr (FC.up (Or.inr rfl)), ((FM.up (Or.inl rfl)).tr (FM.up (by omega))).tr (FM.up (by omega)), fun _ => M1, fun e => by cases e⟩
    | true =>
      obtain ⟨g2, m2, M2⟩ := u2 o2
      obtain ⟨w2, w2'⟩ := C2.v o2
      rw [e3] at M2
      rw [if_pos rfl, fI_e, w2, cA_of (show X12_takes 1 0 2 _ = _ from m2), if_neg n10]
      obtain ⟨f3, c3, C3⟩ := C2.num hL 1 30
      obtain ⟨t3, u3⟩ := M2.num hL (i := 2) (by decide) 1 30
      rw [e3] at c3 C3
      rw [cA_of c3, bi_if]
      cases o3 : okN B L s3 1 30 with
      | false =>
        exact ⟨false, s3, _, _, rfl, by rw [cA_of (show X12_takes 2 1 30 _ = _ from t3 o3)]; rfl, by omega, C3, ((FC.up (Or.inr rfl)).tr (FC.up (Or.inr rfl))).tr (FC.up (Or.inr rfl)), ((((FM.up (Or.inl rfl)).tr (FM.up (by omega))).tr (FM.up (by omega))).tr (FM.up (by omega))).tr (FM.up (by omega)), fun _ => M2, fun e => by cases e⟩
      | true =>
        obtain ⟨g3, m3, M3⟩ := u3 o3
        obtain ⟨w3, w3'⟩ := C3.v o3
        rw [if_pos rfl, fI_e, w3, cA_of (show X12_takes 2 1 30 _ = _ from m3), if_neg n10]
        obtain ⟨j1, hj1, v1⟩ := inB_n (m := 7) (by decide) w1'
        obtain ⟨j2, hj2, v2⟩ := inB_n (m := 2) (by decide) w2'
        obtain ⟨j3, _, hj3, v3⟩ := inB_30 w3'
        have FCx : FC σ (up1 (up1 (up1 σ 80 f1) 80 f2) 80 f3) := ((FC.up (Or.inr rfl)).tr (FC.up (Or.inr rfl))).tr (FC.up (Or.inr rfl))
        have hσ : ∀ k, k ≠ 80 → (up1 (up1 (up1 σ 80 f1) 80 f2) 80 f3).1 k = σ.1 k := fun k hk => by rw [up1_n hk, up1_n hk, up1_n hk]
        generalize up1 (up1 (up1 σ 80 f1) 80 f2) 80 f3 = σ3 at *
        have FMx : FM ρ (up1 (up1 (up1 (up1 (up1 (up1 (up1 ρ 82 g0) 96 (upd ((up1 ρ 82 g0).1 96) 0 (tk_V B L s1))) 82 g1) 96 (upd ((up1 (up1 (up1 ρ 82 g0) 96 (upd ((up1 ρ 82 g0).1 96) 0 (tk_V B L s1))) 82 g1).1 96) 1 (tk_V B L s2))) 82 g2) 96 (upd ((up1 (up1 (up1 (up1 (up1 ρ 82 g0) 96 (upd ((up1 ρ 82 g0).1 96) 0 (tk_V B L s1))) 82 g1) 96 (upd ((up1 (up1 (up1 ρ 82 g0) 96 (upd ((up1 ρ 82 g0).1 96) 0 (tk_V B L s1))) 82 g1).1 96) 1 (tk_V B L s2))) 82 g2).1 96) 2 (tk_V B L s3))) 82 g3) := ((((((FM.up (Or.inl rfl)).tr (FM.up (by omega))).tr (FM.up (by omega))).tr (FM.up (by omega))).tr (FM.up (by omega))).tr (FM.up (by omega))).tr (FM.up (by omega))
        rw [ux, ux] at m3 M3 FMx ⊢
        have q0 : (up1 (up1 (up1 (up1 (up1 (up1 (up1 ρ 82 g0) 96 (upd ((up1 ρ 82 g0).1 96) 0 (tk_V B L s1))) 82 g1) 96 (upd (upd ((up1 ρ 82 g0).1 96) 0 (tk_V B L s1)) 1 (tk_V B L s2))) 82 g2) 96 (upd (upd (upd ((up1 ρ 82 g0).1 96) 0 (tk_V B L s1)) 1 (tk_V B L s2)) 2 (tk_V B L s3))) 82 g3).1 96 = upd (upd (upd ((up1 ρ 82 g0).1 96) 0 (tk_V B L s1)) 1 (tk_V B L s2)) 2 (tk_V B L s3) := ux
        have q95 : (up1 (up1 (up1 (up1 (up1 (up1 (up1 ρ 82 g0) 96 (upd ((up1 ρ 82 g0).1 96) 0 (tk_V B L s1))) 82 g1) 96 (upd (upd ((up1 ρ 82 g0).1 96) 0 (tk_V B L s1)) 1 (tk_V B L s2))) 82 g2) 96 (upd (upd (upd ((up1 ρ 82 g0).1 96) 0 (tk_V B L s1)) 1 (tk_V B L s2)) 2 (tk_V B L s3))) 82 g3).1 95 = ρ.1 95 := by
          rw [up1_n (by decide), up1_n (by decide), up1_n (by decide), up1_n (by decide), up1_n (by decide), up1_n (by decide), up1_n (by decide)]
        generalize up1 (up1 (up1 (up1 (up1 (up1 (up1 ρ 82 g0) 96 (upd ((up1 ρ 82 g0).1 96) 0 (tk_V B L s1))) 82 g1) 96 (upd (upd ((up1 ρ 82 g0).1 96) 0 (tk_V B L s1)) 1 (tk_V B L s2))) 82 g2) 96 (upd (upd (upd ((up1 ρ 82 g0).1 96) 0 (tk_V B L s1)) 1 (tk_V B L s2)) 2 (tk_V B L s3))) 82 g3 = ρ3 at *
        have x0 : ρ3.1 96 0 = nI j1 := by rw [q0, updN (by decide), updN (by decide), updS]; exact v1
        have x1 : ρ3.1 96 1 = nI j2 := by rw [q0, updN (by decide), updS]; exact v2
        have x2 : ρ3.1 96 2 = nI j3 := by rw [q0, updS]; exact v3
        rw [v1, v2, v3, cA_of (C_setPrize 14 (by omega) _ _ _), ax0, ax1, x0, x1, a41, sI_n (41 + j1) (by omega), ax0, ax2, up1_n (show 96 ≠ 95 by decide), x0, x2, a49, sI_n (49 + j1) (by omega), up1_s, up1_u, q95]
        refine ⟨true, s3, _, _, rfl, rfl, by omega, C3.fr (by rw [up1_n (by decide), up1_n (by decide)]) (by rw [up1_n (by decide), up1_n (by decide)]), FCx.tr ((FC.up (by omega)).tr (FC.up (by omega))), FMx.tr (FM.up (by omega)), (fun e => by cases e), fun _ => ⟨M3.fr (up1_n (by decide)) (up1_n (by decide)), n, ?_⟩⟩
        rw [up1_s]
        refine hv.prize (y := j1) (t := j2) (w := j3) (by omega) (by omega) hj3 ?_ ?_ ?_ ?_ ?_ ?_
        · rw [up1_n (by decide), up1_n (by decide), hσ 14 (by decide)]
          exact ⟨rfl, rfl, hv.s12⟩
        · rw [up1_n (by decide), up1_s, hσ _ (by decide)]
        · rw [up1_s, hσ _ (by decide)]
        · intro i i1 i2
          rw [up1_n (by omega), up1_n (by omega), hσ _ (by omega)]
        · rw [updN (by omega), updN (by omega)]; exact hv.N3
        · intro k _
          rfl
def F8 (σ τ : Sta) : Prop := (∀ k, k ≠ 80 → τ.1 k = σ.1 k) ∧ τ.2 = σ.2
theorem F8.c {σ τ : Sta} (h : F8 σ τ) : FC σ τ := ⟨fun k hk => h.1 k (by omega), h.2⟩
theorem F8.tr {a b c : Sta} (h1 : F8 a b) (h2 : F8 b c) : F8 a c := ⟨fun k q => (h2.1 k q).trans (h1.1 k q), h2.2.trans h1.2⟩
theorem CT.nu {B : Nat → Int32} {L s s' : Nat} {σ : Sta} (h : CT B L s σ) (hL : L ≤ 150) (lo hi : Int32) (e : tk_N B L s = s') : ∃ τ, X8_hasNumber lo hi σ = some (bi (okN B L s' lo hi), τ) ∧ CT B L s' τ ∧ F8 σ τ := by
  obtain ⟨f, f1, f2⟩ := h.num hL lo hi
  rw [e] at f1 f2
  exact ⟨_, f1, f2, fun k hk => up1_n hk, rfl⟩
theorem MT.nu {B : Nat → Int32} {L s s' i : Nat} {ρ : Sta} (h : MT B L s ρ) (hL : L ≤ 150) (hi4 : i < 4) (lo hi : Int32) (e : tk_N B L s = s') : (okN B L s lo hi = false → X12_takes (nI i) lo hi ρ = some (0, ρ)) ∧ (okN B L s lo hi = true → ∃ τ, X12_takes (nI i) lo hi ρ = some (1, τ) ∧ MT B L s' τ ∧ τ.1 96 = upd (ρ.1 96) i (tk_V B L s) ∧ τ.1 95 = ρ.1 95 ∧ FM ρ τ) := by
  obtain ⟨h1, h2⟩ := h.num hL hi4 lo hi
  refine ⟨h1, fun o => ?_⟩
  obtain ⟨f, f1, f2⟩ := h2 o
  rw [e] at f2
  exact ⟨_, f1, f2, ux, by rw [up1_n (by decide), up1_n (by decide)], (FM.up (by omega)).tr (FM.up (by omega))⟩
theorem S_one {B : Nat → Int32} {L s n : Nat} {σ ρ : Sta} (hL : L ≤ 150) (hC : CT B L s σ) (hM : MT B L s ρ) (hv : VR σ.1 14 (ρ.1 95) n 0 0 0 0) : ∃ b s' σ' ρ', X8_tellOne 14 σ = some (bi b, σ') ∧ X12_takesOne ρ = some (bi b, ρ') ∧ Told B L s b s' σ ρ σ' ρ' := by
  have hn := hv.n6
  rw [X8_tellOne, fI_e, hv.s10, X12_takesOne, aI0 (by decide), hv.N0]
  by_cases c6 : n = 6
  · rw [if_neg (by rw [c6]; decide), if_pos (by rw [c6]; rfl)]
    exact ⟨false, s, σ, ρ, rfl, rfl, Nat.le_refl _, hC, FC.rf σ, FM.rf ρ, fun _ => hM, fun e => by cases e⟩
  have hn' : n < 6 := by omega
  rw [if_pos (lt6 hn'), if_neg (show ¬ nI n = (6 : Int32) from fun e => c6 ((nI_eq (b := 6) (by omega) (by omega)).mp e))]
  obtain ⟨g0, m0, M0⟩ := hM.go hL
  have b1 := tk_Nb (B := B) hC.1
  have b2 := tk_Nb (B := B) b1.2
  have b3 := tk_Nb (B := B) b2.2
  have b4 := tk_Nb (B := B) b3.2
  generalize e1 : tk_N B L s = s1 at *
  generalize e2 : tk_N B L s1 = s2 at *
  generalize e3 : tk_N B L s2 = s3 at *
  generalize e4 : tk_N B L s3 = s4 at *
  have F0 : FM ρ (up1 ρ 82 g0) := FM.up (Or.inl rfl)
  have q0 : (up1 ρ 82 g0).1 95 = ρ.1 95 := up1_n (by decide)
  rw [cA_of m0]
  generalize up1 ρ 82 g0 = ρ0 at *
  obtain ⟨σ1, c1, C1, D1⟩ := hC.nu hL 0 5 e1
  obtain ⟨t1, u1⟩ := M0.nu hL (i := 0) (by decide) 0 5 e2
  rw [cA_of c1, bi_if]
  cases o1 : okN B L s1 0 5 with
  | false =>
    exact ⟨false, s1, _, _, rfl, by rw [cA_of (show X12_takes 0 0 5 _ = _ from t1 o1)]; rfl, by omega, C1, D1.c, F0, fun _ => M0, fun e => by cases e⟩
  | true =>
  obtain ⟨ρ1, m1, M1, p1, q1, F1⟩ := u1 o1
  obtain ⟨w1, w1'⟩ := C1.v o1
  rw [if_pos rfl, fI_e, w1, cA_of (show X12_takes 0 0 5 _ = _ from m1), if_neg n10]
  obtain ⟨σ2, c2, C2, D2⟩ := C1.nu hL 0 9 e2
  obtain ⟨t2, u2⟩ := M1.nu hL (i := 1) (by decide) 0 9 e3
  rw [cA_of c2, bi_if]
  cases o2 : okN B L s2 0 9 with
  | false =>
    exact ⟨false, s2, _, _, rfl, by rw [cA_of (show X12_takes 1 0 9 _ = _ from t2 o2)]; rfl, by omega, C2, (D1.tr D2).c, F0.tr F1, fun _ => M1, fun e => by cases e⟩
  | true =>
  obtain ⟨ρ2, m2, M2, p2, q2, F2⟩ := u2 o2
  obtain ⟨w2, w2'⟩ := C2.v o2
  rw [if_pos rfl, fI_e, w2, cA_of (show X12_takes 1 0 9 _ = _ from m2), if_neg n10]
  obtain ⟨σ3, c3, C3, D3⟩ := C2.nu hL 0 9 e3
  obtain ⟨t3, u3⟩ := M2.nu hL (i := 2) (by decide) 0 9 e4
  rw [cA_of c3, bi_if]
  cases o3 : okN B L s3 0 9 with
  | false =>
    exact ⟨false, s3, _, _, rfl, by rw [cA_of (show X12_takes 2 0 9 _ = _ from t3 o3)]; rfl, by omega, C3, ((D1.tr D2).tr D3).c, (F0.tr F1).tr F2, fun _ => M2, fun e => by cases e⟩
  | true =>
  obtain ⟨ρ3, m3, M3, p3, q3, F3⟩ := u3 o3
  obtain ⟨w3, w3'⟩ := C3.v o3
  rw [if_pos rfl, fI_e, w3, cA_of (show X12_takes 2 0 9 _ = _ from m3), if_neg n10]
  obtain ⟨σ4, c4, C4, D4⟩ := C3.nu hL 0 9 e4
  obtain ⟨t4, u4⟩ := M3.nu hL (i := 3) (by decide) 0 9 rfl
  rw [cA_of c4, bi_if]
  cases o4 : okN B L s4 0 9 with
  | false =>
    exact ⟨false, s4, _, _, rfl, by rw [cA_of (show X12_takes 3 0 9 _ = _ from t4 o4)]; rfl, by omega, C4, (((D1.tr D2).tr D3).tr D4).c, ((F0.tr F1).tr F2).tr F3, fun _ => M3, fun e => by cases e⟩
  | true =>
  obtain ⟨ρ4, m4, M4, p4, q4, F4⟩ := u4 o4
  obtain ⟨w4, w4'⟩ := C4.v o4
  rw [if_pos rfl, fI_e, w4, cA_of (show X12_takes 3 0 9 _ = _ from m4), if_neg n10]
  obtain ⟨j1, hj1, v1⟩ := inB_n (m := 5) (by decide) w1'
  obtain ⟨j2, hj2, v2⟩ := inB_n (m := 9) (by decide) w2'
  obtain ⟨j3, hj3, v3⟩ := inB_n (m := 9) (by decide) w3'
  obtain ⟨j4, hj4, v4⟩ := inB_n (m := 9) (by decide) w4'
  have D := ((D1.tr D2).tr D3).tr D4
  have Fm := (((F0.tr F1).tr F2).tr F3).tr F4
  have q95 : ρ4.1 95 = ρ.1 95 := by rw [q4, q3, q2, q1, q0]
  rw [p3, p2, p1] at p4
  have x0 : ρ4.1 96 0 = nI j1 := by rw [p4, updN (by decide), updN (by decide), updN (by decide), updS]; exact v1
  have x1 : ρ4.1 96 1 = nI j2 := by rw [p4, updN (by decide), updN (by decide), updS]; exact v2
  have x2 : ρ4.1 96 2 = nI j3 := by rw [p4, updN (by decide), updS]; exact v3
  have x3 : ρ4.1 96 3 = nI j4 := by rw [p4, updS]; exact v4
  have s10 : σ4.1 14 10 = nI n := by rw [D.1 14 (by decide)]; exact hv.s10
  have r0 : ρ4.1 95 0 = nI n := by rw [q95]; exact hv.N0
  obtain ⟨y0, y3, y4, y5, y6, yo⟩ := add1_at (r := 14) (n := n) (x1 := nI j1) (x2 := nI j2) (x3 := nI j3) (x4 := nI j4) (σ := σ4)
  rw [v1, v2, v3, v4, cA_of (C_addOne s10 hn' _ _ _ _), ax0, ax1, ax2, ax3, x0, x1, x2, x3, cA_of (M_layOne r0 hn' (by decide) (by decide) _ _ _ _), q95]
  have y2 : (add1 14 n (nI j1) (nI j2) (nI j3) (nI j4) σ4).2 = σ4.2 := rfl
  generalize add1 14 n (nI j1) (nI j2) (nI j3) (nI j4) σ4 = σ5 at *
  refine ⟨true, s4, _, _, rfl, rfl, by omega, C4.fr (yo _ (by decide) (by decide)) (yo _ (by decide) (by decide)), D.c.tr ⟨fun k hk => yo k (by omega) (by omega), y2⟩, Fm.tr (FM.up (by omega)), (fun e => by cases e), fun _ => ⟨M4.fr (up1_n (by decide)) (up1_n (by decide)), n + 1, ?_⟩⟩
  rw [up1_s]
  refine hv.one (k := j1) (a := j2) (b := j3) (c := j4) hn' (by omega) (by omega) (by omega) (by omega) ?_ ?_ ?_ ?_ ?_ ?_ ?_ ?_ ?_ ?_
  · rw [y0, updS, updN (by decide), updN (by decide), D.1 14 (by decide)]
    exact ⟨rfl, rfl, hv.s12⟩
  · rw [yo _ (by decide) (by decide)]; exact D.1 _ (by decide)
  · rw [yo _ (by decide) (by decide)]; exact D.1 _ (by decide)
  · rw [y3, D.1 _ (by decide)]
  · rw [y4, D.1 _ (by decide)]
  · rw [y5, D.1 _ (by decide)]
  · rw [y6, D.1 _ (by decide)]
  · intro i i1 i2
    rw [yo _ (by omega) (by omega)]; exact D.1 _ (by omega)
  · rw [lone_o hn' (by omega) (by omega)]; exact hv.N3
  · intro j _
    rfl
-- words
abbrev wV : Nat → Int32 := tk_w 118 97 108 108 101 121
abbrev wP : Nat → Int32 := tk_w 112 114 105 122 101 0
abbrev wO : Nat → Int32 := tk_w 111 110 101 0 0 0
theorem J_l0 (s : Sta) : J_length 0 s = some (nI 6, s) := by rw [J_length, J_coder, cA_e, show nI (txL.getD 0 0) >>> ((0 : Int32) &&& 31) = nI 6 by decide]
theorem J_l1 (s : Sta) : J_length 1 s = some (nI 5, s) := by rw [J_length, J_coder, cA_e, show nI (txL.getD 1 0) >>> ((0 : Int32) &&& 31) = nI 5 by decide]
theorem J_l2 (s : Sta) : J_length 2 s = some (nI 3, s) := by rw [J_length, J_coder, cA_e, show nI (txL.getD 2 0) >>> ((0 : Int32) &&& 31) = nI 3 by decide]
theorem J_c0 (s : Sta) : ∀ k, k < 6 → J_charAt 0 (nI k) s = some (wV k, s) := fun k hk => by
  rcases (show k = 0 ∨ k = 1 ∨ k = 2 ∨ k = 3 ∨ k = 4 ∨ k = 5 by omega) with rfl | rfl | rfl | rfl | rfl | rfl <;> rfl
theorem J_c1 (s : Sta) : ∀ k, k < 5 → J_charAt 1 (nI k) s = some (wP k, s) := fun k hk => by
  rcases (show k = 0 ∨ k = 1 ∨ k = 2 ∨ k = 3 ∨ k = 4 by omega) with rfl | rfl | rfl | rfl | rfl <;> rfl
theorem J_c2 (s : Sta) : ∀ k, k < 3 → J_charAt 2 (nI k) s = some (wO k, s) := fun k hk => by
  rcases (show k = 0 ∨ k = 1 ∨ k = 2 by omega) with rfl | rfl | rfl <;> rfl
theorem CT.w0 {B : Nat → Int32} {L s : Nat} {σ : Sta} (h : CT B L s σ) (hL : L ≤ 150) : X8_isWord 0 σ = some (bi (tk_W wV 6 B L s), σ) := h.word hL (by decide) (J_l0 σ) (J_c0 σ)
theorem CT.w1 {B : Nat → Int32} {L s : Nat} {σ : Sta} (h : CT B L s σ) (hL : L ≤ 150) : X8_isWord 1 σ = some (bi (tk_W wP 5 B L s), σ) := h.word hL (by decide) (J_l1 σ) (J_c1 σ)
theorem CT.w2 {B : Nat → Int32} {L s : Nat} {σ : Sta} (h : CT B L s σ) (hL : L ≤ 150) : X8_isWord 2 σ = some (bi (tk_W wO 3 B L s), σ) := h.word hL (by decide) (J_l2 σ) (J_c2 σ)
theorem MT.w0 {B : Nat → Int32} {L s : Nat} {ρ : Sta} (h : MT B L s ρ) (hL : L ≤ 150) : X12_spells 6 118 97 108 108 101 121 ρ = some (bi (tk_W wV 6 B L s), ρ) := h.word (n := 6) hL (by decide)
theorem MT.w1 {B : Nat → Int32} {L s : Nat} {ρ : Sta} (h : MT B L s ρ) (hL : L ≤ 150) : X12_spells 5 112 114 105 122 101 0 ρ = some (bi (tk_W wP 5 B L s), ρ) := h.word (n := 5) hL (by decide)
theorem MT.w2 {B : Nat → Int32} {L s : Nat} {ρ : Sta} (h : MT B L s ρ) (hL : L ≤ 150) : X12_spells 3 111 110 101 0 0 0 ρ = some (bi (tk_W wO 3 B L s), ρ) := h.word (n := 3) hL (by decide)
theorem CT.ends {B : Nat → Int32} {L s : Nat} {σ : Sta} (h : CT B L s σ) (hL : L ≤ 150) : ∃ τ, X8_endsItem σ = some (bi (decide (tk_K B L (tk_N B L s) = 3)), τ) ∧ CT B L (tk_N B L s) τ ∧ F8 σ τ := by
  obtain ⟨f, f1, f2⟩ := h.adv hL
  refine ⟨_, ?_, f2, fun k hk => up1_n hk, rfl⟩
  rw [X8_endsItem, cA_of f1, fI_e, f2.2.2.2.2.1]
  by_cases c : tk_K B L (tk_N B L s) = 3
  · rw [if_pos c, decide_eq_true c]; rfl
  · rw [if_neg c, decide_eq_false c]; rfl
-- an item
theorem S_item {B : Nat → Int32} {L s n : Nat} {σ ρ : Sta} {K : Int32 → Int32 → Sta → Option (Int32 × Sta)} {y2 y3 : Int32} (hL : L ≤ 150) (hC : CT B L s σ) (hM : MT B L s ρ) (hv : VR σ.1 14 (ρ.1 95) n 0 0 0 0) : ∃ b s' σ' ρ', (cA (X8_isWord 1 σ) (fun q15 s16 => if q15 = 0 then (cA (X8_isWord 2 s16) (fun q17 s18 => if q17 = 0 then (X8_tellInto_L100 14 K y2 y3 (0 : Int32) s18) else (cA (X8_tellOne 14 s18) (fun q19 s20 => if q19 = 0 then (X8_tellInto_L100 14 K y2 y3 (0 : Int32) s20) else (X8_tellInto_L100 14 K y2 y3 (1 : Int32) s20))))) else (cA (X8_tellPrize 14 s16) (fun q21 s22 => X8_tellInto_L100 14 K y2 y3 q21 s22)))) = X8_tellInto_L100 14 K y2 y3 (bi b) σ' ∧ X12_takesItem ρ = some (bi b, ρ') ∧ Told B L s b s' σ ρ σ' ρ' := by
  rw [X12_takesItem, cA_of (hC.w1 hL), cA_of (hM.w1 hL), bi_if, bi_if]
  cases c1 : tk_W wP 5 B L s with
  | true =>
    obtain ⟨b, s', σ', ρ', h1, h2, h3⟩ := S_prize hL hC hM hv
    exact ⟨b, s', σ', ρ', by rw [if_pos rfl, cA_of h1], by rw [if_pos rfl, cA_of h2, rZ_b], h3⟩
  | false =>
    rw [if_neg (by decide), if_neg (by decide), cA_of (hC.w2 hL), cA_of (hM.w2 hL), bi_if, bi_if]
    cases c2 : tk_W wO 3 B L s with
    | true =>
      obtain ⟨b, s', σ', ρ', h1, h2, h3⟩ := S_one hL hC hM hv
      refine ⟨b, s', σ', ρ', ?_, ?_, h3⟩
      · rw [if_pos rfl, cA_of h1, bi_if]
        cases b <;> rfl
      · rw [if_pos rfl, cA_of h2, bi_if]
        cases b <;> rfl
    | false =>
      exact ⟨false, s, σ, ρ, rfl, rfl, Nat.le_refl _, hC, FC.rf σ, FM.rf ρ, fun _ => hM, fun e => by cases e⟩
theorem ten_neg : ∀ s, s < 151 → (-10 : Int32) - nI s < 0 := by decide +kernel
theorem M_read9 {ρ : Sta} {y1 : Int32} : ∀ (d k fu : Nat) (f : Nat → Int32), k + d = 105 → d < fu → ∃ f', X12_read_L109 fu y1 (nI k) (up1 ρ 83 f) = some (y1, up1 ρ 83 f') ∧ (∀ j, j < 105 → k ≤ j → f' j = ρ.1 95 j) ∧ (∀ j, j < k → f' j = f j)
  | d, k, 0, f, _, h => by omega
  | 0, k, fu + 1, f, hk, _ => by
    have e : k = 105 := by omega
    subst e
    refine ⟨f, ?_, fun j h1 h2 => by omega, fun j hj => rfl⟩
    rw [X12_read_L109, if_neg (by decide)]
  | d + 1, k, fu + 1, f, hk, hf => by
    obtain ⟨f', e1, e2, e3⟩ := M_read9 (y1 := y1) d (k + 1) fu (upd f k (ρ.1 95 k)) (by omega) (by omega)
    refine ⟨f', ?_, fun j h1 h2 => ?_, fun j hj => ?_⟩
    · rw [X12_read_L109, if_pos (lt105 (by omega)), aI_n k (by omega), up1_n (by decide), sI_n k (by omega), up1_s, up1_u, nI_1]
      exact e1
    · by_cases e : j = k
      · rw [e, e3 _ (by omega), updS]
      · exact e2 j h1 (by omega)
    · rw [e3 j (by omega), updN (by omega)]
def FR (σ τ : Sta) : Prop := (∀ k, k ≠ 82 → k ≠ 83 → k ≠ 95 → k ≠ 96 → τ.1 k = σ.1 k) ∧ τ.2 = σ.2
theorem FM.r {σ τ : Sta} (h : FM σ τ) : FR σ τ := ⟨fun k a _ b c => h.1 k a b c, h.2⟩
theorem FR.tr {a b c : Sta} (h1 : FR a b) (h2 : FR b c) : FR a c := ⟨fun k q1 q2 q3 q4 => (h2.1 k q1 q2 q3 q4).trans (h1.1 k q1 q2 q3 q4), h2.2.trans h1.2⟩
def Rd (B : Nat → Int32) (L : Nat) (σ ρ : Sta) (a : Int32) (σ' ρ' : Sta) : Prop := FC σ σ' ∧ FR ρ ρ' ∧ (∃ s, CT B L s σ') ∧ (∃ s, MT B L s ρ') ∧ ((a < 0 ∧ ρ'.1 83 = ρ.1 83) ∨ (¬ a < 0 ∧ ∃ n, VR σ'.1 14 (ρ'.1 83) n 0 0 0 0))
theorem Rd.be {B : Nat → Int32} {L : Nat} {σ ρ σ1 ρ1 σ' ρ' : Sta} {a : Int32} (h : Rd B L σ1 ρ1 a σ' ρ') (h1 : FC σ σ1) (h2 : FM ρ ρ1) : Rd B L σ ρ a σ' ρ' :=
  ⟨h1.tr h.1, h2.r.tr h.2.1, h.2.2.1, h.2.2.2.1, by
    have e := h2.1 83 (by decide) (by decide) (by decide)
    rw [← e]
    exact h.2.2.2.2⟩
theorem S_loop {B : Nat → Int32} {L : Nat} (hL : L ≤ 150) : ∀ (d i fc fm s n : Nat) (σ ρ : Sta), L ≤ s + d → i ≤ s → d < fc → d < fm → tk_K B L s = 3 → CT B L s σ → MT B L (tk_N B L s) ρ → VR σ.1 14 (ρ.1 95) n 0 0 0 0 → ∃ a σ' ρ', X8_tellInto_L41 14 fc (nI (i + 1)) (nI i) σ = some (a, σ') ∧ X12_read_L67 fm (nI (i + 1)) ρ = some (a, ρ') ∧ Rd B L σ ρ a σ' ρ'
  | d, i, 0, fm, s, n, σ, ρ, _, _, h, _, _, _, _, _ => by omega
  | d, i, fc, 0, s, n, σ, ρ, _, _, _, h, _, _, _, _ => by omega
  | 0, i, fc + 1, fm + 1, s, n, σ, ρ, h1, _, _, _, h3, hC, hM, hv => by
    have hs := tk_nz hC.1 (by rw [h3]; decide)
    omega
  | d + 1, i, fc + 1, fm + 1, s, n, σ, ρ, h1, hi, hfc, hfm, h3, hC, hM, hv => by
    have hs := tk_nz hC.1 (by rw [h3]; decide)
    have ht := tk_Ns (B := B) hs
    obtain ⟨f, f1, C1⟩ := hC.adv hL
    have hv1 : VR (up1 σ 80 f).1 14 (ρ.1 95) n 0 0 0 0 := hv.cell (fun i hi => up1_n (by omega))
    have FC1 : FC σ (up1 σ 80 f) := FC.up (Or.inr rfl)
    generalize up1 σ 80 f = σ1 at *
    generalize tk_N B L s = t at *
    rw [X8_tellInto_L41, if_pos (lt150 (by omega)), cA_of f1, fI_e, C1.2.2.2.2.1, X12_read_L67, fI_e, hM.2.2.2.2.1]
    by_cases c0 : tk_K B L t = 0
    · obtain ⟨f', g1, g2, g3⟩ := M_read9 (ρ := ρ) (y1 := nI (i + 1)) 105 0 FU (ρ.1 83) rfl (by decide)
      rw [up1_id] at g1
      rw [if_pos c0, if_pos c0]
      refine ⟨nI (i + 1), σ1, up1 ρ 83 f', rfl, g1, FC1, ⟨fun k _ k2 _ _ => up1_n k2, rfl⟩, ⟨t, C1⟩, ⟨t, hM.fr (up1_n (by decide)) (up1_n (by decide))⟩, Or.inr ⟨nI_pos (by omega), n, ?_⟩⟩
      rw [up1_s]
      exact hv1.to ⟨rfl, rfl, rfl, rfl, rfl⟩ (fun _ _ => rfl) (fun _ _ => rfl) (fun _ _ => rfl) (fun _ _ => rfl) (fun _ _ => rfl) (fun _ _ => rfl) (fun _ _ => rfl) (fun _ _ => rfl) (fun _ _ => rfl) (fun _ _ => rfl) (fun k hk => g2 k (by omega) (by omega))
    · rw [if_neg c0, if_neg c0]
      obtain ⟨b, s', σ2, ρ2, e1, e2, e3, C2, FC2, FM2, eF, eT⟩ := S_item (K := X8_tellInto_L41 14 fc) (y2 := nI (i + 1)) (y3 := nI i) hL C1 hM hv1
      rw [e1, cA_of e2]
      have s1 := C2.1
      cases b with
      | false =>
        have M2 := eF rfl
        rw [X8_tellInto_L100, if_pos (show bi false = 0 from rfl), if_pos (show bi false = 0 from rfl), fI_e, fI_e, C2.2.2.1, M2.2.2.1]
        exact ⟨_, σ2, ρ2, rfl, rfl, FC1.tr FC2, FM2.r, ⟨s', C2⟩, ⟨s', M2⟩, Or.inl ⟨ten_neg s' (by omega), FM2.1 83 (by decide) (by decide) (by decide)⟩⟩
      | true =>
        obtain ⟨M2, n', hv2⟩ := eT rfl
        obtain ⟨σ3, g1, C3, F3⟩ := C2.ends hL
        have s2 := C3.1
        have s3 := (tk_Nb (B := B) s1).1
        rw [X8_tellInto_L100, if_neg (by decide), if_neg (by decide), cA_of g1, bi_if, fI_e ρ2 82 17, M2.2.2.2.2.1]
        by_cases c3 : tk_K B L (tk_N B L s') = 3
        · obtain ⟨g, m1, M3⟩ := M2.go hL
          rw [if_pos (decide_eq_true c3), if_pos c3, cA_of m1, nI_1, nI_1]
          obtain ⟨a, σ', ρ', k1, k2, k3⟩ := S_loop hL d (i + 1) fc fm (tk_N B L s') n' σ3 (up1 ρ2 82 g) (by omega) (by omega) (by omega) (by omega) c3 C3 M3 (by rw [up1_n (by decide)]; exact hv2.cell (fun i hi => F3.1 _ (by omega)))
          exact ⟨a, σ', ρ', k1, k2, k3.be ((FC1.tr FC2).tr F3.c) (FM2.tr (FM.up (by omega)))⟩
        · rw [if_neg (fun e => c3 (of_decide_eq_true e)), if_neg c3, fI_e, fI_e, C3.2.2.1, M2.2.2.1]
          exact ⟨_, σ3, ρ2, rfl, rfl, (FC1.tr FC2).tr F3.c, FM2.r, ⟨_, C3⟩, ⟨_, M2⟩, Or.inl ⟨ten_neg _ (by omega), FM2.1 83 (by decide) (by decide) (by decide)⟩⟩
termination_by structural d => d
theorem S_tell {B : Nat → Int32} {L : Nat} (hL : L ≤ 150) (σ ρ : Sta) (h1 : σ.1 80 1 = nI L) (h2 : ρ.1 82 14 = nI L) (hB : ∀ j, j < L → σ.1 81 j = B j) (hB2 : ∀ j, j < L → ρ.1 94 j = B j) : ∃ a σ' ρ', X8_tellInto 14 σ = some (a, σ') ∧ X12_read ρ = some (a, ρ') ∧ Rd B L σ ρ a σ' ρ' := by
  obtain ⟨τ, c1, c2, cy, c4, c5⟩ := C_empty 14 σ
  have FC0 : FC σ τ := ⟨fun k hk => c4 k (by omega), c5⟩
  have t80 : τ.1 80 = σ.1 80 := c4 80 (by omega)
  have t81 : τ.1 81 = σ.1 81 := c4 81 (by omega)
  obtain ⟨f, f1, C1⟩ := C_adv (σ := up1 τ 80 (upd (τ.1 80) 3 0)) (B := B) (e := 0) hL (fun j hj => by rw [up1_n (by decide), t81]; exact hB j hj) (Nat.zero_le _) (by rw [up1_s, updN (by decide), t80]; exact h1) (by rw [up1_s, updS]; rfl)
  have F8a : F8 τ (up1 (up1 τ 80 (upd (τ.1 80) 3 0)) 80 f) := ⟨fun k hk => by rw [up1_n hk, up1_n hk], rfl⟩
  obtain ⟨g, g1, M1⟩ := M_look (ρ := ρ) (B := B) (e := 0) hL hB2 (Nat.zero_le _) h2
  have FM1 : FM ρ (up1 ρ 82 g) := FM.up (Or.inl rfl)
  rw [X8_tellInto, cA_of c1, pI_e, cA_of f1, X12_read, cA_of (show X12_lookAt 0 ρ = _ from g1)]
  generalize up1 (up1 τ 80 (upd (τ.1 80) 3 0)) 80 f = σ1 at *
  generalize up1 ρ 82 g = ρ1 at *
  generalize tk_B B L 0 = t at *
  have t1 := C1.1
  rw [cA_of (C1.w0 hL), cA_of (M1.w0 hL), bi_if, bi_if]
  cases c0 : tk_W wV 6 B L t with
  | false =>
    rw [if_neg (by decide), if_neg (by decide), fI_e, fI_e, C1.2.2.1, M1.2.2.1]
    exact ⟨_, σ1, ρ1, rfl, rfl, FC0.tr F8a.c, FM1.r, ⟨_, C1⟩, ⟨_, M1⟩, Or.inl ⟨ten_neg _ (by omega), FM1.1 83 (by decide) (by decide) (by decide)⟩⟩
  | true =>
    obtain ⟨g', m1, M2⟩ := M1.go hL
    have FM2 : FM ρ (up1 ρ1 82 g') := FM1.tr (FM.up (Or.inl rfl))
    obtain ⟨σ2, k1, C2, F2⟩ := C1.ends hL
    rw [if_pos rfl, if_pos rfl, cA_of m1, cA_of k1, bi_if]
    generalize up1 ρ1 82 g' = ρ2 at *
    generalize tk_N B L t = t2 at *
    have t3 := C2.1
    rw [fI_e ρ2 82 17, M2.2.2.2.2.1]
    by_cases c3 : tk_K B L t2 = 3
    · obtain ⟨g'', m2, M3⟩ := M2.go hL
      have FM3 : FM ρ (up1 ρ2 82 g'') := FM2.tr (FM.up (Or.inl rfl))
      rw [if_pos (decide_eq_true c3), if_pos c3, cA_of m2]
      generalize up1 ρ2 82 g'' = ρ3 at *
      rw [cA_of (M_begin (nav := 105) (kav := 95) (by decide) (by decide) ρ3)]
      have FM4 : FM ρ (up1 ρ3 95 (beg (ρ3.1 95))) := FM3.tr (FM.up (by omega))
      have F14 : ∀ k, k ≠ 80 → σ2.1 k = τ.1 k := fun k hk => (F2.1 k hk).trans (F8a.1 k hk)
      obtain ⟨a, σ', ρ', r1, r2, r3⟩ := S_loop (B := B) hL L 0 FU FU t2 0 σ2 (up1 ρ3 95 (beg (ρ3.1 95))) (by omega) (by omega) (by show _ < 300; omega) (by show _ < 300; omega) c3 C2 (M3.fr (up1_n (by decide)) (up1_n (by decide))) (by
        rw [up1_s]
        refine VR.zero ?_ (beg0 _).1 ?_ (beg0 _).2
        · rw [F14 _ (by decide), F14 _ (by decide), F14 _ (by decide)]; exact c2
        · intro y hy
          rw [F14 _ (by decide), F14 _ (by decide)]
          exact cy y hy)
      exact ⟨a, σ', ρ', r1, r2, r3.be ((FC0.tr F8a.c).tr F2.c) FM4⟩
    · rw [if_neg (fun e => c3 (of_decide_eq_true e)), if_neg c3, fI_e, fI_e, C2.2.2.1, M2.2.2.1]
      exact ⟨_, σ2, ρ2, rfl, rfl, (FC0.tr F8a.c).tr F2.c, FM2.r, ⟨_, C2⟩, ⟨_, M2⟩, Or.inl ⟨ten_neg _ (by omega), FM2.1 83 (by decide) (by decide) (by decide)⟩⟩
theorem P_read {σ : Sta} (h : Inv σ) : Pair X11_read X12_read σ := by
  obtain ⟨L, h1, h2, h3, h4⟩ := h.2.2.2.2
  obtain ⟨a, σ1, _, c1, _, FC1, _, C1, _, _⟩ := S_tell (B := σ.1 94) h1 σ σ h2 h3 h4 (fun _ _ => rfl)
  by_cases c : a < 0
  · have hx : X11_read σ = some (a, σ1) := by rw [X11_read, cA_of c1, if_pos c]
    obtain ⟨a', σ1', ρ', d1, d2, d3, d4, d5, d6, d7⟩ := S_tell (B := σ.1 94) h1 σ σ1 h2 (by rw [FC1.1 82 (by decide)]; exact h3) h4 (fun j _ => by rw [FC1.1 94 (by decide)])
    rw [c1] at d1
    cases d1
    refine ⟨a, σ1, ρ', hx, d2, ?_⟩
    obtain ⟨s, C1⟩ := d5
    obtain ⟨s', M1⟩ := d6
    have e83 : ρ'.1 83 = σ.1 83 := by
      rcases d7 with d7 | d7
      · rw [d7.2]; exact FC1.1 83 (by decide)
      · exact absurd c d7.1
    refine h.x ⟨fun k hk => ?_, d4.2.trans d3.2⟩ ⟨L, h1, ?_, M1.2.1, fun j hj => ?_⟩
    · by_cases e : k = 83
      · rw [e]; exact e83
      · unfold isX at hk
        rw [d4.1 k (by omega) e (by omega) (by omega), d3.1 k (by omega)]
    · rw [d4.1 80 (by decide) (by decide) (by decide) (by decide)]; exact C1.2.1
    · rw [d4.1 81 (by decide) (by decide) (by decide) (by decide), C1.2.2.2.2.2.2 j hj, M1.2.2.2.2.2.2 j hj]
  · obtain ⟨τ, k1, k2, k3, k4⟩ := C_take_1_14 σ1
    have hx : X11_read σ = some (a, τ) := by rw [X11_read, cA_of c1, if_neg c, cA_of k1]
    have FCt : ∀ k, ¬ ((1 ≤ k ∧ k ≤ 26) ∨ k = 80) → τ.1 k = σ.1 k := fun k hk => by rw [k3 k (by omega), FC1.1 k (by omega)]
    obtain ⟨a', σ1', ρ', d1, d2, d3, d4, d5, d6, d7⟩ := S_tell (B := σ.1 94) h1 σ τ h2 (by rw [FCt 82 (by decide)]; exact h3) h4 (fun j _ => by rw [FCt 94 (by decide)])
    rw [c1] at d1
    cases d1
    refine ⟨a, τ, ρ', hx, d2, ?_⟩
    obtain ⟨s, C1⟩ := d5
    obtain ⟨s', M1⟩ := d6
    obtain ⟨n, hv⟩ : ∃ n, VR σ1.1 14 (ρ'.1 83) n 0 0 0 0 := by
      rcases d7 with d7 | d7
      · exact absurd d7.1 c
      · exact d7.2
    have hvn : VR τ.1 1 (ρ'.1 83) n 0 0 0 0 := k2 _ _ n 0 0 0 0 hv (fun _ _ => rfl)
    have q : ∀ k, ¬ ((1 ≤ k ∧ k ≤ 26) ∨ k = 80 ∨ k = 82 ∨ k = 83 ∨ k = 95 ∨ k = 96) → ρ'.1 k = σ.1 k := fun k hk => by rw [d4.1 k (by omega) (by omega) (by omega) (by omega), FCt k (by omega)]
    obtain ⟨i1, i2, i3, i4, i5⟩ := h
    refine ⟨⟨n, 0, 0, 0, 0, hvn.cell (fun i hi => d4.1 _ (by omega) (by omega) (by omega) (by omega))⟩, fun i hi => (i2 i hi).c hi (fun k a b => q k (by omega)) (q 84 (by omega)) (q 85 (by omega)), ?_, ?_, ⟨L, h1, ?_, M1.2.1, fun j hj => ?_⟩⟩
    · intro i hi
      rw [q 0 (by omega), q 86 (by omega)]
      exact i3 i hi
    · rw [d4.2, k4, d3.2]
      exact i4
    · rw [d4.1 80 (by decide) (by decide) (by decide) (by decide), k3 80 (by decide)]; exact C1.2.1
    · rw [d4.1 81 (by decide) (by decide) (by decide) (by decide), k3 81 (by decide), C1.2.2.2.2.2.2 j hj, M1.2.2.2.2.2.2 j hj]
end
section
/-! PURE HALF 22: the law -/
def Ok1 (o : Option (Int32 × Sta)) : Prop := ∃ s9, o = some (1, s9)
theorem st1 {f g : Sta → Option (Int32 × Sta)} {σ : Sta} {K : Sta → Option (Int32 × Sta)} (h : Pair f g σ) (hK : ∀ τ, Inv τ → Ok1 (K τ)) : Ok1 (cA (f σ) (fun q s => cA (g s) (fun q' s' => if q = q' then K s' else some (0, s')))) := by
  obtain ⟨a, τ, τ', h1, h2, h3⟩ := h
  rw [cA_of h1, cA_of h2, if_pos rfl]
  exact hK τ' h3
theorem st2 {f g : Sta → Option (Int64 × Sta)} {σ : Sta} {K : Sta → Option (Int32 × Sta)} (h : Pair f g σ) (hK : ∀ τ, Inv τ → Ok1 (K τ)) : Ok1 (cA (f σ) (fun q s => cA (g s) (fun q' s' => if (lg_cmp q q') = 0 then K s' else some (0, s')))) := by
  obtain ⟨a, τ, τ', h1, h2, h3⟩ := h
  rw [cA_of h1, cA_of h2, if_pos ((lg_cmp_eq a a).mpr rfl)]
  exact hK τ' h3
theorem tsw_c {x k : Int32} {o : Option (Int32 × Sta)} {r : List (Int32 × Option (Int32 × Sta))} {d : Option (Int32 × Sta)} (h1 : Ok1 o) (h2 : Ok1 (tsw' x r d)) : Ok1 (tsw' x ((k, o) :: r) d) := by
  rw [tsw']
  by_cases c : x = k
  · rw [if_pos c]; exact h1
  · rw [if_neg c]; exact h2
theorem tsw_n {x : Int32} {d : Option (Int32 × Sta)} (h : Ok1 d) : Ok1 (tsw' x [] d) := h
theorem law_end {L i : Nat} (hL : L ≤ 2560) (hi : i < 5000) : (Int32.ofNat L - (5 : Int32) < nI i) ↔ L < i + 5 := by
  have h5 : (5 : Int32) = nI 5 := rfl
  rw [show Int32.ofNat L = nI L from rfl]
  by_cases c : 5 ≤ L
  · rw [h5, pk_sub c, ilt, nIt (by omega), nIt (by omega)]
    omega
  · have e : ∀ L, L < 5 → (nI L - 5).toInt = (L : Int) - 5 := by decide +kernel
    rw [ilt, e L (by omega), nIt (by omega)]
    omega
theorem aX_n {β : Type} {xs : Nat → Int32} {L j : Nat} (hL : L ≤ 2560) (h : j < L) (K : Int32 → Option β) : aX xs L (nI j) K = K (xs j) := by
  rw [aX, if_neg (vp_in_nI h (by omega)), nI_clamp (by omega)]
set_option maxRecDepth 8000 in
set_option maxHeartbeats 4000000 in
theorem law_loop (xs : Nat → Int32) {L : Nat} (hL : L ≤ 2560) : ∀ (d i fu : Nat) (σ : Sta), L ≤ i + 5 * d → i < 5000 → d < fu → Inv σ → Ok1 (L_law_L18 xs L fu (nI i) σ)
  | d, i, 0, σ, _, _, h, _ => by omega
  | d, i, fu + 1, σ, hd, hi, hf, h => by
    rw [L_law_L18]
    by_cases c : L < i + 5
    · rw [if_pos ((law_end hL hi).mpr c)]
      exact ⟨σ, rfl⟩
    · rw [if_neg (fun e => c ((law_end hL hi).mp e))]
      obtain ⟨d', rfl⟩ : ∃ k, d = k + 1 := ⟨d - 1, by omega⟩
      have ih : ∀ τ, Inv τ → Ok1 (L_law_L18 xs L fu (nI i + 5) τ) := fun τ hτ => by
        rw [show nI i + 5 = nI (i + 5) from nI_add i 5]
        exact law_loop xs hL d' (i + 5) fu τ (by omega) (by omega) (by omega) hτ
      have a1 : ∀ K : Int32 → Option (Int32 × Sta), aX xs L (nI i + 1) K = K (xs (i + 1)) := fun K => by
        rw [show nI i + 1 = nI (i + 1) from nI_add i 1]; exact aX_n hL (by omega) K
      have a2 : ∀ K : Int32 → Option (Int32 × Sta), aX xs L (nI i + 2) K = K (xs (i + 2)) := fun K => by
        rw [show nI i + 2 = nI (i + 2) from nI_add i 2]; exact aX_n hL (by omega) K
      have a3 : ∀ K : Int32 → Option (Int32 × Sta), aX xs L (nI i + 3) K = K (xs (i + 3)) := fun K => by
        rw [show nI i + 3 = nI (i + 3) from nI_add i 3]; exact aX_n hL (by omega) K
      have a4 : ∀ K : Int32 → Option (Int32 × Sta), aX xs L (nI i + 4) K = K (xs (i + 4)) := fun K => by
        rw [show nI i + 4 = nI (i + 4) from nI_add i 4]; exact aX_n hL (by omega) K
      rw [aX_n hL (show i < L by omega)]
      simp only [a1, a2, a3, a4]
      refine tsw_c (st1 (K := L_law_L18 xs L fu (nI i + 5)) (P_valley h) ih) ?_
      refine tsw_c (st1 (K := L_law_L18 xs L fu (nI i + 5)) (P_prize h _ _ _) ih) ?_
      refine tsw_c (st1 (K := L_law_L18 xs L fu (nI i + 5)) (P_one h _ _ _ _) ih) ?_
      refine tsw_c (st1 (K := L_law_L18 xs L fu (nI i + 5)) (P_type h _) ih) ?_
      refine tsw_c (st1 (K := L_law_L18 xs L fu (nI i + 5)) (P_clear h) ih) ?_
      refine tsw_c (st1 (K := L_law_L18 xs L fu (nI i + 5)) (P_read h) ih) ?_
      refine tsw_c (st1 (K := L_law_L18 xs L fu (nI i + 5)) (P_year h) ih) ?_
      refine tsw_c (st1 (K := L_law_L18 xs L fu (nI i + 5)) (P_undo h) ih) ?_
      refine tsw_c (st1 (K := L_law_L18 xs L fu (nI i + 5)) (P_of h _ _) ih) ?_
      refine tsw_c (st1 (K := L_law_L18 xs L fu (nI i + 5)) (P_about h _ _) ih) ?_
      refine tsw_c (st1 (K := L_law_L18 xs L fu (nI i + 5)) (P_good h _ _ _) ih) ?_
      refine tsw_c (st1 (K := L_law_L18 xs L fu (nI i + 5)) (P_enter h _) ih) ?_
      refine tsw_c (st1 (K := L_law_L18 xs L fu (nI i + 5)) (P_winner h _ _) ih) ?_
      refine tsw_c (st1 (K := L_law_L18 xs L fu (nI i + 5)) (P_end h _ _) ih) ?_
      refine tsw_c (st1 (K := L_law_L18 xs L fu (nI i + 5)) (P_left h) ih) ?_
      refine tsw_c (st1 (K := L_law_L18 xs L fu (nI i + 5)) (P_best h _ _) ih) ?_
      refine tsw_c (st1 (K := L_law_L18 xs L fu (nI i + 5)) (P_rivals h _ _ _) ih) ?_
      refine tsw_c (st1 (K := L_law_L18 xs L fu (nI i + 5)) (P_handicap h _) ih) ?_
      refine tsw_c (st1 (K := L_law_L18 xs L fu (nI i + 5)) (P_order h _) ih) ?_
      refine tsw_c (st1 (K := L_law_L18 xs L fu (nI i + 5)) (P_note h _ _ _ _) ih) ?_
      refine tsw_c (st1 (K := L_law_L18 xs L fu (nI i + 5)) (P_beaten h _ _ _ _) ih) ?_
      refine tsw_c (st1 (K := L_law_L18 xs L fu (nI i + 5)) (P_forget h _) ih) ?_
      refine tsw_c (st1 (K := L_law_L18 xs L fu (nI i + 5)) (P_is h _) ih) ?_
      refine tsw_c (st1 (K := L_law_L18 xs L fu (nI i + 5)) (P_offer h _) ih) ?_
      refine tsw_c (st1 (K := L_law_L18 xs L fu (nI i + 5)) (P_may h _ _) ih) ?_
      refine tsw_c (st1 (K := L_law_L18 xs L fu (nI i + 5)) (P_clash h) ih) ?_
      refine tsw_c (st1 (K := L_law_L18 xs L fu (nI i + 5)) (P_odds h _ _) ih) ?_
      refine tsw_c (st1 (K := L_law_L18 xs L fu (nI i + 5)) (P_valleys h _ _) ih) ?_
      refine tsw_c (st2 (K := L_law_L18 xs L fu (nI i + 5)) (P_part h _) ih) ?_
      refine tsw_c (st1 (K := L_law_L18 xs L fu (nI i + 5)) (P_image h _) ih) ?_
      refine tsw_c (st1 (K := L_law_L18 xs L fu (nI i + 5)) (P_from h _) ih) ?_
      refine tsw_c (st1 (K := L_law_L18 xs L fu (nI i + 5)) (P_status h _) ih) ?_
      refine tsw_c (st1 (K := L_law_L18 xs L fu (nI i + 5)) (P_count h _) ih) ?_
      refine tsw_c (st2 (K := L_law_L18 xs L fu (nI i + 5)) (P_digest h) ih) ?_
      exact tsw_n (ih σ h)
termination_by structural _ _ fu => fu
theorem Inv_start {sV sC : Sta} {f : Nat → Int32} (c2 : sV.1 0 10 = 0 ∧ sV.1 0 11 = 0 ∧ sV.1 0 12 = 0 ∧ sV.1 (0 + 9) 1 = 0 ∧ sV.1 (0 + 11) 1 = 0) (c3 : ∀ y, y < 8 → sV.1 (0 + 1) y = -1 ∧ sV.1 (0 + 2) y = 0) : Inv (iSt sV sC (up1 mst 1 (beg f))) := by
  have e : ∀ i, i < 13 → (iSt sV sC (up1 mst 1 (beg f))).1 (1 + i) = sV.1 (0 + i) := fun i hi => by
    show (if 1 + i = 0 then _ else if 1 + i < 14 then sV.1 (1 + i - 1) else _) = _
    rw [if_neg (by omega), if_pos (by omega), show 1 + i - 1 = 0 + i by omega]
  have e0 : (iSt sV sC (up1 mst 1 (beg f))).1 1 = sV.1 0 := e 0 (by decide)
  have e83 : (iSt sV sC (up1 mst 1 (beg f))).1 83 = beg f := by
    have q : (iSt sV sC (up1 mst 1 (beg f))).1 83 = (up1 mst 1 (beg f)).1 1 := by simp [iSt]
    rw [q, up1_s]
  have z : ∀ k, k = 0 ∨ k = 28 ∨ k = 80 ∨ k = 82 ∨ k = 85 ∨ k = 86 → ∀ j, (iSt sV sC (up1 mst 1 (beg f))).1 k j = 0 := fun k hk j => by
    rcases hk with rfl | rfl | rfl | rfl | rfl | rfl
    · simp [iSt]
    · simp [iSt]
    · simp [iSt]
    · have q : (iSt sV sC (up1 mst 1 (beg f))).1 82 = (up1 mst 1 (beg f)).1 0 := by simp [iSt]
      rw [q, up1_n (by decide)]; rfl
    · have q : (iSt sV sC (up1 mst 1 (beg f))).1 85 = (up1 mst 1 (beg f)).1 3 := by simp [iSt]
      rw [q, up1_n (by decide)]; rfl
    · have q : (iSt sV sC (up1 mst 1 (beg f))).1 86 = (up1 mst 1 (beg f)).1 4 := by simp [iSt]
      rw [q, up1_n (by decide)]; rfl
  have l1 : ∀ j, (iSt sV sC (up1 mst 1 (beg f))).2 0 j = if j = 8 then 1 else 0 := fun j => by simp [iSt]
  have l2 : ∀ j, (iSt sV sC (up1 mst 1 (beg f))).2 82 j = if 0 = 0 ∧ j = 5 then 1 else 0 := fun j => by
    have q : (iSt sV sC (up1 mst 1 (beg f))).2 82 = (up1 mst 1 (beg f)).2 0 := by simp [iSt]
    rw [q]; rfl
  generalize iSt sV sC (up1 mst 1 (beg f)) = σ at *
  refine ⟨⟨0, 0, 0, 0, 0, ?_⟩, fun i hi => Or.inl ⟨z 28 (by omega) i, z 85 (by omega) i⟩, fun i hi => ?_, ⟨?_, ?_⟩, ⟨0, by omega, z 80 (by omega) 1, z 82 (by omega) 14, fun j hj => by omega⟩⟩
  · rw [e83]
    refine VR.zero ?_ (beg0 f).1 (fun y hy => ?_) (beg0 f).2
    · rw [e0, e 9 (by decide), e 11 (by decide)]; exact c2
    · rw [e 1 (by decide), e 2 (by decide)]; exact c3 y hy
  · rw [z 0 (by omega), z 86 (by omega)]
  · rw [l1, l2]; rfl
  · rw [l1, l2]; rfl
theorem pure_law (xs : Nat → Int32) (L : Nat) (hL : L ≤ 2560) : ∃ sV sC sM s9 : Sta, X10_empty 0 zst = some ((), sV) ∧ X0_allByKind 0 zst = some ((), sC) ∧ X12_begin 209 1 mst = some ((), sM) ∧ L_law_L18 xs L FL 0 (iSt sV sC sM) = some (1, s9) := by
  obtain ⟨sV, c1, c2, c3, c4, c5⟩ := C_empty 0 zst
  obtain ⟨s9, h9⟩ := law_loop xs hL 512 0 FL (iSt sV (up1 zst (0 + 2) (fun j => if j < 6 then -1 else zst.1 (0 + 2) j)) (up1 mst 1 (beg (mst.1 1)))) (by omega) (by omega) (by decide) (Inv_start c2 c3)
  exact ⟨sV, _, _, s9, c1, allByKind_e 0 zst, M_begin (by decide) (by decide) mst, h9⟩
end
