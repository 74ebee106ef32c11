/-! THE CLAIM OUT OF ONE WALK OF THE LAW'S BODY. Your part is whole_start (and what it stands on); all else here is the same for every law, but numbers. -/
def R_law : String := "NobodyTwiceLaw"
def lw_P (b : Addr) (xs : List Int32) (args : Array Value) (s : State) : Prop := args = #[.ref b] ∧ s.IntsAt b xs ∧ xs.length ≤ 2560 ∧ (Jvm.Cond.and given_1 narrow_1).before args s = true
def lw_Q (_ : Array Value) (s : State) (o : Outcome) (t : State) : Prop := o = .returned (some (.int 1)) ∧ Framed s o t [] 600000 7302250
def lw_Z (below : List Frame) (a : Array Value) (s : State) : State → Prop := fun t => ∃ o, t.status = .running ∧ Ended t below o ∧ lw_Q a s o t
/-- the law's own end, with 1 on the stack, nothing written that was there before, its room as the claim has it -/
theorem lw_ret {p : Program} {l : Launch} {e : Env} {s : State} {m : MethodId} {below : List Frame} {meth : Method} {c : Code} {b : Nat} (hx : p.tables.exec = Jvm.exec) (hb : c.code = code) (hr : meth.sig.returnType = ret) (hlocks : meth.locks = false) {pc : Nat} {H : Heap} {ls : Array Slot} (hdg : decode code pc = .ok (.ireturn, 1)) : W p l e room_1 s m #[Value.ref b] below meth c H [] 600000 7302250 (lw_Z below #[Value.ref b] s) (F0 m pc ls [.int 1]) := by
  intro T hT X
  obtain ⟨fs, hret, hrun, hended, hW, hframe⟩ := X.leave (v := some (.int 1)) (hlocks := hlocks) (fun h => by rw [hr] at h; cases h)
  have hmeth' : T.vm.method? m = some meth := X.method'
  refine ⟨T.setFrames fs, ?_, .returned (some (.int 1)), hrun, hended, rfl, ⟨_, rfl⟩, hW, hframe⟩
  jvm_step X.here [X.here.top, hx, hb, hdg, hmeth', hr, ret, narrow_b1]
  (try refine ⟨rfl, ?_⟩); (try refine ⟨rfl, ?_⟩)
  first | (intro acts; rw [hret _ acts rfl rfl rfl]) | rw [hret _ _ rfl rfl rfl]
  exact Steps.refl _
/-- what holds at the law's entry: the machine, the code, the tables' words (any of lw_tbl by 'hts w (by decide +kernel)'), the script of L ints xs at the cell b, what the Statement gives of the start (any of its parts by flat_of_before) -/
def lw_At (p : Program) (s : State) (m : MethodId) (meth : Method) (c : Code) (b L : Nat) (xs : Nat → Int32) : Prop :=
  p.tables.exec = Jvm.exec ∧ c.code = code ∧ meth.sig.returnType = ret ∧ c.maxLocals = 4 ∧ s.vm.findClass R_law = some m.cls ∧ (∀ w ∈ lw_tbl, w.before #[Value.ref b] s = true) ∧ va_X b L xs s s.heap ∧ b < s.heap.size ∧ meth.locks = false ∧ (Jvm.Cond.and given_1 narrow_1).before #[Value.ref b] s = true
/-- the ninety-seven cells: the class' object and all that hangs on it, the reference and its rows -/
def oSh (G : Gco) (b : Nat) : Shp := fun k f g =>
  if k = 0 then .inr (11, [.ref (b + 1), .ref (b + 14), .ref (b + 27), .ref (b + 28), .ref (b + 55), .ref (b + 64), .ref (b + 80), .long (g 7), .long (g 8), .int (f 9), .int (f 10), .int (f 11)])
  else if k < 14 then vSh G (b + 1) (k - 1) f g
  else if k < 27 then vSh G (b + 14) (k - 14) f g
  else if k = 27 then .inl (gY G, 2, .inr (.inr (.inr (.inr (fun j => some (b + (29 + 13 * j)))))))
  else if k = 28 then .inl (gZ G, 2, .inl f)
  else if k < 42 then vSh G (b + 29) (k - 29) f g
  else if k < 55 then vSh G (b + 42) (k - 42) f g
  else if k = 56 then .inl (gP G, 6, .inr (.inr (.inr (.inr (fun j => some (b + (55 + 3 + 1 * j)))))))
  else if k < 64 then cSh G (b + 55) (k - 55) f g
  else if k = 64 then .inr (2, [.ref (b + 55), .ref (b + 65), .ref (b + 78), .ref (b + 79)])
  else if k < 78 then vSh G (b + 65) (k - 65) f g
  else if k < 80 then .inl (gI G, 64, .inl f)
  else if k = 80 then .inr (8, [.ref (b + 81), .int (f 1), .int (f 2), .int (f 3), .int (f 4), .int (f 5)])
  else if k = 81 then .inl (gI G, 150, .inl f)
  else mSh G (b + 82) (k - 82) f g
/-- what both constructors leave -/
def iSt (sV sC sM : Sta) : Sta := (fun k => if k = 0 then (fun _ => 0) else if k < 14 then sV.1 (k - 1) else if k < 27 then sV.1 (k - 14) else if k < 29 then (fun _ => 0) else if k < 42 then sV.1 (k - 29) else if k < 55 then sV.1 (k - 42) else if k < 64 then sC.1 (k - 55) else if k = 64 then (fun _ => 0) else if k < 78 then sV.1 (k - 65) else if k < 82 then (fun _ => 0) else sM.1 (k - 82), fun k => if k < 82 then (fun i => if i = 8 then 1 else 0) else sM.2 (k - 82))
def FL : Nat := 600
theorem isV_at {G : Gco} {b N r : Nat} {S : Shp} (hN : r + 13 ≤ N) (h : ∀ j f g, j < 13 → S (r + j) f g = vSh G (b + r) j f g) : isV (gW G b S N) r := by
  have hw : ∀ j, j < 13 → r + j < wnn (gW G b S N) := fun j hj => show r + j < N by omega
  have hi : ∀ j n, j < 13 → (∀ f g, vSh G (b + r) j f g = .inl (gI G, n, .inl f)) → isI (gW G b S N) (r + j) n := fun j n h1 h2 => ⟨hw j h1, gI G, rfl, fun f g => (h j f g h1).trans (h2 f g)⟩
  exact ⟨⟨hw 0 (by decide), fun f g => h 0 f g (by decide)⟩, hi 1 8 (by decide) (fun _ _ => rfl), hi 2 8 (by decide) (fun _ _ => rfl), hi 3 6 (by decide) (fun _ _ => rfl), hi 4 18 (by decide) (fun _ _ => rfl), hi 5 6 (by decide) (fun _ _ => rfl), hi 6 6 (by decide) (fun _ _ => rfl), hi 7 8 (by decide) (fun _ _ => rfl), hi 8 8 (by decide) (fun _ _ => rfl), ⟨⟨hw 9 (by decide), fun f g => h 9 f g (by decide)⟩, hi 10 24 (by decide) (fun _ _ => rfl)⟩, ⟨hw 11 (by decide), fun f g => h 11 f g (by decide)⟩, hi 12 24 (by decide) (fun _ _ => rfl)⟩
theorem j13 {P : Nat → Prop} (h0 : P 0) (h1 : P 1) (h2 : P 2) (h3 : P 3) (h4 : P 4) (h5 : P 5) (h6 : P 6) (h7 : P 7) (h8 : P 8) (h9 : P 9) (h10 : P 10) (h11 : P 11) (h12 : P 12) (j : Nat) (hj : j < 13) : P j := by
  rcases (show j = 0 ∨ j = 1 ∨ j = 2 ∨ j = 3 ∨ j = 4 ∨ j = 5 ∨ j = 6 ∨ j = 7 ∨ j = 8 ∨ j = 9 ∨ j = 10 ∨ j = 11 ∨ j = 12 by omega) with rfl | rfl | rfl | rfl | rfl | rfl | rfl | rfl | rfl | rfl | rfl | rfl | rfl <;> assumption
theorem oSh_1 (G : Gco) (b j : Nat) (f : Nat → Int32) (g : Nat → Int64) (hj : j < 13) : oSh G b (1 + j) f g = vSh G (b + 1) j f g := j13 (P := fun j => oSh G b (1 + j) f g = vSh G (b + 1) j f g) rfl rfl rfl rfl rfl rfl rfl rfl rfl rfl rfl rfl rfl j hj
theorem oSh_14 (G : Gco) (b j : Nat) (f : Nat → Int32) (g : Nat → Int64) (hj : j < 13) : oSh G b (14 + j) f g = vSh G (b + 14) j f g := j13 (P := fun j => oSh G b (14 + j) f g = vSh G (b + 14) j f g) rfl rfl rfl rfl rfl rfl rfl rfl rfl rfl rfl rfl rfl j hj
theorem oSh_29 (G : Gco) (b j : Nat) (f : Nat → Int32) (g : Nat → Int64) (hj : j < 13) : oSh G b (29 + j) f g = vSh G (b + 29) j f g := j13 (P := fun j => oSh G b (29 + j) f g = vSh G (b + 29) j f g) rfl rfl rfl rfl rfl rfl rfl rfl rfl rfl rfl rfl rfl j hj
theorem oSh_42 (G : Gco) (b j : Nat) (f : Nat → Int32) (g : Nat → Int64) (hj : j < 13) : oSh G b (42 + j) f g = vSh G (b + 42) j f g := j13 (P := fun j => oSh G b (42 + j) f g = vSh G (b + 42) j f g) rfl rfl rfl rfl rfl rfl rfl rfl rfl rfl rfl rfl rfl j hj
theorem oSh_65 (G : Gco) (b j : Nat) (f : Nat → Int32) (g : Nat → Int64) (hj : j < 13) : oSh G b (65 + j) f g = vSh G (b + 65) j f g := j13 (P := fun j => oSh G b (65 + j) f g = vSh G (b + 65) j f g) rfl rfl rfl rfl rfl rfl rfl rfl rfl rfl rfl rfl rfl j hj
set_option maxRecDepth 100000 in
theorem GW_o (G : Gco) (b : Nat) : GW (gW G b (oSh G b) 97) := by
  have hw : ∀ k, k < 97 → k < wnn (gW G b (oSh G b) 97) := fun k h => h
  have hi : ∀ k n, k < 97 → (∀ f g, oSh G b k f g = .inl (gI G, n, .inl f)) → isI (gW G b (oSh G b) 97) k n := fun k n h1 h2 => ⟨h1, gI G, rfl, h2⟩
  exact ⟨⟨hw 0 (by decide), fun _ _ => rfl⟩, isV_at (by decide) (fun j f g h => oSh_1 G b j f g h), isV_at (by decide) (fun j f g h => oSh_14 G b j f g h), ⟨hw 27 (by decide), gY G, rfl, fun _ _ => rfl⟩, ⟨hw 28 (by decide), gZ G, rfl, fun _ _ => rfl⟩, isV_at (by decide) (fun j f g h => oSh_29 G b j f g h), isV_at (by decide) (fun j f g h => oSh_42 G b j f g h), ⟨⟨⟨hw 55 (by decide), fun _ _ => rfl⟩, hi 57 6 (by decide) (fun _ _ => rfl)⟩, ⟨hw 56 (by decide), gP G, rfl, fun _ _ => rfl⟩, ⟨hw 58 (by decide), fun _ _ => rfl⟩, ⟨hw 59 (by decide), fun _ _ => rfl⟩, ⟨hw 60 (by decide), fun _ _ => rfl⟩, ⟨hw 61 (by decide), fun _ _ => rfl⟩, ⟨hw 62 (by decide), fun _ _ => rfl⟩, ⟨hw 63 (by decide), fun _ _ => rfl⟩⟩, ⟨hw 64 (by decide), fun _ _ => rfl⟩, isV_at (by decide) (fun j f g h => oSh_65 G b j f g h), hi 78 64 (by decide) (fun _ _ => rfl), hi 79 64 (by decide) (fun _ _ => rfl), ⟨hw 80 (by decide), fun _ _ => rfl⟩, hi 81 150 (by decide) (fun _ _ => rfl), ⟨hw 82 (by decide), fun _ _ => rfl⟩, hi 83 209 (by decide) (fun _ _ => rfl), hi 84 418 (by decide) (fun _ _ => rfl), ⟨hw 85 (by decide), gZ G, rfl, fun _ _ => rfl⟩, hi 86 3 (by decide) (fun _ _ => rfl), hi 87 6 (by decide) (fun _ _ => rfl), hi 88 6 (by decide) (fun _ _ => rfl), hi 89 8 (by decide) (fun _ _ => rfl), hi 90 8 (by decide) (fun _ _ => rfl), hi 91 6 (by decide) (fun _ _ => rfl), hi 92 64 (by decide) (fun _ _ => rfl), hi 93 64 (by decide) (fun _ _ => rfl), hi 94 150 (by decide) (fun _ _ => rfl), hi 95 105 (by decide) (fun _ _ => rfl), hi 96 4 (by decide) (fun _ _ => rfl)⟩
/-- every word of a list, by its places -/
theorem in_tbl {ws : List Cond} (ps : List Nat) (h : ws = ps.filterMap (fun i => lw_tbl[i]?)) : ∀ w ∈ ws, w ∈ lw_tbl := by
  intro w hw
  rw [h] at hw
  obtain ⟨i, -, hi⟩ := List.mem_filterMap.mp hw
  exact List.mem_of_getElem? hi
theorem nF_in : ∀ w ∈ nwF.map (fun q => Cond.fieldLinkNest q.1 q.2.1 q.2.2.1 q.2.2.2.1 q.2.2.2.2.1 q.2.2.2.2.2), w ∈ lw_tbl := in_tbl [94, 95, 96, 111, 112, 113, 115, 116, 117, 119, 120, 122, 123, 125, 126, 127, 129, 133, 135, 136, 137, 139, 140, 141, 143, 144, 145, 147, 234, 235, 237, 238, 240, 262, 282] (by decide +kernel)
theorem nM_in : ∀ w ∈ nwM.map (fun q => Cond.methodLinkNest q.1 q.2.1 q.2.2.1 q.2.2.2), w ∈ lw_tbl := in_tbl [88, 185, 193, 196, 200, 203, 207, 210, 214, 217, 221, 224, 276, 473, 515, 581] (by decide +kernel)
theorem ca_in : ∀ w ∈ castL.map (fun q => Cond.castable q "NobodyTwice$Plain"), w ∈ lw_tbl := in_tbl [1252, 1253, 1254, 1255, 1256] (by decide +kernel)
def txT : List Nat := [30, 46, 52]
set_option maxHeartbeats 8000000 in
set_option maxRecDepth 100000 in
/-- what holds at the start, in the words of the constructors -/
theorem start_KG {p : Program} {s : State} {m : MethodId} {meth : Method} {c : Code} {b L : Nat} {xs : Nat → Int32} (C0 : lw_At p s m meth c b L xs) : ∃ G : Gco, KG G (fun q => s.heap.size ≤ q) s s.heap := by
  obtain ⟨hx, hb, hr, hml, hown, hts, hX, hbl, hlocks, hgv⟩ := id C0
  have hg : ∀ w ∈ GT, w.before #[Value.ref b] s = true := fun w h => hts w (List.mem_filter.mp h).1
  have hs := flat_of_before _ hgv
  have hA : ∀ a : Nat, a < s.heap.size → ¬ (fun q => s.heap.size ≤ q) a := fun a h => Nat.not_le.mpr h
  obtain ⟨c0, i0, hK0⟩ := u_known (C := RX0) (T := TX0) (N := 5) (n := 5) hts (fun w h => (List.mem_filter.mp (gX0 w h)).1) (hg _ kw_177)
  obtain ⟨c1, i1, hK1⟩ := u_known (C := RX1) (T := TX1) (N := 0) (n := 0) hts (fun w h => (List.mem_filter.mp (gX1 w h)).1) (hg _ kw_213)
  obtain ⟨c2, i2, hK2⟩ := u_known (C := RX2) (T := TX2) (N := 4) (n := 4) hts (fun w h => (List.mem_filter.mp (gX2 w h)).1) (hg _ kw_253)
  obtain ⟨c3, i3, hK3⟩ := u_known (C := RX3) (T := TX3) (N := 0) (n := 0) hts (fun w h => (List.mem_filter.mp (gX3 w h)).1) (hg _ kw_199)
  obtain ⟨c4, i4, hK4⟩ := u_known (C := RX4) (T := TX4) (N := 0) (n := 0) hts (fun w h => (List.mem_filter.mp (gX4 w h)).1) (hg _ kw_220)
  obtain ⟨c5, i5, hK5⟩ := u_known (C := RX5) (T := TX5) (N := 0) (n := 0) hts (fun w h => (List.mem_filter.mp (gX5 w h)).1) (hg _ kw_184)
  obtain ⟨c6, i6, hK6⟩ := u_known (C := RX6) (T := TX6) (N := 0) (n := 0) hts (fun w h => (List.mem_filter.mp (gX6 w h)).1) (hg _ kw_206)
  obtain ⟨c7, i7, hK7⟩ := u_known (C := RX7) (T := TX7) (N := 0) (n := 0) hts (fun w h => (List.mem_filter.mp (gX7 w h)).1) (hg _ kw_192)
  obtain ⟨c8, i8, hK8⟩ := u_known (C := RX8) (T := TX8) (N := 6) (n := 6) hts (fun w h => (List.mem_filter.mp (gX8 w h)).1) (hg _ kw_275)
  obtain ⟨c9, i9, hK9⟩ := u_known (C := RX9) (T := TX9) (N := 2) (n := 2) hts (fun w h => (List.mem_filter.mp (gX9 w h)).1) (hg _ kw_87)
  obtain ⟨c10, i10, hK10⟩ := u_known (C := RX10) (T := TX10) (N := 13) (n := 13) hts (fun w h => (List.mem_filter.mp (gX10 w h)).1) (hg _ kw_81)
  obtain ⟨c11, i11, hK11⟩ := u_known (C := RX11) (T := TX11) (N := 12) (n := 12) hts (fun w h => (List.mem_filter.mp (gX11 w h)).1) (hg _ kw_73)
  obtain ⟨c12, i12, hK12⟩ := u_known (C := RX12) (T := TX12) (N := 21) (n := 21) hts (fun w h => (List.mem_filter.mp (gX12 w h)).1) (hg _ kw_856)
  obtain ⟨cI, kI, coI, hI1, hI2, hI3⟩ := Cond.arrayClass_spec (hg _ kw_102)
  obtain ⟨cZ, kZ, coZ, hZ1, hZ2, hZ3⟩ := Cond.arrayClass_spec (hg _ kw_190)
  have hAP : (Cond.arrayOver (.object "NobodyTwice$Plain")).before #[Value.ref b] s = true := (hts _ (List.mem_of_getElem? (i := 183) (by decide +kernel)))
  have hAV : (Cond.arrayOver (.object "NobodyTwice$Valley")).before #[Value.ref b] s = true := (hts _ (List.mem_of_getElem? (i := 175) (by decide +kernel)))
  obtain ⟨coP, cP, kP, hP1, hP2, hP3, hP4, hP5⟩ := Cond.arrayOver_spec (va_AO.of hAP)
  obtain ⟨coV, cV, kV, hV1, hV2, hV3, hV4, hV5⟩ := Cond.arrayOver_spec (va_AO.of hAV)
  obtain ⟨adK, adV, hS3, hE3⟩ := vk_Sof (args := #[Value.ref b]) (s := s) (N := 3) (tm := fun i => Term.string "NobodyTwice$Script" (txT.getD i 0)) (len := txL) (byt := txB) (A := fun q => s.heap.size ≤ q) (fun i hi => by rcases (show i = 0 ∨ i = 1 ∨ i = 2 by omega) with rfl | rfl | rfl <;> decide)
    (fun i hi => by rcases (show i = 0 ∨ i = 1 ∨ i = 2 by omega) with rfl | rfl | rfl <;> exact hs _ (by decide +kernel))
    (fun i hi => by rcases (show i = 0 ∨ i = 1 ∨ i = 2 by omega) with rfl | rfl | rfl <;> exact hs _ (by decide +kernel))
    (fun i hi => by rcases (show i = 0 ∨ i = 1 ∨ i = 2 by omega) with rfl | rfl | rfl <;> exact hs _ (by decide +kernel))
    (fun i hi => by rcases (show i = 0 ∨ i = 1 ∨ i = 2 by omega) with rfl | rfl | rfl <;> exact hs _ (by decide +kernel))
    (fun i hi j hj => by
      rcases (show i = 0 ∨ i = 1 ∨ i = 2 by omega) with rfl | rfl | rfl
      · have hj6 : j < 6 := hj
        rcases (show j = 0 ∨ j = 1 ∨ j = 2 ∨ j = 3 ∨ j = 4 ∨ j = 5 by omega) with rfl | rfl | rfl | rfl | rfl | rfl <;> exact hs _ (by decide +kernel)
      · have hj5 : j < 5 := hj
        rcases (show j = 0 ∨ j = 1 ∨ j = 2 ∨ j = 3 ∨ j = 4 by omega) with rfl | rfl | rfl | rfl | rfl <;> exact hs _ (by decide +kernel)
      · have hj3 : j < 3 := hj
        rcases (show j = 0 ∨ j = 1 ∨ j = 2 by omega) with rfl | rfl | rfl <;> exact hs _ (by decide +kernel))
    (fun i j hi hj hij => by
      rcases (show i = 0 ∨ i = 1 ∨ i = 2 by omega) with rfl | rfl | rfl <;> rcases (show j = 0 ∨ j = 1 ∨ j = 2 by omega) with rfl | rfl | rfl <;> first | exact absurd rfl hij | exact Or.inl (hs _ (by decide +kernel)) | exact Or.inr (hs _ (by decide +kernel)))
    hA
  refine ⟨((fun k => [c0, c1, c2, c3, c4, c5, c6, c7, c8, c9, c10, c11, c12].getD k c0, fun k => [i0, i1, i2, i3, i4, i5, i6, i7, i8, i9, i10, i11, i12].getD k i0), cI, cZ, cP, cV, adK, adV), ⟨?_, ?_⟩, ⟨?_, ?_⟩, ⟨hS3, ?_, ?_⟩, ⟨?_, ?_, ?_⟩, va_AO.of hAP, va_AO.of hAV, ?_⟩
  · intro k q hq
    match k, hq with
    | 0, hq => cases hq; exact hK0
    | 1, hq => cases hq; exact hK1
    | 2, hq => cases hq; exact hK2
    | 3, hq => cases hq; exact hK3
    | 4, hq => cases hq; exact hK4
    | 5, hq => cases hq; exact hK5
    | 6, hq => cases hq; exact hK6
    | 7, hq => cases hq; exact hK7
    | 8, hq => cases hq; exact hK8
    | 9, hq => cases hq; exact hK9
    | 10, hq => cases hq; exact hK10
    | 11, hq => cases hq; exact hK11
    | 12, hq => cases hq; exact hK12
    | k + 13, hq => simp [cls] at hq
  · intro k q hq
    match k, hq with
    | 0, hq => cases hq; exact ⟨fun N z => ⟨fun k h => (by cases h), kI, hI2, coI, hI3⟩, hI1⟩
    | 1, hq => cases hq; exact ⟨fun N z => ⟨fun k h => (by cases h), kZ, hZ2, coZ, hZ3⟩, hZ1⟩
    | 2, hq => cases hq; exact ⟨fun N z => ⟨fun k h => (by cases h), kP, hP3, coP, hP4⟩, kP, coP, hP3, hP4, hP1, hP5⟩
    | 3, hq => cases hq; exact ⟨fun N z => ⟨fun k h => (by cases h), kV, hV3, coV, hV4⟩, kV, coV, hV3, hV4, hV1, hV5⟩
    | k + 4, hq => simp [gT] at hq
  · exact fun q hq => va_Nw.of rfl (hts _ (nF_in _ (List.mem_map.mpr ⟨q, hq, rfl⟩)))
  · exact fun q hq => va_Nw.of rfl (hts _ (nM_in _ (List.mem_map.mpr ⟨q, hq, rfl⟩)))
  · exact va_Zof (args := #[Value.ref b]) (hts _ (List.mem_of_getElem? (i := 421) (by decide +kernel))) (hg _ kw_65) (va_eqt (hs _ (by decide +kernel))) hA
  · exact va_Zqof (args := #[Value.ref b]) (hts _ (List.mem_of_getElem? (i := 437) (by decide +kernel))) (hg _ kw_67) (hs _ (by decide +kernel)) hA
  · exact vk_R.of (A := #[Value.ref b]) (hts _ (List.mem_of_getElem? (i := 407) (by decide +kernel))) (hE3 0 (by decide))
  · exact vk_R.of (A := #[Value.ref b]) (hts _ (List.mem_of_getElem? (i := 464) (by decide +kernel))) (hE3 1 (by decide))
  · exact vk_R.of (A := #[Value.ref b]) (hts _ (List.mem_of_getElem? (i := 475) (by decide +kernel))) (hE3 2 (by decide))
  · exact fun x hx9 => va_Nw.of rfl (hts _ (ca_in _ (List.mem_map.mpr ⟨x, hx9, rfl⟩)))
set_option maxHeartbeats 16000000 in
set_option maxRecDepth 200000 in
/-- THE LAW, from its entry, but for what the pictures answer -/
theorem start_open {p : Program} {e : Env} {s : State} {m : MethodId} {below : List Frame} {meth : Method} {c : Code} (l : Launch) {b L : Nat} {xs : Nat → Int32} (C0 : lw_At p s m meth c b L xs) {sV sC sM s9 : Sta} (hV : X10_empty 0 zst = some ((), sV)) (hC : X0_allByKind 0 zst = some ((), sC)) (hM : X12_begin 209 1 mst = some ((), sM)) (hF : L_law_L18 xs L FL 0 (iSt sV sC sM) = some (1, s9)) : W p l e room_1 s m #[Value.ref b] below meth c s.heap [] 0 0 (lw_Z below #[Value.ref b] s) (entryFrame m ([Value.ref b] : List Value).toArray 4) := by
  obtain ⟨G, hKG⟩ := start_KG C0
  obtain ⟨hx, hb, hr, hml, hown, hts, hX, hbl, hlocks, hgv⟩ := id C0
  have hg : ∀ w ∈ GT, w.before #[Value.ref b] s = true := fun w h => hts w (List.mem_filter.mp h).1
  have hl := lv_entry ([.ref b]) (n := 4) (Nat.le_of_ble_eq_true rfl)
  rw [lg_entry_eq]
  obtain ⟨M, hMe⟩ : ∃ M : Mco, M = (p, l, e, room_1, s, m, #[Value.ref b], below, meth, c) := ⟨_, rfl⟩
  have hS0 : mS M = s := by rw [hMe]; rfl
  have C : Cg M G code 4 "NobodyTwiceLaw" (Cond.initialized "NobodyTwiceLaw") ret room_1 s.heap.size 0 := by
    rw [hMe]
    exact ⟨hx, hb, hml, hown, fun x hx9 => (List.mem_cons.mp hx9).elim (fun h => by rw [h]; exact hg _ kw_50) (fun h => hg x h), hKG, hlocks, hr, rfl, rfl⟩
  have walk : Sg M G (lw_Z below #[Value.ref b] s) 4 s.heap.size 0 0 0 [(0, .ref b)] [] [] := by
    refine sg_new C 0 [.null, .null, .null, .null, .null, .null, .null, .long 0, .long 0, .int 0, .int 0, .int 0] rfl rfl (ci := 11) (R := RX11) (T := TX11) (N := 12) rfl gX11 tyX11 tyX11_ok kw_72 kw_73 kw_51 (fun j hj => by rcases (show j = 0 ∨ j = 1 ∨ j = 2 ∨ j = 3 ∨ j = 4 ∨ j = 5 ∨ j = 6 ∨ j = 7 ∨ j = 8 ∨ j = 9 ∨ j = 10 ∨ j = 11 by omega) with rfl | rfl | rfl | rfl | rfl | rfl | rfl | rfl | rfl | rfl | rfl | rfl <;> rfl) dL_law_0 (by decide) (by decide) ?_
    refine id (?_ : Sg M G _ 4 s.heap.size 1 12 3 [(0, .ref b)] [.ref (s.heap.size + 0)] ([] ++ [.inr (11, [.null, .null, .null, .null, .null, .null, .null, .long 0, .long 0, .int 0, .int 0, .int 0])]))
    refine sg_dup C dL_law_3 rfl ?_
    refine sg_callI (nc := 1) (ns := 12) (st := [.ref (s.heap.size + 0)]) (cs := []) (e := .inr (11, [.null, .null, .null, .null, .null, .null, .null, .long 0, .long 0, .int 0, .int 0, .int 0])) (post := nCs G (s.heap.size + 0) sV sC) C 0 [] 82 986 rfl rfl (cn_X11_init (s.heap.size + 0) hV hC) (Or.inl kw_74) kw_75 kw_51 kw_76 rfl dL_law_4 rfl dd_X11_init ⟨by decide, by decide⟩ (Nat.le_of_ble_eq_true rfl) ⟨by decide, by decide⟩ rfl rfl _ rfl ?_
    refine id (?_ : Sg M G _ 4 s.heap.size 82 986 7 [(0, .ref b)] [.ref (s.heap.size + 0)] (nCs G (s.heap.size + 0) sV sC))
    refine sg_astore C [(1, .ref (s.heap.size + 0)), (0, .ref b)] dL_law_7 (by decide) rfl ?_
    refine sg_new C 82 [.null, .null, .null, .null, .long 0, .long 0, .null, .null, .null, .null, .null, .null, .null, .null, .int 0, .int 0, .int 0, .int 0, .int 0, .null, .null] rfl rfl (ci := 12) (R := RX12) (T := TX12) (N := 21) rfl gX12 tyX12 tyX12_ok kw_855 kw_856 kw_64 (fun j hj => by rcases (show j = 0 ∨ j = 1 ∨ j = 2 ∨ j = 3 ∨ j = 4 ∨ j = 5 ∨ j = 6 ∨ j = 7 ∨ j = 8 ∨ j = 9 ∨ j = 10 ∨ j = 11 ∨ j = 12 ∨ j = 13 ∨ j = 14 ∨ j = 15 ∨ j = 16 ∨ j = 17 ∨ j = 18 ∨ j = 19 ∨ j = 20 by omega) with rfl | rfl | rfl | rfl | rfl | rfl | rfl | rfl | rfl | rfl | rfl | rfl | rfl | rfl | rfl | rfl | rfl | rfl | rfl | rfl | rfl <;> rfl) dL_law_8 (by decide) (by decide) ?_
    refine id (?_ : Sg M G _ 4 s.heap.size 83 1007 11 [(1, .ref (s.heap.size + 0)), (0, .ref b)] [.ref (s.heap.size + 82)] (nCs G (s.heap.size + 0) sV sC ++ [.inr (12, [.null, .null, .null, .null, .long 0, .long 0, .null, .null, .null, .null, .null, .null, .null, .null, .int 0, .int 0, .int 0, .int 0, .int 0, .null, .null])]))
    refine sg_dup C dL_law_11 rfl ?_
    refine sg_callI (nc := 83) (ns := 1007) (st := [.ref (s.heap.size + 82)]) (cs := nCs G (s.heap.size + 0) sV sC) (e := .inr (12, [.null, .null, .null, .null, .long 0, .long 0, .null, .null, .null, .null, .null, .null, .null, .null, .int 0, .int 0, .int 0, .int 0, .int 0, .null, .null])) (post := shl (mSh G (s.heap.size + 82)) 15 sM) C 82 [] 97 2060 rfl rfl (cn_X12_init (s.heap.size + 82) hM) (Or.inl kw_857) kw_858 kw_64 kw_859 rfl dL_law_12 rfl dd_X12_init ⟨by decide, by decide⟩ (Nat.le_of_ble_eq_true rfl) ⟨by decide, by decide⟩ rfl rfl _ rfl ?_
    refine id (?_ : Sg M G _ 4 s.heap.size 97 2060 15 [(1, .ref (s.heap.size + 0)), (0, .ref b)] [.ref (s.heap.size + 82)] (nCs G (s.heap.size + 0) sV sC ++ shl (mSh G (s.heap.size + 82)) 15 sM))
    refine sg_astore C [(2, .ref (s.heap.size + 82)), (1, .ref (s.heap.size + 0)), (0, .ref b)] dL_law_15 (by decide) rfl ?_
    refine sg_conv (n := 6) (cA := gP G) (f := fun j => some (s.heap.size + 0 + 55 + (3 + 1 * j))) (f' := fun j => some (s.heap.size + (55 + 3 + 1 * j))) 56 (shl (oSh G s.heap.size) 97 (iSt sV sC sM)) rfl (fun j hj => by show some _ = some _; congr 1; omega) rfl ?_
    intro H locs ls hP hS hl
    refine W.widen (k := 600000) (n := 7302250) (by decide) (by decide) ?_
    have hGW := GW_o G s.heap.size
    have hD0 : va_D (fun q => s.heap.size ≤ q) (zl s.heap.size (shl (oSh G s.heap.size) 97 (iSt sV sC sM))) := zl_D
    rw [zl_shl (G := G)] at hP hD0
    have hWd : Wd (gW G s.heap.size (oSh G s.heap.size) 97) (iSt sV sC sM) H := ⟨hP, hD0.1, fun i q hq => by
      have hi : i < 97 := by
        have h := (List.getElem?_eq_some_iff.mp hq).1
        have e9 : wnn (gW G s.heap.size (oSh G s.heap.size) 97) = 97 := rfl
        simpa [wl, e9] using h
      have hq2 := hq
      rw [wl_at (w := gW G s.heap.size (oSh G s.heap.size) 97) hi] at hq2
      cases hq2
      exact ⟨i, hi, rfl⟩⟩
    have hAA : ∀ q, wA (gW G s.heap.size (oSh G s.heap.size) 97) q → s.heap.size ≤ q := by
      rintro q ⟨i, -, rfl⟩
      exact Nat.le_add_right s.heap.size i
    have C2 : Cl M (gW G s.heap.size (oSh G s.heap.size) 97) code 4 "NobodyTwiceLaw" (Cond.initialized "NobodyTwiceLaw") room_1 b L xs := by
      refine ⟨C.1, C.2.1, C.2.2.1, C.2.2.2.1, C.2.2.2.2.1, ?_, C.2.2.2.2.2.2.1, C.2.2.2.2.2.2.2.2.1, ?_, ?_, fun k _ => ?_⟩
      · exact C.2.2.2.2.2.1.KK (fun q h => hAA q h)
      · rw [hS0]; exact hX
      · rw [hS0]; exact hbl
      · rw [hS0]; exact Nat.le_add_right s.heap.size k
    have go : Sl M (gW G s.heap.size (oSh G s.heap.size) 97) 4 (lw_Z below #[Value.ref b] s) 16 [(2, .ref (s.heap.size + 82)), (1, .ref (s.heap.size + 0)), (0, .ref b)] [] (iSt sV sC sM) (L_law_L18 xs L FL 0 (iSt sV sC sM)) := by
      refine sl_iconst C2 (0 : Int32) dL_law_16 ic_0 ?_
      refine sl_istore_n C2 [(3, .int (0 : Int32)), (2, .ref (s.heap.size + 82)), (1, .ref (s.heap.size + 0)), (0, .ref b)] dL_law_17 (by decide) rfl ?_
      exact sl_law_L18 C2 hGW (fun lv s0 _ => by
        intro σ' e9 H locs ls hW hS hl
        refine va_forget (fun q h => hS.2.2 q h) ?_
        subst hMe
        exact lw_ret hx hb hr hlocks dL_law_1125) FL 0 (iSt sV sC sM)
    exact go s9 hF H locs ls hWd (by rw [hS0]; rw [hS0] at hS; exact hS) hl
  have hP0 : va_P (gD G) cls (zl s.heap.size []) s.heap := fun k q h => by simp [zl] at h
  have w1 := walk s.heap [] _ hP0 (by rw [hS0]; exact va_S.rf) hl
  subst hMe
  exact w1
