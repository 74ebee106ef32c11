section VIRT
variable {p : Program} {l : Launch} {e : Env} {R : Room} {s : State} {m : MethodId} {args : Array Value} {below : List Frame} {meth : Method} {c : Code}
/-- super.m(..) where the superclass has m from its own superclass, or itself -/
theorem vs_call {T : State} {locs : List Loc} {cells slots : Nat} (X : Stand p l e R s m args below meth c T locs cells slots) (hexec : p.tables.exec = Jvm.exec) {own : String} {index : Nat} {x y : MethodName} {bytes : ByteArray} {maxL : Nat} {ret : Option FieldType}
    (hown : s.vm.findClass own = some m.cls) (hlink : (Cond.methodLink own index x).before args s = true) (hxy : y = ⟨y.cls, x.name, x.desc⟩) (hsame : (Cond.sameMethod x.cls y.cls x.name x.desc).before args s = true) (hsup : (Cond.superclass own x.cls).before args s = true) (hup : x.cls = y.cls ∨ (Cond.superclass x.cls y.cls).before args s = true)
    (hinst : (Cond.instanceMethod y).before args s = true) (hcode : (Cond.code y bytes maxL ret).before args s = true) (hno : x.name ≠ "<init>")
    {W : Nat} {Pre : Pt → Array Value → Prop} {Post : Pt → Array Value → Option Value → Pt → Prop} (hK : Back l R p e below s args y 3 W Pre Post)
    {b : Addr} {cellB : Cell} {kB : Class} (hcell : T.heap[b]? = some cellB) (hobj : cellB.vm.isStatics = false) (hkB : s.vm.classes[cellB.cls]? = some kB)
    {g : JFrame} (hg : g.method = m) (hsize : g.locals.size = c.maxLocals) {argsL rest : List Value} (hlen : ∀ sig, parseMethodDescriptor y.desc = some sig → argsL.length = sig.parameters.length)
    (hstack : g.stack = argsL.reverse ++ .ref b :: rest) (hW : 2 * g.monitorRoom + (rest.map fun v => v.category).sum ≤ W) (hdg : decode c.code g.pc = .ok (.invokespecial index, 3))
    (hpre : ∀ vm₁, s.WarmedH vm₁ → Pre ⟨T.setVm vm₁, locs, cells, slots⟩ (Value.ref b :: argsL).toArray) :
    ∃ (v : Option Value) (vm₁ : Vm) (B : Pt), s.WarmedH vm₁ ∧ Stand p l e R s m args below meth c B.U B.locs B.cells B.slots ∧ Post ⟨T.setVm vm₁, locs, cells, slots⟩ (Value.ref b :: argsL).toArray v B ∧
      ∀ target, Steps p.tables e below (B.U.setTop { g with pc := g.pc + 3, stack := v.toList ++ rest }) target → Steps p.tables e below (T.setTop g) target := by
  obtain ⟨mk, methM, hnamed, hmethM, hstM, habM⟩ := Cond.instanceMethod_spec hinst
  obtain ⟨methM', cM, hmethM', -, -, -, -, -, -, hsigM⟩ := Cond.code_spec hnamed hcode
  cases hmethM.symm.trans hmethM'
  obtain ⟨ps, dk, kp, hps, hdk, hkp, hsuper, -, -, hnid⟩ := Cond.superclass_spec hown hsup
  have hn : s.methodNamed? ⟨y.cls, x.name, x.desc⟩ = some mk := by rw [← hxy]; exact hnamed
  have hmk : s.vm.findClass y.cls = some mk.cls := findClass_of_methodNamed hnamed
  have hsub : s.vm.isSubclass ps mk.cls = true := by
    rcases hup with h | h
    · rw [h, hmk] at hps
      cases hps
      simp [Vm.isSubclass, Vm.isSubclassAux]
    · obtain ⟨pt, k2, kq, h1, h2, -, h4, -⟩ := Cond.superclass_spec hps h
      rw [hmk] at h1
      cases h1
      have hlt : ps < s.vm.classes.size := (Array.getElem?_eq_some_iff.mp h2).1
      obtain ⟨n, hn⟩ : ∃ n, s.vm.classes.size = n + 1 := ⟨_, (Nat.succ_pred_eq_of_pos (Nat.lt_of_le_of_lt (Nat.zero_le _) hlt)).symm⟩
      simp [Vm.isSubclass, hn, Vm.isSubclassAux, h2, h4]
  obtain ⟨vm₁, X₁, hstep₁⟩ := X.invokespecialUp hexec hown hlink hsame hn hmethM hstM habM hno hdk hnid hps hsuper hsub (a := b) (cell := cellB) hcell
    (fun z h => by rw [h] at hobj; cases hobj) hkB (g := g) hg (argsL := argsL) (rest := rest) (hlen _ hsigM) hstack hdg
  obtain ⟨v, B, X', hpost, hsteps⟩ := hK m meth c ⟨T.setVm vm₁, locs, cells, slots⟩ { g with stack := rest } (.invokespecial index) mk (Value.ref b :: argsL).toArray X₁ hg hsize hdg hW (X₁.named hnamed) (hpre vm₁ X₁.warmed)
  exact ⟨v, vm₁, B, X₁.warmed, X', hpost, fun target h => hstep₁ _ (by rw [doInvoke_state]; exact hsteps.trans h)⟩
end VIRT
section VIRT2
variable {M : Mco} {w : Wco} {cc : ByteArray} {nL : Nat} {own : String} {c0 : Cond} {ret : Option FieldType} {rm : Room} {ρ : Type} {ov : ρ → Option Value} {pc : Nat} {lv : List (Nat × Value)} {st : List Value} {σ : Sta} {F F2 : Option (ρ × Sta)}
theorem r_callSUI {f : Option (Int32 × Sta)} {K : Int32 → Sta → Option (ρ × Sta)} (C : Cx M w cc nL own c0 ret rm) {R : String} {T : u_T} {N ci index kk mx n : Nat} {fs : (Nat → Int32) → (Nat → Int64) → List Value} {x y : MethodName} {b : ByteArray} {rt : Option FieldType} {rmc : Room} (As : List Value) (hO : isO w kk ci fs) (hc : cls[ci]? = some (R, T, N))
    (hM : ∀ q σ1, f = some (q, σ1) → Ct (mL M) w y (Cond.code y b mx rt :: GT) rmc (.ref (wad w kk) :: As) σ (oI q) σ1) (h1 : Cond.methodLink own index x ∈ GT) (hxy : y = ⟨y.cls, x.name, x.desc⟩) (h2 : Cond.sameMethod x.cls y.cls x.name x.desc ∈ GT) (h3 : Cond.superclass own x.cls ∈ GT) (hup : x.cls = y.cls ∨ Cond.superclass x.cls y.cls ∈ GT) (hin : Cond.instanceMethod y ∈ GT) (h4 : Cond.initialized y.cls ∈ GT) (h5 : Cond.code y b mx rt ∈ GT) (hno : x.name ≠ "<init>") (hd : decode cc pc = .ok (.invokespecial index, 3))
    (hn : As.length = n) (hdd : (parseMethodDescriptor y.desc).map (fun d => d.parameters.length) = some n) (hrc : rmc.cells = 0 ∧ rmc.slots = 0) (hR : rmc.frames + 1 ≤ rm.frames ∧ 8 + (mx + 11) + rmc.locals ≤ rm.locals) (hst : (st.map fun v => v.category).sum ≤ 8)
    (st0 : List Value) (hst0 : st0 = As.reverse ++ .ref (wad w kk) :: st) (k : ∀ (q : Int32) (σ1 : Sta), Sm M w nL ov (pc + 3) lv (.int q :: st) σ1 (K q σ1)) : Sm M w nL ov pc lv st0 σ (cA f K) := by
  refine sm_after (ov2 := oI) (a := (Value.ref (wad w kk) :: As).toArray) C (fun q σ1 hq H locs ls hW hS hl => ?_) k
  have hts := C.2.2.2.2.1
  have hini := hts _ (gtM h4)
  have hK : Back (mL M) (mR M) (mP M) (mE M) (mB M) (mS M) (mA M) y 3 8 (PreOf (mR M) 0 0 _) (PostOf (Rt w (oI q) σ1) 0 0 (wA w)) := back_of (bytes := b) (maxL := mx) (ret := rt) (hM q σ1 hq) sm_blind hrc.1 hrc.2 (by rw [C.2.2.2.2.2.2.2.2]; exact hR.1) (by rw [C.2.2.2.2.2.2.2.2]; exact hR.2) (pay_in hts (gC h5)) List.mem_cons_self (fun a' U hW => word_at hW (Or.inl (by first | rfl | simp [Cond.onTables, Cond.keeps, Cond.steady])) hini)
  obtain ⟨cellB, hcB, hoB, hclB⟩ := va_recv C.2.2.2.2.2.1.1 hW.1 (ci := ci) (q0 := kk) hc (fs := fs (σ.1 kk) (σ.2 kk)) (by rw [wl_at hO.1, hO.2])
  obtain ⟨-, hfc, kB, hkB, -⟩ := C.2.2.2.2.2.1.1.1 ci _ hc
  have hkB2 : (mS M).vm.classes[cellB.cls]? = some kB := by
    rw [← Option.some.inj (hfc.symm.trans hclB)]
    exact hkB
  intro T hT X
  obtain ⟨v, vm₁, ⟨U', l2, c2, s2⟩, hW₁, X', ⟨g', mk, t, L, e1, e2, hq, q1, hL, q2, q3⟩, go⟩ := vs_call X C.1 (x := x) (bytes := b) (maxL := mx) (ret := rt) C.2.2.2.1 (hts _ (gtM h1)) hxy (hts _ (gtM h2)) (hts _ (gtM h3)) (hup.imp id (fun h => hts _ (gtM h))) (hts _ (gtM hin)) (hts _ (gtM h5)) hno hK (by rw [hT]; exact hcB) hoB hkB2 (g := F0 (mI M) pc ls st0) rfl (hl.1.trans C.2.2.1.symm) (argsL := As) (rest := st) (fun sig h => by
      rw [h] at hdd
      exact hn.trans (Option.some.inj hdd).symm) hst0 (lv_room hst) (by rw [C.2.1]; exact hd)
    (fun vm₁ hW₁ => ⟨Nat.zero_le _, Nat.zero_le _, sm_pre C hW hS (T.setVm vm₁) hT hW₁⟩)
  dsimp only [Pt.U, Pt.locs, Pt.cells, Pt.slots] at X' e1 e2 q1 q2 q3 go
  subst q1; subst q2; subst q3
  exact ⟨v, (T.setVm vm₁).calling g' mk (Value.ref (wad w kk) :: As).toArray, t, U', L, hT, X', hL, e1, e2, hq, go⟩
theorem sm_idivG (C : Cx M w cc nL own c0 ret rm) {x y : Int32} (hd : decode cc pc = .ok (.idiv, 1)) (k : Sm M w nL ov (pc + 1) lv (.int (x / y) :: st) σ F) : Sm M w nL ov pc lv (.int y :: .int x :: st) σ (dvI y F) := by
  intro r σ' e H locs ls hW hS hl
  by_cases hy : y = 0
  · rw [dvI, if_pos hy] at e
    cases e
  · rw [dvI, if_neg hy] at e
    exact lv_idiv C.1 C.2.1 hd hy (k r σ' e H locs ls hW hS hl)
theorem sm_iremG (C : Cx M w cc nL own c0 ret rm) {x y : Int32} (hd : decode cc pc = .ok (.irem, 1)) (k : Sm M w nL ov (pc + 1) lv (.int (x - x / y * y) :: st) σ F) : Sm M w nL ov pc lv (.int y :: .int x :: st) σ (dvI y F) := by
  intro r σ' e H locs ls hW hS hl
  by_cases hy : y = 0
  · rw [dvI, if_pos hy] at e
    cases e
  · rw [dvI, if_neg hy] at e
    exact lv_irem C.1 C.2.1 hd hy (k r σ' e H locs ls hW hS hl)
/-- a virtual call by a reference to a superclass's method -/
theorem r_callUI {f : Option (Int32 × Sta)} {K : Int32 → Sta → Option (ρ × Sta)} (C : Cx M w cc nL own c0 ret rm) {R : String} {T : u_T} {N ci index kk mx n m0 : Nat} {fs : (Nat → Int32) → (Nat → Int64) → List Value} {x y : MethodName} {b b0 : ByteArray} {rt r0 : Option FieldType} {rmc : Room} (As : List Value) (hO : isO w kk ci fs) (hc : cls[ci]? = some (R, T, N))
    (hM : ∀ q σ1, f = some (q, σ1) → Ct (mL M) w y (Cond.code y b mx rt :: GT) rmc (.ref (wad w kk) :: As) σ (oI q) σ1) (h1 : Cond.methodLink own index x ∈ GT) (h2 : Cond.sameMethod x.cls x.cls x.name x.desc ∈ GT) (h3 : Cond.selects R x y ∈ GT) (hin : Cond.instanceMethod y ∈ GT) (h4 : Cond.initialized y.cls ∈ GT) (h5 : Cond.code y b mx rt ∈ GT) (hx : Cond.instanceMethod x ∈ GT) (hx5 : Cond.code x b0 m0 r0 ∈ GT) (hd : decode cc pc = .ok (.invokevirtual index, 3))
    (hn : As.length = n) (hdd : x.cls ≠ "java/lang/invoke/MethodHandle" ∧ x.cls ≠ "java/lang/invoke/VarHandle" ∧ (parseMethodDescriptor x.desc).map (fun d => d.parameters.length) = some n) (hrc : rmc.cells = 0 ∧ rmc.slots = 0) (hR : rmc.frames + 1 ≤ rm.frames ∧ 8 + (mx + 11) + rmc.locals ≤ rm.locals) (hst : (st.map fun v => v.category).sum ≤ 8)
    (st0 : List Value) (hst0 : st0 = As.reverse ++ .ref (wad w kk) :: st) (k : ∀ (q : Int32) (σ1 : Sta), Sm M w nL ov (pc + 3) lv (.int q :: st) σ1 (K q σ1)) : Sm M w nL ov pc lv st0 σ (cA f K) := by
  have hts := C.2.2.2.2.1
  refine sm_after (ov2 := oI) (a := (Value.ref (wad w kk) :: As).toArray) C (fun q σ1 hq H locs ls hW hS hl => va_runU (x := x) (owner := x.cls) (As := As) (rest := st) ⟨C.1, C.2.1, C.2.2.1, C.2.2.2.1, hts⟩ (hM q σ1 hq) ⟨⟨hrc.1, hrc.2, by rw [C.2.2.2.2.2.2.2.2]; exact hR.1, by rw [C.2.2.2.2.2.2.2.2]; exact hR.2, pay_in hts (gC h5), List.mem_cons_self⟩, hts _ (gtM h5), hts _ (gtM h4), ⟨hdd.1, hdd.2.1⟩, fun sig h => ?_, hts _ (gtM h1), hts _ (gtM h2), va_Decl.of (hts _ (gtM hx)) (hts _ (gtM hx5)), hts _ (gtM h3), hts _ (gtM hin)⟩ ⟨sm_blind, va_recv C.2.2.2.2.2.1.1 hW.1 (ci := ci) (q0 := kk) hc (fs := fs (σ.1 kk) (σ.2 kk)) (by rw [wl_at hO.1, hO.2]), sm_pre C hW hS⟩ rfl hn hl.1 hst0 (lv_room hst) hd ⟨Nat.zero_le _, Nat.zero_le _⟩) k
  have h6 := hdd.2.2
  rw [h] at h6
  exact (Option.some.inj h6).symm
end VIRT2
theorem dd_X5_wants : yX5_wants.cls = RX5 ∧ yX5_wants.cls ≠ "java/lang/invoke/MethodHandle" ∧ yX5_wants.cls ≠ "java/lang/invoke/VarHandle" ∧ (parseMethodDescriptor yX5_wants.desc).map (fun d => d.parameters.length) = some 2 := by decide +kernel
set_option maxRecDepth 100000 in
set_option maxHeartbeats 4000000 in
theorem ct_X5_wants {l : Launch} {w : Wco} (kv : Nat) (x1 : Int32) (x2 : Int32) (s0 : Sta) (qq : Int32) (ss : Sta) (hh : X5_wants kv x1 x2 s0 = some (qq, ss)) : Ct l w yX5_wants (Cond.code yX5_wants cX5_wants 3 (some .boolean) :: GT) { frames := 0, cells := 0, slots := 0, locals := 0 } [.ref (wad w kv), .int x1, .int x2] s0 (oI qq) ss := by
  refine ct_of [(0, .ref (wad w kv)), (1, .int x1), (2, .int x2)] (by decide +kernel) (Nat.le_of_ble_eq_true rfl) rfl hh (fun M _ C => ?_)
  unfold X5_wants
  refine sm_iconst C (1 : Int32) dX5_wants_0 ic_1 ?_
  exact sm_zret C dX5_wants_1
theorem dd_X7_wants : yX7_wants.cls = RX7 ∧ yX7_wants.cls ≠ "java/lang/invoke/MethodHandle" ∧ yX7_wants.cls ≠ "java/lang/invoke/VarHandle" ∧ (parseMethodDescriptor yX7_wants.desc).map (fun d => d.parameters.length) = some 2 := by decide +kernel
set_option maxRecDepth 100000 in
set_option maxHeartbeats 4000000 in
theorem ct_X7_wants {l : Launch} {w : Wco} (kv : Nat) (x1 : Int32) (x2 : Int32) (s0 : Sta) (qq : Int32) (ss : Sta) (hh : X7_wants kv x1 x2 s0 = some (qq, ss)) : Ct l w yX7_wants (Cond.code yX7_wants cX7_wants 3 (some .boolean) :: GT) { frames := 0, cells := 0, slots := 0, locals := 0 } [.ref (wad w kv), .int x1, .int x2] s0 (oI qq) ss := by
  refine ct_of [(0, .ref (wad w kv)), (1, .int x1), (2, .int x2)] (by decide +kernel) (Nat.le_of_ble_eq_true rfl) rfl hh (fun M _ C => ?_)
  unfold X7_wants
  refine sm_iload_n C 1 dX7_wants_0 rfl ?_
  refine sm_bipush C (15 : Int32) dX7_wants_1 bp_15 ?_
  refine sm_icmp_ge C 11 dX7_wants_3 (by decide) ?_ ?_
  · refine sm_iconst C (1 : Int32) dX7_wants_11 ic_1 ?_
    refine sm_goto C 16 dX7_wants_12 (by decide) ?_
    exact sm_zret C dX7_wants_16
  · refine sm_iload_n C 2 dX7_wants_6 rfl ?_
    refine sm_iconst C (1 : Int32) dX7_wants_7 ic_1 ?_
    refine sm_icmp_gt C 15 dX7_wants_8 (by decide) ?_ ?_
    · refine sm_iconst C (0 : Int32) dX7_wants_15 ic_0 ?_
      exact sm_zret C dX7_wants_16
    · refine sm_iconst C (1 : Int32) dX7_wants_11 ic_1 ?_
      refine sm_goto C 16 dX7_wants_12 (by decide) ?_
      exact sm_zret C dX7_wants_16
theorem dd_X6_wants : yX6_wants.cls = RX6 ∧ yX6_wants.cls ≠ "java/lang/invoke/MethodHandle" ∧ yX6_wants.cls ≠ "java/lang/invoke/VarHandle" ∧ (parseMethodDescriptor yX6_wants.desc).map (fun d => d.parameters.length) = some 2 := by decide +kernel
set_option maxRecDepth 100000 in
set_option maxHeartbeats 4000000 in
theorem ct_X6_wants {l : Launch} {w : Wco} (kv : Nat) (hkv : isO w kv 6 fs0) (x1 : Int32) (x2 : Int32) (s0 : Sta) (qq : Int32) (ss : Sta) (hh : X6_wants kv x1 x2 s0 = some (qq, ss)) : Ct l w yX6_wants (Cond.code yX6_wants cX6_wants 3 (some .boolean) :: GT) { frames := 1, cells := 0, slots := 0, locals := 22 } [.ref (wad w kv), .int x1, .int x2] s0 (oI qq) ss := by
  refine ct_of [(0, .ref (wad w kv)), (1, .int x1), (2, .int x2)] (by decide +kernel) (Nat.le_of_ble_eq_true rfl) rfl hh (fun M _ C => ?_)
  unfold X6_wants
  refine sm_aload_n C 0 dX6_wants_0 rfl ?_
  refine sm_iload_n C 1 dX6_wants_1 rfl ?_
  refine sm_iload_n C 2 dX6_wants_2 rfl ?_
  refine r_callSUI C (x := ⟨"NobodyTwice$Saver", "wants", "(II)Z"⟩) (R := RX6) (T := TX6) (N := 0) [.int x1, .int x2] hkv rfl (fun qq ss hh => ct_X7_wants kv x1 x2 s0 qq ss hh) kw_550 rfl kw_1251 kw_211 (Or.inl rfl) kw_545 kw_57 kw_546 (by decide) dX6_wants_3 rfl dd_X7_wants.2.2.2 ⟨rfl, rfl⟩ ⟨by decide, by decide⟩ (Nat.le_of_ble_eq_true rfl) _ rfl (fun q1 s2 => ?_)
  refine sm_if_eq C 19 dX6_wants_6 (by decide) ?_ ?_
  · refine sm_iconst C (0 : Int32) dX6_wants_19 ic_0 ?_
    exact sm_zret C dX6_wants_20
  · refine sm_iload_n C 1 dX6_wants_9 rfl ?_
    refine sm_bipush C (8 : Int32) dX6_wants_10 bp_8 ?_
    refine sm_icmp_lt C 19 dX6_wants_12 (by decide) ?_ ?_
    · refine sm_iconst C (0 : Int32) dX6_wants_19 ic_0 ?_
      exact sm_zret C dX6_wants_20
    · refine sm_iconst C (1 : Int32) dX6_wants_15 ic_1 ?_
      refine sm_goto C 20 dX6_wants_16 (by decide) ?_
      exact sm_zret C dX6_wants_20
theorem dd_X5_skill : yX5_skill.cls = RX5 ∧ yX5_skill.cls ≠ "java/lang/invoke/MethodHandle" ∧ yX5_skill.cls ≠ "java/lang/invoke/VarHandle" ∧ (parseMethodDescriptor yX5_skill.desc).map (fun d => d.parameters.length) = some 2 := by decide +kernel
set_option maxRecDepth 100000 in
set_option maxHeartbeats 4000000 in
theorem ct_X5_skill {l : Launch} {w : Wco} (kv : Nat) (x1 : Int32) (x2 : Int32) (s0 : Sta) (qq : Int32) (ss : Sta) (hh : X5_skill kv x1 x2 s0 = some (qq, ss)) : Ct l w yX5_skill (Cond.code yX5_skill cX5_skill 3 (some .int) :: GT) { frames := 0, cells := 0, slots := 0, locals := 0 } [.ref (wad w kv), .int x1, .int x2] s0 (oI qq) ss := by
  refine ct_of [(0, .ref (wad w kv)), (1, .int x1), (2, .int x2)] (by decide +kernel) (Nat.le_of_ble_eq_true rfl) rfl hh (fun M _ C => ?_)
  unfold X5_skill
  refine sm_iload_n C 1 dX5_skill_0 rfl ?_
  exact sm_iret C dX5_skill_1
theorem dd_X6_skill : yX6_skill.cls = RX6 ∧ yX6_skill.cls ≠ "java/lang/invoke/MethodHandle" ∧ yX6_skill.cls ≠ "java/lang/invoke/VarHandle" ∧ (parseMethodDescriptor yX6_skill.desc).map (fun d => d.parameters.length) = some 2 := by decide +kernel
set_option maxRecDepth 100000 in
set_option maxHeartbeats 4000000 in
theorem ct_X6_skill {l : Launch} {w : Wco} (kv : Nat) (hkv : isO w kv 6 fs0) (x1 : Int32) (x2 : Int32) (s0 : Sta) (qq : Int32) (ss : Sta) (hh : X6_skill kv x1 x2 s0 = some (qq, ss)) : Ct l w yX6_skill (Cond.code yX6_skill cX6_skill 3 (some .int) :: GT) { frames := 1, cells := 0, slots := 0, locals := 22 } [.ref (wad w kv), .int x1, .int x2] s0 (oI qq) ss := by
  refine ct_of [(0, .ref (wad w kv)), (1, .int x1), (2, .int x2)] (by decide +kernel) (Nat.le_of_ble_eq_true rfl) rfl hh (fun M _ C => ?_)
  unfold X6_skill
  refine sm_aload_n C 0 dX6_skill_0 rfl ?_
  refine sm_iload_n C 1 dX6_skill_1 rfl ?_
  refine sm_iload_n C 2 dX6_skill_2 rfl ?_
  refine r_callSUI C (x := ⟨"NobodyTwice$Saver", "skill", "(II)I"⟩) (R := RX6) (T := TX6) (N := 0) [.int x1, .int x2] hkv rfl (fun qq ss hh => ct_X5_skill kv x1 x2 s0 qq ss hh) kw_574 rfl kw_566 kw_211 (Or.inr kw_197) kw_554 kw_56 kw_576 (by decide) dX6_skill_3 rfl dd_X5_skill.2.2.2 ⟨rfl, rfl⟩ ⟨by decide, by decide⟩ (Nat.le_of_ble_eq_true rfl) _ rfl (fun q1 s2 => ?_)
  refine sm_iconst C (1 : Int32) dX6_skill_6 ic_1 ?_
  refine sm_iadd C dX6_skill_7 ?_
  exact sm_iret C dX6_skill_8
theorem dd_X1_skill : yX1_skill.cls = RX1 ∧ yX1_skill.cls ≠ "java/lang/invoke/MethodHandle" ∧ yX1_skill.cls ≠ "java/lang/invoke/VarHandle" ∧ (parseMethodDescriptor yX1_skill.desc).map (fun d => d.parameters.length) = some 2 := by decide +kernel
set_option maxRecDepth 100000 in
set_option maxHeartbeats 4000000 in
theorem ct_X1_skill {l : Launch} {w : Wco} (kv : Nat) (hkv : isO w kv 1 fs0) (x1 : Int32) (x2 : Int32) (s0 : Sta) (qq : Int32) (ss : Sta) (hh : X1_skill kv x1 x2 s0 = some (qq, ss)) : Ct l w yX1_skill (Cond.code yX1_skill cX1_skill 3 (some .int) :: GT) { frames := 1, cells := 0, slots := 0, locals := 22 } [.ref (wad w kv), .int x1, .int x2] s0 (oI qq) ss := by
  refine ct_of [(0, .ref (wad w kv)), (1, .int x1), (2, .int x2)] (by decide +kernel) (Nat.le_of_ble_eq_true rfl) rfl hh (fun M _ C => ?_)
  unfold X1_skill
  refine sm_iload_n C 2 dX1_skill_0 rfl ?_
  refine sm_iconst C (2 : Int32) dX1_skill_1 ic_2 ?_
  refine sm_irem C dX1_skill_2 (by decide) ?_
  refine sm_iconst C (1 : Int32) dX1_skill_3 ic_1 ?_
  refine sm_icmp_ne C 18 dX1_skill_4 (by decide) ?_ ?_
  · refine sm_iconst C (0 : Int32) dX1_skill_18 ic_0 ?_
    exact sm_iret C dX1_skill_19
  · refine sm_iconst C (2 : Int32) dX1_skill_7 ic_2 ?_
    refine sm_aload_n C 0 dX1_skill_8 rfl ?_
    refine sm_iload_n C 1 dX1_skill_9 rfl ?_
    refine sm_iload_n C 2 dX1_skill_10 rfl ?_
    refine r_callSUI C (x := ⟨"NobodyTwice$Plain", "skill", "(II)I"⟩) (R := RX1) (T := TX1) (N := 0) [.int x1, .int x2] hkv rfl (fun qq ss hh => ct_X5_skill kv x1 x2 s0 qq ss hh) kw_560 rfl kw_556 kw_218 (Or.inl rfl) kw_554 kw_56 kw_576 (by decide) dX1_skill_11 rfl dd_X5_skill.2.2.2 ⟨rfl, rfl⟩ ⟨by decide, by decide⟩ (Nat.le_of_ble_eq_true rfl) _ rfl (fun q1 s2 => ?_)
    refine sm_imul C dX1_skill_14 ?_
    refine sm_goto C 19 dX1_skill_15 (by decide) ?_
    exact sm_iret C dX1_skill_19
theorem dd_X4_skill : yX4_skill.cls = RX4 ∧ yX4_skill.cls ≠ "java/lang/invoke/MethodHandle" ∧ yX4_skill.cls ≠ "java/lang/invoke/VarHandle" ∧ (parseMethodDescriptor yX4_skill.desc).map (fun d => d.parameters.length) = some 2 := by decide +kernel
set_option maxRecDepth 100000 in
set_option maxHeartbeats 4000000 in
theorem ct_X4_skill {l : Launch} {w : Wco} (kv : Nat) (hkv : isO w kv 4 fs0) (x1 : Int32) (x2 : Int32) (s0 : Sta) (qq : Int32) (ss : Sta) (hh : X4_skill kv x1 x2 s0 = some (qq, ss)) : Ct l w yX4_skill (Cond.code yX4_skill cX4_skill 3 (some .int) :: GT) { frames := 1, cells := 0, slots := 0, locals := 22 } [.ref (wad w kv), .int x1, .int x2] s0 (oI qq) ss := by
  refine ct_of [(0, .ref (wad w kv)), (1, .int x1), (2, .int x2)] (by decide +kernel) (Nat.le_of_ble_eq_true rfl) rfl hh (fun M _ C => ?_)
  unfold X4_skill
  refine sm_iconst C (0 : Int32) dX4_skill_0 ic_0 ?_
  refine sm_aload_n C 0 dX4_skill_1 rfl ?_
  refine sm_iload_n C 1 dX4_skill_2 rfl ?_
  refine sm_iload_n C 2 dX4_skill_3 rfl ?_
  refine r_callSUI C (x := ⟨"NobodyTwice$Saver", "skill", "(II)I"⟩) (R := RX4) (T := TX4) (N := 0) [.int x1, .int x2] hkv rfl (fun qq ss hh => ct_X5_skill kv x1 x2 s0 qq ss hh) kw_565 rfl kw_566 kw_225 (Or.inr kw_197) kw_554 kw_56 kw_576 (by decide) dX4_skill_4 rfl dd_X5_skill.2.2.2 ⟨rfl, rfl⟩ ⟨by decide, by decide⟩ (Nat.le_of_ble_eq_true rfl) _ rfl (fun q1 s2 => ?_)
  refine sm_iload_n C 2 dX4_skill_7 rfl ?_
  refine sm_iconst C (2 : Int32) dX4_skill_8 ic_2 ?_
  refine sm_idiv C dX4_skill_9 (by decide) ?_
  refine sm_isub C dX4_skill_10 ?_
  refine r_max C kw_568 (by decide) (Nat.le_of_ble_eq_true rfl) dX4_skill_11 ?_
  exact sm_iret C dX4_skill_14
theorem dd_X5_barredBy : yX5_barredBy.cls = RX5 ∧ yX5_barredBy.cls ≠ "java/lang/invoke/MethodHandle" ∧ yX5_barredBy.cls ≠ "java/lang/invoke/VarHandle" ∧ (parseMethodDescriptor yX5_barredBy.desc).map (fun d => d.parameters.length) = some 1 := by decide +kernel
set_option maxRecDepth 100000 in
set_option maxHeartbeats 4000000 in
theorem ct_X5_barredBy {l : Launch} {w : Wco} (kv : Nat) (x1 : Int32) (s0 : Sta) (qq : Int32) (ss : Sta) (hh : X5_barredBy kv x1 s0 = some (qq, ss)) : Ct l w yX5_barredBy (Cond.code yX5_barredBy cX5_barredBy 2 (some .boolean) :: GT) { frames := 0, cells := 0, slots := 0, locals := 0 } [.ref (wad w kv), .int x1] s0 (oI qq) ss := by
  refine ct_of [(0, .ref (wad w kv)), (1, .int x1)] (by decide +kernel) (Nat.le_of_ble_eq_true rfl) rfl hh (fun M _ C => ?_)
  unfold X5_barredBy
  refine sm_iload_n C 1 dX5_barredBy_0 rfl ?_
  refine sm_iconst C (1 : Int32) dX5_barredBy_1 ic_1 ?_
  refine sm_icmp_lt C 9 dX5_barredBy_2 (by decide) ?_ ?_
  · refine sm_iconst C (0 : Int32) dX5_barredBy_9 ic_0 ?_
    exact sm_zret C dX5_barredBy_10
  · refine sm_iconst C (1 : Int32) dX5_barredBy_5 ic_1 ?_
    refine sm_goto C 10 dX5_barredBy_6 (by decide) ?_
    exact sm_zret C dX5_barredBy_10
theorem dd_X3_barredBy : yX3_barredBy.cls = RX3 ∧ yX3_barredBy.cls ≠ "java/lang/invoke/MethodHandle" ∧ yX3_barredBy.cls ≠ "java/lang/invoke/VarHandle" ∧ (parseMethodDescriptor yX3_barredBy.desc).map (fun d => d.parameters.length) = some 1 := by decide +kernel
set_option maxRecDepth 100000 in
set_option maxHeartbeats 4000000 in
theorem ct_X3_barredBy {l : Launch} {w : Wco} (kv : Nat) (x1 : Int32) (s0 : Sta) (qq : Int32) (ss : Sta) (hh : X3_barredBy kv x1 s0 = some (qq, ss)) : Ct l w yX3_barredBy (Cond.code yX3_barredBy cX3_barredBy 2 (some .boolean) :: GT) { frames := 0, cells := 0, slots := 0, locals := 0 } [.ref (wad w kv), .int x1] s0 (oI qq) ss := by
  refine ct_of [(0, .ref (wad w kv)), (1, .int x1)] (by decide +kernel) (Nat.le_of_ble_eq_true rfl) rfl hh (fun M _ C => ?_)
  unfold X3_barredBy
  refine sm_iload_n C 1 dX3_barredBy_0 rfl ?_
  refine sm_iconst C (2 : Int32) dX3_barredBy_1 ic_2 ?_
  refine sm_icmp_lt C 9 dX3_barredBy_2 (by decide) ?_ ?_
  · refine sm_iconst C (0 : Int32) dX3_barredBy_9 ic_0 ?_
    exact sm_zret C dX3_barredBy_10
  · refine sm_iconst C (1 : Int32) dX3_barredBy_5 ic_1 ?_
    refine sm_goto C 10 dX3_barredBy_6 (by decide) ?_
    exact sm_zret C dX3_barredBy_10
theorem X5_wants_pl (kv : Nat) (x1 : Int32) (x2 : Int32) (s : Sta) : X5_wants kv x1 x2 s = X5_wants 0 x1 x2 s := rfl
theorem X7_wants_pl (kv : Nat) (x1 : Int32) (x2 : Int32) (s : Sta) : X7_wants kv x1 x2 s = X7_wants 0 x1 x2 s := rfl
theorem X6_wants_pl (kv : Nat) (x1 : Int32) (x2 : Int32) (s : Sta) : X6_wants kv x1 x2 s = X6_wants 0 x1 x2 s := rfl
theorem X5_skill_pl (kv : Nat) (x1 : Int32) (x2 : Int32) (s : Sta) : X5_skill kv x1 x2 s = X5_skill 0 x1 x2 s := rfl
theorem X6_skill_pl (kv : Nat) (x1 : Int32) (x2 : Int32) (s : Sta) : X6_skill kv x1 x2 s = X6_skill 0 x1 x2 s := rfl
theorem X1_skill_pl (kv : Nat) (x1 : Int32) (x2 : Int32) (s : Sta) : X1_skill kv x1 x2 s = X1_skill 0 x1 x2 s := rfl
theorem X4_skill_pl (kv : Nat) (x1 : Int32) (x2 : Int32) (s : Sta) : X4_skill kv x1 x2 s = X4_skill 0 x1 x2 s := rfl
theorem X5_barredBy_pl (kv : Nat) (x1 : Int32) (s : Sta) : X5_barredBy kv x1 s = X5_barredBy 0 x1 s := rfl
theorem X3_barredBy_pl (kv : Nat) (x1 : Int32) (s : Sta) : X3_barredBy kv x1 s = X3_barredBy 0 x1 s := rfl
section
variable {M : Mco} {w : Wco} {cc : ByteArray} {nL : Nat} {c0 : Cond} {ret : Option FieldType} {rm : Room} {ρ : Type} {ov : ρ → Option Value} {pc : Nat} {lv : List (Nat × Value)} {st : List Value} {σ : Sta}
set_option maxHeartbeats 4000000 in
theorem vc_wants {K : Int32 → Sta → Option (ρ × Sta)} (C : Cx M w cc nL "NobodyTwice$Contest" c0 ret rm) {cv j : Nat} (hcv : isC w cv) (hj : j < 6) {a1 : Int32} {a2 : Int32} (hd : decode cc pc = .ok (.invokevirtual 86, 3)) (hst : (st.map fun v => v.category).sum ≤ 8) (hfr : 3 ≤ rm.frames) (hlo : 90 ≤ rm.locals) (k : ∀ (q : Int32) (σ1 : Sta), Sm M w nL ov (pc + 3) lv (.int q :: st) σ1 (K q σ1)) : Sm M w nL ov pc lv (.int a2 :: .int a1 :: .ref (wad w (cv + 3 + 1 * j)) :: st) σ (cA (V_wants j a1 a2 σ) K) := by
  rcases (show j = 0 ∨ j = 1 ∨ j = 2 ∨ j = 3 ∨ j = 4 ∨ j = 5 by omega) with rfl | rfl | rfl | rfl | rfl | rfl
  · refine r_callUI C (x := ⟨"NobodyTwice$Plain", "wants", "(II)Z"⟩) (kk := cv + 3) (R := RX5) (T := TX5) (N := 0) [.int a1, .int a2] (C_w0 hcv) rfl (fun q9 s9 h9 => ct_X5_wants (cv + 3) a1 a2 σ q9 s9 (by rw [X5_wants_pl]; exact h9)) kw_538 kw_541 kw_540 kw_539 kw_56 kw_552 kw_539 kw_552 hd rfl dd_X5_wants.2 ⟨rfl, rfl⟩ ⟨Nat.le_trans (by decide) hfr, Nat.le_trans (by decide) hlo⟩ hst _ rfl k
  · refine r_callUI C (x := ⟨"NobodyTwice$Plain", "wants", "(II)Z"⟩) (kk := cv + 4) (R := RX7) (T := TX7) (N := 0) [.int a1, .int a2] (C_w1 hcv) rfl (fun q9 s9 h9 => ct_X7_wants (cv + 4) a1 a2 σ q9 s9 (by rw [X7_wants_pl]; exact h9)) kw_538 kw_541 kw_551 kw_545 kw_57 kw_546 kw_539 kw_552 hd rfl dd_X5_wants.2 ⟨rfl, rfl⟩ ⟨Nat.le_trans (by decide) hfr, Nat.le_trans (by decide) hlo⟩ hst _ rfl k
  · refine r_callUI C (x := ⟨"NobodyTwice$Plain", "wants", "(II)Z"⟩) (kk := cv + 5) (R := RX3) (T := TX3) (N := 0) [.int a1, .int a2] (C_w2 hcv) rfl (fun q9 s9 h9 => ct_X5_wants (cv + 5) a1 a2 σ q9 s9 (by rw [X5_wants_pl]; exact h9)) kw_538 kw_541 kw_543 kw_539 kw_56 kw_552 kw_539 kw_552 hd rfl dd_X5_wants.2 ⟨rfl, rfl⟩ ⟨Nat.le_trans (by decide) hfr, Nat.le_trans (by decide) hlo⟩ hst _ rfl k
  · refine r_callUI C (x := ⟨"NobodyTwice$Plain", "wants", "(II)Z"⟩) (kk := cv + 6) (R := RX6) (T := TX6) (N := 0) [.int a1, .int a2] (C_w3 hcv) rfl (fun q9 s9 h9 => ct_X6_wants (cv + 6) (C_w3 hcv) a1 a2 σ q9 s9 (by rw [X6_wants_pl]; exact h9)) kw_538 kw_541 kw_547 kw_548 kw_59 kw_549 kw_539 kw_552 hd rfl dd_X5_wants.2 ⟨rfl, rfl⟩ ⟨Nat.le_trans (by decide) hfr, Nat.le_trans (by decide) hlo⟩ hst _ rfl k
  · refine r_callUI C (x := ⟨"NobodyTwice$Plain", "wants", "(II)Z"⟩) (kk := cv + 7) (R := RX1) (T := TX1) (N := 0) [.int a1, .int a2] (C_w4 hcv) rfl (fun q9 s9 h9 => ct_X5_wants (cv + 7) a1 a2 σ q9 s9 (by rw [X5_wants_pl]; exact h9)) kw_538 kw_541 kw_542 kw_539 kw_56 kw_552 kw_539 kw_552 hd rfl dd_X5_wants.2 ⟨rfl, rfl⟩ ⟨Nat.le_trans (by decide) hfr, Nat.le_trans (by decide) hlo⟩ hst _ rfl k
  · refine r_callUI C (x := ⟨"NobodyTwice$Plain", "wants", "(II)Z"⟩) (kk := cv + 8) (R := RX4) (T := TX4) (N := 0) [.int a1, .int a2] (C_w5 hcv) rfl (fun q9 s9 h9 => ct_X7_wants (cv + 8) a1 a2 σ q9 s9 (by rw [X7_wants_pl]; exact h9)) kw_538 kw_541 kw_544 kw_545 kw_57 kw_546 kw_539 kw_552 hd rfl dd_X5_wants.2 ⟨rfl, rfl⟩ ⟨Nat.le_trans (by decide) hfr, Nat.le_trans (by decide) hlo⟩ hst _ rfl k
end
section
variable {M : Mco} {w : Wco} {cc : ByteArray} {nL : Nat} {c0 : Cond} {ret : Option FieldType} {rm : Room} {ρ : Type} {ov : ρ → Option Value} {pc : Nat} {lv : List (Nat × Value)} {st : List Value} {σ : Sta}
set_option maxHeartbeats 4000000 in
theorem vc_skill {K : Int32 → Sta → Option (ρ × Sta)} (C : Cx M w cc nL "NobodyTwice$Contest" c0 ret rm) {cv j : Nat} (hcv : isC w cv) (hj : j < 6) {a1 : Int32} {a2 : Int32} (hd : decode cc pc = .ok (.invokevirtual 50, 3)) (hst : (st.map fun v => v.category).sum ≤ 8) (hfr : 3 ≤ rm.frames) (hlo : 90 ≤ rm.locals) (k : ∀ (q : Int32) (σ1 : Sta), Sm M w nL ov (pc + 3) lv (.int q :: st) σ1 (K q σ1)) : Sm M w nL ov pc lv (.int a2 :: .int a1 :: .ref (wad w (cv + 3 + 1 * j)) :: st) σ (cA (V_skill j a1 a2 σ) K) := by
  rcases (show j = 0 ∨ j = 1 ∨ j = 2 ∨ j = 3 ∨ j = 4 ∨ j = 5 by omega) with rfl | rfl | rfl | rfl | rfl | rfl
  · refine r_callUI C (x := ⟨"NobodyTwice$Plain", "skill", "(II)I"⟩) (kk := cv + 3) (R := RX5) (T := TX5) (N := 0) [.int a1, .int a2] (C_w0 hcv) rfl (fun q9 s9 h9 => ct_X5_skill (cv + 3) a1 a2 σ q9 s9 (by rw [X5_skill_pl]; exact h9)) kw_553 kw_556 kw_555 kw_554 kw_56 kw_576 kw_554 kw_576 hd rfl dd_X5_skill.2 ⟨rfl, rfl⟩ ⟨Nat.le_trans (by decide) hfr, Nat.le_trans (by decide) hlo⟩ hst _ rfl k
  · refine r_callUI C (x := ⟨"NobodyTwice$Plain", "skill", "(II)I"⟩) (kk := cv + 4) (R := RX7) (T := TX7) (N := 0) [.int a1, .int a2] (C_w1 hcv) rfl (fun q9 s9 h9 => ct_X5_skill (cv + 4) a1 a2 σ q9 s9 (by rw [X5_skill_pl]; exact h9)) kw_553 kw_556 kw_575 kw_554 kw_56 kw_576 kw_554 kw_576 hd rfl dd_X5_skill.2 ⟨rfl, rfl⟩ ⟨Nat.le_trans (by decide) hfr, Nat.le_trans (by decide) hlo⟩ hst _ rfl k
  · refine r_callUI C (x := ⟨"NobodyTwice$Plain", "skill", "(II)I"⟩) (kk := cv + 5) (R := RX3) (T := TX3) (N := 0) [.int a1, .int a2] (C_w2 hcv) rfl (fun q9 s9 h9 => ct_X5_skill (cv + 5) a1 a2 σ q9 s9 (by rw [X5_skill_pl]; exact h9)) kw_553 kw_556 kw_561 kw_554 kw_56 kw_576 kw_554 kw_576 hd rfl dd_X5_skill.2 ⟨rfl, rfl⟩ ⟨Nat.le_trans (by decide) hfr, Nat.le_trans (by decide) hlo⟩ hst _ rfl k
  · refine r_callUI C (x := ⟨"NobodyTwice$Plain", "skill", "(II)I"⟩) (kk := cv + 6) (R := RX6) (T := TX6) (N := 0) [.int a1, .int a2] (C_w3 hcv) rfl (fun q9 s9 h9 => ct_X6_skill (cv + 6) (C_w3 hcv) a1 a2 σ q9 s9 (by rw [X6_skill_pl]; exact h9)) kw_553 kw_556 kw_571 kw_572 kw_59 kw_573 kw_554 kw_576 hd rfl dd_X5_skill.2 ⟨rfl, rfl⟩ ⟨Nat.le_trans (by decide) hfr, Nat.le_trans (by decide) hlo⟩ hst _ rfl k
  · refine r_callUI C (x := ⟨"NobodyTwice$Plain", "skill", "(II)I"⟩) (kk := cv + 7) (R := RX1) (T := TX1) (N := 0) [.int a1, .int a2] (C_w4 hcv) rfl (fun q9 s9 h9 => ct_X1_skill (cv + 7) (C_w4 hcv) a1 a2 σ q9 s9 (by rw [X1_skill_pl]; exact h9)) kw_553 kw_556 kw_557 kw_558 kw_60 kw_559 kw_554 kw_576 hd rfl dd_X5_skill.2 ⟨rfl, rfl⟩ ⟨Nat.le_trans (by decide) hfr, Nat.le_trans (by decide) hlo⟩ hst _ rfl k
  · refine r_callUI C (x := ⟨"NobodyTwice$Plain", "skill", "(II)I"⟩) (kk := cv + 8) (R := RX4) (T := TX4) (N := 0) [.int a1, .int a2] (C_w5 hcv) rfl (fun q9 s9 h9 => ct_X4_skill (cv + 8) (C_w5 hcv) a1 a2 σ q9 s9 (by rw [X4_skill_pl]; exact h9)) kw_553 kw_556 kw_562 kw_563 kw_61 kw_564 kw_554 kw_576 hd rfl dd_X5_skill.2 ⟨rfl, rfl⟩ ⟨Nat.le_trans (by decide) hfr, Nat.le_trans (by decide) hlo⟩ hst _ rfl k
end
section
variable {M : Mco} {w : Wco} {cc : ByteArray} {nL : Nat} {c0 : Cond} {ret : Option FieldType} {rm : Room} {ρ : Type} {ov : ρ → Option Value} {pc : Nat} {lv : List (Nat × Value)} {st : List Value} {σ : Sta}
set_option maxHeartbeats 4000000 in
theorem vc_barredBy {K : Int32 → Sta → Option (ρ × Sta)} (C : Cx M w cc nL "NobodyTwice$Contest" c0 ret rm) {cv j : Nat} (hcv : isC w cv) (hj : j < 6) {a1 : Int32} (hd : decode cc pc = .ok (.invokevirtual 68, 3)) (hst : (st.map fun v => v.category).sum ≤ 8) (hfr : 3 ≤ rm.frames) (hlo : 90 ≤ rm.locals) (k : ∀ (q : Int32) (σ1 : Sta), Sm M w nL ov (pc + 3) lv (.int q :: st) σ1 (K q σ1)) : Sm M w nL ov pc lv (.int a1 :: .ref (wad w (cv + 3 + 1 * j)) :: st) σ (cA (V_barredBy j a1 σ) K) := by
  rcases (show j = 0 ∨ j = 1 ∨ j = 2 ∨ j = 3 ∨ j = 4 ∨ j = 5 by omega) with rfl | rfl | rfl | rfl | rfl | rfl
  · refine r_callUI C (x := ⟨"NobodyTwice$Plain", "barredBy", "(I)Z"⟩) (kk := cv + 3) (R := RX5) (T := TX5) (N := 0) [.int a1] (C_w0 hcv) rfl (fun q9 s9 h9 => ct_X5_barredBy (cv + 3) a1 σ q9 s9 (by rw [X5_barredBy_pl]; exact h9)) kw_526 kw_529 kw_528 kw_527 kw_56 kw_537 kw_527 kw_537 hd rfl dd_X5_barredBy.2 ⟨rfl, rfl⟩ ⟨Nat.le_trans (by decide) hfr, Nat.le_trans (by decide) hlo⟩ hst _ rfl k
  · refine r_callUI C (x := ⟨"NobodyTwice$Plain", "barredBy", "(I)Z"⟩) (kk := cv + 4) (R := RX7) (T := TX7) (N := 0) [.int a1] (C_w1 hcv) rfl (fun q9 s9 h9 => ct_X5_barredBy (cv + 4) a1 σ q9 s9 (by rw [X5_barredBy_pl]; exact h9)) kw_526 kw_529 kw_536 kw_527 kw_56 kw_537 kw_527 kw_537 hd rfl dd_X5_barredBy.2 ⟨rfl, rfl⟩ ⟨Nat.le_trans (by decide) hfr, Nat.le_trans (by decide) hlo⟩ hst _ rfl k
  · refine r_callUI C (x := ⟨"NobodyTwice$Plain", "barredBy", "(I)Z"⟩) (kk := cv + 5) (R := RX3) (T := TX3) (N := 0) [.int a1] (C_w2 hcv) rfl (fun q9 s9 h9 => ct_X3_barredBy (cv + 5) a1 σ q9 s9 (by rw [X3_barredBy_pl]; exact h9)) kw_526 kw_529 kw_531 kw_532 kw_58 kw_533 kw_527 kw_537 hd rfl dd_X5_barredBy.2 ⟨rfl, rfl⟩ ⟨Nat.le_trans (by decide) hfr, Nat.le_trans (by decide) hlo⟩ hst _ rfl k
  · refine r_callUI C (x := ⟨"NobodyTwice$Plain", "barredBy", "(I)Z"⟩) (kk := cv + 6) (R := RX6) (T := TX6) (N := 0) [.int a1] (C_w3 hcv) rfl (fun q9 s9 h9 => ct_X5_barredBy (cv + 6) a1 σ q9 s9 (by rw [X5_barredBy_pl]; exact h9)) kw_526 kw_529 kw_535 kw_527 kw_56 kw_537 kw_527 kw_537 hd rfl dd_X5_barredBy.2 ⟨rfl, rfl⟩ ⟨Nat.le_trans (by decide) hfr, Nat.le_trans (by decide) hlo⟩ hst _ rfl k
  · refine r_callUI C (x := ⟨"NobodyTwice$Plain", "barredBy", "(I)Z"⟩) (kk := cv + 7) (R := RX1) (T := TX1) (N := 0) [.int a1] (C_w4 hcv) rfl (fun q9 s9 h9 => ct_X5_barredBy (cv + 7) a1 σ q9 s9 (by rw [X5_barredBy_pl]; exact h9)) kw_526 kw_529 kw_530 kw_527 kw_56 kw_537 kw_527 kw_537 hd rfl dd_X5_barredBy.2 ⟨rfl, rfl⟩ ⟨Nat.le_trans (by decide) hfr, Nat.le_trans (by decide) hlo⟩ hst _ rfl k
  · refine r_callUI C (x := ⟨"NobodyTwice$Plain", "barredBy", "(I)Z"⟩) (kk := cv + 8) (R := RX4) (T := TX4) (N := 0) [.int a1] (C_w5 hcv) rfl (fun q9 s9 h9 => ct_X5_barredBy (cv + 8) a1 σ q9 s9 (by rw [X5_barredBy_pl]; exact h9)) kw_526 kw_529 kw_534 kw_527 kw_56 kw_537 kw_527 kw_537 hd rfl dd_X5_barredBy.2 ⟨rfl, rfl⟩ ⟨Nat.le_trans (by decide) hfr, Nat.le_trans (by decide) hlo⟩ hst _ rfl k
end
