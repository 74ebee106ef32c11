theorem dd_X5_init : yX5_init.cls ≠ "java/lang/invoke/MethodHandle" ∧ yX5_init.cls ≠ "java/lang/invoke/VarHandle" ∧ (parseMethodDescriptor yX5_init.desc).map (fun d => d.parameters.length) = some 0 := by decide +kernel
set_option maxRecDepth 100000 in
set_option maxHeartbeats 4000000 in
theorem cn_X5_init {l : Launch} {G : Gco} (b : Nat) (e : va_E) : Cn l G yX5_init (Cond.code yX5_init cX5_init 1 none :: GT) { frames := 1, cells := 0, slots := 0, locals := 20 } b [.ref (b + 0)] [e] [e] := by
  refine cn_of [(0, .ref (b + 0))] (by decide +kernel) (Nat.le_of_ble_eq_true rfl) rfl (fun M _ hin C => ?_)
  refine sg_aload C 0 dX5_init_0 rfl ?_
  refine sg_objInit C kw_188 kw_78 kw_79 dX5_init_1 (by decide) (Nat.le_of_ble_eq_true rfl) ?_
  exact sg_vret C dX5_init_4
theorem dd_X7_init : yX7_init.cls ≠ "java/lang/invoke/MethodHandle" ∧ yX7_init.cls ≠ "java/lang/invoke/VarHandle" ∧ (parseMethodDescriptor yX7_init.desc).map (fun d => d.parameters.length) = some 0 := by decide +kernel
set_option maxRecDepth 100000 in
set_option maxHeartbeats 4000000 in
theorem cn_X7_init {l : Launch} {G : Gco} (b : Nat) (e : va_E) : Cn l G yX7_init (Cond.code yX7_init cX7_init 1 none :: GT) { frames := 2, cells := 0, slots := 0, locals := 40 } b [.ref (b + 0)] [e] [e] := by
  refine cn_of [(0, .ref (b + 0))] (by decide +kernel) (Nat.le_of_ble_eq_true rfl) rfl (fun M _ hin C => ?_)
  refine sg_aload C 0 dX7_init_0 rfl ?_
  refine sg_callI (nc := 0) (ns := 0) (st := []) (cs := []) (e := e) (post := ([e])) C 0 [] 0 0 rfl rfl (cn_X5_init (b + 0) (e)) (Or.inr ⟨_, nm_3⟩) kw_186 kw_56 kw_187 rfl dX7_init_1 rfl dd_X5_init ⟨by decide, by decide⟩ (Nat.le_of_ble_eq_true rfl) ⟨by decide, by decide⟩ rfl rfl _ rfl ?_
  refine id (?_ : Sg M G _ 1 b 0 0 4 [(0, .ref (b + 0))] [] [e])
  exact sg_vret C dX7_init_4
theorem dd_X3_init : yX3_init.cls ≠ "java/lang/invoke/MethodHandle" ∧ yX3_init.cls ≠ "java/lang/invoke/VarHandle" ∧ (parseMethodDescriptor yX3_init.desc).map (fun d => d.parameters.length) = some 0 := by decide +kernel
set_option maxRecDepth 100000 in
set_option maxHeartbeats 4000000 in
theorem cn_X3_init {l : Launch} {G : Gco} (b : Nat) (e : va_E) : Cn l G yX3_init (Cond.code yX3_init cX3_init 1 none :: GT) { frames := 2, cells := 0, slots := 0, locals := 40 } b [.ref (b + 0)] [e] [e] := by
  refine cn_of [(0, .ref (b + 0))] (by decide +kernel) (Nat.le_of_ble_eq_true rfl) rfl (fun M _ hin C => ?_)
  refine sg_aload C 0 dX3_init_0 rfl ?_
  refine sg_callI (nc := 0) (ns := 0) (st := []) (cs := []) (e := e) (post := ([e])) C 0 [] 0 0 rfl rfl (cn_X5_init (b + 0) (e)) (Or.inr ⟨_, nm_5⟩) kw_186 kw_56 kw_187 rfl dX3_init_1 rfl dd_X5_init ⟨by decide, by decide⟩ (Nat.le_of_ble_eq_true rfl) ⟨by decide, by decide⟩ rfl rfl _ rfl ?_
  refine id (?_ : Sg M G _ 1 b 0 0 4 [(0, .ref (b + 0))] [] [e])
  exact sg_vret C dX3_init_4
theorem dd_X6_init : yX6_init.cls ≠ "java/lang/invoke/MethodHandle" ∧ yX6_init.cls ≠ "java/lang/invoke/VarHandle" ∧ (parseMethodDescriptor yX6_init.desc).map (fun d => d.parameters.length) = some 0 := by decide +kernel
set_option maxRecDepth 100000 in
set_option maxHeartbeats 4000000 in
theorem cn_X6_init {l : Launch} {G : Gco} (b : Nat) (e : va_E) : Cn l G yX6_init (Cond.code yX6_init cX6_init 1 none :: GT) { frames := 3, cells := 0, slots := 0, locals := 60 } b [.ref (b + 0)] [e] [e] := by
  refine cn_of [(0, .ref (b + 0))] (by decide +kernel) (Nat.le_of_ble_eq_true rfl) rfl (fun M _ hin C => ?_)
  refine sg_aload C 0 dX6_init_0 rfl ?_
  refine sg_callI (nc := 0) (ns := 0) (st := []) (cs := []) (e := e) (post := ([e])) C 0 [] 0 0 rfl rfl (cn_X7_init (b + 0) (e)) (Or.inr ⟨_, nm_7⟩) kw_194 kw_57 kw_195 rfl dX6_init_1 rfl dd_X7_init ⟨by decide, by decide⟩ (Nat.le_of_ble_eq_true rfl) ⟨by decide, by decide⟩ rfl rfl _ rfl ?_
  refine id (?_ : Sg M G _ 1 b 0 0 4 [(0, .ref (b + 0))] [] [e])
  exact sg_vret C dX6_init_4
theorem dd_X1_init : yX1_init.cls ≠ "java/lang/invoke/MethodHandle" ∧ yX1_init.cls ≠ "java/lang/invoke/VarHandle" ∧ (parseMethodDescriptor yX1_init.desc).map (fun d => d.parameters.length) = some 0 := by decide +kernel
set_option maxRecDepth 100000 in
set_option maxHeartbeats 4000000 in
theorem cn_X1_init {l : Launch} {G : Gco} (b : Nat) (e : va_E) : Cn l G yX1_init (Cond.code yX1_init cX1_init 1 none :: GT) { frames := 2, cells := 0, slots := 0, locals := 40 } b [.ref (b + 0)] [e] [e] := by
  refine cn_of [(0, .ref (b + 0))] (by decide +kernel) (Nat.le_of_ble_eq_true rfl) rfl (fun M _ hin C => ?_)
  refine sg_aload C 0 dX1_init_0 rfl ?_
  refine sg_callI (nc := 0) (ns := 0) (st := []) (cs := []) (e := e) (post := ([e])) C 0 [] 0 0 rfl rfl (cn_X5_init (b + 0) (e)) (Or.inr ⟨_, nm_9⟩) kw_186 kw_56 kw_187 rfl dX1_init_1 rfl dd_X5_init ⟨by decide, by decide⟩ (Nat.le_of_ble_eq_true rfl) ⟨by decide, by decide⟩ rfl rfl _ rfl ?_
  refine id (?_ : Sg M G _ 1 b 0 0 4 [(0, .ref (b + 0))] [] [e])
  exact sg_vret C dX1_init_4
theorem dd_X4_init : yX4_init.cls ≠ "java/lang/invoke/MethodHandle" ∧ yX4_init.cls ≠ "java/lang/invoke/VarHandle" ∧ (parseMethodDescriptor yX4_init.desc).map (fun d => d.parameters.length) = some 0 := by decide +kernel
set_option maxRecDepth 100000 in
set_option maxHeartbeats 4000000 in
theorem cn_X4_init {l : Launch} {G : Gco} (b : Nat) (e : va_E) : Cn l G yX4_init (Cond.code yX4_init cX4_init 1 none :: GT) { frames := 3, cells := 0, slots := 0, locals := 60 } b [.ref (b + 0)] [e] [e] := by
  refine cn_of [(0, .ref (b + 0))] (by decide +kernel) (Nat.le_of_ble_eq_true rfl) rfl (fun M _ hin C => ?_)
  refine sg_aload C 0 dX4_init_0 rfl ?_
  refine sg_callI (nc := 0) (ns := 0) (st := []) (cs := []) (e := e) (post := ([e])) C 0 [] 0 0 rfl rfl (cn_X7_init (b + 0) (e)) (Or.inr ⟨_, nm_11⟩) kw_194 kw_57 kw_195 rfl dX4_init_1 rfl dd_X7_init ⟨by decide, by decide⟩ (Nat.le_of_ble_eq_true rfl) ⟨by decide, by decide⟩ rfl rfl _ rfl ?_
  refine id (?_ : Sg M G _ 1 b 0 0 4 [(0, .ref (b + 0))] [] [e])
  exact sg_vret C dX4_init_4
theorem dd_X9_init : yX9_init.cls ≠ "java/lang/invoke/MethodHandle" ∧ yX9_init.cls ≠ "java/lang/invoke/VarHandle" ∧ (parseMethodDescriptor yX9_init.desc).map (fun d => d.parameters.length) = some 0 := by decide +kernel
set_option maxRecDepth 100000 in
set_option maxHeartbeats 4000000 in
theorem cn_X9_init {l : Launch} {G : Gco} (b : Nat) : Cn l G yX9_init (Cond.code yX9_init cX9_init 1 none :: GT) { frames := 1, cells := 1, slots := 24, locals := 20 } b [.ref (b + 0)] [.inr (9, [.null, .int 0])] ([.inr (9, [.ref (b + 1), .int 0])] ++ [.inl (gI G, 24, .inl (fun _ => 0))]) := by
  refine cn_of [(0, .ref (b + 0))] (by decide +kernel) (Nat.le_of_ble_eq_true rfl) rfl (fun M _ hin C => ?_)
  refine sg_aload C 0 dX9_init_0 rfl ?_
  refine sg_objInit C kw_91 kw_78 kw_79 dX9_init_1 (by decide) (Nat.le_of_ble_eq_true rfl) ?_
  refine sg_aload C 0 dX9_init_4 rfl ?_
  refine sg_bipush C (24 : Int32) dX9_init_5 bp_24 ?_
  refine sg_newA C (atype := .int) (ty := .int) 1 24 0 (24, .inl (fun _ => 0)) rfl rfl kw_102 rfl rfl (fun _ _ h => h) (fun c => rfl) (by decide) (by decide) (by decide) dX9_init_7 (by decide) (by decide) ?_
  refine id (?_ : Sg M G _ 1 b 1 24 9 [(0, .ref (b + 0))] [.ref (b + 1), .ref (b + 0)] ([.inr (9, [.null, .int 0])] ++ [.inl (gI G, 24, .inl (fun _ => 0))]))
  refine sg_put C 0 0 (.ref (b + 1)) (tyX9 0) ([.inr (9, [.ref (b + 1), .int 0])] ++ [.inl (gI G, 24, .inl (fun _ => 0))]) rfl rfl (R := RX9) (T := TX9) (N := 2) rfl gX9 tyX9 tyX9_ok nmX9 (by decide) kw_92 rfl hin rfl (by decide +kernel) rfl rfl (Nat.le_of_ble_eq_true rfl) dX9_init_9 ?_
  exact sg_vret C dX9_init_12
def zst : Sta := (fun _ _ => 0, fun _ _ => 0)
/-- the thirteen cells of a valley -/
def vSh (G : Gco) (b : Nat) : Shp := fun k f _ => match k with
  | 0 => .inr (10, [.ref (b + 1), .ref (b + 2), .ref (b + 3), .ref (b + 4), .ref (b + 5), .ref (b + 6), .ref (b + 7), .ref (b + 8), .ref (b + 9), .ref (b + 11), .int (f 10), .int (f 11), .int (f 12)])
  | 1 => .inl (gI G, 8, .inl f)
  | 2 => .inl (gI G, 8, .inl f)
  | 3 => .inl (gI G, 6, .inl f)
  | 4 => .inl (gI G, 18, .inl f)
  | 5 => .inl (gI G, 6, .inl f)
  | 6 => .inl (gI G, 6, .inl f)
  | 7 => .inl (gI G, 8, .inl f)
  | 8 => .inl (gI G, 8, .inl f)
  | 9 => .inr (9, [.ref (b + 10), .int (f 1)])
  | 10 => .inl (gI G, 24, .inl f)
  | 11 => .inr (9, [.ref (b + 12), .int (f 1)])
  | _ => .inl (gI G, 24, .inl f)
theorem isV_v (G : Gco) (b : Nat) : isV (gW G b (vSh G b) 13) 0 := by
  have hi : ∀ k n, k < 13 → (∀ f g, vSh G b k f g = .inl (gI G, n, .inl f)) → isI (gW G b (vSh G b) 13) k n := fun k n h1 h2 => ⟨h1, gI G, rfl, h2⟩
  exact ⟨⟨Nat.le_of_ble_eq_true rfl, fun _ _ => rfl⟩, hi 1 8 (by decide) (fun _ _ => rfl), hi 2 8 (by decide) (fun _ _ => rfl), hi 3 6 (by decide) (fun _ _ => rfl), hi 4 18 (by decide) (fun _ _ => rfl), hi 5 6 (by decide) (fun _ _ => rfl), hi 6 6 (by decide) (fun _ _ => rfl), hi 7 8 (by decide) (fun _ _ => rfl), hi 8 8 (by decide) (fun _ _ => rfl), ⟨⟨Nat.le_of_ble_eq_true rfl, fun _ _ => rfl⟩, hi 10 24 (by decide) (fun _ _ => rfl)⟩, ⟨Nat.le_of_ble_eq_true rfl, fun _ _ => rfl⟩, hi 12 24 (by decide) (fun _ _ => rfl)⟩
theorem dd_X10_init : yX10_init.cls ≠ "java/lang/invoke/MethodHandle" ∧ yX10_init.cls ≠ "java/lang/invoke/VarHandle" ∧ (parseMethodDescriptor yX10_init.desc).map (fun d => d.parameters.length) = some 0 := by decide +kernel
set_option maxRecDepth 100000 in
set_option maxHeartbeats 4000000 in
theorem cn_X10_init {l : Launch} {G : Gco} (b : Nat) {sV : Sta} (hV : X10_empty 0 zst = some ((), sV)) : Cn l G yX10_init (Cond.code yX10_init cX10_init 1 none :: GT) { frames := 2, cells := 12, slots := 120, locals := 43 } b [.ref (b + 0)] [.inr (10, [.null, .null, .null, .null, .null, .null, .null, .null, .null, .null, .int 0, .int 0, .int 0])] (shl (vSh G b) 13 sV) := by
  refine cn_of [(0, .ref (b + 0))] (by decide +kernel) (Nat.le_of_ble_eq_true rfl) rfl (fun M _ hin C => ?_)
  refine sg_aload C 0 dX10_init_0 rfl ?_
  refine sg_objInit C kw_85 kw_78 kw_79 dX10_init_1 (by decide) (Nat.le_of_ble_eq_true rfl) ?_
  refine sg_aload C 0 dX10_init_4 rfl ?_
  refine sg_bipush C (8 : Int32) dX10_init_5 bp_8 ?_
  refine sg_newA C (atype := .int) (ty := .int) 1 8 0 (8, .inl (fun _ => 0)) rfl rfl kw_102 rfl rfl (fun _ _ h => h) (fun c => rfl) (by decide) (by decide) (by decide) dX10_init_7 (by decide) (by decide) ?_
  refine id (?_ : Sg M G _ 1 b 1 8 9 [(0, .ref (b + 0))] [.ref (b + 1), .ref (b + 0)] ([.inr (10, [.null, .null, .null, .null, .null, .null, .null, .null, .null, .null, .int 0, .int 0, .int 0])] ++ [.inl (gI G, 8, .inl (fun _ => 0))]))
  refine sg_put C 0 0 (.ref (b + 1)) (tyX10 0) ([.inr (10, [.ref (b + 1), .null, .null, .null, .null, .null, .null, .null, .null, .null, .int 0, .int 0, .int 0])] ++ [.inl (gI G, 8, .inl (fun _ => 0))]) rfl rfl (R := RX10) (T := TX10) (N := 13) rfl gX10 tyX10 tyX10_ok nmX10 (by decide) kw_110 rfl hin rfl (by decide +kernel) rfl rfl (Nat.le_of_ble_eq_true rfl) dX10_init_9 ?_
  refine sg_aload C 0 dX10_init_12 rfl ?_
  refine sg_bipush C (8 : Int32) dX10_init_13 bp_8 ?_
  refine sg_newA C (atype := .int) (ty := .int) 2 8 0 (8, .inl (fun _ => 0)) rfl rfl kw_102 rfl rfl (fun _ _ h => h) (fun c => rfl) (by decide) (by decide) (by decide) dX10_init_15 (by decide) (by decide) ?_
  refine id (?_ : Sg M G _ 1 b 2 16 17 [(0, .ref (b + 0))] [.ref (b + 2), .ref (b + 0)] (([.inr (10, [.ref (b + 1), .null, .null, .null, .null, .null, .null, .null, .null, .null, .int 0, .int 0, .int 0])] ++ [.inl (gI G, 8, .inl (fun _ => 0))]) ++ [.inl (gI G, 8, .inl (fun _ => 0))]))
  refine sg_put C 0 1 (.ref (b + 2)) (tyX10 1) (([.inr (10, [.ref (b + 1), .ref (b + 2), .null, .null, .null, .null, .null, .null, .null, .null, .int 0, .int 0, .int 0])] ++ [.inl (gI G, 8, .inl (fun _ => 0))]) ++ [.inl (gI G, 8, .inl (fun _ => 0))]) rfl rfl (R := RX10) (T := TX10) (N := 13) rfl gX10 tyX10 tyX10_ok nmX10 (by decide) kw_114 rfl hin rfl (by decide +kernel) rfl rfl (Nat.le_of_ble_eq_true rfl) dX10_init_17 ?_
  refine sg_aload C 0 dX10_init_20 rfl ?_
  refine sg_bipush C (6 : Int32) dX10_init_21 bp_6 ?_
  refine sg_newA C (atype := .int) (ty := .int) 3 6 0 (6, .inl (fun _ => 0)) rfl rfl kw_102 rfl rfl (fun _ _ h => h) (fun c => rfl) (by decide) (by decide) (by decide) dX10_init_23 (by decide) (by decide) ?_
  refine id (?_ : Sg M G _ 1 b 3 22 25 [(0, .ref (b + 0))] [.ref (b + 3), .ref (b + 0)] ((([.inr (10, [.ref (b + 1), .ref (b + 2), .null, .null, .null, .null, .null, .null, .null, .null, .int 0, .int 0, .int 0])] ++ [.inl (gI G, 8, .inl (fun _ => 0))]) ++ [.inl (gI G, 8, .inl (fun _ => 0))]) ++ [.inl (gI G, 6, .inl (fun _ => 0))]))
  refine sg_put C 0 2 (.ref (b + 3)) (tyX10 2) ((([.inr (10, [.ref (b + 1), .ref (b + 2), .ref (b + 3), .null, .null, .null, .null, .null, .null, .null, .int 0, .int 0, .int 0])] ++ [.inl (gI G, 8, .inl (fun _ => 0))]) ++ [.inl (gI G, 8, .inl (fun _ => 0))]) ++ [.inl (gI G, 6, .inl (fun _ => 0))]) rfl rfl (R := RX10) (T := TX10) (N := 13) rfl gX10 tyX10 tyX10_ok nmX10 (by decide) kw_118 rfl hin rfl (by decide +kernel) rfl rfl (Nat.le_of_ble_eq_true rfl) dX10_init_25 ?_
  refine sg_aload C 0 dX10_init_28 rfl ?_
  refine sg_bipush C (18 : Int32) dX10_init_29 bp_18 ?_
  refine sg_newA C (atype := .int) (ty := .int) 4 18 0 (18, .inl (fun _ => 0)) rfl rfl kw_102 rfl rfl (fun _ _ h => h) (fun c => rfl) (by decide) (by decide) (by decide) dX10_init_31 (by decide) (by decide) ?_
  refine id (?_ : Sg M G _ 1 b 4 40 33 [(0, .ref (b + 0))] [.ref (b + 4), .ref (b + 0)] (((([.inr (10, [.ref (b + 1), .ref (b + 2), .ref (b + 3), .null, .null, .null, .null, .null, .null, .null, .int 0, .int 0, .int 0])] ++ [.inl (gI G, 8, .inl (fun _ => 0))]) ++ [.inl (gI G, 8, .inl (fun _ => 0))]) ++ [.inl (gI G, 6, .inl (fun _ => 0))]) ++ [.inl (gI G, 18, .inl (fun _ => 0))]))
  refine sg_put C 0 3 (.ref (b + 4)) (tyX10 3) (((([.inr (10, [.ref (b + 1), .ref (b + 2), .ref (b + 3), .ref (b + 4), .null, .null, .null, .null, .null, .null, .int 0, .int 0, .int 0])] ++ [.inl (gI G, 8, .inl (fun _ => 0))]) ++ [.inl (gI G, 8, .inl (fun _ => 0))]) ++ [.inl (gI G, 6, .inl (fun _ => 0))]) ++ [.inl (gI G, 18, .inl (fun _ => 0))]) rfl rfl (R := RX10) (T := TX10) (N := 13) rfl gX10 tyX10 tyX10_ok nmX10 (by decide) kw_121 rfl hin rfl (by decide +kernel) rfl rfl (Nat.le_of_ble_eq_true rfl) dX10_init_33 ?_
  refine sg_aload C 0 dX10_init_36 rfl ?_
  refine sg_bipush C (6 : Int32) dX10_init_37 bp_6 ?_
  refine sg_newA C (atype := .int) (ty := .int) 5 6 0 (6, .inl (fun _ => 0)) rfl rfl kw_102 rfl rfl (fun _ _ h => h) (fun c => rfl) (by decide) (by decide) (by decide) dX10_init_39 (by decide) (by decide) ?_
  refine id (?_ : Sg M G _ 1 b 5 46 41 [(0, .ref (b + 0))] [.ref (b + 5), .ref (b + 0)] ((((([.inr (10, [.ref (b + 1), .ref (b + 2), .ref (b + 3), .ref (b + 4), .null, .null, .null, .null, .null, .null, .int 0, .int 0, .int 0])] ++ [.inl (gI G, 8, .inl (fun _ => 0))]) ++ [.inl (gI G, 8, .inl (fun _ => 0))]) ++ [.inl (gI G, 6, .inl (fun _ => 0))]) ++ [.inl (gI G, 18, .inl (fun _ => 0))]) ++ [.inl (gI G, 6, .inl (fun _ => 0))]))
  refine sg_put C 0 4 (.ref (b + 5)) (tyX10 4) ((((([.inr (10, [.ref (b + 1), .ref (b + 2), .ref (b + 3), .ref (b + 4), .ref (b + 5), .null, .null, .null, .null, .null, .int 0, .int 0, .int 0])] ++ [.inl (gI G, 8, .inl (fun _ => 0))]) ++ [.inl (gI G, 8, .inl (fun _ => 0))]) ++ [.inl (gI G, 6, .inl (fun _ => 0))]) ++ [.inl (gI G, 18, .inl (fun _ => 0))]) ++ [.inl (gI G, 6, .inl (fun _ => 0))]) rfl rfl (R := RX10) (T := TX10) (N := 13) rfl gX10 tyX10 tyX10_ok nmX10 (by decide) kw_124 rfl hin rfl (by decide +kernel) rfl rfl (Nat.le_of_ble_eq_true rfl) dX10_init_41 ?_
  refine sg_aload C 0 dX10_init_44 rfl ?_
  refine sg_bipush C (6 : Int32) dX10_init_45 bp_6 ?_
  refine sg_newA C (atype := .int) (ty := .int) 6 6 0 (6, .inl (fun _ => 0)) rfl rfl kw_102 rfl rfl (fun _ _ h => h) (fun c => rfl) (by decide) (by decide) (by decide) dX10_init_47 (by decide) (by decide) ?_
  refine id (?_ : Sg M G _ 1 b 6 52 49 [(0, .ref (b + 0))] [.ref (b + 6), .ref (b + 0)] (((((([.inr (10, [.ref (b + 1), .ref (b + 2), .ref (b + 3), .ref (b + 4), .ref (b + 5), .null, .null, .null, .null, .null, .int 0, .int 0, .int 0])] ++ [.inl (gI G, 8, .inl (fun _ => 0))]) ++ [.inl (gI G, 8, .inl (fun _ => 0))]) ++ [.inl (gI G, 6, .inl (fun _ => 0))]) ++ [.inl (gI G, 18, .inl (fun _ => 0))]) ++ [.inl (gI G, 6, .inl (fun _ => 0))]) ++ [.inl (gI G, 6, .inl (fun _ => 0))]))
  refine sg_put C 0 5 (.ref (b + 6)) (tyX10 5) (((((([.inr (10, [.ref (b + 1), .ref (b + 2), .ref (b + 3), .ref (b + 4), .ref (b + 5), .ref (b + 6), .null, .null, .null, .null, .int 0, .int 0, .int 0])] ++ [.inl (gI G, 8, .inl (fun _ => 0))]) ++ [.inl (gI G, 8, .inl (fun _ => 0))]) ++ [.inl (gI G, 6, .inl (fun _ => 0))]) ++ [.inl (gI G, 18, .inl (fun _ => 0))]) ++ [.inl (gI G, 6, .inl (fun _ => 0))]) ++ [.inl (gI G, 6, .inl (fun _ => 0))]) rfl rfl (R := RX10) (T := TX10) (N := 13) rfl gX10 tyX10 tyX10_ok nmX10 (by decide) kw_128 rfl hin rfl (by decide +kernel) rfl rfl (Nat.le_of_ble_eq_true rfl) dX10_init_49 ?_
  refine sg_aload C 0 dX10_init_52 rfl ?_
  refine sg_bipush C (8 : Int32) dX10_init_53 bp_8 ?_
  refine sg_newA C (atype := .int) (ty := .int) 7 8 0 (8, .inl (fun _ => 0)) rfl rfl kw_102 rfl rfl (fun _ _ h => h) (fun c => rfl) (by decide) (by decide) (by decide) dX10_init_55 (by decide) (by decide) ?_
  refine id (?_ : Sg M G _ 1 b 7 60 57 [(0, .ref (b + 0))] [.ref (b + 7), .ref (b + 0)] ((((((([.inr (10, [.ref (b + 1), .ref (b + 2), .ref (b + 3), .ref (b + 4), .ref (b + 5), .ref (b + 6), .null, .null, .null, .null, .int 0, .int 0, .int 0])] ++ [.inl (gI G, 8, .inl (fun _ => 0))]) ++ [.inl (gI G, 8, .inl (fun _ => 0))]) ++ [.inl (gI G, 6, .inl (fun _ => 0))]) ++ [.inl (gI G, 18, .inl (fun _ => 0))]) ++ [.inl (gI G, 6, .inl (fun _ => 0))]) ++ [.inl (gI G, 6, .inl (fun _ => 0))]) ++ [.inl (gI G, 8, .inl (fun _ => 0))]))
  refine sg_put C 0 6 (.ref (b + 7)) (tyX10 6) ((((((([.inr (10, [.ref (b + 1), .ref (b + 2), .ref (b + 3), .ref (b + 4), .ref (b + 5), .ref (b + 6), .ref (b + 7), .null, .null, .null, .int 0, .int 0, .int 0])] ++ [.inl (gI G, 8, .inl (fun _ => 0))]) ++ [.inl (gI G, 8, .inl (fun _ => 0))]) ++ [.inl (gI G, 6, .inl (fun _ => 0))]) ++ [.inl (gI G, 18, .inl (fun _ => 0))]) ++ [.inl (gI G, 6, .inl (fun _ => 0))]) ++ [.inl (gI G, 6, .inl (fun _ => 0))]) ++ [.inl (gI G, 8, .inl (fun _ => 0))]) rfl rfl (R := RX10) (T := TX10) (N := 13) rfl gX10 tyX10 tyX10_ok nmX10 (by decide) kw_130 rfl hin rfl (by decide +kernel) rfl rfl (Nat.le_of_ble_eq_true rfl) dX10_init_57 ?_
  refine sg_aload C 0 dX10_init_60 rfl ?_
  refine sg_bipush C (8 : Int32) dX10_init_61 bp_8 ?_
  refine sg_newA C (atype := .int) (ty := .int) 8 8 0 (8, .inl (fun _ => 0)) rfl rfl kw_102 rfl rfl (fun _ _ h => h) (fun c => rfl) (by decide) (by decide) (by decide) dX10_init_63 (by decide) (by decide) ?_
  refine id (?_ : Sg M G _ 1 b 8 68 65 [(0, .ref (b + 0))] [.ref (b + 8), .ref (b + 0)] (((((((([.inr (10, [.ref (b + 1), .ref (b + 2), .ref (b + 3), .ref (b + 4), .ref (b + 5), .ref (b + 6), .ref (b + 7), .null, .null, .null, .int 0, .int 0, .int 0])] ++ [.inl (gI G, 8, .inl (fun _ => 0))]) ++ [.inl (gI G, 8, .inl (fun _ => 0))]) ++ [.inl (gI G, 6, .inl (fun _ => 0))]) ++ [.inl (gI G, 18, .inl (fun _ => 0))]) ++ [.inl (gI G, 6, .inl (fun _ => 0))]) ++ [.inl (gI G, 6, .inl (fun _ => 0))]) ++ [.inl (gI G, 8, .inl (fun _ => 0))]) ++ [.inl (gI G, 8, .inl (fun _ => 0))]))
  refine sg_put C 0 7 (.ref (b + 8)) (tyX10 7) (((((((([.inr (10, [.ref (b + 1), .ref (b + 2), .ref (b + 3), .ref (b + 4), .ref (b + 5), .ref (b + 6), .ref (b + 7), .ref (b + 8), .null, .null, .int 0, .int 0, .int 0])] ++ [.inl (gI G, 8, .inl (fun _ => 0))]) ++ [.inl (gI G, 8, .inl (fun _ => 0))]) ++ [.inl (gI G, 6, .inl (fun _ => 0))]) ++ [.inl (gI G, 18, .inl (fun _ => 0))]) ++ [.inl (gI G, 6, .inl (fun _ => 0))]) ++ [.inl (gI G, 6, .inl (fun _ => 0))]) ++ [.inl (gI G, 8, .inl (fun _ => 0))]) ++ [.inl (gI G, 8, .inl (fun _ => 0))]) rfl rfl (R := RX10) (T := TX10) (N := 13) rfl gX10 tyX10 tyX10_ok nmX10 (by decide) kw_131 rfl hin rfl (by decide +kernel) rfl rfl (Nat.le_of_ble_eq_true rfl) dX10_init_65 ?_
  refine sg_aload C 0 dX10_init_68 rfl ?_
  refine sg_new C 9 [.null, .int 0] rfl rfl (ci := 9) (R := RX9) (T := TX9) (N := 2) rfl gX9 tyX9 tyX9_ok kw_86 kw_87 kw_53 (fun j hj => by rcases (show j = 0 ∨ j = 1 by omega) with rfl | rfl <;> rfl) dX10_init_69 (by decide) (by decide) ?_
  refine id (?_ : Sg M G _ 1 b 9 70 72 [(0, .ref (b + 0))] [.ref (b + 9), .ref (b + 0)] ((((((((([.inr (10, [.ref (b + 1), .ref (b + 2), .ref (b + 3), .ref (b + 4), .ref (b + 5), .ref (b + 6), .ref (b + 7), .ref (b + 8), .null, .null, .int 0, .int 0, .int 0])] ++ [.inl (gI G, 8, .inl (fun _ => 0))]) ++ [.inl (gI G, 8, .inl (fun _ => 0))]) ++ [.inl (gI G, 6, .inl (fun _ => 0))]) ++ [.inl (gI G, 18, .inl (fun _ => 0))]) ++ [.inl (gI G, 6, .inl (fun _ => 0))]) ++ [.inl (gI G, 6, .inl (fun _ => 0))]) ++ [.inl (gI G, 8, .inl (fun _ => 0))]) ++ [.inl (gI G, 8, .inl (fun _ => 0))]) ++ [.inr (9, [.null, .int 0])]))
  refine sg_dup C dX10_init_72 rfl ?_
  refine sg_callI (nc := 9) (ns := 70) (st := [.ref (b + 9), .ref (b + 0)]) (cs := (((((((([.inr (10, [.ref (b + 1), .ref (b + 2), .ref (b + 3), .ref (b + 4), .ref (b + 5), .ref (b + 6), .ref (b + 7), .ref (b + 8), .null, .null, .int 0, .int 0, .int 0])] ++ [.inl (gI G, 8, .inl (fun _ => 0))]) ++ [.inl (gI G, 8, .inl (fun _ => 0))]) ++ [.inl (gI G, 6, .inl (fun _ => 0))]) ++ [.inl (gI G, 18, .inl (fun _ => 0))]) ++ [.inl (gI G, 6, .inl (fun _ => 0))]) ++ [.inl (gI G, 6, .inl (fun _ => 0))]) ++ [.inl (gI G, 8, .inl (fun _ => 0))]) ++ [.inl (gI G, 8, .inl (fun _ => 0))])) (e := .inr (9, [.null, .int 0])) (post := (([.inr (9, [.ref (b + 9 + 1), .int 0])] ++ [.inl (gI G, 24, .inl (fun _ => 0))]))) C 9 [] 10 94 rfl rfl (cn_X9_init (b + 9)) (Or.inr ⟨_, nm_0⟩) kw_89 kw_53 kw_90 rfl dX10_init_73 rfl dd_X9_init ⟨by decide, by decide⟩ (Nat.le_of_ble_eq_true rfl) ⟨by decide, by decide⟩ rfl rfl _ rfl ?_
  refine id (?_ : Sg M G _ 1 b 10 94 76 [(0, .ref (b + 0))] [.ref (b + 9), .ref (b + 0)] (((((((((([.inr (10, [.ref (b + 1), .ref (b + 2), .ref (b + 3), .ref (b + 4), .ref (b + 5), .ref (b + 6), .ref (b + 7), .ref (b + 8), .null, .null, .int 0, .int 0, .int 0])] ++ [.inl (gI G, 8, .inl (fun _ => 0))]) ++ [.inl (gI G, 8, .inl (fun _ => 0))]) ++ [.inl (gI G, 6, .inl (fun _ => 0))]) ++ [.inl (gI G, 18, .inl (fun _ => 0))]) ++ [.inl (gI G, 6, .inl (fun _ => 0))]) ++ [.inl (gI G, 6, .inl (fun _ => 0))]) ++ [.inl (gI G, 8, .inl (fun _ => 0))]) ++ [.inl (gI G, 8, .inl (fun _ => 0))]) ++ [.inr (9, [.ref (b + 9 + 1), .int 0])]) ++ [.inl (gI G, 24, .inl (fun _ => 0))]))
  refine sg_put C 0 8 (.ref (b + 9)) (tyX10 8) (((((((((([.inr (10, [.ref (b + 1), .ref (b + 2), .ref (b + 3), .ref (b + 4), .ref (b + 5), .ref (b + 6), .ref (b + 7), .ref (b + 8), .ref (b + 9), .null, .int 0, .int 0, .int 0])] ++ [.inl (gI G, 8, .inl (fun _ => 0))]) ++ [.inl (gI G, 8, .inl (fun _ => 0))]) ++ [.inl (gI G, 6, .inl (fun _ => 0))]) ++ [.inl (gI G, 18, .inl (fun _ => 0))]) ++ [.inl (gI G, 6, .inl (fun _ => 0))]) ++ [.inl (gI G, 6, .inl (fun _ => 0))]) ++ [.inl (gI G, 8, .inl (fun _ => 0))]) ++ [.inl (gI G, 8, .inl (fun _ => 0))]) ++ [.inr (9, [.ref (b + 9 + 1), .int 0])]) ++ [.inl (gI G, 24, .inl (fun _ => 0))]) rfl rfl (R := RX10) (T := TX10) (N := 13) rfl gX10 tyX10 tyX10_ok nmX10 (by decide) kw_132 rfl hin rfl (by decide +kernel) rfl rfl (Nat.le_of_ble_eq_true rfl) dX10_init_76 ?_
  refine sg_aload C 0 dX10_init_79 rfl ?_
  refine sg_new C 11 [.null, .int 0] rfl rfl (ci := 9) (R := RX9) (T := TX9) (N := 2) rfl gX9 tyX9 tyX9_ok kw_86 kw_87 kw_53 (fun j hj => by rcases (show j = 0 ∨ j = 1 by omega) with rfl | rfl <;> rfl) dX10_init_80 (by decide) (by decide) ?_
  refine id (?_ : Sg M G _ 1 b 11 96 83 [(0, .ref (b + 0))] [.ref (b + 11), .ref (b + 0)] ((((((((((([.inr (10, [.ref (b + 1), .ref (b + 2), .ref (b + 3), .ref (b + 4), .ref (b + 5), .ref (b + 6), .ref (b + 7), .ref (b + 8), .ref (b + 9), .null, .int 0, .int 0, .int 0])] ++ [.inl (gI G, 8, .inl (fun _ => 0))]) ++ [.inl (gI G, 8, .inl (fun _ => 0))]) ++ [.inl (gI G, 6, .inl (fun _ => 0))]) ++ [.inl (gI G, 18, .inl (fun _ => 0))]) ++ [.inl (gI G, 6, .inl (fun _ => 0))]) ++ [.inl (gI G, 6, .inl (fun _ => 0))]) ++ [.inl (gI G, 8, .inl (fun _ => 0))]) ++ [.inl (gI G, 8, .inl (fun _ => 0))]) ++ [.inr (9, [.ref (b + 9 + 1), .int 0])]) ++ [.inl (gI G, 24, .inl (fun _ => 0))]) ++ [.inr (9, [.null, .int 0])]))
  refine sg_dup C dX10_init_83 rfl ?_
  refine sg_callI (nc := 11) (ns := 96) (st := [.ref (b + 11), .ref (b + 0)]) (cs := (((((((((([.inr (10, [.ref (b + 1), .ref (b + 2), .ref (b + 3), .ref (b + 4), .ref (b + 5), .ref (b + 6), .ref (b + 7), .ref (b + 8), .ref (b + 9), .null, .int 0, .int 0, .int 0])] ++ [.inl (gI G, 8, .inl (fun _ => 0))]) ++ [.inl (gI G, 8, .inl (fun _ => 0))]) ++ [.inl (gI G, 6, .inl (fun _ => 0))]) ++ [.inl (gI G, 18, .inl (fun _ => 0))]) ++ [.inl (gI G, 6, .inl (fun _ => 0))]) ++ [.inl (gI G, 6, .inl (fun _ => 0))]) ++ [.inl (gI G, 8, .inl (fun _ => 0))]) ++ [.inl (gI G, 8, .inl (fun _ => 0))]) ++ [.inr (9, [.ref (b + 9 + 1), .int 0])]) ++ [.inl (gI G, 24, .inl (fun _ => 0))])) (e := .inr (9, [.null, .int 0])) (post := (([.inr (9, [.ref (b + 11 + 1), .int 0])] ++ [.inl (gI G, 24, .inl (fun _ => 0))]))) C 11 [] 12 120 rfl rfl (cn_X9_init (b + 11)) (Or.inr ⟨_, nm_0⟩) kw_89 kw_53 kw_90 rfl dX10_init_84 rfl dd_X9_init ⟨by decide, by decide⟩ (Nat.le_of_ble_eq_true rfl) ⟨by decide, by decide⟩ rfl rfl _ rfl ?_
  refine id (?_ : Sg M G _ 1 b 12 120 87 [(0, .ref (b + 0))] [.ref (b + 11), .ref (b + 0)] (((((((((((([.inr (10, [.ref (b + 1), .ref (b + 2), .ref (b + 3), .ref (b + 4), .ref (b + 5), .ref (b + 6), .ref (b + 7), .ref (b + 8), .ref (b + 9), .null, .int 0, .int 0, .int 0])] ++ [.inl (gI G, 8, .inl (fun _ => 0))]) ++ [.inl (gI G, 8, .inl (fun _ => 0))]) ++ [.inl (gI G, 6, .inl (fun _ => 0))]) ++ [.inl (gI G, 18, .inl (fun _ => 0))]) ++ [.inl (gI G, 6, .inl (fun _ => 0))]) ++ [.inl (gI G, 6, .inl (fun _ => 0))]) ++ [.inl (gI G, 8, .inl (fun _ => 0))]) ++ [.inl (gI G, 8, .inl (fun _ => 0))]) ++ [.inr (9, [.ref (b + 9 + 1), .int 0])]) ++ [.inl (gI G, 24, .inl (fun _ => 0))]) ++ [.inr (9, [.ref (b + 11 + 1), .int 0])]) ++ [.inl (gI G, 24, .inl (fun _ => 0))]))
  refine sg_put C 0 9 (.ref (b + 11)) (tyX10 9) (((((((((((([.inr (10, [.ref (b + 1), .ref (b + 2), .ref (b + 3), .ref (b + 4), .ref (b + 5), .ref (b + 6), .ref (b + 7), .ref (b + 8), .ref (b + 9), .ref (b + 11), .int 0, .int 0, .int 0])] ++ [.inl (gI G, 8, .inl (fun _ => 0))]) ++ [.inl (gI G, 8, .inl (fun _ => 0))]) ++ [.inl (gI G, 6, .inl (fun _ => 0))]) ++ [.inl (gI G, 18, .inl (fun _ => 0))]) ++ [.inl (gI G, 6, .inl (fun _ => 0))]) ++ [.inl (gI G, 6, .inl (fun _ => 0))]) ++ [.inl (gI G, 8, .inl (fun _ => 0))]) ++ [.inl (gI G, 8, .inl (fun _ => 0))]) ++ [.inr (9, [.ref (b + 9 + 1), .int 0])]) ++ [.inl (gI G, 24, .inl (fun _ => 0))]) ++ [.inr (9, [.ref (b + 11 + 1), .int 0])]) ++ [.inl (gI G, 24, .inl (fun _ => 0))]) rfl rfl (R := RX10) (T := TX10) (N := 13) rfl gX10 tyX10 tyX10_ok nmX10 (by decide) kw_134 rfl hin rfl (by decide +kernel) rfl rfl (Nat.le_of_ble_eq_true rfl) dX10_init_87 ?_
  refine sg_aload C 0 dX10_init_90 rfl ?_
  refine sg_callWV (S := vSh G b) (N := 13) (σ := zst) (σ' := sV) (kk := 0) (R := RX10) (T := TX10) (NN := 13) C [] rfl (V_O (isV_v G b)) rfl (ct_X10_empty 0 (isV_v G b) zst () sV hV) kw_103 kw_104 kw_105 kw_52 kw_106 dX10_init_91 rfl dd_X10_empty ⟨rfl, rfl⟩ ⟨by decide, by decide⟩ (Nat.le_of_ble_eq_true rfl) ⟨by decide, by decide⟩ _ rfl ?_
  exact sg_vret C dX10_init_94
/-- the nine cells of a contest -/
def cSh (G : Gco) (b : Nat) : Shp := fun k f _ => match k with
  | 0 => .inr (0, [.ref (b + 1), .ref (b + 2), .int (f 2), .int (f 3), .int (f 4)])
  | 1 => .inl (gP G, 6, .inr (.inr (.inr (.inr (fun j => some (b + (3 + 1 * j)))))))
  | 2 => .inl (gI G, 6, .inl f)
  | 3 => .inr (5, [])
  | 4 => .inr (7, [])
  | 5 => .inr (3, [])
  | 6 => .inr (6, [])
  | 7 => .inr (1, [])
  | _ => .inr (4, [])
theorem isCc_c (G : Gco) (b : Nat) : isCc (gW G b (cSh G b) 9) 0 := ⟨⟨Nat.le_of_ble_eq_true rfl, fun _ _ => rfl⟩, Nat.le_of_ble_eq_true rfl, gI G, rfl, fun _ _ => rfl⟩
theorem dd_X0_init : yX0_init.cls ≠ "java/lang/invoke/MethodHandle" ∧ yX0_init.cls ≠ "java/lang/invoke/VarHandle" ∧ (parseMethodDescriptor yX0_init.desc).map (fun d => d.parameters.length) = some 0 := by decide +kernel
set_option maxRecDepth 100000 in
set_option maxHeartbeats 4000000 in
theorem cn_X0_init {l : Launch} {G : Gco} (b : Nat) {sC : Sta} (hC : X0_allByKind 0 zst = some ((), sC)) : Cn l G yX0_init (Cond.code yX0_init cX0_init 1 none :: GT) { frames := 4, cells := 8, slots := 12, locals := 80 } b [.ref (b + 0)] [.inr (0, [.null, .null, .int 0, .int 0, .int 0])] (shl (cSh G b) 9 sC) := by
  refine cn_of [(0, .ref (b + 0))] (by decide +kernel) (Nat.le_of_ble_eq_true rfl) rfl (fun M _ hin C => ?_)
  refine sg_aload C 0 dX0_init_0 rfl ?_
  refine sg_objInit C kw_181 kw_78 kw_79 dX0_init_1 (by decide) (Nat.le_of_ble_eq_true rfl) ?_
  refine sg_aload C 0 dX0_init_4 rfl ?_
  refine sg_bipush C (6 : Int32) dX0_init_5 bp_6 ?_
  refine sg_newR C 1 6 2 rfl rfl kw_182 C.2.2.2.2.2.1.2.2.2.2.1 rfl (by decide) (by decide) (by decide) dX0_init_7 (by decide) (by decide) ?_
  refine id (?_ : Sg M G _ 1 b 1 6 10 [(0, .ref (b + 0))] [.ref (b + 1), .ref (b + 0)] ([.inr (0, [.null, .null, .int 0, .int 0, .int 0])] ++ [.inl (gP G, 6, .inr (.inr (.inr (.inr (fun _ => none)))))]))
  refine sg_put C 0 0 (.ref (b + 1)) (tyX0 0) ([.inr (0, [.ref (b + 1), .null, .int 0, .int 0, .int 0])] ++ [.inl (gP G, 6, .inr (.inr (.inr (.inr (fun _ => none)))))]) rfl rfl (R := RX0) (T := TX0) (N := 5) rfl gX0 tyX0 tyX0_ok nmX0 (by decide) kw_231 rfl hin rfl (by decide +kernel) rfl rfl (Nat.le_of_ble_eq_true rfl) dX0_init_10 ?_
  refine sg_aload C 0 dX0_init_13 rfl ?_
  refine sg_bipush C (6 : Int32) dX0_init_14 bp_6 ?_
  refine sg_newA C (atype := .int) (ty := .int) 2 6 0 (6, .inl (fun _ => 0)) rfl rfl kw_102 rfl rfl (fun _ _ h => h) (fun c => rfl) (by decide) (by decide) (by decide) dX0_init_16 (by decide) (by decide) ?_
  refine id (?_ : Sg M G _ 1 b 2 12 18 [(0, .ref (b + 0))] [.ref (b + 2), .ref (b + 0)] (([.inr (0, [.ref (b + 1), .null, .int 0, .int 0, .int 0])] ++ [.inl (gP G, 6, .inr (.inr (.inr (.inr (fun _ => none)))))]) ++ [.inl (gI G, 6, .inl (fun _ => 0))]))
  refine sg_put C 0 1 (.ref (b + 2)) (tyX0 1) (([.inr (0, [.ref (b + 1), .ref (b + 2), .int 0, .int 0, .int 0])] ++ [.inl (gP G, 6, .inr (.inr (.inr (.inr (fun _ => none)))))]) ++ [.inl (gI G, 6, .inl (fun _ => 0))]) rfl rfl (R := RX0) (T := TX0) (N := 5) rfl gX0 tyX0 tyX0_ok nmX0 (by decide) kw_232 rfl hin rfl (by decide +kernel) rfl rfl (Nat.le_of_ble_eq_true rfl) dX0_init_18 ?_
  refine sg_aload C 0 dX0_init_21 rfl ?_
  refine sg_get C 0 0 (.ref (b + 1)) rfl rfl (R := RX0) (T := TX0) (N := 5) rfl gX0 (by decide) kw_231 dX0_init_22 ?_
  refine sg_iconst C (0 : Int32) dX0_init_25 ic_0 ?_
  refine sg_new C 3 [] rfl rfl (ci := 5) (R := RX5) (T := TX5) (N := 0) rfl gX5 tyX5 tyX5_ok kw_182 kw_184 kw_56 (fun j hj => absurd hj (Nat.not_lt_zero j)) dX0_init_26 (by decide) (by decide) ?_
  refine id (?_ : Sg M G _ 1 b 3 12 29 [(0, .ref (b + 0))] [.ref (b + 3), .int (0 : Int32), .ref (b + 1)] ((([.inr (0, [.ref (b + 1), .ref (b + 2), .int 0, .int 0, .int 0])] ++ [.inl (gP G, 6, .inr (.inr (.inr (.inr (fun _ => none)))))]) ++ [.inl (gI G, 6, .inl (fun _ => 0))]) ++ [.inr (5, [])]))
  refine sg_dup C dX0_init_29 rfl ?_
  refine sg_callI (nc := 3) (ns := 12) (st := [.ref (b + 3), .int (0 : Int32), .ref (b + 1)]) (cs := (([.inr (0, [.ref (b + 1), .ref (b + 2), .int 0, .int 0, .int 0])] ++ [.inl (gP G, 6, .inr (.inr (.inr (.inr (fun _ => none)))))]) ++ [.inl (gI G, 6, .inl (fun _ => 0))])) (e := .inr (5, [])) (post := ([.inr (5, [])])) C 3 [] 3 12 rfl rfl (cn_X5_init (b + 3) (.inr (5, []))) (Or.inr ⟨_, nm_1⟩) kw_186 kw_56 kw_187 rfl dX0_init_30 rfl dd_X5_init ⟨by decide, by decide⟩ (Nat.le_of_ble_eq_true rfl) ⟨by decide, by decide⟩ rfl rfl _ rfl ?_
  refine id (?_ : Sg M G _ 1 b 3 12 33 [(0, .ref (b + 0))] [.ref (b + 3), .int (0 : Int32), .ref (b + 1)] ((([.inr (0, [.ref (b + 1), .ref (b + 2), .int 0, .int 0, .int 0])] ++ [.inl (gP G, 6, .inr (.inr (.inr (.inr (fun _ => none)))))]) ++ [.inl (gI G, 6, .inl (fun _ => 0))]) ++ [.inr (5, [])]))
  refine sg_aast C 1 3 2 ((([.inr (0, [.ref (b + 1), .ref (b + 2), .int 0, .int 0, .int 0])] ++ [.inl (gP G, 6, .inr (.inr (.inr (.inr (va_up (fun _ => none) 0 (some (b + 3)))))))]) ++ [.inl (gI G, 6, .inl (fun _ => 0))]) ++ [.inr (5, [])]) rfl rfl (r := (RX5, TX5, 0)) (ci := 5) (Or.inl rfl) rfl rfl (by unfold vp_in; decide) rfl dX0_init_33 ?_
  refine sg_aload C 0 dX0_init_34 rfl ?_
  refine sg_get C 0 0 (.ref (b + 1)) rfl rfl (R := RX0) (T := TX0) (N := 5) rfl gX0 (by decide) kw_231 dX0_init_35 ?_
  refine sg_iconst C (1 : Int32) dX0_init_38 ic_1 ?_
  refine sg_new C 4 [] rfl rfl (ci := 7) (R := RX7) (T := TX7) (N := 0) rfl gX7 tyX7 tyX7_ok kw_191 kw_192 kw_57 (fun j hj => absurd hj (Nat.not_lt_zero j)) dX0_init_39 (by decide) (by decide) ?_
  refine id (?_ : Sg M G _ 1 b 4 12 42 [(0, .ref (b + 0))] [.ref (b + 4), .int (1 : Int32), .ref (b + 1)] (((([.inr (0, [.ref (b + 1), .ref (b + 2), .int 0, .int 0, .int 0])] ++ [.inl (gP G, 6, .inr (.inr (.inr (.inr (va_up (fun _ => none) 0 (some (b + 3)))))))]) ++ [.inl (gI G, 6, .inl (fun _ => 0))]) ++ [.inr (5, [])]) ++ [.inr (7, [])]))
  refine sg_dup C dX0_init_42 rfl ?_
  refine sg_callI (nc := 4) (ns := 12) (st := [.ref (b + 4), .int (1 : Int32), .ref (b + 1)]) (cs := ((([.inr (0, [.ref (b + 1), .ref (b + 2), .int 0, .int 0, .int 0])] ++ [.inl (gP G, 6, .inr (.inr (.inr (.inr (va_up (fun _ => none) 0 (some (b + 3)))))))]) ++ [.inl (gI G, 6, .inl (fun _ => 0))]) ++ [.inr (5, [])])) (e := .inr (7, [])) (post := ([.inr (7, [])])) C 4 [] 4 12 rfl rfl (cn_X7_init (b + 4) (.inr (7, []))) (Or.inr ⟨_, nm_2⟩) kw_194 kw_57 kw_195 rfl dX0_init_43 rfl dd_X7_init ⟨by decide, by decide⟩ (Nat.le_of_ble_eq_true rfl) ⟨by decide, by decide⟩ rfl rfl _ rfl ?_
  refine id (?_ : Sg M G _ 1 b 4 12 46 [(0, .ref (b + 0))] [.ref (b + 4), .int (1 : Int32), .ref (b + 1)] (((([.inr (0, [.ref (b + 1), .ref (b + 2), .int 0, .int 0, .int 0])] ++ [.inl (gP G, 6, .inr (.inr (.inr (.inr (va_up (fun _ => none) 0 (some (b + 3)))))))]) ++ [.inl (gI G, 6, .inl (fun _ => 0))]) ++ [.inr (5, [])]) ++ [.inr (7, [])]))
  refine sg_aast C 1 4 2 (((([.inr (0, [.ref (b + 1), .ref (b + 2), .int 0, .int 0, .int 0])] ++ [.inl (gP G, 6, .inr (.inr (.inr (.inr (va_up (va_up (fun _ => none) 0 (some (b + 3))) 1 (some (b + 4)))))))]) ++ [.inl (gI G, 6, .inl (fun _ => 0))]) ++ [.inr (5, [])]) ++ [.inr (7, [])]) rfl rfl (r := (RX7, TX7, 0)) (ci := 7) (Or.inr (C.2.2.2.2.2.1.2.2.2.2.2.2 _ (by decide))) rfl rfl (by unfold vp_in; decide) rfl dX0_init_46 ?_
  refine sg_aload C 0 dX0_init_47 rfl ?_
  refine sg_get C 0 0 (.ref (b + 1)) rfl rfl (R := RX0) (T := TX0) (N := 5) rfl gX0 (by decide) kw_231 dX0_init_48 ?_
  refine sg_iconst C (2 : Int32) dX0_init_51 ic_2 ?_
  refine sg_new C 5 [] rfl rfl (ci := 3) (R := RX3) (T := TX3) (N := 0) rfl gX3 tyX3 tyX3_ok kw_198 kw_199 kw_58 (fun j hj => absurd hj (Nat.not_lt_zero j)) dX0_init_52 (by decide) (by decide) ?_
  refine id (?_ : Sg M G _ 1 b 5 12 55 [(0, .ref (b + 0))] [.ref (b + 5), .int (2 : Int32), .ref (b + 1)] ((((([.inr (0, [.ref (b + 1), .ref (b + 2), .int 0, .int 0, .int 0])] ++ [.inl (gP G, 6, .inr (.inr (.inr (.inr (va_up (va_up (fun _ => none) 0 (some (b + 3))) 1 (some (b + 4)))))))]) ++ [.inl (gI G, 6, .inl (fun _ => 0))]) ++ [.inr (5, [])]) ++ [.inr (7, [])]) ++ [.inr (3, [])]))
  refine sg_dup C dX0_init_55 rfl ?_
  refine sg_callI (nc := 5) (ns := 12) (st := [.ref (b + 5), .int (2 : Int32), .ref (b + 1)]) (cs := (((([.inr (0, [.ref (b + 1), .ref (b + 2), .int 0, .int 0, .int 0])] ++ [.inl (gP G, 6, .inr (.inr (.inr (.inr (va_up (va_up (fun _ => none) 0 (some (b + 3))) 1 (some (b + 4)))))))]) ++ [.inl (gI G, 6, .inl (fun _ => 0))]) ++ [.inr (5, [])]) ++ [.inr (7, [])])) (e := .inr (3, [])) (post := ([.inr (3, [])])) C 5 [] 5 12 rfl rfl (cn_X3_init (b + 5) (.inr (3, []))) (Or.inr ⟨_, nm_4⟩) kw_201 kw_58 kw_202 rfl dX0_init_56 rfl dd_X3_init ⟨by decide, by decide⟩ (Nat.le_of_ble_eq_true rfl) ⟨by decide, by decide⟩ rfl rfl _ rfl ?_
  refine id (?_ : Sg M G _ 1 b 5 12 59 [(0, .ref (b + 0))] [.ref (b + 5), .int (2 : Int32), .ref (b + 1)] ((((([.inr (0, [.ref (b + 1), .ref (b + 2), .int 0, .int 0, .int 0])] ++ [.inl (gP G, 6, .inr (.inr (.inr (.inr (va_up (va_up (fun _ => none) 0 (some (b + 3))) 1 (some (b + 4)))))))]) ++ [.inl (gI G, 6, .inl (fun _ => 0))]) ++ [.inr (5, [])]) ++ [.inr (7, [])]) ++ [.inr (3, [])]))
  refine sg_aast C 1 5 2 ((((([.inr (0, [.ref (b + 1), .ref (b + 2), .int 0, .int 0, .int 0])] ++ [.inl (gP G, 6, .inr (.inr (.inr (.inr (va_up (va_up (va_up (fun _ => none) 0 (some (b + 3))) 1 (some (b + 4))) 2 (some (b + 5)))))))]) ++ [.inl (gI G, 6, .inl (fun _ => 0))]) ++ [.inr (5, [])]) ++ [.inr (7, [])]) ++ [.inr (3, [])]) rfl rfl (r := (RX3, TX3, 0)) (ci := 3) (Or.inr (C.2.2.2.2.2.1.2.2.2.2.2.2 _ (by decide))) rfl rfl (by unfold vp_in; decide) rfl dX0_init_59 ?_
  refine sg_aload C 0 dX0_init_60 rfl ?_
  refine sg_get C 0 0 (.ref (b + 1)) rfl rfl (R := RX0) (T := TX0) (N := 5) rfl gX0 (by decide) kw_231 dX0_init_61 ?_
  refine sg_iconst C (3 : Int32) dX0_init_64 ic_3 ?_
  refine sg_new C 6 [] rfl rfl (ci := 6) (R := RX6) (T := TX6) (N := 0) rfl gX6 tyX6 tyX6_ok kw_205 kw_206 kw_59 (fun j hj => absurd hj (Nat.not_lt_zero j)) dX0_init_65 (by decide) (by decide) ?_
  refine id (?_ : Sg M G _ 1 b 6 12 68 [(0, .ref (b + 0))] [.ref (b + 6), .int (3 : Int32), .ref (b + 1)] (((((([.inr (0, [.ref (b + 1), .ref (b + 2), .int 0, .int 0, .int 0])] ++ [.inl (gP G, 6, .inr (.inr (.inr (.inr (va_up (va_up (va_up (fun _ => none) 0 (some (b + 3))) 1 (some (b + 4))) 2 (some (b + 5)))))))]) ++ [.inl (gI G, 6, .inl (fun _ => 0))]) ++ [.inr (5, [])]) ++ [.inr (7, [])]) ++ [.inr (3, [])]) ++ [.inr (6, [])]))
  refine sg_dup C dX0_init_68 rfl ?_
  refine sg_callI (nc := 6) (ns := 12) (st := [.ref (b + 6), .int (3 : Int32), .ref (b + 1)]) (cs := ((((([.inr (0, [.ref (b + 1), .ref (b + 2), .int 0, .int 0, .int 0])] ++ [.inl (gP G, 6, .inr (.inr (.inr (.inr (va_up (va_up (va_up (fun _ => none) 0 (some (b + 3))) 1 (some (b + 4))) 2 (some (b + 5)))))))]) ++ [.inl (gI G, 6, .inl (fun _ => 0))]) ++ [.inr (5, [])]) ++ [.inr (7, [])]) ++ [.inr (3, [])])) (e := .inr (6, [])) (post := ([.inr (6, [])])) C 6 [] 6 12 rfl rfl (cn_X6_init (b + 6) (.inr (6, []))) (Or.inr ⟨_, nm_6⟩) kw_208 kw_59 kw_209 rfl dX0_init_69 rfl dd_X6_init ⟨by decide, by decide⟩ (Nat.le_of_ble_eq_true rfl) ⟨by decide, by decide⟩ rfl rfl _ rfl ?_
  refine id (?_ : Sg M G _ 1 b 6 12 72 [(0, .ref (b + 0))] [.ref (b + 6), .int (3 : Int32), .ref (b + 1)] (((((([.inr (0, [.ref (b + 1), .ref (b + 2), .int 0, .int 0, .int 0])] ++ [.inl (gP G, 6, .inr (.inr (.inr (.inr (va_up (va_up (va_up (fun _ => none) 0 (some (b + 3))) 1 (some (b + 4))) 2 (some (b + 5)))))))]) ++ [.inl (gI G, 6, .inl (fun _ => 0))]) ++ [.inr (5, [])]) ++ [.inr (7, [])]) ++ [.inr (3, [])]) ++ [.inr (6, [])]))
  refine sg_aast C 1 6 2 (((((([.inr (0, [.ref (b + 1), .ref (b + 2), .int 0, .int 0, .int 0])] ++ [.inl (gP G, 6, .inr (.inr (.inr (.inr (va_up (va_up (va_up (va_up (fun _ => none) 0 (some (b + 3))) 1 (some (b + 4))) 2 (some (b + 5))) 3 (some (b + 6)))))))]) ++ [.inl (gI G, 6, .inl (fun _ => 0))]) ++ [.inr (5, [])]) ++ [.inr (7, [])]) ++ [.inr (3, [])]) ++ [.inr (6, [])]) rfl rfl (r := (RX6, TX6, 0)) (ci := 6) (Or.inr (C.2.2.2.2.2.1.2.2.2.2.2.2 _ (by decide))) rfl rfl (by unfold vp_in; decide) rfl dX0_init_72 ?_
  refine sg_aload C 0 dX0_init_73 rfl ?_
  refine sg_get C 0 0 (.ref (b + 1)) rfl rfl (R := RX0) (T := TX0) (N := 5) rfl gX0 (by decide) kw_231 dX0_init_74 ?_
  refine sg_iconst C (4 : Int32) dX0_init_77 ic_4 ?_
  refine sg_new C 7 [] rfl rfl (ci := 1) (R := RX1) (T := TX1) (N := 0) rfl gX1 tyX1 tyX1_ok kw_212 kw_213 kw_60 (fun j hj => absurd hj (Nat.not_lt_zero j)) dX0_init_78 (by decide) (by decide) ?_
  refine id (?_ : Sg M G _ 1 b 7 12 81 [(0, .ref (b + 0))] [.ref (b + 7), .int (4 : Int32), .ref (b + 1)] ((((((([.inr (0, [.ref (b + 1), .ref (b + 2), .int 0, .int 0, .int 0])] ++ [.inl (gP G, 6, .inr (.inr (.inr (.inr (va_up (va_up (va_up (va_up (fun _ => none) 0 (some (b + 3))) 1 (some (b + 4))) 2 (some (b + 5))) 3 (some (b + 6)))))))]) ++ [.inl (gI G, 6, .inl (fun _ => 0))]) ++ [.inr (5, [])]) ++ [.inr (7, [])]) ++ [.inr (3, [])]) ++ [.inr (6, [])]) ++ [.inr (1, [])]))
  refine sg_dup C dX0_init_81 rfl ?_
  refine sg_callI (nc := 7) (ns := 12) (st := [.ref (b + 7), .int (4 : Int32), .ref (b + 1)]) (cs := (((((([.inr (0, [.ref (b + 1), .ref (b + 2), .int 0, .int 0, .int 0])] ++ [.inl (gP G, 6, .inr (.inr (.inr (.inr (va_up (va_up (va_up (va_up (fun _ => none) 0 (some (b + 3))) 1 (some (b + 4))) 2 (some (b + 5))) 3 (some (b + 6)))))))]) ++ [.inl (gI G, 6, .inl (fun _ => 0))]) ++ [.inr (5, [])]) ++ [.inr (7, [])]) ++ [.inr (3, [])]) ++ [.inr (6, [])])) (e := .inr (1, [])) (post := ([.inr (1, [])])) C 7 [] 7 12 rfl rfl (cn_X1_init (b + 7) (.inr (1, []))) (Or.inr ⟨_, nm_8⟩) kw_215 kw_60 kw_216 rfl dX0_init_82 rfl dd_X1_init ⟨by decide, by decide⟩ (Nat.le_of_ble_eq_true rfl) ⟨by decide, by decide⟩ rfl rfl _ rfl ?_
  refine id (?_ : Sg M G _ 1 b 7 12 85 [(0, .ref (b + 0))] [.ref (b + 7), .int (4 : Int32), .ref (b + 1)] ((((((([.inr (0, [.ref (b + 1), .ref (b + 2), .int 0, .int 0, .int 0])] ++ [.inl (gP G, 6, .inr (.inr (.inr (.inr (va_up (va_up (va_up (va_up (fun _ => none) 0 (some (b + 3))) 1 (some (b + 4))) 2 (some (b + 5))) 3 (some (b + 6)))))))]) ++ [.inl (gI G, 6, .inl (fun _ => 0))]) ++ [.inr (5, [])]) ++ [.inr (7, [])]) ++ [.inr (3, [])]) ++ [.inr (6, [])]) ++ [.inr (1, [])]))
  refine sg_aast C 1 7 2 ((((((([.inr (0, [.ref (b + 1), .ref (b + 2), .int 0, .int 0, .int 0])] ++ [.inl (gP G, 6, .inr (.inr (.inr (.inr (va_up (va_up (va_up (va_up (va_up (fun _ => none) 0 (some (b + 3))) 1 (some (b + 4))) 2 (some (b + 5))) 3 (some (b + 6))) 4 (some (b + 7)))))))]) ++ [.inl (gI G, 6, .inl (fun _ => 0))]) ++ [.inr (5, [])]) ++ [.inr (7, [])]) ++ [.inr (3, [])]) ++ [.inr (6, [])]) ++ [.inr (1, [])]) rfl rfl (r := (RX1, TX1, 0)) (ci := 1) (Or.inr (C.2.2.2.2.2.1.2.2.2.2.2.2 _ (by decide))) rfl rfl (by unfold vp_in; decide) rfl dX0_init_85 ?_
  refine sg_aload C 0 dX0_init_86 rfl ?_
  refine sg_get C 0 0 (.ref (b + 1)) rfl rfl (R := RX0) (T := TX0) (N := 5) rfl gX0 (by decide) kw_231 dX0_init_87 ?_
  refine sg_iconst C (5 : Int32) dX0_init_90 ic_5 ?_
  refine sg_new C 8 [] rfl rfl (ci := 4) (R := RX4) (T := TX4) (N := 0) rfl gX4 tyX4 tyX4_ok kw_219 kw_220 kw_61 (fun j hj => absurd hj (Nat.not_lt_zero j)) dX0_init_91 (by decide) (by decide) ?_
  refine id (?_ : Sg M G _ 1 b 8 12 94 [(0, .ref (b + 0))] [.ref (b + 8), .int (5 : Int32), .ref (b + 1)] (((((((([.inr (0, [.ref (b + 1), .ref (b + 2), .int 0, .int 0, .int 0])] ++ [.inl (gP G, 6, .inr (.inr (.inr (.inr (va_up (va_up (va_up (va_up (va_up (fun _ => none) 0 (some (b + 3))) 1 (some (b + 4))) 2 (some (b + 5))) 3 (some (b + 6))) 4 (some (b + 7)))))))]) ++ [.inl (gI G, 6, .inl (fun _ => 0))]) ++ [.inr (5, [])]) ++ [.inr (7, [])]) ++ [.inr (3, [])]) ++ [.inr (6, [])]) ++ [.inr (1, [])]) ++ [.inr (4, [])]))
  refine sg_dup C dX0_init_94 rfl ?_
  refine sg_callI (nc := 8) (ns := 12) (st := [.ref (b + 8), .int (5 : Int32), .ref (b + 1)]) (cs := ((((((([.inr (0, [.ref (b + 1), .ref (b + 2), .int 0, .int 0, .int 0])] ++ [.inl (gP G, 6, .inr (.inr (.inr (.inr (va_up (va_up (va_up (va_up (va_up (fun _ => none) 0 (some (b + 3))) 1 (some (b + 4))) 2 (some (b + 5))) 3 (some (b + 6))) 4 (some (b + 7)))))))]) ++ [.inl (gI G, 6, .inl (fun _ => 0))]) ++ [.inr (5, [])]) ++ [.inr (7, [])]) ++ [.inr (3, [])]) ++ [.inr (6, [])]) ++ [.inr (1, [])])) (e := .inr (4, [])) (post := ([.inr (4, [])])) C 8 [] 8 12 rfl rfl (cn_X4_init (b + 8) (.inr (4, []))) (Or.inr ⟨_, nm_10⟩) kw_222 kw_61 kw_223 rfl dX0_init_95 rfl dd_X4_init ⟨by decide, by decide⟩ (Nat.le_of_ble_eq_true rfl) ⟨by decide, by decide⟩ rfl rfl _ rfl ?_
  refine id (?_ : Sg M G _ 1 b 8 12 98 [(0, .ref (b + 0))] [.ref (b + 8), .int (5 : Int32), .ref (b + 1)] (((((((([.inr (0, [.ref (b + 1), .ref (b + 2), .int 0, .int 0, .int 0])] ++ [.inl (gP G, 6, .inr (.inr (.inr (.inr (va_up (va_up (va_up (va_up (va_up (fun _ => none) 0 (some (b + 3))) 1 (some (b + 4))) 2 (some (b + 5))) 3 (some (b + 6))) 4 (some (b + 7)))))))]) ++ [.inl (gI G, 6, .inl (fun _ => 0))]) ++ [.inr (5, [])]) ++ [.inr (7, [])]) ++ [.inr (3, [])]) ++ [.inr (6, [])]) ++ [.inr (1, [])]) ++ [.inr (4, [])]))
  refine sg_aast C 1 8 2 (((((((([.inr (0, [.ref (b + 1), .ref (b + 2), .int 0, .int 0, .int 0])] ++ [.inl (gP G, 6, .inr (.inr (.inr (.inr (va_up (va_up (va_up (va_up (va_up (va_up (fun _ => none) 0 (some (b + 3))) 1 (some (b + 4))) 2 (some (b + 5))) 3 (some (b + 6))) 4 (some (b + 7))) 5 (some (b + 8)))))))]) ++ [.inl (gI G, 6, .inl (fun _ => 0))]) ++ [.inr (5, [])]) ++ [.inr (7, [])]) ++ [.inr (3, [])]) ++ [.inr (6, [])]) ++ [.inr (1, [])]) ++ [.inr (4, [])]) rfl rfl (r := (RX4, TX4, 0)) (ci := 4) (Or.inr (C.2.2.2.2.2.1.2.2.2.2.2.2 _ (by decide))) rfl rfl (by unfold vp_in; decide) rfl dX0_init_98 ?_
  refine sg_aload C 0 dX0_init_99 rfl ?_
  refine sg_conv (n := 6) 1 (((((((([.inr (0, [.ref (b + 1), .ref (b + 2), .int 0, .int 0, .int 0])] ++ [.inl (gP G, 6, .inr (.inr (.inr (.inr (fun j => some (b + (3 + 1 * j)))))))]) ++ [.inl (gI G, 6, .inl (fun _ => 0))]) ++ [.inr (5, [])]) ++ [.inr (7, [])]) ++ [.inr (3, [])]) ++ [.inr (6, [])]) ++ [.inr (1, [])]) ++ [.inr (4, [])]) rfl (fun j hj => by rcases (show j = 0 ∨ j = 1 ∨ j = 2 ∨ j = 3 ∨ j = 4 ∨ j = 5 by omega) with rfl | rfl | rfl | rfl | rfl | rfl <;> rfl) rfl ?_
  refine sg_callWV (S := cSh G b) (N := 9) (σ := zst) (σ' := sC) (kk := 0) (R := RX0) (T := TX0) (NN := 5) C [] rfl (isCc_c G b).1 rfl (ct_X0_allByKind 0 (isCc_c G b) zst () sC hC) kw_226 kw_227 kw_228 kw_55 kw_229 dX0_init_100 rfl dd_X0_allByKind ⟨rfl, rfl⟩ ⟨by decide, by decide⟩ (Nat.le_of_ble_eq_true rfl) ⟨by decide, by decide⟩ _ rfl ?_
  exact sg_vret C dX0_init_103
theorem dd_X8_init : yX8_init.cls ≠ "java/lang/invoke/MethodHandle" ∧ yX8_init.cls ≠ "java/lang/invoke/VarHandle" ∧ (parseMethodDescriptor yX8_init.desc).map (fun d => d.parameters.length) = some 0 := by decide +kernel
set_option maxRecDepth 100000 in
set_option maxHeartbeats 4000000 in
theorem cn_X8_init {l : Launch} {G : Gco} (b : Nat) : Cn l G yX8_init (Cond.code yX8_init cX8_init 1 none :: GT) { frames := 1, cells := 1, slots := 150, locals := 20 } b [.ref (b + 0)] [.inr (8, [.null, .int 0, .int 0, .int 0, .int 0, .int 0])] ([.inr (8, [.ref (b + 1), .int 0, .int 0, .int 0, .int 0, .int 0])] ++ [.inl (gI G, 150, .inl (fun _ => 0))]) := by
  refine cn_of [(0, .ref (b + 0))] (by decide +kernel) (Nat.le_of_ble_eq_true rfl) rfl (fun M _ hin C => ?_)
  refine sg_aload C 0 dX8_init_0 rfl ?_
  refine sg_objInit C kw_279 kw_78 kw_79 dX8_init_1 (by decide) (Nat.le_of_ble_eq_true rfl) ?_
  refine sg_aload C 0 dX8_init_4 rfl ?_
  refine sg_sipush C (150 : Int32) dX8_init_5 sp_150 ?_
  refine sg_newA C (atype := .int) (ty := .int) 1 150 0 (150, .inl (fun _ => 0)) rfl rfl kw_102 rfl rfl (fun _ _ h => h) (fun c => rfl) (by decide) (by decide) (by decide) dX8_init_8 (by decide) (by decide) ?_
  refine id (?_ : Sg M G _ 1 b 1 150 10 [(0, .ref (b + 0))] [.ref (b + 1), .ref (b + 0)] ([.inr (8, [.null, .int 0, .int 0, .int 0, .int 0, .int 0])] ++ [.inl (gI G, 150, .inl (fun _ => 0))]))
  refine sg_put C 0 0 (.ref (b + 1)) (tyX8 0) ([.inr (8, [.ref (b + 1), .int 0, .int 0, .int 0, .int 0, .int 0])] ++ [.inl (gI G, 150, .inl (fun _ => 0))]) rfl rfl (R := RX8) (T := TX8) (N := 6) rfl gX8 tyX8 tyX8_ok nmX8 (by decide) kw_280 rfl hin rfl (by decide +kernel) rfl rfl (Nat.le_of_ble_eq_true rfl) dX8_init_10 ?_
  exact sg_vret C dX8_init_13
theorem dd_X2_init : yX2_init.cls ≠ "java/lang/invoke/MethodHandle" ∧ yX2_init.cls ≠ "java/lang/invoke/VarHandle" ∧ (parseMethodDescriptor yX2_init.desc).map (fun d => d.parameters.length) = some 1 := by decide +kernel
set_option maxRecDepth 100000 in
set_option maxHeartbeats 4000000 in
theorem cn_X2_init {l : Launch} {G : Gco} (b : Nat) (cq : Nat) {sV : Sta} (hV : X10_empty 0 zst = some ((), sV)) : Cn l G yX2_init (Cond.code yX2_init cX2_init 2 none :: GT) { frames := 3, cells := 15, slots := 261, locals := 63 } b [.ref (b + 0), .ref cq] [.inr (2, [.null, .null, .null, .null])] ((([.inr (2, [.ref cq, .ref (b + 1), .ref (b + 14), .ref (b + 15)])] ++ shl (vSh G (b + 1)) 13 sV) ++ [.inl (gI G, 64, .inl (fun _ => 0))]) ++ [.inl (gI G, 64, .inl (fun _ => 0))]) := by
  refine cn_of [(0, .ref (b + 0)), (1, .ref cq)] (by decide +kernel) (Nat.le_of_ble_eq_true rfl) rfl (fun M _ hin C => ?_)
  refine sg_aload C 0 dX2_init_0 rfl ?_
  refine sg_objInit C kw_257 kw_78 kw_79 dX2_init_1 (by decide) (Nat.le_of_ble_eq_true rfl) ?_
  refine sg_aload C 0 dX2_init_4 rfl ?_
  refine sg_new C 1 [.null, .null, .null, .null, .null, .null, .null, .null, .null, .null, .int 0, .int 0, .int 0] rfl rfl (ci := 10) (R := RX10) (T := TX10) (N := 13) rfl gX10 tyX10 tyX10_ok kw_258 kw_81 kw_52 (fun j hj => by rcases (show j = 0 ∨ j = 1 ∨ j = 2 ∨ j = 3 ∨ j = 4 ∨ j = 5 ∨ j = 6 ∨ j = 7 ∨ j = 8 ∨ j = 9 ∨ j = 10 ∨ j = 11 ∨ j = 12 by omega) with rfl | rfl | rfl | rfl | rfl | rfl | rfl | rfl | rfl | rfl | rfl | rfl | rfl <;> rfl) dX2_init_5 (by decide) (by decide) ?_
  refine id (?_ : Sg M G _ 2 b 1 13 8 [(0, .ref (b + 0)), (1, .ref cq)] [.ref (b + 1), .ref (b + 0)] ([.inr (2, [.null, .null, .null, .null])] ++ [.inr (10, [.null, .null, .null, .null, .null, .null, .null, .null, .null, .null, .int 0, .int 0, .int 0])]))
  refine sg_dup C dX2_init_8 rfl ?_
  refine sg_callI (nc := 1) (ns := 13) (st := [.ref (b + 1), .ref (b + 0)]) (cs := [.inr (2, [.null, .null, .null, .null])]) (e := .inr (10, [.null, .null, .null, .null, .null, .null, .null, .null, .null, .null, .int 0, .int 0, .int 0])) (post := (shl (vSh G (b + 1)) 13 sV)) C 1 [] 13 133 rfl rfl (cn_X10_init (b + 1) hV) (Or.inl kw_259) kw_83 kw_52 kw_84 rfl dX2_init_9 rfl dd_X10_init ⟨by decide, by decide⟩ (Nat.le_of_ble_eq_true rfl) ⟨by decide, by decide⟩ rfl rfl _ rfl ?_
  refine id (?_ : Sg M G _ 2 b 13 133 12 [(0, .ref (b + 0)), (1, .ref cq)] [.ref (b + 1), .ref (b + 0)] ([.inr (2, [.null, .null, .null, .null])] ++ shl (vSh G (b + 1)) 13 sV))
  refine sg_put C 0 1 (.ref (b + 1)) (tyX2 1) ([.inr (2, [.null, .ref (b + 1), .null, .null])] ++ shl (vSh G (b + 1)) 13 sV) rfl rfl (R := RX2) (T := TX2) (N := 4) rfl gX2 tyX2 tyX2_ok nmX2 (by decide) kw_261 rfl hin rfl (by decide +kernel) rfl rfl (Nat.le_of_ble_eq_true rfl) dX2_init_12 ?_
  refine sg_aload C 0 dX2_init_15 rfl ?_
  refine sg_bipush C (64 : Int32) dX2_init_16 bp_64 ?_
  refine sg_newA C (atype := .int) (ty := .int) 14 64 0 (64, .inl (fun _ => 0)) rfl rfl kw_102 rfl rfl (fun _ _ h => h) (fun c => rfl) (by decide) (by decide) (by decide) dX2_init_18 (by decide) (by decide) ?_
  refine id (?_ : Sg M G _ 2 b 14 197 20 [(0, .ref (b + 0)), (1, .ref cq)] [.ref (b + 14), .ref (b + 0)] (([.inr (2, [.null, .ref (b + 1), .null, .null])] ++ shl (vSh G (b + 1)) 13 sV) ++ [.inl (gI G, 64, .inl (fun _ => 0))]))
  refine sg_put C 0 2 (.ref (b + 14)) (tyX2 2) (([.inr (2, [.null, .ref (b + 1), .ref (b + 14), .null])] ++ shl (vSh G (b + 1)) 13 sV) ++ [.inl (gI G, 64, .inl (fun _ => 0))]) rfl rfl (R := RX2) (T := TX2) (N := 4) rfl gX2 tyX2 tyX2_ok nmX2 (by decide) kw_263 rfl hin rfl (by decide +kernel) rfl rfl (Nat.le_of_ble_eq_true rfl) dX2_init_20 ?_
  refine sg_aload C 0 dX2_init_23 rfl ?_
  refine sg_bipush C (64 : Int32) dX2_init_24 bp_64 ?_
  refine sg_newA C (atype := .int) (ty := .int) 15 64 0 (64, .inl (fun _ => 0)) rfl rfl kw_102 rfl rfl (fun _ _ h => h) (fun c => rfl) (by decide) (by decide) (by decide) dX2_init_26 (by decide) (by decide) ?_
  refine id (?_ : Sg M G _ 2 b 15 261 28 [(0, .ref (b + 0)), (1, .ref cq)] [.ref (b + 15), .ref (b + 0)] ((([.inr (2, [.null, .ref (b + 1), .ref (b + 14), .null])] ++ shl (vSh G (b + 1)) 13 sV) ++ [.inl (gI G, 64, .inl (fun _ => 0))]) ++ [.inl (gI G, 64, .inl (fun _ => 0))]))
  refine sg_put C 0 3 (.ref (b + 15)) (tyX2 3) ((([.inr (2, [.null, .ref (b + 1), .ref (b + 14), .ref (b + 15)])] ++ shl (vSh G (b + 1)) 13 sV) ++ [.inl (gI G, 64, .inl (fun _ => 0))]) ++ [.inl (gI G, 64, .inl (fun _ => 0))]) rfl rfl (R := RX2) (T := TX2) (N := 4) rfl gX2 tyX2 tyX2_ok nmX2 (by decide) kw_264 rfl hin rfl (by decide +kernel) rfl rfl (Nat.le_of_ble_eq_true rfl) dX2_init_28 ?_
  refine sg_aload C 0 dX2_init_31 rfl ?_
  refine sg_aload C 1 dX2_init_32 rfl ?_
  refine sg_put C 0 0 (.ref cq) (tyX2 0) ((([.inr (2, [.ref cq, .ref (b + 1), .ref (b + 14), .ref (b + 15)])] ++ shl (vSh G (b + 1)) 13 sV) ++ [.inl (gI G, 64, .inl (fun _ => 0))]) ++ [.inl (gI G, 64, .inl (fun _ => 0))]) rfl rfl (R := RX2) (T := TX2) (N := 4) rfl gX2 tyX2 tyX2_ok nmX2 (by decide) kw_260 rfl hin rfl (by decide +kernel) rfl rfl (Nat.le_of_ble_eq_true rfl) dX2_init_33 ?_
  exact sg_vret C dX2_init_36
