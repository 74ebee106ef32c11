theorem dd_X10_takeCourse : yX10_takeCourse.cls = RX10 ∧ yX10_takeCourse.cls ≠ "java/lang/invoke/MethodHandle" ∧ yX10_takeCourse.cls ≠ "java/lang/invoke/VarHandle" ∧ (parseMethodDescriptor yX10_takeCourse.desc).map (fun d => d.parameters.length) = some 1 := by decide +kernel
set_option maxRecDepth 100000 in
set_option maxHeartbeats 4000000 in
theorem ct_X10_takeCourse {l : Launch} {w : Wco} (rv : Nat) (rv2 : Nat) (hrv : isV w rv) (hrv2 : isV w rv2) (s0 : Sta) (qq : Unit) (ss : Sta) (hh : X10_takeCourse rv rv2 s0 = some (qq, ss)) : Ct l w yX10_takeCourse (Cond.code yX10_takeCourse cX10_takeCourse 2 none :: GT) { frames := 1, cells := 0, slots := 0, locals := 40 } [.ref (wad w rv), .ref (wad w rv2)] s0 (oV qq) ss := by
  refine ct_of [(0, .ref (wad w rv)), (1, .ref (wad w rv2))] (by decide +kernel) (Nat.le_of_ble_eq_true rfl) rfl hh (fun M _ C => ?_)
  unfold X10_takeCourse
  refine sm_aload_n C 1 dX10_takeCourse_0 rfl ?_
  refine sm_getR C (ci := 10) (R := RX10) (T := TX10) (N := 13) (j := 0) (V_O hrv2).2 (V_O hrv2).1 rfl gX10 (by decide) kw_110 dX10_takeCourse_1 (fun _ _ => rfl) ?_
  refine sm_iconst C (0 : Int32) dX10_takeCourse_4 ic_0 ?_
  refine sm_aload_n C 0 dX10_takeCourse_5 rfl ?_
  refine sm_getR C (ci := 10) (R := RX10) (T := TX10) (N := 13) (j := 0) (V_O hrv).2 (V_O hrv).1 rfl gX10 (by decide) kw_110 dX10_takeCourse_6 (fun _ _ => rfl) ?_
  refine sm_iconst C (0 : Int32) dX10_takeCourse_9 ic_0 ?_
  refine sm_bipush C (8 : Int32) dX10_takeCourse_10 bp_8 ?_
  refine r_copy C 8 (V_sorts hrv2) (V_sorts hrv) kw_489 (by decide) (by decide) (by decide) (by decide) (by decide) (by decide +kernel) dX10_takeCourse_12 (fun s1 => ?_)
  refine sm_aload_n C 1 dX10_takeCourse_15 rfl ?_
  refine sm_getR C (ci := 10) (R := RX10) (T := TX10) (N := 13) (j := 1) (V_O hrv2).2 (V_O hrv2).1 rfl gX10 (by decide) kw_114 dX10_takeCourse_16 (fun _ _ => rfl) ?_
  refine sm_iconst C (0 : Int32) dX10_takeCourse_19 ic_0 ?_
  refine sm_aload_n C 0 dX10_takeCourse_20 rfl ?_
  refine sm_getR C (ci := 10) (R := RX10) (T := TX10) (N := 13) (j := 1) (V_O hrv).2 (V_O hrv).1 rfl gX10 (by decide) kw_114 dX10_takeCourse_21 (fun _ _ => rfl) ?_
  refine sm_iconst C (0 : Int32) dX10_takeCourse_24 ic_0 ?_
  refine sm_bipush C (8 : Int32) dX10_takeCourse_25 bp_8 ?_
  refine r_copy C 8 (V_worths hrv2) (V_worths hrv) kw_489 (by decide) (by decide) (by decide) (by decide) (by decide) (by decide +kernel) dX10_takeCourse_27 (fun s2 => ?_)
  refine sm_aload_n C 1 dX10_takeCourse_30 rfl ?_
  refine sm_getR C (ci := 10) (R := RX10) (T := TX10) (N := 13) (j := 2) (V_O hrv2).2 (V_O hrv2).1 rfl gX10 (by decide) kw_118 dX10_takeCourse_31 (fun _ _ => rfl) ?_
  refine sm_iconst C (0 : Int32) dX10_takeCourse_34 ic_0 ?_
  refine sm_aload_n C 0 dX10_takeCourse_35 rfl ?_
  refine sm_getR C (ci := 10) (R := RX10) (T := TX10) (N := 13) (j := 2) (V_O hrv).2 (V_O hrv).1 rfl gX10 (by decide) kw_118 dX10_takeCourse_36 (fun _ _ => rfl) ?_
  refine sm_iconst C (0 : Int32) dX10_takeCourse_39 ic_0 ?_
  refine sm_bipush C (6 : Int32) dX10_takeCourse_40 bp_6 ?_
  refine r_copy C 6 (V_kinds hrv2) (V_kinds hrv) kw_489 (by decide) (by decide) (by decide) (by decide) (by decide) (by decide +kernel) dX10_takeCourse_42 (fun s3 => ?_)
  refine sm_aload_n C 1 dX10_takeCourse_45 rfl ?_
  refine sm_getR C (ci := 10) (R := RX10) (T := TX10) (N := 13) (j := 3) (V_O hrv2).2 (V_O hrv2).1 rfl gX10 (by decide) kw_121 dX10_takeCourse_46 (fun _ _ => rfl) ?_
  refine sm_iconst C (0 : Int32) dX10_takeCourse_49 ic_0 ?_
  refine sm_aload_n C 0 dX10_takeCourse_50 rfl ?_
  refine sm_getR C (ci := 10) (R := RX10) (T := TX10) (N := 13) (j := 3) (V_O hrv).2 (V_O hrv).1 rfl gX10 (by decide) kw_121 dX10_takeCourse_51 (fun _ _ => rfl) ?_
  refine sm_iconst C (0 : Int32) dX10_takeCourse_54 ic_0 ?_
  refine sm_bipush C (18 : Int32) dX10_takeCourse_55 bp_18 ?_
  refine r_copy C 18 (V_arts hrv2) (V_arts hrv) kw_489 (by decide) (by decide) (by decide) (by decide) (by decide) (by decide +kernel) dX10_takeCourse_57 (fun s4 => ?_)
  refine sm_aload_n C 1 dX10_takeCourse_60 rfl ?_
  refine sm_getR C (ci := 10) (R := RX10) (T := TX10) (N := 13) (j := 4) (V_O hrv2).2 (V_O hrv2).1 rfl gX10 (by decide) kw_124 dX10_takeCourse_61 (fun _ _ => rfl) ?_
  refine sm_iconst C (0 : Int32) dX10_takeCourse_64 ic_0 ?_
  refine sm_aload_n C 0 dX10_takeCourse_65 rfl ?_
  refine sm_getR C (ci := 10) (R := RX10) (T := TX10) (N := 13) (j := 4) (V_O hrv).2 (V_O hrv).1 rfl gX10 (by decide) kw_124 dX10_takeCourse_66 (fun _ _ => rfl) ?_
  refine sm_iconst C (0 : Int32) dX10_takeCourse_69 ic_0 ?_
  refine sm_bipush C (6 : Int32) dX10_takeCourse_70 bp_6 ?_
  refine r_copy C 6 (V_wins hrv2) (V_wins hrv) kw_489 (by decide) (by decide) (by decide) (by decide) (by decide) (by decide +kernel) dX10_takeCourse_72 (fun s5 => ?_)
  refine sm_aload_n C 1 dX10_takeCourse_75 rfl ?_
  refine sm_getR C (ci := 10) (R := RX10) (T := TX10) (N := 13) (j := 5) (V_O hrv2).2 (V_O hrv2).1 rfl gX10 (by decide) kw_128 dX10_takeCourse_76 (fun _ _ => rfl) ?_
  refine sm_iconst C (0 : Int32) dX10_takeCourse_79 ic_0 ?_
  refine sm_aload_n C 0 dX10_takeCourse_80 rfl ?_
  refine sm_getR C (ci := 10) (R := RX10) (T := TX10) (N := 13) (j := 5) (V_O hrv).2 (V_O hrv).1 rfl gX10 (by decide) kw_128 dX10_takeCourse_81 (fun _ _ => rfl) ?_
  refine sm_iconst C (0 : Int32) dX10_takeCourse_84 ic_0 ?_
  refine sm_bipush C (6 : Int32) dX10_takeCourse_85 bp_6 ?_
  refine r_copy C 6 (V_seconds hrv2) (V_seconds hrv) kw_489 (by decide) (by decide) (by decide) (by decide) (by decide) (by decide +kernel) dX10_takeCourse_87 (fun s6 => ?_)
  refine sm_aload_n C 0 dX10_takeCourse_90 rfl ?_
  refine sm_aload_n C 1 dX10_takeCourse_91 rfl ?_
  refine sm_getI C (ci := 10) (R := RX10) (T := TX10) (N := 13) (j := 10) (V_O hrv2).2 (V_O hrv2).1 rfl gX10 (by decide) kw_138 dX10_takeCourse_92 (fun _ _ => rfl) (fun v7 => ?_)
  refine sm_putI C (ci := 10) (R := RX10) (T := TX10) (N := 13) (j := 10) (V_O hrv).2 (V_O hrv).1 rfl gX10 tyX10 tyX10_ok nmX10 (by decide) kw_138 rfl (by decide +kernel) dX10_takeCourse_95 (fun _ _ => Nat.le_of_ble_eq_true rfl) (set_fsV_10 w rv) (fun s8 => ?_)
  refine sm_aload_n C 0 dX10_takeCourse_98 rfl ?_
  refine sm_aload_n C 1 dX10_takeCourse_99 rfl ?_
  refine sm_getI C (ci := 10) (R := RX10) (T := TX10) (N := 13) (j := 11) (V_O hrv2).2 (V_O hrv2).1 rfl gX10 (by decide) kw_142 dX10_takeCourse_100 (fun _ _ => rfl) (fun v9 => ?_)
  refine sm_putI C (ci := 10) (R := RX10) (T := TX10) (N := 13) (j := 11) (V_O hrv).2 (V_O hrv).1 rfl gX10 tyX10 tyX10_ok nmX10 (by decide) kw_142 rfl (by decide +kernel) dX10_takeCourse_103 (fun _ _ => Nat.le_of_ble_eq_true rfl) (set_fsV_11 w rv) (fun s10 => ?_)
  refine sm_aload_n C 0 dX10_takeCourse_106 rfl ?_
  refine sm_aload_n C 1 dX10_takeCourse_107 rfl ?_
  refine sm_getI C (ci := 10) (R := RX10) (T := TX10) (N := 13) (j := 12) (V_O hrv2).2 (V_O hrv2).1 rfl gX10 (by decide) kw_146 dX10_takeCourse_108 (fun _ _ => rfl) (fun v11 => ?_)
  refine sm_putI C (ci := 10) (R := RX10) (T := TX10) (N := 13) (j := 12) (V_O hrv).2 (V_O hrv).1 rfl gX10 tyX10 tyX10_ok nmX10 (by decide) kw_146 rfl (by decide +kernel) dX10_takeCourse_111 (fun _ _ => Nat.le_of_ble_eq_true rfl) (set_fsV_12 w rv) (fun s12 => ?_)
  exact sm_vret C dX10_takeCourse_114
theorem dd_X2_begin : yX2_begin.cls = RX2 ∧ yX2_begin.cls ≠ "java/lang/invoke/MethodHandle" ∧ yX2_begin.cls ≠ "java/lang/invoke/VarHandle" ∧ (parseMethodDescriptor yX2_begin.desc).map (fun d => d.parameters.length) = some 1 := by decide +kernel
set_option maxRecDepth 100000 in
set_option maxHeartbeats 4000000 in
theorem ct_X2_begin {l : Launch} {w : Wco} (rv : Nat) (G : GW w) (hrv : isV w rv) (s0 : Sta) (qq : Unit) (ss : Sta) (hh : X2_begin rv s0 = some (qq, ss)) : Ct l w yX2_begin (Cond.code yX2_begin cX2_begin 2 none :: GT) { frames := 2, cells := 0, slots := 0, locals := 61 } [.ref (wad w 64), .ref (wad w rv)] s0 (oV qq) ss := by
  refine ct_of [(0, .ref (wad w 64)), (1, .ref (wad w rv))] (by decide +kernel) (Nat.le_of_ble_eq_true rfl) rfl hh (fun M _ C => ?_)
  unfold X2_begin
  refine sm_aload_n C 0 dX2_begin_0 rfl ?_
  refine sm_getR C (ci := 2) (R := RX2) (T := TX2) (N := 4) (j := 1) (G_F G).2 (G_F G).1 rfl gX2 (by decide) kw_261 dX2_begin_1 (fun _ _ => rfl) ?_
  refine sm_aload_n C 1 dX2_begin_4 rfl ?_
  refine r_callVU C (R := RX10) (T := TX10) (N := 13) [.ref (wad w rv)] (V_O (G_trial G)) rfl (fun qq ss hh => ct_X10_takeCourse 65 rv (G_trial G) hrv s0 qq ss hh) kw_627 kw_486 kw_487 kw_52 kw_488 dX2_begin_5 rfl dd_X10_takeCourse ⟨rfl, rfl⟩ ⟨by decide, by decide⟩ (Nat.le_of_ble_eq_true rfl) _ rfl (fun q1 s2 => ?_)
  refine sm_aload_n C 0 dX2_begin_8 rfl ?_
  refine sm_getR C (ci := 2) (R := RX2) (T := TX2) (N := 4) (j := 0) (G_F G).2 (G_F G).1 rfl gX2 (by decide) kw_260 dX2_begin_9 (fun _ _ => rfl) ?_
  refine r_callVU C (R := RX0) (T := TX0) (N := 5) [] (C_O (G_con G)) rfl (fun qq ss hh => ct_X0_allByKind 55 (G_con G).1 s2 qq ss hh) kw_628 kw_227 kw_228 kw_55 kw_229 dX2_begin_12 rfl dd_X0_allByKind ⟨rfl, rfl⟩ ⟨by decide, by decide⟩ (Nat.le_of_ble_eq_true rfl) _ rfl (fun q3 s4 => ?_)
  exact sm_vret C dX2_begin_15
theorem dd_X10_pass : yX10_pass.cls = RX10 ∧ yX10_pass.cls ≠ "java/lang/invoke/MethodHandle" ∧ yX10_pass.cls ≠ "java/lang/invoke/VarHandle" ∧ (parseMethodDescriptor yX10_pass.desc).map (fun d => d.parameters.length) = some 2 := by decide +kernel
set_option maxRecDepth 100000 in
set_option maxHeartbeats 4000000 in
theorem sl_X10_pass_L70 {M : Mco} {w : Wco} (C : Cx M w cX10_pass 3 yX10_pass.cls (Cond.code yX10_pass cX10_pass 3 none) none { frames := 1, cells := 0, slots := 0, locals := 22 }) {rv : Nat} (hrv : isV w rv) : ∀ (y1 : Int32) (y2 : Int32) (s0 : Sta), Sm M w 3 oV 70 [(0, .ref (wad w rv)), (1, .int y1), (2, .int y2)] [] s0 (X10_pass_L70 rv y1 y2 s0) := by
  intro y1 y2 s0
  unfold X10_pass_L70
  refine sm_aload_n C 0 dX10_pass_70 rfl ?_
  refine sm_getR C (ci := 10) (R := RX10) (T := TX10) (N := 13) (j := 6) (V_O hrv).2 (V_O hrv).1 rfl gX10 (by decide) kw_130 dX10_pass_71 (fun _ _ => rfl) ?_
  refine sm_aload_n C 0 dX10_pass_74 rfl ?_
  refine sm_getI C (ci := 10) (R := RX10) (T := TX10) (N := 13) (j := 11) (V_O hrv).2 (V_O hrv).1 rfl gX10 (by decide) kw_142 dX10_pass_75 (fun _ _ => rfl) (fun v14 => ?_)
  refine sm_iload_n C 1 dX10_pass_78 rfl ?_
  refine r_iast C (V_firstOf hrv) dX10_pass_79 (fun s15 => ?_)
  refine sm_aload_n C 0 dX10_pass_80 rfl ?_
  refine sm_getR C (ci := 10) (R := RX10) (T := TX10) (N := 13) (j := 7) (V_O hrv).2 (V_O hrv).1 rfl gX10 (by decide) kw_131 dX10_pass_81 (fun _ _ => rfl) ?_
  refine sm_aload_n C 0 dX10_pass_84 rfl ?_
  refine sm_getI C (ci := 10) (R := RX10) (T := TX10) (N := 13) (j := 11) (V_O hrv).2 (V_O hrv).1 rfl gX10 (by decide) kw_142 dX10_pass_85 (fun _ _ => rfl) (fun v16 => ?_)
  refine sm_iload_n C 2 dX10_pass_88 rfl ?_
  refine r_iast C (V_secondOf hrv) dX10_pass_89 (fun s17 => ?_)
  refine sm_aload_n C 0 dX10_pass_90 rfl ?_
  refine sm_dup C dX10_pass_91 rfl ?_
  refine sm_getI C (ci := 10) (R := RX10) (T := TX10) (N := 13) (j := 11) (V_O hrv).2 (V_O hrv).1 rfl gX10 (by decide) kw_142 dX10_pass_92 (fun _ _ => rfl) (fun v18 => ?_)
  refine sm_iconst C (1 : Int32) dX10_pass_95 ic_1 ?_
  refine sm_iadd C dX10_pass_96 ?_
  refine sm_putI C (ci := 10) (R := RX10) (T := TX10) (N := 13) (j := 11) (V_O hrv).2 (V_O hrv).1 rfl gX10 tyX10 tyX10_ok nmX10 (by decide) kw_142 rfl (by decide +kernel) dX10_pass_97 (fun _ _ => Nat.le_of_ble_eq_true rfl) (set_fsV_11 w rv) (fun s19 => ?_)
  refine sm_aload_n C 0 dX10_pass_100 rfl ?_
  refine sm_dup C dX10_pass_101 rfl ?_
  refine sm_getI C (ci := 10) (R := RX10) (T := TX10) (N := 13) (j := 12) (V_O hrv).2 (V_O hrv).1 rfl gX10 (by decide) kw_146 dX10_pass_102 (fun _ _ => rfl) (fun v20 => ?_)
  refine sm_iconst C (1 : Int32) dX10_pass_105 ic_1 ?_
  refine sm_iadd C dX10_pass_106 ?_
  refine sm_putI C (ci := 10) (R := RX10) (T := TX10) (N := 13) (j := 12) (V_O hrv).2 (V_O hrv).1 rfl gX10 tyX10 tyX10_ok nmX10 (by decide) kw_146 rfl (by decide +kernel) dX10_pass_107 (fun _ _ => Nat.le_of_ble_eq_true rfl) (set_fsV_12 w rv) (fun s21 => ?_)
  exact sm_vret C dX10_pass_110
set_option maxRecDepth 100000 in
set_option maxHeartbeats 4000000 in
theorem sl_X10_pass_L46 {M : Mco} {w : Wco} (C : Cx M w cX10_pass 3 yX10_pass.cls (Cond.code yX10_pass cX10_pass 3 none) none { frames := 1, cells := 0, slots := 0, locals := 22 }) {rv : Nat} (hrv : isV w rv) : ∀ (y1 : Int32) (y2 : Int32) (s0 : Sta), Sm M w 3 oV 46 [(0, .ref (wad w rv)), (1, .int y1), (2, .int y2)] [] s0 (X10_pass_L46 rv y1 y2 s0) := by
  intro y1 y2 s0
  unfold X10_pass_L46
  refine sm_iload_n C 2 dX10_pass_46 rfl ?_
  refine sm_iconst C (0 : Int32) dX10_pass_47 ic_0 ?_
  refine sm_aload_n C 0 dX10_pass_48 rfl ?_
  refine sm_getI C (ci := 10) (R := RX10) (T := TX10) (N := 13) (j := 10) (V_O hrv).2 (V_O hrv).1 rfl gX10 (by decide) kw_138 dX10_pass_49 (fun _ _ => rfl) (fun v9 => ?_)
  refine sm_iconst C (1 : Int32) dX10_pass_52 ic_1 ?_
  refine sm_isub C dX10_pass_53 ?_
  refine r_callSNI C [.int y2, .int (0 : Int32), .int (v9 - (1 : Int32))] (fun qq ss hh => ct_X11_within y2 (0 : Int32) (v9 - (1 : Int32)) s0 qq ss hh) nm_15 kw_347 kw_51 kw_348 dX10_pass_54 rfl dd_X11_within ⟨rfl, rfl⟩ ⟨by decide, by decide⟩ (Nat.le_of_ble_eq_true rfl) _ rfl (fun q10 s11 => ?_)
  refine sm_if_eq C 70 dX10_pass_57 (by decide) ?_ ?_
  · exact sm_sub [0, 1, 2] rfl (sl_X10_pass_L70 C hrv y1 y2 s11)
  · refine sm_aload_n C 0 dX10_pass_60 rfl ?_
    refine sm_getR C (ci := 10) (R := RX10) (T := TX10) (N := 13) (j := 5) (V_O hrv).2 (V_O hrv).1 rfl gX10 (by decide) kw_128 dX10_pass_61 (fun _ _ => rfl) ?_
    refine sm_iload_n C 2 dX10_pass_64 rfl ?_
    refine sm_dup2 C dX10_pass_65 rfl rfl ?_
    refine r_iald C (V_seconds hrv) dX10_pass_66 (fun v12 => ?_)
    refine sm_iconst C (1 : Int32) dX10_pass_67 ic_1 ?_
    refine sm_iadd C dX10_pass_68 ?_
    refine r_iast C (V_seconds hrv) dX10_pass_69 (fun s13 => ?_)
    exact sm_sub [0, 1, 2] rfl (sl_X10_pass_L70 C hrv y1 y2 s13)
set_option maxRecDepth 100000 in
set_option maxHeartbeats 4000000 in
theorem ct_X10_pass {l : Launch} {w : Wco} (rv : Nat) (hrv : isV w rv) (x1 : Int32) (x2 : Int32) (s0 : Sta) (qq : Unit) (ss : Sta) (hh : X10_pass rv x1 x2 s0 = some (qq, ss)) : Ct l w yX10_pass (Cond.code yX10_pass cX10_pass 3 none :: GT) { frames := 1, cells := 0, slots := 0, locals := 22 } [.ref (wad w rv), .int x1, .int x2] s0 (oV qq) ss := by
  refine ct_of [(0, .ref (wad w rv)), (1, .int x1), (2, .int x2)] (by decide +kernel) (Nat.le_of_ble_eq_true rfl) rfl hh (fun M _ C => ?_)
  unfold X10_pass
  refine sm_aload_n C 0 dX10_pass_0 rfl ?_
  refine sm_getI C (ci := 10) (R := RX10) (T := TX10) (N := 13) (j := 11) (V_O hrv).2 (V_O hrv).1 rfl gX10 (by decide) kw_142 dX10_pass_1 (fun _ _ => rfl) (fun v1 => ?_)
  refine sm_if_lt C 16 dX10_pass_4 (by decide) ?_ ?_
  · exact sm_vret C dX10_pass_16
  · refine sm_aload_n C 0 dX10_pass_7 rfl ?_
    refine sm_getI C (ci := 10) (R := RX10) (T := TX10) (N := 13) (j := 11) (V_O hrv).2 (V_O hrv).1 rfl gX10 (by decide) kw_142 dX10_pass_8 (fun _ _ => rfl) (fun v2 => ?_)
    refine sm_bipush C (8 : Int32) dX10_pass_11 bp_8 ?_
    refine sm_icmp_lt C 17 dX10_pass_13 (by decide) ?_ ?_
    · refine sm_iload_n C 1 dX10_pass_17 rfl ?_
      refine sm_iconst C (0 : Int32) dX10_pass_18 ic_0 ?_
      refine sm_aload_n C 0 dX10_pass_19 rfl ?_
      refine sm_getI C (ci := 10) (R := RX10) (T := TX10) (N := 13) (j := 10) (V_O hrv).2 (V_O hrv).1 rfl gX10 (by decide) kw_138 dX10_pass_20 (fun _ _ => rfl) (fun v3 => ?_)
      refine sm_iconst C (1 : Int32) dX10_pass_23 ic_1 ?_
      refine sm_isub C dX10_pass_24 ?_
      refine r_callSNI C [.int x1, .int (0 : Int32), .int (v3 - (1 : Int32))] (fun qq ss hh => ct_X11_within x1 (0 : Int32) (v3 - (1 : Int32)) s0 qq ss hh) nm_15 kw_347 kw_51 kw_348 dX10_pass_25 rfl dd_X11_within ⟨rfl, rfl⟩ ⟨by decide, by decide⟩ (Nat.le_of_ble_eq_true rfl) _ rfl (fun q4 s5 => ?_)
      refine sm_if_eq C 46 dX10_pass_28 (by decide) ?_ ?_
      · exact sm_sub [0, 1, 2] rfl (sl_X10_pass_L46 C hrv x1 x2 s5)
      · refine sm_aload_n C 0 dX10_pass_31 rfl ?_
        refine sm_getR C (ci := 10) (R := RX10) (T := TX10) (N := 13) (j := 4) (V_O hrv).2 (V_O hrv).1 rfl gX10 (by decide) kw_124 dX10_pass_32 (fun _ _ => rfl) ?_
        refine sm_iload_n C 1 dX10_pass_35 rfl ?_
        refine sm_dup2 C dX10_pass_36 rfl rfl ?_
        refine r_iald C (V_wins hrv) dX10_pass_37 (fun v6 => ?_)
        refine sm_iconst C (1 : Int32) dX10_pass_38 ic_1 ?_
        refine sm_aload_n C 0 dX10_pass_39 rfl ?_
        refine sm_getI C (ci := 10) (R := RX10) (T := TX10) (N := 13) (j := 11) (V_O hrv).2 (V_O hrv).1 rfl gX10 (by decide) kw_142 dX10_pass_40 (fun _ _ => rfl) (fun v7 => ?_)
        refine sm_ishl C dX10_pass_43 ?_
        refine sm_ior C dX10_pass_44 ?_
        refine r_iast C (V_wins hrv) dX10_pass_45 (fun s8 => ?_)
        exact sm_sub [0, 1, 2] rfl (sl_X10_pass_L46 C hrv x1 x2 s8)
    · exact sm_vret C dX10_pass_16
theorem dd_X2_runTo : yX2_runTo.cls = RX2 ∧ yX2_runTo.cls ≠ "java/lang/invoke/MethodHandle" ∧ yX2_runTo.cls ≠ "java/lang/invoke/VarHandle" ∧ (parseMethodDescriptor yX2_runTo.desc).map (fun d => d.parameters.length) = some 1 := by decide +kernel
set_option maxRecDepth 100000 in
set_option maxHeartbeats 4000000 in
theorem sl_X2_runTo_L8 {M : Mco} {w : Wco} (C : Cx M w cX2_runTo 3 yX2_runTo.cls (Cond.code yX2_runTo cX2_runTo 3 none) none { frames := 6, cells := 0, slots := 0, locals := 165 }) (G : GW w) : ∀ (n : Nat) (y1 : Int32) (y2 : Int32) (s0 : Sta), Sm M w 3 oV 8 [(0, .ref (wad w 64)), (1, .int y1), (2, .int y2)] [] s0 (X2_runTo_L8 n y1 y2 s0) := by
  intro n
  induction n with
  | zero => intros; exact sm_none
  | succ n ih =>
    intro y1 y2 s0
    rw [X2_runTo_L8.eq_2]
    refine sm_iload_n C 2 dX2_runTo_8 rfl ?_
    refine sm_iload_n C 1 dX2_runTo_9 rfl ?_
    refine sm_icmp_ge C 58 dX2_runTo_10 (by decide) ?_ ?_
    · exact sm_vret C dX2_runTo_58
    · refine sm_iload_n C 2 dX2_runTo_13 rfl ?_
      refine sm_bipush C (8 : Int32) dX2_runTo_14 bp_8 ?_
      refine sm_icmp_ge C 58 dX2_runTo_16 (by decide) ?_ ?_
      · exact sm_vret C dX2_runTo_58
      · refine sm_aload_n C 0 dX2_runTo_19 rfl ?_
        refine sm_getR C (ci := 2) (R := RX2) (T := TX2) (N := 4) (j := 0) (G_F G).2 (G_F G).1 rfl gX2 (by decide) kw_260 dX2_runTo_20 (fun _ _ => rfl) ?_
        refine sm_aload_n C 0 dX2_runTo_23 rfl ?_
        refine sm_getR C (ci := 2) (R := RX2) (T := TX2) (N := 4) (j := 1) (G_F G).2 (G_F G).1 rfl gX2 (by decide) kw_261 dX2_runTo_24 (fun _ _ => rfl) ?_
        refine sm_iload_n C 2 dX2_runTo_27 rfl ?_
        refine r_callVU C (R := RX0) (T := TX0) (N := 5) [.ref (wad w 65), .int y2] (C_O (G_con G)) rfl (fun qq ss hh => ct_X0_hold 55 65 (G_con G) (G_trial G) y2 s0 qq ss hh) kw_633 kw_508 kw_509 kw_55 kw_510 dX2_runTo_28 rfl dd_X0_hold ⟨rfl, rfl⟩ ⟨by decide, by decide⟩ (Nat.le_of_ble_eq_true rfl) _ rfl (fun q2 s3 => ?_)
        refine sm_aload_n C 0 dX2_runTo_31 rfl ?_
        refine sm_getR C (ci := 2) (R := RX2) (T := TX2) (N := 4) (j := 1) (G_F G).2 (G_F G).1 rfl gX2 (by decide) kw_261 dX2_runTo_32 (fun _ _ => rfl) ?_
        refine sm_aload_n C 0 dX2_runTo_35 rfl ?_
        refine sm_getR C (ci := 2) (R := RX2) (T := TX2) (N := 4) (j := 0) (G_F G).2 (G_F G).1 rfl gX2 (by decide) kw_260 dX2_runTo_36 (fun _ _ => rfl) ?_
        refine sm_getIN C (ci := 0) (R := RX0) (T := TX0) (N := 5) (j := 3) (C_O (G_con G)).2 (C_O (G_con G)).1 rfl gX0 (by decide) nf_29 dX2_runTo_39 (fun _ _ => rfl) (fun v4 => ?_)
        refine sm_aload_n C 0 dX2_runTo_42 rfl ?_
        refine sm_getR C (ci := 2) (R := RX2) (T := TX2) (N := 4) (j := 0) (G_F G).2 (G_F G).1 rfl gX2 (by decide) kw_260 dX2_runTo_43 (fun _ _ => rfl) ?_
        refine sm_getIN C (ci := 0) (R := RX0) (T := TX0) (N := 5) (j := 4) (C_O (G_con G)).2 (C_O (G_con G)).1 rfl gX0 (by decide) nf_31 dX2_runTo_46 (fun _ _ => rfl) (fun v5 => ?_)
        refine r_callVU C (R := RX10) (T := TX10) (N := 13) [.int v4, .int v5] (V_O (G_trial G)) rfl (fun qq ss hh => ct_X10_pass 65 (G_trial G) v4 v5 s3 qq ss hh) kw_634 kw_578 kw_579 kw_52 kw_580 dX2_runTo_49 rfl dd_X10_pass ⟨rfl, rfl⟩ ⟨by decide, by decide⟩ (Nat.le_of_ble_eq_true rfl) _ rfl (fun q6 s7 => ?_)
        refine sm_iinc C 2 (y2 + (1 : Int32)) [(2, .int (y2 + (1 : Int32))), (0, .ref (wad w 64)), (1, .int y1)] dX2_runTo_52 rfl (ii_1 _) (by decide) rfl ?_
        refine sm_goto C 8 dX2_runTo_55 (by decide) ?_
        exact sm_sub [1, 2, 0] rfl (ih y1 (y2 + (1 : Int32)) s7)
set_option maxRecDepth 100000 in
set_option maxHeartbeats 4000000 in
theorem ct_X2_runTo {l : Launch} {w : Wco} (G : GW w) (x1 : Int32) (s0 : Sta) (qq : Unit) (ss : Sta) (hh : X2_runTo x1 s0 = some (qq, ss)) : Ct l w yX2_runTo (Cond.code yX2_runTo cX2_runTo 3 none :: GT) { frames := 6, cells := 0, slots := 0, locals := 165 } [.ref (wad w 64), .int x1] s0 (oV qq) ss := by
  refine ct_of [(0, .ref (wad w 64)), (1, .int x1)] (by decide +kernel) (Nat.le_of_ble_eq_true rfl) rfl hh (fun M _ C => ?_)
  unfold X2_runTo
  refine sm_aload_n C 0 dX2_runTo_0 rfl ?_
  refine sm_getR C (ci := 2) (R := RX2) (T := TX2) (N := 4) (j := 1) (G_F G).2 (G_F G).1 rfl gX2 (by decide) kw_261 dX2_runTo_1 (fun _ _ => rfl) ?_
  refine sm_getIN C (ci := 10) (R := RX10) (T := TX10) (N := 13) (j := 11) (V_O (G_trial G)).2 (V_O (G_trial G)).1 rfl gX10 (by decide) nf_24 dX2_runTo_4 (fun _ _ => rfl) (fun v1 => ?_)
  refine sm_istore_n C [(2, .int v1), (0, .ref (wad w 64)), (1, .int x1)] dX2_runTo_7 (by decide) rfl ?_
  exact sm_sub [1, 2, 0] rfl (sl_X2_runTo_L8 C G FU x1 v1 s0)
theorem dd_X2_contestOf : yX2_contestOf.cls = RX2 ∧ yX2_contestOf.cls ≠ "java/lang/invoke/MethodHandle" ∧ yX2_contestOf.cls ≠ "java/lang/invoke/VarHandle" ∧ (parseMethodDescriptor yX2_contestOf.desc).map (fun d => d.parameters.length) = some 2 := by decide +kernel
set_option maxRecDepth 100000 in
set_option maxHeartbeats 4000000 in
theorem ct_X2_contestOf {l : Launch} {w : Wco} (rv : Nat) (G : GW w) (hrv : isV w rv) (x1 : Int32) (s0 : Sta) (qq : Unit) (ss : Sta) (hh : X2_contestOf rv x1 s0 = some (qq, ss)) : Ct l w yX2_contestOf (Cond.code yX2_contestOf cX2_contestOf 3 none :: GT) { frames := 7, cells := 0, slots := 0, locals := 187 } [.ref (wad w 64), .ref (wad w rv), .int x1] s0 (oV qq) ss := by
  refine ct_of [(0, .ref (wad w 64)), (1, .ref (wad w rv)), (2, .int x1)] (by decide +kernel) (Nat.le_of_ble_eq_true rfl) rfl hh (fun M _ C => ?_)
  unfold X2_contestOf
  refine sm_aload_n C 0 dX2_contestOf_0 rfl ?_
  refine sm_aload_n C 1 dX2_contestOf_1 rfl ?_
  refine r_callVU C (R := RX2) (T := TX2) (N := 4) [.ref (wad w rv)] (G_F G) rfl (fun qq ss hh => ct_X2_begin rv G hrv s0 qq ss hh) kw_623 kw_624 kw_625 kw_62 kw_626 dX2_contestOf_2 rfl dd_X2_begin ⟨rfl, rfl⟩ ⟨by decide, by decide⟩ (Nat.le_of_ble_eq_true rfl) _ rfl (fun q1 s2 => ?_)
  refine sm_aload_n C 0 dX2_contestOf_5 rfl ?_
  refine sm_iload_n C 2 dX2_contestOf_6 rfl ?_
  refine r_callVU C (R := RX2) (T := TX2) (N := 4) [.int x1] (G_F G) rfl (fun qq ss hh => ct_X2_runTo G x1 s2 qq ss hh) kw_629 kw_630 kw_631 kw_62 kw_632 dX2_contestOf_7 rfl dd_X2_runTo ⟨rfl, rfl⟩ ⟨by decide, by decide⟩ (Nat.le_of_ble_eq_true rfl) _ rfl (fun q3 s4 => ?_)
  refine sm_aload_n C 0 dX2_contestOf_10 rfl ?_
  refine sm_getR C (ci := 2) (R := RX2) (T := TX2) (N := 4) (j := 0) (G_F G).2 (G_F G).1 rfl gX2 (by decide) kw_260 dX2_contestOf_11 (fun _ _ => rfl) ?_
  refine sm_aload_n C 0 dX2_contestOf_14 rfl ?_
  refine sm_getR C (ci := 2) (R := RX2) (T := TX2) (N := 4) (j := 1) (G_F G).2 (G_F G).1 rfl gX2 (by decide) kw_261 dX2_contestOf_15 (fun _ _ => rfl) ?_
  refine sm_iload_n C 2 dX2_contestOf_18 rfl ?_
  refine r_callVU C (R := RX0) (T := TX0) (N := 5) [.ref (wad w 65), .int x1] (C_O (G_con G)) rfl (fun qq ss hh => ct_X0_hold 55 65 (G_con G) (G_trial G) x1 s4 qq ss hh) kw_633 kw_508 kw_509 kw_55 kw_510 dX2_contestOf_19 rfl dd_X0_hold ⟨rfl, rfl⟩ ⟨by decide, by decide⟩ (Nat.le_of_ble_eq_true rfl) _ rfl (fun q5 s6 => ?_)
  exact sm_vret C dX2_contestOf_22
theorem dd_X2_untaken : yX2_untaken.cls = RX2 ∧ yX2_untaken.cls ≠ "java/lang/invoke/MethodHandle" ∧ yX2_untaken.cls ≠ "java/lang/invoke/VarHandle" ∧ (parseMethodDescriptor yX2_untaken.desc).map (fun d => d.parameters.length) = some 1 := by decide +kernel
set_option maxRecDepth 100000 in
set_option maxHeartbeats 4000000 in
theorem sl_X2_untaken_L52 {M : Mco} {w : Wco} (C : Cx M w cX2_untaken 5 yX2_untaken.cls (Cond.code yX2_untaken cX2_untaken 5 (some .int)) (some .int) { frames := 7, cells := 0, slots := 0, locals := 187 }) {rv : Nat} (G : GW w) (hrv : isV w rv) : ∀ (n : Nat) (y2 : Int32) (y3 : Int32) (y4 : Int32) (s0 : Sta), Sm M w 5 oI 52 [(1, .ref (wad w rv)), (2, .int y2), (3, .int y3), (4, .int y4)] [] s0 (X2_untaken_L52 rv n y2 y3 y4 s0) := by
  intro n
  induction n with
  | zero => intros; exact sm_none
  | succ n ih =>
    intro y2 y3 y4 s0
    rw [X2_untaken_L52.eq_2]
    refine sm_iload C 3 dX2_untaken_52 rfl ?_
    refine sm_bipush C (8 : Int32) dX2_untaken_54 bp_8 ?_
    refine sm_icmp_ge C 92 dX2_untaken_56 (by decide) ?_ ?_
    · refine sm_iload_n C 2 dX2_untaken_92 rfl ?_
      exact sm_iret C dX2_untaken_93
    · refine sm_aload_n C 0 dX2_untaken_59 rfl ?_
      refine sm_getRN C (ci := 10) (R := RX10) (T := TX10) (N := 13) (j := 0) (V_O hrv).2 (V_O hrv).1 rfl gX10 (by decide) nf_3 dX2_untaken_60 (fun _ _ => rfl) ?_
      refine sm_iload C 3 dX2_untaken_63 rfl ?_
      refine r_iald C (V_sorts hrv) dX2_untaken_65 (fun v8 => ?_)
      refine sm_iconst C (-1 : Int32) dX2_untaken_66 ic_m1 ?_
      refine sm_icmp_eq C 86 dX2_untaken_67 (by decide) ?_ ?_
      · refine sm_iinc C 3 (y4 + (1 : Int32)) [(4, .int (y4 + (1 : Int32))), (1, .ref (wad w rv)), (2, .int y2), (3, .int y3)] dX2_untaken_86 rfl (ii_1 _) (by decide) rfl ?_
        refine sm_goto C 52 dX2_untaken_89 (by decide) ?_
        exact sm_sub [1, 2, 3, 0] rfl (ih y2 y3 (y4 + (1 : Int32)) s0)
      · refine sm_iload_n C 1 dX2_untaken_70 rfl ?_
        refine sm_iload C 3 dX2_untaken_71 rfl ?_
        refine sm_ishr C dX2_untaken_73 ?_
        refine sm_iconst C (1 : Int32) dX2_untaken_74 ic_1 ?_
        refine sm_iand C dX2_untaken_75 ?_
        refine sm_if_ne C 86 dX2_untaken_76 (by decide) ?_ ?_
        · refine sm_iinc C 3 (y4 + (1 : Int32)) [(4, .int (y4 + (1 : Int32))), (1, .ref (wad w rv)), (2, .int y2), (3, .int y3)] dX2_untaken_86 rfl (ii_1 _) (by decide) rfl ?_
          refine sm_goto C 52 dX2_untaken_89 (by decide) ?_
          exact sm_sub [1, 2, 3, 0] rfl (ih y2 y3 (y4 + (1 : Int32)) s0)
        · refine sm_iload_n C 2 dX2_untaken_79 rfl ?_
          refine sm_iconst C (1 : Int32) dX2_untaken_80 ic_1 ?_
          refine sm_iload C 3 dX2_untaken_81 rfl ?_
          refine sm_ishl C dX2_untaken_83 ?_
          refine sm_ior C dX2_untaken_84 ?_
          refine sm_istore_n C [(3, .int (y3 ||| ((1 : Int32) <<< (y4 &&& 31)))), (1, .ref (wad w rv)), (2, .int y2), (4, .int y4)] dX2_untaken_85 (by decide) rfl ?_
          refine sm_iinc C 3 (y4 + (1 : Int32)) [(4, .int (y4 + (1 : Int32))), (3, .int (y3 ||| ((1 : Int32) <<< (y4 &&& 31)))), (1, .ref (wad w rv)), (2, .int y2)] dX2_untaken_86 rfl (ii_1 _) (by decide) rfl ?_
          refine sm_goto C 52 dX2_untaken_89 (by decide) ?_
          exact sm_sub [2, 3, 1, 0] rfl (ih y2 (y3 ||| ((1 : Int32) <<< (y4 &&& 31))) (y4 + (1 : Int32)) s0)
set_option maxRecDepth 100000 in
set_option maxHeartbeats 4000000 in
theorem sl_X2_untaken_L15 {M : Mco} {w : Wco} (C : Cx M w cX2_untaken 5 yX2_untaken.cls (Cond.code yX2_untaken cX2_untaken 5 (some .int)) (some .int) { frames := 7, cells := 0, slots := 0, locals := 187 }) {rv : Nat} (G : GW w) (hrv : isV w rv) : ∀ (n : Nat) (y2 : Int32) (y3 : Int32) (s0 : Sta), Sm M w 5 oI 15 [(0, .ref (wad w 64)), (1, .ref (wad w rv)), (2, .int y2), (3, .int y3)] [] s0 (X2_untaken_L15 rv n y2 y3 s0) := by
  intro n
  induction n with
  | zero => intros; exact sm_none
  | succ n ih =>
    intro y2 y3 s0
    rw [X2_untaken_L15.eq_2]
    refine sm_iload_n C 3 dX2_untaken_15 rfl ?_
    refine sm_aload_n C 0 dX2_untaken_16 rfl ?_
    refine sm_getR C (ci := 2) (R := RX2) (T := TX2) (N := 4) (j := 1) (G_F G).2 (G_F G).1 rfl gX2 (by decide) kw_261 dX2_untaken_17 (fun _ _ => rfl) ?_
    refine sm_getIN C (ci := 10) (R := RX10) (T := TX10) (N := 13) (j := 10) (V_O (G_trial G)).2 (V_O (G_trial G)).1 rfl gX10 (by decide) nf_22 dX2_untaken_20 (fun _ _ => rfl) (fun v5 => ?_)
    refine sm_icmp_ge C 44 dX2_untaken_23 (by decide) ?_ ?_
    · refine sm_iconst C (0 : Int32) dX2_untaken_44 ic_0 ?_
      refine sm_istore_n C [(3, .int (0 : Int32)), (0, .ref (wad w 64)), (1, .ref (wad w rv)), (2, .int y2)] dX2_untaken_45 (by decide) rfl ?_
      refine sm_aload_n C 2 dX2_untaken_46 rfl ?_
      refine sm_getIN C (ci := 10) (R := RX10) (T := TX10) (N := 13) (j := 11) (V_O hrv).2 (V_O hrv).1 rfl gX10 (by decide) nf_24 dX2_untaken_47 (fun _ _ => rfl) (fun v6 => ?_)
      refine sm_istore C [(4, .int v6), (3, .int (0 : Int32)), (0, .ref (wad w 64)), (1, .ref (wad w rv)), (2, .int y2)] dX2_untaken_50 (by decide) rfl ?_
      exact sm_sub [3, 4, 1, 0] rfl (sl_X2_untaken_L52 C G hrv FU y2 (0 : Int32) v6 s0)
    · refine sm_iload_n C 2 dX2_untaken_26 rfl ?_
      refine sm_aload_n C 0 dX2_untaken_27 rfl ?_
      refine sm_getR C (ci := 2) (R := RX2) (T := TX2) (N := 4) (j := 1) (G_F G).2 (G_F G).1 rfl gX2 (by decide) kw_261 dX2_untaken_28 (fun _ _ => rfl) ?_
      refine sm_getRN C (ci := 10) (R := RX10) (T := TX10) (N := 13) (j := 4) (V_O (G_trial G)).2 (V_O (G_trial G)).1 rfl gX10 (by decide) nf_14 dX2_untaken_31 (fun _ _ => rfl) ?_
      refine sm_iload_n C 3 dX2_untaken_34 rfl ?_
      refine r_iald C (V_wins (G_trial G)) dX2_untaken_35 (fun v7 => ?_)
      refine sm_ior C dX2_untaken_36 ?_
      refine sm_istore_n C [(2, .int (y2 ||| v7)), (0, .ref (wad w 64)), (1, .ref (wad w rv)), (3, .int y3)] dX2_untaken_37 (by decide) rfl ?_
      refine sm_iinc C 3 (y3 + (1 : Int32)) [(3, .int (y3 + (1 : Int32))), (2, .int (y2 ||| v7)), (0, .ref (wad w 64)), (1, .ref (wad w rv))] dX2_untaken_38 rfl (ii_1 _) (by decide) rfl ?_
      refine sm_goto C 15 dX2_untaken_41 (by decide) ?_
      exact sm_sub [2, 3, 1, 0] rfl (ih (y2 ||| v7) (y3 + (1 : Int32)) s0)
set_option maxRecDepth 100000 in
set_option maxHeartbeats 4000000 in
theorem ct_X2_untaken {l : Launch} {w : Wco} (rv : Nat) (G : GW w) (hrv : isV w rv) (s0 : Sta) (qq : Int32) (ss : Sta) (hh : X2_untaken rv s0 = some (qq, ss)) : Ct l w yX2_untaken (Cond.code yX2_untaken cX2_untaken 5 (some .int) :: GT) { frames := 7, cells := 0, slots := 0, locals := 187 } [.ref (wad w 64), .ref (wad w rv)] s0 (oI qq) ss := by
  refine ct_of [(0, .ref (wad w 64)), (1, .ref (wad w rv))] (by decide +kernel) (Nat.le_of_ble_eq_true rfl) rfl hh (fun M _ C => ?_)
  unfold X2_untaken
  refine sm_aload_n C 0 dX2_untaken_0 rfl ?_
  refine sm_aload_n C 1 dX2_untaken_1 rfl ?_
  refine r_callVU C (R := RX2) (T := TX2) (N := 4) [.ref (wad w rv)] (G_F G) rfl (fun qq ss hh => ct_X2_begin rv G hrv s0 qq ss hh) kw_623 kw_624 kw_625 kw_62 kw_626 dX2_untaken_2 rfl dd_X2_begin ⟨rfl, rfl⟩ ⟨by decide, by decide⟩ (Nat.le_of_ble_eq_true rfl) _ rfl (fun q1 s2 => ?_)
  refine sm_aload_n C 0 dX2_untaken_5 rfl ?_
  refine sm_bipush C (8 : Int32) dX2_untaken_6 bp_8 ?_
  refine r_callVU C (R := RX2) (T := TX2) (N := 4) [.int (8 : Int32)] (G_F G) rfl (fun qq ss hh => ct_X2_runTo G (8 : Int32) s2 qq ss hh) kw_629 kw_630 kw_631 kw_62 kw_632 dX2_untaken_8 rfl dd_X2_runTo ⟨rfl, rfl⟩ ⟨by decide, by decide⟩ (Nat.le_of_ble_eq_true rfl) _ rfl (fun q3 s4 => ?_)
  refine sm_iconst C (0 : Int32) dX2_untaken_11 ic_0 ?_
  refine sm_istore_n C [(2, .int (0 : Int32)), (0, .ref (wad w 64)), (1, .ref (wad w rv))] dX2_untaken_12 (by decide) rfl ?_
  refine sm_iconst C (0 : Int32) dX2_untaken_13 ic_0 ?_
  refine sm_istore_n C [(3, .int (0 : Int32)), (2, .int (0 : Int32)), (0, .ref (wad w 64)), (1, .ref (wad w rv))] dX2_untaken_14 (by decide) rfl ?_
  exact sm_sub [2, 3, 1, 0] rfl (sl_X2_untaken_L15 C G hrv FU (0 : Int32) (0 : Int32) s4)
theorem dd_X10_worthWonIn : yX10_worthWonIn.cls = RX10 ∧ yX10_worthWonIn.cls ≠ "java/lang/invoke/MethodHandle" ∧ yX10_worthWonIn.cls ≠ "java/lang/invoke/VarHandle" ∧ (parseMethodDescriptor yX10_worthWonIn.desc).map (fun d => d.parameters.length) = some 2 := by decide +kernel
set_option maxRecDepth 100000 in
set_option maxHeartbeats 4000000 in
theorem ct_X10_worthWonIn {l : Launch} {w : Wco} (rv : Nat) (hrv : isV w rv) (x1 : Int32) (x2 : Int32) (s0 : Sta) (qq : Int32) (ss : Sta) (hh : X10_worthWonIn rv x1 x2 s0 = some (qq, ss)) : Ct l w yX10_worthWonIn (Cond.code yX10_worthWonIn cX10_worthWonIn 3 (some .int) :: GT) { frames := 0, cells := 0, slots := 0, locals := 0 } [.ref (wad w rv), .int x1, .int x2] s0 (oI qq) ss := by
  refine ct_of [(0, .ref (wad w rv)), (1, .int x1), (2, .int x2)] (by decide +kernel) (Nat.le_of_ble_eq_true rfl) rfl hh (fun M _ C => ?_)
  unfold X10_worthWonIn
  refine sm_aload_n C 0 dX10_worthWonIn_0 rfl ?_
  refine sm_getR C (ci := 10) (R := RX10) (T := TX10) (N := 13) (j := 4) (V_O hrv).2 (V_O hrv).1 rfl gX10 (by decide) kw_124 dX10_worthWonIn_1 (fun _ _ => rfl) ?_
  refine sm_iload_n C 1 dX10_worthWonIn_4 rfl ?_
  refine r_iald C (V_wins hrv) dX10_worthWonIn_5 (fun v1 => ?_)
  refine sm_iload_n C 2 dX10_worthWonIn_6 rfl ?_
  refine sm_ishr C dX10_worthWonIn_7 ?_
  refine sm_iconst C (1 : Int32) dX10_worthWonIn_8 ic_1 ?_
  refine sm_iand C dX10_worthWonIn_9 ?_
  refine sm_aload_n C 0 dX10_worthWonIn_10 rfl ?_
  refine sm_getR C (ci := 10) (R := RX10) (T := TX10) (N := 13) (j := 1) (V_O hrv).2 (V_O hrv).1 rfl gX10 (by decide) kw_114 dX10_worthWonIn_11 (fun _ _ => rfl) ?_
  refine sm_iload_n C 2 dX10_worthWonIn_14 rfl ?_
  refine r_iald C (V_worths hrv) dX10_worthWonIn_15 (fun v2 => ?_)
  refine sm_imul C dX10_worthWonIn_16 ?_
  exact sm_iret C dX10_worthWonIn_17
theorem dd_X2_bestYear : yX2_bestYear.cls = RX2 ∧ yX2_bestYear.cls ≠ "java/lang/invoke/MethodHandle" ∧ yX2_bestYear.cls ≠ "java/lang/invoke/VarHandle" ∧ (parseMethodDescriptor yX2_bestYear.desc).map (fun d => d.parameters.length) = some 2 := by decide +kernel
set_option maxRecDepth 100000 in
set_option maxHeartbeats 4000000 in
theorem sl_X2_bestYear_L11 {M : Mco} {w : Wco} (C : Cx M w cX2_bestYear 6 yX2_bestYear.cls (Cond.code yX2_bestYear cX2_bestYear 6 (some .int)) (some .int) { frames := 7, cells := 0, slots := 0, locals := 187 }) {rv : Nat} (G : GW w) (hrv : isV w rv) : ∀ (n : Nat) (y2 : Int32) (y3 : Int32) (y4 : Int32) (y5 : Int32) (s0 : Sta), Sm M w 6 oI 11 [(0, .ref (wad w 64)), (1, .ref (wad w rv)), (2, .int y2), (3, .int y3), (4, .int y4), (5, .int y5)] [] s0 (X2_bestYear_L11 rv n y2 y3 y4 y5 s0) := by
  intro n
  induction n with
  | zero => intros; exact sm_none
  | succ n ih =>
    intro y2 y3 y4 y5 s0
    rw [X2_bestYear_L11.eq_2]
    refine sm_iload C 5 dX2_bestYear_11 rfl ?_
    refine sm_bipush C (8 : Int32) dX2_bestYear_13 bp_8 ?_
    refine sm_icmp_ge C 76 dX2_bestYear_15 (by decide) ?_ ?_
    · refine sm_iload C 4 dX2_bestYear_76 rfl ?_
      exact sm_iret C dX2_bestYear_78
    · refine sm_aload_n C 0 dX2_bestYear_18 rfl ?_
      refine sm_aload_n C 1 dX2_bestYear_19 rfl ?_
      refine r_callVU C (R := RX2) (T := TX2) (N := 4) [.ref (wad w rv)] (G_F G) rfl (fun qq ss hh => ct_X2_begin rv G hrv s0 qq ss hh) kw_623 kw_624 kw_625 kw_62 kw_626 dX2_bestYear_20 rfl dd_X2_begin ⟨rfl, rfl⟩ ⟨by decide, by decide⟩ (Nat.le_of_ble_eq_true rfl) _ rfl (fun q2 s3 => ?_)
      refine sm_aload_n C 0 dX2_bestYear_23 rfl ?_
      refine sm_getR C (ci := 2) (R := RX2) (T := TX2) (N := 4) (j := 0) (G_F G).2 (G_F G).1 rfl gX2 (by decide) kw_260 dX2_bestYear_24 (fun _ _ => rfl) ?_
      refine sm_iload_n C 2 dX2_bestYear_27 rfl ?_
      refine sm_iload C 5 dX2_bestYear_28 rfl ?_
      refine r_callVU C (R := RX0) (T := TX0) (N := 5) [.int y2, .int y5] (C_O (G_con G)) rfl (fun qq ss hh => ct_X0_choose 55 (G_con G) y2 y5 s3 qq ss hh) kw_669 kw_670 kw_671 kw_55 kw_672 dX2_bestYear_30 rfl dd_X0_choose ⟨rfl, rfl⟩ ⟨by decide, by decide⟩ (Nat.le_of_ble_eq_true rfl) _ rfl (fun q4 s5 => ?_)
      refine sm_aload_n C 0 dX2_bestYear_33 rfl ?_
      refine sm_iload C 5 dX2_bestYear_34 rfl ?_
      refine sm_iconst C (1 : Int32) dX2_bestYear_36 ic_1 ?_
      refine sm_iadd C dX2_bestYear_37 ?_
      refine r_callVU C (R := RX2) (T := TX2) (N := 4) [.int (y5 + (1 : Int32))] (G_F G) rfl (fun qq ss hh => ct_X2_runTo G (y5 + (1 : Int32)) s5 qq ss hh) kw_629 kw_630 kw_631 kw_62 kw_632 dX2_bestYear_38 rfl dd_X2_runTo ⟨rfl, rfl⟩ ⟨by decide, by decide⟩ (Nat.le_of_ble_eq_true rfl) _ rfl (fun q6 s7 => ?_)
      refine sm_aload_n C 0 dX2_bestYear_41 rfl ?_
      refine sm_getR C (ci := 2) (R := RX2) (T := TX2) (N := 4) (j := 1) (G_F G).2 (G_F G).1 rfl gX2 (by decide) kw_261 dX2_bestYear_42 (fun _ _ => rfl) ?_
      refine sm_iload_n C 2 dX2_bestYear_45 rfl ?_
      refine sm_iload C 5 dX2_bestYear_46 rfl ?_
      refine r_callVI C (R := RX10) (T := TX10) (N := 13) [.int y2, .int y5] (V_O (G_trial G)) rfl (fun qq ss hh => ct_X10_worthWonIn 65 (G_trial G) y2 y5 s7 qq ss hh) kw_673 kw_650 kw_651 kw_52 kw_652 dX2_bestYear_48 rfl dd_X10_worthWonIn ⟨rfl, rfl⟩ ⟨by decide, by decide⟩ (Nat.le_of_ble_eq_true rfl) _ rfl (fun q8 s9 => ?_)
      refine sm_iload_n C 3 dX2_bestYear_51 rfl ?_
      refine sm_icmp_le C 70 dX2_bestYear_52 (by decide) ?_ ?_
      · refine sm_iinc C 5 (y5 + (1 : Int32)) [(5, .int (y5 + (1 : Int32))), (0, .ref (wad w 64)), (1, .ref (wad w rv)), (2, .int y2), (3, .int y3), (4, .int y4)] dX2_bestYear_70 rfl (ii_1 _) (by decide) rfl ?_
        refine sm_goto C 11 dX2_bestYear_73 (by decide) ?_
        exact sm_sub [1, 2, 3, 4, 5, 0] rfl (ih y2 y3 y4 (y5 + (1 : Int32)) s9)
      · refine sm_aload_n C 0 dX2_bestYear_55 rfl ?_
        refine sm_getR C (ci := 2) (R := RX2) (T := TX2) (N := 4) (j := 1) (G_F G).2 (G_F G).1 rfl gX2 (by decide) kw_261 dX2_bestYear_56 (fun _ _ => rfl) ?_
        refine sm_iload_n C 2 dX2_bestYear_59 rfl ?_
        refine sm_iload C 5 dX2_bestYear_60 rfl ?_
        refine r_callVI C (R := RX10) (T := TX10) (N := 13) [.int y2, .int y5] (V_O (G_trial G)) rfl (fun qq ss hh => ct_X10_worthWonIn 65 (G_trial G) y2 y5 s9 qq ss hh) kw_673 kw_650 kw_651 kw_52 kw_652 dX2_bestYear_62 rfl dd_X10_worthWonIn ⟨rfl, rfl⟩ ⟨by decide, by decide⟩ (Nat.le_of_ble_eq_true rfl) _ rfl (fun q10 s11 => ?_)
        refine sm_istore_n C [(3, .int q10), (0, .ref (wad w 64)), (1, .ref (wad w rv)), (2, .int y2), (4, .int y4), (5, .int y5)] dX2_bestYear_65 (by decide) rfl ?_
        refine sm_iload C 5 dX2_bestYear_66 rfl ?_
        refine sm_istore C [(4, .int y5), (3, .int q10), (0, .ref (wad w 64)), (1, .ref (wad w rv)), (2, .int y2), (5, .int y5)] dX2_bestYear_68 (by decide) rfl ?_
        refine sm_iinc C 5 (y5 + (1 : Int32)) [(5, .int (y5 + (1 : Int32))), (4, .int y5), (3, .int q10), (0, .ref (wad w 64)), (1, .ref (wad w rv)), (2, .int y2)] dX2_bestYear_70 rfl (ii_1 _) (by decide) rfl ?_
        refine sm_goto C 11 dX2_bestYear_73 (by decide) ?_
        exact sm_sub [3, 4, 5, 2, 1, 0] rfl (ih y2 q10 y5 (y5 + (1 : Int32)) s11)
set_option maxRecDepth 100000 in
set_option maxHeartbeats 4000000 in
theorem ct_X2_bestYear {l : Launch} {w : Wco} (rv : Nat) (G : GW w) (hrv : isV w rv) (x1 : Int32) (s0 : Sta) (qq : Int32) (ss : Sta) (hh : X2_bestYear rv x1 s0 = some (qq, ss)) : Ct l w yX2_bestYear (Cond.code yX2_bestYear cX2_bestYear 6 (some .int) :: GT) { frames := 7, cells := 0, slots := 0, locals := 187 } [.ref (wad w 64), .ref (wad w rv), .int x1] s0 (oI qq) ss := by
  refine ct_of [(0, .ref (wad w 64)), (1, .ref (wad w rv)), (2, .int x1)] (by decide +kernel) (Nat.le_of_ble_eq_true rfl) rfl hh (fun M _ C => ?_)
  unfold X2_bestYear
  refine sm_iconst C (0 : Int32) dX2_bestYear_0 ic_0 ?_
  refine sm_istore_n C [(3, .int (0 : Int32)), (0, .ref (wad w 64)), (1, .ref (wad w rv)), (2, .int x1)] dX2_bestYear_1 (by decide) rfl ?_
  refine sm_iconst C (-1 : Int32) dX2_bestYear_2 ic_m1 ?_
  refine sm_istore C [(4, .int (-1 : Int32)), (3, .int (0 : Int32)), (0, .ref (wad w 64)), (1, .ref (wad w rv)), (2, .int x1)] dX2_bestYear_3 (by decide) rfl ?_
  refine sm_aload_n C 3 dX2_bestYear_5 rfl ?_
  refine sm_getIN C (ci := 10) (R := RX10) (T := TX10) (N := 13) (j := 11) (V_O hrv).2 (V_O hrv).1 rfl gX10 (by decide) nf_24 dX2_bestYear_6 (fun _ _ => rfl) (fun v1 => ?_)
  refine sm_istore C [(5, .int v1), (4, .int (-1 : Int32)), (3, .int (0 : Int32)), (0, .ref (wad w 64)), (1, .ref (wad w rv)), (2, .int x1)] dX2_bestYear_9 (by decide) rfl ?_
  exact sm_sub [3, 4, 5, 2, 1, 0] rfl (sl_X2_bestYear_L11 C G hrv FU x1 (0 : Int32) (-1 : Int32) v1 s0)
theorem dd_X2_weighRivals : yX2_weighRivals.cls = RX2 ∧ yX2_weighRivals.cls ≠ "java/lang/invoke/MethodHandle" ∧ yX2_weighRivals.cls ≠ "java/lang/invoke/VarHandle" ∧ (parseMethodDescriptor yX2_weighRivals.desc).map (fun d => d.parameters.length) = some 3 := by decide +kernel
set_option maxRecDepth 100000 in
set_option maxHeartbeats 4000000 in
theorem sl_X2_weighRivals_L19 {M : Mco} {w : Wco} (C : Cx M w cX2_weighRivals 6 yX2_weighRivals.cls (Cond.code yX2_weighRivals cX2_weighRivals 6 none) none { frames := 7, cells := 0, slots := 0, locals := 187 }) {rv : Nat} (G : GW w) (hrv : isV w rv) {k6 : Int32 → Int32 → Int32 → Sta → Option (Unit × Sta)} (H6 : ∀ (y2 : Int32) (y3 : Int32) (y4 : Int32) (s0 : Sta), Sm M w 6 oV 6 [(0, .ref (wad w 64)), (1, .ref (wad w rv)), (2, .int y2), (3, .int y3), (4, .int y4)] [] s0 (k6 y2 y3 y4 s0)) : ∀ (n : Nat) (y2 : Int32) (y3 : Int32) (y4 : Int32) (y5 : Int32) (s0 : Sta), Sm M w 6 oV 19 [(0, .ref (wad w 64)), (1, .ref (wad w rv)), (2, .int y2), (3, .int y3), (4, .int y4), (5, .int y5)] [] s0 (X2_weighRivals_L19 rv k6 n y2 y3 y4 y5 s0) := by
  intro n
  induction n with
  | zero => intros; exact sm_none
  | succ n ih =>
    intro y2 y3 y4 y5 s0
    rw [X2_weighRivals_L19.eq_2]
    refine sm_iload C 5 dX2_weighRivals_19 rfl ?_
    refine sm_bipush C (8 : Int32) dX2_weighRivals_21 bp_8 ?_
    refine sm_icmp_ge C 116 dX2_weighRivals_23 (by decide) ?_ ?_
    · refine sm_iinc C 4 (y4 + (1 : Int32)) [(4, .int (y4 + (1 : Int32))), (0, .ref (wad w 64)), (1, .ref (wad w rv)), (2, .int y2), (3, .int y3), (5, .int y5)] dX2_weighRivals_116 rfl (ii_1 _) (by decide) rfl ?_
      refine sm_goto C 6 dX2_weighRivals_119 (by decide) ?_
      exact sm_sub [1, 2, 3, 4, 0] rfl (H6 y2 y3 (y4 + (1 : Int32)) s0)
    · refine sm_aload_n C 0 dX2_weighRivals_26 rfl ?_
      refine sm_aload_n C 1 dX2_weighRivals_27 rfl ?_
      refine r_callVU C (R := RX2) (T := TX2) (N := 4) [.ref (wad w rv)] (G_F G) rfl (fun qq ss hh => ct_X2_begin rv G hrv s0 qq ss hh) kw_623 kw_624 kw_625 kw_62 kw_626 dX2_weighRivals_28 rfl dd_X2_begin ⟨rfl, rfl⟩ ⟨by decide, by decide⟩ (Nat.le_of_ble_eq_true rfl) _ rfl (fun q3 s4 => ?_)
      refine sm_aload_n C 0 dX2_weighRivals_31 rfl ?_
      refine sm_getR C (ci := 2) (R := RX2) (T := TX2) (N := 4) (j := 0) (G_F G).2 (G_F G).1 rfl gX2 (by decide) kw_260 dX2_weighRivals_32 (fun _ _ => rfl) ?_
      refine sm_iload_n C 2 dX2_weighRivals_35 rfl ?_
      refine sm_iload C 4 dX2_weighRivals_36 rfl ?_
      refine r_callVU C (R := RX0) (T := TX0) (N := 5) [.int y2, .int y4] (C_O (G_con G)) rfl (fun qq ss hh => ct_X0_choose 55 (G_con G) y2 y4 s4 qq ss hh) kw_669 kw_670 kw_671 kw_55 kw_672 dX2_weighRivals_38 rfl dd_X0_choose ⟨rfl, rfl⟩ ⟨by decide, by decide⟩ (Nat.le_of_ble_eq_true rfl) _ rfl (fun q5 s6 => ?_)
      refine sm_aload_n C 0 dX2_weighRivals_41 rfl ?_
      refine sm_getR C (ci := 2) (R := RX2) (T := TX2) (N := 4) (j := 0) (G_F G).2 (G_F G).1 rfl gX2 (by decide) kw_260 dX2_weighRivals_42 (fun _ _ => rfl) ?_
      refine sm_iload_n C 3 dX2_weighRivals_45 rfl ?_
      refine sm_iload C 5 dX2_weighRivals_46 rfl ?_
      refine r_callVU C (R := RX0) (T := TX0) (N := 5) [.int y3, .int y5] (C_O (G_con G)) rfl (fun qq ss hh => ct_X0_choose 55 (G_con G) y3 y5 s6 qq ss hh) kw_669 kw_670 kw_671 kw_55 kw_672 dX2_weighRivals_48 rfl dd_X0_choose ⟨rfl, rfl⟩ ⟨by decide, by decide⟩ (Nat.le_of_ble_eq_true rfl) _ rfl (fun q7 s8 => ?_)
      refine sm_aload_n C 0 dX2_weighRivals_51 rfl ?_
      refine sm_iload C 4 dX2_weighRivals_52 rfl ?_
      refine sm_iload C 5 dX2_weighRivals_54 rfl ?_
      refine r_max C kw_682 (by decide) (Nat.le_of_ble_eq_true rfl) dX2_weighRivals_56 ?_
      refine sm_iconst C (1 : Int32) dX2_weighRivals_59 ic_1 ?_
      refine sm_iadd C dX2_weighRivals_60 ?_
      refine r_callVU C (R := RX2) (T := TX2) (N := 4) [.int ((if y4 < y5 then y5 else y4) + (1 : Int32))] (G_F G) rfl (fun qq ss hh => ct_X2_runTo G ((if y4 < y5 then y5 else y4) + (1 : Int32)) s8 qq ss hh) kw_629 kw_630 kw_631 kw_62 kw_632 dX2_weighRivals_61 rfl dd_X2_runTo ⟨rfl, rfl⟩ ⟨by decide, by decide⟩ (Nat.le_of_ble_eq_true rfl) _ rfl (fun q9 s10 => ?_)
      refine sm_aload_n C 0 dX2_weighRivals_64 rfl ?_
      refine sm_getR C (ci := 2) (R := RX2) (T := TX2) (N := 4) (j := 2) (G_F G).2 (G_F G).1 rfl gX2 (by decide) kw_263 dX2_weighRivals_65 (fun _ _ => rfl) ?_
      refine sm_iload C 4 dX2_weighRivals_68 rfl ?_
      refine sm_bipush C (8 : Int32) dX2_weighRivals_70 bp_8 ?_
      refine sm_imul C dX2_weighRivals_72 ?_
      refine sm_iload C 5 dX2_weighRivals_73 rfl ?_
      refine sm_iadd C dX2_weighRivals_75 ?_
      refine sm_aload_n C 0 dX2_weighRivals_76 rfl ?_
      refine sm_getR C (ci := 2) (R := RX2) (T := TX2) (N := 4) (j := 1) (G_F G).2 (G_F G).1 rfl gX2 (by decide) kw_261 dX2_weighRivals_77 (fun _ _ => rfl) ?_
      refine sm_iload_n C 2 dX2_weighRivals_80 rfl ?_
      refine sm_iload C 4 dX2_weighRivals_81 rfl ?_
      refine r_callVI C (R := RX10) (T := TX10) (N := 13) [.int y2, .int y4] (V_O (G_trial G)) rfl (fun qq ss hh => ct_X10_worthWonIn 65 (G_trial G) y2 y4 s10 qq ss hh) kw_673 kw_650 kw_651 kw_52 kw_652 dX2_weighRivals_83 rfl dd_X10_worthWonIn ⟨rfl, rfl⟩ ⟨by decide, by decide⟩ (Nat.le_of_ble_eq_true rfl) _ rfl (fun q11 s12 => ?_)
      refine r_iast C (G_wA G) dX2_weighRivals_86 (fun s13 => ?_)
      refine sm_aload_n C 0 dX2_weighRivals_87 rfl ?_
      refine sm_getR C (ci := 2) (R := RX2) (T := TX2) (N := 4) (j := 3) (G_F G).2 (G_F G).1 rfl gX2 (by decide) kw_264 dX2_weighRivals_88 (fun _ _ => rfl) ?_
      refine sm_iload C 4 dX2_weighRivals_91 rfl ?_
      refine sm_bipush C (8 : Int32) dX2_weighRivals_93 bp_8 ?_
      refine sm_imul C dX2_weighRivals_95 ?_
      refine sm_iload C 5 dX2_weighRivals_96 rfl ?_
      refine sm_iadd C dX2_weighRivals_98 ?_
      refine sm_aload_n C 0 dX2_weighRivals_99 rfl ?_
      refine sm_getR C (ci := 2) (R := RX2) (T := TX2) (N := 4) (j := 1) (G_F G).2 (G_F G).1 rfl gX2 (by decide) kw_261 dX2_weighRivals_100 (fun _ _ => rfl) ?_
      refine sm_iload_n C 3 dX2_weighRivals_103 rfl ?_
      refine sm_iload C 5 dX2_weighRivals_104 rfl ?_
      refine r_callVI C (R := RX10) (T := TX10) (N := 13) [.int y3, .int y5] (V_O (G_trial G)) rfl (fun qq ss hh => ct_X10_worthWonIn 65 (G_trial G) y3 y5 s13 qq ss hh) kw_673 kw_650 kw_651 kw_52 kw_652 dX2_weighRivals_106 rfl dd_X10_worthWonIn ⟨rfl, rfl⟩ ⟨by decide, by decide⟩ (Nat.le_of_ble_eq_true rfl) _ rfl (fun q14 s15 => ?_)
      refine r_iast C (G_wB G) dX2_weighRivals_109 (fun s16 => ?_)
      refine sm_iinc C 5 (y5 + (1 : Int32)) [(5, .int (y5 + (1 : Int32))), (0, .ref (wad w 64)), (1, .ref (wad w rv)), (2, .int y2), (3, .int y3), (4, .int y4)] dX2_weighRivals_110 rfl (ii_1 _) (by decide) rfl ?_
      refine sm_goto C 19 dX2_weighRivals_113 (by decide) ?_
      exact sm_sub [1, 2, 3, 4, 5, 0] rfl (ih y2 y3 y4 (y5 + (1 : Int32)) s16)
set_option maxRecDepth 100000 in
set_option maxHeartbeats 4000000 in
theorem sl_X2_weighRivals_L6 {M : Mco} {w : Wco} (C : Cx M w cX2_weighRivals 6 yX2_weighRivals.cls (Cond.code yX2_weighRivals cX2_weighRivals 6 none) none { frames := 7, cells := 0, slots := 0, locals := 187 }) {rv : Nat} (G : GW w) (hrv : isV w rv) : ∀ (n : Nat) (y2 : Int32) (y3 : Int32) (y4 : Int32) (s0 : Sta), Sm M w 6 oV 6 [(0, .ref (wad w 64)), (1, .ref (wad w rv)), (2, .int y2), (3, .int y3), (4, .int y4)] [] s0 (X2_weighRivals_L6 rv n y2 y3 y4 s0) := by
  intro n
  induction n with
  | zero => intros; exact sm_none
  | succ n ih =>
    intro y2 y3 y4 s0
    rw [X2_weighRivals_L6.eq_2]
    refine sm_iload C 4 dX2_weighRivals_6 rfl ?_
    refine sm_bipush C (8 : Int32) dX2_weighRivals_8 bp_8 ?_
    refine sm_icmp_ge C 122 dX2_weighRivals_10 (by decide) ?_ ?_
    · exact sm_vret C dX2_weighRivals_122
    · refine sm_aload_n C 1 dX2_weighRivals_13 rfl ?_
      refine sm_getIN C (ci := 10) (R := RX10) (T := TX10) (N := 13) (j := 11) (V_O hrv).2 (V_O hrv).1 rfl gX10 (by decide) nf_24 dX2_weighRivals_14 (fun _ _ => rfl) (fun v2 => ?_)
      refine sm_istore C [(5, .int v2), (0, .ref (wad w 64)), (1, .ref (wad w rv)), (2, .int y2), (3, .int y3), (4, .int y4)] dX2_weighRivals_17 (by decide) rfl ?_
      exact sm_sub [1, 2, 3, 4, 5, 0] rfl (sl_X2_weighRivals_L19 C G hrv ih FU y2 y3 y4 v2 s0)
set_option maxRecDepth 100000 in
set_option maxHeartbeats 4000000 in
theorem ct_X2_weighRivals {l : Launch} {w : Wco} (rv : Nat) (G : GW w) (hrv : isV w rv) (x1 : Int32) (x2 : Int32) (s0 : Sta) (qq : Unit) (ss : Sta) (hh : X2_weighRivals rv x1 x2 s0 = some (qq, ss)) : Ct l w yX2_weighRivals (Cond.code yX2_weighRivals cX2_weighRivals 6 none :: GT) { frames := 7, cells := 0, slots := 0, locals := 187 } [.ref (wad w 64), .ref (wad w rv), .int x1, .int x2] s0 (oV qq) ss := by
  refine ct_of [(0, .ref (wad w 64)), (1, .ref (wad w rv)), (2, .int x1), (3, .int x2)] (by decide +kernel) (Nat.le_of_ble_eq_true rfl) rfl hh (fun M _ C => ?_)
  unfold X2_weighRivals
  refine sm_aload_n C 1 dX2_weighRivals_0 rfl ?_
  refine sm_getIN C (ci := 10) (R := RX10) (T := TX10) (N := 13) (j := 11) (V_O hrv).2 (V_O hrv).1 rfl gX10 (by decide) nf_24 dX2_weighRivals_1 (fun _ _ => rfl) (fun v1 => ?_)
  refine sm_istore C [(4, .int v1), (0, .ref (wad w 64)), (1, .ref (wad w rv)), (2, .int x1), (3, .int x2)] dX2_weighRivals_4 (by decide) rfl ?_
  exact sm_sub [1, 2, 3, 4, 0] rfl (sl_X2_weighRivals_L6 C G hrv FU x1 x2 v1 s0)
theorem dd_X2_rests : yX2_rests.cls = RX2 ∧ yX2_rests.cls ≠ "java/lang/invoke/MethodHandle" ∧ yX2_rests.cls ≠ "java/lang/invoke/VarHandle" ∧ (parseMethodDescriptor yX2_rests.desc).map (fun d => d.parameters.length) = some 3 := by decide +kernel
set_option maxRecDepth 100000 in
set_option maxHeartbeats 4000000 in
theorem sl_X2_rests_L11 {M : Mco} {w : Wco} (C : Cx M w cX2_rests 6 yX2_rests.cls (Cond.code yX2_rests cX2_rests 6 (some .boolean)) (some .boolean) { frames := 0, cells := 0, slots := 0, locals := 0 }) (G : GW w) : ∀ (n : Nat) (y2 : Int32) (y3 : Int32) (y4 : Int32) (y5 : Int32) (s0 : Sta), Sm M w 6 oI 11 [(0, .ref (wad w 64)), (2, .int y2), (3, .int y3), (4, .int y4), (5, .int y5)] [] s0 (X2_rests_L11 n y2 y3 y4 y5 s0) := by
  intro n
  induction n with
  | zero => intros; exact sm_none
  | succ n ih =>
    intro y2 y3 y4 y5 s0
    rw [X2_rests_L11.eq_2]
    refine sm_iload C 4 dX2_rests_11 rfl ?_
    refine sm_bipush C (8 : Int32) dX2_rests_13 bp_8 ?_
    refine sm_icmp_ge C 70 dX2_rests_15 (by decide) ?_ ?_
    · refine sm_iconst C (1 : Int32) dX2_rests_70 ic_1 ?_
      exact sm_zret C dX2_rests_71
    · refine sm_aload_n C 0 dX2_rests_18 rfl ?_
      refine sm_getR C (ci := 2) (R := RX2) (T := TX2) (N := 4) (j := 2) (G_F G).2 (G_F G).1 rfl gX2 (by decide) kw_263 dX2_rests_19 (fun _ _ => rfl) ?_
      refine sm_iload C 4 dX2_rests_22 rfl ?_
      refine sm_bipush C (8 : Int32) dX2_rests_24 bp_8 ?_
      refine sm_imul C dX2_rests_26 ?_
      refine sm_iload_n C 2 dX2_rests_27 rfl ?_
      refine sm_iadd C dX2_rests_28 ?_
      refine r_iald C (G_wA G) dX2_rests_29 (fun v1 => ?_)
      refine sm_aload_n C 0 dX2_rests_30 rfl ?_
      refine sm_getR C (ci := 2) (R := RX2) (T := TX2) (N := 4) (j := 2) (G_F G).2 (G_F G).1 rfl gX2 (by decide) kw_263 dX2_rests_31 (fun _ _ => rfl) ?_
      refine sm_iload C 3 dX2_rests_34 rfl ?_
      refine r_iald C (G_wA G) dX2_rests_36 (fun v2 => ?_)
      refine sm_icmp_gt C 62 dX2_rests_37 (by decide) ?_ ?_
      · refine sm_iconst C (0 : Int32) dX2_rests_62 ic_0 ?_
        exact sm_zret C dX2_rests_63
      · refine sm_aload_n C 0 dX2_rests_40 rfl ?_
        refine sm_getR C (ci := 2) (R := RX2) (T := TX2) (N := 4) (j := 3) (G_F G).2 (G_F G).1 rfl gX2 (by decide) kw_264 dX2_rests_41 (fun _ _ => rfl) ?_
        refine sm_iload_n C 1 dX2_rests_44 rfl ?_
        refine sm_bipush C (8 : Int32) dX2_rests_45 bp_8 ?_
        refine sm_imul C dX2_rests_47 ?_
        refine sm_iload C 4 dX2_rests_48 rfl ?_
        refine sm_iadd C dX2_rests_50 ?_
        refine r_iald C (G_wB G) dX2_rests_51 (fun v3 => ?_)
        refine sm_aload_n C 0 dX2_rests_52 rfl ?_
        refine sm_getR C (ci := 2) (R := RX2) (T := TX2) (N := 4) (j := 3) (G_F G).2 (G_F G).1 rfl gX2 (by decide) kw_264 dX2_rests_53 (fun _ _ => rfl) ?_
        refine sm_iload C 3 dX2_rests_56 rfl ?_
        refine r_iald C (G_wB G) dX2_rests_58 (fun v4 => ?_)
        refine sm_icmp_le C 64 dX2_rests_59 (by decide) ?_ ?_
        · refine sm_iinc C 4 (y5 + (1 : Int32)) [(5, .int (y5 + (1 : Int32))), (0, .ref (wad w 64)), (2, .int y2), (3, .int y3), (4, .int y4)] dX2_rests_64 rfl (ii_1 _) (by decide) rfl ?_
          refine sm_goto C 11 dX2_rests_67 (by decide) ?_
          exact sm_sub [1, 2, 3, 4, 0] rfl (ih y2 y3 y4 (y5 + (1 : Int32)) s0)
        · refine sm_iconst C (0 : Int32) dX2_rests_62 ic_0 ?_
          exact sm_zret C dX2_rests_63
set_option maxRecDepth 100000 in
set_option maxHeartbeats 4000000 in
theorem ct_X2_rests {l : Launch} {w : Wco} (G : GW w) (x1 : Int32) (x2 : Int32) (x3 : Int32) (s0 : Sta) (qq : Int32) (ss : Sta) (hh : X2_rests x1 x2 x3 s0 = some (qq, ss)) : Ct l w yX2_rests (Cond.code yX2_rests cX2_rests 6 (some .boolean) :: GT) { frames := 0, cells := 0, slots := 0, locals := 0 } [.ref (wad w 64), .int x1, .int x2, .int x3] s0 (oI qq) ss := by
  refine ct_of [(0, .ref (wad w 64)), (1, .int x1), (2, .int x2), (3, .int x3)] (by decide +kernel) (Nat.le_of_ble_eq_true rfl) rfl hh (fun M _ C => ?_)
  unfold X2_rests
  refine sm_iload_n C 2 dX2_rests_0 rfl ?_
  refine sm_bipush C (8 : Int32) dX2_rests_1 bp_8 ?_
  refine sm_imul C dX2_rests_3 ?_
  refine sm_iload_n C 3 dX2_rests_4 rfl ?_
  refine sm_iadd C dX2_rests_5 ?_
  refine sm_istore C [(4, .int ((x2 * (8 : Int32)) + x3)), (0, .ref (wad w 64)), (1, .int x1), (2, .int x2), (3, .int x3)] dX2_rests_6 (by decide) rfl ?_
  refine sm_iload_n C 2 dX2_rests_8 rfl ?_
  refine sm_istore C [(5, .int x1), (4, .int ((x2 * (8 : Int32)) + x3)), (0, .ref (wad w 64)), (1, .int x1), (2, .int x2), (3, .int x3)] dX2_rests_9 (by decide) rfl ?_
  exact sm_sub [2, 4, 5, 1, 0] rfl (sl_X2_rests_L11 C G FU x2 x3 ((x2 * (8 : Int32)) + x3) x1 s0)
theorem dd_X2_resting : yX2_resting.cls = RX2 ∧ yX2_resting.cls ≠ "java/lang/invoke/MethodHandle" ∧ yX2_resting.cls ≠ "java/lang/invoke/VarHandle" ∧ (parseMethodDescriptor yX2_resting.desc).map (fun d => d.parameters.length) = some 2 := by decide +kernel
set_option maxRecDepth 100000 in
set_option maxHeartbeats 4000000 in
theorem sl_X2_resting_L15 {M : Mco} {w : Wco} (C : Cx M w cX2_resting 6 yX2_resting.cls (Cond.code yX2_resting cX2_resting 6 (some .int)) (some .int) { frames := 1, cells := 0, slots := 0, locals := 25 }) (G : GW w) {k5 : Int32 → Int32 → Int32 → Int32 → Sta → Option (Int32 × Sta)} (H5 : ∀ (y1 : Int32) (y2 : Int32) (y3 : Int32) (y4 : Int32) (s0 : Sta), Sm M w 6 oI 5 [(0, .ref (wad w 64)), (1, .int y1), (2, .int y2), (3, .int y3), (4, .int y4)] [] s0 (k5 y1 y2 y3 y4 s0)) : ∀ (n : Nat) (y1 : Int32) (y2 : Int32) (y3 : Int32) (y4 : Int32) (y5 : Int32) (s0 : Sta), Sm M w 6 oI 15 [(0, .ref (wad w 64)), (1, .int y1), (2, .int y2), (3, .int y3), (4, .int y4), (5, .int y5)] [] s0 (X2_resting_L15 k5 n y1 y2 y3 y4 y5 s0) := by
  intro n
  induction n with
  | zero => intros; exact sm_none
  | succ n ih =>
    intro y1 y2 y3 y4 y5 s0
    rw [X2_resting_L15.eq_2]
    refine sm_iload C 5 dX2_resting_15 rfl ?_
    refine sm_bipush C (8 : Int32) dX2_resting_17 bp_8 ?_
    refine sm_icmp_ge C 60 dX2_resting_19 (by decide) ?_ ?_
    · refine sm_iinc C 4 (y4 + (1 : Int32)) [(4, .int (y4 + (1 : Int32))), (0, .ref (wad w 64)), (1, .int y1), (2, .int y2), (3, .int y3), (5, .int y5)] dX2_resting_60 rfl (ii_1 _) (by decide) rfl ?_
      refine sm_goto C 5 dX2_resting_63 (by decide) ?_
      exact sm_sub [1, 2, 3, 4, 0] rfl (H5 y1 y2 y3 (y4 + (1 : Int32)) s0)
    · refine sm_aload_n C 0 dX2_resting_22 rfl ?_
      refine sm_iload_n C 1 dX2_resting_23 rfl ?_
      refine sm_iload C 4 dX2_resting_24 rfl ?_
      refine sm_iload C 5 dX2_resting_26 rfl ?_
      refine r_callVI C (R := RX2) (T := TX2) (N := 4) [.int y1, .int y4, .int y5] (G_F G) rfl (fun qq ss hh => ct_X2_rests G y1 y4 y5 s0 qq ss hh) kw_687 kw_689 kw_12 kw_62 kw_690 dX2_resting_28 rfl dd_X2_rests ⟨rfl, rfl⟩ ⟨by decide, by decide⟩ (Nat.le_of_ble_eq_true rfl) _ rfl (fun q1 s2 => ?_)
      refine sm_if_ne C 37 dX2_resting_31 (by decide) ?_ ?_
      · refine sm_iload_n C 3 dX2_resting_37 rfl ?_
        refine sm_iload_n C 2 dX2_resting_38 rfl ?_
        refine sm_icmp_ne C 51 dX2_resting_39 (by decide) ?_ ?_
        · refine sm_iinc C 3 (y3 + (1 : Int32)) [(3, .int (y3 + (1 : Int32))), (0, .ref (wad w 64)), (1, .int y1), (2, .int y2), (4, .int y4), (5, .int y5)] dX2_resting_51 rfl (ii_1 _) (by decide) rfl ?_
          refine sm_iinc C 5 (y5 + (1 : Int32)) [(5, .int (y5 + (1 : Int32))), (3, .int (y3 + (1 : Int32))), (0, .ref (wad w 64)), (1, .int y1), (2, .int y2), (4, .int y4)] dX2_resting_54 rfl (ii_1 _) (by decide) rfl ?_
          refine sm_goto C 15 dX2_resting_57 (by decide) ?_
          exact sm_sub [2, 3, 4, 1, 5, 0] rfl (ih y1 y2 (y3 + (1 : Int32)) y4 (y5 + (1 : Int32)) s2)
        · refine sm_iload C 4 dX2_resting_42 rfl ?_
          refine sm_bipush C (8 : Int32) dX2_resting_44 bp_8 ?_
          refine sm_imul C dX2_resting_46 ?_
          refine sm_iload C 5 dX2_resting_47 rfl ?_
          refine sm_iadd C dX2_resting_49 ?_
          exact sm_iret C dX2_resting_50
      · refine sm_goto C 54 dX2_resting_34 (by decide) ?_
        refine sm_iinc C 5 (y5 + (1 : Int32)) [(5, .int (y5 + (1 : Int32))), (0, .ref (wad w 64)), (1, .int y1), (2, .int y2), (3, .int y3), (4, .int y4)] dX2_resting_54 rfl (ii_1 _) (by decide) rfl ?_
        refine sm_goto C 15 dX2_resting_57 (by decide) ?_
        exact sm_sub [1, 2, 3, 4, 5, 0] rfl (ih y1 y2 y3 y4 (y5 + (1 : Int32)) s2)
set_option maxRecDepth 100000 in
set_option maxHeartbeats 4000000 in
theorem sl_X2_resting_L5 {M : Mco} {w : Wco} (C : Cx M w cX2_resting 6 yX2_resting.cls (Cond.code yX2_resting cX2_resting 6 (some .int)) (some .int) { frames := 1, cells := 0, slots := 0, locals := 25 }) (G : GW w) : ∀ (n : Nat) (y1 : Int32) (y2 : Int32) (y3 : Int32) (y4 : Int32) (s0 : Sta), Sm M w 6 oI 5 [(0, .ref (wad w 64)), (1, .int y1), (2, .int y2), (3, .int y3), (4, .int y4)] [] s0 (X2_resting_L5 n y1 y2 y3 y4 s0) := by
  intro n
  induction n with
  | zero => intros; exact sm_none
  | succ n ih =>
    intro y1 y2 y3 y4 s0
    rw [X2_resting_L5.eq_2]
    refine sm_iload C 4 dX2_resting_5 rfl ?_
    refine sm_bipush C (8 : Int32) dX2_resting_7 bp_8 ?_
    refine sm_icmp_ge C 66 dX2_resting_9 (by decide) ?_ ?_
    · refine sm_iload_n C 2 dX2_resting_66 rfl ?_
      refine sm_iconst C (-1 : Int32) dX2_resting_67 ic_m1 ?_
      refine sm_icmp_ne C 75 dX2_resting_68 (by decide) ?_ ?_
      · refine sm_bipush C (-5 : Int32) dX2_resting_75 bp_m5 ?_
        exact sm_iret C dX2_resting_77
      · refine sm_iload_n C 3 dX2_resting_71 rfl ?_
        refine sm_goto C 77 dX2_resting_72 (by decide) ?_
        exact sm_iret C dX2_resting_77
    · refine sm_iload_n C 1 dX2_resting_12 rfl ?_
      refine sm_istore C [(5, .int y1), (0, .ref (wad w 64)), (1, .int y1), (2, .int y2), (3, .int y3), (4, .int y4)] dX2_resting_13 (by decide) rfl ?_
      exact sm_sub [1, 2, 3, 4, 5, 0] rfl (sl_X2_resting_L15 C G ih FU y1 y2 y3 y4 y1 s0)
set_option maxRecDepth 100000 in
set_option maxHeartbeats 4000000 in
theorem ct_X2_resting {l : Launch} {w : Wco} (G : GW w) (x1 : Int32) (x2 : Int32) (s0 : Sta) (qq : Int32) (ss : Sta) (hh : X2_resting x1 x2 s0 = some (qq, ss)) : Ct l w yX2_resting (Cond.code yX2_resting cX2_resting 6 (some .int) :: GT) { frames := 1, cells := 0, slots := 0, locals := 25 } [.ref (wad w 64), .int x1, .int x2] s0 (oI qq) ss := by
  refine ct_of [(0, .ref (wad w 64)), (1, .int x1), (2, .int x2)] (by decide +kernel) (Nat.le_of_ble_eq_true rfl) rfl hh (fun M _ C => ?_)
  unfold X2_resting
  refine sm_iconst C (0 : Int32) dX2_resting_0 ic_0 ?_
  refine sm_istore_n C [(3, .int (0 : Int32)), (0, .ref (wad w 64)), (1, .int x1), (2, .int x2)] dX2_resting_1 (by decide) rfl ?_
  refine sm_iload_n C 2 dX2_resting_2 rfl ?_
  refine sm_istore C [(4, .int x1), (3, .int (0 : Int32)), (0, .ref (wad w 64)), (1, .int x1), (2, .int x2)] dX2_resting_3 (by decide) rfl ?_
  exact sm_sub [2, 3, 4, 1, 0] rfl (sl_X2_resting_L5 C G FU x1 x2 (0 : Int32) x1 s0)
theorem dd_X10_worthWonBy : yX10_worthWonBy.cls = RX10 ∧ yX10_worthWonBy.cls ≠ "java/lang/invoke/MethodHandle" ∧ yX10_worthWonBy.cls ≠ "java/lang/invoke/VarHandle" ∧ (parseMethodDescriptor yX10_worthWonBy.desc).map (fun d => d.parameters.length) = some 1 := by decide +kernel
set_option maxRecDepth 100000 in
set_option maxHeartbeats 4000000 in
theorem sl_X10_worthWonBy_L4 {M : Mco} {w : Wco} (C : Cx M w cX10_worthWonBy 4 yX10_worthWonBy.cls (Cond.code yX10_worthWonBy cX10_worthWonBy 4 (some .int)) (some .int) { frames := 1, cells := 0, slots := 0, locals := 22 }) {rv : Nat} (hrv : isV w rv) : ∀ (n : Nat) (y1 : Int32) (y2 : Int32) (y3 : Int32) (s0 : Sta), Sm M w 4 oI 4 [(0, .ref (wad w rv)), (1, .int y1), (2, .int y2), (3, .int y3)] [] s0 (X10_worthWonBy_L4 rv n y1 y2 y3 s0) := by
  intro n
  induction n with
  | zero => intros; exact sm_none
  | succ n ih =>
    intro y1 y2 y3 s0
    rw [X10_worthWonBy_L4.eq_2]
    refine sm_iload_n C 3 dX10_worthWonBy_4 rfl ?_
    refine sm_bipush C (8 : Int32) dX10_worthWonBy_5 bp_8 ?_
    refine sm_icmp_ge C 25 dX10_worthWonBy_7 (by decide) ?_ ?_
    · refine sm_iload_n C 2 dX10_worthWonBy_25 rfl ?_
      exact sm_iret C dX10_worthWonBy_26
    · refine sm_iload_n C 2 dX10_worthWonBy_10 rfl ?_
      refine sm_aload_n C 0 dX10_worthWonBy_11 rfl ?_
      refine sm_iload_n C 1 dX10_worthWonBy_12 rfl ?_
      refine sm_iload_n C 3 dX10_worthWonBy_13 rfl ?_
      refine r_callVI C (R := RX10) (T := TX10) (N := 13) [.int y1, .int y3] (V_O hrv) rfl (fun qq ss hh => ct_X10_worthWonIn rv hrv y1 y3 s0 qq ss hh) kw_649 kw_650 kw_651 kw_52 kw_652 dX10_worthWonBy_14 rfl dd_X10_worthWonIn ⟨rfl, rfl⟩ ⟨by decide, by decide⟩ (Nat.le_of_ble_eq_true rfl) _ rfl (fun q1 s2 => ?_)
      refine sm_iadd C dX10_worthWonBy_17 ?_
      refine sm_istore_n C [(2, .int (y2 + q1)), (0, .ref (wad w rv)), (1, .int y1), (3, .int y3)] dX10_worthWonBy_18 (by decide) rfl ?_
      refine sm_iinc C 3 (y3 + (1 : Int32)) [(3, .int (y3 + (1 : Int32))), (2, .int (y2 + q1)), (0, .ref (wad w rv)), (1, .int y1)] dX10_worthWonBy_19 rfl (ii_1 _) (by decide) rfl ?_
      refine sm_goto C 4 dX10_worthWonBy_22 (by decide) ?_
      exact sm_sub [2, 3, 1, 0] rfl (ih y1 (y2 + q1) (y3 + (1 : Int32)) s2)
set_option maxRecDepth 100000 in
set_option maxHeartbeats 4000000 in
theorem ct_X10_worthWonBy {l : Launch} {w : Wco} (rv : Nat) (hrv : isV w rv) (x1 : Int32) (s0 : Sta) (qq : Int32) (ss : Sta) (hh : X10_worthWonBy rv x1 s0 = some (qq, ss)) : Ct l w yX10_worthWonBy (Cond.code yX10_worthWonBy cX10_worthWonBy 4 (some .int) :: GT) { frames := 1, cells := 0, slots := 0, locals := 22 } [.ref (wad w rv), .int x1] s0 (oI qq) ss := by
  refine ct_of [(0, .ref (wad w rv)), (1, .int x1)] (by decide +kernel) (Nat.le_of_ble_eq_true rfl) rfl hh (fun M _ C => ?_)
  unfold X10_worthWonBy
  refine sm_iconst C (0 : Int32) dX10_worthWonBy_0 ic_0 ?_
  refine sm_istore_n C [(2, .int (0 : Int32)), (0, .ref (wad w rv)), (1, .int x1)] dX10_worthWonBy_1 (by decide) rfl ?_
  refine sm_iconst C (0 : Int32) dX10_worthWonBy_2 ic_0 ?_
  refine sm_istore_n C [(3, .int (0 : Int32)), (2, .int (0 : Int32)), (0, .ref (wad w rv)), (1, .int x1)] dX10_worthWonBy_3 (by decide) rfl ?_
  exact sm_sub [2, 3, 1, 0] rfl (sl_X10_worthWonBy_L4 C hrv FU x1 (0 : Int32) (0 : Int32) s0)
theorem dd_X10_setPrize : yX10_setPrize.cls = RX10 ∧ yX10_setPrize.cls ≠ "java/lang/invoke/MethodHandle" ∧ yX10_setPrize.cls ≠ "java/lang/invoke/VarHandle" ∧ (parseMethodDescriptor yX10_setPrize.desc).map (fun d => d.parameters.length) = some 3 := by decide +kernel
set_option maxRecDepth 100000 in
set_option maxHeartbeats 4000000 in
theorem ct_X10_setPrize {l : Launch} {w : Wco} (rv : Nat) (hrv : isV w rv) (x1 : Int32) (x2 : Int32) (x3 : Int32) (s0 : Sta) (qq : Unit) (ss : Sta) (hh : X10_setPrize rv x1 x2 x3 s0 = some (qq, ss)) : Ct l w yX10_setPrize (Cond.code yX10_setPrize cX10_setPrize 4 none :: GT) { frames := 0, cells := 0, slots := 0, locals := 0 } [.ref (wad w rv), .int x1, .int x2, .int x3] s0 (oV qq) ss := by
  refine ct_of [(0, .ref (wad w rv)), (1, .int x1), (2, .int x2), (3, .int x3)] (by decide +kernel) (Nat.le_of_ble_eq_true rfl) rfl hh (fun M _ C => ?_)
  unfold X10_setPrize
  refine sm_aload_n C 0 dX10_setPrize_0 rfl ?_
  refine sm_getR C (ci := 10) (R := RX10) (T := TX10) (N := 13) (j := 0) (V_O hrv).2 (V_O hrv).1 rfl gX10 (by decide) kw_110 dX10_setPrize_1 (fun _ _ => rfl) ?_
  refine sm_iload_n C 1 dX10_setPrize_4 rfl ?_
  refine sm_iload_n C 2 dX10_setPrize_5 rfl ?_
  refine r_iast C (V_sorts hrv) dX10_setPrize_6 (fun s1 => ?_)
  refine sm_aload_n C 0 dX10_setPrize_7 rfl ?_
  refine sm_getR C (ci := 10) (R := RX10) (T := TX10) (N := 13) (j := 1) (V_O hrv).2 (V_O hrv).1 rfl gX10 (by decide) kw_114 dX10_setPrize_8 (fun _ _ => rfl) ?_
  refine sm_iload_n C 1 dX10_setPrize_11 rfl ?_
  refine sm_iload_n C 3 dX10_setPrize_12 rfl ?_
  refine r_iast C (V_worths hrv) dX10_setPrize_13 (fun s2 => ?_)
  exact sm_vret C dX10_setPrize_14
theorem dd_X10_swapPrizes : yX10_swapPrizes.cls = RX10 ∧ yX10_swapPrizes.cls ≠ "java/lang/invoke/MethodHandle" ∧ yX10_swapPrizes.cls ≠ "java/lang/invoke/VarHandle" ∧ (parseMethodDescriptor yX10_swapPrizes.desc).map (fun d => d.parameters.length) = some 2 := by decide +kernel
set_option maxRecDepth 100000 in
set_option maxHeartbeats 4000000 in
theorem ct_X10_swapPrizes {l : Launch} {w : Wco} (rv : Nat) (hrv : isV w rv) (x1 : Int32) (x2 : Int32) (s0 : Sta) (qq : Unit) (ss : Sta) (hh : X10_swapPrizes rv x1 x2 s0 = some (qq, ss)) : Ct l w yX10_swapPrizes (Cond.code yX10_swapPrizes cX10_swapPrizes 5 none :: GT) { frames := 1, cells := 0, slots := 0, locals := 23 } [.ref (wad w rv), .int x1, .int x2] s0 (oV qq) ss := by
  refine ct_of [(0, .ref (wad w rv)), (1, .int x1), (2, .int x2)] (by decide +kernel) (Nat.le_of_ble_eq_true rfl) rfl hh (fun M _ C => ?_)
  unfold X10_swapPrizes
  refine sm_aload_n C 0 dX10_swapPrizes_0 rfl ?_
  refine sm_getR C (ci := 10) (R := RX10) (T := TX10) (N := 13) (j := 0) (V_O hrv).2 (V_O hrv).1 rfl gX10 (by decide) kw_110 dX10_swapPrizes_1 (fun _ _ => rfl) ?_
  refine sm_iload_n C 1 dX10_swapPrizes_4 rfl ?_
  refine r_iald C (V_sorts hrv) dX10_swapPrizes_5 (fun v1 => ?_)
  refine sm_istore_n C [(3, .int v1), (0, .ref (wad w rv)), (1, .int x1), (2, .int x2)] dX10_swapPrizes_6 (by decide) rfl ?_
  refine sm_aload_n C 1 dX10_swapPrizes_7 rfl ?_
  refine sm_getR C (ci := 10) (R := RX10) (T := TX10) (N := 13) (j := 1) (V_O hrv).2 (V_O hrv).1 rfl gX10 (by decide) kw_114 dX10_swapPrizes_8 (fun _ _ => rfl) ?_
  refine sm_iload_n C 2 dX10_swapPrizes_11 rfl ?_
  refine r_iald C (V_worths hrv) dX10_swapPrizes_12 (fun v2 => ?_)
  refine sm_istore C [(4, .int v2), (3, .int v1), (0, .ref (wad w rv)), (1, .int x1), (2, .int x2)] dX10_swapPrizes_13 (by decide) rfl ?_
  refine sm_aload_n C 2 dX10_swapPrizes_15 rfl ?_
  refine sm_iload_n C 3 dX10_swapPrizes_16 rfl ?_
  refine sm_aload_n C 2 dX10_swapPrizes_17 rfl ?_
  refine sm_getR C (ci := 10) (R := RX10) (T := TX10) (N := 13) (j := 0) (V_O hrv).2 (V_O hrv).1 rfl gX10 (by decide) kw_110 dX10_swapPrizes_18 (fun _ _ => rfl) ?_
  refine sm_iload_n C 4 dX10_swapPrizes_21 rfl ?_
  refine r_iald C (V_sorts hrv) dX10_swapPrizes_22 (fun v3 => ?_)
  refine sm_aload_n C 2 dX10_swapPrizes_23 rfl ?_
  refine sm_getR C (ci := 10) (R := RX10) (T := TX10) (N := 13) (j := 1) (V_O hrv).2 (V_O hrv).1 rfl gX10 (by decide) kw_114 dX10_swapPrizes_24 (fun _ _ => rfl) ?_
  refine sm_iload_n C 4 dX10_swapPrizes_27 rfl ?_
  refine r_iald C (V_worths hrv) dX10_swapPrizes_28 (fun v4 => ?_)
  refine r_callVU C (R := RX10) (T := TX10) (N := 13) [.int x1, .int v3, .int v4] (V_O hrv) rfl (fun qq ss hh => ct_X10_setPrize rv hrv x1 v3 v4 s0 qq ss hh) kw_714 kw_354 kw_355 kw_52 kw_356 dX10_swapPrizes_29 rfl dd_X10_setPrize ⟨rfl, rfl⟩ ⟨by decide, by decide⟩ (Nat.le_of_ble_eq_true rfl) _ rfl (fun q5 s6 => ?_)
  refine sm_aload_n C 2 dX10_swapPrizes_32 rfl ?_
  refine sm_iload_n C 4 dX10_swapPrizes_33 rfl ?_
  refine sm_iload_n C 1 dX10_swapPrizes_34 rfl ?_
  refine sm_iload C 0 dX10_swapPrizes_35 rfl ?_
  refine r_callVU C (R := RX10) (T := TX10) (N := 13) [.int x2, .int v1, .int v2] (V_O hrv) rfl (fun qq ss hh => ct_X10_setPrize rv hrv x2 v1 v2 s6 qq ss hh) kw_714 kw_354 kw_355 kw_52 kw_356 dX10_swapPrizes_37 rfl dd_X10_setPrize ⟨rfl, rfl⟩ ⟨by decide, by decide⟩ (Nat.le_of_ble_eq_true rfl) _ rfl (fun q7 s8 => ?_)
  exact sm_vret C dX10_swapPrizes_40
theorem dd_X2_bestSwap : yX2_bestSwap.cls = RX2 ∧ yX2_bestSwap.cls ≠ "java/lang/invoke/MethodHandle" ∧ yX2_bestSwap.cls ≠ "java/lang/invoke/VarHandle" ∧ (parseMethodDescriptor yX2_bestSwap.desc).map (fun d => d.parameters.length) = some 2 := by decide +kernel
set_option maxRecDepth 100000 in
set_option maxHeartbeats 4000000 in
theorem sl_X2_bestSwap_L42 {M : Mco} {w : Wco} (C : Cx M w cX2_bestSwap 7 yX2_bestSwap.cls (Cond.code yX2_bestSwap cX2_bestSwap 7 (some .int)) (some .int) { frames := 7, cells := 0, slots := 0, locals := 187 }) {rv : Nat} (G : GW w) (hrv : isV w rv) {k29 : Int32 → Int32 → Int32 → Int32 → Sta → Option (Int32 × Sta)} (H29 : ∀ (y2 : Int32) (y3 : Int32) (y4 : Int32) (y5 : Int32) (s0 : Sta), Sm M w 7 oI 29 [(0, .ref (wad w 64)), (1, .ref (wad w rv)), (2, .int y2), (3, .int y3), (4, .int y4), (5, .int y5)] [] s0 (k29 y2 y3 y4 y5 s0)) : ∀ (n : Nat) (y2 : Int32) (y3 : Int32) (y4 : Int32) (y5 : Int32) (y6 : Int32) (s0 : Sta), Sm M w 7 oI 42 [(0, .ref (wad w 64)), (1, .ref (wad w rv)), (2, .int y2), (3, .int y3), (4, .int y4), (5, .int y5), (6, .int y6)] [] s0 (X2_bestSwap_L42 rv k29 n y2 y3 y4 y5 y6 s0) := by
  intro n
  induction n with
  | zero => intros; exact sm_none
  | succ n ih =>
    intro y2 y3 y4 y5 y6 s0
    rw [X2_bestSwap_L42.eq_2]
    refine sm_iload C 6 dX2_bestSwap_42 rfl ?_
    refine sm_bipush C (8 : Int32) dX2_bestSwap_44 bp_8 ?_
    refine sm_icmp_ge C 108 dX2_bestSwap_46 (by decide) ?_ ?_
    · refine sm_iinc C 5 (y5 + (1 : Int32)) [(5, .int (y5 + (1 : Int32))), (0, .ref (wad w 64)), (1, .ref (wad w rv)), (2, .int y2), (3, .int y3), (4, .int y4), (6, .int y6)] dX2_bestSwap_108 rfl (ii_1 _) (by decide) rfl ?_
      refine sm_goto C 29 dX2_bestSwap_111 (by decide) ?_
      exact sm_sub [1, 2, 3, 4, 5, 0] rfl (H29 y2 y3 y4 (y5 + (1 : Int32)) s0)
    · refine sm_aload_n C 0 dX2_bestSwap_49 rfl ?_
      refine sm_aload_n C 1 dX2_bestSwap_50 rfl ?_
      refine r_callVU C (R := RX2) (T := TX2) (N := 4) [.ref (wad w rv)] (G_F G) rfl (fun qq ss hh => ct_X2_begin rv G hrv s0 qq ss hh) kw_623 kw_624 kw_625 kw_62 kw_626 dX2_bestSwap_51 rfl dd_X2_begin ⟨rfl, rfl⟩ ⟨by decide, by decide⟩ (Nat.le_of_ble_eq_true rfl) _ rfl (fun q8 s9 => ?_)
      refine sm_aload_n C 0 dX2_bestSwap_54 rfl ?_
      refine sm_getR C (ci := 2) (R := RX2) (T := TX2) (N := 4) (j := 1) (G_F G).2 (G_F G).1 rfl gX2 (by decide) kw_261 dX2_bestSwap_55 (fun _ _ => rfl) ?_
      refine sm_iload C 5 dX2_bestSwap_58 rfl ?_
      refine sm_iload C 6 dX2_bestSwap_60 rfl ?_
      refine r_callVU C (R := RX10) (T := TX10) (N := 13) [.int y5, .int y6] (V_O (G_trial G)) rfl (fun qq ss hh => ct_X10_swapPrizes 65 (G_trial G) y5 y6 s9 qq ss hh) kw_710 kw_711 kw_712 kw_52 kw_713 dX2_bestSwap_62 rfl dd_X10_swapPrizes ⟨rfl, rfl⟩ ⟨by decide, by decide⟩ (Nat.le_of_ble_eq_true rfl) _ rfl (fun q10 s11 => ?_)
      refine sm_aload_n C 0 dX2_bestSwap_65 rfl ?_
      refine sm_bipush C (8 : Int32) dX2_bestSwap_66 bp_8 ?_
      refine r_callVU C (R := RX2) (T := TX2) (N := 4) [.int (8 : Int32)] (G_F G) rfl (fun qq ss hh => ct_X2_runTo G (8 : Int32) s11 qq ss hh) kw_629 kw_630 kw_631 kw_62 kw_632 dX2_bestSwap_68 rfl dd_X2_runTo ⟨rfl, rfl⟩ ⟨by decide, by decide⟩ (Nat.le_of_ble_eq_true rfl) _ rfl (fun q12 s13 => ?_)
      refine sm_aload_n C 0 dX2_bestSwap_71 rfl ?_
      refine sm_getR C (ci := 2) (R := RX2) (T := TX2) (N := 4) (j := 1) (G_F G).2 (G_F G).1 rfl gX2 (by decide) kw_261 dX2_bestSwap_72 (fun _ _ => rfl) ?_
      refine sm_iload_n C 2 dX2_bestSwap_75 rfl ?_
      refine r_callVI C (R := RX10) (T := TX10) (N := 13) [.int y2] (V_O (G_trial G)) rfl (fun qq ss hh => ct_X10_worthWonBy 65 (G_trial G) y2 s13 qq ss hh) kw_709 kw_646 kw_647 kw_52 kw_648 dX2_bestSwap_76 rfl dd_X10_worthWonBy ⟨rfl, rfl⟩ ⟨by decide, by decide⟩ (Nat.le_of_ble_eq_true rfl) _ rfl (fun q14 s15 => ?_)
      refine sm_iload_n C 3 dX2_bestSwap_79 rfl ?_
      refine sm_icmp_le C 102 dX2_bestSwap_80 (by decide) ?_ ?_
      · refine sm_iinc C 6 (y6 + (1 : Int32)) [(6, .int (y6 + (1 : Int32))), (0, .ref (wad w 64)), (1, .ref (wad w rv)), (2, .int y2), (3, .int y3), (4, .int y4), (5, .int y5)] dX2_bestSwap_102 rfl (ii_1 _) (by decide) rfl ?_
        refine sm_goto C 42 dX2_bestSwap_105 (by decide) ?_
        exact sm_sub [1, 2, 3, 4, 5, 6, 0] rfl (ih y2 y3 y4 y5 (y6 + (1 : Int32)) s15)
      · refine sm_aload_n C 0 dX2_bestSwap_83 rfl ?_
        refine sm_getR C (ci := 2) (R := RX2) (T := TX2) (N := 4) (j := 1) (G_F G).2 (G_F G).1 rfl gX2 (by decide) kw_261 dX2_bestSwap_84 (fun _ _ => rfl) ?_
        refine sm_iload_n C 2 dX2_bestSwap_87 rfl ?_
        refine r_callVI C (R := RX10) (T := TX10) (N := 13) [.int y2] (V_O (G_trial G)) rfl (fun qq ss hh => ct_X10_worthWonBy 65 (G_trial G) y2 s15 qq ss hh) kw_709 kw_646 kw_647 kw_52 kw_648 dX2_bestSwap_88 rfl dd_X10_worthWonBy ⟨rfl, rfl⟩ ⟨by decide, by decide⟩ (Nat.le_of_ble_eq_true rfl) _ rfl (fun q16 s17 => ?_)
        refine sm_istore_n C [(3, .int q16), (0, .ref (wad w 64)), (1, .ref (wad w rv)), (2, .int y2), (4, .int y4), (5, .int y5), (6, .int y6)] dX2_bestSwap_91 (by decide) rfl ?_
        refine sm_bipush C (10 : Int32) dX2_bestSwap_92 bp_10 ?_
        refine sm_iload C 5 dX2_bestSwap_94 rfl ?_
        refine sm_imul C dX2_bestSwap_96 ?_
        refine sm_iload C 6 dX2_bestSwap_97 rfl ?_
        refine sm_iadd C dX2_bestSwap_99 ?_
        refine sm_istore C [(4, .int (((10 : Int32) * y5) + y6)), (3, .int q16), (0, .ref (wad w 64)), (1, .ref (wad w rv)), (2, .int y2), (5, .int y5), (6, .int y6)] dX2_bestSwap_100 (by decide) rfl ?_
        refine sm_iinc C 6 (y6 + (1 : Int32)) [(6, .int (y6 + (1 : Int32))), (4, .int (((10 : Int32) * y5) + y6)), (3, .int q16), (0, .ref (wad w 64)), (1, .ref (wad w rv)), (2, .int y2), (5, .int y5)] dX2_bestSwap_102 rfl (ii_1 _) (by decide) rfl ?_
        refine sm_goto C 42 dX2_bestSwap_105 (by decide) ?_
        exact sm_sub [3, 4, 5, 2, 1, 6, 0] rfl (ih y2 q16 (((10 : Int32) * y5) + y6) y5 (y6 + (1 : Int32)) s17)
set_option maxRecDepth 100000 in
set_option maxHeartbeats 4000000 in
theorem sl_X2_bestSwap_L29 {M : Mco} {w : Wco} (C : Cx M w cX2_bestSwap 7 yX2_bestSwap.cls (Cond.code yX2_bestSwap cX2_bestSwap 7 (some .int)) (some .int) { frames := 7, cells := 0, slots := 0, locals := 187 }) {rv : Nat} (G : GW w) (hrv : isV w rv) : ∀ (n : Nat) (y2 : Int32) (y3 : Int32) (y4 : Int32) (y5 : Int32) (s0 : Sta), Sm M w 7 oI 29 [(0, .ref (wad w 64)), (1, .ref (wad w rv)), (2, .int y2), (3, .int y3), (4, .int y4), (5, .int y5)] [] s0 (X2_bestSwap_L29 rv n y2 y3 y4 y5 s0) := by
  intro n
  induction n with
  | zero => intros; exact sm_none
  | succ n ih =>
    intro y2 y3 y4 y5 s0
    rw [X2_bestSwap_L29.eq_2]
    refine sm_iload C 5 dX2_bestSwap_29 rfl ?_
    refine sm_bipush C (8 : Int32) dX2_bestSwap_31 bp_8 ?_
    refine sm_icmp_ge C 114 dX2_bestSwap_33 (by decide) ?_ ?_
    · refine sm_iload C 4 dX2_bestSwap_114 rfl ?_
      exact sm_iret C dX2_bestSwap_116
    · refine sm_iload C 5 dX2_bestSwap_36 rfl ?_
      refine sm_iconst C (1 : Int32) dX2_bestSwap_38 ic_1 ?_
      refine sm_iadd C dX2_bestSwap_39 ?_
      refine sm_istore C [(6, .int (y5 + (1 : Int32))), (0, .ref (wad w 64)), (1, .ref (wad w rv)), (2, .int y2), (3, .int y3), (4, .int y4), (5, .int y5)] dX2_bestSwap_40 (by decide) rfl ?_
      exact sm_sub [1, 2, 3, 4, 5, 6, 0] rfl (sl_X2_bestSwap_L42 C G hrv ih FU y2 y3 y4 y5 (y5 + (1 : Int32)) s0)
set_option maxRecDepth 100000 in
set_option maxHeartbeats 4000000 in
theorem ct_X2_bestSwap {l : Launch} {w : Wco} (rv : Nat) (G : GW w) (hrv : isV w rv) (x1 : Int32) (s0 : Sta) (qq : Int32) (ss : Sta) (hh : X2_bestSwap rv x1 s0 = some (qq, ss)) : Ct l w yX2_bestSwap (Cond.code yX2_bestSwap cX2_bestSwap 7 (some .int) :: GT) { frames := 7, cells := 0, slots := 0, locals := 187 } [.ref (wad w 64), .ref (wad w rv), .int x1] s0 (oI qq) ss := by
  refine ct_of [(0, .ref (wad w 64)), (1, .ref (wad w rv)), (2, .int x1)] (by decide +kernel) (Nat.le_of_ble_eq_true rfl) rfl hh (fun M _ C => ?_)
  unfold X2_bestSwap
  refine sm_aload_n C 0 dX2_bestSwap_0 rfl ?_
  refine sm_aload_n C 1 dX2_bestSwap_1 rfl ?_
  refine r_callVU C (R := RX2) (T := TX2) (N := 4) [.ref (wad w rv)] (G_F G) rfl (fun qq ss hh => ct_X2_begin rv G hrv s0 qq ss hh) kw_623 kw_624 kw_625 kw_62 kw_626 dX2_bestSwap_2 rfl dd_X2_begin ⟨rfl, rfl⟩ ⟨by decide, by decide⟩ (Nat.le_of_ble_eq_true rfl) _ rfl (fun q1 s2 => ?_)
  refine sm_aload_n C 0 dX2_bestSwap_5 rfl ?_
  refine sm_bipush C (8 : Int32) dX2_bestSwap_6 bp_8 ?_
  refine r_callVU C (R := RX2) (T := TX2) (N := 4) [.int (8 : Int32)] (G_F G) rfl (fun qq ss hh => ct_X2_runTo G (8 : Int32) s2 qq ss hh) kw_629 kw_630 kw_631 kw_62 kw_632 dX2_bestSwap_8 rfl dd_X2_runTo ⟨rfl, rfl⟩ ⟨by decide, by decide⟩ (Nat.le_of_ble_eq_true rfl) _ rfl (fun q3 s4 => ?_)
  refine sm_aload_n C 0 dX2_bestSwap_11 rfl ?_
  refine sm_getR C (ci := 2) (R := RX2) (T := TX2) (N := 4) (j := 1) (G_F G).2 (G_F G).1 rfl gX2 (by decide) kw_261 dX2_bestSwap_12 (fun _ _ => rfl) ?_
  refine sm_iload_n C 2 dX2_bestSwap_15 rfl ?_
  refine r_callVI C (R := RX10) (T := TX10) (N := 13) [.int x1] (V_O (G_trial G)) rfl (fun qq ss hh => ct_X10_worthWonBy 65 (G_trial G) x1 s4 qq ss hh) kw_709 kw_646 kw_647 kw_52 kw_648 dX2_bestSwap_16 rfl dd_X10_worthWonBy ⟨rfl, rfl⟩ ⟨by decide, by decide⟩ (Nat.le_of_ble_eq_true rfl) _ rfl (fun q5 s6 => ?_)
  refine sm_istore_n C [(3, .int q5), (0, .ref (wad w 64)), (1, .ref (wad w rv)), (2, .int x1)] dX2_bestSwap_19 (by decide) rfl ?_
  refine sm_iconst C (-1 : Int32) dX2_bestSwap_20 ic_m1 ?_
  refine sm_istore C [(4, .int (-1 : Int32)), (3, .int q5), (0, .ref (wad w 64)), (1, .ref (wad w rv)), (2, .int x1)] dX2_bestSwap_21 (by decide) rfl ?_
  refine sm_aload_n C 3 dX2_bestSwap_23 rfl ?_
  refine sm_getIN C (ci := 10) (R := RX10) (T := TX10) (N := 13) (j := 11) (V_O hrv).2 (V_O hrv).1 rfl gX10 (by decide) nf_24 dX2_bestSwap_24 (fun _ _ => rfl) (fun v7 => ?_)
  refine sm_istore C [(5, .int v7), (4, .int (-1 : Int32)), (3, .int q5), (0, .ref (wad w 64)), (1, .ref (wad w rv)), (2, .int x1)] dX2_bestSwap_27 (by decide) rfl ?_
  exact sm_sub [3, 4, 5, 2, 1, 0] rfl (sl_X2_bestSwap_L29 C G hrv FU x1 q5 (-1 : Int32) v7 s6)
theorem dd_X2_worthInValleys : yX2_worthInValleys.cls = RX2 ∧ yX2_worthInValleys.cls ≠ "java/lang/invoke/MethodHandle" ∧ yX2_worthInValleys.cls ≠ "java/lang/invoke/VarHandle" ∧ (parseMethodDescriptor yX2_worthInValleys.desc).map (fun d => d.parameters.length) = some 3 := by decide +kernel
set_option maxRecDepth 100000 in
set_option maxHeartbeats 4000000 in
theorem sl_X2_worthInValleys_L27 {M : Mco} {w : Wco} (C : Cx M w cX2_worthInValleys 9 yX2_worthInValleys.cls (Cond.code yX2_worthInValleys cX2_worthInValleys 9 (some .int)) (some .int) { frames := 6, cells := 0, slots := 0, locals := 165 }) {rv : Nat} (G : GW w) (hrv : isV w rv) {k10 : Int32 → Int64 → Int32 → Int32 → Sta → Option (Int32 × Sta)} (H10 : ∀ (y3 : Int32) (y4 : Int64) (y6 : Int32) (y7 : Int32) (s0 : Sta), Sm M w 9 oI 10 [(0, .ref (wad w 64)), (1, .ref (wad w rv)), (3, .int y3), (4, .long y4), (6, .int y6), (7, .int y7)] [] s0 (k10 y3 y4 y6 y7 s0)) : ∀ (n : Nat) (y3 : Int32) (y4 : Int64) (y6 : Int32) (y7 : Int32) (y8 : Int32) (s0 : Sta), Sm M w 9 oI 27 [(0, .ref (wad w 64)), (1, .ref (wad w rv)), (3, .int y3), (4, .long y4), (6, .int y6), (7, .int y7), (8, .int y8)] [] s0 (X2_worthInValleys_L27 rv k10 n y3 y4 y6 y7 y8 s0) := by
  intro n
  induction n with
  | zero => intros; exact sm_none
  | succ n ih =>
    intro y3 y4 y6 y7 y8 s0
    rw [X2_worthInValleys_L27.eq_2]
    refine sm_iload C 6 dX2_worthInValleys_27 rfl ?_
    refine sm_bipush C (8 : Int32) dX2_worthInValleys_29 bp_8 ?_
    refine sm_icmp_ge C 153 dX2_worthInValleys_31 (by decide) ?_ ?_
    · refine sm_iinc C 5 (y7 + (1 : Int32)) [(7, .int (y7 + (1 : Int32))), (0, .ref (wad w 64)), (1, .ref (wad w rv)), (3, .int y3), (4, .long y4), (6, .int y6), (8, .int y8)] dX2_worthInValleys_153 rfl (ii_1 _) (by decide) rfl ?_
      refine sm_goto C 10 dX2_worthInValleys_156 (by decide) ?_
      exact sm_sub [1, 2, 3, 4, 5, 0] rfl (H10 y3 y4 y6 (y7 + (1 : Int32)) s0)
    · refine sm_lload C 3 dX2_worthInValleys_34 rfl ?_
      refine sm_ldc2 C kw_798 dX2_worthInValleys_36 ?_
      refine sm_lmul C dX2_worthInValleys_39 ?_
      refine sm_ldc2 C kw_799 dX2_worthInValleys_40 ?_
      refine sm_ladd C dX2_worthInValleys_43 ?_
      refine sm_ldc2 C kw_800 dX2_worthInValleys_44 ?_
      refine sm_lrem C dX2_worthInValleys_47 (by decide) ?_
      refine sm_lstore C [(4, .long (((y4 * (1103515245 : Int64)) + (12345 : Int64)) - ((y4 * (1103515245 : Int64)) + (12345 : Int64)) / (2147483648 : Int64) * (2147483648 : Int64))), (0, .ref (wad w 64)), (1, .ref (wad w rv)), (3, .int y3), (6, .int y6), (7, .int y7), (8, .int y8)] dX2_worthInValleys_48 (by decide) rfl ?_
      refine sm_aload_n C 1 dX2_worthInValleys_50 rfl ?_
      refine sm_getR C (ci := 2) (R := RX2) (T := TX2) (N := 4) (j := 1) (G_F G).2 (G_F G).1 rfl gX2 (by decide) kw_261 dX2_worthInValleys_51 (fun _ _ => rfl) ?_
      refine sm_iload C 6 dX2_worthInValleys_54 rfl ?_
      refine sm_lload C 0 dX2_worthInValleys_56 rfl ?_
      refine sm_ldc2 C kw_801 dX2_worthInValleys_58 ?_
      refine sm_ldiv C dX2_worthInValleys_61 (by decide) ?_
      refine sm_ldc2 C kw_802 dX2_worthInValleys_62 ?_
      refine sm_lrem C dX2_worthInValleys_65 (by decide) ?_
      refine sm_l2i C dX2_worthInValleys_66 ?_
      refine sm_lload C 0 dX2_worthInValleys_67 rfl ?_
      refine sm_ldc2 C kw_803 dX2_worthInValleys_69 ?_
      refine sm_ldiv C dX2_worthInValleys_72 (by decide) ?_
      refine sm_ldc2 C kw_804 dX2_worthInValleys_73 ?_
      refine sm_lrem C dX2_worthInValleys_76 (by decide) ?_
      refine sm_l2i C dX2_worthInValleys_77 ?_
      refine sm_iconst C (1 : Int32) dX2_worthInValleys_78 ic_1 ?_
      refine sm_iadd C dX2_worthInValleys_79 ?_
      refine r_callVU C (R := RX10) (T := TX10) (N := 13) [.int y8, .int ((((((y4 * (1103515245 : Int64)) + (12345 : Int64)) - ((y4 * (1103515245 : Int64)) + (12345 : Int64)) / (2147483648 : Int64) * (2147483648 : Int64)) / (65536 : Int64)) - ((((y4 * (1103515245 : Int64)) + (12345 : Int64)) - ((y4 * (1103515245 : Int64)) + (12345 : Int64)) / (2147483648 : Int64) * (2147483648 : Int64)) / (65536 : Int64)) / (3 : Int64) * (3 : Int64)).toInt32), .int ((((((y4 * (1103515245 : Int64)) + (12345 : Int64)) - ((y4 * (1103515245 : Int64)) + (12345 : Int64)) / (2147483648 : Int64) * (2147483648 : Int64)) / (1048576 : Int64)) - ((((y4 * (1103515245 : Int64)) + (12345 : Int64)) - ((y4 * (1103515245 : Int64)) + (12345 : Int64)) / (2147483648 : Int64) * (2147483648 : Int64)) / (1048576 : Int64)) / (30 : Int64) * (30 : Int64)).toInt32 + (1 : Int32))] (V_O (G_trial G)) rfl (fun qq ss hh => ct_X10_setPrize 65 (G_trial G) y8 ((((((y4 * (1103515245 : Int64)) + (12345 : Int64)) - ((y4 * (1103515245 : Int64)) + (12345 : Int64)) / (2147483648 : Int64) * (2147483648 : Int64)) / (65536 : Int64)) - ((((y4 * (1103515245 : Int64)) + (12345 : Int64)) - ((y4 * (1103515245 : Int64)) + (12345 : Int64)) / (2147483648 : Int64) * (2147483648 : Int64)) / (65536 : Int64)) / (3 : Int64) * (3 : Int64)).toInt32) ((((((y4 * (1103515245 : Int64)) + (12345 : Int64)) - ((y4 * (1103515245 : Int64)) + (12345 : Int64)) / (2147483648 : Int64) * (2147483648 : Int64)) / (1048576 : Int64)) - ((((y4 * (1103515245 : Int64)) + (12345 : Int64)) - ((y4 * (1103515245 : Int64)) + (12345 : Int64)) / (2147483648 : Int64) * (2147483648 : Int64)) / (1048576 : Int64)) / (30 : Int64) * (30 : Int64)).toInt32 + (1 : Int32)) s0 qq ss hh) kw_805 kw_354 kw_355 kw_52 kw_356 dX2_worthInValleys_80 rfl dd_X10_setPrize ⟨rfl, rfl⟩ ⟨by decide, by decide⟩ (Nat.le_of_ble_eq_true rfl) _ rfl (fun q4 s5 => ?_)
      refine sm_aload_n C 1 dX2_worthInValleys_83 rfl ?_
      refine sm_getR C (ci := 2) (R := RX2) (T := TX2) (N := 4) (j := 0) (G_F G).2 (G_F G).1 rfl gX2 (by decide) kw_260 dX2_worthInValleys_84 (fun _ _ => rfl) ?_
      refine sm_aload_n C 1 dX2_worthInValleys_87 rfl ?_
      refine sm_getR C (ci := 2) (R := RX2) (T := TX2) (N := 4) (j := 1) (G_F G).2 (G_F G).1 rfl gX2 (by decide) kw_261 dX2_worthInValleys_88 (fun _ _ => rfl) ?_
      refine sm_iload C 6 dX2_worthInValleys_91 rfl ?_
      refine r_callVU C (R := RX0) (T := TX0) (N := 5) [.ref (wad w 65), .int y8] (C_O (G_con G)) rfl (fun qq ss hh => ct_X0_hold 55 65 (G_con G) (G_trial G) y8 s5 qq ss hh) kw_633 kw_508 kw_509 kw_55 kw_510 dX2_worthInValleys_93 rfl dd_X0_hold ⟨rfl, rfl⟩ ⟨by decide, by decide⟩ (Nat.le_of_ble_eq_true rfl) _ rfl (fun q6 s7 => ?_)
      refine sm_aload_n C 1 dX2_worthInValleys_96 rfl ?_
      refine sm_getR C (ci := 2) (R := RX2) (T := TX2) (N := 4) (j := 1) (G_F G).2 (G_F G).1 rfl gX2 (by decide) kw_261 dX2_worthInValleys_97 (fun _ _ => rfl) ?_
      refine sm_aload_n C 1 dX2_worthInValleys_100 rfl ?_
      refine sm_getR C (ci := 2) (R := RX2) (T := TX2) (N := 4) (j := 0) (G_F G).2 (G_F G).1 rfl gX2 (by decide) kw_260 dX2_worthInValleys_101 (fun _ _ => rfl) ?_
      refine sm_getIN C (ci := 0) (R := RX0) (T := TX0) (N := 5) (j := 3) (C_O (G_con G)).2 (C_O (G_con G)).1 rfl gX0 (by decide) nf_29 dX2_worthInValleys_104 (fun _ _ => rfl) (fun v8 => ?_)
      refine sm_aload_n C 1 dX2_worthInValleys_107 rfl ?_
      refine sm_getR C (ci := 2) (R := RX2) (T := TX2) (N := 4) (j := 0) (G_F G).2 (G_F G).1 rfl gX2 (by decide) kw_260 dX2_worthInValleys_108 (fun _ _ => rfl) ?_
      refine sm_getIN C (ci := 0) (R := RX0) (T := TX0) (N := 5) (j := 4) (C_O (G_con G)).2 (C_O (G_con G)).1 rfl gX0 (by decide) nf_31 dX2_worthInValleys_111 (fun _ _ => rfl) (fun v9 => ?_)
      refine r_callVU C (R := RX10) (T := TX10) (N := 13) [.int v8, .int v9] (V_O (G_trial G)) rfl (fun qq ss hh => ct_X10_pass 65 (G_trial G) v8 v9 s7 qq ss hh) kw_634 kw_578 kw_579 kw_52 kw_580 dX2_worthInValleys_114 rfl dd_X10_pass ⟨rfl, rfl⟩ ⟨by decide, by decide⟩ (Nat.le_of_ble_eq_true rfl) _ rfl (fun q10 s11 => ?_)
      refine sm_iload C 4 dX2_worthInValleys_117 rfl ?_
      refine sm_aload_n C 1 dX2_worthInValleys_119 rfl ?_
      refine sm_getR C (ci := 2) (R := RX2) (T := TX2) (N := 4) (j := 0) (G_F G).2 (G_F G).1 rfl gX2 (by decide) kw_260 dX2_worthInValleys_120 (fun _ _ => rfl) ?_
      refine sm_getIN C (ci := 0) (R := RX0) (T := TX0) (N := 5) (j := 3) (C_O (G_con G)).2 (C_O (G_con G)).1 rfl gX0 (by decide) nf_29 dX2_worthInValleys_123 (fun _ _ => rfl) (fun v12 => ?_)
      refine sm_iconst C (-1 : Int32) dX2_worthInValleys_126 ic_m1 ?_
      refine sm_icmp_ne C 134 dX2_worthInValleys_127 (by decide) ?_ ?_
      · refine sm_aload_n C 1 dX2_worthInValleys_134 rfl ?_
        refine sm_getR C (ci := 2) (R := RX2) (T := TX2) (N := 4) (j := 1) (G_F G).2 (G_F G).1 rfl gX2 (by decide) kw_261 dX2_worthInValleys_135 (fun _ _ => rfl) ?_
        refine sm_getRN C (ci := 10) (R := RX10) (T := TX10) (N := 13) (j := 1) (V_O (G_trial G)).2 (V_O (G_trial G)).1 rfl gX10 (by decide) nf_8 dX2_worthInValleys_138 (fun _ _ => rfl) ?_
        refine sm_iload C 6 dX2_worthInValleys_141 rfl ?_
        refine r_iald C (V_worths (G_trial G)) dX2_worthInValleys_143 (fun v13 => ?_)
        refine sm_iadd C dX2_worthInValleys_144 ?_
        refine sm_istore C [(6, .int (y6 + v13)), (4, .long (((y4 * (1103515245 : Int64)) + (12345 : Int64)) - ((y4 * (1103515245 : Int64)) + (12345 : Int64)) / (2147483648 : Int64) * (2147483648 : Int64))), (0, .ref (wad w 64)), (1, .ref (wad w rv)), (3, .int y3), (7, .int y7), (8, .int y8)] dX2_worthInValleys_145 (by decide) rfl ?_
        refine sm_iinc C 6 (y8 + (1 : Int32)) [(8, .int (y8 + (1 : Int32))), (6, .int (y6 + v13)), (4, .long (((y4 * (1103515245 : Int64)) + (12345 : Int64)) - ((y4 * (1103515245 : Int64)) + (12345 : Int64)) / (2147483648 : Int64) * (2147483648 : Int64))), (0, .ref (wad w 64)), (1, .ref (wad w rv)), (3, .int y3), (7, .int y7)] dX2_worthInValleys_147 rfl (ii_1 _) (by decide) rfl ?_
        refine sm_goto C 27 dX2_worthInValleys_150 (by decide) ?_
        exact sm_sub [3, 4, 5, 2, 1, 6, 0] rfl (ih y3 (((y4 * (1103515245 : Int64)) + (12345 : Int64)) - ((y4 * (1103515245 : Int64)) + (12345 : Int64)) / (2147483648 : Int64) * (2147483648 : Int64)) (y6 + v13) y7 (y8 + (1 : Int32)) s11)
      · refine sm_iconst C (0 : Int32) dX2_worthInValleys_130 ic_0 ?_
        refine sm_goto C 144 dX2_worthInValleys_131 (by decide) ?_
        refine sm_iadd C dX2_worthInValleys_144 ?_
        refine sm_istore C [(6, .int (y6 + (0 : Int32))), (4, .long (((y4 * (1103515245 : Int64)) + (12345 : Int64)) - ((y4 * (1103515245 : Int64)) + (12345 : Int64)) / (2147483648 : Int64) * (2147483648 : Int64))), (0, .ref (wad w 64)), (1, .ref (wad w rv)), (3, .int y3), (7, .int y7), (8, .int y8)] dX2_worthInValleys_145 (by decide) rfl ?_
        refine sm_iinc C 6 (y8 + (1 : Int32)) [(8, .int (y8 + (1 : Int32))), (6, .int (y6 + (0 : Int32))), (4, .long (((y4 * (1103515245 : Int64)) + (12345 : Int64)) - ((y4 * (1103515245 : Int64)) + (12345 : Int64)) / (2147483648 : Int64) * (2147483648 : Int64))), (0, .ref (wad w 64)), (1, .ref (wad w rv)), (3, .int y3), (7, .int y7)] dX2_worthInValleys_147 rfl (ii_1 _) (by decide) rfl ?_
        refine sm_goto C 27 dX2_worthInValleys_150 (by decide) ?_
        exact sm_sub [3, 4, 5, 2, 1, 6, 0] rfl (ih y3 (((y4 * (1103515245 : Int64)) + (12345 : Int64)) - ((y4 * (1103515245 : Int64)) + (12345 : Int64)) / (2147483648 : Int64) * (2147483648 : Int64)) (y6 + (0 : Int32)) y7 (y8 + (1 : Int32)) s11)
set_option maxRecDepth 100000 in
set_option maxHeartbeats 4000000 in
theorem sl_X2_worthInValleys_L10 {M : Mco} {w : Wco} (C : Cx M w cX2_worthInValleys 9 yX2_worthInValleys.cls (Cond.code yX2_worthInValleys cX2_worthInValleys 9 (some .int)) (some .int) { frames := 6, cells := 0, slots := 0, locals := 165 }) {rv : Nat} (G : GW w) (hrv : isV w rv) : ∀ (n : Nat) (y3 : Int32) (y4 : Int64) (y6 : Int32) (y7 : Int32) (s0 : Sta), Sm M w 9 oI 10 [(0, .ref (wad w 64)), (1, .ref (wad w rv)), (3, .int y3), (4, .long y4), (6, .int y6), (7, .int y7)] [] s0 (X2_worthInValleys_L10 rv n y3 y4 y6 y7 s0) := by
  intro n
  induction n with
  | zero => intros; exact sm_none
  | succ n ih =>
    intro y3 y4 y6 y7 s0
    rw [X2_worthInValleys_L10.eq_2]
    refine sm_iload C 5 dX2_worthInValleys_10 rfl ?_
    refine sm_iload_n C 2 dX2_worthInValleys_12 rfl ?_
    refine sm_icmp_ge C 159 dX2_worthInValleys_13 (by decide) ?_ ?_
    · refine sm_iload C 4 dX2_worthInValleys_159 rfl ?_
      exact sm_iret C dX2_worthInValleys_161
    · refine sm_aload_n C 0 dX2_worthInValleys_16 rfl ?_
      refine sm_aload_n C 1 dX2_worthInValleys_17 rfl ?_
      refine r_callVU C (R := RX2) (T := TX2) (N := 4) [.ref (wad w rv)] (G_F G) rfl (fun qq ss hh => ct_X2_begin rv G hrv s0 qq ss hh) kw_623 kw_624 kw_625 kw_62 kw_626 dX2_worthInValleys_18 rfl dd_X2_begin ⟨rfl, rfl⟩ ⟨by decide, by decide⟩ (Nat.le_of_ble_eq_true rfl) _ rfl (fun q1 s2 => ?_)
      refine sm_aload_n C 1 dX2_worthInValleys_21 rfl ?_
      refine sm_getIN C (ci := 10) (R := RX10) (T := TX10) (N := 13) (j := 11) (V_O hrv).2 (V_O hrv).1 rfl gX10 (by decide) nf_24 dX2_worthInValleys_22 (fun _ _ => rfl) (fun v3 => ?_)
      refine sm_istore C [(8, .int v3), (0, .ref (wad w 64)), (1, .ref (wad w rv)), (3, .int y3), (4, .long y4), (6, .int y6), (7, .int y7)] dX2_worthInValleys_25 (by decide) rfl ?_
      exact sm_sub [1, 2, 3, 4, 5, 6, 0] rfl (sl_X2_worthInValleys_L27 C G hrv ih FU y3 y4 y6 y7 v3 s2)
set_option maxRecDepth 100000 in
set_option maxHeartbeats 4000000 in
theorem ct_X2_worthInValleys {l : Launch} {w : Wco} (rv : Nat) (G : GW w) (hrv : isV w rv) (x1 : Int32) (x2 : Int32) (s0 : Sta) (qq : Int32) (ss : Sta) (hh : X2_worthInValleys rv x1 x2 s0 = some (qq, ss)) : Ct l w yX2_worthInValleys (Cond.code yX2_worthInValleys cX2_worthInValleys 9 (some .int) :: GT) { frames := 6, cells := 0, slots := 0, locals := 165 } [.ref (wad w 64), .ref (wad w rv), .int x1, .int x2] s0 (oI qq) ss := by
  refine ct_of [(0, .ref (wad w 64)), (1, .ref (wad w rv)), (2, .int x1), (3, .int x2)] (by decide +kernel) (Nat.le_of_ble_eq_true rfl) rfl hh (fun M _ C => ?_)
  unfold X2_worthInValleys
  refine sm_iload_n C 2 dX2_worthInValleys_0 rfl ?_
  refine sm_i2l C dX2_worthInValleys_1 ?_
  refine sm_lstore C [(4, .long x1.toInt64), (0, .ref (wad w 64)), (1, .ref (wad w rv)), (2, .int x1), (3, .int x2)] dX2_worthInValleys_2 (by decide) rfl ?_
  refine sm_iconst C (0 : Int32) dX2_worthInValleys_4 ic_0 ?_
  refine sm_istore C [(6, .int (0 : Int32)), (4, .long x1.toInt64), (0, .ref (wad w 64)), (1, .ref (wad w rv)), (2, .int x1), (3, .int x2)] dX2_worthInValleys_5 (by decide) rfl ?_
  refine sm_iconst C (0 : Int32) dX2_worthInValleys_7 ic_0 ?_
  refine sm_istore C [(7, .int (0 : Int32)), (6, .int (0 : Int32)), (4, .long x1.toInt64), (0, .ref (wad w 64)), (1, .ref (wad w rv)), (2, .int x1), (3, .int x2)] dX2_worthInValleys_8 (by decide) rfl ?_
  exact sm_sub [3, 4, 6, 2, 1, 0] rfl (sl_X2_worthInValleys_L10 C G hrv FU x2 x1.toInt64 (0 : Int32) (0 : Int32) s0)
theorem dd_X8_append : yX8_append.cls = RX8 ∧ yX8_append.cls ≠ "java/lang/invoke/MethodHandle" ∧ yX8_append.cls ≠ "java/lang/invoke/VarHandle" ∧ (parseMethodDescriptor yX8_append.desc).map (fun d => d.parameters.length) = some 1 := by decide +kernel
set_option maxRecDepth 100000 in
set_option maxHeartbeats 4000000 in
theorem ct_X8_append {l : Launch} {w : Wco} (G : GW w) (x1 : Int32) (s0 : Sta) (qq : Unit) (ss : Sta) (hh : X8_append x1 s0 = some (qq, ss)) : Ct l w yX8_append (Cond.code yX8_append cX8_append 2 none :: GT) { frames := 0, cells := 0, slots := 0, locals := 0 } [.ref (wad w 80), .int x1] s0 (oV qq) ss := by
  refine ct_of [(0, .ref (wad w 80)), (1, .int x1)] (by decide +kernel) (Nat.le_of_ble_eq_true rfl) rfl hh (fun M _ C => ?_)
  unfold X8_append
  refine sm_aload_n C 0 dX8_append_0 rfl ?_
  refine sm_getI C (ci := 8) (R := RX8) (T := TX8) (N := 6) (j := 1) (G_S G).2 (G_S G).1 rfl gX8 (by decide) kw_281 dX8_append_1 (fun _ _ => rfl) (fun v1 => ?_)
  refine sm_sipush C (150 : Int32) dX8_append_4 sp_150 ?_
  refine sm_icmp_ge C 30 dX8_append_7 (by decide) ?_ ?_
  · exact sm_vret C dX8_append_30
  · refine sm_aload_n C 0 dX8_append_10 rfl ?_
    refine sm_getR C (ci := 8) (R := RX8) (T := TX8) (N := 6) (j := 0) (G_S G).2 (G_S G).1 rfl gX8 (by decide) kw_280 dX8_append_11 (fun _ _ => rfl) ?_
    refine sm_aload_n C 0 dX8_append_14 rfl ?_
    refine sm_getI C (ci := 8) (R := RX8) (T := TX8) (N := 6) (j := 1) (G_S G).2 (G_S G).1 rfl gX8 (by decide) kw_281 dX8_append_15 (fun _ _ => rfl) (fun v2 => ?_)
    refine sm_iload_n C 1 dX8_append_18 rfl ?_
    refine r_iast C (G_by G) dX8_append_19 (fun s3 => ?_)
    refine sm_aload_n C 0 dX8_append_20 rfl ?_
    refine sm_dup C dX8_append_21 rfl ?_
    refine sm_getI C (ci := 8) (R := RX8) (T := TX8) (N := 6) (j := 1) (G_S G).2 (G_S G).1 rfl gX8 (by decide) kw_281 dX8_append_22 (fun _ _ => rfl) (fun v4 => ?_)
    refine sm_iconst C (1 : Int32) dX8_append_25 ic_1 ?_
    refine sm_iadd C dX8_append_26 ?_
    refine sm_putI C (ci := 8) (R := RX8) (T := TX8) (N := 6) (j := 1) (G_S G).2 (G_S G).1 rfl gX8 tyX8 tyX8_ok nmX8 (by decide) kw_281 rfl (by decide +kernel) dX8_append_27 (fun _ _ => Nat.le_of_ble_eq_true rfl) (set_fsS_1 w) (fun s5 => ?_)
    exact sm_vret C dX8_append_30
theorem dd_X8_isLetter : yX8_isLetter.cls ≠ "java/lang/invoke/MethodHandle" ∧ yX8_isLetter.cls ≠ "java/lang/invoke/VarHandle" ∧ (parseMethodDescriptor yX8_isLetter.desc).map (fun d => d.parameters.length) = some 1 := by decide +kernel
set_option maxRecDepth 100000 in
set_option maxHeartbeats 4000000 in
theorem ct_X8_isLetter {l : Launch} {w : Wco} (x1 : Int32) (s0 : Sta) (qq : Int32) (ss : Sta) (hh : X8_isLetter x1 s0 = some (qq, ss)) : Ct l w yX8_isLetter (Cond.code yX8_isLetter cX8_isLetter 1 (some .boolean) :: GT) { frames := 0, cells := 0, slots := 0, locals := 0 } [.int x1] s0 (oI qq) ss := by
  refine ct_of [(0, .int x1)] (by decide +kernel) (Nat.le_of_ble_eq_true rfl) rfl hh (fun M _ C => ?_)
  unfold X8_isLetter
  refine sm_iload_n C 0 dX8_isLetter_0 rfl ?_
  refine sm_bipush C (97 : Int32) dX8_isLetter_1 bp_97 ?_
  refine sm_icmp_lt C 16 dX8_isLetter_3 (by decide) ?_ ?_
  · refine sm_iconst C (0 : Int32) dX8_isLetter_16 ic_0 ?_
    exact sm_zret C dX8_isLetter_17
  · refine sm_iload_n C 0 dX8_isLetter_6 rfl ?_
    refine sm_bipush C (122 : Int32) dX8_isLetter_7 bp_122 ?_
    refine sm_icmp_gt C 16 dX8_isLetter_9 (by decide) ?_ ?_
    · refine sm_iconst C (0 : Int32) dX8_isLetter_16 ic_0 ?_
      exact sm_zret C dX8_isLetter_17
    · refine sm_iconst C (1 : Int32) dX8_isLetter_12 ic_1 ?_
      refine sm_goto C 17 dX8_isLetter_13 (by decide) ?_
      exact sm_zret C dX8_isLetter_17
