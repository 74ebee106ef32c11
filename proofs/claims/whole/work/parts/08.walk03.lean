theorem dd_X8_isFigure : yX8_isFigure.cls ≠ "java/lang/invoke/MethodHandle" ∧ yX8_isFigure.cls ≠ "java/lang/invoke/VarHandle" ∧ (parseMethodDescriptor yX8_isFigure.desc).map (fun d => d.parameters.length) = some 1 := by decide +kernel
set_option maxRecDepth 100000 in
set_option maxHeartbeats 4000000 in
theorem ct_X8_isFigure {l : Launch} {w : Wco} (x1 : Int32) (s0 : Sta) (qq : Int32) (ss : Sta) (hh : X8_isFigure x1 s0 = some (qq, ss)) : Ct l w yX8_isFigure (Cond.code yX8_isFigure cX8_isFigure 1 (some .boolean) :: GT) { frames := 0, cells := 0, slots := 0, locals := 0 } [.int x1] s0 (oI qq) ss := by
  refine ct_of [(0, .int x1)] (by decide +kernel) (Nat.le_of_ble_eq_true rfl) rfl hh (fun M _ C => ?_)
  unfold X8_isFigure
  refine sm_iload_n C 0 dX8_isFigure_0 rfl ?_
  refine sm_bipush C (48 : Int32) dX8_isFigure_1 bp_48 ?_
  refine sm_icmp_lt C 16 dX8_isFigure_3 (by decide) ?_ ?_
  · refine sm_iconst C (0 : Int32) dX8_isFigure_16 ic_0 ?_
    exact sm_zret C dX8_isFigure_17
  · refine sm_iload_n C 0 dX8_isFigure_6 rfl ?_
    refine sm_bipush C (57 : Int32) dX8_isFigure_7 bp_57 ?_
    refine sm_icmp_gt C 16 dX8_isFigure_9 (by decide) ?_ ?_
    · refine sm_iconst C (0 : Int32) dX8_isFigure_16 ic_0 ?_
      exact sm_zret C dX8_isFigure_17
    · refine sm_iconst C (1 : Int32) dX8_isFigure_12 ic_1 ?_
      refine sm_goto C 17 dX8_isFigure_13 (by decide) ?_
      exact sm_zret C dX8_isFigure_17
theorem dd_X8_takeFigures : yX8_takeFigures.cls = RX8 ∧ yX8_takeFigures.cls ≠ "java/lang/invoke/MethodHandle" ∧ yX8_takeFigures.cls ≠ "java/lang/invoke/VarHandle" ∧ (parseMethodDescriptor yX8_takeFigures.desc).map (fun d => d.parameters.length) = some 0 := by decide +kernel
set_option maxRecDepth 100000 in
set_option maxHeartbeats 4000000 in
theorem sl_X8_takeFigures_L81 {M : Mco} {w : Wco} (C : Cx M w cX8_takeFigures 1 yX8_takeFigures.cls (Cond.code yX8_takeFigures cX8_takeFigures 1 none) none { frames := 1, cells := 0, slots := 0, locals := 20 }) (G : GW w) : ∀ (s0 : Sta), Sm M w 1 oV 81 [(0, .ref (wad w 80))] [] s0 (X8_takeFigures_L81 s0) := by
  intro s0
  unfold X8_takeFigures_L81
  refine sm_aload_n C 0 dX8_takeFigures_81 rfl ?_
  refine sm_aload_n C 0 dX8_takeFigures_82 rfl ?_
  refine sm_getI C (ci := 8) (R := RX8) (T := TX8) (N := 6) (j := 3) (G_S G).2 (G_S G).1 rfl gX8 (by decide) kw_284 dX8_takeFigures_83 (fun _ _ => rfl) (fun v16 => ?_)
  refine sm_aload_n C 0 dX8_takeFigures_86 rfl ?_
  refine sm_getI C (ci := 8) (R := RX8) (T := TX8) (N := 6) (j := 2) (G_S G).2 (G_S G).1 rfl gX8 (by decide) kw_283 dX8_takeFigures_87 (fun _ _ => rfl) (fun v17 => ?_)
  refine sm_isub C dX8_takeFigures_90 ?_
  refine sm_iconst C (2 : Int32) dX8_takeFigures_91 ic_2 ?_
  refine sm_icmp_gt C 99 dX8_takeFigures_92 (by decide) ?_ ?_
  · refine sm_iconst C (4 : Int32) dX8_takeFigures_99 ic_4 ?_
    refine sm_putI C (ci := 8) (R := RX8) (T := TX8) (N := 6) (j := 4) (G_S G).2 (G_S G).1 rfl gX8 tyX8 tyX8_ok nmX8 (by decide) kw_285 rfl (by decide +kernel) dX8_takeFigures_100 (fun _ _ => Nat.le_of_ble_eq_true rfl) (set_fsS_4 w) (fun s18 => ?_)
    exact sm_vret C dX8_takeFigures_103
  · refine sm_iconst C (2 : Int32) dX8_takeFigures_95 ic_2 ?_
    refine sm_goto C 100 dX8_takeFigures_96 (by decide) ?_
    refine sm_putI C (ci := 8) (R := RX8) (T := TX8) (N := 6) (j := 4) (G_S G).2 (G_S G).1 rfl gX8 tyX8 tyX8_ok nmX8 (by decide) kw_285 rfl (by decide +kernel) dX8_takeFigures_100 (fun _ _ => Nat.le_of_ble_eq_true rfl) (set_fsS_4 w) (fun s19 => ?_)
    exact sm_vret C dX8_takeFigures_103
set_option maxRecDepth 100000 in
set_option maxHeartbeats 4000000 in
theorem sl_X8_takeFigures_L68 {M : Mco} {w : Wco} (C : Cx M w cX8_takeFigures 1 yX8_takeFigures.cls (Cond.code yX8_takeFigures cX8_takeFigures 1 none) none { frames := 1, cells := 0, slots := 0, locals := 20 }) (G : GW w) {k5 : Sta → Option (Unit × Sta)} (H5 : ∀ (s0 : Sta), Sm M w 1 oV 5 [(0, .ref (wad w 80))] [] s0 (k5 s0)) : ∀ (s0 : Sta), Sm M w 1 oV 68 [(0, .ref (wad w 80))] [] s0 (X8_takeFigures_L68 k5 s0) := by
  intro s0
  unfold X8_takeFigures_L68
  refine sm_aload_n C 0 dX8_takeFigures_68 rfl ?_
  refine sm_dup C dX8_takeFigures_69 rfl ?_
  refine sm_getI C (ci := 8) (R := RX8) (T := TX8) (N := 6) (j := 3) (G_S G).2 (G_S G).1 rfl gX8 (by decide) kw_284 dX8_takeFigures_70 (fun _ _ => rfl) (fun v14 => ?_)
  refine sm_iconst C (1 : Int32) dX8_takeFigures_73 ic_1 ?_
  refine sm_iadd C dX8_takeFigures_74 ?_
  refine sm_putI C (ci := 8) (R := RX8) (T := TX8) (N := 6) (j := 3) (G_S G).2 (G_S G).1 rfl gX8 tyX8 tyX8_ok nmX8 (by decide) kw_284 rfl (by decide +kernel) dX8_takeFigures_75 (fun _ _ => Nat.le_of_ble_eq_true rfl) (set_fsS_3 w) (fun s15 => ?_)
  refine sm_goto C 5 dX8_takeFigures_78 (by decide) ?_
  exact sm_sub [0] rfl (H5 s15)
set_option maxRecDepth 100000 in
set_option maxHeartbeats 4000000 in
theorem sl_X8_takeFigures_L5 {M : Mco} {w : Wco} (C : Cx M w cX8_takeFigures 1 yX8_takeFigures.cls (Cond.code yX8_takeFigures cX8_takeFigures 1 none) none { frames := 1, cells := 0, slots := 0, locals := 20 }) (G : GW w) : ∀ (n : Nat) (s0 : Sta), Sm M w 1 oV 5 [(0, .ref (wad w 80))] [] s0 (X8_takeFigures_L5 n s0) := by
  intro n
  induction n with
  | zero => intros; exact sm_none
  | succ n ih =>
    intro s0
    rw [X8_takeFigures_L5.eq_2]
    refine sm_aload_n C 0 dX8_takeFigures_5 rfl ?_
    refine sm_getI C (ci := 8) (R := RX8) (T := TX8) (N := 6) (j := 3) (G_S G).2 (G_S G).1 rfl gX8 (by decide) kw_284 dX8_takeFigures_6 (fun _ _ => rfl) (fun v2 => ?_)
    refine sm_aload_n C 0 dX8_takeFigures_9 rfl ?_
    refine sm_getI C (ci := 8) (R := RX8) (T := TX8) (N := 6) (j := 1) (G_S G).2 (G_S G).1 rfl gX8 (by decide) kw_281 dX8_takeFigures_10 (fun _ _ => rfl) (fun v3 => ?_)
    refine sm_icmp_ge C 81 dX8_takeFigures_13 (by decide) ?_ ?_
    · exact sm_sub [0] rfl (sl_X8_takeFigures_L81 C G s0)
    · refine sm_aload_n C 0 dX8_takeFigures_16 rfl ?_
      refine sm_getR C (ci := 8) (R := RX8) (T := TX8) (N := 6) (j := 0) (G_S G).2 (G_S G).1 rfl gX8 (by decide) kw_280 dX8_takeFigures_17 (fun _ _ => rfl) ?_
      refine sm_aload_n C 0 dX8_takeFigures_20 rfl ?_
      refine sm_getI C (ci := 8) (R := RX8) (T := TX8) (N := 6) (j := 3) (G_S G).2 (G_S G).1 rfl gX8 (by decide) kw_284 dX8_takeFigures_21 (fun _ _ => rfl) (fun v4 => ?_)
      refine r_iald C (G_by G) dX8_takeFigures_24 (fun v5 => ?_)
      refine r_callSI C [.int v5] (fun qq ss hh => ct_X8_isFigure v5 s0 qq ss hh) kw_400 kw_401 kw_63 kw_402 dX8_takeFigures_25 rfl dd_X8_isFigure ⟨rfl, rfl⟩ ⟨by decide, by decide⟩ (Nat.le_of_ble_eq_true rfl) _ rfl (fun q6 s7 => ?_)
      refine sm_if_eq C 81 dX8_takeFigures_28 (by decide) ?_ ?_
      · exact sm_sub [0] rfl (sl_X8_takeFigures_L81 C G s7)
      · refine sm_aload_n C 0 dX8_takeFigures_31 rfl ?_
        refine sm_getI C (ci := 8) (R := RX8) (T := TX8) (N := 6) (j := 3) (G_S G).2 (G_S G).1 rfl gX8 (by decide) kw_284 dX8_takeFigures_32 (fun _ _ => rfl) (fun v8 => ?_)
        refine sm_aload_n C 0 dX8_takeFigures_35 rfl ?_
        refine sm_getI C (ci := 8) (R := RX8) (T := TX8) (N := 6) (j := 2) (G_S G).2 (G_S G).1 rfl gX8 (by decide) kw_283 dX8_takeFigures_36 (fun _ _ => rfl) (fun v9 => ?_)
        refine sm_isub C dX8_takeFigures_39 ?_
        refine sm_iconst C (2 : Int32) dX8_takeFigures_40 ic_2 ?_
        refine sm_icmp_ge C 68 dX8_takeFigures_41 (by decide) ?_ ?_
        · exact sm_sub [0] rfl (sl_X8_takeFigures_L68 C G ih s7)
        · refine sm_aload_n C 0 dX8_takeFigures_44 rfl ?_
          refine sm_bipush C (10 : Int32) dX8_takeFigures_45 bp_10 ?_
          refine sm_aload_n C 0 dX8_takeFigures_47 rfl ?_
          refine sm_getI C (ci := 8) (R := RX8) (T := TX8) (N := 6) (j := 5) (G_S G).2 (G_S G).1 rfl gX8 (by decide) kw_286 dX8_takeFigures_48 (fun _ _ => rfl) (fun v10 => ?_)
          refine sm_imul C dX8_takeFigures_51 ?_
          refine sm_aload_n C 0 dX8_takeFigures_52 rfl ?_
          refine sm_getR C (ci := 8) (R := RX8) (T := TX8) (N := 6) (j := 0) (G_S G).2 (G_S G).1 rfl gX8 (by decide) kw_280 dX8_takeFigures_53 (fun _ _ => rfl) ?_
          refine sm_aload_n C 0 dX8_takeFigures_56 rfl ?_
          refine sm_getI C (ci := 8) (R := RX8) (T := TX8) (N := 6) (j := 3) (G_S G).2 (G_S G).1 rfl gX8 (by decide) kw_284 dX8_takeFigures_57 (fun _ _ => rfl) (fun v11 => ?_)
          refine r_iald C (G_by G) dX8_takeFigures_60 (fun v12 => ?_)
          refine sm_iadd C dX8_takeFigures_61 ?_
          refine sm_bipush C (48 : Int32) dX8_takeFigures_62 bp_48 ?_
          refine sm_isub C dX8_takeFigures_64 ?_
          refine sm_putI C (ci := 8) (R := RX8) (T := TX8) (N := 6) (j := 5) (G_S G).2 (G_S G).1 rfl gX8 tyX8 tyX8_ok nmX8 (by decide) kw_286 rfl (by decide +kernel) dX8_takeFigures_65 (fun _ _ => Nat.le_of_ble_eq_true rfl) (set_fsS_5 w) (fun s13 => ?_)
          exact sm_sub [0] rfl (sl_X8_takeFigures_L68 C G ih s13)
set_option maxRecDepth 100000 in
set_option maxHeartbeats 4000000 in
theorem ct_X8_takeFigures {l : Launch} {w : Wco} (G : GW w) (s0 : Sta) (qq : Unit) (ss : Sta) (hh : X8_takeFigures s0 = some (qq, ss)) : Ct l w yX8_takeFigures (Cond.code yX8_takeFigures cX8_takeFigures 1 none :: GT) { frames := 1, cells := 0, slots := 0, locals := 20 } [.ref (wad w 80)] s0 (oV qq) ss := by
  refine ct_of [(0, .ref (wad w 80))] (by decide +kernel) (Nat.le_of_ble_eq_true rfl) rfl hh (fun M _ C => ?_)
  unfold X8_takeFigures
  refine sm_aload_n C 0 dX8_takeFigures_0 rfl ?_
  refine sm_iconst C (0 : Int32) dX8_takeFigures_1 ic_0 ?_
  refine sm_putI C (ci := 8) (R := RX8) (T := TX8) (N := 6) (j := 5) (G_S G).2 (G_S G).1 rfl gX8 tyX8 tyX8_ok nmX8 (by decide) kw_286 rfl (by decide +kernel) dX8_takeFigures_2 (fun _ _ => Nat.le_of_ble_eq_true rfl) (set_fsS_5 w) (fun s1 => ?_)
  exact sm_sub [0] rfl (sl_X8_takeFigures_L5 C G FU s1)
theorem dd_X8_advance : yX8_advance.cls = RX8 ∧ yX8_advance.cls ≠ "java/lang/invoke/MethodHandle" ∧ yX8_advance.cls ≠ "java/lang/invoke/VarHandle" ∧ (parseMethodDescriptor yX8_advance.desc).map (fun d => d.parameters.length) = some 0 := by decide +kernel
set_option maxRecDepth 100000 in
set_option maxHeartbeats 4000000 in
theorem sl_X8_advance_L174 {M : Mco} {w : Wco} (C : Cx M w cX8_advance 1 yX8_advance.cls (Cond.code yX8_advance cX8_advance 1 none) none { frames := 2, cells := 0, slots := 0, locals := 40 }) (G : GW w) : ∀ (z0 : Int32) (s0 : Sta), Sm M w 1 oV 174 [(0, .ref (wad w 80))] [.int z0, .ref (wad w 80)] s0 (X8_advance_L174 z0 s0) := by
  intro z0 s0
  unfold X8_advance_L174
  refine sm_putI C (ci := 8) (R := RX8) (T := TX8) (N := 6) (j := 4) (G_S G).2 (G_S G).1 rfl gX8 tyX8 tyX8_ok nmX8 (by decide) kw_285 rfl (by decide +kernel) dX8_advance_174 (fun _ _ => Nat.le_of_ble_eq_true rfl) (set_fsS_4 w) (fun s35 => ?_)
  refine sm_aload_n C 0 dX8_advance_177 rfl ?_
  refine sm_aload_n C 0 dX8_advance_178 rfl ?_
  refine sm_getI C (ci := 8) (R := RX8) (T := TX8) (N := 6) (j := 2) (G_S G).2 (G_S G).1 rfl gX8 (by decide) kw_283 dX8_advance_179 (fun _ _ => rfl) (fun v36 => ?_)
  refine sm_iconst C (1 : Int32) dX8_advance_182 ic_1 ?_
  refine sm_iadd C dX8_advance_183 ?_
  refine sm_putI C (ci := 8) (R := RX8) (T := TX8) (N := 6) (j := 3) (G_S G).2 (G_S G).1 rfl gX8 tyX8 tyX8_ok nmX8 (by decide) kw_284 rfl (by decide +kernel) dX8_advance_184 (fun _ _ => Nat.le_of_ble_eq_true rfl) (set_fsS_3 w) (fun s37 => ?_)
  exact sm_vret C dX8_advance_187
set_option maxRecDepth 100000 in
set_option maxHeartbeats 4000000 in
theorem sl_X8_advance_L93 {M : Mco} {w : Wco} (C : Cx M w cX8_advance 1 yX8_advance.cls (Cond.code yX8_advance cX8_advance 1 none) none { frames := 2, cells := 0, slots := 0, locals := 40 }) (G : GW w) : ∀ (n : Nat) (s0 : Sta), Sm M w 1 oV 93 [(0, .ref (wad w 80))] [] s0 (X8_advance_L93 n s0) := by
  intro n
  induction n with
  | zero => intros; exact sm_none
  | succ n ih =>
    intro s0
    rw [X8_advance_L93.eq_2]
    refine sm_aload_n C 0 dX8_advance_93 rfl ?_
    refine sm_getI C (ci := 8) (R := RX8) (T := TX8) (N := 6) (j := 3) (G_S G).2 (G_S G).1 rfl gX8 (by decide) kw_284 dX8_advance_94 (fun _ _ => rfl) (fun v27 => ?_)
    refine sm_aload_n C 0 dX8_advance_97 rfl ?_
    refine sm_getI C (ci := 8) (R := RX8) (T := TX8) (N := 6) (j := 1) (G_S G).2 (G_S G).1 rfl gX8 (by decide) kw_281 dX8_advance_98 (fun _ _ => rfl) (fun v28 => ?_)
    refine sm_icmp_ge C 187 dX8_advance_101 (by decide) ?_ ?_
    · exact sm_vret C dX8_advance_187
    · refine sm_aload_n C 0 dX8_advance_104 rfl ?_
      refine sm_getR C (ci := 8) (R := RX8) (T := TX8) (N := 6) (j := 0) (G_S G).2 (G_S G).1 rfl gX8 (by decide) kw_280 dX8_advance_105 (fun _ _ => rfl) ?_
      refine sm_aload_n C 0 dX8_advance_108 rfl ?_
      refine sm_getI C (ci := 8) (R := RX8) (T := TX8) (N := 6) (j := 3) (G_S G).2 (G_S G).1 rfl gX8 (by decide) kw_284 dX8_advance_109 (fun _ _ => rfl) (fun v29 => ?_)
      refine r_iald C (G_by G) dX8_advance_112 (fun v30 => ?_)
      refine r_callSI C [.int v30] (fun qq ss hh => ct_X8_isLetter v30 s0 qq ss hh) kw_397 kw_398 kw_63 kw_399 dX8_advance_113 rfl dd_X8_isLetter ⟨rfl, rfl⟩ ⟨by decide, by decide⟩ (Nat.le_of_ble_eq_true rfl) _ rfl (fun q31 s32 => ?_)
      refine sm_if_eq C 187 dX8_advance_116 (by decide) ?_ ?_
      · exact sm_vret C dX8_advance_187
      · refine sm_aload_n C 0 dX8_advance_119 rfl ?_
        refine sm_dup C dX8_advance_120 rfl ?_
        refine sm_getI C (ci := 8) (R := RX8) (T := TX8) (N := 6) (j := 3) (G_S G).2 (G_S G).1 rfl gX8 (by decide) kw_284 dX8_advance_121 (fun _ _ => rfl) (fun v33 => ?_)
        refine sm_iconst C (1 : Int32) dX8_advance_124 ic_1 ?_
        refine sm_iadd C dX8_advance_125 ?_
        refine sm_putI C (ci := 8) (R := RX8) (T := TX8) (N := 6) (j := 3) (G_S G).2 (G_S G).1 rfl gX8 tyX8 tyX8_ok nmX8 (by decide) kw_284 rfl (by decide +kernel) dX8_advance_126 (fun _ _ => Nat.le_of_ble_eq_true rfl) (set_fsS_3 w) (fun s34 => ?_)
        refine sm_goto C 93 dX8_advance_129 (by decide) ?_
        exact sm_sub [0] rfl (ih s34)
set_option maxRecDepth 100000 in
set_option maxHeartbeats 4000000 in
theorem sl_X8_advance_L46 {M : Mco} {w : Wco} (C : Cx M w cX8_advance 1 yX8_advance.cls (Cond.code yX8_advance cX8_advance 1 none) none { frames := 2, cells := 0, slots := 0, locals := 40 }) (G : GW w) : ∀ (s0 : Sta), Sm M w 1 oV 46 [(0, .ref (wad w 80))] [] s0 (X8_advance_L46 s0) := by
  intro s0
  unfold X8_advance_L46
  refine sm_aload_n C 0 dX8_advance_46 rfl ?_
  refine sm_aload_n C 0 dX8_advance_47 rfl ?_
  refine sm_getI C (ci := 8) (R := RX8) (T := TX8) (N := 6) (j := 2) (G_S G).2 (G_S G).1 rfl gX8 (by decide) kw_283 dX8_advance_48 (fun _ _ => rfl) (fun v9 => ?_)
  refine sm_putI C (ci := 8) (R := RX8) (T := TX8) (N := 6) (j := 3) (G_S G).2 (G_S G).1 rfl gX8 tyX8 tyX8_ok nmX8 (by decide) kw_284 rfl (by decide +kernel) dX8_advance_51 (fun _ _ => Nat.le_of_ble_eq_true rfl) (set_fsS_3 w) (fun s10 => ?_)
  refine sm_aload_n C 0 dX8_advance_54 rfl ?_
  refine sm_getI C (ci := 8) (R := RX8) (T := TX8) (N := 6) (j := 2) (G_S G).2 (G_S G).1 rfl gX8 (by decide) kw_283 dX8_advance_55 (fun _ _ => rfl) (fun v11 => ?_)
  refine sm_aload_n C 0 dX8_advance_58 rfl ?_
  refine sm_getI C (ci := 8) (R := RX8) (T := TX8) (N := 6) (j := 1) (G_S G).2 (G_S G).1 rfl gX8 (by decide) kw_281 dX8_advance_59 (fun _ _ => rfl) (fun v12 => ?_)
  refine sm_icmp_lt C 73 dX8_advance_62 (by decide) ?_ ?_
  · refine sm_aload_n C 0 dX8_advance_73 rfl ?_
    refine sm_getR C (ci := 8) (R := RX8) (T := TX8) (N := 6) (j := 0) (G_S G).2 (G_S G).1 rfl gX8 (by decide) kw_280 dX8_advance_74 (fun _ _ => rfl) ?_
    refine sm_aload_n C 0 dX8_advance_77 rfl ?_
    refine sm_getI C (ci := 8) (R := RX8) (T := TX8) (N := 6) (j := 2) (G_S G).2 (G_S G).1 rfl gX8 (by decide) kw_283 dX8_advance_78 (fun _ _ => rfl) (fun v13 => ?_)
    refine r_iald C (G_by G) dX8_advance_81 (fun v14 => ?_)
    refine r_callSI C [.int v14] (fun qq ss hh => ct_X8_isLetter v14 s10 qq ss hh) kw_397 kw_398 kw_63 kw_399 dX8_advance_82 rfl dd_X8_isLetter ⟨rfl, rfl⟩ ⟨by decide, by decide⟩ (Nat.le_of_ble_eq_true rfl) _ rfl (fun q15 s16 => ?_)
    refine sm_if_eq C 132 dX8_advance_85 (by decide) ?_ ?_
    · refine sm_aload_n C 0 dX8_advance_132 rfl ?_
      refine sm_getR C (ci := 8) (R := RX8) (T := TX8) (N := 6) (j := 0) (G_S G).2 (G_S G).1 rfl gX8 (by decide) kw_280 dX8_advance_133 (fun _ _ => rfl) ?_
      refine sm_aload_n C 0 dX8_advance_136 rfl ?_
      refine sm_getI C (ci := 8) (R := RX8) (T := TX8) (N := 6) (j := 2) (G_S G).2 (G_S G).1 rfl gX8 (by decide) kw_283 dX8_advance_137 (fun _ _ => rfl) (fun v17 => ?_)
      refine r_iald C (G_by G) dX8_advance_140 (fun v18 => ?_)
      refine r_callSI C [.int v18] (fun qq ss hh => ct_X8_isFigure v18 s16 qq ss hh) kw_400 kw_401 kw_63 kw_402 dX8_advance_141 rfl dd_X8_isFigure ⟨rfl, rfl⟩ ⟨by decide, by decide⟩ (Nat.le_of_ble_eq_true rfl) _ rfl (fun q19 s20 => ?_)
      refine sm_if_eq C 154 dX8_advance_144 (by decide) ?_ ?_
      · refine sm_aload_n C 0 dX8_advance_154 rfl ?_
        refine sm_aload_n C 0 dX8_advance_155 rfl ?_
        refine sm_getR C (ci := 8) (R := RX8) (T := TX8) (N := 6) (j := 0) (G_S G).2 (G_S G).1 rfl gX8 (by decide) kw_280 dX8_advance_156 (fun _ _ => rfl) ?_
        refine sm_aload_n C 0 dX8_advance_159 rfl ?_
        refine sm_getI C (ci := 8) (R := RX8) (T := TX8) (N := 6) (j := 2) (G_S G).2 (G_S G).1 rfl gX8 (by decide) kw_283 dX8_advance_160 (fun _ _ => rfl) (fun v21 => ?_)
        refine r_iald C (G_by G) dX8_advance_163 (fun v22 => ?_)
        refine sm_bipush C (59 : Int32) dX8_advance_164 bp_59 ?_
        refine sm_icmp_ne C 173 dX8_advance_166 (by decide) ?_ ?_
        · refine sm_iconst C (4 : Int32) dX8_advance_173 ic_4 ?_
          exact sm_sub [0] rfl (sl_X8_advance_L174 C G (4 : Int32) s20)
        · refine sm_iconst C (3 : Int32) dX8_advance_169 ic_3 ?_
          refine sm_goto C 174 dX8_advance_170 (by decide) ?_
          exact sm_sub [0] rfl (sl_X8_advance_L174 C G (3 : Int32) s20)
      · refine sm_aload_n C 0 dX8_advance_147 rfl ?_
        refine r_callVU C (R := RX8) (T := TX8) (N := 6) [] (G_S G) rfl (fun qq ss hh => ct_X8_takeFigures G s20 qq ss hh) kw_403 kw_405 kw_3 kw_63 kw_406 dX8_advance_148 rfl dd_X8_takeFigures ⟨rfl, rfl⟩ ⟨by decide, by decide⟩ (Nat.le_of_ble_eq_true rfl) _ rfl (fun q23 s24 => ?_)
        refine sm_goto C 187 dX8_advance_151 (by decide) ?_
        exact sm_vret C dX8_advance_187
    · refine sm_aload_n C 0 dX8_advance_88 rfl ?_
      refine sm_iconst C (1 : Int32) dX8_advance_89 ic_1 ?_
      refine sm_putI C (ci := 8) (R := RX8) (T := TX8) (N := 6) (j := 4) (G_S G).2 (G_S G).1 rfl gX8 tyX8 tyX8_ok nmX8 (by decide) kw_285 rfl (by decide +kernel) dX8_advance_90 (fun _ _ => Nat.le_of_ble_eq_true rfl) (set_fsS_4 w) (fun s25 => ?_)
      exact sm_sub [0] rfl (sl_X8_advance_L93 C G FU s25)
  · refine sm_aload_n C 0 dX8_advance_65 rfl ?_
    refine sm_iconst C (0 : Int32) dX8_advance_66 ic_0 ?_
    refine sm_putI C (ci := 8) (R := RX8) (T := TX8) (N := 6) (j := 4) (G_S G).2 (G_S G).1 rfl gX8 tyX8 tyX8_ok nmX8 (by decide) kw_285 rfl (by decide +kernel) dX8_advance_67 (fun _ _ => Nat.le_of_ble_eq_true rfl) (set_fsS_4 w) (fun s26 => ?_)
    refine sm_goto C 187 dX8_advance_70 (by decide) ?_
    exact sm_vret C dX8_advance_187
set_option maxRecDepth 100000 in
set_option maxHeartbeats 4000000 in
theorem sl_X8_advance_L8 {M : Mco} {w : Wco} (C : Cx M w cX8_advance 1 yX8_advance.cls (Cond.code yX8_advance cX8_advance 1 none) none { frames := 2, cells := 0, slots := 0, locals := 40 }) (G : GW w) : ∀ (n : Nat) (s0 : Sta), Sm M w 1 oV 8 [(0, .ref (wad w 80))] [] s0 (X8_advance_L8 n s0) := by
  intro n
  induction n with
  | zero => intros; exact sm_none
  | succ n ih =>
    intro s0
    rw [X8_advance_L8.eq_2]
    refine sm_aload_n C 0 dX8_advance_8 rfl ?_
    refine sm_getI C (ci := 8) (R := RX8) (T := TX8) (N := 6) (j := 2) (G_S G).2 (G_S G).1 rfl gX8 (by decide) kw_283 dX8_advance_9 (fun _ _ => rfl) (fun v3 => ?_)
    refine sm_aload_n C 0 dX8_advance_12 rfl ?_
    refine sm_getI C (ci := 8) (R := RX8) (T := TX8) (N := 6) (j := 1) (G_S G).2 (G_S G).1 rfl gX8 (by decide) kw_281 dX8_advance_13 (fun _ _ => rfl) (fun v4 => ?_)
    refine sm_icmp_ge C 46 dX8_advance_16 (by decide) ?_ ?_
    · exact sm_sub [0] rfl (sl_X8_advance_L46 C G s0)
    · refine sm_aload_n C 0 dX8_advance_19 rfl ?_
      refine sm_getR C (ci := 8) (R := RX8) (T := TX8) (N := 6) (j := 0) (G_S G).2 (G_S G).1 rfl gX8 (by decide) kw_280 dX8_advance_20 (fun _ _ => rfl) ?_
      refine sm_aload_n C 0 dX8_advance_23 rfl ?_
      refine sm_getI C (ci := 8) (R := RX8) (T := TX8) (N := 6) (j := 2) (G_S G).2 (G_S G).1 rfl gX8 (by decide) kw_283 dX8_advance_24 (fun _ _ => rfl) (fun v5 => ?_)
      refine r_iald C (G_by G) dX8_advance_27 (fun v6 => ?_)
      refine sm_bipush C (32 : Int32) dX8_advance_28 bp_32 ?_
      refine sm_icmp_ne C 46 dX8_advance_30 (by decide) ?_ ?_
      · exact sm_sub [0] rfl (sl_X8_advance_L46 C G s0)
      · refine sm_aload_n C 0 dX8_advance_33 rfl ?_
        refine sm_dup C dX8_advance_34 rfl ?_
        refine sm_getI C (ci := 8) (R := RX8) (T := TX8) (N := 6) (j := 2) (G_S G).2 (G_S G).1 rfl gX8 (by decide) kw_283 dX8_advance_35 (fun _ _ => rfl) (fun v7 => ?_)
        refine sm_iconst C (1 : Int32) dX8_advance_38 ic_1 ?_
        refine sm_iadd C dX8_advance_39 ?_
        refine sm_putI C (ci := 8) (R := RX8) (T := TX8) (N := 6) (j := 2) (G_S G).2 (G_S G).1 rfl gX8 tyX8 tyX8_ok nmX8 (by decide) kw_283 rfl (by decide +kernel) dX8_advance_40 (fun _ _ => Nat.le_of_ble_eq_true rfl) (set_fsS_2 w) (fun s8 => ?_)
        refine sm_goto C 8 dX8_advance_43 (by decide) ?_
        exact sm_sub [0] rfl (ih s8)
set_option maxRecDepth 100000 in
set_option maxHeartbeats 4000000 in
theorem ct_X8_advance {l : Launch} {w : Wco} (G : GW w) (s0 : Sta) (qq : Unit) (ss : Sta) (hh : X8_advance s0 = some (qq, ss)) : Ct l w yX8_advance (Cond.code yX8_advance cX8_advance 1 none :: GT) { frames := 2, cells := 0, slots := 0, locals := 40 } [.ref (wad w 80)] s0 (oV qq) ss := by
  refine ct_of [(0, .ref (wad w 80))] (by decide +kernel) (Nat.le_of_ble_eq_true rfl) rfl hh (fun M _ C => ?_)
  unfold X8_advance
  refine sm_aload_n C 0 dX8_advance_0 rfl ?_
  refine sm_aload_n C 0 dX8_advance_1 rfl ?_
  refine sm_getI C (ci := 8) (R := RX8) (T := TX8) (N := 6) (j := 3) (G_S G).2 (G_S G).1 rfl gX8 (by decide) kw_284 dX8_advance_2 (fun _ _ => rfl) (fun v1 => ?_)
  refine sm_putI C (ci := 8) (R := RX8) (T := TX8) (N := 6) (j := 2) (G_S G).2 (G_S G).1 rfl gX8 tyX8 tyX8_ok nmX8 (by decide) kw_283 rfl (by decide +kernel) dX8_advance_5 (fun _ _ => Nat.le_of_ble_eq_true rfl) (set_fsS_2 w) (fun s2 => ?_)
  exact sm_sub [0] rfl (sl_X8_advance_L8 C G FU s2)
theorem dd_X8_hasNumber : yX8_hasNumber.cls = RX8 ∧ yX8_hasNumber.cls ≠ "java/lang/invoke/MethodHandle" ∧ yX8_hasNumber.cls ≠ "java/lang/invoke/VarHandle" ∧ (parseMethodDescriptor yX8_hasNumber.desc).map (fun d => d.parameters.length) = some 2 := by decide +kernel
set_option maxRecDepth 100000 in
set_option maxHeartbeats 4000000 in
theorem ct_X8_hasNumber {l : Launch} {w : Wco} (G : GW w) (x1 : Int32) (x2 : Int32) (s0 : Sta) (qq : Int32) (ss : Sta) (hh : X8_hasNumber x1 x2 s0 = some (qq, ss)) : Ct l w yX8_hasNumber (Cond.code yX8_hasNumber cX8_hasNumber 3 (some .boolean) :: GT) { frames := 3, cells := 0, slots := 0, locals := 60 } [.ref (wad w 80), .int x1, .int x2] s0 (oI qq) ss := by
  refine ct_of [(0, .ref (wad w 80)), (1, .int x1), (2, .int x2)] (by decide +kernel) (Nat.le_of_ble_eq_true rfl) rfl hh (fun M _ C => ?_)
  unfold X8_hasNumber
  refine sm_aload_n C 0 dX8_hasNumber_0 rfl ?_
  refine r_callVU C (R := RX8) (T := TX8) (N := 6) [] (G_S G) rfl (fun qq ss hh => ct_X8_advance G s0 qq ss hh) kw_393 kw_395 kw_2 kw_63 kw_396 dX8_hasNumber_1 rfl dd_X8_advance ⟨rfl, rfl⟩ ⟨by decide, by decide⟩ (Nat.le_of_ble_eq_true rfl) _ rfl (fun q1 s2 => ?_)
  refine sm_aload_n C 0 dX8_hasNumber_4 rfl ?_
  refine sm_getI C (ci := 8) (R := RX8) (T := TX8) (N := 6) (j := 4) (G_S G).2 (G_S G).1 rfl gX8 (by decide) kw_285 dX8_hasNumber_5 (fun _ _ => rfl) (fun v3 => ?_)
  refine sm_iconst C (2 : Int32) dX8_hasNumber_8 ic_2 ?_
  refine sm_icmp_ne C 28 dX8_hasNumber_9 (by decide) ?_ ?_
  · refine sm_iconst C (0 : Int32) dX8_hasNumber_28 ic_0 ?_
    exact sm_zret C dX8_hasNumber_29
  · refine sm_aload_n C 0 dX8_hasNumber_12 rfl ?_
    refine sm_getI C (ci := 8) (R := RX8) (T := TX8) (N := 6) (j := 5) (G_S G).2 (G_S G).1 rfl gX8 (by decide) kw_286 dX8_hasNumber_13 (fun _ _ => rfl) (fun v4 => ?_)
    refine sm_iload_n C 1 dX8_hasNumber_16 rfl ?_
    refine sm_iload_n C 2 dX8_hasNumber_17 rfl ?_
    refine r_callSNI C [.int v4, .int x1, .int x2] (fun qq ss hh => ct_X11_within v4 x1 x2 s2 qq ss hh) nm_13 kw_347 kw_51 kw_348 dX8_hasNumber_18 rfl dd_X11_within ⟨rfl, rfl⟩ ⟨by decide, by decide⟩ (Nat.le_of_ble_eq_true rfl) _ rfl (fun q5 s6 => ?_)
    refine sm_if_eq C 28 dX8_hasNumber_21 (by decide) ?_ ?_
    · refine sm_iconst C (0 : Int32) dX8_hasNumber_28 ic_0 ?_
      exact sm_zret C dX8_hasNumber_29
    · refine sm_iconst C (1 : Int32) dX8_hasNumber_24 ic_1 ?_
      refine sm_goto C 29 dX8_hasNumber_25 (by decide) ?_
      exact sm_zret C dX8_hasNumber_29
theorem dd_X8_tellPrize : yX8_tellPrize.cls = RX8 ∧ yX8_tellPrize.cls ≠ "java/lang/invoke/MethodHandle" ∧ yX8_tellPrize.cls ≠ "java/lang/invoke/VarHandle" ∧ (parseMethodDescriptor yX8_tellPrize.desc).map (fun d => d.parameters.length) = some 1 := by decide +kernel
set_option maxRecDepth 100000 in
set_option maxHeartbeats 4000000 in
theorem ct_X8_tellPrize {l : Launch} {w : Wco} (rv : Nat) (G : GW w) (hrv : isV w rv) (s0 : Sta) (qq : Int32) (ss : Sta) (hh : X8_tellPrize rv s0 = some (qq, ss)) : Ct l w yX8_tellPrize (Cond.code yX8_tellPrize cX8_tellPrize 4 (some .boolean) :: GT) { frames := 4, cells := 0, slots := 0, locals := 82 } [.ref (wad w 80), .ref (wad w rv)] s0 (oI qq) ss := by
  refine ct_of [(0, .ref (wad w 80)), (1, .ref (wad w rv))] (by decide +kernel) (Nat.le_of_ble_eq_true rfl) rfl hh (fun M _ C => ?_)
  unfold X8_tellPrize
  refine sm_aload_n C 0 dX8_tellPrize_0 rfl ?_
  refine sm_iconst C (0 : Int32) dX8_tellPrize_1 ic_0 ?_
  refine sm_bipush C (7 : Int32) dX8_tellPrize_2 bp_7 ?_
  refine r_callVI C (R := RX8) (T := TX8) (N := 6) [.int (0 : Int32), .int (7 : Int32)] (G_S G) rfl (fun qq ss hh => ct_X8_hasNumber G (0 : Int32) (7 : Int32) s0 qq ss hh) kw_469 kw_471 kw_7 kw_63 kw_472 dX8_tellPrize_4 rfl dd_X8_hasNumber ⟨rfl, rfl⟩ ⟨by decide, by decide⟩ (Nat.le_of_ble_eq_true rfl) _ rfl (fun q1 s2 => ?_)
  refine sm_if_ne C 12 dX8_tellPrize_7 (by decide) ?_ ?_
  · refine sm_aload_n C 0 dX8_tellPrize_12 rfl ?_
    refine sm_getI C (ci := 8) (R := RX8) (T := TX8) (N := 6) (j := 5) (G_S G).2 (G_S G).1 rfl gX8 (by decide) kw_286 dX8_tellPrize_13 (fun _ _ => rfl) (fun v3 => ?_)
    refine sm_istore_n C [(2, .int v3), (0, .ref (wad w 80)), (1, .ref (wad w rv))] dX8_tellPrize_16 (by decide) rfl ?_
    refine sm_aload_n C 1 dX8_tellPrize_17 rfl ?_
    refine sm_iconst C (0 : Int32) dX8_tellPrize_18 ic_0 ?_
    refine sm_iconst C (2 : Int32) dX8_tellPrize_19 ic_2 ?_
    refine r_callVI C (R := RX8) (T := TX8) (N := 6) [.int (0 : Int32), .int (2 : Int32)] (G_S G) rfl (fun qq ss hh => ct_X8_hasNumber G (0 : Int32) (2 : Int32) s2 qq ss hh) kw_469 kw_471 kw_7 kw_63 kw_472 dX8_tellPrize_20 rfl dd_X8_hasNumber ⟨rfl, rfl⟩ ⟨by decide, by decide⟩ (Nat.le_of_ble_eq_true rfl) _ rfl (fun q4 s5 => ?_)
    refine sm_if_ne C 28 dX8_tellPrize_23 (by decide) ?_ ?_
    · refine sm_aload_n C 1 dX8_tellPrize_28 rfl ?_
      refine sm_getI C (ci := 8) (R := RX8) (T := TX8) (N := 6) (j := 5) (G_S G).2 (G_S G).1 rfl gX8 (by decide) kw_286 dX8_tellPrize_29 (fun _ _ => rfl) (fun v6 => ?_)
      refine sm_istore_n C [(3, .int v6), (2, .int v3), (0, .ref (wad w 80)), (1, .ref (wad w rv))] dX8_tellPrize_32 (by decide) rfl ?_
      refine sm_aload_n C 2 dX8_tellPrize_33 rfl ?_
      refine sm_iconst C (1 : Int32) dX8_tellPrize_34 ic_1 ?_
      refine sm_bipush C (30 : Int32) dX8_tellPrize_35 bp_30 ?_
      refine r_callVI C (R := RX8) (T := TX8) (N := 6) [.int (1 : Int32), .int (30 : Int32)] (G_S G) rfl (fun qq ss hh => ct_X8_hasNumber G (1 : Int32) (30 : Int32) s5 qq ss hh) kw_469 kw_471 kw_7 kw_63 kw_472 dX8_tellPrize_37 rfl dd_X8_hasNumber ⟨rfl, rfl⟩ ⟨by decide, by decide⟩ (Nat.le_of_ble_eq_true rfl) _ rfl (fun q7 s8 => ?_)
      refine sm_if_ne C 45 dX8_tellPrize_40 (by decide) ?_ ?_
      · refine sm_aload_n C 3 dX8_tellPrize_45 rfl ?_
        refine sm_iload_n C 1 dX8_tellPrize_46 rfl ?_
        refine sm_iload_n C 0 dX8_tellPrize_47 rfl ?_
        refine sm_aload_n C 2 dX8_tellPrize_48 rfl ?_
        refine sm_getI C (ci := 8) (R := RX8) (T := TX8) (N := 6) (j := 5) (G_S G).2 (G_S G).1 rfl gX8 (by decide) kw_286 dX8_tellPrize_49 (fun _ _ => rfl) (fun v9 => ?_)
        refine r_callVU C (R := RX10) (T := TX10) (N := 13) [.int v3, .int v6, .int v9] (V_O hrv) rfl (fun qq ss hh => ct_X10_setPrize rv hrv v3 v6 v9 s8 qq ss hh) kw_474 kw_354 kw_355 kw_52 kw_356 dX8_tellPrize_52 rfl dd_X10_setPrize ⟨rfl, rfl⟩ ⟨by decide, by decide⟩ (Nat.le_of_ble_eq_true rfl) _ rfl (fun q10 s11 => ?_)
        refine sm_iconst C (1 : Int32) dX8_tellPrize_55 ic_1 ?_
        exact sm_zret C dX8_tellPrize_56
      · refine sm_iconst C (0 : Int32) dX8_tellPrize_43 ic_0 ?_
        exact sm_zret C dX8_tellPrize_44
    · refine sm_iconst C (0 : Int32) dX8_tellPrize_26 ic_0 ?_
      exact sm_zret C dX8_tellPrize_27
  · refine sm_iconst C (0 : Int32) dX8_tellPrize_10 ic_0 ?_
    exact sm_zret C dX8_tellPrize_11
theorem dd_X10_addOne : yX10_addOne.cls = RX10 ∧ yX10_addOne.cls ≠ "java/lang/invoke/MethodHandle" ∧ yX10_addOne.cls ≠ "java/lang/invoke/VarHandle" ∧ (parseMethodDescriptor yX10_addOne.desc).map (fun d => d.parameters.length) = some 4 := by decide +kernel
set_option maxRecDepth 100000 in
set_option maxHeartbeats 4000000 in
theorem ct_X10_addOne {l : Launch} {w : Wco} (rv : Nat) (hrv : isV w rv) (x1 : Int32) (x2 : Int32) (x3 : Int32) (x4 : Int32) (s0 : Sta) (qq : Unit) (ss : Sta) (hh : X10_addOne rv x1 x2 x3 x4 s0 = some (qq, ss)) : Ct l w yX10_addOne (Cond.code yX10_addOne cX10_addOne 5 none :: GT) { frames := 0, cells := 0, slots := 0, locals := 0 } [.ref (wad w rv), .int x1, .int x2, .int x3, .int x4] s0 (oV qq) ss := by
  refine ct_of [(0, .ref (wad w rv)), (1, .int x1), (2, .int x2), (3, .int x3), (4, .int x4)] (by decide +kernel) (Nat.le_of_ble_eq_true rfl) rfl hh (fun M _ C => ?_)
  unfold X10_addOne
  refine sm_aload_n C 0 dX10_addOne_0 rfl ?_
  refine sm_getI C (ci := 10) (R := RX10) (T := TX10) (N := 13) (j := 10) (V_O hrv).2 (V_O hrv).1 rfl gX10 (by decide) kw_138 dX10_addOne_1 (fun _ _ => rfl) (fun v1 => ?_)
  refine sm_bipush C (6 : Int32) dX10_addOne_4 bp_6 ?_
  refine sm_icmp_lt C 10 dX10_addOne_6 (by decide) ?_ ?_
  · refine sm_aload_n C 0 dX10_addOne_10 rfl ?_
    refine sm_getR C (ci := 10) (R := RX10) (T := TX10) (N := 13) (j := 2) (V_O hrv).2 (V_O hrv).1 rfl gX10 (by decide) kw_118 dX10_addOne_11 (fun _ _ => rfl) ?_
    refine sm_aload_n C 0 dX10_addOne_14 rfl ?_
    refine sm_getI C (ci := 10) (R := RX10) (T := TX10) (N := 13) (j := 10) (V_O hrv).2 (V_O hrv).1 rfl gX10 (by decide) kw_138 dX10_addOne_15 (fun _ _ => rfl) (fun v2 => ?_)
    refine sm_iload_n C 1 dX10_addOne_18 rfl ?_
    refine r_iast C (V_kinds hrv) dX10_addOne_19 (fun s3 => ?_)
    refine sm_aload_n C 0 dX10_addOne_20 rfl ?_
    refine sm_getR C (ci := 10) (R := RX10) (T := TX10) (N := 13) (j := 3) (V_O hrv).2 (V_O hrv).1 rfl gX10 (by decide) kw_121 dX10_addOne_21 (fun _ _ => rfl) ?_
    refine sm_aload_n C 0 dX10_addOne_24 rfl ?_
    refine sm_getI C (ci := 10) (R := RX10) (T := TX10) (N := 13) (j := 10) (V_O hrv).2 (V_O hrv).1 rfl gX10 (by decide) kw_138 dX10_addOne_25 (fun _ _ => rfl) (fun v4 => ?_)
    refine sm_iconst C (3 : Int32) dX10_addOne_28 ic_3 ?_
    refine sm_imul C dX10_addOne_29 ?_
    refine sm_iload_n C 2 dX10_addOne_30 rfl ?_
    refine r_iast C (V_arts hrv) dX10_addOne_31 (fun s5 => ?_)
    refine sm_aload_n C 0 dX10_addOne_32 rfl ?_
    refine sm_getR C (ci := 10) (R := RX10) (T := TX10) (N := 13) (j := 3) (V_O hrv).2 (V_O hrv).1 rfl gX10 (by decide) kw_121 dX10_addOne_33 (fun _ _ => rfl) ?_
    refine sm_aload_n C 0 dX10_addOne_36 rfl ?_
    refine sm_getI C (ci := 10) (R := RX10) (T := TX10) (N := 13) (j := 10) (V_O hrv).2 (V_O hrv).1 rfl gX10 (by decide) kw_138 dX10_addOne_37 (fun _ _ => rfl) (fun v6 => ?_)
    refine sm_iconst C (3 : Int32) dX10_addOne_40 ic_3 ?_
    refine sm_imul C dX10_addOne_41 ?_
    refine sm_iconst C (1 : Int32) dX10_addOne_42 ic_1 ?_
    refine sm_iadd C dX10_addOne_43 ?_
    refine sm_iload_n C 3 dX10_addOne_44 rfl ?_
    refine r_iast C (V_arts hrv) dX10_addOne_45 (fun s7 => ?_)
    refine sm_aload_n C 0 dX10_addOne_46 rfl ?_
    refine sm_getR C (ci := 10) (R := RX10) (T := TX10) (N := 13) (j := 3) (V_O hrv).2 (V_O hrv).1 rfl gX10 (by decide) kw_121 dX10_addOne_47 (fun _ _ => rfl) ?_
    refine sm_aload_n C 0 dX10_addOne_50 rfl ?_
    refine sm_getI C (ci := 10) (R := RX10) (T := TX10) (N := 13) (j := 10) (V_O hrv).2 (V_O hrv).1 rfl gX10 (by decide) kw_138 dX10_addOne_51 (fun _ _ => rfl) (fun v8 => ?_)
    refine sm_iconst C (3 : Int32) dX10_addOne_54 ic_3 ?_
    refine sm_imul C dX10_addOne_55 ?_
    refine sm_iconst C (2 : Int32) dX10_addOne_56 ic_2 ?_
    refine sm_iadd C dX10_addOne_57 ?_
    refine sm_iload C 4 dX10_addOne_58 rfl ?_
    refine r_iast C (V_arts hrv) dX10_addOne_60 (fun s9 => ?_)
    refine sm_aload_n C 0 dX10_addOne_61 rfl ?_
    refine sm_getR C (ci := 10) (R := RX10) (T := TX10) (N := 13) (j := 4) (V_O hrv).2 (V_O hrv).1 rfl gX10 (by decide) kw_124 dX10_addOne_62 (fun _ _ => rfl) ?_
    refine sm_aload_n C 0 dX10_addOne_65 rfl ?_
    refine sm_getI C (ci := 10) (R := RX10) (T := TX10) (N := 13) (j := 10) (V_O hrv).2 (V_O hrv).1 rfl gX10 (by decide) kw_138 dX10_addOne_66 (fun _ _ => rfl) (fun v10 => ?_)
    refine sm_iconst C (0 : Int32) dX10_addOne_69 ic_0 ?_
    refine r_iast C (V_wins hrv) dX10_addOne_70 (fun s11 => ?_)
    refine sm_aload_n C 0 dX10_addOne_71 rfl ?_
    refine sm_getR C (ci := 10) (R := RX10) (T := TX10) (N := 13) (j := 5) (V_O hrv).2 (V_O hrv).1 rfl gX10 (by decide) kw_128 dX10_addOne_72 (fun _ _ => rfl) ?_
    refine sm_aload_n C 0 dX10_addOne_75 rfl ?_
    refine sm_getI C (ci := 10) (R := RX10) (T := TX10) (N := 13) (j := 10) (V_O hrv).2 (V_O hrv).1 rfl gX10 (by decide) kw_138 dX10_addOne_76 (fun _ _ => rfl) (fun v12 => ?_)
    refine sm_iconst C (0 : Int32) dX10_addOne_79 ic_0 ?_
    refine r_iast C (V_seconds hrv) dX10_addOne_80 (fun s13 => ?_)
    refine sm_aload_n C 0 dX10_addOne_81 rfl ?_
    refine sm_dup C dX10_addOne_82 rfl ?_
    refine sm_getI C (ci := 10) (R := RX10) (T := TX10) (N := 13) (j := 10) (V_O hrv).2 (V_O hrv).1 rfl gX10 (by decide) kw_138 dX10_addOne_83 (fun _ _ => rfl) (fun v14 => ?_)
    refine sm_iconst C (1 : Int32) dX10_addOne_86 ic_1 ?_
    refine sm_iadd C dX10_addOne_87 ?_
    refine sm_putI C (ci := 10) (R := RX10) (T := TX10) (N := 13) (j := 10) (V_O hrv).2 (V_O hrv).1 rfl gX10 tyX10 tyX10_ok nmX10 (by decide) kw_138 rfl (by decide +kernel) dX10_addOne_88 (fun _ _ => Nat.le_of_ble_eq_true rfl) (set_fsV_10 w rv) (fun s15 => ?_)
    exact sm_vret C dX10_addOne_91
  · exact sm_vret C dX10_addOne_9
theorem dd_X8_tellOne : yX8_tellOne.cls = RX8 ∧ yX8_tellOne.cls ≠ "java/lang/invoke/MethodHandle" ∧ yX8_tellOne.cls ≠ "java/lang/invoke/VarHandle" ∧ (parseMethodDescriptor yX8_tellOne.desc).map (fun d => d.parameters.length) = some 1 := by decide +kernel
set_option maxRecDepth 100000 in
set_option maxHeartbeats 4000000 in
theorem ct_X8_tellOne {l : Launch} {w : Wco} (rv : Nat) (G : GW w) (hrv : isV w rv) (s0 : Sta) (qq : Int32) (ss : Sta) (hh : X8_tellOne rv s0 = some (qq, ss)) : Ct l w yX8_tellOne (Cond.code yX8_tellOne cX8_tellOne 5 (some .boolean) :: GT) { frames := 4, cells := 0, slots := 0, locals := 82 } [.ref (wad w 80), .ref (wad w rv)] s0 (oI qq) ss := by
  refine ct_of [(0, .ref (wad w 80)), (1, .ref (wad w rv))] (by decide +kernel) (Nat.le_of_ble_eq_true rfl) rfl hh (fun M _ C => ?_)
  unfold X8_tellOne
  refine sm_aload_n C 1 dX8_tellOne_0 rfl ?_
  refine sm_getIN C (ci := 10) (R := RX10) (T := TX10) (N := 13) (j := 10) (V_O hrv).2 (V_O hrv).1 rfl gX10 (by decide) nf_21 dX8_tellOne_1 (fun _ _ => rfl) (fun v1 => ?_)
  refine sm_bipush C (6 : Int32) dX8_tellOne_4 bp_6 ?_
  refine sm_icmp_ge C 18 dX8_tellOne_6 (by decide) ?_ ?_
  · refine sm_iconst C (0 : Int32) dX8_tellOne_18 ic_0 ?_
    exact sm_zret C dX8_tellOne_19
  · refine sm_aload_n C 0 dX8_tellOne_9 rfl ?_
    refine sm_iconst C (0 : Int32) dX8_tellOne_10 ic_0 ?_
    refine sm_iconst C (5 : Int32) dX8_tellOne_11 ic_5 ?_
    refine r_callVI C (R := RX8) (T := TX8) (N := 6) [.int (0 : Int32), .int (5 : Int32)] (G_S G) rfl (fun qq ss hh => ct_X8_hasNumber G (0 : Int32) (5 : Int32) s0 qq ss hh) kw_469 kw_471 kw_7 kw_63 kw_472 dX8_tellOne_12 rfl dd_X8_hasNumber ⟨rfl, rfl⟩ ⟨by decide, by decide⟩ (Nat.le_of_ble_eq_true rfl) _ rfl (fun q2 s3 => ?_)
    refine sm_if_ne C 20 dX8_tellOne_15 (by decide) ?_ ?_
    · refine sm_aload_n C 0 dX8_tellOne_20 rfl ?_
      refine sm_getI C (ci := 8) (R := RX8) (T := TX8) (N := 6) (j := 5) (G_S G).2 (G_S G).1 rfl gX8 (by decide) kw_286 dX8_tellOne_21 (fun _ _ => rfl) (fun v4 => ?_)
      refine sm_istore_n C [(2, .int v4), (0, .ref (wad w 80)), (1, .ref (wad w rv))] dX8_tellOne_24 (by decide) rfl ?_
      refine sm_aload_n C 1 dX8_tellOne_25 rfl ?_
      refine sm_iconst C (0 : Int32) dX8_tellOne_26 ic_0 ?_
      refine sm_bipush C (9 : Int32) dX8_tellOne_27 bp_9 ?_
      refine r_callVI C (R := RX8) (T := TX8) (N := 6) [.int (0 : Int32), .int (9 : Int32)] (G_S G) rfl (fun qq ss hh => ct_X8_hasNumber G (0 : Int32) (9 : Int32) s3 qq ss hh) kw_469 kw_471 kw_7 kw_63 kw_472 dX8_tellOne_29 rfl dd_X8_hasNumber ⟨rfl, rfl⟩ ⟨by decide, by decide⟩ (Nat.le_of_ble_eq_true rfl) _ rfl (fun q5 s6 => ?_)
      refine sm_if_ne C 37 dX8_tellOne_32 (by decide) ?_ ?_
      · refine sm_aload_n C 1 dX8_tellOne_37 rfl ?_
        refine sm_getI C (ci := 8) (R := RX8) (T := TX8) (N := 6) (j := 5) (G_S G).2 (G_S G).1 rfl gX8 (by decide) kw_286 dX8_tellOne_38 (fun _ _ => rfl) (fun v7 => ?_)
        refine sm_istore_n C [(3, .int v7), (2, .int v4), (0, .ref (wad w 80)), (1, .ref (wad w rv))] dX8_tellOne_41 (by decide) rfl ?_
        refine sm_aload_n C 2 dX8_tellOne_42 rfl ?_
        refine sm_iconst C (0 : Int32) dX8_tellOne_43 ic_0 ?_
        refine sm_bipush C (9 : Int32) dX8_tellOne_44 bp_9 ?_
        refine r_callVI C (R := RX8) (T := TX8) (N := 6) [.int (0 : Int32), .int (9 : Int32)] (G_S G) rfl (fun qq ss hh => ct_X8_hasNumber G (0 : Int32) (9 : Int32) s6 qq ss hh) kw_469 kw_471 kw_7 kw_63 kw_472 dX8_tellOne_46 rfl dd_X8_hasNumber ⟨rfl, rfl⟩ ⟨by decide, by decide⟩ (Nat.le_of_ble_eq_true rfl) _ rfl (fun q8 s9 => ?_)
        refine sm_if_ne C 54 dX8_tellOne_49 (by decide) ?_ ?_
        · refine sm_aload_n C 2 dX8_tellOne_54 rfl ?_
          refine sm_getI C (ci := 8) (R := RX8) (T := TX8) (N := 6) (j := 5) (G_S G).2 (G_S G).1 rfl gX8 (by decide) kw_286 dX8_tellOne_55 (fun _ _ => rfl) (fun v10 => ?_)
          refine sm_istore C [(4, .int v10), (3, .int v7), (2, .int v4), (0, .ref (wad w 80)), (1, .ref (wad w rv))] dX8_tellOne_58 (by decide) rfl ?_
          refine sm_aload_n C 3 dX8_tellOne_60 rfl ?_
          refine sm_iconst C (0 : Int32) dX8_tellOne_61 ic_0 ?_
          refine sm_bipush C (9 : Int32) dX8_tellOne_62 bp_9 ?_
          refine r_callVI C (R := RX8) (T := TX8) (N := 6) [.int (0 : Int32), .int (9 : Int32)] (G_S G) rfl (fun qq ss hh => ct_X8_hasNumber G (0 : Int32) (9 : Int32) s9 qq ss hh) kw_469 kw_471 kw_7 kw_63 kw_472 dX8_tellOne_64 rfl dd_X8_hasNumber ⟨rfl, rfl⟩ ⟨by decide, by decide⟩ (Nat.le_of_ble_eq_true rfl) _ rfl (fun q11 s12 => ?_)
          refine sm_if_ne C 72 dX8_tellOne_67 (by decide) ?_ ?_
          · refine sm_aload_n C 4 dX8_tellOne_72 rfl ?_
            refine sm_iload_n C 2 dX8_tellOne_73 rfl ?_
            refine sm_iload_n C 1 dX8_tellOne_74 rfl ?_
            refine sm_iload C 0 dX8_tellOne_75 rfl ?_
            refine sm_aload_n C 3 dX8_tellOne_77 rfl ?_
            refine sm_getI C (ci := 8) (R := RX8) (T := TX8) (N := 6) (j := 5) (G_S G).2 (G_S G).1 rfl gX8 (by decide) kw_286 dX8_tellOne_78 (fun _ _ => rfl) (fun v13 => ?_)
            refine r_callVU C (R := RX10) (T := TX10) (N := 13) [.int v4, .int v7, .int v10, .int v13] (V_O hrv) rfl (fun qq ss hh => ct_X10_addOne rv hrv v4 v7 v10 v13 s12 qq ss hh) kw_480 kw_369 kw_370 kw_52 kw_371 dX8_tellOne_81 rfl dd_X10_addOne ⟨rfl, rfl⟩ ⟨by decide, by decide⟩ (Nat.le_of_ble_eq_true rfl) _ rfl (fun q14 s15 => ?_)
            refine sm_iconst C (1 : Int32) dX8_tellOne_84 ic_1 ?_
            exact sm_zret C dX8_tellOne_85
          · refine sm_iconst C (0 : Int32) dX8_tellOne_70 ic_0 ?_
            exact sm_zret C dX8_tellOne_71
        · refine sm_iconst C (0 : Int32) dX8_tellOne_52 ic_0 ?_
          exact sm_zret C dX8_tellOne_53
      · refine sm_iconst C (0 : Int32) dX8_tellOne_35 ic_0 ?_
        exact sm_zret C dX8_tellOne_36
    · refine sm_iconst C (0 : Int32) dX8_tellOne_18 ic_0 ?_
      exact sm_zret C dX8_tellOne_19
theorem dd_X8_endsItem : yX8_endsItem.cls = RX8 ∧ yX8_endsItem.cls ≠ "java/lang/invoke/MethodHandle" ∧ yX8_endsItem.cls ≠ "java/lang/invoke/VarHandle" ∧ (parseMethodDescriptor yX8_endsItem.desc).map (fun d => d.parameters.length) = some 0 := by decide +kernel
set_option maxRecDepth 100000 in
set_option maxHeartbeats 4000000 in
theorem ct_X8_endsItem {l : Launch} {w : Wco} (G : GW w) (s0 : Sta) (qq : Int32) (ss : Sta) (hh : X8_endsItem s0 = some (qq, ss)) : Ct l w yX8_endsItem (Cond.code yX8_endsItem cX8_endsItem 1 (some .boolean) :: GT) { frames := 3, cells := 0, slots := 0, locals := 60 } [.ref (wad w 80)] s0 (oI qq) ss := by
  refine ct_of [(0, .ref (wad w 80))] (by decide +kernel) (Nat.le_of_ble_eq_true rfl) rfl hh (fun M _ C => ?_)
  unfold X8_endsItem
  refine sm_aload_n C 0 dX8_endsItem_0 rfl ?_
  refine r_callVU C (R := RX8) (T := TX8) (N := 6) [] (G_S G) rfl (fun qq ss hh => ct_X8_advance G s0 qq ss hh) kw_393 kw_395 kw_2 kw_63 kw_396 dX8_endsItem_1 rfl dd_X8_advance ⟨rfl, rfl⟩ ⟨by decide, by decide⟩ (Nat.le_of_ble_eq_true rfl) _ rfl (fun q1 s2 => ?_)
  refine sm_aload_n C 0 dX8_endsItem_4 rfl ?_
  refine sm_getI C (ci := 8) (R := RX8) (T := TX8) (N := 6) (j := 4) (G_S G).2 (G_S G).1 rfl gX8 (by decide) kw_285 dX8_endsItem_5 (fun _ _ => rfl) (fun v3 => ?_)
  refine sm_iconst C (3 : Int32) dX8_endsItem_8 ic_3 ?_
  refine sm_icmp_ne C 16 dX8_endsItem_9 (by decide) ?_ ?_
  · refine sm_iconst C (0 : Int32) dX8_endsItem_16 ic_0 ?_
    exact sm_zret C dX8_endsItem_17
  · refine sm_iconst C (1 : Int32) dX8_endsItem_12 ic_1 ?_
    refine sm_goto C 17 dX8_endsItem_13 (by decide) ?_
    exact sm_zret C dX8_endsItem_17
theorem dd_X9_add : yX9_add.cls = RX9 ∧ yX9_add.cls ≠ "java/lang/invoke/MethodHandle" ∧ yX9_add.cls ≠ "java/lang/invoke/VarHandle" ∧ (parseMethodDescriptor yX9_add.desc).map (fun d => d.parameters.length) = some 4 := by decide +kernel
set_option maxRecDepth 100000 in
set_option maxHeartbeats 4000000 in
theorem ct_X9_add {l : Launch} {w : Wco} (rv : Nat) (hrv : isT w rv) (x1 : Int32) (x2 : Int32) (x3 : Int32) (x4 : Int32) (s0 : Sta) (qq : Unit) (ss : Sta) (hh : X9_add rv x1 x2 x3 x4 s0 = some (qq, ss)) : Ct l w yX9_add (Cond.code yX9_add cX9_add 6 none :: GT) { frames := 0, cells := 0, slots := 0, locals := 0 } [.ref (wad w rv), .int x1, .int x2, .int x3, .int x4] s0 (oV qq) ss := by
  refine ct_of [(0, .ref (wad w rv)), (1, .int x1), (2, .int x2), (3, .int x3), (4, .int x4)] (by decide +kernel) (Nat.le_of_ble_eq_true rfl) rfl hh (fun M _ C => ?_)
  unfold X9_add
  refine sm_aload_n C 0 dX9_add_0 rfl ?_
  refine sm_getI C (ci := 9) (R := RX9) (T := TX9) (N := 2) (j := 1) (T_O hrv).2 (T_O hrv).1 rfl gX9 (by decide) kw_93 dX9_add_1 (fun _ _ => rfl) (fun v1 => ?_)
  refine sm_bipush C (6 : Int32) dX9_add_4 bp_6 ?_
  refine sm_icmp_lt C 10 dX9_add_6 (by decide) ?_ ?_
  · refine sm_aload_n C 0 dX9_add_10 rfl ?_
    refine sm_getI C (ci := 9) (R := RX9) (T := TX9) (N := 2) (j := 1) (T_O hrv).2 (T_O hrv).1 rfl gX9 (by decide) kw_93 dX9_add_11 (fun _ _ => rfl) (fun v2 => ?_)
    refine sm_iconst C (4 : Int32) dX9_add_14 ic_4 ?_
    refine sm_imul C dX9_add_15 ?_
    refine sm_istore C [(5, .int (v2 * (4 : Int32))), (0, .ref (wad w rv)), (1, .int x1), (2, .int x2), (3, .int x3), (4, .int x4)] dX9_add_16 (by decide) rfl ?_
    refine sm_aload_n C 1 dX9_add_18 rfl ?_
    refine sm_getR C (ci := 9) (R := RX9) (T := TX9) (N := 2) (j := 0) (T_O hrv).2 (T_O hrv).1 rfl gX9 (by decide) kw_92 dX9_add_19 (fun _ _ => rfl) ?_
    refine sm_iload C 0 dX9_add_22 rfl ?_
    refine sm_iload_n C 2 dX9_add_24 rfl ?_
    refine r_iast C (T_cells hrv) dX9_add_25 (fun s3 => ?_)
    refine sm_aload_n C 1 dX9_add_26 rfl ?_
    refine sm_getR C (ci := 9) (R := RX9) (T := TX9) (N := 2) (j := 0) (T_O hrv).2 (T_O hrv).1 rfl gX9 (by decide) kw_92 dX9_add_27 (fun _ _ => rfl) ?_
    refine sm_iload C 0 dX9_add_30 rfl ?_
    refine sm_iconst C (1 : Int32) dX9_add_32 ic_1 ?_
    refine sm_iadd C dX9_add_33 ?_
    refine sm_iload_n C 3 dX9_add_34 rfl ?_
    refine r_iast C (T_cells hrv) dX9_add_35 (fun s4 => ?_)
    refine sm_aload_n C 1 dX9_add_36 rfl ?_
    refine sm_getR C (ci := 9) (R := RX9) (T := TX9) (N := 2) (j := 0) (T_O hrv).2 (T_O hrv).1 rfl gX9 (by decide) kw_92 dX9_add_37 (fun _ _ => rfl) ?_
    refine sm_iload C 0 dX9_add_40 rfl ?_
    refine sm_iconst C (2 : Int32) dX9_add_42 ic_2 ?_
    refine sm_iadd C dX9_add_43 ?_
    refine sm_iload_n C 4 dX9_add_44 rfl ?_
    refine r_iast C (T_cells hrv) dX9_add_45 (fun s5 => ?_)
    refine sm_aload_n C 1 dX9_add_46 rfl ?_
    refine sm_getR C (ci := 9) (R := RX9) (T := TX9) (N := 2) (j := 0) (T_O hrv).2 (T_O hrv).1 rfl gX9 (by decide) kw_92 dX9_add_47 (fun _ _ => rfl) ?_
    refine sm_iload C 0 dX9_add_50 rfl ?_
    refine sm_iconst C (3 : Int32) dX9_add_52 ic_3 ?_
    refine sm_iadd C dX9_add_53 ?_
    refine sm_iload C 5 dX9_add_54 rfl ?_
    refine r_iast C (T_cells hrv) dX9_add_56 (fun s6 => ?_)
    refine sm_aload_n C 1 dX9_add_57 rfl ?_
    refine sm_dup C dX9_add_58 rfl ?_
    refine sm_getI C (ci := 9) (R := RX9) (T := TX9) (N := 2) (j := 1) (T_O hrv).2 (T_O hrv).1 rfl gX9 (by decide) kw_93 dX9_add_59 (fun _ _ => rfl) (fun v7 => ?_)
    refine sm_iconst C (1 : Int32) dX9_add_62 ic_1 ?_
    refine sm_iadd C dX9_add_63 ?_
    refine sm_putI C (ci := 9) (R := RX9) (T := TX9) (N := 2) (j := 1) (T_O hrv).2 (T_O hrv).1 rfl gX9 tyX9 tyX9_ok nmX9 (by decide) kw_93 rfl (by decide +kernel) dX9_add_64 (fun _ _ => Nat.le_of_ble_eq_true rfl) (set_fsT_1 w rv) (fun s8 => ?_)
    exact sm_vret C dX9_add_67
  · exact sm_vret C dX9_add_9
theorem dd_X9_takeRows : yX9_takeRows.cls = RX9 ∧ yX9_takeRows.cls ≠ "java/lang/invoke/MethodHandle" ∧ yX9_takeRows.cls ≠ "java/lang/invoke/VarHandle" ∧ (parseMethodDescriptor yX9_takeRows.desc).map (fun d => d.parameters.length) = some 1 := by decide +kernel
set_option maxRecDepth 100000 in
set_option maxHeartbeats 4000000 in
theorem ct_X9_takeRows {l : Launch} {w : Wco} (rv : Nat) (rv2 : Nat) (hrv : isT w rv) (hrv2 : isT w rv2) (s0 : Sta) (qq : Unit) (ss : Sta) (hh : X9_takeRows rv rv2 s0 = some (qq, ss)) : Ct l w yX9_takeRows (Cond.code yX9_takeRows cX9_takeRows 2 none :: GT) { frames := 1, cells := 0, slots := 0, locals := 40 } [.ref (wad w rv), .ref (wad w rv2)] s0 (oV qq) ss := by
  refine ct_of [(0, .ref (wad w rv)), (1, .ref (wad w rv2))] (by decide +kernel) (Nat.le_of_ble_eq_true rfl) rfl hh (fun M _ C => ?_)
  unfold X9_takeRows
  refine sm_aload_n C 1 dX9_takeRows_0 rfl ?_
  refine sm_getR C (ci := 9) (R := RX9) (T := TX9) (N := 2) (j := 0) (T_O hrv2).2 (T_O hrv2).1 rfl gX9 (by decide) kw_92 dX9_takeRows_1 (fun _ _ => rfl) ?_
  refine sm_iconst C (0 : Int32) dX9_takeRows_4 ic_0 ?_
  refine sm_aload_n C 0 dX9_takeRows_5 rfl ?_
  refine sm_getR C (ci := 9) (R := RX9) (T := TX9) (N := 2) (j := 0) (T_O hrv).2 (T_O hrv).1 rfl gX9 (by decide) kw_92 dX9_takeRows_6 (fun _ _ => rfl) ?_
  refine sm_iconst C (0 : Int32) dX9_takeRows_9 ic_0 ?_
  refine sm_aload_n C 0 dX9_takeRows_10 rfl ?_
  refine sm_getR C (ci := 9) (R := RX9) (T := TX9) (N := 2) (j := 0) (T_O hrv).2 (T_O hrv).1 rfl gX9 (by decide) kw_92 dX9_takeRows_11 (fun _ _ => rfl) ?_
  refine r_alen C (24 : Int32) (T_cells hrv) rfl dX9_takeRows_14 ?_
  refine r_copy C 24 (T_cells hrv2) (T_cells hrv) kw_496 (by decide) (by decide) (by decide) (by decide) (by decide) (by decide +kernel) dX9_takeRows_15 (fun s1 => ?_)
  refine sm_aload_n C 0 dX9_takeRows_18 rfl ?_
  refine sm_aload_n C 1 dX9_takeRows_19 rfl ?_
  refine sm_getI C (ci := 9) (R := RX9) (T := TX9) (N := 2) (j := 1) (T_O hrv2).2 (T_O hrv2).1 rfl gX9 (by decide) kw_93 dX9_takeRows_20 (fun _ _ => rfl) (fun v2 => ?_)
  refine sm_putI C (ci := 9) (R := RX9) (T := TX9) (N := 2) (j := 1) (T_O hrv).2 (T_O hrv).1 rfl gX9 tyX9 tyX9_ok nmX9 (by decide) kw_93 rfl (by decide +kernel) dX9_takeRows_23 (fun _ _ => Nat.le_of_ble_eq_true rfl) (set_fsT_1 w rv) (fun s3 => ?_)
  exact sm_vret C dX9_takeRows_26
theorem dd_X9_mixedInto : yX9_mixedInto.cls = RX9 ∧ yX9_mixedInto.cls ≠ "java/lang/invoke/MethodHandle" ∧ yX9_mixedInto.cls ≠ "java/lang/invoke/VarHandle" ∧ (parseMethodDescriptor yX9_mixedInto.desc).map (fun d => d.parameters.length) = some 1 := by decide +kernel
set_option maxRecDepth 100000 in
set_option maxHeartbeats 4000000 in
theorem sl_X9_mixedInto_L2 {M : Mco} {w : Wco} (C : Cx M w cX9_mixedInto 4 yX9_mixedInto.cls (Cond.code yX9_mixedInto cX9_mixedInto 4 (some .long)) (some .long) { frames := 0, cells := 0, slots := 0, locals := 0 }) {rv : Nat} (hrv : isT w rv) : ∀ (n : Nat) (y1 : Int64) (y3 : Int32) (s0 : Sta), Sm M w 4 oL 2 [(0, .ref (wad w rv)), (1, .long y1), (3, .int y3)] [] s0 (X9_mixedInto_L2 rv n y1 y3 s0) := by
  intro n
  induction n with
  | zero => intros; exact sm_none
  | succ n ih =>
    intro y1 y3 s0
    rw [X9_mixedInto_L2.eq_2]
    refine sm_iload_n C 2 dX9_mixedInto_2 rfl ?_
    refine sm_aload_n C 0 dX9_mixedInto_3 rfl ?_
    refine sm_getI C (ci := 9) (R := RX9) (T := TX9) (N := 2) (j := 1) (T_O hrv).2 (T_O hrv).1 rfl gX9 (by decide) kw_93 dX9_mixedInto_4 (fun _ _ => rfl) (fun v1 => ?_)
    refine sm_iconst C (4 : Int32) dX9_mixedInto_7 ic_4 ?_
    refine sm_imul C dX9_mixedInto_8 ?_
    refine sm_icmp_ge C 32 dX9_mixedInto_9 (by decide) ?_ ?_
    · refine sm_lload_n C 1 dX9_mixedInto_32 rfl ?_
      exact sm_lret C dX9_mixedInto_33
    · refine sm_ldc2 C kw_854 dX9_mixedInto_12 ?_
      refine sm_lload_n C 1 dX9_mixedInto_15 rfl ?_
      refine sm_lmul C dX9_mixedInto_16 ?_
      refine sm_aload_n C 0 dX9_mixedInto_17 rfl ?_
      refine sm_getR C (ci := 9) (R := RX9) (T := TX9) (N := 2) (j := 0) (T_O hrv).2 (T_O hrv).1 rfl gX9 (by decide) kw_92 dX9_mixedInto_18 (fun _ _ => rfl) ?_
      refine sm_iload_n C 2 dX9_mixedInto_21 rfl ?_
      refine r_iald C (T_cells hrv) dX9_mixedInto_22 (fun v2 => ?_)
      refine sm_i2l C dX9_mixedInto_23 ?_
      refine sm_ladd C dX9_mixedInto_24 ?_
      refine sm_lstore_n C [(1, .long (((31 : Int64) * y1) + v2.toInt64)), (0, .ref (wad w rv)), (3, .int y3)] dX9_mixedInto_25 (by decide) rfl ?_
      refine sm_iinc C 2 (y3 + (1 : Int32)) [(3, .int (y3 + (1 : Int32))), (1, .long (((31 : Int64) * y1) + v2.toInt64)), (0, .ref (wad w rv))] dX9_mixedInto_26 rfl (ii_1 _) (by decide) rfl ?_
      refine sm_goto C 2 dX9_mixedInto_29 (by decide) ?_
      exact sm_sub [2, 1, 0] rfl (ih (((31 : Int64) * y1) + v2.toInt64) (y3 + (1 : Int32)) s0)
set_option maxRecDepth 100000 in
set_option maxHeartbeats 4000000 in
theorem ct_X9_mixedInto {l : Launch} {w : Wco} (rv : Nat) (hrv : isT w rv) (x1 : Int64) (s0 : Sta) (qq : Int64) (ss : Sta) (hh : X9_mixedInto rv x1 s0 = some (qq, ss)) : Ct l w yX9_mixedInto (Cond.code yX9_mixedInto cX9_mixedInto 4 (some .long) :: GT) { frames := 0, cells := 0, slots := 0, locals := 0 } [.ref (wad w rv), .long x1] s0 (oL qq) ss := by
  refine ct_of [(0, .ref (wad w rv)), (1, .long x1)] (by decide +kernel) (Nat.le_of_ble_eq_true rfl) rfl hh (fun M _ C => ?_)
  unfold X9_mixedInto
  refine sm_iconst C (0 : Int32) dX9_mixedInto_0 ic_0 ?_
  refine sm_istore_n C [(3, .int (0 : Int32)), (0, .ref (wad w rv)), (1, .long x1)] dX9_mixedInto_1 (by decide) rfl ?_
  exact sm_sub [1, 2, 0] rfl (sl_X9_mixedInto_L2 C hrv FU x1 (0 : Int32) s0)
theorem dd_X10_empty : yX10_empty.cls = RX10 ∧ yX10_empty.cls ≠ "java/lang/invoke/MethodHandle" ∧ yX10_empty.cls ≠ "java/lang/invoke/VarHandle" ∧ (parseMethodDescriptor yX10_empty.desc).map (fun d => d.parameters.length) = some 0 := by decide +kernel
set_option maxRecDepth 100000 in
set_option maxHeartbeats 4000000 in
theorem ct_X10_empty {l : Launch} {w : Wco} (rv : Nat) (hrv : isV w rv) (s0 : Sta) (qq : Unit) (ss : Sta) (hh : X10_empty rv s0 = some (qq, ss)) : Ct l w yX10_empty (Cond.code yX10_empty cX10_empty 1 none :: GT) { frames := 1, cells := 0, slots := 0, locals := 23 } [.ref (wad w rv)] s0 (oV qq) ss := by
  refine ct_of [(0, .ref (wad w rv))] (by decide +kernel) (Nat.le_of_ble_eq_true rfl) rfl hh (fun M _ C => ?_)
  unfold X10_empty
  refine sm_aload_n C 0 dX10_empty_0 rfl ?_
  refine sm_getR C (ci := 10) (R := RX10) (T := TX10) (N := 13) (j := 0) (V_O hrv).2 (V_O hrv).1 rfl gX10 (by decide) kw_110 dX10_empty_1 (fun _ _ => rfl) ?_
  refine sm_iconst C (-1 : Int32) dX10_empty_4 ic_m1 ?_
  refine r_callSU C [.ref (wad w (rv + 1)), .int (-1 : Int32)] (fun qq ss hh => ct_J7_fill_53178 8 (rv + 1) (V_sorts hrv) (-1 : Int32) s0 qq ss hh) kw_107 kw_108 kw_54 kw_109 dX10_empty_5 rfl dd_J7_fill_53178 ⟨rfl, rfl⟩ ⟨by decide, by decide⟩ (Nat.le_of_ble_eq_true rfl) _ rfl (fun q1 s2 => ?_)
  refine sm_aload_n C 0 dX10_empty_8 rfl ?_
  refine sm_getR C (ci := 10) (R := RX10) (T := TX10) (N := 13) (j := 1) (V_O hrv).2 (V_O hrv).1 rfl gX10 (by decide) kw_114 dX10_empty_9 (fun _ _ => rfl) ?_
  refine sm_iconst C (0 : Int32) dX10_empty_12 ic_0 ?_
  refine r_callSU C [.ref (wad w (rv + 2)), .int (0 : Int32)] (fun qq ss hh => ct_J7_fill_53178 8 (rv + 2) (V_worths hrv) (0 : Int32) s2 qq ss hh) kw_107 kw_108 kw_54 kw_109 dX10_empty_13 rfl dd_J7_fill_53178 ⟨rfl, rfl⟩ ⟨by decide, by decide⟩ (Nat.le_of_ble_eq_true rfl) _ rfl (fun q3 s4 => ?_)
  refine sm_aload_n C 0 dX10_empty_16 rfl ?_
  refine sm_iconst C (0 : Int32) dX10_empty_17 ic_0 ?_
  refine sm_putI C (ci := 10) (R := RX10) (T := TX10) (N := 13) (j := 10) (V_O hrv).2 (V_O hrv).1 rfl gX10 tyX10 tyX10_ok nmX10 (by decide) kw_138 rfl (by decide +kernel) dX10_empty_18 (fun _ _ => Nat.le_of_ble_eq_true rfl) (set_fsV_10 w rv) (fun s5 => ?_)
  refine sm_aload_n C 0 dX10_empty_21 rfl ?_
  refine sm_iconst C (0 : Int32) dX10_empty_22 ic_0 ?_
  refine sm_putI C (ci := 10) (R := RX10) (T := TX10) (N := 13) (j := 11) (V_O hrv).2 (V_O hrv).1 rfl gX10 tyX10 tyX10_ok nmX10 (by decide) kw_142 rfl (by decide +kernel) dX10_empty_23 (fun _ _ => Nat.le_of_ble_eq_true rfl) (set_fsV_11 w rv) (fun s6 => ?_)
  refine sm_aload_n C 0 dX10_empty_26 rfl ?_
  refine sm_iconst C (0 : Int32) dX10_empty_27 ic_0 ?_
  refine sm_putI C (ci := 10) (R := RX10) (T := TX10) (N := 13) (j := 12) (V_O hrv).2 (V_O hrv).1 rfl gX10 tyX10 tyX10_ok nmX10 (by decide) kw_146 rfl (by decide +kernel) dX10_empty_28 (fun _ _ => Nat.le_of_ble_eq_true rfl) (set_fsV_12 w rv) (fun s7 => ?_)
  refine sm_aload_n C 0 dX10_empty_31 rfl ?_
  refine sm_getR C (ci := 10) (R := RX10) (T := TX10) (N := 13) (j := 8) (V_O hrv).2 (V_O hrv).1 rfl gX10 (by decide) kw_132 dX10_empty_32 (fun _ _ => rfl) ?_
  refine sm_iconst C (0 : Int32) dX10_empty_35 ic_0 ?_
  refine sm_putIN C (ci := 9) (R := RX9) (T := TX9) (N := 2) (j := 1) (T_O (V_notes hrv)).2 (T_O (V_notes hrv)).1 rfl gX9 tyX9 tyX9_ok nmX9 (by decide) nf_0 rfl (by decide +kernel) dX10_empty_36 (fun _ _ => Nat.le_of_ble_eq_true rfl) (set_fsT_1 w (rv + 9)) (fun s8 => ?_)
  refine sm_aload_n C 0 dX10_empty_39 rfl ?_
  refine sm_getR C (ci := 10) (R := RX10) (T := TX10) (N := 13) (j := 9) (V_O hrv).2 (V_O hrv).1 rfl gX10 (by decide) kw_134 dX10_empty_40 (fun _ _ => rfl) ?_
  refine sm_iconst C (0 : Int32) dX10_empty_43 ic_0 ?_
  refine sm_putIN C (ci := 9) (R := RX9) (T := TX9) (N := 2) (j := 1) (T_O (V_beatings hrv)).2 (T_O (V_beatings hrv)).1 rfl gX9 tyX9 tyX9_ok nmX9 (by decide) nf_0 rfl (by decide +kernel) dX10_empty_44 (fun _ _ => Nat.le_of_ble_eq_true rfl) (set_fsT_1 w (rv + 11)) (fun s9 => ?_)
  exact sm_vret C dX10_empty_47
theorem dd_X10_take : yX10_take.cls = RX10 ∧ yX10_take.cls ≠ "java/lang/invoke/MethodHandle" ∧ yX10_take.cls ≠ "java/lang/invoke/VarHandle" ∧ (parseMethodDescriptor yX10_take.desc).map (fun d => d.parameters.length) = some 1 := by decide +kernel
set_option maxRecDepth 100000 in
set_option maxHeartbeats 4000000 in
theorem ct_X10_take {l : Launch} {w : Wco} (rv : Nat) (rv2 : Nat) (hrv : isV w rv) (hrv2 : isV w rv2) (s0 : Sta) (qq : Unit) (ss : Sta) (hh : X10_take rv rv2 s0 = some (qq, ss)) : Ct l w yX10_take (Cond.code yX10_take cX10_take 2 none :: GT) { frames := 2, cells := 0, slots := 0, locals := 61 } [.ref (wad w rv), .ref (wad w rv2)] s0 (oV qq) ss := by
  refine ct_of [(0, .ref (wad w rv)), (1, .ref (wad w rv2))] (by decide +kernel) (Nat.le_of_ble_eq_true rfl) rfl hh (fun M _ C => ?_)
  unfold X10_take
  refine sm_aload_n C 0 dX10_take_0 rfl ?_
  refine sm_aload_n C 1 dX10_take_1 rfl ?_
  refine r_callVU C (R := RX10) (T := TX10) (N := 13) [.ref (wad w rv2)] (V_O hrv) rfl (fun qq ss hh => ct_X10_takeCourse rv rv2 hrv hrv2 s0 qq ss hh) kw_485 kw_486 kw_487 kw_52 kw_488 dX10_take_2 rfl dd_X10_takeCourse ⟨rfl, rfl⟩ ⟨by decide, by decide⟩ (Nat.le_of_ble_eq_true rfl) _ rfl (fun q1 s2 => ?_)
  refine sm_aload_n C 1 dX10_take_5 rfl ?_
  refine sm_getR C (ci := 10) (R := RX10) (T := TX10) (N := 13) (j := 6) (V_O hrv2).2 (V_O hrv2).1 rfl gX10 (by decide) kw_130 dX10_take_6 (fun _ _ => rfl) ?_
  refine sm_iconst C (0 : Int32) dX10_take_9 ic_0 ?_
  refine sm_aload_n C 0 dX10_take_10 rfl ?_
  refine sm_getR C (ci := 10) (R := RX10) (T := TX10) (N := 13) (j := 6) (V_O hrv).2 (V_O hrv).1 rfl gX10 (by decide) kw_130 dX10_take_11 (fun _ _ => rfl) ?_
  refine sm_iconst C (0 : Int32) dX10_take_14 ic_0 ?_
  refine sm_bipush C (8 : Int32) dX10_take_15 bp_8 ?_
  refine r_copy C 8 (V_firstOf hrv2) (V_firstOf hrv) kw_489 (by decide) (by decide) (by decide) (by decide) (by decide) (by decide +kernel) dX10_take_17 (fun s3 => ?_)
  refine sm_aload_n C 1 dX10_take_20 rfl ?_
  refine sm_getR C (ci := 10) (R := RX10) (T := TX10) (N := 13) (j := 7) (V_O hrv2).2 (V_O hrv2).1 rfl gX10 (by decide) kw_131 dX10_take_21 (fun _ _ => rfl) ?_
  refine sm_iconst C (0 : Int32) dX10_take_24 ic_0 ?_
  refine sm_aload_n C 0 dX10_take_25 rfl ?_
  refine sm_getR C (ci := 10) (R := RX10) (T := TX10) (N := 13) (j := 7) (V_O hrv).2 (V_O hrv).1 rfl gX10 (by decide) kw_131 dX10_take_26 (fun _ _ => rfl) ?_
  refine sm_iconst C (0 : Int32) dX10_take_29 ic_0 ?_
  refine sm_bipush C (8 : Int32) dX10_take_30 bp_8 ?_
  refine r_copy C 8 (V_secondOf hrv2) (V_secondOf hrv) kw_489 (by decide) (by decide) (by decide) (by decide) (by decide) (by decide +kernel) dX10_take_32 (fun s4 => ?_)
  refine sm_aload_n C 0 dX10_take_35 rfl ?_
  refine sm_getR C (ci := 10) (R := RX10) (T := TX10) (N := 13) (j := 8) (V_O hrv).2 (V_O hrv).1 rfl gX10 (by decide) kw_132 dX10_take_36 (fun _ _ => rfl) ?_
  refine sm_aload_n C 1 dX10_take_39 rfl ?_
  refine sm_getR C (ci := 10) (R := RX10) (T := TX10) (N := 13) (j := 8) (V_O hrv2).2 (V_O hrv2).1 rfl gX10 (by decide) kw_132 dX10_take_40 (fun _ _ => rfl) ?_
  refine r_callVU C (R := RX9) (T := TX9) (N := 2) [.ref (wad w (rv2 + 9))] (T_O (V_notes hrv)) rfl (fun qq ss hh => ct_X9_takeRows (rv + 9) (rv2 + 9) (V_notes hrv) (V_notes hrv2) s4 qq ss hh) kw_492 kw_493 kw_494 kw_53 kw_495 dX10_take_43 rfl dd_X9_takeRows ⟨rfl, rfl⟩ ⟨by decide, by decide⟩ (Nat.le_of_ble_eq_true rfl) _ rfl (fun q5 s6 => ?_)
  refine sm_aload_n C 0 dX10_take_46 rfl ?_
  refine sm_getR C (ci := 10) (R := RX10) (T := TX10) (N := 13) (j := 9) (V_O hrv).2 (V_O hrv).1 rfl gX10 (by decide) kw_134 dX10_take_47 (fun _ _ => rfl) ?_
  refine sm_aload_n C 1 dX10_take_50 rfl ?_
  refine sm_getR C (ci := 10) (R := RX10) (T := TX10) (N := 13) (j := 9) (V_O hrv2).2 (V_O hrv2).1 rfl gX10 (by decide) kw_134 dX10_take_51 (fun _ _ => rfl) ?_
  refine r_callVU C (R := RX9) (T := TX9) (N := 2) [.ref (wad w (rv2 + 11))] (T_O (V_beatings hrv)) rfl (fun qq ss hh => ct_X9_takeRows (rv + 11) (rv2 + 11) (V_beatings hrv) (V_beatings hrv2) s6 qq ss hh) kw_492 kw_493 kw_494 kw_53 kw_495 dX10_take_54 rfl dd_X9_takeRows ⟨rfl, rfl⟩ ⟨by decide, by decide⟩ (Nat.le_of_ble_eq_true rfl) _ rfl (fun q7 s8 => ?_)
  exact sm_vret C dX10_take_57
theorem dd_X10_takeBack : yX10_takeBack.cls = RX10 ∧ yX10_takeBack.cls ≠ "java/lang/invoke/MethodHandle" ∧ yX10_takeBack.cls ≠ "java/lang/invoke/VarHandle" ∧ (parseMethodDescriptor yX10_takeBack.desc).map (fun d => d.parameters.length) = some 0 := by decide +kernel
set_option maxRecDepth 100000 in
set_option maxHeartbeats 4000000 in
theorem sl_X10_takeBack_L95 {M : Mco} {w : Wco} (C : Cx M w cX10_takeBack 3 yX10_takeBack.cls (Cond.code yX10_takeBack cX10_takeBack 3 none) none { frames := 1, cells := 0, slots := 0, locals := 22 }) {rv : Nat} (hrv : isV w rv) : ∀ (y2 : Int32) (s0 : Sta), Sm M w 3 oV 95 [(0, .ref (wad w rv)), (2, .int y2)] [] s0 (X10_takeBack_L95 rv y2 s0) := by
  intro y2 s0
  unfold X10_takeBack_L95
  refine sm_iload_n C 1 dX10_takeBack_95 rfl ?_
  refine sm_iconst C (0 : Int32) dX10_takeBack_96 ic_0 ?_
  refine sm_aload_n C 0 dX10_takeBack_97 rfl ?_
  refine sm_getI C (ci := 10) (R := RX10) (T := TX10) (N := 13) (j := 10) (V_O hrv).2 (V_O hrv).1 rfl gX10 (by decide) kw_138 dX10_takeBack_98 (fun _ _ => rfl) (fun v18 => ?_)
  refine sm_iconst C (1 : Int32) dX10_takeBack_101 ic_1 ?_
  refine sm_isub C dX10_takeBack_102 ?_
  refine r_callSNI C [.int y2, .int (0 : Int32), .int (v18 - (1 : Int32))] (fun qq ss hh => ct_X11_within y2 (0 : Int32) (v18 - (1 : Int32)) s0 qq ss hh) nm_15 kw_347 kw_51 kw_348 dX10_takeBack_103 rfl dd_X11_within ⟨rfl, rfl⟩ ⟨by decide, by decide⟩ (Nat.le_of_ble_eq_true rfl) _ rfl (fun q19 s20 => ?_)
  refine sm_if_eq C 119 dX10_takeBack_106 (by decide) ?_ ?_
  · exact sm_vret C dX10_takeBack_119
  · refine sm_aload_n C 0 dX10_takeBack_109 rfl ?_
    refine sm_getR C (ci := 10) (R := RX10) (T := TX10) (N := 13) (j := 5) (V_O hrv).2 (V_O hrv).1 rfl gX10 (by decide) kw_128 dX10_takeBack_110 (fun _ _ => rfl) ?_
    refine sm_iload_n C 1 dX10_takeBack_113 rfl ?_
    refine sm_dup2 C dX10_takeBack_114 rfl rfl ?_
    refine r_iald C (V_seconds hrv) dX10_takeBack_115 (fun v21 => ?_)
    refine sm_iconst C (1 : Int32) dX10_takeBack_116 ic_1 ?_
    refine sm_isub C dX10_takeBack_117 ?_
    refine r_iast C (V_seconds hrv) dX10_takeBack_118 (fun s22 => ?_)
    exact sm_vret C dX10_takeBack_119
set_option maxRecDepth 100000 in
set_option maxHeartbeats 4000000 in
theorem ct_X10_takeBack {l : Launch} {w : Wco} (rv : Nat) (hrv : isV w rv) (s0 : Sta) (qq : Unit) (ss : Sta) (hh : X10_takeBack rv s0 = some (qq, ss)) : Ct l w yX10_takeBack (Cond.code yX10_takeBack cX10_takeBack 3 none :: GT) { frames := 1, cells := 0, slots := 0, locals := 22 } [.ref (wad w rv)] s0 (oV qq) ss := by
  refine ct_of [(0, .ref (wad w rv))] (by decide +kernel) (Nat.le_of_ble_eq_true rfl) rfl hh (fun M _ C => ?_)
  unfold X10_takeBack
  refine sm_aload_n C 0 dX10_takeBack_0 rfl ?_
  refine sm_getI C (ci := 10) (R := RX10) (T := TX10) (N := 13) (j := 11) (V_O hrv).2 (V_O hrv).1 rfl gX10 (by decide) kw_142 dX10_takeBack_1 (fun _ _ => rfl) (fun v1 => ?_)
  refine sm_if_le C 23 dX10_takeBack_4 (by decide) ?_ ?_
  · exact sm_vret C dX10_takeBack_23
  · refine sm_aload_n C 0 dX10_takeBack_7 rfl ?_
    refine sm_getI C (ci := 10) (R := RX10) (T := TX10) (N := 13) (j := 11) (V_O hrv).2 (V_O hrv).1 rfl gX10 (by decide) kw_142 dX10_takeBack_8 (fun _ _ => rfl) (fun v2 => ?_)
    refine sm_bipush C (8 : Int32) dX10_takeBack_11 bp_8 ?_
    refine sm_icmp_gt C 23 dX10_takeBack_13 (by decide) ?_ ?_
    · exact sm_vret C dX10_takeBack_23
    · refine sm_aload_n C 0 dX10_takeBack_16 rfl ?_
      refine sm_getI C (ci := 10) (R := RX10) (T := TX10) (N := 13) (j := 12) (V_O hrv).2 (V_O hrv).1 rfl gX10 (by decide) kw_146 dX10_takeBack_17 (fun _ _ => rfl) (fun v3 => ?_)
      refine sm_if_gt C 24 dX10_takeBack_20 (by decide) ?_ ?_
      · refine sm_aload_n C 0 dX10_takeBack_24 rfl ?_
        refine sm_dup C dX10_takeBack_25 rfl ?_
        refine sm_getI C (ci := 10) (R := RX10) (T := TX10) (N := 13) (j := 11) (V_O hrv).2 (V_O hrv).1 rfl gX10 (by decide) kw_142 dX10_takeBack_26 (fun _ _ => rfl) (fun v4 => ?_)
        refine sm_iconst C (1 : Int32) dX10_takeBack_29 ic_1 ?_
        refine sm_isub C dX10_takeBack_30 ?_
        refine sm_putI C (ci := 10) (R := RX10) (T := TX10) (N := 13) (j := 11) (V_O hrv).2 (V_O hrv).1 rfl gX10 tyX10 tyX10_ok nmX10 (by decide) kw_142 rfl (by decide +kernel) dX10_takeBack_31 (fun _ _ => Nat.le_of_ble_eq_true rfl) (set_fsV_11 w rv) (fun s5 => ?_)
        refine sm_aload_n C 0 dX10_takeBack_34 rfl ?_
        refine sm_dup C dX10_takeBack_35 rfl ?_
        refine sm_getI C (ci := 10) (R := RX10) (T := TX10) (N := 13) (j := 12) (V_O hrv).2 (V_O hrv).1 rfl gX10 (by decide) kw_146 dX10_takeBack_36 (fun _ _ => rfl) (fun v6 => ?_)
        refine sm_iconst C (1 : Int32) dX10_takeBack_39 ic_1 ?_
        refine sm_isub C dX10_takeBack_40 ?_
        refine sm_putI C (ci := 10) (R := RX10) (T := TX10) (N := 13) (j := 12) (V_O hrv).2 (V_O hrv).1 rfl gX10 tyX10 tyX10_ok nmX10 (by decide) kw_146 rfl (by decide +kernel) dX10_takeBack_41 (fun _ _ => Nat.le_of_ble_eq_true rfl) (set_fsV_12 w rv) (fun s7 => ?_)
        refine sm_aload_n C 0 dX10_takeBack_44 rfl ?_
        refine sm_getR C (ci := 10) (R := RX10) (T := TX10) (N := 13) (j := 6) (V_O hrv).2 (V_O hrv).1 rfl gX10 (by decide) kw_130 dX10_takeBack_45 (fun _ _ => rfl) ?_
        refine sm_aload_n C 0 dX10_takeBack_48 rfl ?_
        refine sm_getI C (ci := 10) (R := RX10) (T := TX10) (N := 13) (j := 11) (V_O hrv).2 (V_O hrv).1 rfl gX10 (by decide) kw_142 dX10_takeBack_49 (fun _ _ => rfl) (fun v8 => ?_)
        refine r_iald C (V_firstOf hrv) dX10_takeBack_52 (fun v9 => ?_)
        refine sm_istore_n C [(1, .int v9), (0, .ref (wad w rv))] dX10_takeBack_53 (by decide) rfl ?_
        refine sm_aload_n C 1 dX10_takeBack_54 rfl ?_
        refine sm_getR C (ci := 10) (R := RX10) (T := TX10) (N := 13) (j := 7) (V_O hrv).2 (V_O hrv).1 rfl gX10 (by decide) kw_131 dX10_takeBack_55 (fun _ _ => rfl) ?_
        refine sm_aload_n C 1 dX10_takeBack_58 rfl ?_
        refine sm_getI C (ci := 10) (R := RX10) (T := TX10) (N := 13) (j := 11) (V_O hrv).2 (V_O hrv).1 rfl gX10 (by decide) kw_142 dX10_takeBack_59 (fun _ _ => rfl) (fun v10 => ?_)
        refine r_iald C (V_secondOf hrv) dX10_takeBack_62 (fun v11 => ?_)
        refine sm_istore_n C [(2, .int v11), (1, .int v9), (0, .ref (wad w rv))] dX10_takeBack_63 (by decide) rfl ?_
        refine sm_iload_n C 1 dX10_takeBack_64 rfl ?_
        refine sm_iconst C (0 : Int32) dX10_takeBack_65 ic_0 ?_
        refine sm_aload_n C 2 dX10_takeBack_66 rfl ?_
        refine sm_getI C (ci := 10) (R := RX10) (T := TX10) (N := 13) (j := 10) (V_O hrv).2 (V_O hrv).1 rfl gX10 (by decide) kw_138 dX10_takeBack_67 (fun _ _ => rfl) (fun v12 => ?_)
        refine sm_iconst C (1 : Int32) dX10_takeBack_70 ic_1 ?_
        refine sm_isub C dX10_takeBack_71 ?_
        refine r_callSNI C [.int v9, .int (0 : Int32), .int (v12 - (1 : Int32))] (fun qq ss hh => ct_X11_within v9 (0 : Int32) (v12 - (1 : Int32)) s7 qq ss hh) nm_15 kw_347 kw_51 kw_348 dX10_takeBack_72 rfl dd_X11_within ⟨rfl, rfl⟩ ⟨by decide, by decide⟩ (Nat.le_of_ble_eq_true rfl) _ rfl (fun q13 s14 => ?_)
        refine sm_if_eq C 95 dX10_takeBack_75 (by decide) ?_ ?_
        · exact sm_sub [2, 0] rfl (sl_X10_takeBack_L95 C hrv v11 s14)
        · refine sm_aload_n C 2 dX10_takeBack_78 rfl ?_
          refine sm_getR C (ci := 10) (R := RX10) (T := TX10) (N := 13) (j := 4) (V_O hrv).2 (V_O hrv).1 rfl gX10 (by decide) kw_124 dX10_takeBack_79 (fun _ _ => rfl) ?_
          refine sm_iload_n C 1 dX10_takeBack_82 rfl ?_
          refine sm_dup2 C dX10_takeBack_83 rfl rfl ?_
          refine r_iald C (V_wins hrv) dX10_takeBack_84 (fun v15 => ?_)
          refine sm_iconst C (1 : Int32) dX10_takeBack_85 ic_1 ?_
          refine sm_aload_n C 2 dX10_takeBack_86 rfl ?_
          refine sm_getI C (ci := 10) (R := RX10) (T := TX10) (N := 13) (j := 11) (V_O hrv).2 (V_O hrv).1 rfl gX10 (by decide) kw_142 dX10_takeBack_87 (fun _ _ => rfl) (fun v16 => ?_)
          refine sm_ishl C dX10_takeBack_90 ?_
          refine sm_iconst C (-1 : Int32) dX10_takeBack_91 ic_m1 ?_
          refine sm_ixor C dX10_takeBack_92 ?_
          refine sm_iand C dX10_takeBack_93 ?_
          refine r_iast C (V_wins hrv) dX10_takeBack_94 (fun s17 => ?_)
          exact sm_sub [2, 0] rfl (sl_X10_takeBack_L95 C hrv v11 s17)
      · exact sm_vret C dX10_takeBack_23
theorem dd_X10_prizesTold : yX10_prizesTold.cls = RX10 ∧ yX10_prizesTold.cls ≠ "java/lang/invoke/MethodHandle" ∧ yX10_prizesTold.cls ≠ "java/lang/invoke/VarHandle" ∧ (parseMethodDescriptor yX10_prizesTold.desc).map (fun d => d.parameters.length) = some 0 := by decide +kernel
set_option maxRecDepth 100000 in
set_option maxHeartbeats 4000000 in
theorem sl_X10_prizesTold_L4 {M : Mco} {w : Wco} (C : Cx M w cX10_prizesTold 3 yX10_prizesTold.cls (Cond.code yX10_prizesTold cX10_prizesTold 3 (some .int)) (some .int) { frames := 0, cells := 0, slots := 0, locals := 0 }) {rv : Nat} (hrv : isV w rv) : ∀ (n : Nat) (y1 : Int32) (y2 : Int32) (s0 : Sta), Sm M w 3 oI 4 [(0, .ref (wad w rv)), (1, .int y1), (2, .int y2)] [] s0 (X10_prizesTold_L4 rv n y1 y2 s0) := by
  intro n
  induction n with
  | zero => intros; exact sm_none
  | succ n ih =>
    intro y1 y2 s0
    rw [X10_prizesTold_L4.eq_2]
    refine sm_iload_n C 2 dX10_prizesTold_4 rfl ?_
    refine sm_bipush C (8 : Int32) dX10_prizesTold_5 bp_8 ?_
    refine sm_icmp_ge C 29 dX10_prizesTold_7 (by decide) ?_ ?_
    · refine sm_iload_n C 1 dX10_prizesTold_29 rfl ?_
      exact sm_iret C dX10_prizesTold_30
    · refine sm_aload_n C 0 dX10_prizesTold_10 rfl ?_
      refine sm_getR C (ci := 10) (R := RX10) (T := TX10) (N := 13) (j := 0) (V_O hrv).2 (V_O hrv).1 rfl gX10 (by decide) kw_110 dX10_prizesTold_11 (fun _ _ => rfl) ?_
      refine sm_iload_n C 2 dX10_prizesTold_14 rfl ?_
      refine r_iald C (V_sorts hrv) dX10_prizesTold_15 (fun v1 => ?_)
      refine sm_iconst C (-1 : Int32) dX10_prizesTold_16 ic_m1 ?_
      refine sm_icmp_eq C 23 dX10_prizesTold_17 (by decide) ?_ ?_
      · refine sm_iinc C 2 (y2 + (1 : Int32)) [(2, .int (y2 + (1 : Int32))), (0, .ref (wad w rv)), (1, .int y1)] dX10_prizesTold_23 rfl (ii_1 _) (by decide) rfl ?_
        refine sm_goto C 4 dX10_prizesTold_26 (by decide) ?_
        exact sm_sub [1, 2, 0] rfl (ih y1 (y2 + (1 : Int32)) s0)
      · refine sm_iinc C 1 (y1 + (1 : Int32)) [(1, .int (y1 + (1 : Int32))), (0, .ref (wad w rv)), (2, .int y2)] dX10_prizesTold_20 rfl (ii_1 _) (by decide) rfl ?_
        refine sm_iinc C 2 (y2 + (1 : Int32)) [(2, .int (y2 + (1 : Int32))), (1, .int (y1 + (1 : Int32))), (0, .ref (wad w rv))] dX10_prizesTold_23 rfl (ii_1 _) (by decide) rfl ?_
        refine sm_goto C 4 dX10_prizesTold_26 (by decide) ?_
        exact sm_sub [2, 1, 0] rfl (ih (y1 + (1 : Int32)) (y2 + (1 : Int32)) s0)
set_option maxRecDepth 100000 in
set_option maxHeartbeats 4000000 in
theorem ct_X10_prizesTold {l : Launch} {w : Wco} (rv : Nat) (hrv : isV w rv) (s0 : Sta) (qq : Int32) (ss : Sta) (hh : X10_prizesTold rv s0 = some (qq, ss)) : Ct l w yX10_prizesTold (Cond.code yX10_prizesTold cX10_prizesTold 3 (some .int) :: GT) { frames := 0, cells := 0, slots := 0, locals := 0 } [.ref (wad w rv)] s0 (oI qq) ss := by
  refine ct_of [(0, .ref (wad w rv))] (by decide +kernel) (Nat.le_of_ble_eq_true rfl) rfl hh (fun M _ C => ?_)
  unfold X10_prizesTold
  refine sm_iconst C (0 : Int32) dX10_prizesTold_0 ic_0 ?_
  refine sm_istore_n C [(1, .int (0 : Int32)), (0, .ref (wad w rv))] dX10_prizesTold_1 (by decide) rfl ?_
  refine sm_iconst C (0 : Int32) dX10_prizesTold_2 ic_0 ?_
  refine sm_istore_n C [(2, .int (0 : Int32)), (1, .int (0 : Int32)), (0, .ref (wad w rv))] dX10_prizesTold_3 (by decide) rfl ?_
  exact sm_sub [2, 1, 0] rfl (sl_X10_prizesTold_L4 C hrv FU (0 : Int32) (0 : Int32) s0)
theorem dd_X10_winsOfAll : yX10_winsOfAll.cls = RX10 ∧ yX10_winsOfAll.cls ≠ "java/lang/invoke/MethodHandle" ∧ yX10_winsOfAll.cls ≠ "java/lang/invoke/VarHandle" ∧ (parseMethodDescriptor yX10_winsOfAll.desc).map (fun d => d.parameters.length) = some 0 := by decide +kernel
set_option maxRecDepth 100000 in
set_option maxHeartbeats 4000000 in
theorem sl_X10_winsOfAll_L4 {M : Mco} {w : Wco} (C : Cx M w cX10_winsOfAll 3 yX10_winsOfAll.cls (Cond.code yX10_winsOfAll cX10_winsOfAll 3 (some .int)) (some .int) { frames := 1, cells := 0, slots := 0, locals := 20 }) {rv : Nat} (hrv : isV w rv) : ∀ (n : Nat) (y1 : Int32) (y2 : Int32) (s0 : Sta), Sm M w 3 oI 4 [(0, .ref (wad w rv)), (1, .int y1), (2, .int y2)] [] s0 (X10_winsOfAll_L4 rv n y1 y2 s0) := by
  intro n
  induction n with
  | zero => intros; exact sm_none
  | succ n ih =>
    intro y1 y2 s0
    rw [X10_winsOfAll_L4.eq_2]
    refine sm_iload_n C 2 dX10_winsOfAll_4 rfl ?_
    refine sm_aload_n C 0 dX10_winsOfAll_5 rfl ?_
    refine sm_getI C (ci := 10) (R := RX10) (T := TX10) (N := 13) (j := 10) (V_O hrv).2 (V_O hrv).1 rfl gX10 (by decide) kw_138 dX10_winsOfAll_6 (fun _ _ => rfl) (fun v1 => ?_)
    refine sm_icmp_ge C 30 dX10_winsOfAll_9 (by decide) ?_ ?_
    · refine sm_iload_n C 1 dX10_winsOfAll_30 rfl ?_
      exact sm_iret C dX10_winsOfAll_31
    · refine sm_iload_n C 1 dX10_winsOfAll_12 rfl ?_
      refine sm_aload_n C 0 dX10_winsOfAll_13 rfl ?_
      refine sm_getR C (ci := 10) (R := RX10) (T := TX10) (N := 13) (j := 4) (V_O hrv).2 (V_O hrv).1 rfl gX10 (by decide) kw_124 dX10_winsOfAll_14 (fun _ _ => rfl) ?_
      refine sm_iload_n C 2 dX10_winsOfAll_17 rfl ?_
      refine r_iald C (V_wins hrv) dX10_winsOfAll_18 (fun v2 => ?_)
      refine r_callSI C [.int v2] (fun qq ss hh => ct_J6_bitCount_0f7a4 v2 s0 qq ss hh) kw_838 kw_521 kw_70 kw_522 dX10_winsOfAll_19 rfl dd_J6_bitCount_0f7a4 ⟨rfl, rfl⟩ ⟨by decide, by decide⟩ (Nat.le_of_ble_eq_true rfl) _ rfl (fun q3 s4 => ?_)
      refine sm_iadd C dX10_winsOfAll_22 ?_
      refine sm_istore_n C [(1, .int (y1 + q3)), (0, .ref (wad w rv)), (2, .int y2)] dX10_winsOfAll_23 (by decide) rfl ?_
      refine sm_iinc C 2 (y2 + (1 : Int32)) [(2, .int (y2 + (1 : Int32))), (1, .int (y1 + q3)), (0, .ref (wad w rv))] dX10_winsOfAll_24 rfl (ii_1 _) (by decide) rfl ?_
      refine sm_goto C 4 dX10_winsOfAll_27 (by decide) ?_
      exact sm_sub [2, 1, 0] rfl (ih (y1 + q3) (y2 + (1 : Int32)) s4)
set_option maxRecDepth 100000 in
set_option maxHeartbeats 4000000 in
theorem ct_X10_winsOfAll {l : Launch} {w : Wco} (rv : Nat) (hrv : isV w rv) (s0 : Sta) (qq : Int32) (ss : Sta) (hh : X10_winsOfAll rv s0 = some (qq, ss)) : Ct l w yX10_winsOfAll (Cond.code yX10_winsOfAll cX10_winsOfAll 3 (some .int) :: GT) { frames := 1, cells := 0, slots := 0, locals := 20 } [.ref (wad w rv)] s0 (oI qq) ss := by
  refine ct_of [(0, .ref (wad w rv))] (by decide +kernel) (Nat.le_of_ble_eq_true rfl) rfl hh (fun M _ C => ?_)
  unfold X10_winsOfAll
  refine sm_iconst C (0 : Int32) dX10_winsOfAll_0 ic_0 ?_
  refine sm_istore_n C [(1, .int (0 : Int32)), (0, .ref (wad w rv))] dX10_winsOfAll_1 (by decide) rfl ?_
  refine sm_iconst C (0 : Int32) dX10_winsOfAll_2 ic_0 ?_
  refine sm_istore_n C [(2, .int (0 : Int32)), (1, .int (0 : Int32)), (0, .ref (wad w rv))] dX10_winsOfAll_3 (by decide) rfl ?_
  exact sm_sub [2, 1, 0] rfl (sl_X10_winsOfAll_L4 C hrv FU (0 : Int32) (0 : Int32) s0)
theorem dd_X10_mixedInto : yX10_mixedInto.cls = RX10 ∧ yX10_mixedInto.cls ≠ "java/lang/invoke/MethodHandle" ∧ yX10_mixedInto.cls ≠ "java/lang/invoke/VarHandle" ∧ (parseMethodDescriptor yX10_mixedInto.desc).map (fun d => d.parameters.length) = some 1 := by decide +kernel
set_option maxRecDepth 100000 in
set_option maxHeartbeats 4000000 in
theorem sl_X10_mixedInto_L69 {M : Mco} {w : Wco} (C : Cx M w cX10_mixedInto 5 yX10_mixedInto.cls (Cond.code yX10_mixedInto cX10_mixedInto 5 (some .long)) (some .long) { frames := 1, cells := 0, slots := 0, locals := 23 }) {rv : Nat} (hrv : isV w rv) {k44 : Int64 → Int32 → Sta → Option (Int64 × Sta)} (H44 : ∀ (y1 : Int64) (y3 : Int32) (s0 : Sta), Sm M w 5 oL 44 [(0, .ref (wad w rv)), (1, .long y1), (3, .int y3)] [] s0 (k44 y1 y3 s0)) : ∀ (n : Nat) (y1 : Int64) (y3 : Int32) (y4 : Int32) (s0 : Sta), Sm M w 5 oL 69 [(0, .ref (wad w rv)), (1, .long y1), (3, .int y3), (4, .int y4)] [] s0 (X10_mixedInto_L69 rv k44 n y1 y3 y4 s0) := by
  intro n
  induction n with
  | zero => intros; exact sm_none
  | succ n ih =>
    intro y1 y3 y4 s0
    rw [X10_mixedInto_L69.eq_2]
    refine sm_iload C 3 dX10_mixedInto_69 rfl ?_
    refine sm_iconst C (3 : Int32) dX10_mixedInto_71 ic_3 ?_
    refine sm_icmp_ge C 100 dX10_mixedInto_72 (by decide) ?_ ?_
    · refine sm_ldc2 C kw_849 dX10_mixedInto_100 ?_
      refine sm_lload_n C 1 dX10_mixedInto_103 rfl ?_
      refine sm_lmul C dX10_mixedInto_104 ?_
      refine sm_aload_n C 0 dX10_mixedInto_105 rfl ?_
      refine sm_getR C (ci := 10) (R := RX10) (T := TX10) (N := 13) (j := 4) (V_O hrv).2 (V_O hrv).1 rfl gX10 (by decide) kw_124 dX10_mixedInto_106 (fun _ _ => rfl) ?_
      refine sm_iload_n C 2 dX10_mixedInto_109 rfl ?_
      refine r_iald C (V_wins hrv) dX10_mixedInto_110 (fun v9 => ?_)
      refine sm_i2l C dX10_mixedInto_111 ?_
      refine sm_ladd C dX10_mixedInto_112 ?_
      refine sm_lstore_n C [(1, .long (((31 : Int64) * y1) + v9.toInt64)), (0, .ref (wad w rv)), (3, .int y3), (4, .int y4)] dX10_mixedInto_113 (by decide) rfl ?_
      refine sm_ldc2 C kw_849 dX10_mixedInto_114 ?_
      refine sm_lload_n C 0 dX10_mixedInto_117 rfl ?_
      refine sm_lmul C dX10_mixedInto_118 ?_
      refine sm_aload_n C 1 dX10_mixedInto_119 rfl ?_
      refine sm_getR C (ci := 10) (R := RX10) (T := TX10) (N := 13) (j := 5) (V_O hrv).2 (V_O hrv).1 rfl gX10 (by decide) kw_128 dX10_mixedInto_120 (fun _ _ => rfl) ?_
      refine sm_iload_n C 2 dX10_mixedInto_123 rfl ?_
      refine r_iald C (V_seconds hrv) dX10_mixedInto_124 (fun v10 => ?_)
      refine sm_i2l C dX10_mixedInto_125 ?_
      refine sm_ladd C dX10_mixedInto_126 ?_
      refine sm_lstore_n C [(1, .long (((31 : Int64) * (((31 : Int64) * y1) + v9.toInt64)) + v10.toInt64)), (0, .ref (wad w rv)), (3, .int y3), (4, .int y4)] dX10_mixedInto_127 (by decide) rfl ?_
      refine sm_iinc C 2 (y3 + (1 : Int32)) [(3, .int (y3 + (1 : Int32))), (1, .long (((31 : Int64) * (((31 : Int64) * y1) + v9.toInt64)) + v10.toInt64)), (0, .ref (wad w rv)), (4, .int y4)] dX10_mixedInto_128 rfl (ii_1 _) (by decide) rfl ?_
      refine sm_goto C 44 dX10_mixedInto_131 (by decide) ?_
      exact sm_sub [2, 1, 0] rfl (H44 (((31 : Int64) * (((31 : Int64) * y1) + v9.toInt64)) + v10.toInt64) (y3 + (1 : Int32)) s0)
    · refine sm_ldc2 C kw_849 dX10_mixedInto_75 ?_
      refine sm_lload_n C 1 dX10_mixedInto_78 rfl ?_
      refine sm_lmul C dX10_mixedInto_79 ?_
      refine sm_aload_n C 0 dX10_mixedInto_80 rfl ?_
      refine sm_getR C (ci := 10) (R := RX10) (T := TX10) (N := 13) (j := 3) (V_O hrv).2 (V_O hrv).1 rfl gX10 (by decide) kw_121 dX10_mixedInto_81 (fun _ _ => rfl) ?_
      refine sm_iload_n C 2 dX10_mixedInto_84 rfl ?_
      refine sm_iconst C (3 : Int32) dX10_mixedInto_85 ic_3 ?_
      refine sm_imul C dX10_mixedInto_86 ?_
      refine sm_iload C 3 dX10_mixedInto_87 rfl ?_
      refine sm_iadd C dX10_mixedInto_89 ?_
      refine r_iald C (V_arts hrv) dX10_mixedInto_90 (fun v11 => ?_)
      refine sm_i2l C dX10_mixedInto_91 ?_
      refine sm_ladd C dX10_mixedInto_92 ?_
      refine sm_lstore_n C [(1, .long (((31 : Int64) * y1) + v11.toInt64)), (0, .ref (wad w rv)), (3, .int y3), (4, .int y4)] dX10_mixedInto_93 (by decide) rfl ?_
      refine sm_iinc C 3 (y4 + (1 : Int32)) [(4, .int (y4 + (1 : Int32))), (1, .long (((31 : Int64) * y1) + v11.toInt64)), (0, .ref (wad w rv)), (3, .int y3)] dX10_mixedInto_94 rfl (ii_1 _) (by decide) rfl ?_
      refine sm_goto C 69 dX10_mixedInto_97 (by decide) ?_
      exact sm_sub [2, 1, 3, 0] rfl (ih (((31 : Int64) * y1) + v11.toInt64) y3 (y4 + (1 : Int32)) s0)
set_option maxRecDepth 100000 in
set_option maxHeartbeats 4000000 in
theorem sl_X10_mixedInto_L44 {M : Mco} {w : Wco} (C : Cx M w cX10_mixedInto 5 yX10_mixedInto.cls (Cond.code yX10_mixedInto cX10_mixedInto 5 (some .long)) (some .long) { frames := 1, cells := 0, slots := 0, locals := 23 }) {rv : Nat} (hrv : isV w rv) : ∀ (n : Nat) (y1 : Int64) (y3 : Int32) (s0 : Sta), Sm M w 5 oL 44 [(0, .ref (wad w rv)), (1, .long y1), (3, .int y3)] [] s0 (X10_mixedInto_L44 rv n y1 y3 s0) := by
  intro n
  induction n with
  | zero => intros; exact sm_none
  | succ n ih =>
    intro y1 y3 s0
    rw [X10_mixedInto_L44.eq_2]
    refine sm_iload_n C 2 dX10_mixedInto_44 rfl ?_
    refine sm_aload_n C 0 dX10_mixedInto_45 rfl ?_
    refine sm_getI C (ci := 10) (R := RX10) (T := TX10) (N := 13) (j := 10) (V_O hrv).2 (V_O hrv).1 rfl gX10 (by decide) kw_138 dX10_mixedInto_46 (fun _ _ => rfl) (fun v3 => ?_)
    refine sm_icmp_ge C 134 dX10_mixedInto_49 (by decide) ?_ ?_
    · refine sm_aload_n C 0 dX10_mixedInto_134 rfl ?_
      refine sm_getR C (ci := 10) (R := RX10) (T := TX10) (N := 13) (j := 9) (V_O hrv).2 (V_O hrv).1 rfl gX10 (by decide) kw_134 dX10_mixedInto_135 (fun _ _ => rfl) ?_
      refine sm_aload_n C 0 dX10_mixedInto_138 rfl ?_
      refine sm_getR C (ci := 10) (R := RX10) (T := TX10) (N := 13) (j := 8) (V_O hrv).2 (V_O hrv).1 rfl gX10 (by decide) kw_132 dX10_mixedInto_139 (fun _ _ => rfl) ?_
      refine sm_lload_n C 1 dX10_mixedInto_142 rfl ?_
      refine r_callVL C (R := RX9) (T := TX9) (N := 2) [.long y1] (T_O (V_notes hrv)) rfl (fun qq ss hh => ct_X9_mixedInto (rv + 9) (V_notes hrv) y1 s0 qq ss hh) kw_850 kw_851 kw_852 kw_53 kw_853 dX10_mixedInto_143 rfl dd_X9_mixedInto ⟨rfl, rfl⟩ ⟨by decide, by decide⟩ (Nat.le_of_ble_eq_true rfl) _ rfl (fun q4 s5 => ?_)
      refine r_callVL C (R := RX9) (T := TX9) (N := 2) [.long q4] (T_O (V_beatings hrv)) rfl (fun qq ss hh => ct_X9_mixedInto (rv + 11) (V_beatings hrv) q4 s5 qq ss hh) kw_850 kw_851 kw_852 kw_53 kw_853 dX10_mixedInto_146 rfl dd_X9_mixedInto ⟨rfl, rfl⟩ ⟨by decide, by decide⟩ (Nat.le_of_ble_eq_true rfl) _ rfl (fun q6 s7 => ?_)
      exact sm_lret C dX10_mixedInto_149
    · refine sm_ldc2 C kw_849 dX10_mixedInto_52 ?_
      refine sm_lload_n C 1 dX10_mixedInto_55 rfl ?_
      refine sm_lmul C dX10_mixedInto_56 ?_
      refine sm_aload_n C 0 dX10_mixedInto_57 rfl ?_
      refine sm_getR C (ci := 10) (R := RX10) (T := TX10) (N := 13) (j := 2) (V_O hrv).2 (V_O hrv).1 rfl gX10 (by decide) kw_118 dX10_mixedInto_58 (fun _ _ => rfl) ?_
      refine sm_iload_n C 2 dX10_mixedInto_61 rfl ?_
      refine r_iald C (V_kinds hrv) dX10_mixedInto_62 (fun v8 => ?_)
      refine sm_i2l C dX10_mixedInto_63 ?_
      refine sm_ladd C dX10_mixedInto_64 ?_
      refine sm_lstore_n C [(1, .long (((31 : Int64) * y1) + v8.toInt64)), (0, .ref (wad w rv)), (3, .int y3)] dX10_mixedInto_65 (by decide) rfl ?_
      refine sm_iconst C (0 : Int32) dX10_mixedInto_66 ic_0 ?_
      refine sm_istore C [(4, .int (0 : Int32)), (1, .long (((31 : Int64) * y1) + v8.toInt64)), (0, .ref (wad w rv)), (3, .int y3)] dX10_mixedInto_67 (by decide) rfl ?_
      exact sm_sub [2, 1, 3, 0] rfl (sl_X10_mixedInto_L69 C hrv ih FU (((31 : Int64) * y1) + v8.toInt64) y3 (0 : Int32) s0)
set_option maxRecDepth 100000 in
set_option maxHeartbeats 4000000 in
theorem sl_X10_mixedInto_L2 {M : Mco} {w : Wco} (C : Cx M w cX10_mixedInto 5 yX10_mixedInto.cls (Cond.code yX10_mixedInto cX10_mixedInto 5 (some .long)) (some .long) { frames := 1, cells := 0, slots := 0, locals := 23 }) {rv : Nat} (hrv : isV w rv) : ∀ (n : Nat) (y1 : Int64) (y3 : Int32) (s0 : Sta), Sm M w 5 oL 2 [(0, .ref (wad w rv)), (1, .long y1), (3, .int y3)] [] s0 (X10_mixedInto_L2 rv n y1 y3 s0) := by
  intro n
  induction n with
  | zero => intros; exact sm_none
  | succ n ih =>
    intro y1 y3 s0
    rw [X10_mixedInto_L2.eq_2]
    refine sm_iload_n C 2 dX10_mixedInto_2 rfl ?_
    refine sm_bipush C (8 : Int32) dX10_mixedInto_3 bp_8 ?_
    refine sm_icmp_ge C 42 dX10_mixedInto_5 (by decide) ?_ ?_
    · refine sm_iconst C (0 : Int32) dX10_mixedInto_42 ic_0 ?_
      refine sm_istore_n C [(3, .int (0 : Int32)), (0, .ref (wad w rv)), (1, .long y1)] dX10_mixedInto_43 (by decide) rfl ?_
      exact sm_sub [1, 2, 0] rfl (sl_X10_mixedInto_L44 C hrv FU y1 (0 : Int32) s0)
    · refine sm_ldc2 C kw_849 dX10_mixedInto_8 ?_
      refine sm_lload_n C 1 dX10_mixedInto_11 rfl ?_
      refine sm_lmul C dX10_mixedInto_12 ?_
      refine sm_aload_n C 0 dX10_mixedInto_13 rfl ?_
      refine sm_getR C (ci := 10) (R := RX10) (T := TX10) (N := 13) (j := 0) (V_O hrv).2 (V_O hrv).1 rfl gX10 (by decide) kw_110 dX10_mixedInto_14 (fun _ _ => rfl) ?_
      refine sm_iload_n C 2 dX10_mixedInto_17 rfl ?_
      refine r_iald C (V_sorts hrv) dX10_mixedInto_18 (fun v1 => ?_)
      refine sm_i2l C dX10_mixedInto_19 ?_
      refine sm_ladd C dX10_mixedInto_20 ?_
      refine sm_lstore_n C [(1, .long (((31 : Int64) * y1) + v1.toInt64)), (0, .ref (wad w rv)), (3, .int y3)] dX10_mixedInto_21 (by decide) rfl ?_
      refine sm_ldc2 C kw_849 dX10_mixedInto_22 ?_
      refine sm_lload_n C 0 dX10_mixedInto_25 rfl ?_
      refine sm_lmul C dX10_mixedInto_26 ?_
      refine sm_aload_n C 1 dX10_mixedInto_27 rfl ?_
      refine sm_getR C (ci := 10) (R := RX10) (T := TX10) (N := 13) (j := 1) (V_O hrv).2 (V_O hrv).1 rfl gX10 (by decide) kw_114 dX10_mixedInto_28 (fun _ _ => rfl) ?_
      refine sm_iload_n C 2 dX10_mixedInto_31 rfl ?_
      refine r_iald C (V_worths hrv) dX10_mixedInto_32 (fun v2 => ?_)
      refine sm_i2l C dX10_mixedInto_33 ?_
      refine sm_ladd C dX10_mixedInto_34 ?_
      refine sm_lstore_n C [(1, .long (((31 : Int64) * (((31 : Int64) * y1) + v1.toInt64)) + v2.toInt64)), (0, .ref (wad w rv)), (3, .int y3)] dX10_mixedInto_35 (by decide) rfl ?_
      refine sm_iinc C 2 (y3 + (1 : Int32)) [(3, .int (y3 + (1 : Int32))), (1, .long (((31 : Int64) * (((31 : Int64) * y1) + v1.toInt64)) + v2.toInt64)), (0, .ref (wad w rv))] dX10_mixedInto_36 rfl (ii_1 _) (by decide) rfl ?_
      refine sm_goto C 2 dX10_mixedInto_39 (by decide) ?_
      exact sm_sub [2, 1, 0] rfl (ih (((31 : Int64) * (((31 : Int64) * y1) + v1.toInt64)) + v2.toInt64) (y3 + (1 : Int32)) s0)
set_option maxRecDepth 100000 in
set_option maxHeartbeats 4000000 in
theorem ct_X10_mixedInto {l : Launch} {w : Wco} (rv : Nat) (hrv : isV w rv) (x1 : Int64) (s0 : Sta) (qq : Int64) (ss : Sta) (hh : X10_mixedInto rv x1 s0 = some (qq, ss)) : Ct l w yX10_mixedInto (Cond.code yX10_mixedInto cX10_mixedInto 5 (some .long) :: GT) { frames := 1, cells := 0, slots := 0, locals := 23 } [.ref (wad w rv), .long x1] s0 (oL qq) ss := by
  refine ct_of [(0, .ref (wad w rv)), (1, .long x1)] (by decide +kernel) (Nat.le_of_ble_eq_true rfl) rfl hh (fun M _ C => ?_)
  unfold X10_mixedInto
  refine sm_iconst C (0 : Int32) dX10_mixedInto_0 ic_0 ?_
  refine sm_istore_n C [(3, .int (0 : Int32)), (0, .ref (wad w rv)), (1, .long x1)] dX10_mixedInto_1 (by decide) rfl ?_
  exact sm_sub [1, 2, 0] rfl (sl_X10_mixedInto_L2 C hrv FU x1 (0 : Int32) s0)
