theorem dd_J7_fill_53178 : yJ7_fill_53178.cls ≠ "java/lang/invoke/MethodHandle" ∧ yJ7_fill_53178.cls ≠ "java/lang/invoke/VarHandle" ∧ (parseMethodDescriptor yJ7_fill_53178.desc).map (fun d => d.parameters.length) = some 2 := by decide +kernel
set_option maxRecDepth 100000 in
set_option maxHeartbeats 4000000 in
theorem sl_J7_fill_53178_L5 {M : Mco} {w : Wco} (C : Cx M w cJ7_fill_53178 4 yJ7_fill_53178.cls (Cond.code yJ7_fill_53178 cJ7_fill_53178 4 none) none { frames := 0, cells := 0, slots := 0, locals := 0 }) {nav : Nat} {kav : Nat} (hkav : isI w kav nav) : ∀ (n : Nat) (y1 : Int32) (y2 : Int32) (y3 : Int32) (s0 : Sta), Sm M w 4 oV 5 [(0, .ref (wad w kav)), (1, .int y1), (2, .int y2), (3, .int y3)] [] s0 (J7_fill_53178_L5 nav kav n y1 y2 y3 s0) := by
  intro n
  induction n with
  | zero => intros; exact sm_none
  | succ n ih =>
    intro y1 y2 y3 s0
    rw [J7_fill_53178_L5.eq_2]
    refine sm_iload_n C 2 dJ7_fill_53178_5 rfl ?_
    refine sm_iload_n C 3 dJ7_fill_53178_6 rfl ?_
    refine sm_icmp_ge C 20 dJ7_fill_53178_7 (by decide) ?_ ?_
    · exact sm_vret C dJ7_fill_53178_20
    · refine sm_aload_n C 0 dJ7_fill_53178_10 rfl ?_
      refine sm_iload_n C 2 dJ7_fill_53178_11 rfl ?_
      refine sm_iload_n C 1 dJ7_fill_53178_12 rfl ?_
      refine r_iast C hkav dJ7_fill_53178_13 (fun s1 => ?_)
      refine sm_iinc C 2 (y2 + (1 : Int32)) [(2, .int (y2 + (1 : Int32))), (0, .ref (wad w kav)), (1, .int y1), (3, .int y3)] dJ7_fill_53178_14 rfl (ii_1 _) (by decide) rfl ?_
      refine sm_goto C 5 dJ7_fill_53178_17 (by decide) ?_
      exact sm_sub [1, 2, 0, 3] rfl (ih y1 (y2 + (1 : Int32)) y3 s1)
set_option maxRecDepth 100000 in
set_option maxHeartbeats 4000000 in
theorem ct_J7_fill_53178 {l : Launch} {w : Wco} (nav : Nat) (kav : Nat) (hkav : isI w kav nav) (x1 : Int32) (s0 : Sta) (qq : Unit) (ss : Sta) (hh : J7_fill_53178 nav kav x1 s0 = some (qq, ss)) : Ct l w yJ7_fill_53178 (Cond.code yJ7_fill_53178 cJ7_fill_53178 4 none :: GT) { frames := 0, cells := 0, slots := 0, locals := 0 } [.ref (wad w kav), .int x1] s0 (oV qq) ss := by
  refine ct_of [(0, .ref (wad w kav)), (1, .int x1)] (by decide +kernel) (Nat.le_of_ble_eq_true rfl) rfl hh (fun M _ C => ?_)
  unfold J7_fill_53178
  refine sm_iconst C (0 : Int32) dJ7_fill_53178_0 ic_0 ?_
  refine sm_istore_n C [(2, .int (0 : Int32)), (0, .ref (wad w kav)), (1, .int x1)] dJ7_fill_53178_1 (by decide) rfl ?_
  refine sm_aload_n C 1 dJ7_fill_53178_2 rfl ?_
  refine r_alen C (Int32.ofNat nav) hkav rfl dJ7_fill_53178_3 ?_
  refine sm_istore_n C [(3, .int (Int32.ofNat nav)), (2, .int (0 : Int32)), (0, .ref (wad w kav)), (1, .int x1)] dJ7_fill_53178_4 (by decide) rfl ?_
  exact sm_sub [2, 3, 1, 0] rfl (sl_J7_fill_53178_L5 C hkav FU x1 (0 : Int32) (Int32.ofNat nav) s0)
theorem dd_X0_allByKind : yX0_allByKind.cls = RX0 ∧ yX0_allByKind.cls ≠ "java/lang/invoke/MethodHandle" ∧ yX0_allByKind.cls ≠ "java/lang/invoke/VarHandle" ∧ (parseMethodDescriptor yX0_allByKind.desc).map (fun d => d.parameters.length) = some 0 := by decide +kernel
set_option maxRecDepth 100000 in
set_option maxHeartbeats 4000000 in
theorem ct_X0_allByKind {l : Launch} {w : Wco} (cv : Nat) (hcv : isCc w cv) (s0 : Sta) (qq : Unit) (ss : Sta) (hh : X0_allByKind cv s0 = some (qq, ss)) : Ct l w yX0_allByKind (Cond.code yX0_allByKind cX0_allByKind 1 none :: GT) { frames := 1, cells := 0, slots := 0, locals := 23 } [.ref (wad w cv)] s0 (oV qq) ss := by
  refine ct_of [(0, .ref (wad w cv))] (by decide +kernel) (Nat.le_of_ble_eq_true rfl) rfl hh (fun M _ C => ?_)
  unfold X0_allByKind
  refine sm_aload_n C 0 dX0_allByKind_0 rfl ?_
  refine sm_getR C (ci := 0) (R := RX0) (T := TX0) (N := 5) (j := 1) hcv.1.2 hcv.1.1 rfl gX0 (by decide) kw_232 dX0_allByKind_1 (fun _ _ => rfl) ?_
  refine sm_iconst C (-1 : Int32) dX0_allByKind_4 ic_m1 ?_
  refine r_callSU C [.ref (wad w (cv + 2)), .int (-1 : Int32)] (fun qq ss hh => ct_J7_fill_53178 6 (cv + 2) hcv.2 (-1 : Int32) s0 qq ss hh) kw_230 kw_108 kw_54 kw_109 dX0_allByKind_5 rfl dd_J7_fill_53178 ⟨rfl, rfl⟩ ⟨by decide, by decide⟩ (Nat.le_of_ble_eq_true rfl) _ rfl (fun q1 s2 => ?_)
  exact sm_vret C dX0_allByKind_8
theorem dd_X11_within : yX11_within.cls ≠ "java/lang/invoke/MethodHandle" ∧ yX11_within.cls ≠ "java/lang/invoke/VarHandle" ∧ (parseMethodDescriptor yX11_within.desc).map (fun d => d.parameters.length) = some 3 := by decide +kernel
set_option maxRecDepth 100000 in
set_option maxHeartbeats 4000000 in
theorem ct_X11_within {l : Launch} {w : Wco} (x1 : Int32) (x2 : Int32) (x3 : Int32) (s0 : Sta) (qq : Int32) (ss : Sta) (hh : X11_within x1 x2 x3 s0 = some (qq, ss)) : Ct l w yX11_within (Cond.code yX11_within cX11_within 3 (some .boolean) :: GT) { frames := 0, cells := 0, slots := 0, locals := 0 } [.int x1, .int x2, .int x3] s0 (oI qq) ss := by
  refine ct_of [(0, .int x1), (1, .int x2), (2, .int x3)] (by decide +kernel) (Nat.le_of_ble_eq_true rfl) rfl hh (fun M _ C => ?_)
  unfold X11_within
  refine sm_iload_n C 0 dX11_within_0 rfl ?_
  refine sm_iload_n C 1 dX11_within_1 rfl ?_
  refine sm_icmp_lt C 14 dX11_within_2 (by decide) ?_ ?_
  · refine sm_iconst C (0 : Int32) dX11_within_14 ic_0 ?_
    exact sm_zret C dX11_within_15
  · refine sm_iload_n C 0 dX11_within_5 rfl ?_
    refine sm_iload_n C 2 dX11_within_6 rfl ?_
    refine sm_icmp_gt C 14 dX11_within_7 (by decide) ?_ ?_
    · refine sm_iconst C (0 : Int32) dX11_within_14 ic_0 ?_
      exact sm_zret C dX11_within_15
    · refine sm_iconst C (1 : Int32) dX11_within_10 ic_1 ?_
      refine sm_goto C 15 dX11_within_11 (by decide) ?_
      exact sm_zret C dX11_within_15
theorem dd_X0_choose : yX0_choose.cls = RX0 ∧ yX0_choose.cls ≠ "java/lang/invoke/MethodHandle" ∧ yX0_choose.cls ≠ "java/lang/invoke/VarHandle" ∧ (parseMethodDescriptor yX0_choose.desc).map (fun d => d.parameters.length) = some 2 := by decide +kernel
set_option maxRecDepth 100000 in
set_option maxHeartbeats 4000000 in
theorem ct_X0_choose {l : Launch} {w : Wco} (cv : Nat) (hcv : isC w cv) (x1 : Int32) (x2 : Int32) (s0 : Sta) (qq : Unit) (ss : Sta) (hh : X0_choose cv x1 x2 s0 = some (qq, ss)) : Ct l w yX0_choose (Cond.code yX0_choose cX0_choose 3 none :: GT) { frames := 1, cells := 0, slots := 0, locals := 22 } [.ref (wad w cv), .int x1, .int x2] s0 (oV qq) ss := by
  refine ct_of [(0, .ref (wad w cv)), (1, .int x1), (2, .int x2)] (by decide +kernel) (Nat.le_of_ble_eq_true rfl) rfl hh (fun M _ C => ?_)
  unfold X0_choose
  refine sm_iload_n C 1 dX0_choose_0 rfl ?_
  refine sm_iconst C (0 : Int32) dX0_choose_1 ic_0 ?_
  refine sm_iconst C (5 : Int32) dX0_choose_2 ic_5 ?_
  refine r_callSNI C [.int x1, .int (0 : Int32), .int (5 : Int32)] (fun qq ss hh => ct_X11_within x1 (0 : Int32) (5 : Int32) s0 qq ss hh) nm_14 kw_347 kw_51 kw_348 dX0_choose_3 rfl dd_X11_within ⟨rfl, rfl⟩ ⟨by decide, by decide⟩ (Nat.le_of_ble_eq_true rfl) _ rfl (fun q1 s2 => ?_)
  refine sm_if_eq C 16 dX0_choose_6 (by decide) ?_ ?_
  · exact sm_vret C dX0_choose_16
  · refine sm_aload_n C 0 dX0_choose_9 rfl ?_
    refine sm_getR C (ci := 0) (R := RX0) (T := TX0) (N := 5) (j := 1) (C_O hcv).2 (C_O hcv).1 rfl gX0 (by decide) kw_232 dX0_choose_10 (fun _ _ => rfl) ?_
    refine sm_iload_n C 1 dX0_choose_13 rfl ?_
    refine sm_iload_n C 2 dX0_choose_14 rfl ?_
    refine r_iast C (C_chosen hcv) dX0_choose_15 (fun s3 => ?_)
    exact sm_vret C dX0_choose_16
theorem dd_X0_skillBy : yX0_skillBy.cls = RX0 ∧ yX0_skillBy.cls ≠ "java/lang/invoke/MethodHandle" ∧ yX0_skillBy.cls ≠ "java/lang/invoke/VarHandle" ∧ (parseMethodDescriptor yX0_skillBy.desc).map (fun d => d.parameters.length) = some 3 := by decide +kernel
set_option maxRecDepth 100000 in
set_option maxHeartbeats 4000000 in
theorem ct_X0_skillBy {l : Launch} {w : Wco} (cv : Nat) (hcv : isC w cv) (x1 : Int32) (x2 : Int32) (x3 : Int32) (s0 : Sta) (qq : Int32) (ss : Sta) (hh : X0_skillBy cv x1 x2 x3 s0 = some (qq, ss)) : Ct l w yX0_skillBy (Cond.code yX0_skillBy cX0_skillBy 4 (some .int) :: GT) { frames := 3, cells := 0, slots := 0, locals := 90 } [.ref (wad w cv), .int x1, .int x2, .int x3] s0 (oI qq) ss := by
  refine ct_of [(0, .ref (wad w cv)), (1, .int x1), (2, .int x2), (3, .int x3)] (by decide +kernel) (Nat.le_of_ble_eq_true rfl) rfl hh (fun M _ C => ?_)
  unfold X0_skillBy
  refine sm_iload_n C 1 dX0_skillBy_0 rfl ?_
  refine sm_iconst C (0 : Int32) dX0_skillBy_1 ic_0 ?_
  refine sm_iconst C (5 : Int32) dX0_skillBy_2 ic_5 ?_
  refine r_callSNI C [.int x1, .int (0 : Int32), .int (5 : Int32)] (fun qq ss hh => ct_X11_within x1 (0 : Int32) (5 : Int32) s0 qq ss hh) nm_14 kw_347 kw_51 kw_348 dX0_skillBy_3 rfl dd_X11_within ⟨rfl, rfl⟩ ⟨by decide, by decide⟩ (Nat.le_of_ble_eq_true rfl) _ rfl (fun q1 s2 => ?_)
  refine sm_if_eq C 23 dX0_skillBy_6 (by decide) ?_ ?_
  · refine sm_iconst C (0 : Int32) dX0_skillBy_23 ic_0 ?_
    exact sm_iret C dX0_skillBy_24
  · refine sm_aload_n C 0 dX0_skillBy_9 rfl ?_
    refine sm_getR C (ci := 0) (R := RX0) (T := TX0) (N := 5) (j := 0) (C_O hcv).2 (C_O hcv).1 rfl gX0 (by decide) kw_231 dX0_skillBy_10 (fun _ _ => rfl) ?_
    refine sm_iload_n C 1 dX0_skillBy_13 rfl ?_
    refine r_aald C (C_ways hcv) dX0_skillBy_14 (fun j3 hj3 => ?_)
    refine sm_iload_n C 2 dX0_skillBy_15 rfl ?_
    refine sm_iload_n C 3 dX0_skillBy_16 rfl ?_
    refine vc_skill C hcv hj3 dX0_skillBy_17 (Nat.le_of_ble_eq_true rfl) (by decide) (by decide) (fun q4 s5 => ?_)
    refine sm_goto C 24 dX0_skillBy_20 (by decide) ?_
    exact sm_iret C dX0_skillBy_24
theorem dd_J6_bitCount_0f7a4 : yJ6_bitCount_0f7a4.cls ≠ "java/lang/invoke/MethodHandle" ∧ yJ6_bitCount_0f7a4.cls ≠ "java/lang/invoke/VarHandle" ∧ (parseMethodDescriptor yJ6_bitCount_0f7a4.desc).map (fun d => d.parameters.length) = some 1 := by decide +kernel
set_option maxRecDepth 100000 in
set_option maxHeartbeats 4000000 in
theorem ct_J6_bitCount_0f7a4 {l : Launch} {w : Wco} (x1 : Int32) (s0 : Sta) (qq : Int32) (ss : Sta) (hh : J6_bitCount_0f7a4 x1 s0 = some (qq, ss)) : Ct l w yJ6_bitCount_0f7a4 (Cond.code yJ6_bitCount_0f7a4 cJ6_bitCount_0f7a4 1 (some .int) :: GT) { frames := 0, cells := 0, slots := 0, locals := 0 } [.int x1] s0 (oI qq) ss := by
  refine ct_of [(0, .int x1)] (by decide +kernel) (Nat.le_of_ble_eq_true rfl) rfl hh (fun M _ C => ?_)
  unfold J6_bitCount_0f7a4
  refine sm_iload_n C 0 dJ6_bitCount_0f7a4_0 rfl ?_
  refine sm_iload_n C 0 dJ6_bitCount_0f7a4_1 rfl ?_
  refine sm_iconst C (1 : Int32) dJ6_bitCount_0f7a4_2 ic_1 ?_
  refine sm_iushr C dJ6_bitCount_0f7a4_3 ?_
  refine sm_ldcw C kw_523 dJ6_bitCount_0f7a4_4 ?_
  refine sm_iand C dJ6_bitCount_0f7a4_7 ?_
  refine sm_isub C dJ6_bitCount_0f7a4_8 ?_
  refine sm_istore_n C [(0, .int (x1 - ((x1.toUInt32 >>> ((1 : Int32).toUInt32 &&& Int32.toUInt32 31)).toInt32 &&& (1431655765 : Int32))))] dJ6_bitCount_0f7a4_9 (by decide) rfl ?_
  refine sm_iload_n C 0 dJ6_bitCount_0f7a4_10 rfl ?_
  refine sm_ldcw C kw_524 dJ6_bitCount_0f7a4_11 ?_
  refine sm_iand C dJ6_bitCount_0f7a4_14 ?_
  refine sm_iload_n C 0 dJ6_bitCount_0f7a4_15 rfl ?_
  refine sm_iconst C (2 : Int32) dJ6_bitCount_0f7a4_16 ic_2 ?_
  refine sm_iushr C dJ6_bitCount_0f7a4_17 ?_
  refine sm_ldcw C kw_524 dJ6_bitCount_0f7a4_18 ?_
  refine sm_iand C dJ6_bitCount_0f7a4_21 ?_
  refine sm_iadd C dJ6_bitCount_0f7a4_22 ?_
  refine sm_istore_n C [(0, .int (((x1 - ((x1.toUInt32 >>> ((1 : Int32).toUInt32 &&& Int32.toUInt32 31)).toInt32 &&& (1431655765 : Int32))) &&& (858993459 : Int32)) + (((x1 - ((x1.toUInt32 >>> ((1 : Int32).toUInt32 &&& Int32.toUInt32 31)).toInt32 &&& (1431655765 : Int32))).toUInt32 >>> ((2 : Int32).toUInt32 &&& Int32.toUInt32 31)).toInt32 &&& (858993459 : Int32))))] dJ6_bitCount_0f7a4_23 (by decide) rfl ?_
  refine sm_iload_n C 0 dJ6_bitCount_0f7a4_24 rfl ?_
  refine sm_iload_n C 0 dJ6_bitCount_0f7a4_25 rfl ?_
  refine sm_iconst C (4 : Int32) dJ6_bitCount_0f7a4_26 ic_4 ?_
  refine sm_iushr C dJ6_bitCount_0f7a4_27 ?_
  refine sm_iadd C dJ6_bitCount_0f7a4_28 ?_
  refine sm_ldcw C kw_525 dJ6_bitCount_0f7a4_29 ?_
  refine sm_iand C dJ6_bitCount_0f7a4_32 ?_
  refine sm_istore_n C [(0, .int (((((x1 - ((x1.toUInt32 >>> ((1 : Int32).toUInt32 &&& Int32.toUInt32 31)).toInt32 &&& (1431655765 : Int32))) &&& (858993459 : Int32)) + (((x1 - ((x1.toUInt32 >>> ((1 : Int32).toUInt32 &&& Int32.toUInt32 31)).toInt32 &&& (1431655765 : Int32))).toUInt32 >>> ((2 : Int32).toUInt32 &&& Int32.toUInt32 31)).toInt32 &&& (858993459 : Int32))) + ((((x1 - ((x1.toUInt32 >>> ((1 : Int32).toUInt32 &&& Int32.toUInt32 31)).toInt32 &&& (1431655765 : Int32))) &&& (858993459 : Int32)) + (((x1 - ((x1.toUInt32 >>> ((1 : Int32).toUInt32 &&& Int32.toUInt32 31)).toInt32 &&& (1431655765 : Int32))).toUInt32 >>> ((2 : Int32).toUInt32 &&& Int32.toUInt32 31)).toInt32 &&& (858993459 : Int32))).toUInt32 >>> ((4 : Int32).toUInt32 &&& Int32.toUInt32 31)).toInt32) &&& (252645135 : Int32)))] dJ6_bitCount_0f7a4_33 (by decide) rfl ?_
  refine sm_iload_n C 0 dJ6_bitCount_0f7a4_34 rfl ?_
  refine sm_iload_n C 0 dJ6_bitCount_0f7a4_35 rfl ?_
  refine sm_bipush C (8 : Int32) dJ6_bitCount_0f7a4_36 bp_8 ?_
  refine sm_iushr C dJ6_bitCount_0f7a4_38 ?_
  refine sm_iadd C dJ6_bitCount_0f7a4_39 ?_
  refine sm_istore_n C [(0, .int ((((((x1 - ((x1.toUInt32 >>> ((1 : Int32).toUInt32 &&& Int32.toUInt32 31)).toInt32 &&& (1431655765 : Int32))) &&& (858993459 : Int32)) + (((x1 - ((x1.toUInt32 >>> ((1 : Int32).toUInt32 &&& Int32.toUInt32 31)).toInt32 &&& (1431655765 : Int32))).toUInt32 >>> ((2 : Int32).toUInt32 &&& Int32.toUInt32 31)).toInt32 &&& (858993459 : Int32))) + ((((x1 - ((x1.toUInt32 >>> ((1 : Int32).toUInt32 &&& Int32.toUInt32 31)).toInt32 &&& (1431655765 : Int32))) &&& (858993459 : Int32)) + (((x1 - ((x1.toUInt32 >>> ((1 : Int32).toUInt32 &&& Int32.toUInt32 31)).toInt32 &&& (1431655765 : Int32))).toUInt32 >>> ((2 : Int32).toUInt32 &&& Int32.toUInt32 31)).toInt32 &&& (858993459 : Int32))).toUInt32 >>> ((4 : Int32).toUInt32 &&& Int32.toUInt32 31)).toInt32) &&& (252645135 : Int32)) + ((((((x1 - ((x1.toUInt32 >>> ((1 : Int32).toUInt32 &&& Int32.toUInt32 31)).toInt32 &&& (1431655765 : Int32))) &&& (858993459 : Int32)) + (((x1 - ((x1.toUInt32 >>> ((1 : Int32).toUInt32 &&& Int32.toUInt32 31)).toInt32 &&& (1431655765 : Int32))).toUInt32 >>> ((2 : Int32).toUInt32 &&& Int32.toUInt32 31)).toInt32 &&& (858993459 : Int32))) + ((((x1 - ((x1.toUInt32 >>> ((1 : Int32).toUInt32 &&& Int32.toUInt32 31)).toInt32 &&& (1431655765 : Int32))) &&& (858993459 : Int32)) + (((x1 - ((x1.toUInt32 >>> ((1 : Int32).toUInt32 &&& Int32.toUInt32 31)).toInt32 &&& (1431655765 : Int32))).toUInt32 >>> ((2 : Int32).toUInt32 &&& Int32.toUInt32 31)).toInt32 &&& (858993459 : Int32))).toUInt32 >>> ((4 : Int32).toUInt32 &&& Int32.toUInt32 31)).toInt32) &&& (252645135 : Int32)).toUInt32 >>> ((8 : Int32).toUInt32 &&& Int32.toUInt32 31)).toInt32))] dJ6_bitCount_0f7a4_40 (by decide) rfl ?_
  refine sm_iload_n C 0 dJ6_bitCount_0f7a4_41 rfl ?_
  refine sm_iload_n C 0 dJ6_bitCount_0f7a4_42 rfl ?_
  refine sm_bipush C (16 : Int32) dJ6_bitCount_0f7a4_43 bp_16 ?_
  refine sm_iushr C dJ6_bitCount_0f7a4_45 ?_
  refine sm_iadd C dJ6_bitCount_0f7a4_46 ?_
  refine sm_istore_n C [(0, .int (((((((x1 - ((x1.toUInt32 >>> ((1 : Int32).toUInt32 &&& Int32.toUInt32 31)).toInt32 &&& (1431655765 : Int32))) &&& (858993459 : Int32)) + (((x1 - ((x1.toUInt32 >>> ((1 : Int32).toUInt32 &&& Int32.toUInt32 31)).toInt32 &&& (1431655765 : Int32))).toUInt32 >>> ((2 : Int32).toUInt32 &&& Int32.toUInt32 31)).toInt32 &&& (858993459 : Int32))) + ((((x1 - ((x1.toUInt32 >>> ((1 : Int32).toUInt32 &&& Int32.toUInt32 31)).toInt32 &&& (1431655765 : Int32))) &&& (858993459 : Int32)) + (((x1 - ((x1.toUInt32 >>> ((1 : Int32).toUInt32 &&& Int32.toUInt32 31)).toInt32 &&& (1431655765 : Int32))).toUInt32 >>> ((2 : Int32).toUInt32 &&& Int32.toUInt32 31)).toInt32 &&& (858993459 : Int32))).toUInt32 >>> ((4 : Int32).toUInt32 &&& Int32.toUInt32 31)).toInt32) &&& (252645135 : Int32)) + ((((((x1 - ((x1.toUInt32 >>> ((1 : Int32).toUInt32 &&& Int32.toUInt32 31)).toInt32 &&& (1431655765 : Int32))) &&& (858993459 : Int32)) + (((x1 - ((x1.toUInt32 >>> ((1 : Int32).toUInt32 &&& Int32.toUInt32 31)).toInt32 &&& (1431655765 : Int32))).toUInt32 >>> ((2 : Int32).toUInt32 &&& Int32.toUInt32 31)).toInt32 &&& (858993459 : Int32))) + ((((x1 - ((x1.toUInt32 >>> ((1 : Int32).toUInt32 &&& Int32.toUInt32 31)).toInt32 &&& (1431655765 : Int32))) &&& (858993459 : Int32)) + (((x1 - ((x1.toUInt32 >>> ((1 : Int32).toUInt32 &&& Int32.toUInt32 31)).toInt32 &&& (1431655765 : Int32))).toUInt32 >>> ((2 : Int32).toUInt32 &&& Int32.toUInt32 31)).toInt32 &&& (858993459 : Int32))).toUInt32 >>> ((4 : Int32).toUInt32 &&& Int32.toUInt32 31)).toInt32) &&& (252645135 : Int32)).toUInt32 >>> ((8 : Int32).toUInt32 &&& Int32.toUInt32 31)).toInt32) + (((((((x1 - ((x1.toUInt32 >>> ((1 : Int32).toUInt32 &&& Int32.toUInt32 31)).toInt32 &&& (1431655765 : Int32))) &&& (858993459 : Int32)) + (((x1 - ((x1.toUInt32 >>> ((1 : Int32).toUInt32 &&& Int32.toUInt32 31)).toInt32 &&& (1431655765 : Int32))).toUInt32 >>> ((2 : Int32).toUInt32 &&& Int32.toUInt32 31)).toInt32 &&& (858993459 : Int32))) + ((((x1 - ((x1.toUInt32 >>> ((1 : Int32).toUInt32 &&& Int32.toUInt32 31)).toInt32 &&& (1431655765 : Int32))) &&& (858993459 : Int32)) + (((x1 - ((x1.toUInt32 >>> ((1 : Int32).toUInt32 &&& Int32.toUInt32 31)).toInt32 &&& (1431655765 : Int32))).toUInt32 >>> ((2 : Int32).toUInt32 &&& Int32.toUInt32 31)).toInt32 &&& (858993459 : Int32))).toUInt32 >>> ((4 : Int32).toUInt32 &&& Int32.toUInt32 31)).toInt32) &&& (252645135 : Int32)) + ((((((x1 - ((x1.toUInt32 >>> ((1 : Int32).toUInt32 &&& Int32.toUInt32 31)).toInt32 &&& (1431655765 : Int32))) &&& (858993459 : Int32)) + (((x1 - ((x1.toUInt32 >>> ((1 : Int32).toUInt32 &&& Int32.toUInt32 31)).toInt32 &&& (1431655765 : Int32))).toUInt32 >>> ((2 : Int32).toUInt32 &&& Int32.toUInt32 31)).toInt32 &&& (858993459 : Int32))) + ((((x1 - ((x1.toUInt32 >>> ((1 : Int32).toUInt32 &&& Int32.toUInt32 31)).toInt32 &&& (1431655765 : Int32))) &&& (858993459 : Int32)) + (((x1 - ((x1.toUInt32 >>> ((1 : Int32).toUInt32 &&& Int32.toUInt32 31)).toInt32 &&& (1431655765 : Int32))).toUInt32 >>> ((2 : Int32).toUInt32 &&& Int32.toUInt32 31)).toInt32 &&& (858993459 : Int32))).toUInt32 >>> ((4 : Int32).toUInt32 &&& Int32.toUInt32 31)).toInt32) &&& (252645135 : Int32)).toUInt32 >>> ((8 : Int32).toUInt32 &&& Int32.toUInt32 31)).toInt32).toUInt32 >>> ((16 : Int32).toUInt32 &&& Int32.toUInt32 31)).toInt32))] dJ6_bitCount_0f7a4_47 (by decide) rfl ?_
  refine sm_iload_n C 0 dJ6_bitCount_0f7a4_48 rfl ?_
  refine sm_bipush C (63 : Int32) dJ6_bitCount_0f7a4_49 bp_63 ?_
  refine sm_iand C dJ6_bitCount_0f7a4_51 ?_
  exact sm_iret C dJ6_bitCount_0f7a4_52
theorem dd_X0_isBarred : yX0_isBarred.cls = RX0 ∧ yX0_isBarred.cls ≠ "java/lang/invoke/MethodHandle" ∧ yX0_isBarred.cls ≠ "java/lang/invoke/VarHandle" ∧ (parseMethodDescriptor yX0_isBarred.desc).map (fun d => d.parameters.length) = some 2 := by decide +kernel
set_option maxRecDepth 100000 in
set_option maxHeartbeats 4000000 in
theorem ct_X0_isBarred {l : Launch} {w : Wco} (cv : Nat) (rv : Nat) (hcv : isC w cv) (hrv : isV w rv) (x1 : Int32) (s0 : Sta) (qq : Int32) (ss : Sta) (hh : X0_isBarred cv rv x1 s0 = some (qq, ss)) : Ct l w yX0_isBarred (Cond.code yX0_isBarred cX0_isBarred 4 (some .boolean) :: GT) { frames := 3, cells := 0, slots := 0, locals := 90 } [.ref (wad w cv), .ref (wad w rv), .int x1] s0 (oI qq) ss := by
  refine ct_of [(0, .ref (wad w cv)), (1, .ref (wad w rv)), (2, .int x1)] (by decide +kernel) (Nat.le_of_ble_eq_true rfl) rfl hh (fun M _ C => ?_)
  unfold X0_isBarred
  refine sm_aload_n C 1 dX0_isBarred_0 rfl ?_
  refine sm_getRN C (ci := 10) (R := RX10) (T := TX10) (N := 13) (j := 2) (V_O hrv).2 (V_O hrv).1 rfl gX10 (by decide) nf_9 dX0_isBarred_1 (fun _ _ => rfl) ?_
  refine sm_iload_n C 2 dX0_isBarred_4 rfl ?_
  refine r_iald C (V_kinds hrv) dX0_isBarred_5 (fun v1 => ?_)
  refine sm_istore_n C [(3, .int v1), (0, .ref (wad w cv)), (1, .ref (wad w rv)), (2, .int x1)] dX0_isBarred_6 (by decide) rfl ?_
  refine sm_iload_n C 0 dX0_isBarred_7 rfl ?_
  refine sm_iconst C (0 : Int32) dX0_isBarred_8 ic_0 ?_
  refine sm_iconst C (5 : Int32) dX0_isBarred_9 ic_5 ?_
  refine r_callSNI C [.int v1, .int (0 : Int32), .int (5 : Int32)] (fun qq ss hh => ct_X11_within v1 (0 : Int32) (5 : Int32) s0 qq ss hh) nm_14 kw_347 kw_51 kw_348 dX0_isBarred_10 rfl dd_X11_within ⟨rfl, rfl⟩ ⟨by decide, by decide⟩ (Nat.le_of_ble_eq_true rfl) _ rfl (fun q2 s3 => ?_)
  refine sm_if_eq C 41 dX0_isBarred_13 (by decide) ?_ ?_
  · refine sm_iconst C (0 : Int32) dX0_isBarred_41 ic_0 ?_
    exact sm_zret C dX0_isBarred_42
  · refine sm_aload_n C 1 dX0_isBarred_16 rfl ?_
    refine sm_getR C (ci := 0) (R := RX0) (T := TX0) (N := 5) (j := 0) (C_O hcv).2 (C_O hcv).1 rfl gX0 (by decide) kw_231 dX0_isBarred_17 (fun _ _ => rfl) ?_
    refine sm_iload_n C 0 dX0_isBarred_20 rfl ?_
    refine r_aald C (C_ways hcv) dX0_isBarred_21 (fun j4 hj4 => ?_)
    refine sm_aload_n C 2 dX0_isBarred_22 rfl ?_
    refine sm_getRN C (ci := 10) (R := RX10) (T := TX10) (N := 13) (j := 4) (V_O hrv).2 (V_O hrv).1 rfl gX10 (by decide) nf_13 dX0_isBarred_23 (fun _ _ => rfl) ?_
    refine sm_iload_n C 3 dX0_isBarred_26 rfl ?_
    refine r_iald C (V_wins hrv) dX0_isBarred_27 (fun v5 => ?_)
    refine r_callSI C [.int v5] (fun qq ss hh => ct_J6_bitCount_0f7a4 v5 s3 qq ss hh) kw_520 kw_521 kw_70 kw_522 dX0_isBarred_28 rfl dd_J6_bitCount_0f7a4 ⟨rfl, rfl⟩ ⟨by decide, by decide⟩ (Nat.le_of_ble_eq_true rfl) _ rfl (fun q6 s7 => ?_)
    refine vc_barredBy C hcv hj4 dX0_isBarred_31 (Nat.le_of_ble_eq_true rfl) (by decide) (by decide) (fun q8 s9 => ?_)
    refine sm_if_eq C 41 dX0_isBarred_34 (by decide) ?_ ?_
    · refine sm_iconst C (0 : Int32) dX0_isBarred_41 ic_0 ?_
      exact sm_zret C dX0_isBarred_42
    · refine sm_iconst C (1 : Int32) dX0_isBarred_37 ic_1 ?_
      refine sm_goto C 42 dX0_isBarred_38 (by decide) ?_
      exact sm_zret C dX0_isBarred_42
theorem dd_X0_strength : yX0_strength.cls = RX0 ∧ yX0_strength.cls ≠ "java/lang/invoke/MethodHandle" ∧ yX0_strength.cls ≠ "java/lang/invoke/VarHandle" ∧ (parseMethodDescriptor yX0_strength.desc).map (fun d => d.parameters.length) = some 3 := by decide +kernel
set_option maxRecDepth 100000 in
set_option maxHeartbeats 4000000 in
theorem sl_X0_strength_L125 {M : Mco} {w : Wco} (C : Cx M w cX0_strength 7 yX0_strength.cls (Cond.code yX0_strength cX0_strength 7 (some .int)) (some .int) { frames := 4, cells := 0, slots := 0, locals := 113 }) {cv : Nat} {rv : Nat} (hcv : isC w cv) (hrv : isV w rv) : ∀ (y2 : Int32) (y3 : Int32) (y4 : Int32) (z0 : Int32) (s0 : Sta), Sm M w 7 oI 125 [(0, .ref (wad w cv)), (1, .ref (wad w rv)), (2, .int y2), (3, .int y3), (4, .int y4)] [.int z0] s0 (X0_strength_L125 cv rv y2 y3 y4 z0 s0) := by
  intro y2 y3 y4 z0 s0
  unfold X0_strength_L125
  refine sm_istore C [(6, .int z0), (0, .ref (wad w cv)), (1, .ref (wad w rv)), (2, .int y2), (3, .int y3), (4, .int y4)] dX0_strength_125 (by decide) rfl ?_
  refine sm_iload C 0 dX0_strength_127 rfl ?_
  refine sm_if_eq C 161 dX0_strength_129 (by decide) ?_ ?_
  · refine sm_iconst C (0 : Int32) dX0_strength_161 ic_0 ?_
    exact sm_iret C dX0_strength_162
  · refine sm_aload_n C 1 dX0_strength_132 rfl ?_
    refine sm_getR C (ci := 0) (R := RX0) (T := TX0) (N := 5) (j := 0) (C_O hcv).2 (C_O hcv).1 rfl gX0 (by decide) kw_231 dX0_strength_133 (fun _ _ => rfl) ?_
    refine sm_iload C 5 dX0_strength_136 rfl ?_
    refine r_aald C (C_ways hcv) dX0_strength_138 (fun j18 hj18 => ?_)
    refine sm_aload_n C 2 dX0_strength_139 rfl ?_
    refine sm_getRN C (ci := 10) (R := RX10) (T := TX10) (N := 13) (j := 3) (V_O hrv).2 (V_O hrv).1 rfl gX10 (by decide) nf_11 dX0_strength_140 (fun _ _ => rfl) ?_
    refine sm_iload_n C 3 dX0_strength_143 rfl ?_
    refine sm_iconst C (3 : Int32) dX0_strength_144 ic_3 ?_
    refine sm_imul C dX0_strength_145 ?_
    refine sm_aload_n C 2 dX0_strength_146 rfl ?_
    refine sm_getRN C (ci := 10) (R := RX10) (T := TX10) (N := 13) (j := 0) (V_O hrv).2 (V_O hrv).1 rfl gX10 (by decide) nf_4 dX0_strength_147 (fun _ _ => rfl) ?_
    refine sm_iload_n C 4 dX0_strength_150 rfl ?_
    refine r_iald C (V_sorts hrv) dX0_strength_151 (fun v19 => ?_)
    refine sm_iadd C dX0_strength_152 ?_
    refine r_iald C (V_arts hrv) dX0_strength_153 (fun v20 => ?_)
    refine sm_iload_n C 4 dX0_strength_154 rfl ?_
    refine vc_skill C hcv hj18 dX0_strength_155 (Nat.le_of_ble_eq_true rfl) (by decide) (by decide) (fun q21 s22 => ?_)
    refine sm_goto C 162 dX0_strength_158 (by decide) ?_
    exact sm_iret C dX0_strength_162
set_option maxRecDepth 100000 in
set_option maxHeartbeats 4000000 in
theorem sl_X0_strength_L80 {M : Mco} {w : Wco} (C : Cx M w cX0_strength 7 yX0_strength.cls (Cond.code yX0_strength cX0_strength 7 (some .int)) (some .int) { frames := 4, cells := 0, slots := 0, locals := 113 }) {cv : Nat} {rv : Nat} (hcv : isC w cv) (hrv : isV w rv) : ∀ (y2 : Int32) (y3 : Int32) (y4 : Int32) (z0 : Int32) (s0 : Sta), Sm M w 7 oI 80 [(0, .ref (wad w cv)), (1, .ref (wad w rv)), (2, .int y2), (3, .int y3), (4, .int y4)] [.int z0] s0 (X0_strength_L80 cv rv y2 y3 y4 z0 s0) := by
  intro y2 y3 y4 z0 s0
  unfold X0_strength_L80
  refine sm_istore C [(5, .int z0), (0, .ref (wad w cv)), (1, .ref (wad w rv)), (2, .int y2), (3, .int y3), (4, .int y4)] dX0_strength_80 (by decide) rfl ?_
  refine sm_iload C 0 dX0_strength_82 rfl ?_
  refine sm_if_eq C 110 dX0_strength_84 (by decide) ?_ ?_
  · refine sm_aload_n C 1 dX0_strength_110 rfl ?_
    refine sm_getR C (ci := 0) (R := RX0) (T := TX0) (N := 5) (j := 1) (C_O hcv).2 (C_O hcv).1 rfl gX0 (by decide) kw_232 dX0_strength_111 (fun _ _ => rfl) ?_
    refine sm_iload_n C 3 dX0_strength_114 rfl ?_
    refine r_iald C (C_chosen hcv) dX0_strength_115 (fun v13 => ?_)
    refine sm_iload_n C 4 dX0_strength_116 rfl ?_
    refine sm_icmp_ne C 124 dX0_strength_117 (by decide) ?_ ?_
    · refine sm_iconst C (0 : Int32) dX0_strength_124 ic_0 ?_
      exact sm_sub [1, 2, 3, 4, 5] rfl (sl_X0_strength_L125 C hcv hrv y2 y3 y4 (0 : Int32) s0)
    · refine sm_iconst C (1 : Int32) dX0_strength_120 ic_1 ?_
      refine sm_goto C 125 dX0_strength_121 (by decide) ?_
      exact sm_sub [1, 2, 3, 4, 5] rfl (sl_X0_strength_L125 C hcv hrv y2 y3 y4 (1 : Int32) s0)
  · refine sm_aload_n C 1 dX0_strength_87 rfl ?_
    refine sm_getR C (ci := 0) (R := RX0) (T := TX0) (N := 5) (j := 0) (C_O hcv).2 (C_O hcv).1 rfl gX0 (by decide) kw_231 dX0_strength_88 (fun _ _ => rfl) ?_
    refine sm_iload C 5 dX0_strength_91 rfl ?_
    refine r_aald C (C_ways hcv) dX0_strength_93 (fun j14 hj14 => ?_)
    refine sm_aload_n C 2 dX0_strength_94 rfl ?_
    refine sm_getRN C (ci := 10) (R := RX10) (T := TX10) (N := 13) (j := 1) (V_O hrv).2 (V_O hrv).1 rfl gX10 (by decide) nf_7 dX0_strength_95 (fun _ _ => rfl) ?_
    refine sm_iload_n C 4 dX0_strength_98 rfl ?_
    refine r_iald C (V_worths hrv) dX0_strength_99 (fun v15 => ?_)
    refine sm_bipush C (7 : Int32) dX0_strength_100 bp_7 ?_
    refine sm_iload_n C 4 dX0_strength_102 rfl ?_
    refine sm_isub C dX0_strength_103 ?_
    refine vc_wants C hcv hj14 dX0_strength_104 (Nat.le_of_ble_eq_true rfl) (by decide) (by decide) (fun q16 s17 => ?_)
    refine sm_goto C 125 dX0_strength_107 (by decide) ?_
    exact sm_sub [1, 2, 3, 4, 5] rfl (sl_X0_strength_L125 C hcv hrv y2 y3 y4 q16 s17)
set_option maxRecDepth 100000 in
set_option maxHeartbeats 4000000 in
theorem ct_X0_strength {l : Launch} {w : Wco} (cv : Nat) (rv : Nat) (hcv : isC w cv) (hrv : isV w rv) (x1 : Int32) (x2 : Int32) (s0 : Sta) (qq : Int32) (ss : Sta) (hh : X0_strength cv rv x1 x2 s0 = some (qq, ss)) : Ct l w yX0_strength (Cond.code yX0_strength cX0_strength 7 (some .int) :: GT) { frames := 4, cells := 0, slots := 0, locals := 113 } [.ref (wad w cv), .ref (wad w rv), .int x1, .int x2] s0 (oI qq) ss := by
  refine ct_of [(0, .ref (wad w cv)), (1, .ref (wad w rv)), (2, .int x1), (3, .int x2)] (by decide +kernel) (Nat.le_of_ble_eq_true rfl) rfl hh (fun M _ C => ?_)
  unfold X0_strength
  refine sm_iload_n C 2 dX0_strength_0 rfl ?_
  refine sm_iconst C (0 : Int32) dX0_strength_1 ic_0 ?_
  refine sm_aload_n C 1 dX0_strength_2 rfl ?_
  refine sm_getIN C (ci := 10) (R := RX10) (T := TX10) (N := 13) (j := 10) (V_O hrv).2 (V_O hrv).1 rfl gX10 (by decide) nf_23 dX0_strength_3 (fun _ _ => rfl) (fun v1 => ?_)
  refine sm_iconst C (1 : Int32) dX0_strength_6 ic_1 ?_
  refine sm_isub C dX0_strength_7 ?_
  refine r_callSNI C [.int x1, .int (0 : Int32), .int (v1 - (1 : Int32))] (fun qq ss hh => ct_X11_within x1 (0 : Int32) (v1 - (1 : Int32)) s0 qq ss hh) nm_14 kw_347 kw_51 kw_348 dX0_strength_8 rfl dd_X11_within ⟨rfl, rfl⟩ ⟨by decide, by decide⟩ (Nat.le_of_ble_eq_true rfl) _ rfl (fun q2 s3 => ?_)
  refine sm_if_eq C 34 dX0_strength_11 (by decide) ?_ ?_
  · refine sm_iconst C (0 : Int32) dX0_strength_34 ic_0 ?_
    exact sm_iret C dX0_strength_35
  · refine sm_iload_n C 3 dX0_strength_14 rfl ?_
    refine sm_iconst C (0 : Int32) dX0_strength_15 ic_0 ?_
    refine sm_bipush C (7 : Int32) dX0_strength_16 bp_7 ?_
    refine r_callSNI C [.int x2, .int (0 : Int32), .int (7 : Int32)] (fun qq ss hh => ct_X11_within x2 (0 : Int32) (7 : Int32) s3 qq ss hh) nm_14 kw_347 kw_51 kw_348 dX0_strength_18 rfl dd_X11_within ⟨rfl, rfl⟩ ⟨by decide, by decide⟩ (Nat.le_of_ble_eq_true rfl) _ rfl (fun q4 s5 => ?_)
    refine sm_if_eq C 34 dX0_strength_21 (by decide) ?_ ?_
    · refine sm_iconst C (0 : Int32) dX0_strength_34 ic_0 ?_
      exact sm_iret C dX0_strength_35
    · refine sm_aload_n C 1 dX0_strength_24 rfl ?_
      refine sm_getRN C (ci := 10) (R := RX10) (T := TX10) (N := 13) (j := 0) (V_O hrv).2 (V_O hrv).1 rfl gX10 (by decide) nf_4 dX0_strength_25 (fun _ _ => rfl) ?_
      refine sm_iload_n C 3 dX0_strength_28 rfl ?_
      refine r_iald C (V_sorts hrv) dX0_strength_29 (fun v6 => ?_)
      refine sm_iconst C (-1 : Int32) dX0_strength_30 ic_m1 ?_
      refine sm_icmp_ne C 36 dX0_strength_31 (by decide) ?_ ?_
      · refine sm_aload_n C 1 dX0_strength_36 rfl ?_
        refine sm_getRN C (ci := 10) (R := RX10) (T := TX10) (N := 13) (j := 2) (V_O hrv).2 (V_O hrv).1 rfl gX10 (by decide) nf_9 dX0_strength_37 (fun _ _ => rfl) ?_
        refine sm_iload_n C 2 dX0_strength_40 rfl ?_
        refine r_iald C (V_kinds hrv) dX0_strength_41 (fun v7 => ?_)
        refine sm_istore C [(4, .int v7), (0, .ref (wad w cv)), (1, .ref (wad w rv)), (2, .int x1), (3, .int x2)] dX0_strength_42 (by decide) rfl ?_
        refine sm_iload C 0 dX0_strength_44 rfl ?_
        refine sm_iconst C (0 : Int32) dX0_strength_46 ic_0 ?_
        refine sm_iconst C (5 : Int32) dX0_strength_47 ic_5 ?_
        refine r_callSNI C [.int v7, .int (0 : Int32), .int (5 : Int32)] (fun qq ss hh => ct_X11_within v7 (0 : Int32) (5 : Int32) s5 qq ss hh) nm_14 kw_347 kw_51 kw_348 dX0_strength_48 rfl dd_X11_within ⟨rfl, rfl⟩ ⟨by decide, by decide⟩ (Nat.le_of_ble_eq_true rfl) _ rfl (fun q8 s9 => ?_)
        refine sm_if_eq C 63 dX0_strength_51 (by decide) ?_ ?_
        · refine sm_iconst C (0 : Int32) dX0_strength_63 ic_0 ?_
          exact sm_iret C dX0_strength_64
        · refine sm_aload_n C 1 dX0_strength_54 rfl ?_
          refine sm_aload_n C 2 dX0_strength_55 rfl ?_
          refine sm_iload_n C 3 dX0_strength_56 rfl ?_
          refine r_callVI C (R := RX0) (T := TX0) (N := 5) [.ref (wad w rv), .int x1] (C_O hcv) rfl (fun qq ss hh => ct_X0_isBarred cv rv hcv hrv x1 s9 qq ss hh) kw_516 kw_517 kw_518 kw_55 kw_519 dX0_strength_57 rfl dd_X0_isBarred ⟨rfl, rfl⟩ ⟨by decide, by decide⟩ (Nat.le_of_ble_eq_true rfl) _ rfl (fun q10 s11 => ?_)
          refine sm_if_eq C 65 dX0_strength_60 (by decide) ?_ ?_
          · refine sm_aload_n C 1 dX0_strength_65 rfl ?_
            refine sm_getR C (ci := 0) (R := RX0) (T := TX0) (N := 5) (j := 1) (C_O hcv).2 (C_O hcv).1 rfl gX0 (by decide) kw_232 dX0_strength_66 (fun _ _ => rfl) ?_
            refine sm_iload_n C 3 dX0_strength_69 rfl ?_
            refine r_iald C (C_chosen hcv) dX0_strength_70 (fun v12 => ?_)
            refine sm_iconst C (-1 : Int32) dX0_strength_71 ic_m1 ?_
            refine sm_icmp_ne C 79 dX0_strength_72 (by decide) ?_ ?_
            · refine sm_iconst C (0 : Int32) dX0_strength_79 ic_0 ?_
              exact sm_sub [1, 2, 3, 4, 0] rfl (sl_X0_strength_L80 C hcv hrv x1 x2 v7 (0 : Int32) s11)
            · refine sm_iconst C (1 : Int32) dX0_strength_75 ic_1 ?_
              refine sm_goto C 80 dX0_strength_76 (by decide) ?_
              exact sm_sub [1, 2, 3, 4, 0] rfl (sl_X0_strength_L80 C hcv hrv x1 x2 v7 (1 : Int32) s11)
          · refine sm_iconst C (0 : Int32) dX0_strength_63 ic_0 ?_
            exact sm_iret C dX0_strength_64
      · refine sm_iconst C (0 : Int32) dX0_strength_34 ic_0 ?_
        exact sm_iret C dX0_strength_35
theorem dd_X0_strengthOfAll : yX0_strengthOfAll.cls = RX0 ∧ yX0_strengthOfAll.cls ≠ "java/lang/invoke/MethodHandle" ∧ yX0_strengthOfAll.cls ≠ "java/lang/invoke/VarHandle" ∧ (parseMethodDescriptor yX0_strengthOfAll.desc).map (fun d => d.parameters.length) = some 2 := by decide +kernel
set_option maxRecDepth 100000 in
set_option maxHeartbeats 4000000 in
theorem sl_X0_strengthOfAll_L5 {M : Mco} {w : Wco} (C : Cx M w cX0_strengthOfAll 5 yX0_strengthOfAll.cls (Cond.code yX0_strengthOfAll cX0_strengthOfAll 5 (some .int)) (some .int) { frames := 5, cells := 0, slots := 0, locals := 139 }) {cv : Nat} {rv : Nat} (hcv : isC w cv) (hrv : isV w rv) : ∀ (n : Nat) (y2 : Int32) (y3 : Int32) (y4 : Int32) (s0 : Sta), Sm M w 5 oI 5 [(0, .ref (wad w cv)), (1, .ref (wad w rv)), (2, .int y2), (3, .int y3), (4, .int y4)] [] s0 (X0_strengthOfAll_L5 cv rv n y2 y3 y4 s0) := by
  intro n
  induction n with
  | zero => intros; exact sm_none
  | succ n ih =>
    intro y2 y3 y4 s0
    rw [X0_strengthOfAll_L5.eq_2]
    refine sm_iload C 4 dX0_strengthOfAll_5 rfl ?_
    refine sm_aload_n C 1 dX0_strengthOfAll_7 rfl ?_
    refine sm_getIN C (ci := 10) (R := RX10) (T := TX10) (N := 13) (j := 10) (V_O hrv).2 (V_O hrv).1 rfl gX10 (by decide) nf_23 dX0_strengthOfAll_8 (fun _ _ => rfl) (fun v1 => ?_)
    refine sm_icmp_ge C 31 dX0_strengthOfAll_11 (by decide) ?_ ?_
    · refine sm_iload_n C 3 dX0_strengthOfAll_31 rfl ?_
      exact sm_iret C dX0_strengthOfAll_32
    · refine sm_iload_n C 3 dX0_strengthOfAll_14 rfl ?_
      refine sm_aload_n C 0 dX0_strengthOfAll_15 rfl ?_
      refine sm_aload_n C 1 dX0_strengthOfAll_16 rfl ?_
      refine sm_iload C 4 dX0_strengthOfAll_17 rfl ?_
      refine sm_iload_n C 2 dX0_strengthOfAll_19 rfl ?_
      refine r_callVI C (R := RX0) (T := TX0) (N := 5) [.ref (wad w rv), .int y4, .int y2] (C_O hcv) rfl (fun qq ss hh => ct_X0_strength cv rv hcv hrv y4 y2 s0 qq ss hh) kw_511 kw_512 kw_513 kw_55 kw_514 dX0_strengthOfAll_20 rfl dd_X0_strength ⟨rfl, rfl⟩ ⟨by decide, by decide⟩ (Nat.le_of_ble_eq_true rfl) _ rfl (fun q2 s3 => ?_)
      refine sm_iadd C dX0_strengthOfAll_23 ?_
      refine sm_istore_n C [(3, .int (y3 + q2)), (0, .ref (wad w cv)), (1, .ref (wad w rv)), (2, .int y2), (4, .int y4)] dX0_strengthOfAll_24 (by decide) rfl ?_
      refine sm_iinc C 4 (y4 + (1 : Int32)) [(4, .int (y4 + (1 : Int32))), (3, .int (y3 + q2)), (0, .ref (wad w cv)), (1, .ref (wad w rv)), (2, .int y2)] dX0_strengthOfAll_25 rfl (ii_1 _) (by decide) rfl ?_
      refine sm_goto C 5 dX0_strengthOfAll_28 (by decide) ?_
      exact sm_sub [2, 3, 4, 1, 0] rfl (ih y2 (y3 + q2) (y4 + (1 : Int32)) s3)
set_option maxRecDepth 100000 in
set_option maxHeartbeats 4000000 in
theorem ct_X0_strengthOfAll {l : Launch} {w : Wco} (cv : Nat) (rv : Nat) (hcv : isC w cv) (hrv : isV w rv) (x1 : Int32) (s0 : Sta) (qq : Int32) (ss : Sta) (hh : X0_strengthOfAll cv rv x1 s0 = some (qq, ss)) : Ct l w yX0_strengthOfAll (Cond.code yX0_strengthOfAll cX0_strengthOfAll 5 (some .int) :: GT) { frames := 5, cells := 0, slots := 0, locals := 139 } [.ref (wad w cv), .ref (wad w rv), .int x1] s0 (oI qq) ss := by
  refine ct_of [(0, .ref (wad w cv)), (1, .ref (wad w rv)), (2, .int x1)] (by decide +kernel) (Nat.le_of_ble_eq_true rfl) rfl hh (fun M _ C => ?_)
  unfold X0_strengthOfAll
  refine sm_iconst C (0 : Int32) dX0_strengthOfAll_0 ic_0 ?_
  refine sm_istore_n C [(3, .int (0 : Int32)), (0, .ref (wad w cv)), (1, .ref (wad w rv)), (2, .int x1)] dX0_strengthOfAll_1 (by decide) rfl ?_
  refine sm_iconst C (0 : Int32) dX0_strengthOfAll_2 ic_0 ?_
  refine sm_istore C [(4, .int (0 : Int32)), (3, .int (0 : Int32)), (0, .ref (wad w cv)), (1, .ref (wad w rv)), (2, .int x1)] dX0_strengthOfAll_3 (by decide) rfl ?_
  exact sm_sub [2, 3, 4, 1, 0] rfl (sl_X0_strengthOfAll_L5 C hcv hrv FU x1 (0 : Int32) (0 : Int32) s0)
theorem dd_X0_hold : yX0_hold.cls = RX0 ∧ yX0_hold.cls ≠ "java/lang/invoke/MethodHandle" ∧ yX0_hold.cls ≠ "java/lang/invoke/VarHandle" ∧ (parseMethodDescriptor yX0_hold.desc).map (fun d => d.parameters.length) = some 2 := by decide +kernel
set_option maxRecDepth 100000 in
set_option maxHeartbeats 4000000 in
theorem sl_X0_hold_L60 {M : Mco} {w : Wco} (C : Cx M w cX0_hold 7 yX0_hold.cls (Cond.code yX0_hold cX0_hold 7 none) none { frames := 5, cells := 0, slots := 0, locals := 139 }) {cv : Nat} {rv : Nat} (hcv : isC w cv) (hrv : isV w rv) {k23 : Int32 → Int32 → Int32 → Int32 → Sta → Option (Unit × Sta)} (H23 : ∀ (y2 : Int32) (y3 : Int32) (y4 : Int32) (y5 : Int32) (s0 : Sta), Sm M w 7 oV 23 [(0, .ref (wad w cv)), (1, .ref (wad w rv)), (2, .int y2), (3, .int y3), (4, .int y4), (5, .int y5)] [] s0 (k23 y2 y3 y4 y5 s0)) : ∀ (y2 : Int32) (y3 : Int32) (y4 : Int32) (y5 : Int32) (y6 : Int32) (s0 : Sta), Sm M w 7 oV 60 [(0, .ref (wad w cv)), (1, .ref (wad w rv)), (2, .int y2), (3, .int y3), (4, .int y4), (5, .int y5), (6, .int y6)] [] s0 (X0_hold_L60 cv rv k23 y2 y3 y4 y5 y6 s0) := by
  intro y2 y3 y4 y5 y6 s0
  unfold X0_hold_L60
  refine sm_iload C 6 dX0_hold_60 rfl ?_
  refine sm_iload_n C 3 dX0_hold_62 rfl ?_
  refine sm_icmp_le C 89 dX0_hold_63 (by decide) ?_ ?_
  · refine sm_iload C 6 dX0_hold_89 rfl ?_
    refine sm_iload C 4 dX0_hold_91 rfl ?_
    refine sm_icmp_le C 106 dX0_hold_93 (by decide) ?_ ?_
    · refine sm_iinc C 5 (y5 + (1 : Int32)) [(5, .int (y5 + (1 : Int32))), (0, .ref (wad w cv)), (1, .ref (wad w rv)), (2, .int y2), (3, .int y3), (4, .int y4), (6, .int y6)] dX0_hold_106 rfl (ii_1 _) (by decide) rfl ?_
      refine sm_goto C 23 dX0_hold_109 (by decide) ?_
      exact sm_sub [1, 2, 3, 4, 5, 0] rfl (H23 y2 y3 y4 (y5 + (1 : Int32)) s0)
    · refine sm_aload_n C 0 dX0_hold_96 rfl ?_
      refine sm_iload C 5 dX0_hold_97 rfl ?_
      refine sm_putI C (ci := 0) (R := RX0) (T := TX0) (N := 5) (j := 4) (C_O hcv).2 (C_O hcv).1 rfl gX0 tyX0 tyX0_ok nmX0 (by decide) kw_239 rfl (by decide +kernel) dX0_hold_99 (fun _ _ => Nat.le_of_ble_eq_true rfl) (set_fsC_4 w cv) (fun s9 => ?_)
      refine sm_iload C 6 dX0_hold_102 rfl ?_
      refine sm_istore C [(4, .int y6), (0, .ref (wad w cv)), (1, .ref (wad w rv)), (2, .int y2), (3, .int y3), (5, .int y5), (6, .int y6)] dX0_hold_104 (by decide) rfl ?_
      refine sm_iinc C 5 (y5 + (1 : Int32)) [(5, .int (y5 + (1 : Int32))), (4, .int y6), (0, .ref (wad w cv)), (1, .ref (wad w rv)), (2, .int y2), (3, .int y3), (6, .int y6)] dX0_hold_106 rfl (ii_1 _) (by decide) rfl ?_
      refine sm_goto C 23 dX0_hold_109 (by decide) ?_
      exact sm_sub [2, 3, 4, 5, 1, 0] rfl (H23 y2 y3 y6 (y5 + (1 : Int32)) s9)
  · refine sm_aload_n C 0 dX0_hold_66 rfl ?_
    refine sm_aload_n C 0 dX0_hold_67 rfl ?_
    refine sm_getI C (ci := 0) (R := RX0) (T := TX0) (N := 5) (j := 3) (C_O hcv).2 (C_O hcv).1 rfl gX0 (by decide) kw_236 dX0_hold_68 (fun _ _ => rfl) (fun v10 => ?_)
    refine sm_putI C (ci := 0) (R := RX0) (T := TX0) (N := 5) (j := 4) (C_O hcv).2 (C_O hcv).1 rfl gX0 tyX0 tyX0_ok nmX0 (by decide) kw_239 rfl (by decide +kernel) dX0_hold_71 (fun _ _ => Nat.le_of_ble_eq_true rfl) (set_fsC_4 w cv) (fun s11 => ?_)
    refine sm_iload_n C 3 dX0_hold_74 rfl ?_
    refine sm_istore C [(4, .int y3), (0, .ref (wad w cv)), (1, .ref (wad w rv)), (2, .int y2), (3, .int y3), (5, .int y5), (6, .int y6)] dX0_hold_75 (by decide) rfl ?_
    refine sm_aload_n C 1 dX0_hold_77 rfl ?_
    refine sm_iload C 5 dX0_hold_78 rfl ?_
    refine sm_putI C (ci := 0) (R := RX0) (T := TX0) (N := 5) (j := 3) (C_O hcv).2 (C_O hcv).1 rfl gX0 tyX0 tyX0_ok nmX0 (by decide) kw_236 rfl (by decide +kernel) dX0_hold_80 (fun _ _ => Nat.le_of_ble_eq_true rfl) (set_fsC_3 w cv) (fun s12 => ?_)
    refine sm_iload C 6 dX0_hold_83 rfl ?_
    refine sm_istore_n C [(3, .int y6), (4, .int y3), (0, .ref (wad w cv)), (1, .ref (wad w rv)), (2, .int y2), (5, .int y5), (6, .int y6)] dX0_hold_85 (by decide) rfl ?_
    refine sm_goto C 106 dX0_hold_86 (by decide) ?_
    refine sm_iinc C 5 (y5 + (1 : Int32)) [(5, .int (y5 + (1 : Int32))), (3, .int y6), (4, .int y3), (0, .ref (wad w cv)), (1, .ref (wad w rv)), (2, .int y2), (6, .int y6)] dX0_hold_106 rfl (ii_1 _) (by decide) rfl ?_
    refine sm_goto C 23 dX0_hold_109 (by decide) ?_
    exact sm_sub [3, 4, 5, 1, 2, 0] rfl (H23 y2 y6 y3 (y5 + (1 : Int32)) s12)
set_option maxRecDepth 100000 in
set_option maxHeartbeats 4000000 in
theorem sl_X0_hold_L23 {M : Mco} {w : Wco} (C : Cx M w cX0_hold 7 yX0_hold.cls (Cond.code yX0_hold cX0_hold 7 none) none { frames := 5, cells := 0, slots := 0, locals := 139 }) {cv : Nat} {rv : Nat} (hcv : isC w cv) (hrv : isV w rv) : ∀ (n : Nat) (y2 : Int32) (y3 : Int32) (y4 : Int32) (y5 : Int32) (s0 : Sta), Sm M w 7 oV 23 [(0, .ref (wad w cv)), (1, .ref (wad w rv)), (2, .int y2), (3, .int y3), (4, .int y4), (5, .int y5)] [] s0 (X0_hold_L23 cv rv n y2 y3 y4 y5 s0) := by
  intro n
  induction n with
  | zero => intros; exact sm_none
  | succ n ih =>
    intro y2 y3 y4 y5 s0
    rw [X0_hold_L23.eq_2]
    refine sm_iload C 5 dX0_hold_23 rfl ?_
    refine sm_aload_n C 1 dX0_hold_25 rfl ?_
    refine sm_getIN C (ci := 10) (R := RX10) (T := TX10) (N := 13) (j := 10) (V_O hrv).2 (V_O hrv).1 rfl gX10 (by decide) nf_23 dX0_hold_26 (fun _ _ => rfl) (fun v4 => ?_)
    refine sm_icmp_ge C 112 dX0_hold_29 (by decide) ?_ ?_
    · exact sm_vret C dX0_hold_112
    · refine sm_aload_n C 0 dX0_hold_32 rfl ?_
      refine sm_aload_n C 1 dX0_hold_33 rfl ?_
      refine sm_iload C 5 dX0_hold_34 rfl ?_
      refine sm_iload_n C 2 dX0_hold_36 rfl ?_
      refine r_callVI C (R := RX0) (T := TX0) (N := 5) [.ref (wad w rv), .int y5, .int y2] (C_O hcv) rfl (fun qq ss hh => ct_X0_strength cv rv hcv hrv y5 y2 s0 qq ss hh) kw_511 kw_512 kw_513 kw_55 kw_514 dX0_hold_37 rfl dd_X0_strength ⟨rfl, rfl⟩ ⟨by decide, by decide⟩ (Nat.le_of_ble_eq_true rfl) _ rfl (fun q5 s6 => ?_)
      refine sm_istore C [(6, .int q5), (0, .ref (wad w cv)), (1, .ref (wad w rv)), (2, .int y2), (3, .int y3), (4, .int y4), (5, .int y5)] dX0_hold_40 (by decide) rfl ?_
      refine sm_iload C 0 dX0_hold_42 rfl ?_
      refine sm_if_le C 60 dX0_hold_44 (by decide) ?_ ?_
      · exact sm_sub [1, 2, 3, 4, 5, 6, 0] rfl (sl_X0_hold_L60 C hcv hrv ih y2 y3 y4 y5 q5 s6)
      · refine sm_aload_n C 1 dX0_hold_47 rfl ?_
        refine sm_dup C dX0_hold_48 rfl ?_
        refine sm_getI C (ci := 0) (R := RX0) (T := TX0) (N := 5) (j := 2) (C_O hcv).2 (C_O hcv).1 rfl gX0 (by decide) kw_233 dX0_hold_49 (fun _ _ => rfl) (fun v7 => ?_)
        refine sm_iconst C (1 : Int32) dX0_hold_52 ic_1 ?_
        refine sm_iload C 6 dX0_hold_53 rfl ?_
        refine sm_ishl C dX0_hold_55 ?_
        refine sm_ior C dX0_hold_56 ?_
        refine sm_putI C (ci := 0) (R := RX0) (T := TX0) (N := 5) (j := 2) (C_O hcv).2 (C_O hcv).1 rfl gX0 tyX0 tyX0_ok nmX0 (by decide) kw_233 rfl (by decide +kernel) dX0_hold_57 (fun _ _ => Nat.le_of_ble_eq_true rfl) (set_fsC_2 w cv) (fun s8 => ?_)
        exact sm_sub [1, 2, 3, 4, 5, 6, 0] rfl (sl_X0_hold_L60 C hcv hrv ih y2 y3 y4 y5 q5 s8)
set_option maxRecDepth 100000 in
set_option maxHeartbeats 4000000 in
theorem ct_X0_hold {l : Launch} {w : Wco} (cv : Nat) (rv : Nat) (hcv : isC w cv) (hrv : isV w rv) (x1 : Int32) (s0 : Sta) (qq : Unit) (ss : Sta) (hh : X0_hold cv rv x1 s0 = some (qq, ss)) : Ct l w yX0_hold (Cond.code yX0_hold cX0_hold 7 none :: GT) { frames := 5, cells := 0, slots := 0, locals := 139 } [.ref (wad w cv), .ref (wad w rv), .int x1] s0 (oV qq) ss := by
  refine ct_of [(0, .ref (wad w cv)), (1, .ref (wad w rv)), (2, .int x1)] (by decide +kernel) (Nat.le_of_ble_eq_true rfl) rfl hh (fun M _ C => ?_)
  unfold X0_hold
  refine sm_aload_n C 0 dX0_hold_0 rfl ?_
  refine sm_iconst C (0 : Int32) dX0_hold_1 ic_0 ?_
  refine sm_putI C (ci := 0) (R := RX0) (T := TX0) (N := 5) (j := 2) (C_O hcv).2 (C_O hcv).1 rfl gX0 tyX0 tyX0_ok nmX0 (by decide) kw_233 rfl (by decide +kernel) dX0_hold_2 (fun _ _ => Nat.le_of_ble_eq_true rfl) (set_fsC_2 w cv) (fun s1 => ?_)
  refine sm_aload_n C 0 dX0_hold_5 rfl ?_
  refine sm_iconst C (-1 : Int32) dX0_hold_6 ic_m1 ?_
  refine sm_putI C (ci := 0) (R := RX0) (T := TX0) (N := 5) (j := 3) (C_O hcv).2 (C_O hcv).1 rfl gX0 tyX0 tyX0_ok nmX0 (by decide) kw_236 rfl (by decide +kernel) dX0_hold_7 (fun _ _ => Nat.le_of_ble_eq_true rfl) (set_fsC_3 w cv) (fun s2 => ?_)
  refine sm_aload_n C 0 dX0_hold_10 rfl ?_
  refine sm_iconst C (-1 : Int32) dX0_hold_11 ic_m1 ?_
  refine sm_putI C (ci := 0) (R := RX0) (T := TX0) (N := 5) (j := 4) (C_O hcv).2 (C_O hcv).1 rfl gX0 tyX0 tyX0_ok nmX0 (by decide) kw_239 rfl (by decide +kernel) dX0_hold_12 (fun _ _ => Nat.le_of_ble_eq_true rfl) (set_fsC_4 w cv) (fun s3 => ?_)
  refine sm_iconst C (0 : Int32) dX0_hold_15 ic_0 ?_
  refine sm_istore_n C [(3, .int (0 : Int32)), (0, .ref (wad w cv)), (1, .ref (wad w rv)), (2, .int x1)] dX0_hold_16 (by decide) rfl ?_
  refine sm_iconst C (0 : Int32) dX0_hold_17 ic_0 ?_
  refine sm_istore C [(4, .int (0 : Int32)), (3, .int (0 : Int32)), (0, .ref (wad w cv)), (1, .ref (wad w rv)), (2, .int x1)] dX0_hold_18 (by decide) rfl ?_
  refine sm_iconst C (0 : Int32) dX0_hold_20 ic_0 ?_
  refine sm_istore C [(5, .int (0 : Int32)), (4, .int (0 : Int32)), (3, .int (0 : Int32)), (0, .ref (wad w cv)), (1, .ref (wad w rv)), (2, .int x1)] dX0_hold_21 (by decide) rfl ?_
  exact sm_sub [3, 4, 5, 2, 1, 0] rfl (sl_X0_hold_L23 C hcv hrv FU x1 (0 : Int32) (0 : Int32) (0 : Int32) s3)
theorem dd_X0_handicapOf : yX0_handicapOf.cls = RX0 ∧ yX0_handicapOf.cls ≠ "java/lang/invoke/MethodHandle" ∧ yX0_handicapOf.cls ≠ "java/lang/invoke/VarHandle" ∧ (parseMethodDescriptor yX0_handicapOf.desc).map (fun d => d.parameters.length) = some 2 := by decide +kernel
set_option maxRecDepth 100000 in
set_option maxHeartbeats 4000000 in
theorem sl_X0_handicapOf_L108 {M : Mco} {w : Wco} (C : Cx M w cX0_handicapOf 8 yX0_handicapOf.cls (Cond.code yX0_handicapOf cX0_handicapOf 8 (some .int)) (some .int) { frames := 5, cells := 0, slots := 0, locals := 139 }) {cv : Nat} {rv : Nat} (hcv : isC w cv) (hrv : isV w rv) {k78 : Int32 → Int32 → Int32 → Int32 → Int32 → Sta → Option (Int32 × Sta)} (H78 : ∀ (y2 : Int32) (y3 : Int32) (y4 : Int32) (y5 : Int32) (y6 : Int32) (s0 : Sta), Sm M w 8 oI 78 [(0, .ref (wad w cv)), (1, .ref (wad w rv)), (2, .int y2), (3, .int y3), (4, .int y4), (5, .int y5), (6, .int y6)] [] s0 (k78 y2 y3 y4 y5 y6 s0)) : ∀ (y2 : Int32) (y3 : Int32) (y4 : Int32) (y5 : Int32) (y6 : Int32) (z0 : Int32) (s0 : Sta), Sm M w 8 oI 108 [(0, .ref (wad w cv)), (1, .ref (wad w rv)), (2, .int y2), (3, .int y3), (4, .int y4), (5, .int y5), (6, .int y6)] [.int z0] s0 (X0_handicapOf_L108 cv rv k78 y2 y3 y4 y5 y6 z0 s0) := by
  intro y2 y3 y4 y5 y6 z0 s0
  unfold X0_handicapOf_L108
  refine sm_istore C [(7, .int z0), (0, .ref (wad w cv)), (1, .ref (wad w rv)), (2, .int y2), (3, .int y3), (4, .int y4), (5, .int y5), (6, .int y6)] dX0_handicapOf_108 (by decide) rfl ?_
  refine sm_iload C 6 dX0_handicapOf_110 rfl ?_
  refine sm_iconst C (0 : Int32) dX0_handicapOf_112 ic_0 ?_
  refine sm_aload_n C 1 dX0_handicapOf_113 rfl ?_
  refine sm_aload_n C 2 dX0_handicapOf_114 rfl ?_
  refine sm_iload C 7 dX0_handicapOf_115 rfl ?_
  refine sm_iload_n C 4 dX0_handicapOf_117 rfl ?_
  refine r_callVI C (R := RX0) (T := TX0) (N := 5) [.ref (wad w rv), .int y6, .int y3] (C_O hcv) rfl (fun qq ss hh => ct_X0_strength cv rv hcv hrv y6 y3 s0 qq ss hh) kw_511 kw_512 kw_513 kw_55 kw_514 dX0_handicapOf_118 rfl dd_X0_strength ⟨rfl, rfl⟩ ⟨by decide, by decide⟩ (Nat.le_of_ble_eq_true rfl) _ rfl (fun q13 s14 => ?_)
  refine sm_iload C 0 dX0_handicapOf_121 rfl ?_
  refine sm_isub C dX0_handicapOf_123 ?_
  refine r_max C kw_700 (by decide) (Nat.le_of_ble_eq_true rfl) dX0_handicapOf_124 ?_
  refine sm_iadd C dX0_handicapOf_127 ?_
  refine sm_istore C [(5, .int (y5 + (if (0 : Int32) < (q13 - z0) then (q13 - z0) else (0 : Int32)))), (7, .int z0), (0, .ref (wad w cv)), (1, .ref (wad w rv)), (2, .int y2), (3, .int y3), (4, .int y4), (6, .int y6)] dX0_handicapOf_128 (by decide) rfl ?_
  refine sm_iinc C 7 (y6 + (1 : Int32)) [(6, .int (y6 + (1 : Int32))), (5, .int (y5 + (if (0 : Int32) < (q13 - z0) then (q13 - z0) else (0 : Int32)))), (7, .int z0), (0, .ref (wad w cv)), (1, .ref (wad w rv)), (2, .int y2), (3, .int y3), (4, .int y4)] dX0_handicapOf_130 rfl (ii_1 _) (by decide) rfl ?_
  refine sm_goto C 78 dX0_handicapOf_133 (by decide) ?_
  exact sm_sub [3, 4, 5, 6, 7, 1, 0] rfl (H78 y2 y3 y4 (y5 + (if (0 : Int32) < (q13 - z0) then (q13 - z0) else (0 : Int32))) (y6 + (1 : Int32)) s14)
set_option maxRecDepth 100000 in
set_option maxHeartbeats 4000000 in
theorem sl_X0_handicapOf_L78 {M : Mco} {w : Wco} (C : Cx M w cX0_handicapOf 8 yX0_handicapOf.cls (Cond.code yX0_handicapOf cX0_handicapOf 8 (some .int)) (some .int) { frames := 5, cells := 0, slots := 0, locals := 139 }) {cv : Nat} {rv : Nat} (hcv : isC w cv) (hrv : isV w rv) : ∀ (n : Nat) (y2 : Int32) (y3 : Int32) (y4 : Int32) (y5 : Int32) (y6 : Int32) (s0 : Sta), Sm M w 8 oI 78 [(0, .ref (wad w cv)), (1, .ref (wad w rv)), (2, .int y2), (3, .int y3), (4, .int y4), (5, .int y5), (6, .int y6)] [] s0 (X0_handicapOf_L78 cv rv n y2 y3 y4 y5 y6 s0) := by
  intro n
  induction n with
  | zero => intros; exact sm_none
  | succ n ih =>
    intro y2 y3 y4 y5 y6 s0
    rw [X0_handicapOf_L78.eq_2]
    refine sm_iload C 6 dX0_handicapOf_78 rfl ?_
    refine sm_aload_n C 1 dX0_handicapOf_80 rfl ?_
    refine sm_getIN C (ci := 10) (R := RX10) (T := TX10) (N := 13) (j := 10) (V_O hrv).2 (V_O hrv).1 rfl gX10 (by decide) nf_23 dX0_handicapOf_81 (fun _ _ => rfl) (fun v12 => ?_)
    refine sm_icmp_ge C 136 dX0_handicapOf_84 (by decide) ?_ ?_
    · refine sm_iload C 5 dX0_handicapOf_136 rfl ?_
      exact sm_iret C dX0_handicapOf_138
    · refine sm_iload C 6 dX0_handicapOf_87 rfl ?_
      refine sm_iload_n C 2 dX0_handicapOf_89 rfl ?_
      refine sm_icmp_eq C 130 dX0_handicapOf_90 (by decide) ?_ ?_
      · refine sm_iinc C 6 (y6 + (1 : Int32)) [(6, .int (y6 + (1 : Int32))), (0, .ref (wad w cv)), (1, .ref (wad w rv)), (2, .int y2), (3, .int y3), (4, .int y4), (5, .int y5)] dX0_handicapOf_130 rfl (ii_1 _) (by decide) rfl ?_
        refine sm_goto C 78 dX0_handicapOf_133 (by decide) ?_
        exact sm_sub [1, 2, 3, 4, 5, 6, 0] rfl (ih y2 y3 y4 y5 (y6 + (1 : Int32)) s0)
      · refine sm_iload C 6 dX0_handicapOf_93 rfl ?_
        refine sm_iload_n C 2 dX0_handicapOf_95 rfl ?_
        refine sm_icmp_ge C 106 dX0_handicapOf_96 (by decide) ?_ ?_
        · refine sm_iload C 4 dX0_handicapOf_106 rfl ?_
          exact sm_sub [0, 1, 2, 3, 4, 5, 6] rfl (sl_X0_handicapOf_L108 C hcv hrv ih y2 y3 y4 y5 y6 y4 s0)
        · refine sm_iload C 4 dX0_handicapOf_99 rfl ?_
          refine sm_iconst C (1 : Int32) dX0_handicapOf_101 ic_1 ?_
          refine sm_isub C dX0_handicapOf_102 ?_
          refine sm_goto C 108 dX0_handicapOf_103 (by decide) ?_
          exact sm_sub [0, 1, 2, 3, 4, 5, 6] rfl (sl_X0_handicapOf_L108 C hcv hrv ih y2 y3 y4 y5 y6 (y4 - (1 : Int32)) s0)
set_option maxRecDepth 100000 in
set_option maxHeartbeats 4000000 in
theorem ct_X0_handicapOf {l : Launch} {w : Wco} (cv : Nat) (rv : Nat) (hcv : isC w cv) (hrv : isV w rv) (x1 : Int32) (s0 : Sta) (qq : Int32) (ss : Sta) (hh : X0_handicapOf cv rv x1 s0 = some (qq, ss)) : Ct l w yX0_handicapOf (Cond.code yX0_handicapOf cX0_handicapOf 8 (some .int) :: GT) { frames := 5, cells := 0, slots := 0, locals := 139 } [.ref (wad w cv), .ref (wad w rv), .int x1] s0 (oI qq) ss := by
  refine ct_of [(0, .ref (wad w cv)), (1, .ref (wad w rv)), (2, .int x1)] (by decide +kernel) (Nat.le_of_ble_eq_true rfl) rfl hh (fun M _ C => ?_)
  unfold X0_handicapOf
  refine sm_aload_n C 1 dX0_handicapOf_0 rfl ?_
  refine sm_getIN C (ci := 10) (R := RX10) (T := TX10) (N := 13) (j := 11) (V_O hrv).2 (V_O hrv).1 rfl gX10 (by decide) nf_26 dX0_handicapOf_1 (fun _ _ => rfl) (fun v1 => ?_)
  refine sm_istore_n C [(3, .int v1), (0, .ref (wad w cv)), (1, .ref (wad w rv)), (2, .int x1)] dX0_handicapOf_4 (by decide) rfl ?_
  refine sm_iload_n C 0 dX0_handicapOf_5 rfl ?_
  refine sm_iconst C (0 : Int32) dX0_handicapOf_6 ic_0 ?_
  refine sm_bipush C (7 : Int32) dX0_handicapOf_7 bp_7 ?_
  refine r_callSNI C [.int v1, .int (0 : Int32), .int (7 : Int32)] (fun qq ss hh => ct_X11_within v1 (0 : Int32) (7 : Int32) s0 qq ss hh) nm_14 kw_347 kw_51 kw_348 dX0_handicapOf_9 rfl dd_X11_within ⟨rfl, rfl⟩ ⟨by decide, by decide⟩ (Nat.le_of_ble_eq_true rfl) _ rfl (fun q2 s3 => ?_)
  refine sm_if_eq C 34 dX0_handicapOf_12 (by decide) ?_ ?_
  · refine sm_iconst C (-1 : Int32) dX0_handicapOf_34 ic_m1 ?_
    exact sm_iret C dX0_handicapOf_35
  · refine sm_aload_n C 2 dX0_handicapOf_15 rfl ?_
    refine sm_getRN C (ci := 10) (R := RX10) (T := TX10) (N := 13) (j := 0) (V_O hrv).2 (V_O hrv).1 rfl gX10 (by decide) nf_4 dX0_handicapOf_16 (fun _ _ => rfl) ?_
    refine sm_iload_n C 0 dX0_handicapOf_19 rfl ?_
    refine r_iald C (V_sorts hrv) dX0_handicapOf_20 (fun v4 => ?_)
    refine sm_iconst C (-1 : Int32) dX0_handicapOf_21 ic_m1 ?_
    refine sm_icmp_eq C 34 dX0_handicapOf_22 (by decide) ?_ ?_
    · refine sm_iconst C (-1 : Int32) dX0_handicapOf_34 ic_m1 ?_
      exact sm_iret C dX0_handicapOf_35
    · refine sm_aload_n C 1 dX0_handicapOf_25 rfl ?_
      refine sm_aload_n C 2 dX0_handicapOf_26 rfl ?_
      refine sm_iload_n C 3 dX0_handicapOf_27 rfl ?_
      refine r_callVI C (R := RX0) (T := TX0) (N := 5) [.ref (wad w rv), .int x1] (C_O hcv) rfl (fun qq ss hh => ct_X0_isBarred cv rv hcv hrv x1 s3 qq ss hh) kw_516 kw_517 kw_518 kw_55 kw_519 dX0_handicapOf_28 rfl dd_X0_isBarred ⟨rfl, rfl⟩ ⟨by decide, by decide⟩ (Nat.le_of_ble_eq_true rfl) _ rfl (fun q5 s6 => ?_)
      refine sm_if_eq C 36 dX0_handicapOf_31 (by decide) ?_ ?_
      · refine sm_aload_n C 1 dX0_handicapOf_36 rfl ?_
        refine sm_aload_n C 2 dX0_handicapOf_37 rfl ?_
        refine sm_getRN C (ci := 10) (R := RX10) (T := TX10) (N := 13) (j := 2) (V_O hrv).2 (V_O hrv).1 rfl gX10 (by decide) nf_9 dX0_handicapOf_38 (fun _ _ => rfl) ?_
        refine sm_iload_n C 3 dX0_handicapOf_41 rfl ?_
        refine r_iald C (V_kinds hrv) dX0_handicapOf_42 (fun v7 => ?_)
        refine sm_aload_n C 2 dX0_handicapOf_43 rfl ?_
        refine sm_getRN C (ci := 10) (R := RX10) (T := TX10) (N := 13) (j := 3) (V_O hrv).2 (V_O hrv).1 rfl gX10 (by decide) nf_11 dX0_handicapOf_44 (fun _ _ => rfl) ?_
        refine sm_iload_n C 3 dX0_handicapOf_47 rfl ?_
        refine sm_iconst C (3 : Int32) dX0_handicapOf_48 ic_3 ?_
        refine sm_imul C dX0_handicapOf_49 ?_
        refine sm_aload_n C 2 dX0_handicapOf_50 rfl ?_
        refine sm_getRN C (ci := 10) (R := RX10) (T := TX10) (N := 13) (j := 0) (V_O hrv).2 (V_O hrv).1 rfl gX10 (by decide) nf_4 dX0_handicapOf_51 (fun _ _ => rfl) ?_
        refine sm_iload_n C 0 dX0_handicapOf_54 rfl ?_
        refine r_iald C (V_sorts hrv) dX0_handicapOf_55 (fun v8 => ?_)
        refine sm_iadd C dX0_handicapOf_56 ?_
        refine r_iald C (V_arts hrv) dX0_handicapOf_57 (fun v9 => ?_)
        refine sm_iload_n C 0 dX0_handicapOf_58 rfl ?_
        refine r_callVI C (R := RX0) (T := TX0) (N := 5) [.int v7, .int v9, .int v1] (C_O hcv) rfl (fun qq ss hh => ct_X0_skillBy cv hcv v7 v9 v1 s6 qq ss hh) kw_699 kw_608 kw_609 kw_55 kw_610 dX0_handicapOf_59 rfl dd_X0_skillBy ⟨rfl, rfl⟩ ⟨by decide, by decide⟩ (Nat.le_of_ble_eq_true rfl) _ rfl (fun q10 s11 => ?_)
        refine sm_istore C [(4, .int q10), (3, .int v1), (0, .ref (wad w cv)), (1, .ref (wad w rv)), (2, .int x1)] dX0_handicapOf_62 (by decide) rfl ?_
        refine sm_iload C 0 dX0_handicapOf_64 rfl ?_
        refine sm_iconst C (1 : Int32) dX0_handicapOf_66 ic_1 ?_
        refine sm_icmp_ge C 72 dX0_handicapOf_67 (by decide) ?_ ?_
        · refine sm_iconst C (0 : Int32) dX0_handicapOf_72 ic_0 ?_
          refine sm_istore C [(5, .int (0 : Int32)), (4, .int q10), (3, .int v1), (0, .ref (wad w cv)), (1, .ref (wad w rv)), (2, .int x1)] dX0_handicapOf_73 (by decide) rfl ?_
          refine sm_iconst C (0 : Int32) dX0_handicapOf_75 ic_0 ?_
          refine sm_istore C [(6, .int (0 : Int32)), (5, .int (0 : Int32)), (4, .int q10), (3, .int v1), (0, .ref (wad w cv)), (1, .ref (wad w rv)), (2, .int x1)] dX0_handicapOf_76 (by decide) rfl ?_
          exact sm_sub [4, 5, 6, 3, 2, 1, 0] rfl (sl_X0_handicapOf_L78 C hcv hrv FU x1 v1 q10 (0 : Int32) (0 : Int32) s11)
        · refine sm_iconst C (-1 : Int32) dX0_handicapOf_70 ic_m1 ?_
          exact sm_iret C dX0_handicapOf_71
      · refine sm_iconst C (-1 : Int32) dX0_handicapOf_34 ic_m1 ?_
        exact sm_iret C dX0_handicapOf_35
theorem dd_X9_cell : yX9_cell.cls = RX9 ∧ yX9_cell.cls ≠ "java/lang/invoke/MethodHandle" ∧ yX9_cell.cls ≠ "java/lang/invoke/VarHandle" ∧ (parseMethodDescriptor yX9_cell.desc).map (fun d => d.parameters.length) = some 2 := by decide +kernel
set_option maxRecDepth 100000 in
set_option maxHeartbeats 4000000 in
theorem ct_X9_cell {l : Launch} {w : Wco} (rv : Nat) (hrv : isT w rv) (x1 : Int32) (x2 : Int32) (s0 : Sta) (qq : Int32) (ss : Sta) (hh : X9_cell rv x1 x2 s0 = some (qq, ss)) : Ct l w yX9_cell (Cond.code yX9_cell cX9_cell 3 (some .int) :: GT) { frames := 0, cells := 0, slots := 0, locals := 0 } [.ref (wad w rv), .int x1, .int x2] s0 (oI qq) ss := by
  refine ct_of [(0, .ref (wad w rv)), (1, .int x1), (2, .int x2)] (by decide +kernel) (Nat.le_of_ble_eq_true rfl) rfl hh (fun M _ C => ?_)
  unfold X9_cell
  refine sm_iload_n C 1 dX9_cell_0 rfl ?_
  refine sm_if_lt C 21 dX9_cell_1 (by decide) ?_ ?_
  · refine sm_iconst C (-1 : Int32) dX9_cell_21 ic_m1 ?_
    exact sm_iret C dX9_cell_22
  · refine sm_iload_n C 1 dX9_cell_4 rfl ?_
    refine sm_aload_n C 0 dX9_cell_5 rfl ?_
    refine sm_getI C (ci := 9) (R := RX9) (T := TX9) (N := 2) (j := 1) (T_O hrv).2 (T_O hrv).1 rfl gX9 (by decide) kw_93 dX9_cell_6 (fun _ _ => rfl) (fun v1 => ?_)
    refine sm_icmp_ge C 21 dX9_cell_9 (by decide) ?_ ?_
    · refine sm_iconst C (-1 : Int32) dX9_cell_21 ic_m1 ?_
      exact sm_iret C dX9_cell_22
    · refine sm_iload_n C 2 dX9_cell_12 rfl ?_
      refine sm_if_lt C 21 dX9_cell_13 (by decide) ?_ ?_
      · refine sm_iconst C (-1 : Int32) dX9_cell_21 ic_m1 ?_
        exact sm_iret C dX9_cell_22
      · refine sm_iload_n C 2 dX9_cell_16 rfl ?_
        refine sm_iconst C (4 : Int32) dX9_cell_17 ic_4 ?_
        refine sm_icmp_lt C 23 dX9_cell_18 (by decide) ?_ ?_
        · refine sm_aload_n C 0 dX9_cell_23 rfl ?_
          refine sm_getR C (ci := 9) (R := RX9) (T := TX9) (N := 2) (j := 0) (T_O hrv).2 (T_O hrv).1 rfl gX9 (by decide) kw_92 dX9_cell_24 (fun _ _ => rfl) ?_
          refine sm_iload_n C 1 dX9_cell_27 rfl ?_
          refine sm_iconst C (4 : Int32) dX9_cell_28 ic_4 ?_
          refine sm_imul C dX9_cell_29 ?_
          refine sm_iload_n C 2 dX9_cell_30 rfl ?_
          refine sm_iadd C dX9_cell_31 ?_
          refine r_iald C (T_cells hrv) dX9_cell_32 (fun v2 => ?_)
          exact sm_iret C dX9_cell_33
        · refine sm_iconst C (-1 : Int32) dX9_cell_21 ic_m1 ?_
          exact sm_iret C dX9_cell_22
theorem dd_X0_kindFits : yX0_kindFits.cls = RX0 ∧ yX0_kindFits.cls ≠ "java/lang/invoke/MethodHandle" ∧ yX0_kindFits.cls ≠ "java/lang/invoke/VarHandle" ∧ (parseMethodDescriptor yX0_kindFits.desc).map (fun d => d.parameters.length) = some 3 := by decide +kernel
set_option maxRecDepth 100000 in
set_option maxHeartbeats 4000000 in
theorem sl_X0_kindFits_L28 {M : Mco} {w : Wco} (C : Cx M w cX0_kindFits 6 yX0_kindFits.cls (Cond.code yX0_kindFits cX0_kindFits 6 (some .boolean)) (some .boolean) { frames := 3, cells := 0, slots := 0, locals := 90 }) {cv : Nat} {rv : Nat} (hcv : isC w cv) (hrv : isT w rv) {k3 : Int32 → Int32 → Int32 → Sta → Option (Int32 × Sta)} (H3 : ∀ (y2 : Int32) (y3 : Int32) (y4 : Int32) (s0 : Sta), Sm M w 6 oI 3 [(0, .ref (wad w cv)), (1, .ref (wad w rv)), (2, .int y2), (3, .int y3), (4, .int y4)] [] s0 (k3 y2 y3 y4 s0)) : ∀ (y2 : Int32) (y3 : Int32) (y4 : Int32) (z0 : Int32) (s0 : Sta), Sm M w 6 oI 28 [(0, .ref (wad w cv)), (1, .ref (wad w rv)), (2, .int y2), (3, .int y3), (4, .int y4)] [.int z0] s0 (X0_kindFits_L28 cv rv k3 y2 y3 y4 z0 s0) := by
  intro y2 y3 y4 z0 s0
  unfold X0_kindFits_L28
  refine sm_istore C [(5, .int z0), (0, .ref (wad w cv)), (1, .ref (wad w rv)), (2, .int y2), (3, .int y3), (4, .int y4)] dX0_kindFits_28 (by decide) rfl ?_
  refine sm_aload_n C 2 dX0_kindFits_30 rfl ?_
  refine sm_iload C 5 dX0_kindFits_31 rfl ?_
  refine sm_iconst C (0 : Int32) dX0_kindFits_33 ic_0 ?_
  refine r_callVI C (R := RX9) (T := TX9) (N := 2) [.int y4, .int (0 : Int32)] (T_O hrv) rfl (fun qq ss hh => ct_X9_cell rv hrv y4 (0 : Int32) s0 qq ss hh) kw_743 kw_744 kw_745 kw_53 kw_746 dX0_kindFits_34 rfl dd_X9_cell ⟨rfl, rfl⟩ ⟨by decide, by decide⟩ (Nat.le_of_ble_eq_true rfl) _ rfl (fun q4 s5 => ?_)
  refine sm_iload_n C 3 dX0_kindFits_37 rfl ?_
  refine sm_icmp_ne C 71 dX0_kindFits_38 (by decide) ?_ ?_
  · refine sm_iinc C 5 (y4 + (1 : Int32)) [(4, .int (y4 + (1 : Int32))), (5, .int z0), (0, .ref (wad w cv)), (1, .ref (wad w rv)), (2, .int y2), (3, .int y3)] dX0_kindFits_71 rfl (ii_1 _) (by decide) rfl ?_
    refine sm_goto C 3 dX0_kindFits_74 (by decide) ?_
    exact sm_sub [2, 3, 4, 5, 0] rfl (H3 y2 y3 (y4 + (1 : Int32)) s5)
  · refine sm_aload_n C 1 dX0_kindFits_41 rfl ?_
    refine sm_getR C (ci := 0) (R := RX0) (T := TX0) (N := 5) (j := 0) (C_O hcv).2 (C_O hcv).1 rfl gX0 (by decide) kw_231 dX0_kindFits_42 (fun _ _ => rfl) ?_
    refine sm_iload_n C 4 dX0_kindFits_45 rfl ?_
    refine r_aald C (C_ways hcv) dX0_kindFits_46 (fun j6 hj6 => ?_)
    refine sm_aload_n C 2 dX0_kindFits_47 rfl ?_
    refine sm_iload C 5 dX0_kindFits_48 rfl ?_
    refine sm_iconst C (1 : Int32) dX0_kindFits_50 ic_1 ?_
    refine r_callVI C (R := RX9) (T := TX9) (N := 2) [.int y4, .int (1 : Int32)] (T_O hrv) rfl (fun qq ss hh => ct_X9_cell rv hrv y4 (1 : Int32) s5 qq ss hh) kw_743 kw_744 kw_745 kw_53 kw_746 dX0_kindFits_51 rfl dd_X9_cell ⟨rfl, rfl⟩ ⟨by decide, by decide⟩ (Nat.le_of_ble_eq_true rfl) _ rfl (fun q7 s8 => ?_)
    refine sm_aload_n C 2 dX0_kindFits_54 rfl ?_
    refine sm_iload C 5 dX0_kindFits_55 rfl ?_
    refine sm_iconst C (2 : Int32) dX0_kindFits_57 ic_2 ?_
    refine r_callVI C (R := RX9) (T := TX9) (N := 2) [.int y4, .int (2 : Int32)] (T_O hrv) rfl (fun qq ss hh => ct_X9_cell rv hrv y4 (2 : Int32) s8 qq ss hh) kw_743 kw_744 kw_745 kw_53 kw_746 dX0_kindFits_58 rfl dd_X9_cell ⟨rfl, rfl⟩ ⟨by decide, by decide⟩ (Nat.le_of_ble_eq_true rfl) _ rfl (fun q9 s10 => ?_)
    refine vc_wants C hcv hj6 dX0_kindFits_61 (Nat.le_of_ble_eq_true rfl) (by decide) (by decide) (fun q11 s12 => ?_)
    refine sm_iload C 0 dX0_kindFits_64 rfl ?_
    refine sm_icmp_eq C 71 dX0_kindFits_66 (by decide) ?_ ?_
    · refine sm_iinc C 5 (y4 + (1 : Int32)) [(4, .int (y4 + (1 : Int32))), (5, .int z0), (0, .ref (wad w cv)), (1, .ref (wad w rv)), (2, .int y2), (3, .int y3)] dX0_kindFits_71 rfl (ii_1 _) (by decide) rfl ?_
      refine sm_goto C 3 dX0_kindFits_74 (by decide) ?_
      exact sm_sub [2, 3, 4, 5, 0] rfl (H3 y2 y3 (y4 + (1 : Int32)) s12)
    · refine sm_iconst C (0 : Int32) dX0_kindFits_69 ic_0 ?_
      exact sm_zret C dX0_kindFits_70
set_option maxRecDepth 100000 in
set_option maxHeartbeats 4000000 in
theorem sl_X0_kindFits_L3 {M : Mco} {w : Wco} (C : Cx M w cX0_kindFits 6 yX0_kindFits.cls (Cond.code yX0_kindFits cX0_kindFits 6 (some .boolean)) (some .boolean) { frames := 3, cells := 0, slots := 0, locals := 90 }) {cv : Nat} {rv : Nat} (hcv : isC w cv) (hrv : isT w rv) : ∀ (n : Nat) (y2 : Int32) (y3 : Int32) (y4 : Int32) (s0 : Sta), Sm M w 6 oI 3 [(0, .ref (wad w cv)), (1, .ref (wad w rv)), (2, .int y2), (3, .int y3), (4, .int y4)] [] s0 (X0_kindFits_L3 cv rv n y2 y3 y4 s0) := by
  intro n
  induction n with
  | zero => intros; exact sm_none
  | succ n ih =>
    intro y2 y3 y4 s0
    rw [X0_kindFits_L3.eq_2]
    refine sm_iload C 4 dX0_kindFits_3 rfl ?_
    refine sm_aload_n C 1 dX0_kindFits_5 rfl ?_
    refine sm_getIN C (ci := 9) (R := RX9) (T := TX9) (N := 2) (j := 1) (T_O hrv).2 (T_O hrv).1 rfl gX9 (by decide) nf_1 dX0_kindFits_6 (fun _ _ => rfl) (fun v1 => ?_)
    refine sm_icmp_ge C 77 dX0_kindFits_9 (by decide) ?_ ?_
    · refine sm_iconst C (1 : Int32) dX0_kindFits_77 ic_1 ?_
      exact sm_zret C dX0_kindFits_78
    · refine sm_aload_n C 1 dX0_kindFits_12 rfl ?_
      refine sm_iload C 4 dX0_kindFits_13 rfl ?_
      refine sm_iconst C (3 : Int32) dX0_kindFits_15 ic_3 ?_
      refine r_callVI C (R := RX9) (T := TX9) (N := 2) [.int y4, .int (3 : Int32)] (T_O hrv) rfl (fun qq ss hh => ct_X9_cell rv hrv y4 (3 : Int32) s0 qq ss hh) kw_743 kw_744 kw_745 kw_53 kw_746 dX0_kindFits_16 rfl dd_X9_cell ⟨rfl, rfl⟩ ⟨by decide, by decide⟩ (Nat.le_of_ble_eq_true rfl) _ rfl (fun q2 s3 => ?_)
      refine sm_iconst C (1 : Int32) dX0_kindFits_19 ic_1 ?_
      refine sm_icmp_ne C 27 dX0_kindFits_20 (by decide) ?_ ?_
      · refine sm_iconst C (0 : Int32) dX0_kindFits_27 ic_0 ?_
        exact sm_sub [0, 1, 2, 3, 4] rfl (sl_X0_kindFits_L28 C hcv hrv ih y2 y3 y4 (0 : Int32) s3)
      · refine sm_iconst C (1 : Int32) dX0_kindFits_23 ic_1 ?_
        refine sm_goto C 28 dX0_kindFits_24 (by decide) ?_
        exact sm_sub [0, 1, 2, 3, 4] rfl (sl_X0_kindFits_L28 C hcv hrv ih y2 y3 y4 (1 : Int32) s3)
set_option maxRecDepth 100000 in
set_option maxHeartbeats 4000000 in
theorem ct_X0_kindFits {l : Launch} {w : Wco} (cv : Nat) (rv : Nat) (hcv : isC w cv) (hrv : isT w rv) (x1 : Int32) (x2 : Int32) (s0 : Sta) (qq : Int32) (ss : Sta) (hh : X0_kindFits cv rv x1 x2 s0 = some (qq, ss)) : Ct l w yX0_kindFits (Cond.code yX0_kindFits cX0_kindFits 6 (some .boolean) :: GT) { frames := 3, cells := 0, slots := 0, locals := 90 } [.ref (wad w cv), .ref (wad w rv), .int x1, .int x2] s0 (oI qq) ss := by
  refine ct_of [(0, .ref (wad w cv)), (1, .ref (wad w rv)), (2, .int x1), (3, .int x2)] (by decide +kernel) (Nat.le_of_ble_eq_true rfl) rfl hh (fun M _ C => ?_)
  unfold X0_kindFits
  refine sm_iconst C (0 : Int32) dX0_kindFits_0 ic_0 ?_
  refine sm_istore C [(4, .int (0 : Int32)), (0, .ref (wad w cv)), (1, .ref (wad w rv)), (2, .int x1), (3, .int x2)] dX0_kindFits_1 (by decide) rfl ?_
  exact sm_sub [1, 2, 3, 4, 0] rfl (sl_X0_kindFits_L3 C hcv hrv FU x1 x2 (0 : Int32) s0)
theorem dd_X0_kindsThatFit : yX0_kindsThatFit.cls = RX0 ∧ yX0_kindsThatFit.cls ≠ "java/lang/invoke/MethodHandle" ∧ yX0_kindsThatFit.cls ≠ "java/lang/invoke/VarHandle" ∧ (parseMethodDescriptor yX0_kindsThatFit.desc).map (fun d => d.parameters.length) = some 2 := by decide +kernel
set_option maxRecDepth 100000 in
set_option maxHeartbeats 4000000 in
theorem sl_X0_kindsThatFit_L5 {M : Mco} {w : Wco} (C : Cx M w cX0_kindsThatFit 5 yX0_kindsThatFit.cls (Cond.code yX0_kindsThatFit cX0_kindsThatFit 5 (some .int)) (some .int) { frames := 4, cells := 0, slots := 0, locals := 115 }) {cv : Nat} {rv : Nat} (hcv : isC w cv) (hrv : isT w rv) : ∀ (n : Nat) (y2 : Int32) (y3 : Int32) (y4 : Int32) (s0 : Sta), Sm M w 5 oI 5 [(0, .ref (wad w cv)), (1, .ref (wad w rv)), (2, .int y2), (3, .int y3), (4, .int y4)] [] s0 (X0_kindsThatFit_L5 cv rv n y2 y3 y4 s0) := by
  intro n
  induction n with
  | zero => intros; exact sm_none
  | succ n ih =>
    intro y2 y3 y4 s0
    rw [X0_kindsThatFit_L5.eq_2]
    refine sm_iload C 4 dX0_kindsThatFit_5 rfl ?_
    refine sm_bipush C (6 : Int32) dX0_kindsThatFit_7 bp_6 ?_
    refine sm_icmp_ge C 36 dX0_kindsThatFit_9 (by decide) ?_ ?_
    · refine sm_iload_n C 3 dX0_kindsThatFit_36 rfl ?_
      exact sm_iret C dX0_kindsThatFit_37
    · refine sm_aload_n C 0 dX0_kindsThatFit_12 rfl ?_
      refine sm_aload_n C 1 dX0_kindsThatFit_13 rfl ?_
      refine sm_iload_n C 2 dX0_kindsThatFit_14 rfl ?_
      refine sm_iload C 4 dX0_kindsThatFit_15 rfl ?_
      refine r_callVI C (R := RX0) (T := TX0) (N := 5) [.ref (wad w rv), .int y2, .int y4] (C_O hcv) rfl (fun qq ss hh => ct_X0_kindFits cv rv hcv hrv y2 y4 s0 qq ss hh) kw_739 kw_741 kw_13 kw_55 kw_742 dX0_kindsThatFit_17 rfl dd_X0_kindFits ⟨rfl, rfl⟩ ⟨by decide, by decide⟩ (Nat.le_of_ble_eq_true rfl) _ rfl (fun q1 s2 => ?_)
      refine sm_if_eq C 30 dX0_kindsThatFit_20 (by decide) ?_ ?_
      · refine sm_iinc C 4 (y4 + (1 : Int32)) [(4, .int (y4 + (1 : Int32))), (0, .ref (wad w cv)), (1, .ref (wad w rv)), (2, .int y2), (3, .int y3)] dX0_kindsThatFit_30 rfl (ii_1 _) (by decide) rfl ?_
        refine sm_goto C 5 dX0_kindsThatFit_33 (by decide) ?_
        exact sm_sub [1, 2, 3, 4, 0] rfl (ih y2 y3 (y4 + (1 : Int32)) s2)
      · refine sm_iload_n C 3 dX0_kindsThatFit_23 rfl ?_
        refine sm_iconst C (1 : Int32) dX0_kindsThatFit_24 ic_1 ?_
        refine sm_iload C 4 dX0_kindsThatFit_25 rfl ?_
        refine sm_ishl C dX0_kindsThatFit_27 ?_
        refine sm_ior C dX0_kindsThatFit_28 ?_
        refine sm_istore_n C [(3, .int (y3 ||| ((1 : Int32) <<< (y4 &&& 31)))), (0, .ref (wad w cv)), (1, .ref (wad w rv)), (2, .int y2), (4, .int y4)] dX0_kindsThatFit_29 (by decide) rfl ?_
        refine sm_iinc C 4 (y4 + (1 : Int32)) [(4, .int (y4 + (1 : Int32))), (3, .int (y3 ||| ((1 : Int32) <<< (y4 &&& 31)))), (0, .ref (wad w cv)), (1, .ref (wad w rv)), (2, .int y2)] dX0_kindsThatFit_30 rfl (ii_1 _) (by decide) rfl ?_
        refine sm_goto C 5 dX0_kindsThatFit_33 (by decide) ?_
        exact sm_sub [2, 3, 4, 1, 0] rfl (ih y2 (y3 ||| ((1 : Int32) <<< (y4 &&& 31))) (y4 + (1 : Int32)) s2)
set_option maxRecDepth 100000 in
set_option maxHeartbeats 4000000 in
theorem ct_X0_kindsThatFit {l : Launch} {w : Wco} (cv : Nat) (rv : Nat) (hcv : isC w cv) (hrv : isT w rv) (x1 : Int32) (s0 : Sta) (qq : Int32) (ss : Sta) (hh : X0_kindsThatFit cv rv x1 s0 = some (qq, ss)) : Ct l w yX0_kindsThatFit (Cond.code yX0_kindsThatFit cX0_kindsThatFit 5 (some .int) :: GT) { frames := 4, cells := 0, slots := 0, locals := 115 } [.ref (wad w cv), .ref (wad w rv), .int x1] s0 (oI qq) ss := by
  refine ct_of [(0, .ref (wad w cv)), (1, .ref (wad w rv)), (2, .int x1)] (by decide +kernel) (Nat.le_of_ble_eq_true rfl) rfl hh (fun M _ C => ?_)
  unfold X0_kindsThatFit
  refine sm_iconst C (0 : Int32) dX0_kindsThatFit_0 ic_0 ?_
  refine sm_istore_n C [(3, .int (0 : Int32)), (0, .ref (wad w cv)), (1, .ref (wad w rv)), (2, .int x1)] dX0_kindsThatFit_1 (by decide) rfl ?_
  refine sm_iconst C (0 : Int32) dX0_kindsThatFit_2 ic_0 ?_
  refine sm_istore C [(4, .int (0 : Int32)), (3, .int (0 : Int32)), (0, .ref (wad w cv)), (1, .ref (wad w rv)), (2, .int x1)] dX0_kindsThatFit_3 (by decide) rfl ?_
  exact sm_sub [2, 3, 4, 1, 0] rfl (sl_X0_kindsThatFit_L5 C hcv hrv FU x1 (0 : Int32) (0 : Int32) s0)
theorem dd_X0_tellingWorth : yX0_tellingWorth.cls = RX0 ∧ yX0_tellingWorth.cls ≠ "java/lang/invoke/MethodHandle" ∧ yX0_tellingWorth.cls ≠ "java/lang/invoke/VarHandle" ∧ (parseMethodDescriptor yX0_tellingWorth.desc).map (fun d => d.parameters.length) = some 2 := by decide +kernel
set_option maxRecDepth 100000 in
set_option maxHeartbeats 4000000 in
theorem sl_X0_tellingWorth_L34 {M : Mco} {w : Wco} (C : Cx M w cX0_tellingWorth 9 yX0_tellingWorth.cls (Cond.code yX0_tellingWorth cX0_tellingWorth 9 (some .int)) (some .int) { frames := 3, cells := 0, slots := 0, locals := 90 }) {cv : Nat} (hcv : isC w cv) {k21 : Int32 → Int32 → Int32 → Int32 → Int32 → Int32 → Sta → Option (Int32 × Sta)} (H21 : ∀ (y1 : Int32) (y2 : Int32) (y3 : Int32) (y4 : Int32) (y5 : Int32) (y6 : Int32) (s0 : Sta), Sm M w 9 oI 21 [(0, .ref (wad w cv)), (1, .int y1), (2, .int y2), (3, .int y3), (4, .int y4), (5, .int y5), (6, .int y6)] [] s0 (k21 y1 y2 y3 y4 y5 y6 s0)) : ∀ (n : Nat) (y1 : Int32) (y2 : Int32) (y3 : Int32) (y4 : Int32) (y5 : Int32) (y6 : Int32) (y7 : Int32) (y8 : Int32) (s0 : Sta), Sm M w 9 oI 34 [(0, .ref (wad w cv)), (1, .int y1), (2, .int y2), (3, .int y3), (4, .int y4), (5, .int y5), (6, .int y6), (7, .int y7), (8, .int y8)] [] s0 (X0_tellingWorth_L34 cv k21 n y1 y2 y3 y4 y5 y6 y7 y8 s0) := by
  intro n
  induction n with
  | zero => intros; exact sm_none
  | succ n ih =>
    intro y1 y2 y3 y4 y5 y6 y7 y8 s0
    rw [X0_tellingWorth_L34.eq_2]
    refine sm_iload C 8 dX0_tellingWorth_34 rfl ?_
    refine sm_bipush C (6 : Int32) dX0_tellingWorth_36 bp_6 ?_
    refine sm_icmp_ge C 76 dX0_tellingWorth_38 (by decide) ?_ ?_
    · refine sm_iload C 7 dX0_tellingWorth_76 rfl ?_
      refine sm_iload_n C 3 dX0_tellingWorth_78 rfl ?_
      refine sm_iload C 7 dX0_tellingWorth_79 rfl ?_
      refine sm_isub C dX0_tellingWorth_81 ?_
      refine r_max C kw_700 (by decide) (Nat.le_of_ble_eq_true rfl) dX0_tellingWorth_82 ?_
      refine sm_istore C [(8, .int (if y7 < (y3 - y7) then (y3 - y7) else y7)), (0, .ref (wad w cv)), (1, .int y1), (2, .int y2), (3, .int y3), (4, .int y4), (5, .int y5), (6, .int y6), (7, .int y7)] dX0_tellingWorth_85 (by decide) rfl ?_
      refine sm_iload C 0 dX0_tellingWorth_87 rfl ?_
      refine sm_iload C 5 dX0_tellingWorth_89 rfl ?_
      refine sm_icmp_ge C 102 dX0_tellingWorth_91 (by decide) ?_ ?_
      · refine sm_iinc C 7 (y6 + (1 : Int32)) [(6, .int (y6 + (1 : Int32))), (8, .int (if y7 < (y3 - y7) then (y3 - y7) else y7)), (0, .ref (wad w cv)), (1, .int y1), (2, .int y2), (3, .int y3), (4, .int y4), (5, .int y5), (7, .int y7)] dX0_tellingWorth_102 rfl (ii_1 _) (by decide) rfl ?_
        refine sm_goto C 21 dX0_tellingWorth_105 (by decide) ?_
        exact sm_sub [2, 3, 4, 5, 6, 7, 0] rfl (H21 y1 y2 y3 y4 y5 (y6 + (1 : Int32)) s0)
      · refine sm_iload C 0 dX0_tellingWorth_94 rfl ?_
        refine sm_istore C [(4, .int (if y7 < (y3 - y7) then (y3 - y7) else y7)), (8, .int (if y7 < (y3 - y7) then (y3 - y7) else y7)), (0, .ref (wad w cv)), (1, .int y1), (2, .int y2), (3, .int y3), (5, .int y5), (6, .int y6), (7, .int y7)] dX0_tellingWorth_96 (by decide) rfl ?_
        refine sm_iload C 7 dX0_tellingWorth_98 rfl ?_
        refine sm_istore C [(5, .int y6), (4, .int (if y7 < (y3 - y7) then (y3 - y7) else y7)), (8, .int (if y7 < (y3 - y7) then (y3 - y7) else y7)), (0, .ref (wad w cv)), (1, .int y1), (2, .int y2), (3, .int y3), (6, .int y6), (7, .int y7)] dX0_tellingWorth_100 (by decide) rfl ?_
        refine sm_iinc C 7 (y6 + (1 : Int32)) [(6, .int (y6 + (1 : Int32))), (5, .int y6), (4, .int (if y7 < (y3 - y7) then (y3 - y7) else y7)), (8, .int (if y7 < (y3 - y7) then (y3 - y7) else y7)), (0, .ref (wad w cv)), (1, .int y1), (2, .int y2), (3, .int y3), (7, .int y7)] dX0_tellingWorth_102 rfl (ii_1 _) (by decide) rfl ?_
        refine sm_goto C 21 dX0_tellingWorth_105 (by decide) ?_
        exact sm_sub [4, 5, 6, 7, 2, 1, 0] rfl (H21 y1 y2 y3 (if y7 < (y3 - y7) then (y3 - y7) else y7) y6 (y6 + (1 : Int32)) s0)
    · refine sm_iload_n C 1 dX0_tellingWorth_41 rfl ?_
      refine sm_iload C 8 dX0_tellingWorth_42 rfl ?_
      refine sm_ishr C dX0_tellingWorth_44 ?_
      refine sm_iconst C (1 : Int32) dX0_tellingWorth_45 ic_1 ?_
      refine sm_iand C dX0_tellingWorth_46 ?_
      refine sm_iconst C (1 : Int32) dX0_tellingWorth_47 ic_1 ?_
      refine sm_icmp_ne C 70 dX0_tellingWorth_48 (by decide) ?_ ?_
      · refine sm_iinc C 8 (y8 + (1 : Int32)) [(8, .int (y8 + (1 : Int32))), (0, .ref (wad w cv)), (1, .int y1), (2, .int y2), (3, .int y3), (4, .int y4), (5, .int y5), (6, .int y6), (7, .int y7)] dX0_tellingWorth_70 rfl (ii_1 _) (by decide) rfl ?_
        refine sm_goto C 34 dX0_tellingWorth_73 (by decide) ?_
        exact sm_sub [1, 2, 3, 4, 5, 6, 7, 8, 0] rfl (ih y1 y2 y3 y4 y5 y6 y7 (y8 + (1 : Int32)) s0)
      · refine sm_aload_n C 0 dX0_tellingWorth_51 rfl ?_
        refine sm_getR C (ci := 0) (R := RX0) (T := TX0) (N := 5) (j := 0) (C_O hcv).2 (C_O hcv).1 rfl gX0 (by decide) kw_231 dX0_tellingWorth_52 (fun _ _ => rfl) ?_
        refine sm_iload C 8 dX0_tellingWorth_55 rfl ?_
        refine r_aald C (C_ways hcv) dX0_tellingWorth_57 (fun j3 hj3 => ?_)
        refine sm_iload C 6 dX0_tellingWorth_58 rfl ?_
        refine sm_iload_n C 2 dX0_tellingWorth_60 rfl ?_
        refine vc_wants C hcv hj3 dX0_tellingWorth_61 (Nat.le_of_ble_eq_true rfl) (by decide) (by decide) (fun q4 s5 => ?_)
        refine sm_if_eq C 70 dX0_tellingWorth_64 (by decide) ?_ ?_
        · refine sm_iinc C 8 (y8 + (1 : Int32)) [(8, .int (y8 + (1 : Int32))), (0, .ref (wad w cv)), (1, .int y1), (2, .int y2), (3, .int y3), (4, .int y4), (5, .int y5), (6, .int y6), (7, .int y7)] dX0_tellingWorth_70 rfl (ii_1 _) (by decide) rfl ?_
          refine sm_goto C 34 dX0_tellingWorth_73 (by decide) ?_
          exact sm_sub [1, 2, 3, 4, 5, 6, 7, 8, 0] rfl (ih y1 y2 y3 y4 y5 y6 y7 (y8 + (1 : Int32)) s5)
        · refine sm_iinc C 7 (y7 + (1 : Int32)) [(7, .int (y7 + (1 : Int32))), (0, .ref (wad w cv)), (1, .int y1), (2, .int y2), (3, .int y3), (4, .int y4), (5, .int y5), (6, .int y6), (8, .int y8)] dX0_tellingWorth_67 rfl (ii_1 _) (by decide) rfl ?_
          refine sm_iinc C 8 (y8 + (1 : Int32)) [(8, .int (y8 + (1 : Int32))), (7, .int (y7 + (1 : Int32))), (0, .ref (wad w cv)), (1, .int y1), (2, .int y2), (3, .int y3), (4, .int y4), (5, .int y5), (6, .int y6)] dX0_tellingWorth_70 rfl (ii_1 _) (by decide) rfl ?_
          refine sm_goto C 34 dX0_tellingWorth_73 (by decide) ?_
          exact sm_sub [2, 3, 4, 5, 6, 7, 8, 1, 0] rfl (ih y1 y2 y3 y4 y5 y6 (y7 + (1 : Int32)) (y8 + (1 : Int32)) s5)
set_option maxRecDepth 100000 in
set_option maxHeartbeats 4000000 in
theorem sl_X0_tellingWorth_L21 {M : Mco} {w : Wco} (C : Cx M w cX0_tellingWorth 9 yX0_tellingWorth.cls (Cond.code yX0_tellingWorth cX0_tellingWorth 9 (some .int)) (some .int) { frames := 3, cells := 0, slots := 0, locals := 90 }) {cv : Nat} (hcv : isC w cv) : ∀ (n : Nat) (y1 : Int32) (y2 : Int32) (y3 : Int32) (y4 : Int32) (y5 : Int32) (y6 : Int32) (s0 : Sta), Sm M w 9 oI 21 [(0, .ref (wad w cv)), (1, .int y1), (2, .int y2), (3, .int y3), (4, .int y4), (5, .int y5), (6, .int y6)] [] s0 (X0_tellingWorth_L21 cv n y1 y2 y3 y4 y5 y6 s0) := by
  intro n
  induction n with
  | zero => intros; exact sm_none
  | succ n ih =>
    intro y1 y2 y3 y4 y5 y6 s0
    rw [X0_tellingWorth_L21.eq_2]
    refine sm_iload C 6 dX0_tellingWorth_21 rfl ?_
    refine sm_bipush C (30 : Int32) dX0_tellingWorth_23 bp_30 ?_
    refine sm_icmp_gt C 108 dX0_tellingWorth_25 (by decide) ?_ ?_
    · refine sm_iload C 5 dX0_tellingWorth_108 rfl ?_
      exact sm_iret C dX0_tellingWorth_110
    · refine sm_iconst C (0 : Int32) dX0_tellingWorth_28 ic_0 ?_
      refine sm_istore C [(7, .int (0 : Int32)), (0, .ref (wad w cv)), (1, .int y1), (2, .int y2), (3, .int y3), (4, .int y4), (5, .int y5), (6, .int y6)] dX0_tellingWorth_29 (by decide) rfl ?_
      refine sm_iconst C (0 : Int32) dX0_tellingWorth_31 ic_0 ?_
      refine sm_istore C [(8, .int (0 : Int32)), (7, .int (0 : Int32)), (0, .ref (wad w cv)), (1, .int y1), (2, .int y2), (3, .int y3), (4, .int y4), (5, .int y5), (6, .int y6)] dX0_tellingWorth_32 (by decide) rfl ?_
      exact sm_sub [2, 3, 4, 5, 6, 7, 8, 1, 0] rfl (sl_X0_tellingWorth_L34 C hcv ih FU y1 y2 y3 y4 y5 y6 (0 : Int32) (0 : Int32) s0)
set_option maxRecDepth 100000 in
set_option maxHeartbeats 4000000 in
theorem ct_X0_tellingWorth {l : Launch} {w : Wco} (cv : Nat) (hcv : isC w cv) (x1 : Int32) (x2 : Int32) (s0 : Sta) (qq : Int32) (ss : Sta) (hh : X0_tellingWorth cv x1 x2 s0 = some (qq, ss)) : Ct l w yX0_tellingWorth (Cond.code yX0_tellingWorth cX0_tellingWorth 9 (some .int) :: GT) { frames := 3, cells := 0, slots := 0, locals := 90 } [.ref (wad w cv), .int x1, .int x2] s0 (oI qq) ss := by
  refine ct_of [(0, .ref (wad w cv)), (1, .int x1), (2, .int x2)] (by decide +kernel) (Nat.le_of_ble_eq_true rfl) rfl hh (fun M _ C => ?_)
  unfold X0_tellingWorth
  refine sm_iload_n C 1 dX0_tellingWorth_0 rfl ?_
  refine r_callSI C [.int x1] (fun qq ss hh => ct_J6_bitCount_0f7a4 x1 s0 qq ss hh) kw_520 kw_521 kw_70 kw_522 dX0_tellingWorth_1 rfl dd_J6_bitCount_0f7a4 ⟨rfl, rfl⟩ ⟨by decide, by decide⟩ (Nat.le_of_ble_eq_true rfl) _ rfl (fun q1 s2 => ?_)
  refine sm_istore_n C [(3, .int q1), (0, .ref (wad w cv)), (1, .int x1), (2, .int x2)] dX0_tellingWorth_4 (by decide) rfl ?_
  refine sm_iload_n C 0 dX0_tellingWorth_5 rfl ?_
  refine sm_if_ne C 11 dX0_tellingWorth_6 (by decide) ?_ ?_
  · refine sm_bipush C (7 : Int32) dX0_tellingWorth_11 bp_7 ?_
    refine sm_istore C [(4, .int (7 : Int32)), (3, .int q1), (0, .ref (wad w cv)), (1, .int x1), (2, .int x2)] dX0_tellingWorth_13 (by decide) rfl ?_
    refine sm_iconst C (-1 : Int32) dX0_tellingWorth_15 ic_m1 ?_
    refine sm_istore C [(5, .int (-1 : Int32)), (4, .int (7 : Int32)), (3, .int q1), (0, .ref (wad w cv)), (1, .int x1), (2, .int x2)] dX0_tellingWorth_16 (by decide) rfl ?_
    refine sm_iconst C (1 : Int32) dX0_tellingWorth_18 ic_1 ?_
    refine sm_istore C [(6, .int (1 : Int32)), (5, .int (-1 : Int32)), (4, .int (7 : Int32)), (3, .int q1), (0, .ref (wad w cv)), (1, .int x1), (2, .int x2)] dX0_tellingWorth_19 (by decide) rfl ?_
    exact sm_sub [4, 5, 6, 3, 2, 1, 0] rfl (sl_X0_tellingWorth_L21 C hcv FU x1 x2 q1 (7 : Int32) (-1 : Int32) (1 : Int32) s2)
  · refine sm_iconst C (-1 : Int32) dX0_tellingWorth_9 ic_m1 ?_
    exact sm_iret C dX0_tellingWorth_10
theorem dd_X0_isSoWith : yX0_isSoWith.cls = RX0 ∧ yX0_isSoWith.cls ≠ "java/lang/invoke/MethodHandle" ∧ yX0_isSoWith.cls ≠ "java/lang/invoke/VarHandle" ∧ (parseMethodDescriptor yX0_isSoWith.desc).map (fun d => d.parameters.length) = some 4 := by decide +kernel
set_option maxRecDepth 100000 in
set_option maxHeartbeats 4000000 in
theorem sl_X0_isSoWith_L134 {M : Mco} {w : Wco} (C : Cx M w cX0_isSoWith 11 yX0_isSoWith.cls (Cond.code yX0_isSoWith cX0_isSoWith 11 (some .boolean)) (some .boolean) { frames := 4, cells := 0, slots := 0, locals := 113 }) {cv : Nat} {rv : Nat} (hcv : isC w cv) (hrv : isV w rv) : ∀ (y5 : Int32) (y6 : Int32) (y8 : Int32) (y9 : Int32) (z0 : Int32) (s0 : Sta), Sm M w 11 oI 134 [(0, .ref (wad w cv)), (1, .ref (wad w rv)), (5, .int y5), (6, .int y6), (8, .int y8), (9, .int y9)] [.int z0] s0 (X0_isSoWith_L134 cv rv y5 y6 y8 y9 z0 s0) := by
  intro y5 y6 y8 y9 z0 s0
  unfold X0_isSoWith_L134
  refine sm_istore C [(10, .int z0), (0, .ref (wad w cv)), (1, .ref (wad w rv)), (5, .int y5), (6, .int y6), (8, .int y8), (9, .int y9)] dX0_isSoWith_134 (by decide) rfl ?_
  refine sm_aload_n C 1 dX0_isSoWith_136 rfl ?_
  refine sm_aload_n C 2 dX0_isSoWith_137 rfl ?_
  refine sm_getRN C (ci := 10) (R := RX10) (T := TX10) (N := 13) (j := 2) (V_O hrv).2 (V_O hrv).1 rfl gX10 (by decide) nf_9 dX0_isSoWith_138 (fun _ _ => rfl) ?_
  refine sm_iload C 3 dX0_isSoWith_141 rfl ?_
  refine r_iald C (V_kinds hrv) dX0_isSoWith_143 (fun v19 => ?_)
  refine sm_iload C 6 dX0_isSoWith_144 rfl ?_
  refine sm_iload C 5 dX0_isSoWith_146 rfl ?_
  refine r_callVI C (R := RX0) (T := TX0) (N := 5) [.int v19, .int y9, .int y8] (C_O hcv) rfl (fun qq ss hh => ct_X0_skillBy cv hcv v19 y9 y8 s0 qq ss hh) kw_699 kw_608 kw_609 kw_55 kw_610 dX0_isSoWith_148 rfl dd_X0_skillBy ⟨rfl, rfl⟩ ⟨by decide, by decide⟩ (Nat.le_of_ble_eq_true rfl) _ rfl (fun q20 s21 => ?_)
  refine sm_aload_n C 1 dX0_isSoWith_151 rfl ?_
  refine sm_aload_n C 2 dX0_isSoWith_152 rfl ?_
  refine sm_getRN C (ci := 10) (R := RX10) (T := TX10) (N := 13) (j := 2) (V_O hrv).2 (V_O hrv).1 rfl gX10 (by decide) nf_9 dX0_isSoWith_153 (fun _ _ => rfl) ?_
  refine sm_iload C 4 dX0_isSoWith_156 rfl ?_
  refine r_iald C (V_kinds hrv) dX0_isSoWith_158 (fun v22 => ?_)
  refine sm_iload C 0 dX0_isSoWith_159 rfl ?_
  refine sm_iload C 5 dX0_isSoWith_161 rfl ?_
  refine r_callVI C (R := RX0) (T := TX0) (N := 5) [.int v22, .int z0, .int y8] (C_O hcv) rfl (fun qq ss hh => ct_X0_skillBy cv hcv v22 z0 y8 s21 qq ss hh) kw_699 kw_608 kw_609 kw_55 kw_610 dX0_isSoWith_163 rfl dd_X0_skillBy ⟨rfl, rfl⟩ ⟨by decide, by decide⟩ (Nat.le_of_ble_eq_true rfl) _ rfl (fun q23 s24 => ?_)
  refine sm_icmp_le C 173 dX0_isSoWith_166 (by decide) ?_ ?_
  · refine sm_iconst C (0 : Int32) dX0_isSoWith_173 ic_0 ?_
    exact sm_zret C dX0_isSoWith_174
  · refine sm_iconst C (1 : Int32) dX0_isSoWith_169 ic_1 ?_
    refine sm_goto C 174 dX0_isSoWith_170 (by decide) ?_
    exact sm_zret C dX0_isSoWith_174
set_option maxRecDepth 100000 in
set_option maxHeartbeats 4000000 in
theorem sl_X0_isSoWith_L109 {M : Mco} {w : Wco} (C : Cx M w cX0_isSoWith 11 yX0_isSoWith.cls (Cond.code yX0_isSoWith cX0_isSoWith 11 (some .boolean)) (some .boolean) { frames := 4, cells := 0, slots := 0, locals := 113 }) {cv : Nat} {rv : Nat} (hcv : isC w cv) (hrv : isV w rv) : ∀ (y3 : Int32) (y4 : Int32) (y5 : Int32) (y6 : Int32) (y7 : Int32) (y8 : Int32) (z0 : Int32) (s0 : Sta), Sm M w 11 oI 109 [(0, .ref (wad w cv)), (1, .ref (wad w rv)), (3, .int y3), (4, .int y4), (5, .int y5), (6, .int y6), (7, .int y7), (8, .int y8)] [.int z0] s0 (X0_isSoWith_L109 cv rv y3 y4 y5 y6 y7 y8 z0 s0) := by
  intro y3 y4 y5 y6 y7 y8 z0 s0
  unfold X0_isSoWith_L109
  refine sm_istore C [(9, .int z0), (0, .ref (wad w cv)), (1, .ref (wad w rv)), (3, .int y3), (4, .int y4), (5, .int y5), (6, .int y6), (7, .int y7), (8, .int y8)] dX0_isSoWith_109 (by decide) rfl ?_
  refine sm_iload C 6 dX0_isSoWith_111 rfl ?_
  refine sm_iload_n C 3 dX0_isSoWith_113 rfl ?_
  refine sm_icmp_ne C 122 dX0_isSoWith_114 (by decide) ?_ ?_
  · refine sm_aload_n C 2 dX0_isSoWith_122 rfl ?_
    refine sm_getRN C (ci := 10) (R := RX10) (T := TX10) (N := 13) (j := 3) (V_O hrv).2 (V_O hrv).1 rfl gX10 (by decide) nf_11 dX0_isSoWith_123 (fun _ _ => rfl) ?_
    refine sm_iload C 6 dX0_isSoWith_126 rfl ?_
    refine sm_iconst C (3 : Int32) dX0_isSoWith_128 ic_3 ?_
    refine sm_imul C dX0_isSoWith_129 ?_
    refine sm_iload C 7 dX0_isSoWith_130 rfl ?_
    refine sm_iadd C dX0_isSoWith_132 ?_
    refine r_iald C (V_arts hrv) dX0_isSoWith_133 (fun v18 => ?_)
    exact sm_sub [1, 2, 5, 6, 8, 0] rfl (sl_X0_isSoWith_L134 C hcv hrv y5 y6 y8 z0 v18 s0)
  · refine sm_iload C 4 dX0_isSoWith_117 rfl ?_
    refine sm_goto C 134 dX0_isSoWith_119 (by decide) ?_
    exact sm_sub [1, 2, 5, 6, 8, 0] rfl (sl_X0_isSoWith_L134 C hcv hrv y5 y6 y8 z0 y4 s0)
set_option maxRecDepth 100000 in
set_option maxHeartbeats 4000000 in
theorem ct_X0_isSoWith {l : Launch} {w : Wco} (cv : Nat) (rv : Nat) (hcv : isC w cv) (hrv : isV w rv) (x1 : Int32) (x2 : Int32) (x3 : Int32) (s0 : Sta) (qq : Int32) (ss : Sta) (hh : X0_isSoWith cv rv x1 x2 x3 s0 = some (qq, ss)) : Ct l w yX0_isSoWith (Cond.code yX0_isSoWith cX0_isSoWith 11 (some .boolean) :: GT) { frames := 4, cells := 0, slots := 0, locals := 113 } [.ref (wad w cv), .ref (wad w rv), .int x1, .int x2, .int x3] s0 (oI qq) ss := by
  refine ct_of [(0, .ref (wad w cv)), (1, .ref (wad w rv)), (2, .int x1), (3, .int x2), (4, .int x3)] (by decide +kernel) (Nat.le_of_ble_eq_true rfl) rfl hh (fun M _ C => ?_)
  unfold X0_isSoWith
  refine sm_aload_n C 1 dX0_isSoWith_0 rfl ?_
  refine sm_getRN C (ci := 10) (R := RX10) (T := TX10) (N := 13) (j := 9) (V_O hrv).2 (V_O hrv).1 rfl gX10 (by decide) nf_18 dX0_isSoWith_1 (fun _ _ => rfl) ?_
  refine sm_iload_n C 2 dX0_isSoWith_4 rfl ?_
  refine sm_iconst C (0 : Int32) dX0_isSoWith_5 ic_0 ?_
  refine r_callVI C (R := RX9) (T := TX9) (N := 2) [.int x1, .int (0 : Int32)] (T_O (V_beatings hrv)) rfl (fun qq ss hh => ct_X9_cell (rv + 11) (V_beatings hrv) x1 (0 : Int32) s0 qq ss hh) kw_743 kw_744 kw_745 kw_53 kw_746 dX0_isSoWith_6 rfl dd_X9_cell ⟨rfl, rfl⟩ ⟨by decide, by decide⟩ (Nat.le_of_ble_eq_true rfl) _ rfl (fun q1 s2 => ?_)
  refine sm_istore C [(5, .int q1), (0, .ref (wad w cv)), (1, .ref (wad w rv)), (2, .int x1), (3, .int x2), (4, .int x3)] dX0_isSoWith_9 (by decide) rfl ?_
  refine sm_aload_n C 2 dX0_isSoWith_11 rfl ?_
  refine sm_getRN C (ci := 10) (R := RX10) (T := TX10) (N := 13) (j := 9) (V_O hrv).2 (V_O hrv).1 rfl gX10 (by decide) nf_18 dX0_isSoWith_12 (fun _ _ => rfl) ?_
  refine sm_iload_n C 3 dX0_isSoWith_15 rfl ?_
  refine sm_iconst C (1 : Int32) dX0_isSoWith_16 ic_1 ?_
  refine r_callVI C (R := RX9) (T := TX9) (N := 2) [.int x1, .int (1 : Int32)] (T_O (V_beatings hrv)) rfl (fun qq ss hh => ct_X9_cell (rv + 11) (V_beatings hrv) x1 (1 : Int32) s2 qq ss hh) kw_743 kw_744 kw_745 kw_53 kw_746 dX0_isSoWith_17 rfl dd_X9_cell ⟨rfl, rfl⟩ ⟨by decide, by decide⟩ (Nat.le_of_ble_eq_true rfl) _ rfl (fun q3 s4 => ?_)
  refine sm_istore C [(6, .int q3), (5, .int q1), (0, .ref (wad w cv)), (1, .ref (wad w rv)), (2, .int x1), (3, .int x2), (4, .int x3)] dX0_isSoWith_20 (by decide) rfl ?_
  refine sm_aload_n C 3 dX0_isSoWith_22 rfl ?_
  refine sm_getRN C (ci := 10) (R := RX10) (T := TX10) (N := 13) (j := 9) (V_O hrv).2 (V_O hrv).1 rfl gX10 (by decide) nf_18 dX0_isSoWith_23 (fun _ _ => rfl) ?_
  refine sm_iload_n C 4 dX0_isSoWith_26 rfl ?_
  refine sm_iconst C (2 : Int32) dX0_isSoWith_27 ic_2 ?_
  refine r_callVI C (R := RX9) (T := TX9) (N := 2) [.int x1, .int (2 : Int32)] (T_O (V_beatings hrv)) rfl (fun qq ss hh => ct_X9_cell (rv + 11) (V_beatings hrv) x1 (2 : Int32) s4 qq ss hh) kw_743 kw_744 kw_745 kw_53 kw_746 dX0_isSoWith_28 rfl dd_X9_cell ⟨rfl, rfl⟩ ⟨by decide, by decide⟩ (Nat.le_of_ble_eq_true rfl) _ rfl (fun q5 s6 => ?_)
  refine sm_istore C [(7, .int q5), (6, .int q3), (5, .int q1), (0, .ref (wad w cv)), (1, .ref (wad w rv)), (2, .int x1), (3, .int x2), (4, .int x3)] dX0_isSoWith_31 (by decide) rfl ?_
  refine sm_aload_n C 4 dX0_isSoWith_33 rfl ?_
  refine sm_getRN C (ci := 10) (R := RX10) (T := TX10) (N := 13) (j := 9) (V_O hrv).2 (V_O hrv).1 rfl gX10 (by decide) nf_18 dX0_isSoWith_34 (fun _ _ => rfl) ?_
  refine sm_iload_n C 5 dX0_isSoWith_37 rfl ?_
  refine sm_iconst C (3 : Int32) dX0_isSoWith_38 ic_3 ?_
  refine r_callVI C (R := RX9) (T := TX9) (N := 2) [.int x1, .int (3 : Int32)] (T_O (V_beatings hrv)) rfl (fun qq ss hh => ct_X9_cell (rv + 11) (V_beatings hrv) x1 (3 : Int32) s6 qq ss hh) kw_743 kw_744 kw_745 kw_53 kw_746 dX0_isSoWith_39 rfl dd_X9_cell ⟨rfl, rfl⟩ ⟨by decide, by decide⟩ (Nat.le_of_ble_eq_true rfl) _ rfl (fun q7 s8 => ?_)
  refine sm_istore C [(8, .int q7), (7, .int q5), (6, .int q3), (5, .int q1), (0, .ref (wad w cv)), (1, .ref (wad w rv)), (2, .int x1), (3, .int x2), (4, .int x3)] dX0_isSoWith_42 (by decide) rfl ?_
  refine sm_iload C 3 dX0_isSoWith_44 rfl ?_
  refine sm_iconst C (0 : Int32) dX0_isSoWith_46 ic_0 ?_
  refine sm_aload_n C 5 dX0_isSoWith_47 rfl ?_
  refine sm_getIN C (ci := 10) (R := RX10) (T := TX10) (N := 13) (j := 10) (V_O hrv).2 (V_O hrv).1 rfl gX10 (by decide) nf_23 dX0_isSoWith_48 (fun _ _ => rfl) (fun v9 => ?_)
  refine sm_iconst C (1 : Int32) dX0_isSoWith_51 ic_1 ?_
  refine sm_isub C dX0_isSoWith_52 ?_
  refine r_callSNI C [.int q1, .int (0 : Int32), .int (v9 - (1 : Int32))] (fun qq ss hh => ct_X11_within q1 (0 : Int32) (v9 - (1 : Int32)) s8 qq ss hh) nm_14 kw_347 kw_51 kw_348 dX0_isSoWith_53 rfl dd_X11_within ⟨rfl, rfl⟩ ⟨by decide, by decide⟩ (Nat.le_of_ble_eq_true rfl) _ rfl (fun q10 s11 => ?_)
  refine sm_if_eq C 84 dX0_isSoWith_56 (by decide) ?_ ?_
  · refine sm_iconst C (0 : Int32) dX0_isSoWith_84 ic_0 ?_
    exact sm_zret C dX0_isSoWith_85
  · refine sm_iload C 2 dX0_isSoWith_59 rfl ?_
    refine sm_iconst C (0 : Int32) dX0_isSoWith_61 ic_0 ?_
    refine sm_aload_n C 5 dX0_isSoWith_62 rfl ?_
    refine sm_getIN C (ci := 10) (R := RX10) (T := TX10) (N := 13) (j := 10) (V_O hrv).2 (V_O hrv).1 rfl gX10 (by decide) nf_23 dX0_isSoWith_63 (fun _ _ => rfl) (fun v12 => ?_)
    refine sm_iconst C (1 : Int32) dX0_isSoWith_66 ic_1 ?_
    refine sm_isub C dX0_isSoWith_67 ?_
    refine r_callSNI C [.int q3, .int (0 : Int32), .int (v12 - (1 : Int32))] (fun qq ss hh => ct_X11_within q3 (0 : Int32) (v12 - (1 : Int32)) s11 qq ss hh) nm_14 kw_347 kw_51 kw_348 dX0_isSoWith_68 rfl dd_X11_within ⟨rfl, rfl⟩ ⟨by decide, by decide⟩ (Nat.le_of_ble_eq_true rfl) _ rfl (fun q13 s14 => ?_)
    refine sm_if_eq C 84 dX0_isSoWith_71 (by decide) ?_ ?_
    · refine sm_iconst C (0 : Int32) dX0_isSoWith_84 ic_0 ?_
      exact sm_zret C dX0_isSoWith_85
    · refine sm_iload C 1 dX0_isSoWith_74 rfl ?_
      refine sm_iconst C (0 : Int32) dX0_isSoWith_76 ic_0 ?_
      refine sm_iconst C (2 : Int32) dX0_isSoWith_77 ic_2 ?_
      refine r_callSNI C [.int q5, .int (0 : Int32), .int (2 : Int32)] (fun qq ss hh => ct_X11_within q5 (0 : Int32) (2 : Int32) s14 qq ss hh) nm_14 kw_347 kw_51 kw_348 dX0_isSoWith_78 rfl dd_X11_within ⟨rfl, rfl⟩ ⟨by decide, by decide⟩ (Nat.le_of_ble_eq_true rfl) _ rfl (fun q15 s16 => ?_)
      refine sm_if_ne C 86 dX0_isSoWith_81 (by decide) ?_ ?_
      · refine sm_iload C 3 dX0_isSoWith_86 rfl ?_
        refine sm_iload_n C 7 dX0_isSoWith_88 rfl ?_
        refine sm_icmp_ne C 97 dX0_isSoWith_89 (by decide) ?_ ?_
        · refine sm_aload_n C 5 dX0_isSoWith_97 rfl ?_
          refine sm_getRN C (ci := 10) (R := RX10) (T := TX10) (N := 13) (j := 3) (V_O hrv).2 (V_O hrv).1 rfl gX10 (by decide) nf_11 dX0_isSoWith_98 (fun _ _ => rfl) ?_
          refine sm_iload C 3 dX0_isSoWith_101 rfl ?_
          refine sm_iconst C (3 : Int32) dX0_isSoWith_103 ic_3 ?_
          refine sm_imul C dX0_isSoWith_104 ?_
          refine sm_iload C 1 dX0_isSoWith_105 rfl ?_
          refine sm_iadd C dX0_isSoWith_107 ?_
          refine r_iald C (V_arts hrv) dX0_isSoWith_108 (fun v17 => ?_)
          exact sm_sub [4, 5, 7, 8, 3, 2, 1, 0] rfl (sl_X0_isSoWith_L109 C hcv hrv x2 x3 q1 q3 q5 q7 v17 s16)
        · refine sm_iload C 8 dX0_isSoWith_92 rfl ?_
          refine sm_goto C 109 dX0_isSoWith_94 (by decide) ?_
          exact sm_sub [4, 5, 7, 8, 3, 2, 1, 0] rfl (sl_X0_isSoWith_L109 C hcv hrv x2 x3 q1 q3 q5 q7 x3 s16)
      · refine sm_iconst C (0 : Int32) dX0_isSoWith_84 ic_0 ?_
        exact sm_zret C dX0_isSoWith_85
theorem dd_X0_isSo : yX0_isSo.cls = RX0 ∧ yX0_isSo.cls ≠ "java/lang/invoke/MethodHandle" ∧ yX0_isSo.cls ≠ "java/lang/invoke/VarHandle" ∧ (parseMethodDescriptor yX0_isSo.desc).map (fun d => d.parameters.length) = some 2 := by decide +kernel
set_option maxRecDepth 100000 in
set_option maxHeartbeats 4000000 in
theorem ct_X0_isSo {l : Launch} {w : Wco} (cv : Nat) (rv : Nat) (hcv : isC w cv) (hrv : isV w rv) (x1 : Int32) (s0 : Sta) (qq : Int32) (ss : Sta) (hh : X0_isSo cv rv x1 s0 = some (qq, ss)) : Ct l w yX0_isSo (Cond.code yX0_isSo cX0_isSo 3 (some .boolean) :: GT) { frames := 5, cells := 0, slots := 0, locals := 143 } [.ref (wad w cv), .ref (wad w rv), .int x1] s0 (oI qq) ss := by
  refine ct_of [(0, .ref (wad w cv)), (1, .ref (wad w rv)), (2, .int x1)] (by decide +kernel) (Nat.le_of_ble_eq_true rfl) rfl hh (fun M _ C => ?_)
  unfold X0_isSo
  refine sm_aload_n C 0 dX0_isSo_0 rfl ?_
  refine sm_aload_n C 1 dX0_isSo_1 rfl ?_
  refine sm_iload_n C 2 dX0_isSo_2 rfl ?_
  refine sm_iconst C (-1 : Int32) dX0_isSo_3 ic_m1 ?_
  refine sm_iconst C (0 : Int32) dX0_isSo_4 ic_0 ?_
  refine r_callVI C (R := RX0) (T := TX0) (N := 5) [.ref (wad w rv), .int x1, .int (-1 : Int32), .int (0 : Int32)] (C_O hcv) rfl (fun qq ss hh => ct_X0_isSoWith cv rv hcv hrv x1 (-1 : Int32) (0 : Int32) s0 qq ss hh) kw_764 kw_766 kw_14 kw_55 kw_767 dX0_isSo_5 rfl dd_X0_isSoWith ⟨rfl, rfl⟩ ⟨by decide, by decide⟩ (Nat.le_of_ble_eq_true rfl) _ rfl (fun q1 s2 => ?_)
  exact sm_zret C dX0_isSo_8
theorem dd_X0_artFits : yX0_artFits.cls = RX0 ∧ yX0_artFits.cls ≠ "java/lang/invoke/MethodHandle" ∧ yX0_artFits.cls ≠ "java/lang/invoke/VarHandle" ∧ (parseMethodDescriptor yX0_artFits.desc).map (fun d => d.parameters.length) = some 4 := by decide +kernel
set_option maxRecDepth 100000 in
set_option maxHeartbeats 4000000 in
theorem sl_X0_artFits_L48 {M : Mco} {w : Wco} (C : Cx M w cX0_artFits 8 yX0_artFits.cls (Cond.code yX0_artFits cX0_artFits 8 (some .boolean)) (some .boolean) { frames := 5, cells := 0, slots := 0, locals := 143 }) {cv : Nat} {rv : Nat} (hcv : isC w cv) (hrv : isV w rv) {k9 : Int32 → Int32 → Int32 → Int32 → Sta → Option (Int32 × Sta)} (H9 : ∀ (y2 : Int32) (y3 : Int32) (y4 : Int32) (y6 : Int32) (s0 : Sta), Sm M w 8 oI 9 [(0, .ref (wad w cv)), (1, .ref (wad w rv)), (2, .int y2), (3, .int y3), (4, .int y4), (5, .ref (wad w (rv + 11))), (6, .int y6)] [] s0 (k9 y2 y3 y4 y6 s0)) : ∀ (y2 : Int32) (y3 : Int32) (y4 : Int32) (y6 : Int32) (z0 : Int32) (s0 : Sta), Sm M w 8 oI 48 [(0, .ref (wad w cv)), (1, .ref (wad w rv)), (2, .int y2), (3, .int y3), (4, .int y4), (5, .ref (wad w (rv + 11))), (6, .int y6)] [.int z0] s0 (X0_artFits_L48 cv rv k9 y2 y3 y4 y6 z0 s0) := by
  intro y2 y3 y4 y6 z0 s0
  unfold X0_artFits_L48
  refine sm_istore C [(7, .int z0), (0, .ref (wad w cv)), (1, .ref (wad w rv)), (2, .int y2), (3, .int y3), (4, .int y4), (5, .ref (wad w (rv + 11))), (6, .int y6)] dX0_artFits_48 (by decide) rfl ?_
  refine sm_iload C 0 dX0_artFits_50 rfl ?_
  refine sm_if_eq C 82 dX0_artFits_52 (by decide) ?_ ?_
  · refine sm_iinc C 7 (y6 + (1 : Int32)) [(6, .int (y6 + (1 : Int32))), (7, .int z0), (0, .ref (wad w cv)), (1, .ref (wad w rv)), (2, .int y2), (3, .int y3), (4, .int y4), (5, .ref (wad w (rv + 11)))] dX0_artFits_82 rfl (ii_1 _) (by decide) rfl ?_
    refine sm_goto C 9 dX0_artFits_85 (by decide) ?_
    exact sm_sub [2, 3, 4, 5, 6, 7, 0] rfl (H9 y2 y3 y4 (y6 + (1 : Int32)) s0)
  · refine sm_aload C 6 dX0_artFits_55 rfl ?_
    refine sm_iload C 7 dX0_artFits_57 rfl ?_
    refine sm_iconst C (2 : Int32) dX0_artFits_59 ic_2 ?_
    refine r_callVI C (R := RX9) (T := TX9) (N := 2) [.int y6, .int (2 : Int32)] (T_O (V_beatings hrv)) rfl (fun qq ss hh => ct_X9_cell (rv + 11) (V_beatings hrv) y6 (2 : Int32) s0 qq ss hh) kw_743 kw_744 kw_745 kw_53 kw_746 dX0_artFits_60 rfl dd_X9_cell ⟨rfl, rfl⟩ ⟨by decide, by decide⟩ (Nat.le_of_ble_eq_true rfl) _ rfl (fun q6 s7 => ?_)
    refine sm_iload_n C 4 dX0_artFits_63 rfl ?_
    refine sm_icmp_ne C 82 dX0_artFits_64 (by decide) ?_ ?_
    · refine sm_iinc C 7 (y6 + (1 : Int32)) [(6, .int (y6 + (1 : Int32))), (7, .int z0), (0, .ref (wad w cv)), (1, .ref (wad w rv)), (2, .int y2), (3, .int y3), (4, .int y4), (5, .ref (wad w (rv + 11)))] dX0_artFits_82 rfl (ii_1 _) (by decide) rfl ?_
      refine sm_goto C 9 dX0_artFits_85 (by decide) ?_
      exact sm_sub [2, 3, 4, 5, 6, 7, 0] rfl (H9 y2 y3 y4 (y6 + (1 : Int32)) s7)
    · refine sm_aload_n C 1 dX0_artFits_67 rfl ?_
      refine sm_aload_n C 2 dX0_artFits_68 rfl ?_
      refine sm_iload C 7 dX0_artFits_69 rfl ?_
      refine sm_iload_n C 3 dX0_artFits_71 rfl ?_
      refine sm_iload C 5 dX0_artFits_72 rfl ?_
      refine r_callVI C (R := RX0) (T := TX0) (N := 5) [.ref (wad w rv), .int y6, .int y2, .int y4] (C_O hcv) rfl (fun qq ss hh => ct_X0_isSoWith cv rv hcv hrv y6 y2 y4 s7 qq ss hh) kw_764 kw_766 kw_14 kw_55 kw_767 dX0_artFits_74 rfl dd_X0_isSoWith ⟨rfl, rfl⟩ ⟨by decide, by decide⟩ (Nat.le_of_ble_eq_true rfl) _ rfl (fun q8 s9 => ?_)
      refine sm_if_ne C 82 dX0_artFits_77 (by decide) ?_ ?_
      · refine sm_iinc C 7 (y6 + (1 : Int32)) [(6, .int (y6 + (1 : Int32))), (7, .int z0), (0, .ref (wad w cv)), (1, .ref (wad w rv)), (2, .int y2), (3, .int y3), (4, .int y4), (5, .ref (wad w (rv + 11)))] dX0_artFits_82 rfl (ii_1 _) (by decide) rfl ?_
        refine sm_goto C 9 dX0_artFits_85 (by decide) ?_
        exact sm_sub [2, 3, 4, 5, 6, 7, 0] rfl (H9 y2 y3 y4 (y6 + (1 : Int32)) s9)
      · refine sm_iconst C (0 : Int32) dX0_artFits_80 ic_0 ?_
        exact sm_zret C dX0_artFits_81
set_option maxRecDepth 100000 in
set_option maxHeartbeats 4000000 in
theorem sl_X0_artFits_L9 {M : Mco} {w : Wco} (C : Cx M w cX0_artFits 8 yX0_artFits.cls (Cond.code yX0_artFits cX0_artFits 8 (some .boolean)) (some .boolean) { frames := 5, cells := 0, slots := 0, locals := 143 }) {cv : Nat} {rv : Nat} (hcv : isC w cv) (hrv : isV w rv) : ∀ (n : Nat) (y2 : Int32) (y3 : Int32) (y4 : Int32) (y6 : Int32) (s0 : Sta), Sm M w 8 oI 9 [(0, .ref (wad w cv)), (1, .ref (wad w rv)), (2, .int y2), (3, .int y3), (4, .int y4), (5, .ref (wad w (rv + 11))), (6, .int y6)] [] s0 (X0_artFits_L9 cv rv n y2 y3 y4 y6 s0) := by
  intro n
  induction n with
  | zero => intros; exact sm_none
  | succ n ih =>
    intro y2 y3 y4 y6 s0
    rw [X0_artFits_L9.eq_2]
    refine sm_iload C 6 dX0_artFits_9 rfl ?_
    refine sm_aload C 5 dX0_artFits_11 rfl ?_
    refine sm_getIN C (ci := 9) (R := RX9) (T := TX9) (N := 2) (j := 1) (T_O (V_beatings hrv)).2 (T_O (V_beatings hrv)).1 rfl gX9 (by decide) nf_1 dX0_artFits_13 (fun _ _ => rfl) (fun v1 => ?_)
    refine sm_icmp_ge C 88 dX0_artFits_16 (by decide) ?_ ?_
    · refine sm_iconst C (1 : Int32) dX0_artFits_88 ic_1 ?_
      exact sm_zret C dX0_artFits_89
    · refine sm_aload C 5 dX0_artFits_19 rfl ?_
      refine sm_iload C 6 dX0_artFits_21 rfl ?_
      refine sm_iconst C (0 : Int32) dX0_artFits_23 ic_0 ?_
      refine r_callVI C (R := RX9) (T := TX9) (N := 2) [.int y6, .int (0 : Int32)] (T_O (V_beatings hrv)) rfl (fun qq ss hh => ct_X9_cell (rv + 11) (V_beatings hrv) y6 (0 : Int32) s0 qq ss hh) kw_743 kw_744 kw_745 kw_53 kw_746 dX0_artFits_24 rfl dd_X9_cell ⟨rfl, rfl⟩ ⟨by decide, by decide⟩ (Nat.le_of_ble_eq_true rfl) _ rfl (fun q2 s3 => ?_)
      refine sm_iload_n C 2 dX0_artFits_27 rfl ?_
      refine sm_icmp_eq C 43 dX0_artFits_28 (by decide) ?_ ?_
      · refine sm_iconst C (1 : Int32) dX0_artFits_43 ic_1 ?_
        refine sm_goto C 48 dX0_artFits_44 (by decide) ?_
        exact sm_sub [0, 1, 2, 3, 4, 5, 6] rfl (sl_X0_artFits_L48 C hcv hrv ih y2 y3 y4 y6 (1 : Int32) s3)
      · refine sm_aload C 5 dX0_artFits_31 rfl ?_
        refine sm_iload C 6 dX0_artFits_33 rfl ?_
        refine sm_iconst C (1 : Int32) dX0_artFits_35 ic_1 ?_
        refine r_callVI C (R := RX9) (T := TX9) (N := 2) [.int y6, .int (1 : Int32)] (T_O (V_beatings hrv)) rfl (fun qq ss hh => ct_X9_cell (rv + 11) (V_beatings hrv) y6 (1 : Int32) s3 qq ss hh) kw_743 kw_744 kw_745 kw_53 kw_746 dX0_artFits_36 rfl dd_X9_cell ⟨rfl, rfl⟩ ⟨by decide, by decide⟩ (Nat.le_of_ble_eq_true rfl) _ rfl (fun q4 s5 => ?_)
        refine sm_iload_n C 2 dX0_artFits_39 rfl ?_
        refine sm_icmp_ne C 47 dX0_artFits_40 (by decide) ?_ ?_
        · refine sm_iconst C (0 : Int32) dX0_artFits_47 ic_0 ?_
          exact sm_sub [0, 1, 2, 3, 4, 5, 6] rfl (sl_X0_artFits_L48 C hcv hrv ih y2 y3 y4 y6 (0 : Int32) s5)
        · refine sm_iconst C (1 : Int32) dX0_artFits_43 ic_1 ?_
          refine sm_goto C 48 dX0_artFits_44 (by decide) ?_
          exact sm_sub [0, 1, 2, 3, 4, 5, 6] rfl (sl_X0_artFits_L48 C hcv hrv ih y2 y3 y4 y6 (1 : Int32) s5)
set_option maxRecDepth 100000 in
set_option maxHeartbeats 4000000 in
theorem ct_X0_artFits {l : Launch} {w : Wco} (cv : Nat) (rv : Nat) (hcv : isC w cv) (hrv : isV w rv) (x1 : Int32) (x2 : Int32) (x3 : Int32) (s0 : Sta) (qq : Int32) (ss : Sta) (hh : X0_artFits cv rv x1 x2 x3 s0 = some (qq, ss)) : Ct l w yX0_artFits (Cond.code yX0_artFits cX0_artFits 8 (some .boolean) :: GT) { frames := 5, cells := 0, slots := 0, locals := 143 } [.ref (wad w cv), .ref (wad w rv), .int x1, .int x2, .int x3] s0 (oI qq) ss := by
  refine ct_of [(0, .ref (wad w cv)), (1, .ref (wad w rv)), (2, .int x1), (3, .int x2), (4, .int x3)] (by decide +kernel) (Nat.le_of_ble_eq_true rfl) rfl hh (fun M _ C => ?_)
  unfold X0_artFits
  refine sm_aload_n C 1 dX0_artFits_0 rfl ?_
  refine sm_getRN C (ci := 10) (R := RX10) (T := TX10) (N := 13) (j := 9) (V_O hrv).2 (V_O hrv).1 rfl gX10 (by decide) nf_18 dX0_artFits_1 (fun _ _ => rfl) ?_
  refine sm_astore C [(5, .ref (wad w (rv + 11))), (0, .ref (wad w cv)), (1, .ref (wad w rv)), (2, .int x1), (3, .int x2), (4, .int x3)] dX0_artFits_4 (by decide) rfl ?_
  refine sm_iconst C (0 : Int32) dX0_artFits_6 ic_0 ?_
  refine sm_istore C [(6, .int (0 : Int32)), (5, .ref (wad w (rv + 11))), (0, .ref (wad w cv)), (1, .ref (wad w rv)), (2, .int x1), (3, .int x2), (4, .int x3)] dX0_artFits_7 (by decide) rfl ?_
  exact sm_sub [2, 3, 4, 5, 6, 1, 0] rfl (sl_X0_artFits_L9 C hcv hrv FU x1 x2 x3 (0 : Int32) s0)
