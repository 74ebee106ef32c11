theorem dd_X11_may : yX11_may.cls = RX11 ∧ yX11_may.cls ≠ "java/lang/invoke/MethodHandle" ∧ yX11_may.cls ≠ "java/lang/invoke/VarHandle" ∧ (parseMethodDescriptor yX11_may.desc).map (fun d => d.parameters.length) = some 2 := by decide +kernel
set_option maxRecDepth 100000 in
set_option maxHeartbeats 4000000 in
theorem sl_X11_may_L27 {M : Mco} {w : Wco} (C : Cx M w cX11_may 5 yX11_may.cls (Cond.code yX11_may cX11_may 5 (some .int)) (some .int) { frames := 6, cells := 0, slots := 0, locals := 170 }) (G : GW w) : ∀ (n : Nat) (y1 : Int32) (y2 : Int32) (y3 : Int32) (y4 : Int32) (s0 : Sta), Sm M w 5 oI 27 [(0, .ref (wad w 0)), (1, .int y1), (2, .int y2), (3, .int y3), (4, .int y4)] [] s0 (X11_may_L27 n y1 y2 y3 y4 s0) := by
  intro n
  induction n with
  | zero => intros; exact sm_none
  | succ n ih =>
    intro y1 y2 y3 y4 s0
    rw [X11_may_L27.eq_2]
    refine sm_iload C 4 dX11_may_27 rfl ?_
    refine sm_bipush C (10 : Int32) dX11_may_29 bp_10 ?_
    refine sm_icmp_ge C 65 dX11_may_31 (by decide) ?_ ?_
    · refine sm_iload_n C 3 dX11_may_65 rfl ?_
      exact sm_iret C dX11_may_66
    · refine sm_aload_n C 0 dX11_may_34 rfl ?_
      refine sm_getR C (ci := 11) (R := RX11) (T := TX11) (N := 12) (j := 4) (G_N G).2 (G_N G).1 rfl gX11 (by decide) kw_304 dX11_may_35 (fun _ _ => rfl) ?_
      refine sm_aload_n C 0 dX11_may_38 rfl ?_
      refine sm_getR C (ci := 11) (R := RX11) (T := TX11) (N := 12) (j := 0) (G_N G).2 (G_N G).1 rfl gX11 (by decide) kw_300 dX11_may_39 (fun _ _ => rfl) ?_
      refine sm_iload_n C 1 dX11_may_42 rfl ?_
      refine sm_iload_n C 2 dX11_may_43 rfl ?_
      refine sm_iload C 4 dX11_may_44 rfl ?_
      refine r_callVI C (R := RX0) (T := TX0) (N := 5) [.ref (wad w 1), .int y1, .int y2, .int y4] (C_O (G_con G)) rfl (fun qq ss hh => ct_X0_artFits 55 1 (G_con G) (G_now G) y1 y2 y4 s0 qq ss hh) kw_760 kw_761 kw_762 kw_55 kw_763 dX11_may_46 rfl dd_X0_artFits ⟨rfl, rfl⟩ ⟨by decide, by decide⟩ (Nat.le_of_ble_eq_true rfl) _ rfl (fun q9 s10 => ?_)
      refine sm_if_eq C 59 dX11_may_49 (by decide) ?_ ?_
      · refine sm_iinc C 4 (y4 + (1 : Int32)) [(4, .int (y4 + (1 : Int32))), (0, .ref (wad w 0)), (1, .int y1), (2, .int y2), (3, .int y3)] dX11_may_59 rfl (ii_1 _) (by decide) rfl ?_
        refine sm_goto C 27 dX11_may_62 (by decide) ?_
        exact sm_sub [1, 2, 3, 4, 0] rfl (ih y1 y2 y3 (y4 + (1 : Int32)) s10)
      · refine sm_iload_n C 3 dX11_may_52 rfl ?_
        refine sm_iconst C (1 : Int32) dX11_may_53 ic_1 ?_
        refine sm_iload C 4 dX11_may_54 rfl ?_
        refine sm_ishl C dX11_may_56 ?_
        refine sm_ior C dX11_may_57 ?_
        refine sm_istore_n C [(3, .int (y3 ||| ((1 : Int32) <<< (y4 &&& 31)))), (0, .ref (wad w 0)), (1, .int y1), (2, .int y2), (4, .int y4)] dX11_may_58 (by decide) rfl ?_
        refine sm_iinc C 4 (y4 + (1 : Int32)) [(4, .int (y4 + (1 : Int32))), (3, .int (y3 ||| ((1 : Int32) <<< (y4 &&& 31)))), (0, .ref (wad w 0)), (1, .int y1), (2, .int y2)] dX11_may_59 rfl (ii_1 _) (by decide) rfl ?_
        refine sm_goto C 27 dX11_may_62 (by decide) ?_
        exact sm_sub [2, 3, 4, 1, 0] rfl (ih y1 y2 (y3 ||| ((1 : Int32) <<< (y4 &&& 31))) (y4 + (1 : Int32)) s10)
set_option maxRecDepth 100000 in
set_option maxHeartbeats 4000000 in
theorem ct_X11_may {l : Launch} {w : Wco} (G : GW w) (x1 : Int32) (x2 : Int32) (s0 : Sta) (qq : Int32) (ss : Sta) (hh : X11_may x1 x2 s0 = some (qq, ss)) : Ct l w yX11_may (Cond.code yX11_may cX11_may 5 (some .int) :: GT) { frames := 6, cells := 0, slots := 0, locals := 170 } [.ref (wad w 0), .int x1, .int x2] s0 (oI qq) ss := by
  refine ct_of [(0, .ref (wad w 0)), (1, .int x1), (2, .int x2)] (by decide +kernel) (Nat.le_of_ble_eq_true rfl) rfl hh (fun M _ C => ?_)
  unfold X11_may
  refine sm_aload_n C 0 dX11_may_0 rfl ?_
  refine sm_iload_n C 1 dX11_may_1 rfl ?_
  refine r_callVI C (R := RX11) (T := TX11) (N := 12) [.int x1] (G_N G) rfl (fun qq ss hh => ct_X11_isOne G x1 s0 qq ss hh) kw_594 kw_596 kw_10 kw_51 kw_597 dX11_may_2 rfl dd_X11_isOne ⟨rfl, rfl⟩ ⟨by decide, by decide⟩ (Nat.le_of_ble_eq_true rfl) _ rfl (fun q1 s2 => ?_)
  refine sm_if_eq C 17 dX11_may_5 (by decide) ?_ ?_
  · refine sm_aload_n C 0 dX11_may_17 rfl ?_
    refine r_callVI C (R := RX11) (T := TX11) (N := 12) [] (G_N G) rfl (fun qq ss hh => ct_X11_bad G s2 qq ss hh) kw_349 kw_351 kw_0 kw_51 kw_352 dX11_may_18 rfl dd_X11_bad ⟨rfl, rfl⟩ ⟨by decide, by decide⟩ (Nat.le_of_ble_eq_true rfl) _ rfl (fun q3 s4 => ?_)
    exact sm_iret C dX11_may_21
  · refine sm_iload_n C 2 dX11_may_8 rfl ?_
    refine sm_iconst C (0 : Int32) dX11_may_9 ic_0 ?_
    refine sm_iconst C (2 : Int32) dX11_may_10 ic_2 ?_
    refine r_callSI C [.int x2, .int (0 : Int32), .int (2 : Int32)] (fun qq ss hh => ct_X11_within x2 (0 : Int32) (2 : Int32) s2 qq ss hh) kw_346 kw_347 kw_51 kw_348 dX11_may_11 rfl dd_X11_within ⟨rfl, rfl⟩ ⟨by decide, by decide⟩ (Nat.le_of_ble_eq_true rfl) _ rfl (fun q5 s6 => ?_)
    refine sm_if_ne C 22 dX11_may_14 (by decide) ?_ ?_
    · refine sm_iconst C (0 : Int32) dX11_may_22 ic_0 ?_
      refine sm_istore_n C [(3, .int (0 : Int32)), (0, .ref (wad w 0)), (1, .int x1), (2, .int x2)] dX11_may_23 (by decide) rfl ?_
      refine sm_iconst C (0 : Int32) dX11_may_24 ic_0 ?_
      refine sm_istore C [(4, .int (0 : Int32)), (3, .int (0 : Int32)), (0, .ref (wad w 0)), (1, .int x1), (2, .int x2)] dX11_may_25 (by decide) rfl ?_
      exact sm_sub [2, 3, 4, 1, 0] rfl (sl_X11_may_L27 C G FU x1 x2 (0 : Int32) (0 : Int32) s6)
    · refine sm_aload_n C 0 dX11_may_17 rfl ?_
      refine r_callVI C (R := RX11) (T := TX11) (N := 12) [] (G_N G) rfl (fun qq ss hh => ct_X11_bad G s6 qq ss hh) kw_349 kw_351 kw_0 kw_51 kw_352 dX11_may_18 rfl dd_X11_bad ⟨rfl, rfl⟩ ⟨by decide, by decide⟩ (Nat.le_of_ble_eq_true rfl) _ rfl (fun q7 s8 => ?_)
      exact sm_iret C dX11_may_21
theorem dd_X11_clash : yX11_clash.cls = RX11 ∧ yX11_clash.cls ≠ "java/lang/invoke/MethodHandle" ∧ yX11_clash.cls ≠ "java/lang/invoke/VarHandle" ∧ (parseMethodDescriptor yX11_clash.desc).map (fun d => d.parameters.length) = some 0 := by decide +kernel
set_option maxRecDepth 100000 in
set_option maxHeartbeats 4000000 in
theorem sl_X11_clash_L4 {M : Mco} {w : Wco} (C : Cx M w cX11_clash 3 yX11_clash.cls (Cond.code yX11_clash cX11_clash 3 (some .int)) (some .int) { frames := 6, cells := 0, slots := 0, locals := 165 }) (G : GW w) : ∀ (n : Nat) (y1 : Int32) (y2 : Int32) (s0 : Sta), Sm M w 3 oI 4 [(0, .ref (wad w 0)), (1, .int y1), (2, .int y2)] [] s0 (X11_clash_L4 n y1 y2 s0) := by
  intro n
  induction n with
  | zero => intros; exact sm_none
  | succ n ih =>
    intro y1 y2 s0
    rw [X11_clash_L4.eq_2]
    refine sm_iload_n C 2 dX11_clash_4 rfl ?_
    refine sm_aload_n C 0 dX11_clash_5 rfl ?_
    refine sm_getR C (ci := 11) (R := RX11) (T := TX11) (N := 12) (j := 0) (G_N G).2 (G_N G).1 rfl gX11 (by decide) kw_300 dX11_clash_6 (fun _ _ => rfl) ?_
    refine sm_getRN C (ci := 10) (R := RX10) (T := TX10) (N := 13) (j := 9) (V_O (G_now G)).2 (V_O (G_now G)).1 rfl gX10 (by decide) nf_19 dX11_clash_9 (fun _ _ => rfl) ?_
    refine sm_getIN C (ci := 9) (R := RX9) (T := TX9) (N := 2) (j := 1) (T_O (V_beatings (G_now G))).2 (T_O (V_beatings (G_now G))).1 rfl gX9 (by decide) nf_2 dX11_clash_12 (fun _ _ => rfl) (fun v1 => ?_)
    refine sm_icmp_ge C 42 dX11_clash_15 (by decide) ?_ ?_
    · refine sm_iload_n C 1 dX11_clash_42 rfl ?_
      exact sm_iret C dX11_clash_43
    · refine sm_aload_n C 0 dX11_clash_18 rfl ?_
      refine sm_getR C (ci := 11) (R := RX11) (T := TX11) (N := 12) (j := 4) (G_N G).2 (G_N G).1 rfl gX11 (by decide) kw_304 dX11_clash_19 (fun _ _ => rfl) ?_
      refine sm_aload_n C 0 dX11_clash_22 rfl ?_
      refine sm_getR C (ci := 11) (R := RX11) (T := TX11) (N := 12) (j := 0) (G_N G).2 (G_N G).1 rfl gX11 (by decide) kw_300 dX11_clash_23 (fun _ _ => rfl) ?_
      refine sm_iload_n C 2 dX11_clash_26 rfl ?_
      refine r_callVI C (R := RX0) (T := TX0) (N := 5) [.ref (wad w 1), .int y2] (C_O (G_con G)) rfl (fun qq ss hh => ct_X0_isSo 55 1 (G_con G) (G_now G) y2 s0 qq ss hh) kw_772 kw_773 kw_774 kw_55 kw_775 dX11_clash_27 rfl dd_X0_isSo ⟨rfl, rfl⟩ ⟨by decide, by decide⟩ (Nat.le_of_ble_eq_true rfl) _ rfl (fun q2 s3 => ?_)
      refine sm_if_ne C 36 dX11_clash_30 (by decide) ?_ ?_
      · refine sm_iinc C 2 (y2 + (1 : Int32)) [(2, .int (y2 + (1 : Int32))), (0, .ref (wad w 0)), (1, .int y1)] dX11_clash_36 rfl (ii_1 _) (by decide) rfl ?_
        refine sm_goto C 4 dX11_clash_39 (by decide) ?_
        exact sm_sub [1, 2, 0] rfl (ih y1 (y2 + (1 : Int32)) s3)
      · refine sm_iinc C 1 (y1 + (1 : Int32)) [(1, .int (y1 + (1 : Int32))), (0, .ref (wad w 0)), (2, .int y2)] dX11_clash_33 rfl (ii_1 _) (by decide) rfl ?_
        refine sm_iinc C 2 (y2 + (1 : Int32)) [(2, .int (y2 + (1 : Int32))), (1, .int (y1 + (1 : Int32))), (0, .ref (wad w 0))] dX11_clash_36 rfl (ii_1 _) (by decide) rfl ?_
        refine sm_goto C 4 dX11_clash_39 (by decide) ?_
        exact sm_sub [2, 1, 0] rfl (ih (y1 + (1 : Int32)) (y2 + (1 : Int32)) s3)
set_option maxRecDepth 100000 in
set_option maxHeartbeats 4000000 in
theorem ct_X11_clash {l : Launch} {w : Wco} (G : GW w) (s0 : Sta) (qq : Int32) (ss : Sta) (hh : X11_clash s0 = some (qq, ss)) : Ct l w yX11_clash (Cond.code yX11_clash cX11_clash 3 (some .int) :: GT) { frames := 6, cells := 0, slots := 0, locals := 165 } [.ref (wad w 0)] s0 (oI qq) ss := by
  refine ct_of [(0, .ref (wad w 0))] (by decide +kernel) (Nat.le_of_ble_eq_true rfl) rfl hh (fun M _ C => ?_)
  unfold X11_clash
  refine sm_iconst C (0 : Int32) dX11_clash_0 ic_0 ?_
  refine sm_istore_n C [(1, .int (0 : Int32)), (0, .ref (wad w 0))] dX11_clash_1 (by decide) rfl ?_
  refine sm_iconst C (0 : Int32) dX11_clash_2 ic_0 ?_
  refine sm_istore_n C [(2, .int (0 : Int32)), (1, .int (0 : Int32)), (0, .ref (wad w 0))] dX11_clash_3 (by decide) rfl ?_
  exact sm_sub [2, 1, 0] rfl (sl_X11_clash_L4 C G FU (0 : Int32) (0 : Int32) s0)
theorem dd_X11_setFraction : yX11_setFraction.cls = RX11 ∧ yX11_setFraction.cls ≠ "java/lang/invoke/MethodHandle" ∧ yX11_setFraction.cls ≠ "java/lang/invoke/VarHandle" ∧ (parseMethodDescriptor yX11_setFraction.desc).map (fun d => d.parameters.length) = some 2 := by decide +kernel
set_option maxRecDepth 100000 in
set_option maxHeartbeats 4000000 in
theorem sl_X11_setFraction_L24 {M : Mco} {w : Wco} (C : Cx M w cX11_setFraction 5 yX11_setFraction.cls (Cond.code yX11_setFraction cX11_setFraction 5 none) none { frames := 0, cells := 0, slots := 0, locals := 0 }) (G : GW w) : ∀ (n : Nat) (y1 : Int32) (y2 : Int32) (y3 : Int32) (y4 : Int32) (s0 : Sta), Sm M w 5 oV 24 [(0, .ref (wad w 0)), (1, .int y1), (2, .int y2), (3, .int y3), (4, .int y4)] [] s0 (X11_setFraction_L24 n y1 y2 y3 y4 s0) := by
  intro n
  induction n with
  | zero => intros; exact sm_none
  | succ n ih =>
    intro y1 y2 y3 y4 s0
    rw [X11_setFraction_L24.eq_2]
    refine sm_iload C 4 dX11_setFraction_24 rfl ?_
    refine sm_iload_n C 1 dX11_setFraction_26 rfl ?_
    refine sm_icmp_gt C 53 dX11_setFraction_27 (by decide) ?_ ?_
    · refine sm_aload_n C 0 dX11_setFraction_53 rfl ?_
      refine sm_iload_n C 1 dX11_setFraction_54 rfl ?_
      refine sm_iload_n C 3 dX11_setFraction_55 rfl ?_
      refine sm_idivG C dX11_setFraction_56 ?_
      refine sm_i2l C dX11_setFraction_57 ?_
      refine sm_putL C (ci := 11) (R := RX11) (T := TX11) (N := 12) (j := 7) (G_N G).2 (G_N G).1 rfl gX11 tyX11 tyX11_ok nmX11 (by decide) kw_307 rfl (by decide +kernel) dX11_setFraction_58 (fun _ _ => Nat.le_of_ble_eq_true rfl) (set_fsN_7 w) (fun s3 => ?_)
      refine sm_aload_n C 0 dX11_setFraction_61 rfl ?_
      refine sm_iload_n C 2 dX11_setFraction_62 rfl ?_
      refine sm_iload_n C 3 dX11_setFraction_63 rfl ?_
      refine sm_idivG C dX11_setFraction_64 ?_
      refine sm_i2l C dX11_setFraction_65 ?_
      refine sm_putL C (ci := 11) (R := RX11) (T := TX11) (N := 12) (j := 8) (G_N G).2 (G_N G).1 rfl gX11 tyX11 tyX11_ok nmX11 (by decide) kw_308 rfl (by decide +kernel) dX11_setFraction_66 (fun _ _ => Nat.le_of_ble_eq_true rfl) (set_fsN_8 w) (fun s4 => ?_)
      exact sm_vret C dX11_setFraction_69
    · refine sm_iload_n C 1 dX11_setFraction_30 rfl ?_
      refine sm_iload C 4 dX11_setFraction_31 rfl ?_
      refine sm_iremG C dX11_setFraction_33 ?_
      refine sm_if_ne C 47 dX11_setFraction_34 (by decide) ?_ ?_
      · refine sm_iinc C 4 (y4 + (1 : Int32)) [(4, .int (y4 + (1 : Int32))), (0, .ref (wad w 0)), (1, .int y1), (2, .int y2), (3, .int y3)] dX11_setFraction_47 rfl (ii_1 _) (by decide) rfl ?_
        refine sm_goto C 24 dX11_setFraction_50 (by decide) ?_
        exact sm_sub [1, 2, 3, 4, 0] rfl (ih y1 y2 y3 (y4 + (1 : Int32)) s0)
      · refine sm_iload_n C 2 dX11_setFraction_37 rfl ?_
        refine sm_iload C 4 dX11_setFraction_38 rfl ?_
        refine sm_iremG C dX11_setFraction_40 ?_
        refine sm_if_ne C 47 dX11_setFraction_41 (by decide) ?_ ?_
        · refine sm_iinc C 4 (y4 + (1 : Int32)) [(4, .int (y4 + (1 : Int32))), (0, .ref (wad w 0)), (1, .int y1), (2, .int y2), (3, .int y3)] dX11_setFraction_47 rfl (ii_1 _) (by decide) rfl ?_
          refine sm_goto C 24 dX11_setFraction_50 (by decide) ?_
          exact sm_sub [1, 2, 3, 4, 0] rfl (ih y1 y2 y3 (y4 + (1 : Int32)) s0)
        · refine sm_iload C 4 dX11_setFraction_44 rfl ?_
          refine sm_istore_n C [(3, .int y4), (0, .ref (wad w 0)), (1, .int y1), (2, .int y2), (4, .int y4)] dX11_setFraction_46 (by decide) rfl ?_
          refine sm_iinc C 4 (y4 + (1 : Int32)) [(4, .int (y4 + (1 : Int32))), (3, .int y4), (0, .ref (wad w 0)), (1, .int y1), (2, .int y2)] dX11_setFraction_47 rfl (ii_1 _) (by decide) rfl ?_
          refine sm_goto C 24 dX11_setFraction_50 (by decide) ?_
          exact sm_sub [2, 3, 4, 1, 0] rfl (ih y1 y2 y4 (y4 + (1 : Int32)) s0)
set_option maxRecDepth 100000 in
set_option maxHeartbeats 4000000 in
theorem ct_X11_setFraction {l : Launch} {w : Wco} (G : GW w) (x1 : Int32) (x2 : Int32) (s0 : Sta) (qq : Unit) (ss : Sta) (hh : X11_setFraction x1 x2 s0 = some (qq, ss)) : Ct l w yX11_setFraction (Cond.code yX11_setFraction cX11_setFraction 5 none :: GT) { frames := 0, cells := 0, slots := 0, locals := 0 } [.ref (wad w 0), .int x1, .int x2] s0 (oV qq) ss := by
  refine ct_of [(0, .ref (wad w 0)), (1, .int x1), (2, .int x2)] (by decide +kernel) (Nat.le_of_ble_eq_true rfl) rfl hh (fun M _ C => ?_)
  unfold X11_setFraction
  refine sm_aload_n C 0 dX11_setFraction_0 rfl ?_
  refine sm_lconst C (0 : Int64) dX11_setFraction_1 lc_0 ?_
  refine sm_putL C (ci := 11) (R := RX11) (T := TX11) (N := 12) (j := 7) (G_N G).2 (G_N G).1 rfl gX11 tyX11 tyX11_ok nmX11 (by decide) kw_307 rfl (by decide +kernel) dX11_setFraction_2 (fun _ _ => Nat.le_of_ble_eq_true rfl) (set_fsN_7 w) (fun s1 => ?_)
  refine sm_aload_n C 0 dX11_setFraction_5 rfl ?_
  refine sm_lconst C (1 : Int64) dX11_setFraction_6 lc_1 ?_
  refine sm_putL C (ci := 11) (R := RX11) (T := TX11) (N := 12) (j := 8) (G_N G).2 (G_N G).1 rfl gX11 tyX11 tyX11_ok nmX11 (by decide) kw_308 rfl (by decide +kernel) dX11_setFraction_7 (fun _ _ => Nat.le_of_ble_eq_true rfl) (set_fsN_8 w) (fun s2 => ?_)
  refine sm_iload_n C 1 dX11_setFraction_10 rfl ?_
  refine sm_if_le C 18 dX11_setFraction_11 (by decide) ?_ ?_
  · exact sm_vret C dX11_setFraction_18
  · refine sm_iload_n C 2 dX11_setFraction_14 rfl ?_
    refine sm_if_gt C 19 dX11_setFraction_15 (by decide) ?_ ?_
    · refine sm_iconst C (1 : Int32) dX11_setFraction_19 ic_1 ?_
      refine sm_istore_n C [(3, .int (1 : Int32)), (0, .ref (wad w 0)), (1, .int x1), (2, .int x2)] dX11_setFraction_20 (by decide) rfl ?_
      refine sm_iconst C (2 : Int32) dX11_setFraction_21 ic_2 ?_
      refine sm_istore C [(4, .int (2 : Int32)), (3, .int (1 : Int32)), (0, .ref (wad w 0)), (1, .int x1), (2, .int x2)] dX11_setFraction_22 (by decide) rfl ?_
      exact sm_sub [2, 3, 4, 1, 0] rfl (sl_X11_setFraction_L24 C G FU x1 x2 (1 : Int32) (2 : Int32) s2)
    · exact sm_vret C dX11_setFraction_18
theorem dd_X11_odds : yX11_odds.cls = RX11 ∧ yX11_odds.cls ≠ "java/lang/invoke/MethodHandle" ∧ yX11_odds.cls ≠ "java/lang/invoke/VarHandle" ∧ (parseMethodDescriptor yX11_odds.desc).map (fun d => d.parameters.length) = some 2 := by decide +kernel
set_option maxRecDepth 100000 in
set_option maxHeartbeats 4000000 in
theorem ct_X11_odds {l : Launch} {w : Wco} (G : GW w) (x1 : Int32) (x2 : Int32) (s0 : Sta) (qq : Int32) (ss : Sta) (hh : X11_odds x1 x2 s0 = some (qq, ss)) : Ct l w yX11_odds (Cond.code yX11_odds cX11_odds 3 (some .int) :: GT) { frames := 7, cells := 0, slots := 0, locals := 187 } [.ref (wad w 0), .int x1, .int x2] s0 (oI qq) ss := by
  refine ct_of [(0, .ref (wad w 0)), (1, .int x1), (2, .int x2)] (by decide +kernel) (Nat.le_of_ble_eq_true rfl) rfl hh (fun M _ C => ?_)
  unfold X11_odds
  refine sm_aload_n C 0 dX11_odds_0 rfl ?_
  refine sm_iload_n C 1 dX11_odds_1 rfl ?_
  refine r_callVI C (R := RX11) (T := TX11) (N := 12) [.int x1] (G_N G) rfl (fun qq ss hh => ct_X11_isOne G x1 s0 qq ss hh) kw_594 kw_596 kw_10 kw_51 kw_597 dX11_odds_2 rfl dd_X11_isOne ⟨rfl, rfl⟩ ⟨by decide, by decide⟩ (Nat.le_of_ble_eq_true rfl) _ rfl (fun q1 s2 => ?_)
  refine sm_if_eq C 16 dX11_odds_5 (by decide) ?_ ?_
  · refine sm_aload_n C 0 dX11_odds_16 rfl ?_
    refine r_callVI C (R := RX11) (T := TX11) (N := 12) [] (G_N G) rfl (fun qq ss hh => ct_X11_bad G s2 qq ss hh) kw_349 kw_351 kw_0 kw_51 kw_352 dX11_odds_17 rfl dd_X11_bad ⟨rfl, rfl⟩ ⟨by decide, by decide⟩ (Nat.le_of_ble_eq_true rfl) _ rfl (fun q3 s4 => ?_)
    exact sm_iret C dX11_odds_20
  · refine sm_aload_n C 0 dX11_odds_8 rfl ?_
    refine sm_iload_n C 2 dX11_odds_9 rfl ?_
    refine r_callVI C (R := RX11) (T := TX11) (N := 12) [.int x2] (G_N G) rfl (fun qq ss hh => ct_X11_isToCome G x2 s2 qq ss hh) kw_615 kw_617 kw_11 kw_51 kw_618 dX11_odds_10 rfl dd_X11_isToCome ⟨rfl, rfl⟩ ⟨by decide, by decide⟩ (Nat.le_of_ble_eq_true rfl) _ rfl (fun q5 s6 => ?_)
    refine sm_if_ne C 21 dX11_odds_13 (by decide) ?_ ?_
    · refine sm_aload_n C 0 dX11_odds_21 rfl ?_
      refine sm_getR C (ci := 11) (R := RX11) (T := TX11) (N := 12) (j := 5) (G_N G).2 (G_N G).1 rfl gX11 (by decide) kw_305 dX11_odds_22 (fun _ _ => rfl) ?_
      refine sm_aload_n C 0 dX11_odds_25 rfl ?_
      refine sm_getR C (ci := 11) (R := RX11) (T := TX11) (N := 12) (j := 0) (G_N G).2 (G_N G).1 rfl gX11 (by decide) kw_300 dX11_odds_26 (fun _ _ => rfl) ?_
      refine r_callVU C (R := RX2) (T := TX2) (N := 4) [.ref (wad w 1)] (G_F G) rfl (fun qq ss hh => ct_X2_begin 1 G (G_now G) s6 qq ss hh) kw_643 kw_624 kw_625 kw_62 kw_626 dX11_odds_29 rfl dd_X2_begin ⟨rfl, rfl⟩ ⟨by decide, by decide⟩ (Nat.le_of_ble_eq_true rfl) _ rfl (fun q7 s8 => ?_)
      refine sm_aload_n C 0 dX11_odds_32 rfl ?_
      refine sm_getR C (ci := 11) (R := RX11) (T := TX11) (N := 12) (j := 5) (G_N G).2 (G_N G).1 rfl gX11 (by decide) kw_305 dX11_odds_33 (fun _ _ => rfl) ?_
      refine sm_iload_n C 2 dX11_odds_36 rfl ?_
      refine r_callVU C (R := RX2) (T := TX2) (N := 4) [.int x2] (G_F G) rfl (fun qq ss hh => ct_X2_runTo G x2 s8 qq ss hh) kw_644 kw_630 kw_631 kw_62 kw_632 dX11_odds_37 rfl dd_X2_runTo ⟨rfl, rfl⟩ ⟨by decide, by decide⟩ (Nat.le_of_ble_eq_true rfl) _ rfl (fun q9 s10 => ?_)
      refine sm_aload_n C 0 dX11_odds_40 rfl ?_
      refine sm_aload_n C 0 dX11_odds_41 rfl ?_
      refine sm_getR C (ci := 11) (R := RX11) (T := TX11) (N := 12) (j := 4) (G_N G).2 (G_N G).1 rfl gX11 (by decide) kw_304 dX11_odds_42 (fun _ _ => rfl) ?_
      refine sm_aload_n C 0 dX11_odds_45 rfl ?_
      refine sm_getR C (ci := 11) (R := RX11) (T := TX11) (N := 12) (j := 5) (G_N G).2 (G_N G).1 rfl gX11 (by decide) kw_305 dX11_odds_46 (fun _ _ => rfl) ?_
      refine sm_getRN C (ci := 2) (R := RX2) (T := TX2) (N := 4) (j := 1) (G_F G).2 (G_F G).1 rfl gX2 (by decide) nf_33 dX11_odds_49 (fun _ _ => rfl) ?_
      refine sm_iload_n C 1 dX11_odds_52 rfl ?_
      refine sm_iload_n C 2 dX11_odds_53 rfl ?_
      refine r_callVI C (R := RX0) (T := TX0) (N := 5) [.ref (wad w 65), .int x1, .int x2] (C_O (G_con G)) rfl (fun qq ss hh => ct_X0_strength 55 65 (G_con G) (G_trial G) x1 x2 s10 qq ss hh) kw_780 kw_512 kw_513 kw_55 kw_514 dX11_odds_54 rfl dd_X0_strength ⟨rfl, rfl⟩ ⟨by decide, by decide⟩ (Nat.le_of_ble_eq_true rfl) _ rfl (fun q11 s12 => ?_)
      refine sm_aload_n C 0 dX11_odds_57 rfl ?_
      refine sm_getR C (ci := 11) (R := RX11) (T := TX11) (N := 12) (j := 4) (G_N G).2 (G_N G).1 rfl gX11 (by decide) kw_304 dX11_odds_58 (fun _ _ => rfl) ?_
      refine sm_aload_n C 0 dX11_odds_61 rfl ?_
      refine sm_getR C (ci := 11) (R := RX11) (T := TX11) (N := 12) (j := 5) (G_N G).2 (G_N G).1 rfl gX11 (by decide) kw_305 dX11_odds_62 (fun _ _ => rfl) ?_
      refine sm_getRN C (ci := 2) (R := RX2) (T := TX2) (N := 4) (j := 1) (G_F G).2 (G_F G).1 rfl gX2 (by decide) nf_33 dX11_odds_65 (fun _ _ => rfl) ?_
      refine sm_iload_n C 2 dX11_odds_68 rfl ?_
      refine r_callVI C (R := RX0) (T := TX0) (N := 5) [.ref (wad w 65), .int x2] (C_O (G_con G)) rfl (fun qq ss hh => ct_X0_strengthOfAll 55 65 (G_con G) (G_trial G) x2 s12 qq ss hh) kw_781 kw_782 kw_783 kw_55 kw_784 dX11_odds_69 rfl dd_X0_strengthOfAll ⟨rfl, rfl⟩ ⟨by decide, by decide⟩ (Nat.le_of_ble_eq_true rfl) _ rfl (fun q13 s14 => ?_)
      refine r_callVU C (R := RX11) (T := TX11) (N := 12) [.int q11, .int q13] (G_N G) rfl (fun qq ss hh => ct_X11_setFraction G q11 q13 s14 qq ss hh) kw_785 kw_787 kw_15 kw_51 kw_788 dX11_odds_72 rfl dd_X11_setFraction ⟨rfl, rfl⟩ ⟨by decide, by decide⟩ (Nat.le_of_ble_eq_true rfl) _ rfl (fun q15 s16 => ?_)
      refine sm_iconst C (1 : Int32) dX11_odds_75 ic_1 ?_
      exact sm_iret C dX11_odds_76
    · refine sm_aload_n C 0 dX11_odds_16 rfl ?_
      refine r_callVI C (R := RX11) (T := TX11) (N := 12) [] (G_N G) rfl (fun qq ss hh => ct_X11_bad G s6 qq ss hh) kw_349 kw_351 kw_0 kw_51 kw_352 dX11_odds_17 rfl dd_X11_bad ⟨rfl, rfl⟩ ⟨by decide, by decide⟩ (Nat.le_of_ble_eq_true rfl) _ rfl (fun q17 s18 => ?_)
      exact sm_iret C dX11_odds_20
theorem dd_X11_valleys : yX11_valleys.cls = RX11 ∧ yX11_valleys.cls ≠ "java/lang/invoke/MethodHandle" ∧ yX11_valleys.cls ≠ "java/lang/invoke/VarHandle" ∧ (parseMethodDescriptor yX11_valleys.desc).map (fun d => d.parameters.length) = some 2 := by decide +kernel
set_option maxRecDepth 100000 in
set_option maxHeartbeats 4000000 in
theorem ct_X11_valleys {l : Launch} {w : Wco} (G : GW w) (x1 : Int32) (x2 : Int32) (s0 : Sta) (qq : Int32) (ss : Sta) (hh : X11_valleys x1 x2 s0 = some (qq, ss)) : Ct l w yX11_valleys (Cond.code yX11_valleys cX11_valleys 3 (some .int) :: GT) { frames := 7, cells := 0, slots := 0, locals := 193 } [.ref (wad w 0), .int x1, .int x2] s0 (oI qq) ss := by
  refine ct_of [(0, .ref (wad w 0)), (1, .int x1), (2, .int x2)] (by decide +kernel) (Nat.le_of_ble_eq_true rfl) rfl hh (fun M _ C => ?_)
  unfold X11_valleys
  refine sm_iload_n C 1 dX11_valleys_0 rfl ?_
  refine sm_iconst C (0 : Int32) dX11_valleys_1 ic_0 ?_
  refine sm_ldc C kw_793 dX11_valleys_2 ?_
  refine r_callSI C [.int x1, .int (0 : Int32), .int (999999 : Int32)] (fun qq ss hh => ct_X11_within x1 (0 : Int32) (999999 : Int32) s0 qq ss hh) kw_346 kw_347 kw_51 kw_348 dX11_valleys_4 rfl dd_X11_within ⟨rfl, rfl⟩ ⟨by decide, by decide⟩ (Nat.le_of_ble_eq_true rfl) _ rfl (fun q1 s2 => ?_)
  refine sm_if_eq C 20 dX11_valleys_7 (by decide) ?_ ?_
  · refine sm_aload_n C 0 dX11_valleys_20 rfl ?_
    refine r_callVI C (R := RX11) (T := TX11) (N := 12) [] (G_N G) rfl (fun qq ss hh => ct_X11_bad G s2 qq ss hh) kw_349 kw_351 kw_0 kw_51 kw_352 dX11_valleys_21 rfl dd_X11_bad ⟨rfl, rfl⟩ ⟨by decide, by decide⟩ (Nat.le_of_ble_eq_true rfl) _ rfl (fun q3 s4 => ?_)
    exact sm_iret C dX11_valleys_24
  · refine sm_iload_n C 2 dX11_valleys_10 rfl ?_
    refine sm_iconst C (0 : Int32) dX11_valleys_11 ic_0 ?_
    refine sm_bipush C (60 : Int32) dX11_valleys_12 bp_60 ?_
    refine r_callSI C [.int x2, .int (0 : Int32), .int (60 : Int32)] (fun qq ss hh => ct_X11_within x2 (0 : Int32) (60 : Int32) s2 qq ss hh) kw_346 kw_347 kw_51 kw_348 dX11_valleys_14 rfl dd_X11_within ⟨rfl, rfl⟩ ⟨by decide, by decide⟩ (Nat.le_of_ble_eq_true rfl) _ rfl (fun q5 s6 => ?_)
    refine sm_if_ne C 25 dX11_valleys_17 (by decide) ?_ ?_
    · refine sm_aload_n C 0 dX11_valleys_25 rfl ?_
      refine sm_getR C (ci := 11) (R := RX11) (T := TX11) (N := 12) (j := 5) (G_N G).2 (G_N G).1 rfl gX11 (by decide) kw_305 dX11_valleys_26 (fun _ _ => rfl) ?_
      refine sm_aload_n C 0 dX11_valleys_29 rfl ?_
      refine sm_getR C (ci := 11) (R := RX11) (T := TX11) (N := 12) (j := 0) (G_N G).2 (G_N G).1 rfl gX11 (by decide) kw_300 dX11_valleys_30 (fun _ _ => rfl) ?_
      refine sm_iload_n C 1 dX11_valleys_33 rfl ?_
      refine sm_iload_n C 2 dX11_valleys_34 rfl ?_
      refine r_callVI C (R := RX2) (T := TX2) (N := 4) [.ref (wad w 1), .int x1, .int x2] (G_F G) rfl (fun qq ss hh => ct_X2_worthInValleys 1 G (G_now G) x1 x2 s6 qq ss hh) kw_794 kw_795 kw_796 kw_62 kw_797 dX11_valleys_35 rfl dd_X2_worthInValleys ⟨rfl, rfl⟩ ⟨by decide, by decide⟩ (Nat.le_of_ble_eq_true rfl) _ rfl (fun q7 s8 => ?_)
      exact sm_iret C dX11_valleys_38
    · refine sm_aload_n C 0 dX11_valleys_20 rfl ?_
      refine r_callVI C (R := RX11) (T := TX11) (N := 12) [] (G_N G) rfl (fun qq ss hh => ct_X11_bad G s6 qq ss hh) kw_349 kw_351 kw_0 kw_51 kw_352 dX11_valleys_21 rfl dd_X11_bad ⟨rfl, rfl⟩ ⟨by decide, by decide⟩ (Nat.le_of_ble_eq_true rfl) _ rfl (fun q9 s10 => ?_)
      exact sm_iret C dX11_valleys_24
theorem dd_X11_part : yX11_part.cls = RX11 ∧ yX11_part.cls ≠ "java/lang/invoke/MethodHandle" ∧ yX11_part.cls ≠ "java/lang/invoke/VarHandle" ∧ (parseMethodDescriptor yX11_part.desc).map (fun d => d.parameters.length) = some 1 := by decide +kernel
set_option maxRecDepth 100000 in
set_option maxHeartbeats 4000000 in
theorem ct_X11_part {l : Launch} {w : Wco} (G : GW w) (x1 : Int32) (s0 : Sta) (qq : Int64) (ss : Sta) (hh : X11_part x1 s0 = some (qq, ss)) : Ct l w yX11_part (Cond.code yX11_part cX11_part 2 (some .long) :: GT) { frames := 1, cells := 0, slots := 0, locals := 22 } [.ref (wad w 0), .int x1] s0 (oL qq) ss := by
  refine ct_of [(0, .ref (wad w 0)), (1, .int x1)] (by decide +kernel) (Nat.le_of_ble_eq_true rfl) rfl hh (fun M _ C => ?_)
  unfold X11_part
  refine sm_iload_n C 1 dX11_part_0 rfl ?_
  refine sm_iconst C (0 : Int32) dX11_part_1 ic_0 ?_
  refine sm_iconst C (1 : Int32) dX11_part_2 ic_1 ?_
  refine r_callSI C [.int x1, .int (0 : Int32), .int (1 : Int32)] (fun qq ss hh => ct_X11_within x1 (0 : Int32) (1 : Int32) s0 qq ss hh) kw_346 kw_347 kw_51 kw_348 dX11_part_3 rfl dd_X11_within ⟨rfl, rfl⟩ ⟨by decide, by decide⟩ (Nat.le_of_ble_eq_true rfl) _ rfl (fun q1 s2 => ?_)
  refine sm_if_ne C 15 dX11_part_6 (by decide) ?_ ?_
  · refine sm_iload_n C 1 dX11_part_15 rfl ?_
    refine sm_if_ne C 26 dX11_part_16 (by decide) ?_ ?_
    · refine sm_aload_n C 0 dX11_part_26 rfl ?_
      refine sm_getL C (ci := 11) (R := RX11) (T := TX11) (N := 12) (j := 8) (G_N G).2 (G_N G).1 rfl gX11 (by decide) kw_308 dX11_part_27 (fun _ _ => rfl) (fun v3 => ?_)
      exact sm_lret C dX11_part_30
    · refine sm_aload_n C 0 dX11_part_19 rfl ?_
      refine sm_getL C (ci := 11) (R := RX11) (T := TX11) (N := 12) (j := 7) (G_N G).2 (G_N G).1 rfl gX11 (by decide) kw_307 dX11_part_20 (fun _ _ => rfl) (fun v4 => ?_)
      refine sm_goto C 30 dX11_part_23 (by decide) ?_
      exact sm_lret C dX11_part_30
  · refine sm_aload_n C 0 dX11_part_9 rfl ?_
    refine r_callVI C (R := RX11) (T := TX11) (N := 12) [] (G_N G) rfl (fun qq ss hh => ct_X11_bad G s2 qq ss hh) kw_349 kw_351 kw_0 kw_51 kw_352 dX11_part_10 rfl dd_X11_bad ⟨rfl, rfl⟩ ⟨by decide, by decide⟩ (Nat.le_of_ble_eq_true rfl) _ rfl (fun q5 s6 => ?_)
    refine sm_i2l C dX11_part_13 ?_
    exact sm_lret C dX11_part_14
theorem dd_X11_image : yX11_image.cls = RX11 ∧ yX11_image.cls ≠ "java/lang/invoke/MethodHandle" ∧ yX11_image.cls ≠ "java/lang/invoke/VarHandle" ∧ (parseMethodDescriptor yX11_image.desc).map (fun d => d.parameters.length) = some 1 := by decide +kernel
set_option maxRecDepth 100000 in
set_option maxHeartbeats 4000000 in
theorem ct_X11_image {l : Launch} {w : Wco} (G : GW w) (x1 : Int32) (s0 : Sta) (qq : Int32) (ss : Sta) (hh : X11_image x1 s0 = some (qq, ss)) : Ct l w yX11_image (Cond.code yX11_image cX11_image 2 (some .int) :: GT) { frames := 3, cells := 0, slots := 0, locals := 82 } [.ref (wad w 0), .int x1] s0 (oI qq) ss := by
  refine ct_of [(0, .ref (wad w 0)), (1, .int x1)] (by decide +kernel) (Nat.le_of_ble_eq_true rfl) rfl hh (fun M _ C => ?_)
  unfold X11_image
  refine sm_iload_n C 1 dX11_image_0 rfl ?_
  refine sm_iconst C (0 : Int32) dX11_image_1 ic_0 ?_
  refine sm_iconst C (1 : Int32) dX11_image_2 ic_1 ?_
  refine r_callSI C [.int x1, .int (0 : Int32), .int (1 : Int32)] (fun qq ss hh => ct_X11_within x1 (0 : Int32) (1 : Int32) s0 qq ss hh) kw_346 kw_347 kw_51 kw_348 dX11_image_3 rfl dd_X11_within ⟨rfl, rfl⟩ ⟨by decide, by decide⟩ (Nat.le_of_ble_eq_true rfl) _ rfl (fun q1 s2 => ?_)
  refine sm_if_ne C 14 dX11_image_6 (by decide) ?_ ?_
  · refine sm_aload_n C 0 dX11_image_14 rfl ?_
    refine sm_getR C (ci := 11) (R := RX11) (T := TX11) (N := 12) (j := 2) (G_N G).2 (G_N G).1 rfl gX11 (by decide) kw_302 dX11_image_15 (fun _ _ => rfl) ?_
    refine sm_iload_n C 1 dX11_image_18 rfl ?_
    refine r_aald C (G_images G) dX11_image_19 (fun j3 hj3 => ?_)
    refine sm_aload_n C 0 dX11_image_20 rfl ?_
    refine sm_getR C (ci := 11) (R := RX11) (T := TX11) (N := 12) (j := 0) (G_N G).2 (G_N G).1 rfl gX11 (by decide) kw_300 dX11_image_21 (fun _ _ => rfl) ?_
    refine r_callVU C (R := RX10) (T := TX10) (N := 13) [.ref (wad w 1)] (V_O (G_im G hj3)) rfl (fun qq ss hh => ct_X10_take (29 + 13 * j3) 1 (G_im G hj3) (G_now G) s2 qq ss hh) kw_481 kw_482 kw_483 kw_52 kw_484 dX11_image_24 rfl dd_X10_take ⟨rfl, rfl⟩ ⟨by decide, by decide⟩ (Nat.le_of_ble_eq_true rfl) _ rfl (fun q4 s5 => ?_)
    refine sm_aload_n C 0 dX11_image_27 rfl ?_
    refine sm_getR C (ci := 11) (R := RX11) (T := TX11) (N := 12) (j := 3) (G_N G).2 (G_N G).1 rfl gX11 (by decide) kw_303 dX11_image_28 (fun _ _ => rfl) ?_
    refine sm_iload_n C 1 dX11_image_31 rfl ?_
    refine sm_iconst C (1 : Int32) dX11_image_32 ic_1 ?_
    refine r_zast C (G_kept G) dX11_image_33 (fun s6 => ?_)
    refine sm_iconst C (1 : Int32) dX11_image_34 ic_1 ?_
    exact sm_iret C dX11_image_35
  · refine sm_aload_n C 0 dX11_image_9 rfl ?_
    refine r_callVI C (R := RX11) (T := TX11) (N := 12) [] (G_N G) rfl (fun qq ss hh => ct_X11_bad G s2 qq ss hh) kw_349 kw_351 kw_0 kw_51 kw_352 dX11_image_10 rfl dd_X11_bad ⟨rfl, rfl⟩ ⟨by decide, by decide⟩ (Nat.le_of_ble_eq_true rfl) _ rfl (fun q7 s8 => ?_)
    exact sm_iret C dX11_image_13
theorem dd_X11_from : yX11_from.cls = RX11 ∧ yX11_from.cls ≠ "java/lang/invoke/MethodHandle" ∧ yX11_from.cls ≠ "java/lang/invoke/VarHandle" ∧ (parseMethodDescriptor yX11_from.desc).map (fun d => d.parameters.length) = some 1 := by decide +kernel
set_option maxRecDepth 100000 in
set_option maxHeartbeats 4000000 in
theorem ct_X11_from {l : Launch} {w : Wco} (G : GW w) (x1 : Int32) (s0 : Sta) (qq : Int32) (ss : Sta) (hh : X11_from x1 s0 = some (qq, ss)) : Ct l w yX11_from (Cond.code yX11_from cX11_from 2 (some .int) :: GT) { frames := 3, cells := 0, slots := 0, locals := 82 } [.ref (wad w 0), .int x1] s0 (oI qq) ss := by
  refine ct_of [(0, .ref (wad w 0)), (1, .int x1)] (by decide +kernel) (Nat.le_of_ble_eq_true rfl) rfl hh (fun M _ C => ?_)
  unfold X11_from
  refine sm_iload_n C 1 dX11_from_0 rfl ?_
  refine sm_iconst C (0 : Int32) dX11_from_1 ic_0 ?_
  refine sm_iconst C (1 : Int32) dX11_from_2 ic_1 ?_
  refine r_callSI C [.int x1, .int (0 : Int32), .int (1 : Int32)] (fun qq ss hh => ct_X11_within x1 (0 : Int32) (1 : Int32) s0 qq ss hh) kw_346 kw_347 kw_51 kw_348 dX11_from_3 rfl dd_X11_within ⟨rfl, rfl⟩ ⟨by decide, by decide⟩ (Nat.le_of_ble_eq_true rfl) _ rfl (fun q1 s2 => ?_)
  refine sm_if_ne C 14 dX11_from_6 (by decide) ?_ ?_
  · refine sm_aload_n C 0 dX11_from_14 rfl ?_
    refine sm_getR C (ci := 11) (R := RX11) (T := TX11) (N := 12) (j := 3) (G_N G).2 (G_N G).1 rfl gX11 (by decide) kw_303 dX11_from_15 (fun _ _ => rfl) ?_
    refine sm_iload_n C 1 dX11_from_18 rfl ?_
    refine r_zald C (G_kept G) dX11_from_19 (fun v3 => ?_)
    refine sm_if_ne C 28 dX11_from_20 (by decide) ?_ ?_
    · refine sm_aload_n C 0 dX11_from_28 rfl ?_
      refine sm_getR C (ci := 11) (R := RX11) (T := TX11) (N := 12) (j := 0) (G_N G).2 (G_N G).1 rfl gX11 (by decide) kw_300 dX11_from_29 (fun _ _ => rfl) ?_
      refine sm_aload_n C 0 dX11_from_32 rfl ?_
      refine sm_getR C (ci := 11) (R := RX11) (T := TX11) (N := 12) (j := 2) (G_N G).2 (G_N G).1 rfl gX11 (by decide) kw_302 dX11_from_33 (fun _ _ => rfl) ?_
      refine sm_iload_n C 1 dX11_from_36 rfl ?_
      refine r_aald C (G_images G) dX11_from_37 (fun j4 hj4 => ?_)
      refine r_callVU C (R := RX10) (T := TX10) (N := 13) [.ref (wad w (29 + 13 * j4))] (V_O (G_now G)) rfl (fun qq ss hh => ct_X10_take 1 (29 + 13 * j4) (G_now G) (G_im G hj4) s2 qq ss hh) kw_481 kw_482 kw_483 kw_52 kw_484 dX11_from_38 rfl dd_X10_take ⟨rfl, rfl⟩ ⟨by decide, by decide⟩ (Nat.le_of_ble_eq_true rfl) _ rfl (fun q5 s6 => ?_)
      refine sm_iconst C (1 : Int32) dX11_from_41 ic_1 ?_
      exact sm_iret C dX11_from_42
    · refine sm_aload_n C 0 dX11_from_23 rfl ?_
      refine r_callVI C (R := RX11) (T := TX11) (N := 12) [] (G_N G) rfl (fun qq ss hh => ct_X11_no G s2 qq ss hh) kw_502 kw_504 kw_9 kw_51 kw_505 dX11_from_24 rfl dd_X11_no ⟨rfl, rfl⟩ ⟨by decide, by decide⟩ (Nat.le_of_ble_eq_true rfl) _ rfl (fun q7 s8 => ?_)
      exact sm_iret C dX11_from_27
  · refine sm_aload_n C 0 dX11_from_9 rfl ?_
    refine r_callVI C (R := RX11) (T := TX11) (N := 12) [] (G_N G) rfl (fun qq ss hh => ct_X11_bad G s2 qq ss hh) kw_349 kw_351 kw_0 kw_51 kw_352 dX11_from_10 rfl dd_X11_bad ⟨rfl, rfl⟩ ⟨by decide, by decide⟩ (Nat.le_of_ble_eq_true rfl) _ rfl (fun q9 s10 => ?_)
    exact sm_iret C dX11_from_13
theorem dd_X11_status : yX11_status.cls = RX11 ∧ yX11_status.cls ≠ "java/lang/invoke/MethodHandle" ∧ yX11_status.cls ≠ "java/lang/invoke/VarHandle" ∧ (parseMethodDescriptor yX11_status.desc).map (fun d => d.parameters.length) = some 1 := by decide +kernel
set_option maxRecDepth 100000 in
set_option maxHeartbeats 4000000 in
theorem ct_X11_status {l : Launch} {w : Wco} (G : GW w) (x1 : Int32) (s0 : Sta) (qq : Int32) (ss : Sta) (hh : X11_status x1 s0 = some (qq, ss)) : Ct l w yX11_status (Cond.code yX11_status cX11_status 2 (some .int) :: GT) { frames := 1, cells := 0, slots := 0, locals := 20 } [.ref (wad w 0), .int x1] s0 (oI qq) ss := by
  refine ct_of [(0, .ref (wad w 0)), (1, .int x1)] (by decide +kernel) (Nat.le_of_ble_eq_true rfl) rfl hh (fun M _ C => ?_)
  unfold X11_status
  refine sm_iload_n C 1 dX11_status_0 rfl ?_
  refine r_table C 43 dX11_status_1 rfl (by decide) ⟨⟨(show (0 : Int32).toInt = (0 : Int) + ((0 : Nat) : Int) from by decide), 27, 28, rfl, by decide, ?_⟩, ⟨⟨(show (1 : Int32).toInt = (0 : Int) + ((1 : Nat) : Int) from by decide), 32, 33, rfl, by decide, ?_⟩, ⟨⟨(show (2 : Int32).toInt = (0 : Int) + ((2 : Nat) : Int) from by decide), 37, 38, rfl, by decide, ?_⟩, trivial⟩⟩⟩ ?_
  · dsimp only
    refine sm_aload_n C 0 dX11_status_28 rfl ?_
    refine sm_getI C (ci := 11) (R := RX11) (T := TX11) (N := 12) (j := 9) (G_N G).2 (G_N G).1 rfl gX11 (by decide) kw_309 dX11_status_29 (fun _ _ => rfl) (fun v3 => ?_)
    exact sm_iret C dX11_status_32
  · dsimp only
    refine sm_aload_n C 0 dX11_status_33 rfl ?_
    refine sm_getI C (ci := 11) (R := RX11) (T := TX11) (N := 12) (j := 10) (G_N G).2 (G_N G).1 rfl gX11 (by decide) kw_310 dX11_status_34 (fun _ _ => rfl) (fun v4 => ?_)
    exact sm_iret C dX11_status_37
  · dsimp only
    refine sm_aload_n C 0 dX11_status_38 rfl ?_
    refine sm_getI C (ci := 11) (R := RX11) (T := TX11) (N := 12) (j := 11) (G_N G).2 (G_N G).1 rfl gX11 (by decide) kw_311 dX11_status_39 (fun _ _ => rfl) (fun v5 => ?_)
    exact sm_iret C dX11_status_42
  · refine sm_aload_n C 0 dX11_status_43 rfl ?_
    refine r_callVI C (R := RX11) (T := TX11) (N := 12) [] (G_N G) rfl (fun qq ss hh => ct_X11_bad G s0 qq ss hh) kw_349 kw_351 kw_0 kw_51 kw_352 dX11_status_44 rfl dd_X11_bad ⟨rfl, rfl⟩ ⟨by decide, by decide⟩ (Nat.le_of_ble_eq_true rfl) _ rfl (fun q1 s2 => ?_)
    refine sm_pop C dX11_status_47 rfl ?_
    refine sm_iconst C (-1 : Int32) dX11_status_48 ic_m1 ?_
    exact sm_iret C dX11_status_49
theorem dd_X11_amount : yX11_amount.cls = RX11 ∧ yX11_amount.cls ≠ "java/lang/invoke/MethodHandle" ∧ yX11_amount.cls ≠ "java/lang/invoke/VarHandle" ∧ (parseMethodDescriptor yX11_amount.desc).map (fun d => d.parameters.length) = some 1 := by decide +kernel
set_option maxRecDepth 100000 in
set_option maxHeartbeats 4000000 in
theorem ct_X11_amount {l : Launch} {w : Wco} (G : GW w) (x1 : Int32) (s0 : Sta) (qq : Int32) (ss : Sta) (hh : X11_amount x1 s0 = some (qq, ss)) : Ct l w yX11_amount (Cond.code yX11_amount cX11_amount 2 (some .int) :: GT) { frames := 2, cells := 0, slots := 0, locals := 42 } [.ref (wad w 0), .int x1] s0 (oI qq) ss := by
  refine ct_of [(0, .ref (wad w 0)), (1, .int x1)] (by decide +kernel) (Nat.le_of_ble_eq_true rfl) rfl hh (fun M _ C => ?_)
  unfold X11_amount
  refine sm_iload_n C 1 dX11_amount_0 rfl ?_
  refine r_table C 106 dX11_amount_1 rfl (by decide) ⟨⟨(show (0 : Int32).toInt = (0 : Int) + ((0 : Nat) : Int) from by decide), 43, 44, rfl, by decide, ?_⟩, ⟨⟨(show (1 : Int32).toInt = (0 : Int) + ((1 : Nat) : Int) from by decide), 51, 52, rfl, by decide, ?_⟩, ⟨⟨(show (2 : Int32).toInt = (0 : Int) + ((2 : Nat) : Int) from by decide), 59, 60, rfl, by decide, ?_⟩, ⟨⟨(show (3 : Int32).toInt = (0 : Int) + ((3 : Nat) : Int) from by decide), 67, 68, rfl, by decide, ?_⟩, ⟨⟨(show (4 : Int32).toInt = (0 : Int) + ((4 : Nat) : Int) from by decide), 75, 76, rfl, by decide, ?_⟩, ⟨⟨(show (5 : Int32).toInt = (0 : Int) + ((5 : Nat) : Int) from by decide), 86, 87, rfl, by decide, ?_⟩, ⟨⟨(show (6 : Int32).toInt = (0 : Int) + ((6 : Nat) : Int) from by decide), 97, 98, rfl, by decide, ?_⟩, trivial⟩⟩⟩⟩⟩⟩⟩ ?_
  · dsimp only
    refine sm_aload_n C 0 dX11_amount_44 rfl ?_
    refine sm_getR C (ci := 11) (R := RX11) (T := TX11) (N := 12) (j := 0) (G_N G).2 (G_N G).1 rfl gX11 (by decide) kw_300 dX11_amount_45 (fun _ _ => rfl) ?_
    refine sm_getIN C (ci := 10) (R := RX10) (T := TX10) (N := 13) (j := 10) (V_O (G_now G)).2 (V_O (G_now G)).1 rfl gX10 (by decide) nf_20 dX11_amount_48 (fun _ _ => rfl) (fun v2 => ?_)
    exact sm_iret C dX11_amount_51
  · dsimp only
    refine sm_aload_n C 0 dX11_amount_52 rfl ?_
    refine sm_getR C (ci := 11) (R := RX11) (T := TX11) (N := 12) (j := 0) (G_N G).2 (G_N G).1 rfl gX11 (by decide) kw_300 dX11_amount_53 (fun _ _ => rfl) ?_
    refine sm_getIN C (ci := 10) (R := RX10) (T := TX10) (N := 13) (j := 11) (V_O (G_now G)).2 (V_O (G_now G)).1 rfl gX10 (by decide) nf_25 dX11_amount_56 (fun _ _ => rfl) (fun v3 => ?_)
    exact sm_iret C dX11_amount_59
  · dsimp only
    refine sm_aload_n C 0 dX11_amount_60 rfl ?_
    refine sm_getR C (ci := 11) (R := RX11) (T := TX11) (N := 12) (j := 0) (G_N G).2 (G_N G).1 rfl gX11 (by decide) kw_300 dX11_amount_61 (fun _ _ => rfl) ?_
    refine r_callVI C (R := RX10) (T := TX10) (N := 13) [] (V_O (G_now G)) rfl (fun qq ss hh => ct_X10_prizesTold 1 (G_now G) s0 qq ss hh) kw_830 kw_831 kw_832 kw_52 kw_833 dX11_amount_64 rfl dd_X10_prizesTold ⟨rfl, rfl⟩ ⟨by decide, by decide⟩ (Nat.le_of_ble_eq_true rfl) _ rfl (fun q4 s5 => ?_)
    exact sm_iret C dX11_amount_67
  · dsimp only
    refine sm_aload_n C 0 dX11_amount_68 rfl ?_
    refine sm_getR C (ci := 11) (R := RX11) (T := TX11) (N := 12) (j := 0) (G_N G).2 (G_N G).1 rfl gX11 (by decide) kw_300 dX11_amount_69 (fun _ _ => rfl) ?_
    refine r_callVI C (R := RX10) (T := TX10) (N := 13) [] (V_O (G_now G)) rfl (fun qq ss hh => ct_X10_winsOfAll 1 (G_now G) s0 qq ss hh) kw_834 kw_835 kw_836 kw_52 kw_837 dX11_amount_72 rfl dd_X10_winsOfAll ⟨rfl, rfl⟩ ⟨by decide, by decide⟩ (Nat.le_of_ble_eq_true rfl) _ rfl (fun q6 s7 => ?_)
    exact sm_iret C dX11_amount_75
  · dsimp only
    refine sm_aload_n C 0 dX11_amount_76 rfl ?_
    refine sm_getR C (ci := 11) (R := RX11) (T := TX11) (N := 12) (j := 0) (G_N G).2 (G_N G).1 rfl gX11 (by decide) kw_300 dX11_amount_77 (fun _ _ => rfl) ?_
    refine sm_getRN C (ci := 10) (R := RX10) (T := TX10) (N := 13) (j := 8) (V_O (G_now G)).2 (V_O (G_now G)).1 rfl gX10 (by decide) nf_17 dX11_amount_80 (fun _ _ => rfl) ?_
    refine sm_getIN C (ci := 9) (R := RX9) (T := TX9) (N := 2) (j := 1) (T_O (V_notes (G_now G))).2 (T_O (V_notes (G_now G))).1 rfl gX9 (by decide) nf_2 dX11_amount_83 (fun _ _ => rfl) (fun v8 => ?_)
    exact sm_iret C dX11_amount_86
  · dsimp only
    refine sm_aload_n C 0 dX11_amount_87 rfl ?_
    refine sm_getR C (ci := 11) (R := RX11) (T := TX11) (N := 12) (j := 0) (G_N G).2 (G_N G).1 rfl gX11 (by decide) kw_300 dX11_amount_88 (fun _ _ => rfl) ?_
    refine sm_getRN C (ci := 10) (R := RX10) (T := TX10) (N := 13) (j := 9) (V_O (G_now G)).2 (V_O (G_now G)).1 rfl gX10 (by decide) nf_19 dX11_amount_91 (fun _ _ => rfl) ?_
    refine sm_getIN C (ci := 9) (R := RX9) (T := TX9) (N := 2) (j := 1) (T_O (V_beatings (G_now G))).2 (T_O (V_beatings (G_now G))).1 rfl gX9 (by decide) nf_2 dX11_amount_94 (fun _ _ => rfl) (fun v9 => ?_)
    exact sm_iret C dX11_amount_97
  · dsimp only
    refine sm_aload_n C 0 dX11_amount_98 rfl ?_
    refine sm_getR C (ci := 11) (R := RX11) (T := TX11) (N := 12) (j := 0) (G_N G).2 (G_N G).1 rfl gX11 (by decide) kw_300 dX11_amount_99 (fun _ _ => rfl) ?_
    refine sm_getIN C (ci := 10) (R := RX10) (T := TX10) (N := 13) (j := 12) (V_O (G_now G)).2 (V_O (G_now G)).1 rfl gX10 (by decide) nf_27 dX11_amount_102 (fun _ _ => rfl) (fun v10 => ?_)
    exact sm_iret C dX11_amount_105
  · refine sm_aload_n C 0 dX11_amount_106 rfl ?_
    refine sm_getR C (ci := 11) (R := RX11) (T := TX11) (N := 12) (j := 6) (G_N G).2 (G_N G).1 rfl gX11 (by decide) kw_306 dX11_amount_107 (fun _ _ => rfl) ?_
    refine sm_getIN C (ci := 8) (R := RX8) (T := TX8) (N := 6) (j := 1) (G_S G).2 (G_S G).1 rfl gX8 (by decide) nf_34 dX11_amount_110 (fun _ _ => rfl) (fun v1 => ?_)
    exact sm_iret C dX11_amount_113
theorem dd_X11_count : yX11_count.cls = RX11 ∧ yX11_count.cls ≠ "java/lang/invoke/MethodHandle" ∧ yX11_count.cls ≠ "java/lang/invoke/VarHandle" ∧ (parseMethodDescriptor yX11_count.desc).map (fun d => d.parameters.length) = some 1 := by decide +kernel
set_option maxRecDepth 100000 in
set_option maxHeartbeats 4000000 in
theorem ct_X11_count {l : Launch} {w : Wco} (G : GW w) (x1 : Int32) (s0 : Sta) (qq : Int32) (ss : Sta) (hh : X11_count x1 s0 = some (qq, ss)) : Ct l w yX11_count (Cond.code yX11_count cX11_count 2 (some .int) :: GT) { frames := 3, cells := 0, slots := 0, locals := 63 } [.ref (wad w 0), .int x1] s0 (oI qq) ss := by
  refine ct_of [(0, .ref (wad w 0)), (1, .int x1)] (by decide +kernel) (Nat.le_of_ble_eq_true rfl) rfl hh (fun M _ C => ?_)
  unfold X11_count
  refine sm_iload_n C 1 dX11_count_0 rfl ?_
  refine sm_iconst C (0 : Int32) dX11_count_1 ic_0 ?_
  refine sm_bipush C (7 : Int32) dX11_count_2 bp_7 ?_
  refine r_callSI C [.int x1, .int (0 : Int32), .int (7 : Int32)] (fun qq ss hh => ct_X11_within x1 (0 : Int32) (7 : Int32) s0 qq ss hh) kw_346 kw_347 kw_51 kw_348 dX11_count_4 rfl dd_X11_within ⟨rfl, rfl⟩ ⟨by decide, by decide⟩ (Nat.le_of_ble_eq_true rfl) _ rfl (fun q1 s2 => ?_)
  refine sm_if_ne C 15 dX11_count_7 (by decide) ?_ ?_
  · refine sm_aload_n C 0 dX11_count_15 rfl ?_
    refine sm_iload_n C 1 dX11_count_16 rfl ?_
    refine r_callVI C (R := RX11) (T := TX11) (N := 12) [.int x1] (G_N G) rfl (fun qq ss hh => ct_X11_amount G x1 s2 qq ss hh) kw_826 kw_828 kw_16 kw_51 kw_829 dX11_count_17 rfl dd_X11_amount ⟨rfl, rfl⟩ ⟨by decide, by decide⟩ (Nat.le_of_ble_eq_true rfl) _ rfl (fun q3 s4 => ?_)
    exact sm_iret C dX11_count_20
  · refine sm_aload_n C 0 dX11_count_10 rfl ?_
    refine r_callVI C (R := RX11) (T := TX11) (N := 12) [] (G_N G) rfl (fun qq ss hh => ct_X11_bad G s2 qq ss hh) kw_349 kw_351 kw_0 kw_51 kw_352 dX11_count_11 rfl dd_X11_bad ⟨rfl, rfl⟩ ⟨by decide, by decide⟩ (Nat.le_of_ble_eq_true rfl) _ rfl (fun q5 s6 => ?_)
    exact sm_iret C dX11_count_14
theorem dd_X11_digest : yX11_digest.cls = RX11 ∧ yX11_digest.cls ≠ "java/lang/invoke/MethodHandle" ∧ yX11_digest.cls ≠ "java/lang/invoke/VarHandle" ∧ (parseMethodDescriptor yX11_digest.desc).map (fun d => d.parameters.length) = some 0 := by decide +kernel
set_option maxRecDepth 100000 in
set_option maxHeartbeats 4000000 in
theorem sl_X11_digest_L6 {M : Mco} {w : Wco} (C : Cx M w cX11_digest 4 yX11_digest.cls (Cond.code yX11_digest cX11_digest 4 (some .long)) (some .long) { frames := 3, cells := 0, slots := 0, locals := 63 }) (G : GW w) : ∀ (n : Nat) (y1 : Int64) (y3 : Int32) (s0 : Sta), Sm M w 4 oL 6 [(0, .ref (wad w 0)), (1, .long y1), (3, .int y3)] [] s0 (X11_digest_L6 n y1 y3 s0) := by
  intro n
  induction n with
  | zero => intros; exact sm_none
  | succ n ih =>
    intro y1 y3 s0
    rw [X11_digest_L6.eq_2]
    refine sm_iload_n C 2 dX11_digest_6 rfl ?_
    refine sm_bipush C (8 : Int32) dX11_digest_7 bp_8 ?_
    refine sm_icmp_ge C 31 dX11_digest_9 (by decide) ?_ ?_
    · refine sm_aload_n C 0 dX11_digest_31 rfl ?_
      refine sm_getR C (ci := 11) (R := RX11) (T := TX11) (N := 12) (j := 0) (G_N G).2 (G_N G).1 rfl gX11 (by decide) kw_300 dX11_digest_32 (fun _ _ => rfl) ?_
      refine sm_lload_n C 1 dX11_digest_35 rfl ?_
      refine r_callVL C (R := RX10) (T := TX10) (N := 13) [.long y1] (V_O (G_now G)) rfl (fun qq ss hh => ct_X10_mixedInto 1 (G_now G) y1 s0 qq ss hh) kw_845 kw_846 kw_847 kw_52 kw_848 dX11_digest_36 rfl dd_X10_mixedInto ⟨rfl, rfl⟩ ⟨by decide, by decide⟩ (Nat.le_of_ble_eq_true rfl) _ rfl (fun q1 s2 => ?_)
      refine sm_lstore_n C [(1, .long q1), (0, .ref (wad w 0)), (3, .int y3)] dX11_digest_39 (by decide) rfl ?_
      refine sm_ldc2 C kw_844 dX11_digest_40 ?_
      refine sm_lload_n C 0 dX11_digest_43 rfl ?_
      refine sm_lmul C dX11_digest_44 ?_
      refine sm_aload_n C 1 dX11_digest_45 rfl ?_
      refine sm_getL C (ci := 11) (R := RX11) (T := TX11) (N := 12) (j := 7) (G_N G).2 (G_N G).1 rfl gX11 (by decide) kw_307 dX11_digest_46 (fun _ _ => rfl) (fun v3 => ?_)
      refine sm_ladd C dX11_digest_49 ?_
      refine sm_lstore_n C [(1, .long (((31 : Int64) * q1) + v3)), (0, .ref (wad w 0)), (3, .int y3)] dX11_digest_50 (by decide) rfl ?_
      refine sm_ldc2 C kw_844 dX11_digest_51 ?_
      refine sm_lload_n C 0 dX11_digest_54 rfl ?_
      refine sm_lmul C dX11_digest_55 ?_
      refine sm_aload_n C 1 dX11_digest_56 rfl ?_
      refine sm_getL C (ci := 11) (R := RX11) (T := TX11) (N := 12) (j := 8) (G_N G).2 (G_N G).1 rfl gX11 (by decide) kw_308 dX11_digest_57 (fun _ _ => rfl) (fun v4 => ?_)
      refine sm_ladd C dX11_digest_60 ?_
      exact sm_lret C dX11_digest_61
    · refine sm_ldc2 C kw_844 dX11_digest_12 ?_
      refine sm_lload_n C 1 dX11_digest_15 rfl ?_
      refine sm_lmul C dX11_digest_16 ?_
      refine sm_aload_n C 0 dX11_digest_17 rfl ?_
      refine sm_iload_n C 2 dX11_digest_18 rfl ?_
      refine r_callVI C (R := RX11) (T := TX11) (N := 12) [.int y3] (G_N G) rfl (fun qq ss hh => ct_X11_amount G y3 s0 qq ss hh) kw_826 kw_828 kw_16 kw_51 kw_829 dX11_digest_19 rfl dd_X11_amount ⟨rfl, rfl⟩ ⟨by decide, by decide⟩ (Nat.le_of_ble_eq_true rfl) _ rfl (fun q5 s6 => ?_)
      refine sm_i2l C dX11_digest_22 ?_
      refine sm_ladd C dX11_digest_23 ?_
      refine sm_lstore_n C [(1, .long (((31 : Int64) * y1) + q5.toInt64)), (0, .ref (wad w 0)), (3, .int y3)] dX11_digest_24 (by decide) rfl ?_
      refine sm_iinc C 2 (y3 + (1 : Int32)) [(3, .int (y3 + (1 : Int32))), (1, .long (((31 : Int64) * y1) + q5.toInt64)), (0, .ref (wad w 0))] dX11_digest_25 rfl (ii_1 _) (by decide) rfl ?_
      refine sm_goto C 6 dX11_digest_28 (by decide) ?_
      exact sm_sub [2, 1, 0] rfl (ih (((31 : Int64) * y1) + q5.toInt64) (y3 + (1 : Int32)) s6)
set_option maxRecDepth 100000 in
set_option maxHeartbeats 4000000 in
theorem ct_X11_digest {l : Launch} {w : Wco} (G : GW w) (s0 : Sta) (qq : Int64) (ss : Sta) (hh : X11_digest s0 = some (qq, ss)) : Ct l w yX11_digest (Cond.code yX11_digest cX11_digest 4 (some .long) :: GT) { frames := 3, cells := 0, slots := 0, locals := 63 } [.ref (wad w 0)] s0 (oL qq) ss := by
  refine ct_of [(0, .ref (wad w 0))] (by decide +kernel) (Nat.le_of_ble_eq_true rfl) rfl hh (fun M _ C => ?_)
  unfold X11_digest
  refine sm_ldc2 C kw_843 dX11_digest_0 ?_
  refine sm_lstore_n C [(1, .long (1303 : Int64)), (0, .ref (wad w 0))] dX11_digest_3 (by decide) rfl ?_
  refine sm_iconst C (0 : Int32) dX11_digest_4 ic_0 ?_
  refine sm_istore_n C [(3, .int (0 : Int32)), (1, .long (1303 : Int64)), (0, .ref (wad w 0))] dX11_digest_5 (by decide) rfl ?_
  exact sm_sub [2, 1, 0] rfl (sl_X11_digest_L6 C G FU (1303 : Int64) (0 : Int32) s0)
theorem dd_X12_in : yX12_in.cls ≠ "java/lang/invoke/MethodHandle" ∧ yX12_in.cls ≠ "java/lang/invoke/VarHandle" ∧ (parseMethodDescriptor yX12_in.desc).map (fun d => d.parameters.length) = some 3 := by decide +kernel
set_option maxRecDepth 100000 in
set_option maxHeartbeats 4000000 in
theorem ct_X12_in {l : Launch} {w : Wco} (x1 : Int64) (x2 : Int64) (x3 : Int64) (s0 : Sta) (qq : Int32) (ss : Sta) (hh : X12_in x1 x2 x3 s0 = some (qq, ss)) : Ct l w yX12_in (Cond.code yX12_in cX12_in 6 (some .boolean) :: GT) { frames := 0, cells := 0, slots := 0, locals := 0 } [.long x1, .long x2, .long x3] s0 (oI qq) ss := by
  refine ct_of [(0, .long x1), (2, .long x2), (4, .long x3)] (by decide +kernel) (Nat.le_of_ble_eq_true rfl) rfl hh (fun M _ C => ?_)
  unfold X12_in
  refine sm_lload_n C 0 dX12_in_0 rfl ?_
  refine sm_lload_n C 1 dX12_in_1 rfl ?_
  refine sm_lcmp C dX12_in_2 ?_
  refine sm_if_lt C 17 dX12_in_3 (by decide) ?_ ?_
  · refine sm_iconst C (0 : Int32) dX12_in_17 ic_0 ?_
    exact sm_zret C dX12_in_18
  · refine sm_lload_n C 0 dX12_in_6 rfl ?_
    refine sm_lload C 2 dX12_in_7 rfl ?_
    refine sm_lcmp C dX12_in_9 ?_
    refine sm_if_gt C 17 dX12_in_10 (by decide) ?_ ?_
    · refine sm_iconst C (0 : Int32) dX12_in_17 ic_0 ?_
      exact sm_zret C dX12_in_18
    · refine sm_iconst C (1 : Int32) dX12_in_13 ic_1 ?_
      refine sm_goto C 18 dX12_in_14 (by decide) ?_
      exact sm_zret C dX12_in_18
theorem dd_X12_bad : yX12_bad.cls = RX12 ∧ yX12_bad.cls ≠ "java/lang/invoke/MethodHandle" ∧ yX12_bad.cls ≠ "java/lang/invoke/VarHandle" ∧ (parseMethodDescriptor yX12_bad.desc).map (fun d => d.parameters.length) = some 1 := by decide +kernel
set_option maxRecDepth 100000 in
set_option maxHeartbeats 4000000 in
theorem ct_X12_bad {l : Launch} {w : Wco} (G : GW w) (x1 : Int32) (s0 : Sta) (qq : Int32) (ss : Sta) (hh : X12_bad x1 s0 = some (qq, ss)) : Ct l w yX12_bad (Cond.code yX12_bad cX12_bad 2 (some .int) :: GT) { frames := 0, cells := 0, slots := 0, locals := 0 } [.ref (wad w 82), .int x1] s0 (oI qq) ss := by
  refine ct_of [(0, .ref (wad w 82)), (1, .int x1)] (by decide +kernel) (Nat.le_of_ble_eq_true rfl) rfl hh (fun M _ C => ?_)
  unfold X12_bad
  refine sm_aload_n C 0 dX12_bad_0 rfl ?_
  refine sm_getR C (ci := 12) (R := RX12) (T := TX12) (N := 21) (j := 3) (G_M G).2 (G_M G).1 rfl gX12 (by decide) kw_867 dX12_bad_1 (fun _ _ => rfl) ?_
  refine sm_iconst C (0 : Int32) dX12_bad_4 ic_0 ?_
  refine sm_dup2 C dX12_bad_5 rfl rfl ?_
  refine r_iald C (G_m86 G) dX12_bad_6 (fun v1 => ?_)
  refine sm_iconst C (1 : Int32) dX12_bad_7 ic_1 ?_
  refine sm_iadd C dX12_bad_8 ?_
  refine r_iast C (G_m86 G) dX12_bad_9 (fun s2 => ?_)
  refine sm_iload_n C 1 dX12_bad_10 rfl ?_
  exact sm_iret C dX12_bad_11
theorem dd_X12_no : yX12_no.cls = RX12 ∧ yX12_no.cls ≠ "java/lang/invoke/MethodHandle" ∧ yX12_no.cls ≠ "java/lang/invoke/VarHandle" ∧ (parseMethodDescriptor yX12_no.desc).map (fun d => d.parameters.length) = some 0 := by decide +kernel
set_option maxRecDepth 100000 in
set_option maxHeartbeats 4000000 in
theorem ct_X12_no {l : Launch} {w : Wco} (G : GW w) (s0 : Sta) (qq : Int32) (ss : Sta) (hh : X12_no s0 = some (qq, ss)) : Ct l w yX12_no (Cond.code yX12_no cX12_no 1 (some .int) :: GT) { frames := 0, cells := 0, slots := 0, locals := 0 } [.ref (wad w 82)] s0 (oI qq) ss := by
  refine ct_of [(0, .ref (wad w 82))] (by decide +kernel) (Nat.le_of_ble_eq_true rfl) rfl hh (fun M _ C => ?_)
  unfold X12_no
  refine sm_aload_n C 0 dX12_no_0 rfl ?_
  refine sm_getR C (ci := 12) (R := RX12) (T := TX12) (N := 21) (j := 3) (G_M G).2 (G_M G).1 rfl gX12 (by decide) kw_867 dX12_no_1 (fun _ _ => rfl) ?_
  refine sm_iconst C (1 : Int32) dX12_no_4 ic_1 ?_
  refine sm_dup2 C dX12_no_5 rfl rfl ?_
  refine r_iald C (G_m86 G) dX12_no_6 (fun v1 => ?_)
  refine sm_iconst C (1 : Int32) dX12_no_7 ic_1 ?_
  refine sm_iadd C dX12_no_8 ?_
  refine r_iast C (G_m86 G) dX12_no_9 (fun s2 => ?_)
  refine sm_bipush C (-3 : Int32) dX12_no_10 bp_m3 ?_
  exact sm_iret C dX12_no_12
theorem dd_X12_full : yX12_full.cls = RX12 ∧ yX12_full.cls ≠ "java/lang/invoke/MethodHandle" ∧ yX12_full.cls ≠ "java/lang/invoke/VarHandle" ∧ (parseMethodDescriptor yX12_full.desc).map (fun d => d.parameters.length) = some 0 := by decide +kernel
set_option maxRecDepth 100000 in
set_option maxHeartbeats 4000000 in
theorem ct_X12_full {l : Launch} {w : Wco} (G : GW w) (s0 : Sta) (qq : Int32) (ss : Sta) (hh : X12_full s0 = some (qq, ss)) : Ct l w yX12_full (Cond.code yX12_full cX12_full 1 (some .int) :: GT) { frames := 0, cells := 0, slots := 0, locals := 0 } [.ref (wad w 82)] s0 (oI qq) ss := by
  refine ct_of [(0, .ref (wad w 82))] (by decide +kernel) (Nat.le_of_ble_eq_true rfl) rfl hh (fun M _ C => ?_)
  unfold X12_full
  refine sm_aload_n C 0 dX12_full_0 rfl ?_
  refine sm_getR C (ci := 12) (R := RX12) (T := TX12) (N := 21) (j := 3) (G_M G).2 (G_M G).1 rfl gX12 (by decide) kw_867 dX12_full_1 (fun _ _ => rfl) ?_
  refine sm_iconst C (2 : Int32) dX12_full_4 ic_2 ?_
  refine sm_dup2 C dX12_full_5 rfl rfl ?_
  refine r_iald C (G_m86 G) dX12_full_6 (fun v1 => ?_)
  refine sm_iconst C (1 : Int32) dX12_full_7 ic_1 ?_
  refine sm_iadd C dX12_full_8 ?_
  refine r_iast C (G_m86 G) dX12_full_9 (fun s2 => ?_)
  refine sm_bipush C (-4 : Int32) dX12_full_10 bp_m4 ?_
  exact sm_iret C dX12_full_12
theorem dd_X12_bits : yX12_bits.cls ≠ "java/lang/invoke/MethodHandle" ∧ yX12_bits.cls ≠ "java/lang/invoke/VarHandle" ∧ (parseMethodDescriptor yX12_bits.desc).map (fun d => d.parameters.length) = some 1 := by decide +kernel
set_option maxRecDepth 100000 in
set_option maxHeartbeats 4000000 in
theorem sl_X12_bits_L4 {M : Mco} {w : Wco} (C : Cx M w cX12_bits 3 yX12_bits.cls (Cond.code yX12_bits cX12_bits 3 (some .int)) (some .int) { frames := 0, cells := 0, slots := 0, locals := 0 }) : ∀ (n : Nat) (y1 : Int32) (y2 : Int32) (s0 : Sta), Sm M w 3 oI 4 [(1, .int y1), (2, .int y2)] [] s0 (X12_bits_L4 n y1 y2 s0) := by
  intro n
  induction n with
  | zero => intros; exact sm_none
  | succ n ih =>
    intro y1 y2 s0
    rw [X12_bits_L4.eq_2]
    refine sm_iload_n C 1 dX12_bits_4 rfl ?_
    refine sm_if_le C 21 dX12_bits_5 (by decide) ?_ ?_
    · refine sm_iload_n C 0 dX12_bits_21 rfl ?_
      exact sm_iret C dX12_bits_22
    · refine sm_iload_n C 0 dX12_bits_8 rfl ?_
      refine sm_iload_n C 1 dX12_bits_9 rfl ?_
      refine sm_iconst C (1 : Int32) dX12_bits_10 ic_1 ?_
      refine sm_iand C dX12_bits_11 ?_
      refine sm_iadd C dX12_bits_12 ?_
      refine sm_istore_n C [(1, .int (y1 + (y2 &&& (1 : Int32)))), (2, .int y2)] dX12_bits_13 (by decide) rfl ?_
      refine sm_iload_n C 1 dX12_bits_14 rfl ?_
      refine sm_iconst C (1 : Int32) dX12_bits_15 ic_1 ?_
      refine sm_ishr C dX12_bits_16 ?_
      refine sm_istore_n C [(2, .int (y2 >>> ((1 : Int32) &&& 31))), (1, .int (y1 + (y2 &&& (1 : Int32))))] dX12_bits_17 (by decide) rfl ?_
      refine sm_goto C 4 dX12_bits_18 (by decide) ?_
      exact sm_sub [1, 0] rfl (ih (y1 + (y2 &&& (1 : Int32))) (y2 >>> ((1 : Int32) &&& 31)) s0)
set_option maxRecDepth 100000 in
set_option maxHeartbeats 4000000 in
theorem ct_X12_bits {l : Launch} {w : Wco} (x1 : Int32) (s0 : Sta) (qq : Int32) (ss : Sta) (hh : X12_bits x1 s0 = some (qq, ss)) : Ct l w yX12_bits (Cond.code yX12_bits cX12_bits 3 (some .int) :: GT) { frames := 0, cells := 0, slots := 0, locals := 0 } [.int x1] s0 (oI qq) ss := by
  refine ct_of [(0, .int x1)] (by decide +kernel) (Nat.le_of_ble_eq_true rfl) rfl hh (fun M _ C => ?_)
  unfold X12_bits
  refine sm_iconst C (0 : Int32) dX12_bits_0 ic_0 ?_
  refine sm_istore_n C [(1, .int (0 : Int32)), (0, .int x1)] dX12_bits_1 (by decide) rfl ?_
  refine sm_iload_n C 1 dX12_bits_2 rfl ?_
  refine sm_istore_n C [(2, .int x1), (1, .int (0 : Int32)), (0, .int x1)] dX12_bits_3 (by decide) rfl ?_
  exact sm_sub [1, 0] rfl (sl_X12_bits_L4 C FU (0 : Int32) x1 s0)
theorem dd_X12_has : yX12_has.cls ≠ "java/lang/invoke/MethodHandle" ∧ yX12_has.cls ≠ "java/lang/invoke/VarHandle" ∧ (parseMethodDescriptor yX12_has.desc).map (fun d => d.parameters.length) = some 2 := by decide +kernel
set_option maxRecDepth 100000 in
set_option maxHeartbeats 4000000 in
theorem ct_X12_has {l : Launch} {w : Wco} (x1 : Int32) (x2 : Int32) (s0 : Sta) (qq : Int32) (ss : Sta) (hh : X12_has x1 x2 s0 = some (qq, ss)) : Ct l w yX12_has (Cond.code yX12_has cX12_has 2 (some .boolean) :: GT) { frames := 0, cells := 0, slots := 0, locals := 0 } [.int x1, .int x2] s0 (oI qq) ss := by
  refine ct_of [(0, .int x1), (1, .int x2)] (by decide +kernel) (Nat.le_of_ble_eq_true rfl) rfl hh (fun M _ C => ?_)
  unfold X12_has
  refine sm_iload_n C 0 dX12_has_0 rfl ?_
  refine sm_iload_n C 1 dX12_has_1 rfl ?_
  refine sm_ishr C dX12_has_2 ?_
  refine sm_iconst C (1 : Int32) dX12_has_3 ic_1 ?_
  refine sm_iand C dX12_has_4 ?_
  refine sm_iconst C (1 : Int32) dX12_has_5 ic_1 ?_
  refine sm_icmp_ne C 13 dX12_has_6 (by decide) ?_ ?_
  · refine sm_iconst C (0 : Int32) dX12_has_13 ic_0 ?_
    exact sm_zret C dX12_has_14
  · refine sm_iconst C (1 : Int32) dX12_has_9 ic_1 ?_
    refine sm_goto C 14 dX12_has_10 (by decide) ?_
    exact sm_zret C dX12_has_14
theorem dd_X12_begin : yX12_begin.cls ≠ "java/lang/invoke/MethodHandle" ∧ yX12_begin.cls ≠ "java/lang/invoke/VarHandle" ∧ (parseMethodDescriptor yX12_begin.desc).map (fun d => d.parameters.length) = some 1 := by decide +kernel
set_option maxRecDepth 100000 in
set_option maxHeartbeats 4000000 in
theorem sl_X12_begin_L20 {M : Mco} {w : Wco} (C : Cx M w cX12_begin 2 yX12_begin.cls (Cond.code yX12_begin cX12_begin 2 none) none { frames := 0, cells := 0, slots := 0, locals := 0 }) {nav : Nat} {kav : Nat} (hkav : isI w kav nav) : ∀ (n : Nat) (y1 : Int32) (s0 : Sta), Sm M w 2 oV 20 [(0, .ref (wad w kav)), (1, .int y1)] [] s0 (X12_begin_L20 nav kav n y1 s0) := by
  intro n
  induction n with
  | zero => intros; exact sm_none
  | succ n ih =>
    intro y1 s0
    rw [X12_begin_L20.eq_2]
    refine sm_iload_n C 1 dX12_begin_20 rfl ?_
    refine sm_bipush C (8 : Int32) dX12_begin_21 bp_8 ?_
    refine sm_icmp_ge C 39 dX12_begin_23 (by decide) ?_ ?_
    · exact sm_vret C dX12_begin_39
    · refine sm_aload_n C 0 dX12_begin_26 rfl ?_
      refine sm_bipush C (41 : Int32) dX12_begin_27 bp_41 ?_
      refine sm_iload_n C 1 dX12_begin_29 rfl ?_
      refine sm_iadd C dX12_begin_30 ?_
      refine sm_iconst C (-1 : Int32) dX12_begin_31 ic_m1 ?_
      refine r_iast C hkav dX12_begin_32 (fun s2 => ?_)
      refine sm_iinc C 1 (y1 + (1 : Int32)) [(1, .int (y1 + (1 : Int32))), (0, .ref (wad w kav))] dX12_begin_33 rfl (ii_1 _) (by decide) rfl ?_
      refine sm_goto C 20 dX12_begin_36 (by decide) ?_
      exact sm_sub [1, 0] rfl (ih (y1 + (1 : Int32)) s2)
set_option maxRecDepth 100000 in
set_option maxHeartbeats 4000000 in
theorem sl_X12_begin_L2 {M : Mco} {w : Wco} (C : Cx M w cX12_begin 2 yX12_begin.cls (Cond.code yX12_begin cX12_begin 2 none) none { frames := 0, cells := 0, slots := 0, locals := 0 }) {nav : Nat} {kav : Nat} (hkav : isI w kav nav) : ∀ (n : Nat) (y1 : Int32) (s0 : Sta), Sm M w 2 oV 2 [(0, .ref (wad w kav)), (1, .int y1)] [] s0 (X12_begin_L2 nav kav n y1 s0) := by
  intro n
  induction n with
  | zero => intros; exact sm_none
  | succ n ih =>
    intro y1 s0
    rw [X12_begin_L2.eq_2]
    refine sm_iload_n C 1 dX12_begin_2 rfl ?_
    refine sm_bipush C (105 : Int32) dX12_begin_3 bp_105 ?_
    refine sm_icmp_ge C 18 dX12_begin_5 (by decide) ?_ ?_
    · refine sm_iconst C (0 : Int32) dX12_begin_18 ic_0 ?_
      refine sm_istore_n C [(1, .int (0 : Int32)), (0, .ref (wad w kav))] dX12_begin_19 (by decide) rfl ?_
      exact sm_sub [1, 0] rfl (sl_X12_begin_L20 C hkav FU (0 : Int32) s0)
    · refine sm_aload_n C 0 dX12_begin_8 rfl ?_
      refine sm_iload_n C 1 dX12_begin_9 rfl ?_
      refine sm_iconst C (0 : Int32) dX12_begin_10 ic_0 ?_
      refine r_iast C hkav dX12_begin_11 (fun s1 => ?_)
      refine sm_iinc C 1 (y1 + (1 : Int32)) [(1, .int (y1 + (1 : Int32))), (0, .ref (wad w kav))] dX12_begin_12 rfl (ii_1 _) (by decide) rfl ?_
      refine sm_goto C 2 dX12_begin_15 (by decide) ?_
      exact sm_sub [1, 0] rfl (ih (y1 + (1 : Int32)) s1)
set_option maxRecDepth 100000 in
set_option maxHeartbeats 4000000 in
theorem ct_X12_begin {l : Launch} {w : Wco} (nav : Nat) (kav : Nat) (hkav : isI w kav nav) (s0 : Sta) (qq : Unit) (ss : Sta) (hh : X12_begin nav kav s0 = some (qq, ss)) : Ct l w yX12_begin (Cond.code yX12_begin cX12_begin 2 none :: GT) { frames := 0, cells := 0, slots := 0, locals := 0 } [.ref (wad w kav)] s0 (oV qq) ss := by
  refine ct_of [(0, .ref (wad w kav))] (by decide +kernel) (Nat.le_of_ble_eq_true rfl) rfl hh (fun M _ C => ?_)
  unfold X12_begin
  refine sm_iconst C (0 : Int32) dX12_begin_0 ic_0 ?_
  refine sm_istore_n C [(1, .int (0 : Int32)), (0, .ref (wad w kav))] dX12_begin_1 (by decide) rfl ?_
  exact sm_sub [1, 0] rfl (sl_X12_begin_L2 C hkav FU (0 : Int32) s0)
theorem dd_X12_many : yX12_many.cls = RX12 ∧ yX12_many.cls ≠ "java/lang/invoke/MethodHandle" ∧ yX12_many.cls ≠ "java/lang/invoke/VarHandle" ∧ (parseMethodDescriptor yX12_many.desc).map (fun d => d.parameters.length) = some 0 := by decide +kernel
set_option maxRecDepth 100000 in
set_option maxHeartbeats 4000000 in
theorem ct_X12_many {l : Launch} {w : Wco} (G : GW w) (s0 : Sta) (qq : Int32) (ss : Sta) (hh : X12_many s0 = some (qq, ss)) : Ct l w yX12_many (Cond.code yX12_many cX12_many 1 (some .int) :: GT) { frames := 0, cells := 0, slots := 0, locals := 0 } [.ref (wad w 82)] s0 (oI qq) ss := by
  refine ct_of [(0, .ref (wad w 82))] (by decide +kernel) (Nat.le_of_ble_eq_true rfl) rfl hh (fun M _ C => ?_)
  unfold X12_many
  refine sm_aload_n C 0 dX12_many_0 rfl ?_
  refine sm_getR C (ci := 12) (R := RX12) (T := TX12) (N := 21) (j := 0) (G_M G).2 (G_M G).1 rfl gX12 (by decide) kw_864 dX12_many_1 (fun _ _ => rfl) ?_
  refine sm_iconst C (0 : Int32) dX12_many_4 ic_0 ?_
  refine r_iald C (G_m83 G) dX12_many_5 (fun v1 => ?_)
  exact sm_iret C dX12_many_6
theorem dd_X12_isOne : yX12_isOne.cls = RX12 ∧ yX12_isOne.cls ≠ "java/lang/invoke/MethodHandle" ∧ yX12_isOne.cls ≠ "java/lang/invoke/VarHandle" ∧ (parseMethodDescriptor yX12_isOne.desc).map (fun d => d.parameters.length) = some 1 := by decide +kernel
set_option maxRecDepth 100000 in
set_option maxHeartbeats 4000000 in
theorem ct_X12_isOne {l : Launch} {w : Wco} (G : GW w) (x1 : Int32) (s0 : Sta) (qq : Int32) (ss : Sta) (hh : X12_isOne x1 s0 = some (qq, ss)) : Ct l w yX12_isOne (Cond.code yX12_isOne cX12_isOne 2 (some .boolean) :: GT) { frames := 1, cells := 0, slots := 0, locals := 25 } [.ref (wad w 82), .int x1] s0 (oI qq) ss := by
  refine ct_of [(0, .ref (wad w 82)), (1, .int x1)] (by decide +kernel) (Nat.le_of_ble_eq_true rfl) rfl hh (fun M _ C => ?_)
  unfold X12_isOne
  refine sm_iload_n C 1 dX12_isOne_0 rfl ?_
  refine sm_i2l C dX12_isOne_1 ?_
  refine sm_lconst C (0 : Int64) dX12_isOne_2 lc_0 ?_
  refine sm_aload_n C 0 dX12_isOne_3 rfl ?_
  refine r_callVI C (R := RX12) (T := TX12) (N := 21) [] (G_M G) rfl (fun qq ss hh => ct_X12_many G s0 qq ss hh) kw_932 kw_934 kw_17 kw_64 kw_935 dX12_isOne_4 rfl dd_X12_many ⟨rfl, rfl⟩ ⟨by decide, by decide⟩ (Nat.le_of_ble_eq_true rfl) _ rfl (fun q1 s2 => ?_)
  refine sm_iconst C (1 : Int32) dX12_isOne_7 ic_1 ?_
  refine sm_isub C dX12_isOne_8 ?_
  refine sm_i2l C dX12_isOne_9 ?_
  refine r_callSI C [.long x1.toInt64, .long (0 : Int64), .long ((q1 - (1 : Int32)).toInt64)] (fun qq ss hh => ct_X12_in x1.toInt64 (0 : Int64) ((q1 - (1 : Int32)).toInt64) s2 qq ss hh) kw_944 kw_945 kw_64 kw_946 dX12_isOne_10 rfl dd_X12_in ⟨rfl, rfl⟩ ⟨by decide, by decide⟩ (Nat.le_of_ble_eq_true rfl) _ rfl (fun q3 s4 => ?_)
  exact sm_zret C dX12_isOne_13
theorem dd_X12_isYear : yX12_isYear.cls ≠ "java/lang/invoke/MethodHandle" ∧ yX12_isYear.cls ≠ "java/lang/invoke/VarHandle" ∧ (parseMethodDescriptor yX12_isYear.desc).map (fun d => d.parameters.length) = some 1 := by decide +kernel
set_option maxRecDepth 100000 in
set_option maxHeartbeats 4000000 in
theorem ct_X12_isYear {l : Launch} {w : Wco} (x1 : Int32) (s0 : Sta) (qq : Int32) (ss : Sta) (hh : X12_isYear x1 s0 = some (qq, ss)) : Ct l w yX12_isYear (Cond.code yX12_isYear cX12_isYear 1 (some .boolean) :: GT) { frames := 1, cells := 0, slots := 0, locals := 25 } [.int x1] s0 (oI qq) ss := by
  refine ct_of [(0, .int x1)] (by decide +kernel) (Nat.le_of_ble_eq_true rfl) rfl hh (fun M _ C => ?_)
  unfold X12_isYear
  refine sm_iload_n C 0 dX12_isYear_0 rfl ?_
  refine sm_i2l C dX12_isYear_1 ?_
  refine sm_lconst C (0 : Int64) dX12_isYear_2 lc_0 ?_
  refine sm_ldc2 C kw_943 dX12_isYear_3 ?_
  refine r_callSI C [.long x1.toInt64, .long (0 : Int64), .long (7 : Int64)] (fun qq ss hh => ct_X12_in x1.toInt64 (0 : Int64) (7 : Int64) s0 qq ss hh) kw_944 kw_945 kw_64 kw_946 dX12_isYear_6 rfl dd_X12_in ⟨rfl, rfl⟩ ⟨by decide, by decide⟩ (Nat.le_of_ble_eq_true rfl) _ rfl (fun q1 s2 => ?_)
  exact sm_zret C dX12_isYear_9
theorem dd_X12_isToCome : yX12_isToCome.cls = RX12 ∧ yX12_isToCome.cls ≠ "java/lang/invoke/MethodHandle" ∧ yX12_isToCome.cls ≠ "java/lang/invoke/VarHandle" ∧ (parseMethodDescriptor yX12_isToCome.desc).map (fun d => d.parameters.length) = some 1 := by decide +kernel
set_option maxRecDepth 100000 in
set_option maxHeartbeats 4000000 in
theorem ct_X12_isToCome {l : Launch} {w : Wco} (G : GW w) (x1 : Int32) (s0 : Sta) (qq : Int32) (ss : Sta) (hh : X12_isToCome x1 s0 = some (qq, ss)) : Ct l w yX12_isToCome (Cond.code yX12_isToCome cX12_isToCome 2 (some .boolean) :: GT) { frames := 1, cells := 0, slots := 0, locals := 25 } [.ref (wad w 82), .int x1] s0 (oI qq) ss := by
  refine ct_of [(0, .ref (wad w 82)), (1, .int x1)] (by decide +kernel) (Nat.le_of_ble_eq_true rfl) rfl hh (fun M _ C => ?_)
  unfold X12_isToCome
  refine sm_iload_n C 1 dX12_isToCome_0 rfl ?_
  refine sm_i2l C dX12_isToCome_1 ?_
  refine sm_aload_n C 0 dX12_isToCome_2 rfl ?_
  refine sm_getR C (ci := 12) (R := RX12) (T := TX12) (N := 21) (j := 0) (G_M G).2 (G_M G).1 rfl gX12 (by decide) kw_864 dX12_isToCome_3 (fun _ _ => rfl) ?_
  refine sm_iconst C (4 : Int32) dX12_isToCome_6 ic_4 ?_
  refine r_iald C (G_m83 G) dX12_isToCome_7 (fun v1 => ?_)
  refine sm_i2l C dX12_isToCome_8 ?_
  refine sm_ldc2 C kw_943 dX12_isToCome_9 ?_
  refine r_callSI C [.long x1.toInt64, .long v1.toInt64, .long (7 : Int64)] (fun qq ss hh => ct_X12_in x1.toInt64 v1.toInt64 (7 : Int64) s0 qq ss hh) kw_944 kw_945 kw_64 kw_946 dX12_isToCome_12 rfl dd_X12_in ⟨rfl, rfl⟩ ⟨by decide, by decide⟩ (Nat.le_of_ble_eq_true rfl) _ rfl (fun q2 s3 => ?_)
  exact sm_zret C dX12_isToCome_15
theorem dd_X12_isSort : yX12_isSort.cls ≠ "java/lang/invoke/MethodHandle" ∧ yX12_isSort.cls ≠ "java/lang/invoke/VarHandle" ∧ (parseMethodDescriptor yX12_isSort.desc).map (fun d => d.parameters.length) = some 1 := by decide +kernel
set_option maxRecDepth 100000 in
set_option maxHeartbeats 4000000 in
theorem ct_X12_isSort {l : Launch} {w : Wco} (x1 : Int32) (s0 : Sta) (qq : Int32) (ss : Sta) (hh : X12_isSort x1 s0 = some (qq, ss)) : Ct l w yX12_isSort (Cond.code yX12_isSort cX12_isSort 1 (some .boolean) :: GT) { frames := 1, cells := 0, slots := 0, locals := 25 } [.int x1] s0 (oI qq) ss := by
  refine ct_of [(0, .int x1)] (by decide +kernel) (Nat.le_of_ble_eq_true rfl) rfl hh (fun M _ C => ?_)
  unfold X12_isSort
  refine sm_iload_n C 0 dX12_isSort_0 rfl ?_
  refine sm_i2l C dX12_isSort_1 ?_
  refine sm_lconst C (0 : Int64) dX12_isSort_2 lc_0 ?_
  refine sm_ldc2 C kw_950 dX12_isSort_3 ?_
  refine r_callSI C [.long x1.toInt64, .long (0 : Int64), .long (2 : Int64)] (fun qq ss hh => ct_X12_in x1.toInt64 (0 : Int64) (2 : Int64) s0 qq ss hh) kw_944 kw_945 kw_64 kw_946 dX12_isSort_6 rfl dd_X12_in ⟨rfl, rfl⟩ ⟨by decide, by decide⟩ (Nat.le_of_ble_eq_true rfl) _ rfl (fun q1 s2 => ?_)
  exact sm_zret C dX12_isSort_9
theorem dd_X12_valley : yX12_valley.cls = RX12 ∧ yX12_valley.cls ≠ "java/lang/invoke/MethodHandle" ∧ yX12_valley.cls ≠ "java/lang/invoke/VarHandle" ∧ (parseMethodDescriptor yX12_valley.desc).map (fun d => d.parameters.length) = some 0 := by decide +kernel
set_option maxRecDepth 100000 in
set_option maxHeartbeats 4000000 in
theorem ct_X12_valley {l : Launch} {w : Wco} (G : GW w) (s0 : Sta) (qq : Int32) (ss : Sta) (hh : X12_valley s0 = some (qq, ss)) : Ct l w yX12_valley (Cond.code yX12_valley cX12_valley 2 (some .int) :: GT) { frames := 1, cells := 0, slots := 0, locals := 21 } [.ref (wad w 82)] s0 (oI qq) ss := by
  refine ct_of [(0, .ref (wad w 82))] (by decide +kernel) (Nat.le_of_ble_eq_true rfl) rfl hh (fun M _ C => ?_)
  unfold X12_valley
  refine sm_aload_n C 0 dX12_valley_0 rfl ?_
  refine r_callVI C (R := RX12) (T := TX12) (N := 21) [] (G_M G) rfl (fun qq ss hh => ct_X12_many G s0 qq ss hh) kw_932 kw_934 kw_17 kw_64 kw_935 dX12_valley_1 rfl dd_X12_many ⟨rfl, rfl⟩ ⟨by decide, by decide⟩ (Nat.le_of_ble_eq_true rfl) _ rfl (fun q1 s2 => ?_)
  refine sm_istore_n C [(1, .int q1), (0, .ref (wad w 82))] dX12_valley_4 (by decide) rfl ?_
  refine sm_aload_n C 1 dX12_valley_5 rfl ?_
  refine sm_getR C (ci := 12) (R := RX12) (T := TX12) (N := 21) (j := 0) (G_M G).2 (G_M G).1 rfl gX12 (by decide) kw_864 dX12_valley_6 (fun _ _ => rfl) ?_
  refine r_callSU C [.ref (wad w 83)] (fun qq ss hh => ct_X12_begin 209 83 (G_m83 G) s2 qq ss hh) kw_861 kw_862 kw_64 kw_863 dX12_valley_9 rfl dd_X12_begin ⟨rfl, rfl⟩ ⟨by decide, by decide⟩ (Nat.le_of_ble_eq_true rfl) _ rfl (fun q3 s4 => ?_)
  refine sm_iload_n C 0 dX12_valley_12 rfl ?_
  exact sm_iret C dX12_valley_13
theorem dd_X12_prize : yX12_prize.cls = RX12 ∧ yX12_prize.cls ≠ "java/lang/invoke/MethodHandle" ∧ yX12_prize.cls ≠ "java/lang/invoke/VarHandle" ∧ (parseMethodDescriptor yX12_prize.desc).map (fun d => d.parameters.length) = some 3 := by decide +kernel
set_option maxRecDepth 100000 in
set_option maxHeartbeats 4000000 in
theorem ct_X12_prize {l : Launch} {w : Wco} (G : GW w) (x1 : Int32) (x2 : Int32) (x3 : Int32) (s0 : Sta) (qq : Int32) (ss : Sta) (hh : X12_prize x1 x2 x3 s0 = some (qq, ss)) : Ct l w yX12_prize (Cond.code yX12_prize cX12_prize 5 (some .int) :: GT) { frames := 2, cells := 0, slots := 0, locals := 45 } [.ref (wad w 82), .int x1, .int x2, .int x3] s0 (oI qq) ss := by
  refine ct_of [(0, .ref (wad w 82)), (1, .int x1), (2, .int x2), (3, .int x3)] (by decide +kernel) (Nat.le_of_ble_eq_true rfl) rfl hh (fun M _ C => ?_)
  unfold X12_prize
  refine sm_iload_n C 1 dX12_prize_0 rfl ?_
  refine r_callSI C [.int x1] (fun qq ss hh => ct_X12_isYear x1 s0 qq ss hh) kw_940 kw_941 kw_64 kw_942 dX12_prize_1 rfl dd_X12_isYear ⟨rfl, rfl⟩ ⟨by decide, by decide⟩ (Nat.le_of_ble_eq_true rfl) _ rfl (fun q1 s2 => ?_)
  refine sm_if_eq C 26 dX12_prize_4 (by decide) ?_ ?_
  · refine sm_aload_n C 0 dX12_prize_26 rfl ?_
    refine sm_bipush C (-2 : Int32) dX12_prize_27 bp_m2 ?_
    refine r_callVI C (R := RX12) (T := TX12) (N := 21) [.int (-2 : Int32)] (G_M G) rfl (fun qq ss hh => ct_X12_bad G (-2 : Int32) s2 qq ss hh) kw_952 kw_954 kw_18 kw_64 kw_955 dX12_prize_29 rfl dd_X12_bad ⟨rfl, rfl⟩ ⟨by decide, by decide⟩ (Nat.le_of_ble_eq_true rfl) _ rfl (fun q3 s4 => ?_)
    exact sm_iret C dX12_prize_32
  · refine sm_iload_n C 2 dX12_prize_7 rfl ?_
    refine r_callSI C [.int x2] (fun qq ss hh => ct_X12_isSort x2 s2 qq ss hh) kw_947 kw_948 kw_64 kw_949 dX12_prize_8 rfl dd_X12_isSort ⟨rfl, rfl⟩ ⟨by decide, by decide⟩ (Nat.le_of_ble_eq_true rfl) _ rfl (fun q5 s6 => ?_)
    refine sm_if_eq C 26 dX12_prize_11 (by decide) ?_ ?_
    · refine sm_aload_n C 0 dX12_prize_26 rfl ?_
      refine sm_bipush C (-2 : Int32) dX12_prize_27 bp_m2 ?_
      refine r_callVI C (R := RX12) (T := TX12) (N := 21) [.int (-2 : Int32)] (G_M G) rfl (fun qq ss hh => ct_X12_bad G (-2 : Int32) s6 qq ss hh) kw_952 kw_954 kw_18 kw_64 kw_955 dX12_prize_29 rfl dd_X12_bad ⟨rfl, rfl⟩ ⟨by decide, by decide⟩ (Nat.le_of_ble_eq_true rfl) _ rfl (fun q7 s8 => ?_)
      exact sm_iret C dX12_prize_32
    · refine sm_iload_n C 3 dX12_prize_14 rfl ?_
      refine sm_i2l C dX12_prize_15 ?_
      refine sm_lconst C (1 : Int64) dX12_prize_16 lc_1 ?_
      refine sm_ldc2 C kw_951 dX12_prize_17 ?_
      refine r_callSI C [.long x3.toInt64, .long (1 : Int64), .long (30 : Int64)] (fun qq ss hh => ct_X12_in x3.toInt64 (1 : Int64) (30 : Int64) s6 qq ss hh) kw_944 kw_945 kw_64 kw_946 dX12_prize_20 rfl dd_X12_in ⟨rfl, rfl⟩ ⟨by decide, by decide⟩ (Nat.le_of_ble_eq_true rfl) _ rfl (fun q9 s10 => ?_)
      refine sm_if_ne C 33 dX12_prize_23 (by decide) ?_ ?_
      · refine sm_aload_n C 0 dX12_prize_33 rfl ?_
        refine sm_getR C (ci := 12) (R := RX12) (T := TX12) (N := 21) (j := 0) (G_M G).2 (G_M G).1 rfl gX12 (by decide) kw_864 dX12_prize_34 (fun _ _ => rfl) ?_
        refine sm_bipush C (49 : Int32) dX12_prize_37 bp_49 ?_
        refine sm_iload_n C 1 dX12_prize_39 rfl ?_
        refine sm_iadd C dX12_prize_40 ?_
        refine r_iald C (G_m83 G) dX12_prize_41 (fun v11 => ?_)
        refine sm_istore C [(4, .int v11), (0, .ref (wad w 82)), (1, .int x1), (2, .int x2), (3, .int x3)] dX12_prize_42 (by decide) rfl ?_
        refine sm_aload_n C 1 dX12_prize_44 rfl ?_
        refine sm_getR C (ci := 12) (R := RX12) (T := TX12) (N := 21) (j := 0) (G_M G).2 (G_M G).1 rfl gX12 (by decide) kw_864 dX12_prize_45 (fun _ _ => rfl) ?_
        refine sm_bipush C (41 : Int32) dX12_prize_48 bp_41 ?_
        refine sm_iload_n C 2 dX12_prize_50 rfl ?_
        refine sm_iadd C dX12_prize_51 ?_
        refine sm_iload_n C 3 dX12_prize_52 rfl ?_
        refine r_iast C (G_m83 G) dX12_prize_53 (fun s12 => ?_)
        refine sm_aload_n C 1 dX12_prize_54 rfl ?_
        refine sm_getR C (ci := 12) (R := RX12) (T := TX12) (N := 21) (j := 0) (G_M G).2 (G_M G).1 rfl gX12 (by decide) kw_864 dX12_prize_55 (fun _ _ => rfl) ?_
        refine sm_bipush C (49 : Int32) dX12_prize_58 bp_49 ?_
        refine sm_iload_n C 2 dX12_prize_60 rfl ?_
        refine sm_iadd C dX12_prize_61 ?_
        refine sm_iload_n C 4 dX12_prize_62 rfl ?_
        refine r_iast C (G_m83 G) dX12_prize_63 (fun s13 => ?_)
        refine sm_aload_n C 1 dX12_prize_64 rfl ?_
        refine sm_getR C (ci := 12) (R := RX12) (T := TX12) (N := 21) (j := 0) (G_M G).2 (G_M G).1 rfl gX12 (by decide) kw_864 dX12_prize_65 (fun _ _ => rfl) ?_
        refine sm_iconst C (3 : Int32) dX12_prize_68 ic_3 ?_
        refine sm_iconst C (0 : Int32) dX12_prize_69 ic_0 ?_
        refine r_iast C (G_m83 G) dX12_prize_70 (fun s14 => ?_)
        refine sm_iload C 0 dX12_prize_71 rfl ?_
        exact sm_iret C dX12_prize_73
      · refine sm_aload_n C 0 dX12_prize_26 rfl ?_
        refine sm_bipush C (-2 : Int32) dX12_prize_27 bp_m2 ?_
        refine r_callVI C (R := RX12) (T := TX12) (N := 21) [.int (-2 : Int32)] (G_M G) rfl (fun qq ss hh => ct_X12_bad G (-2 : Int32) s10 qq ss hh) kw_952 kw_954 kw_18 kw_64 kw_955 dX12_prize_29 rfl dd_X12_bad ⟨rfl, rfl⟩ ⟨by decide, by decide⟩ (Nat.le_of_ble_eq_true rfl) _ rfl (fun q15 s16 => ?_)
        exact sm_iret C dX12_prize_32
theorem dd_X12_layOne : yX12_layOne.cls ≠ "java/lang/invoke/MethodHandle" ∧ yX12_layOne.cls ≠ "java/lang/invoke/VarHandle" ∧ (parseMethodDescriptor yX12_layOne.desc).map (fun d => d.parameters.length) = some 5 := by decide +kernel
set_option maxRecDepth 100000 in
set_option maxHeartbeats 4000000 in
theorem ct_X12_layOne {l : Launch} {w : Wco} (nav : Nat) (kav : Nat) (hkav : isI w kav nav) (x1 : Int32) (x2 : Int32) (x3 : Int32) (x4 : Int32) (s0 : Sta) (qq : Unit) (ss : Sta) (hh : X12_layOne nav kav x1 x2 x3 x4 s0 = some (qq, ss)) : Ct l w yX12_layOne (Cond.code yX12_layOne cX12_layOne 6 none :: GT) { frames := 0, cells := 0, slots := 0, locals := 0 } [.ref (wad w kav), .int x1, .int x2, .int x3, .int x4] s0 (oV qq) ss := by
  refine ct_of [(0, .ref (wad w kav)), (1, .int x1), (2, .int x2), (3, .int x3), (4, .int x4)] (by decide +kernel) (Nat.le_of_ble_eq_true rfl) rfl hh (fun M _ C => ?_)
  unfold X12_layOne
  refine sm_aload_n C 0 dX12_layOne_0 rfl ?_
  refine sm_iconst C (0 : Int32) dX12_layOne_1 ic_0 ?_
  refine r_iald C hkav dX12_layOne_2 (fun v1 => ?_)
  refine sm_istore C [(5, .int v1), (0, .ref (wad w kav)), (1, .int x1), (2, .int x2), (3, .int x3), (4, .int x4)] dX12_layOne_3 (by decide) rfl ?_
  refine sm_aload_n C 1 dX12_layOne_5 rfl ?_
  refine sm_bipush C (17 : Int32) dX12_layOne_6 bp_17 ?_
  refine sm_iload C 0 dX12_layOne_8 rfl ?_
  refine sm_iadd C dX12_layOne_10 ?_
  refine sm_iload_n C 2 dX12_layOne_11 rfl ?_
  refine r_iast C hkav dX12_layOne_12 (fun s2 => ?_)
  refine sm_aload_n C 1 dX12_layOne_13 rfl ?_
  refine sm_bipush C (23 : Int32) dX12_layOne_14 bp_23 ?_
  refine sm_iconst C (3 : Int32) dX12_layOne_16 ic_3 ?_
  refine sm_iload C 0 dX12_layOne_17 rfl ?_
  refine sm_imul C dX12_layOne_19 ?_
  refine sm_iadd C dX12_layOne_20 ?_
  refine sm_iload_n C 3 dX12_layOne_21 rfl ?_
  refine r_iast C hkav dX12_layOne_22 (fun s3 => ?_)
  refine sm_aload_n C 1 dX12_layOne_23 rfl ?_
  refine sm_bipush C (23 : Int32) dX12_layOne_24 bp_23 ?_
  refine sm_iconst C (3 : Int32) dX12_layOne_26 ic_3 ?_
  refine sm_iload C 0 dX12_layOne_27 rfl ?_
  refine sm_imul C dX12_layOne_29 ?_
  refine sm_iadd C dX12_layOne_30 ?_
  refine sm_iconst C (1 : Int32) dX12_layOne_31 ic_1 ?_
  refine sm_iadd C dX12_layOne_32 ?_
  refine sm_iload_n C 4 dX12_layOne_33 rfl ?_
  refine r_iast C hkav dX12_layOne_34 (fun s4 => ?_)
  refine sm_aload_n C 1 dX12_layOne_35 rfl ?_
  refine sm_bipush C (23 : Int32) dX12_layOne_36 bp_23 ?_
  refine sm_iconst C (3 : Int32) dX12_layOne_38 ic_3 ?_
  refine sm_iload C 0 dX12_layOne_39 rfl ?_
  refine sm_imul C dX12_layOne_41 ?_
  refine sm_iadd C dX12_layOne_42 ?_
  refine sm_iconst C (2 : Int32) dX12_layOne_43 ic_2 ?_
  refine sm_iadd C dX12_layOne_44 ?_
  refine sm_iload C 5 dX12_layOne_45 rfl ?_
  refine r_iast C hkav dX12_layOne_47 (fun s5 => ?_)
  refine sm_aload_n C 1 dX12_layOne_48 rfl ?_
  refine sm_iconst C (5 : Int32) dX12_layOne_49 ic_5 ?_
  refine sm_iload C 0 dX12_layOne_50 rfl ?_
  refine sm_iadd C dX12_layOne_52 ?_
  refine sm_iconst C (0 : Int32) dX12_layOne_53 ic_0 ?_
  refine r_iast C hkav dX12_layOne_54 (fun s6 => ?_)
  refine sm_aload_n C 1 dX12_layOne_55 rfl ?_
  refine sm_bipush C (11 : Int32) dX12_layOne_56 bp_11 ?_
  refine sm_iload C 0 dX12_layOne_58 rfl ?_
  refine sm_iadd C dX12_layOne_60 ?_
  refine sm_iconst C (0 : Int32) dX12_layOne_61 ic_0 ?_
  refine r_iast C hkav dX12_layOne_62 (fun s7 => ?_)
  refine sm_aload_n C 1 dX12_layOne_63 rfl ?_
  refine sm_iconst C (0 : Int32) dX12_layOne_64 ic_0 ?_
  refine sm_dup2 C dX12_layOne_65 rfl rfl ?_
  refine r_iald C hkav dX12_layOne_66 (fun v8 => ?_)
  refine sm_iconst C (1 : Int32) dX12_layOne_67 ic_1 ?_
  refine sm_iadd C dX12_layOne_68 ?_
  refine r_iast C hkav dX12_layOne_69 (fun s9 => ?_)
  exact sm_vret C dX12_layOne_70
theorem dd_X12_one : yX12_one.cls = RX12 ∧ yX12_one.cls ≠ "java/lang/invoke/MethodHandle" ∧ yX12_one.cls ≠ "java/lang/invoke/VarHandle" ∧ (parseMethodDescriptor yX12_one.desc).map (fun d => d.parameters.length) = some 4 := by decide +kernel
set_option maxRecDepth 100000 in
set_option maxHeartbeats 4000000 in
theorem ct_X12_one {l : Launch} {w : Wco} (G : GW w) (x1 : Int32) (x2 : Int32) (x3 : Int32) (x4 : Int32) (s0 : Sta) (qq : Int32) (ss : Sta) (hh : X12_one x1 x2 x3 x4 s0 = some (qq, ss)) : Ct l w yX12_one (Cond.code yX12_one cX12_one 5 (some .int) :: GT) { frames := 1, cells := 0, slots := 0, locals := 25 } [.ref (wad w 82), .int x1, .int x2, .int x3, .int x4] s0 (oI qq) ss := by
  refine ct_of [(0, .ref (wad w 82)), (1, .int x1), (2, .int x2), (3, .int x3), (4, .int x4)] (by decide +kernel) (Nat.le_of_ble_eq_true rfl) rfl hh (fun M _ C => ?_)
  unfold X12_one
  refine sm_iload_n C 1 dX12_one_0 rfl ?_
  refine sm_i2l C dX12_one_1 ?_
  refine sm_lconst C (0 : Int64) dX12_one_2 lc_0 ?_
  refine sm_ldc2 C kw_960 dX12_one_3 ?_
  refine r_callSI C [.long x1.toInt64, .long (0 : Int64), .long (5 : Int64)] (fun qq ss hh => ct_X12_in x1.toInt64 (0 : Int64) (5 : Int64) s0 qq ss hh) kw_944 kw_945 kw_64 kw_946 dX12_one_6 rfl dd_X12_in ⟨rfl, rfl⟩ ⟨by decide, by decide⟩ (Nat.le_of_ble_eq_true rfl) _ rfl (fun q1 s2 => ?_)
  refine sm_if_eq C 49 dX12_one_9 (by decide) ?_ ?_
  · refine sm_aload_n C 0 dX12_one_49 rfl ?_
    refine sm_bipush C (-2 : Int32) dX12_one_50 bp_m2 ?_
    refine r_callVI C (R := RX12) (T := TX12) (N := 21) [.int (-2 : Int32)] (G_M G) rfl (fun qq ss hh => ct_X12_bad G (-2 : Int32) s2 qq ss hh) kw_952 kw_954 kw_18 kw_64 kw_955 dX12_one_52 rfl dd_X12_bad ⟨rfl, rfl⟩ ⟨by decide, by decide⟩ (Nat.le_of_ble_eq_true rfl) _ rfl (fun q3 s4 => ?_)
    exact sm_iret C dX12_one_55
  · refine sm_iload_n C 2 dX12_one_12 rfl ?_
    refine sm_i2l C dX12_one_13 ?_
    refine sm_lconst C (0 : Int64) dX12_one_14 lc_0 ?_
    refine sm_ldc2 C kw_961 dX12_one_15 ?_
    refine r_callSI C [.long x2.toInt64, .long (0 : Int64), .long (9 : Int64)] (fun qq ss hh => ct_X12_in x2.toInt64 (0 : Int64) (9 : Int64) s2 qq ss hh) kw_944 kw_945 kw_64 kw_946 dX12_one_18 rfl dd_X12_in ⟨rfl, rfl⟩ ⟨by decide, by decide⟩ (Nat.le_of_ble_eq_true rfl) _ rfl (fun q5 s6 => ?_)
    refine sm_if_eq C 49 dX12_one_21 (by decide) ?_ ?_
    · refine sm_aload_n C 0 dX12_one_49 rfl ?_
      refine sm_bipush C (-2 : Int32) dX12_one_50 bp_m2 ?_
      refine r_callVI C (R := RX12) (T := TX12) (N := 21) [.int (-2 : Int32)] (G_M G) rfl (fun qq ss hh => ct_X12_bad G (-2 : Int32) s6 qq ss hh) kw_952 kw_954 kw_18 kw_64 kw_955 dX12_one_52 rfl dd_X12_bad ⟨rfl, rfl⟩ ⟨by decide, by decide⟩ (Nat.le_of_ble_eq_true rfl) _ rfl (fun q7 s8 => ?_)
      exact sm_iret C dX12_one_55
    · refine sm_iload_n C 3 dX12_one_24 rfl ?_
      refine sm_i2l C dX12_one_25 ?_
      refine sm_lconst C (0 : Int64) dX12_one_26 lc_0 ?_
      refine sm_ldc2 C kw_961 dX12_one_27 ?_
      refine r_callSI C [.long x3.toInt64, .long (0 : Int64), .long (9 : Int64)] (fun qq ss hh => ct_X12_in x3.toInt64 (0 : Int64) (9 : Int64) s6 qq ss hh) kw_944 kw_945 kw_64 kw_946 dX12_one_30 rfl dd_X12_in ⟨rfl, rfl⟩ ⟨by decide, by decide⟩ (Nat.le_of_ble_eq_true rfl) _ rfl (fun q9 s10 => ?_)
      refine sm_if_eq C 49 dX12_one_33 (by decide) ?_ ?_
      · refine sm_aload_n C 0 dX12_one_49 rfl ?_
        refine sm_bipush C (-2 : Int32) dX12_one_50 bp_m2 ?_
        refine r_callVI C (R := RX12) (T := TX12) (N := 21) [.int (-2 : Int32)] (G_M G) rfl (fun qq ss hh => ct_X12_bad G (-2 : Int32) s10 qq ss hh) kw_952 kw_954 kw_18 kw_64 kw_955 dX12_one_52 rfl dd_X12_bad ⟨rfl, rfl⟩ ⟨by decide, by decide⟩ (Nat.le_of_ble_eq_true rfl) _ rfl (fun q11 s12 => ?_)
        exact sm_iret C dX12_one_55
      · refine sm_iload C 4 dX12_one_36 rfl ?_
        refine sm_i2l C dX12_one_38 ?_
        refine sm_lconst C (0 : Int64) dX12_one_39 lc_0 ?_
        refine sm_ldc2 C kw_961 dX12_one_40 ?_
        refine r_callSI C [.long x4.toInt64, .long (0 : Int64), .long (9 : Int64)] (fun qq ss hh => ct_X12_in x4.toInt64 (0 : Int64) (9 : Int64) s10 qq ss hh) kw_944 kw_945 kw_64 kw_946 dX12_one_43 rfl dd_X12_in ⟨rfl, rfl⟩ ⟨by decide, by decide⟩ (Nat.le_of_ble_eq_true rfl) _ rfl (fun q13 s14 => ?_)
        refine sm_if_ne C 56 dX12_one_46 (by decide) ?_ ?_
        · refine sm_aload_n C 0 dX12_one_56 rfl ?_
          refine r_callVI C (R := RX12) (T := TX12) (N := 21) [] (G_M G) rfl (fun qq ss hh => ct_X12_many G s14 qq ss hh) kw_932 kw_934 kw_17 kw_64 kw_935 dX12_one_57 rfl dd_X12_many ⟨rfl, rfl⟩ ⟨by decide, by decide⟩ (Nat.le_of_ble_eq_true rfl) _ rfl (fun q15 s16 => ?_)
          refine sm_bipush C (6 : Int32) dX12_one_60 bp_6 ?_
          refine sm_icmp_ne C 70 dX12_one_62 (by decide) ?_ ?_
          · refine sm_aload_n C 0 dX12_one_70 rfl ?_
            refine sm_getR C (ci := 12) (R := RX12) (T := TX12) (N := 21) (j := 0) (G_M G).2 (G_M G).1 rfl gX12 (by decide) kw_864 dX12_one_71 (fun _ _ => rfl) ?_
            refine sm_iload_n C 1 dX12_one_74 rfl ?_
            refine sm_iload_n C 2 dX12_one_75 rfl ?_
            refine sm_iload_n C 3 dX12_one_76 rfl ?_
            refine sm_iload C 4 dX12_one_77 rfl ?_
            refine r_callSU C [.ref (wad w 83), .int x1, .int x2, .int x3, .int x4] (fun qq ss hh => ct_X12_layOne 209 83 (G_m83 G) x1 x2 x3 x4 s16 qq ss hh) kw_966 kw_967 kw_64 kw_968 dX12_one_79 rfl dd_X12_layOne ⟨rfl, rfl⟩ ⟨by decide, by decide⟩ (Nat.le_of_ble_eq_true rfl) _ rfl (fun q17 s18 => ?_)
            refine sm_aload_n C 0 dX12_one_82 rfl ?_
            refine sm_getR C (ci := 12) (R := RX12) (T := TX12) (N := 21) (j := 0) (G_M G).2 (G_M G).1 rfl gX12 (by decide) kw_864 dX12_one_83 (fun _ _ => rfl) ?_
            refine sm_iconst C (3 : Int32) dX12_one_86 ic_3 ?_
            refine sm_iconst C (0 : Int32) dX12_one_87 ic_0 ?_
            refine r_iast C (G_m83 G) dX12_one_88 (fun s19 => ?_)
            refine sm_aload_n C 0 dX12_one_89 rfl ?_
            refine r_callVI C (R := RX12) (T := TX12) (N := 21) [] (G_M G) rfl (fun qq ss hh => ct_X12_many G s19 qq ss hh) kw_932 kw_934 kw_17 kw_64 kw_935 dX12_one_90 rfl dd_X12_many ⟨rfl, rfl⟩ ⟨by decide, by decide⟩ (Nat.le_of_ble_eq_true rfl) _ rfl (fun q20 s21 => ?_)
            refine sm_iconst C (1 : Int32) dX12_one_93 ic_1 ?_
            refine sm_isub C dX12_one_94 ?_
            exact sm_iret C dX12_one_95
          · refine sm_aload_n C 0 dX12_one_65 rfl ?_
            refine r_callVI C (R := RX12) (T := TX12) (N := 21) [] (G_M G) rfl (fun qq ss hh => ct_X12_full G s16 qq ss hh) kw_962 kw_964 kw_19 kw_64 kw_965 dX12_one_66 rfl dd_X12_full ⟨rfl, rfl⟩ ⟨by decide, by decide⟩ (Nat.le_of_ble_eq_true rfl) _ rfl (fun q22 s23 => ?_)
            exact sm_iret C dX12_one_69
        · refine sm_aload_n C 0 dX12_one_49 rfl ?_
          refine sm_bipush C (-2 : Int32) dX12_one_50 bp_m2 ?_
          refine r_callVI C (R := RX12) (T := TX12) (N := 21) [.int (-2 : Int32)] (G_M G) rfl (fun qq ss hh => ct_X12_bad G (-2 : Int32) s14 qq ss hh) kw_952 kw_954 kw_18 kw_64 kw_955 dX12_one_52 rfl dd_X12_bad ⟨rfl, rfl⟩ ⟨by decide, by decide⟩ (Nat.le_of_ble_eq_true rfl) _ rfl (fun q24 s25 => ?_)
          exact sm_iret C dX12_one_55
theorem dd_X12_triesAs : yX12_triesAs.cls ≠ "java/lang/invoke/MethodHandle" ∧ yX12_triesAs.cls ≠ "java/lang/invoke/VarHandle" ∧ (parseMethodDescriptor yX12_triesAs.desc).map (fun d => d.parameters.length) = some 3 := by decide +kernel
set_option maxRecDepth 100000 in
set_option maxHeartbeats 4000000 in
theorem sl_X12_triesAs_L50 {M : Mco} {w : Wco} (C : Cx M w cX12_triesAs 4 yX12_triesAs.cls (Cond.code yX12_triesAs cX12_triesAs 4 (some .boolean)) (some .boolean) { frames := 0, cells := 0, slots := 0, locals := 0 }) : ∀ (y3 : Int32) (s0 : Sta), Sm M w 4 oI 50 [(3, .int y3)] [] s0 (X12_triesAs_L50 y3 s0) := by
  intro y3 s0
  unfold X12_triesAs_L50
  refine sm_iload_n C 0 dX12_triesAs_50 rfl ?_
  refine sm_if_eq C 58 dX12_triesAs_51 (by decide) ?_ ?_
  · refine sm_iconst C (0 : Int32) dX12_triesAs_58 ic_0 ?_
    exact sm_zret C dX12_triesAs_59
  · refine sm_iconst C (1 : Int32) dX12_triesAs_54 ic_1 ?_
    refine sm_goto C 59 dX12_triesAs_55 (by decide) ?_
    exact sm_zret C dX12_triesAs_59
set_option maxRecDepth 100000 in
set_option maxHeartbeats 4000000 in
theorem sl_X12_triesAs_L16 {M : Mco} {w : Wco} (C : Cx M w cX12_triesAs 4 yX12_triesAs.cls (Cond.code yX12_triesAs cX12_triesAs 4 (some .boolean)) (some .boolean) { frames := 0, cells := 0, slots := 0, locals := 0 }) : ∀ (y0 : Int32) (y1 : Int32) (z0 : Int32) (s0 : Sta), Sm M w 4 oI 16 [(0, .int y0), (1, .int y1)] [.int z0] s0 (X12_triesAs_L16 y0 y1 z0 s0) := by
  intro y0 y1 z0 s0
  unfold X12_triesAs_L16
  refine sm_istore_n C [(3, .int z0), (0, .int y0), (1, .int y1)] dX12_triesAs_16 (by decide) rfl ?_
  refine sm_iload_n C 1 dX12_triesAs_17 rfl ?_
  refine sm_iconst C (3 : Int32) dX12_triesAs_18 ic_3 ?_
  refine sm_icmp_ne C 40 dX12_triesAs_19 (by decide) ?_ ?_
  · refine sm_iload_n C 1 dX12_triesAs_40 rfl ?_
    refine sm_iconst C (1 : Int32) dX12_triesAs_41 ic_1 ?_
    refine sm_icmp_eq C 50 dX12_triesAs_42 (by decide) ?_ ?_
    · exact sm_sub [0] rfl (sl_X12_triesAs_L50 C z0 s0)
    · refine sm_iload_n C 1 dX12_triesAs_45 rfl ?_
      refine sm_iconst C (5 : Int32) dX12_triesAs_46 ic_5 ?_
      refine sm_icmp_ne C 54 dX12_triesAs_47 (by decide) ?_ ?_
      · refine sm_iconst C (1 : Int32) dX12_triesAs_54 ic_1 ?_
        refine sm_goto C 59 dX12_triesAs_55 (by decide) ?_
        exact sm_zret C dX12_triesAs_59
      · exact sm_sub [0] rfl (sl_X12_triesAs_L50 C z0 s0)
  · refine sm_iload_n C 0 dX12_triesAs_22 rfl ?_
    refine sm_if_eq C 36 dX12_triesAs_23 (by decide) ?_ ?_
    · refine sm_iconst C (0 : Int32) dX12_triesAs_36 ic_0 ?_
      refine sm_goto C 59 dX12_triesAs_37 (by decide) ?_
      exact sm_zret C dX12_triesAs_59
    · refine sm_iload_n C 2 dX12_triesAs_26 rfl ?_
      refine sm_bipush C (8 : Int32) dX12_triesAs_27 bp_8 ?_
      refine sm_icmp_lt C 36 dX12_triesAs_29 (by decide) ?_ ?_
      · refine sm_iconst C (0 : Int32) dX12_triesAs_36 ic_0 ?_
        refine sm_goto C 59 dX12_triesAs_37 (by decide) ?_
        exact sm_zret C dX12_triesAs_59
      · refine sm_iconst C (1 : Int32) dX12_triesAs_32 ic_1 ?_
        refine sm_goto C 59 dX12_triesAs_33 (by decide) ?_
        exact sm_zret C dX12_triesAs_59
set_option maxRecDepth 100000 in
set_option maxHeartbeats 4000000 in
theorem ct_X12_triesAs {l : Launch} {w : Wco} (x1 : Int32) (x2 : Int32) (x3 : Int32) (s0 : Sta) (qq : Int32) (ss : Sta) (hh : X12_triesAs x1 x2 x3 s0 = some (qq, ss)) : Ct l w yX12_triesAs (Cond.code yX12_triesAs cX12_triesAs 4 (some .boolean) :: GT) { frames := 0, cells := 0, slots := 0, locals := 0 } [.int x1, .int x2, .int x3] s0 (oI qq) ss := by
  refine ct_of [(0, .int x1), (1, .int x2), (2, .int x3)] (by decide +kernel) (Nat.le_of_ble_eq_true rfl) rfl hh (fun M _ C => ?_)
  unfold X12_triesAs
  refine sm_iload_n C 1 dX12_triesAs_0 rfl ?_
  refine sm_bipush C (15 : Int32) dX12_triesAs_1 bp_15 ?_
  refine sm_icmp_ge C 11 dX12_triesAs_3 (by decide) ?_ ?_
  · refine sm_iconst C (1 : Int32) dX12_triesAs_11 ic_1 ?_
    refine sm_goto C 16 dX12_triesAs_12 (by decide) ?_
    exact sm_sub [0, 1] rfl (sl_X12_triesAs_L16 C x1 x2 (1 : Int32) s0)
  · refine sm_iload_n C 2 dX12_triesAs_6 rfl ?_
    refine sm_iconst C (1 : Int32) dX12_triesAs_7 ic_1 ?_
    refine sm_icmp_gt C 15 dX12_triesAs_8 (by decide) ?_ ?_
    · refine sm_iconst C (0 : Int32) dX12_triesAs_15 ic_0 ?_
      exact sm_sub [0, 1] rfl (sl_X12_triesAs_L16 C x1 x2 (0 : Int32) s0)
    · refine sm_iconst C (1 : Int32) dX12_triesAs_11 ic_1 ?_
      refine sm_goto C 16 dX12_triesAs_12 (by decide) ?_
      exact sm_sub [0, 1] rfl (sl_X12_triesAs_L16 C x1 x2 (1 : Int32) s0)
