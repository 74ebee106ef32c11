theorem dd_X11_valley : yX11_valley.cls = RX11 ∧ yX11_valley.cls ≠ "java/lang/invoke/MethodHandle" ∧ yX11_valley.cls ≠ "java/lang/invoke/VarHandle" ∧ (parseMethodDescriptor yX11_valley.desc).map (fun d => d.parameters.length) = some 0 := by decide +kernel
set_option maxRecDepth 100000 in
set_option maxHeartbeats 4000000 in
theorem ct_X11_valley {l : Launch} {w : Wco} (G : GW w) (s0 : Sta) (qq : Int32) (ss : Sta) (hh : X11_valley s0 = some (qq, ss)) : Ct l w yX11_valley (Cond.code yX11_valley cX11_valley 2 (some .int) :: GT) { frames := 2, cells := 0, slots := 0, locals := 43 } [.ref (wad w 0)] s0 (oI qq) ss := by
  refine ct_of [(0, .ref (wad w 0))] (by decide +kernel) (Nat.le_of_ble_eq_true rfl) rfl hh (fun M _ C => ?_)
  unfold X11_valley
  refine sm_aload_n C 0 dX11_valley_0 rfl ?_
  refine sm_getR C (ci := 11) (R := RX11) (T := TX11) (N := 12) (j := 0) (G_N G).2 (G_N G).1 rfl gX11 (by decide) kw_300 dX11_valley_1 (fun _ _ => rfl) ?_
  refine sm_getIN C (ci := 10) (R := RX10) (T := TX10) (N := 13) (j := 10) (V_O (G_now G)).2 (V_O (G_now G)).1 rfl gX10 (by decide) nf_20 dX11_valley_4 (fun _ _ => rfl) (fun v1 => ?_)
  refine sm_istore_n C [(1, .int v1), (0, .ref (wad w 0))] dX11_valley_7 (by decide) rfl ?_
  refine sm_aload_n C 1 dX11_valley_8 rfl ?_
  refine sm_getR C (ci := 11) (R := RX11) (T := TX11) (N := 12) (j := 0) (G_N G).2 (G_N G).1 rfl gX11 (by decide) kw_300 dX11_valley_9 (fun _ _ => rfl) ?_
  refine r_callVU C (R := RX10) (T := TX10) (N := 13) [] (V_O (G_now G)) rfl (fun qq ss hh => ct_X10_empty 1 (G_now G) s0 qq ss hh) kw_341 kw_104 kw_105 kw_52 kw_106 dX11_valley_12 rfl dd_X10_empty ⟨rfl, rfl⟩ ⟨by decide, by decide⟩ (Nat.le_of_ble_eq_true rfl) _ rfl (fun q2 s3 => ?_)
  refine sm_iload_n C 0 dX11_valley_15 rfl ?_
  exact sm_iret C dX11_valley_16
theorem dd_X11_bad : yX11_bad.cls = RX11 ∧ yX11_bad.cls ≠ "java/lang/invoke/MethodHandle" ∧ yX11_bad.cls ≠ "java/lang/invoke/VarHandle" ∧ (parseMethodDescriptor yX11_bad.desc).map (fun d => d.parameters.length) = some 0 := by decide +kernel
set_option maxRecDepth 100000 in
set_option maxHeartbeats 4000000 in
theorem ct_X11_bad {l : Launch} {w : Wco} (G : GW w) (s0 : Sta) (qq : Int32) (ss : Sta) (hh : X11_bad s0 = some (qq, ss)) : Ct l w yX11_bad (Cond.code yX11_bad cX11_bad 1 (some .int) :: GT) { frames := 0, cells := 0, slots := 0, locals := 0 } [.ref (wad w 0)] s0 (oI qq) ss := by
  refine ct_of [(0, .ref (wad w 0))] (by decide +kernel) (Nat.le_of_ble_eq_true rfl) rfl hh (fun M _ C => ?_)
  unfold X11_bad
  refine sm_aload_n C 0 dX11_bad_0 rfl ?_
  refine sm_dup C dX11_bad_1 rfl ?_
  refine sm_getI C (ci := 11) (R := RX11) (T := TX11) (N := 12) (j := 9) (G_N G).2 (G_N G).1 rfl gX11 (by decide) kw_309 dX11_bad_2 (fun _ _ => rfl) (fun v1 => ?_)
  refine sm_iconst C (1 : Int32) dX11_bad_5 ic_1 ?_
  refine sm_iadd C dX11_bad_6 ?_
  refine sm_putI C (ci := 11) (R := RX11) (T := TX11) (N := 12) (j := 9) (G_N G).2 (G_N G).1 rfl gX11 tyX11 tyX11_ok nmX11 (by decide) kw_309 rfl (by decide +kernel) dX11_bad_7 (fun _ _ => Nat.le_of_ble_eq_true rfl) (set_fsN_9 w) (fun s2 => ?_)
  refine sm_bipush C (-2 : Int32) dX11_bad_10 bp_m2 ?_
  exact sm_iret C dX11_bad_12
theorem dd_X11_prize : yX11_prize.cls = RX11 ∧ yX11_prize.cls ≠ "java/lang/invoke/MethodHandle" ∧ yX11_prize.cls ≠ "java/lang/invoke/VarHandle" ∧ (parseMethodDescriptor yX11_prize.desc).map (fun d => d.parameters.length) = some 3 := by decide +kernel
set_option maxRecDepth 100000 in
set_option maxHeartbeats 4000000 in
theorem ct_X11_prize {l : Launch} {w : Wco} (G : GW w) (x1 : Int32) (x2 : Int32) (x3 : Int32) (s0 : Sta) (qq : Int32) (ss : Sta) (hh : X11_prize x1 x2 x3 s0 = some (qq, ss)) : Ct l w yX11_prize (Cond.code yX11_prize cX11_prize 5 (some .int) :: GT) { frames := 1, cells := 0, slots := 0, locals := 23 } [.ref (wad w 0), .int x1, .int x2, .int x3] s0 (oI qq) ss := by
  refine ct_of [(0, .ref (wad w 0)), (1, .int x1), (2, .int x2), (3, .int x3)] (by decide +kernel) (Nat.le_of_ble_eq_true rfl) rfl hh (fun M _ C => ?_)
  unfold X11_prize
  refine sm_iload_n C 1 dX11_prize_0 rfl ?_
  refine sm_iconst C (0 : Int32) dX11_prize_1 ic_0 ?_
  refine sm_bipush C (7 : Int32) dX11_prize_2 bp_7 ?_
  refine r_callSI C [.int x1, .int (0 : Int32), .int (7 : Int32)] (fun qq ss hh => ct_X11_within x1 (0 : Int32) (7 : Int32) s0 qq ss hh) kw_346 kw_347 kw_51 kw_348 dX11_prize_4 rfl dd_X11_within ⟨rfl, rfl⟩ ⟨by decide, by decide⟩ (Nat.le_of_ble_eq_true rfl) _ rfl (fun q1 s2 => ?_)
  refine sm_if_eq C 29 dX11_prize_7 (by decide) ?_ ?_
  · refine sm_aload_n C 0 dX11_prize_29 rfl ?_
    refine r_callVI C (R := RX11) (T := TX11) (N := 12) [] (G_N G) rfl (fun qq ss hh => ct_X11_bad G s2 qq ss hh) kw_349 kw_351 kw_0 kw_51 kw_352 dX11_prize_30 rfl dd_X11_bad ⟨rfl, rfl⟩ ⟨by decide, by decide⟩ (Nat.le_of_ble_eq_true rfl) _ rfl (fun q3 s4 => ?_)
    exact sm_iret C dX11_prize_33
  · refine sm_iload_n C 2 dX11_prize_10 rfl ?_
    refine sm_iconst C (0 : Int32) dX11_prize_11 ic_0 ?_
    refine sm_iconst C (2 : Int32) dX11_prize_12 ic_2 ?_
    refine r_callSI C [.int x2, .int (0 : Int32), .int (2 : Int32)] (fun qq ss hh => ct_X11_within x2 (0 : Int32) (2 : Int32) s2 qq ss hh) kw_346 kw_347 kw_51 kw_348 dX11_prize_13 rfl dd_X11_within ⟨rfl, rfl⟩ ⟨by decide, by decide⟩ (Nat.le_of_ble_eq_true rfl) _ rfl (fun q5 s6 => ?_)
    refine sm_if_eq C 29 dX11_prize_16 (by decide) ?_ ?_
    · refine sm_aload_n C 0 dX11_prize_29 rfl ?_
      refine r_callVI C (R := RX11) (T := TX11) (N := 12) [] (G_N G) rfl (fun qq ss hh => ct_X11_bad G s6 qq ss hh) kw_349 kw_351 kw_0 kw_51 kw_352 dX11_prize_30 rfl dd_X11_bad ⟨rfl, rfl⟩ ⟨by decide, by decide⟩ (Nat.le_of_ble_eq_true rfl) _ rfl (fun q7 s8 => ?_)
      exact sm_iret C dX11_prize_33
    · refine sm_iload_n C 3 dX11_prize_19 rfl ?_
      refine sm_iconst C (1 : Int32) dX11_prize_20 ic_1 ?_
      refine sm_bipush C (30 : Int32) dX11_prize_21 bp_30 ?_
      refine r_callSI C [.int x3, .int (1 : Int32), .int (30 : Int32)] (fun qq ss hh => ct_X11_within x3 (1 : Int32) (30 : Int32) s6 qq ss hh) kw_346 kw_347 kw_51 kw_348 dX11_prize_23 rfl dd_X11_within ⟨rfl, rfl⟩ ⟨by decide, by decide⟩ (Nat.le_of_ble_eq_true rfl) _ rfl (fun q9 s10 => ?_)
      refine sm_if_ne C 34 dX11_prize_26 (by decide) ?_ ?_
      · refine sm_aload_n C 0 dX11_prize_34 rfl ?_
        refine sm_getR C (ci := 11) (R := RX11) (T := TX11) (N := 12) (j := 0) (G_N G).2 (G_N G).1 rfl gX11 (by decide) kw_300 dX11_prize_35 (fun _ _ => rfl) ?_
        refine sm_getRN C (ci := 10) (R := RX10) (T := TX10) (N := 13) (j := 1) (V_O (G_now G)).2 (V_O (G_now G)).1 rfl gX10 (by decide) nf_6 dX11_prize_38 (fun _ _ => rfl) ?_
        refine sm_iload_n C 1 dX11_prize_41 rfl ?_
        refine r_iald C (V_worths (G_now G)) dX11_prize_42 (fun v11 => ?_)
        refine sm_istore C [(4, .int v11), (0, .ref (wad w 0)), (1, .int x1), (2, .int x2), (3, .int x3)] dX11_prize_43 (by decide) rfl ?_
        refine sm_aload_n C 1 dX11_prize_45 rfl ?_
        refine sm_getR C (ci := 11) (R := RX11) (T := TX11) (N := 12) (j := 0) (G_N G).2 (G_N G).1 rfl gX11 (by decide) kw_300 dX11_prize_46 (fun _ _ => rfl) ?_
        refine sm_iload_n C 2 dX11_prize_49 rfl ?_
        refine sm_iload_n C 3 dX11_prize_50 rfl ?_
        refine sm_iload_n C 4 dX11_prize_51 rfl ?_
        refine r_callVU C (R := RX10) (T := TX10) (N := 13) [.int x1, .int x2, .int x3] (V_O (G_now G)) rfl (fun qq ss hh => ct_X10_setPrize 1 (G_now G) x1 x2 x3 s10 qq ss hh) kw_353 kw_354 kw_355 kw_52 kw_356 dX11_prize_52 rfl dd_X10_setPrize ⟨rfl, rfl⟩ ⟨by decide, by decide⟩ (Nat.le_of_ble_eq_true rfl) _ rfl (fun q12 s13 => ?_)
        refine sm_aload_n C 1 dX11_prize_55 rfl ?_
        refine sm_getR C (ci := 11) (R := RX11) (T := TX11) (N := 12) (j := 0) (G_N G).2 (G_N G).1 rfl gX11 (by decide) kw_300 dX11_prize_56 (fun _ _ => rfl) ?_
        refine sm_iconst C (0 : Int32) dX11_prize_59 ic_0 ?_
        refine sm_putIN C (ci := 10) (R := RX10) (T := TX10) (N := 13) (j := 12) (V_O (G_now G)).2 (V_O (G_now G)).1 rfl gX10 tyX10 tyX10_ok nmX10 (by decide) nf_27 rfl (by decide +kernel) dX11_prize_60 (fun _ _ => Nat.le_of_ble_eq_true rfl) (set_fsV_12 w 1) (fun s14 => ?_)
        refine sm_iload C 0 dX11_prize_63 rfl ?_
        exact sm_iret C dX11_prize_65
      · refine sm_aload_n C 0 dX11_prize_29 rfl ?_
        refine r_callVI C (R := RX11) (T := TX11) (N := 12) [] (G_N G) rfl (fun qq ss hh => ct_X11_bad G s10 qq ss hh) kw_349 kw_351 kw_0 kw_51 kw_352 dX11_prize_30 rfl dd_X11_bad ⟨rfl, rfl⟩ ⟨by decide, by decide⟩ (Nat.le_of_ble_eq_true rfl) _ rfl (fun q15 s16 => ?_)
        exact sm_iret C dX11_prize_33
theorem dd_X11_isArt : yX11_isArt.cls ≠ "java/lang/invoke/MethodHandle" ∧ yX11_isArt.cls ≠ "java/lang/invoke/VarHandle" ∧ (parseMethodDescriptor yX11_isArt.desc).map (fun d => d.parameters.length) = some 1 := by decide +kernel
set_option maxRecDepth 100000 in
set_option maxHeartbeats 4000000 in
theorem ct_X11_isArt {l : Launch} {w : Wco} (x1 : Int32) (s0 : Sta) (qq : Int32) (ss : Sta) (hh : X11_isArt x1 s0 = some (qq, ss)) : Ct l w yX11_isArt (Cond.code yX11_isArt cX11_isArt 1 (some .boolean) :: GT) { frames := 1, cells := 0, slots := 0, locals := 22 } [.int x1] s0 (oI qq) ss := by
  refine ct_of [(0, .int x1)] (by decide +kernel) (Nat.le_of_ble_eq_true rfl) rfl hh (fun M _ C => ?_)
  unfold X11_isArt
  refine sm_iload_n C 0 dX11_isArt_0 rfl ?_
  refine sm_iconst C (0 : Int32) dX11_isArt_1 ic_0 ?_
  refine sm_bipush C (9 : Int32) dX11_isArt_2 bp_9 ?_
  refine r_callSI C [.int x1, .int (0 : Int32), .int (9 : Int32)] (fun qq ss hh => ct_X11_within x1 (0 : Int32) (9 : Int32) s0 qq ss hh) kw_346 kw_347 kw_51 kw_348 dX11_isArt_4 rfl dd_X11_within ⟨rfl, rfl⟩ ⟨by decide, by decide⟩ (Nat.le_of_ble_eq_true rfl) _ rfl (fun q1 s2 => ?_)
  exact sm_zret C dX11_isArt_7
theorem dd_X11_full : yX11_full.cls = RX11 ∧ yX11_full.cls ≠ "java/lang/invoke/MethodHandle" ∧ yX11_full.cls ≠ "java/lang/invoke/VarHandle" ∧ (parseMethodDescriptor yX11_full.desc).map (fun d => d.parameters.length) = some 0 := by decide +kernel
set_option maxRecDepth 100000 in
set_option maxHeartbeats 4000000 in
theorem ct_X11_full {l : Launch} {w : Wco} (G : GW w) (s0 : Sta) (qq : Int32) (ss : Sta) (hh : X11_full s0 = some (qq, ss)) : Ct l w yX11_full (Cond.code yX11_full cX11_full 1 (some .int) :: GT) { frames := 0, cells := 0, slots := 0, locals := 0 } [.ref (wad w 0)] s0 (oI qq) ss := by
  refine ct_of [(0, .ref (wad w 0))] (by decide +kernel) (Nat.le_of_ble_eq_true rfl) rfl hh (fun M _ C => ?_)
  unfold X11_full
  refine sm_aload_n C 0 dX11_full_0 rfl ?_
  refine sm_dup C dX11_full_1 rfl ?_
  refine sm_getI C (ci := 11) (R := RX11) (T := TX11) (N := 12) (j := 11) (G_N G).2 (G_N G).1 rfl gX11 (by decide) kw_311 dX11_full_2 (fun _ _ => rfl) (fun v1 => ?_)
  refine sm_iconst C (1 : Int32) dX11_full_5 ic_1 ?_
  refine sm_iadd C dX11_full_6 ?_
  refine sm_putI C (ci := 11) (R := RX11) (T := TX11) (N := 12) (j := 11) (G_N G).2 (G_N G).1 rfl gX11 tyX11 tyX11_ok nmX11 (by decide) kw_311 rfl (by decide +kernel) dX11_full_7 (fun _ _ => Nat.le_of_ble_eq_true rfl) (set_fsN_11 w) (fun s2 => ?_)
  refine sm_bipush C (-4 : Int32) dX11_full_10 bp_m4 ?_
  exact sm_iret C dX11_full_12
theorem dd_X11_one : yX11_one.cls = RX11 ∧ yX11_one.cls ≠ "java/lang/invoke/MethodHandle" ∧ yX11_one.cls ≠ "java/lang/invoke/VarHandle" ∧ (parseMethodDescriptor yX11_one.desc).map (fun d => d.parameters.length) = some 4 := by decide +kernel
set_option maxRecDepth 100000 in
set_option maxHeartbeats 4000000 in
theorem ct_X11_one {l : Launch} {w : Wco} (G : GW w) (x1 : Int32) (x2 : Int32) (x3 : Int32) (x4 : Int32) (s0 : Sta) (qq : Int32) (ss : Sta) (hh : X11_one x1 x2 x3 x4 s0 = some (qq, ss)) : Ct l w yX11_one (Cond.code yX11_one cX11_one 5 (some .int) :: GT) { frames := 2, cells := 0, slots := 0, locals := 42 } [.ref (wad w 0), .int x1, .int x2, .int x3, .int x4] s0 (oI qq) ss := by
  refine ct_of [(0, .ref (wad w 0)), (1, .int x1), (2, .int x2), (3, .int x3), (4, .int x4)] (by decide +kernel) (Nat.le_of_ble_eq_true rfl) rfl hh (fun M _ C => ?_)
  unfold X11_one
  refine sm_iload_n C 1 dX11_one_0 rfl ?_
  refine sm_iconst C (0 : Int32) dX11_one_1 ic_0 ?_
  refine sm_iconst C (5 : Int32) dX11_one_2 ic_5 ?_
  refine r_callSI C [.int x1, .int (0 : Int32), .int (5 : Int32)] (fun qq ss hh => ct_X11_within x1 (0 : Int32) (5 : Int32) s0 qq ss hh) kw_346 kw_347 kw_51 kw_348 dX11_one_3 rfl dd_X11_within ⟨rfl, rfl⟩ ⟨by decide, by decide⟩ (Nat.le_of_ble_eq_true rfl) _ rfl (fun q1 s2 => ?_)
  refine sm_if_eq C 31 dX11_one_6 (by decide) ?_ ?_
  · refine sm_aload_n C 0 dX11_one_31 rfl ?_
    refine r_callVI C (R := RX11) (T := TX11) (N := 12) [] (G_N G) rfl (fun qq ss hh => ct_X11_bad G s2 qq ss hh) kw_349 kw_351 kw_0 kw_51 kw_352 dX11_one_32 rfl dd_X11_bad ⟨rfl, rfl⟩ ⟨by decide, by decide⟩ (Nat.le_of_ble_eq_true rfl) _ rfl (fun q3 s4 => ?_)
    exact sm_iret C dX11_one_35
  · refine sm_iload_n C 2 dX11_one_9 rfl ?_
    refine r_callSI C [.int x2] (fun qq ss hh => ct_X11_isArt x2 s2 qq ss hh) kw_361 kw_362 kw_51 kw_363 dX11_one_10 rfl dd_X11_isArt ⟨rfl, rfl⟩ ⟨by decide, by decide⟩ (Nat.le_of_ble_eq_true rfl) _ rfl (fun q5 s6 => ?_)
    refine sm_if_eq C 31 dX11_one_13 (by decide) ?_ ?_
    · refine sm_aload_n C 0 dX11_one_31 rfl ?_
      refine r_callVI C (R := RX11) (T := TX11) (N := 12) [] (G_N G) rfl (fun qq ss hh => ct_X11_bad G s6 qq ss hh) kw_349 kw_351 kw_0 kw_51 kw_352 dX11_one_32 rfl dd_X11_bad ⟨rfl, rfl⟩ ⟨by decide, by decide⟩ (Nat.le_of_ble_eq_true rfl) _ rfl (fun q7 s8 => ?_)
      exact sm_iret C dX11_one_35
    · refine sm_iload_n C 3 dX11_one_16 rfl ?_
      refine r_callSI C [.int x3] (fun qq ss hh => ct_X11_isArt x3 s6 qq ss hh) kw_361 kw_362 kw_51 kw_363 dX11_one_17 rfl dd_X11_isArt ⟨rfl, rfl⟩ ⟨by decide, by decide⟩ (Nat.le_of_ble_eq_true rfl) _ rfl (fun q9 s10 => ?_)
      refine sm_if_eq C 31 dX11_one_20 (by decide) ?_ ?_
      · refine sm_aload_n C 0 dX11_one_31 rfl ?_
        refine r_callVI C (R := RX11) (T := TX11) (N := 12) [] (G_N G) rfl (fun qq ss hh => ct_X11_bad G s10 qq ss hh) kw_349 kw_351 kw_0 kw_51 kw_352 dX11_one_32 rfl dd_X11_bad ⟨rfl, rfl⟩ ⟨by decide, by decide⟩ (Nat.le_of_ble_eq_true rfl) _ rfl (fun q11 s12 => ?_)
        exact sm_iret C dX11_one_35
      · refine sm_iload C 4 dX11_one_23 rfl ?_
        refine r_callSI C [.int x4] (fun qq ss hh => ct_X11_isArt x4 s10 qq ss hh) kw_361 kw_362 kw_51 kw_363 dX11_one_25 rfl dd_X11_isArt ⟨rfl, rfl⟩ ⟨by decide, by decide⟩ (Nat.le_of_ble_eq_true rfl) _ rfl (fun q13 s14 => ?_)
        refine sm_if_ne C 36 dX11_one_28 (by decide) ?_ ?_
        · refine sm_aload_n C 0 dX11_one_36 rfl ?_
          refine sm_getR C (ci := 11) (R := RX11) (T := TX11) (N := 12) (j := 0) (G_N G).2 (G_N G).1 rfl gX11 (by decide) kw_300 dX11_one_37 (fun _ _ => rfl) ?_
          refine sm_getIN C (ci := 10) (R := RX10) (T := TX10) (N := 13) (j := 10) (V_O (G_now G)).2 (V_O (G_now G)).1 rfl gX10 (by decide) nf_20 dX11_one_40 (fun _ _ => rfl) (fun v15 => ?_)
          refine sm_bipush C (6 : Int32) dX11_one_43 bp_6 ?_
          refine sm_icmp_lt C 53 dX11_one_45 (by decide) ?_ ?_
          · refine sm_aload_n C 0 dX11_one_53 rfl ?_
            refine sm_getR C (ci := 11) (R := RX11) (T := TX11) (N := 12) (j := 0) (G_N G).2 (G_N G).1 rfl gX11 (by decide) kw_300 dX11_one_54 (fun _ _ => rfl) ?_
            refine sm_iload_n C 1 dX11_one_57 rfl ?_
            refine sm_iload_n C 2 dX11_one_58 rfl ?_
            refine sm_iload_n C 3 dX11_one_59 rfl ?_
            refine sm_iload C 4 dX11_one_60 rfl ?_
            refine r_callVU C (R := RX10) (T := TX10) (N := 13) [.int x1, .int x2, .int x3, .int x4] (V_O (G_now G)) rfl (fun qq ss hh => ct_X10_addOne 1 (G_now G) x1 x2 x3 x4 s14 qq ss hh) kw_368 kw_369 kw_370 kw_52 kw_371 dX11_one_62 rfl dd_X10_addOne ⟨rfl, rfl⟩ ⟨by decide, by decide⟩ (Nat.le_of_ble_eq_true rfl) _ rfl (fun q16 s17 => ?_)
            refine sm_aload_n C 0 dX11_one_65 rfl ?_
            refine sm_getR C (ci := 11) (R := RX11) (T := TX11) (N := 12) (j := 0) (G_N G).2 (G_N G).1 rfl gX11 (by decide) kw_300 dX11_one_66 (fun _ _ => rfl) ?_
            refine sm_iconst C (0 : Int32) dX11_one_69 ic_0 ?_
            refine sm_putIN C (ci := 10) (R := RX10) (T := TX10) (N := 13) (j := 12) (V_O (G_now G)).2 (V_O (G_now G)).1 rfl gX10 tyX10 tyX10_ok nmX10 (by decide) nf_27 rfl (by decide +kernel) dX11_one_70 (fun _ _ => Nat.le_of_ble_eq_true rfl) (set_fsV_12 w 1) (fun s18 => ?_)
            refine sm_aload_n C 0 dX11_one_73 rfl ?_
            refine sm_getR C (ci := 11) (R := RX11) (T := TX11) (N := 12) (j := 0) (G_N G).2 (G_N G).1 rfl gX11 (by decide) kw_300 dX11_one_74 (fun _ _ => rfl) ?_
            refine sm_getIN C (ci := 10) (R := RX10) (T := TX10) (N := 13) (j := 10) (V_O (G_now G)).2 (V_O (G_now G)).1 rfl gX10 (by decide) nf_20 dX11_one_77 (fun _ _ => rfl) (fun v19 => ?_)
            refine sm_iconst C (1 : Int32) dX11_one_80 ic_1 ?_
            refine sm_isub C dX11_one_81 ?_
            exact sm_iret C dX11_one_82
          · refine sm_aload_n C 0 dX11_one_48 rfl ?_
            refine r_callVI C (R := RX11) (T := TX11) (N := 12) [] (G_N G) rfl (fun qq ss hh => ct_X11_full G s14 qq ss hh) kw_364 kw_366 kw_1 kw_51 kw_367 dX11_one_49 rfl dd_X11_full ⟨rfl, rfl⟩ ⟨by decide, by decide⟩ (Nat.le_of_ble_eq_true rfl) _ rfl (fun q20 s21 => ?_)
            exact sm_iret C dX11_one_52
        · refine sm_aload_n C 0 dX11_one_31 rfl ?_
          refine r_callVI C (R := RX11) (T := TX11) (N := 12) [] (G_N G) rfl (fun qq ss hh => ct_X11_bad G s14 qq ss hh) kw_349 kw_351 kw_0 kw_51 kw_352 dX11_one_32 rfl dd_X11_bad ⟨rfl, rfl⟩ ⟨by decide, by decide⟩ (Nat.le_of_ble_eq_true rfl) _ rfl (fun q22 s23 => ?_)
          exact sm_iret C dX11_one_35
theorem dd_X11_type : yX11_type.cls = RX11 ∧ yX11_type.cls ≠ "java/lang/invoke/MethodHandle" ∧ yX11_type.cls ≠ "java/lang/invoke/VarHandle" ∧ (parseMethodDescriptor yX11_type.desc).map (fun d => d.parameters.length) = some 1 := by decide +kernel
set_option maxRecDepth 100000 in
set_option maxHeartbeats 4000000 in
theorem ct_X11_type {l : Launch} {w : Wco} (G : GW w) (x1 : Int32) (s0 : Sta) (qq : Int32) (ss : Sta) (hh : X11_type x1 s0 = some (qq, ss)) : Ct l w yX11_type (Cond.code yX11_type cX11_type 2 (some .int) :: GT) { frames := 1, cells := 0, slots := 0, locals := 22 } [.ref (wad w 0), .int x1] s0 (oI qq) ss := by
  refine ct_of [(0, .ref (wad w 0)), (1, .int x1)] (by decide +kernel) (Nat.le_of_ble_eq_true rfl) rfl hh (fun M _ C => ?_)
  unfold X11_type
  refine sm_iload_n C 1 dX11_type_0 rfl ?_
  refine sm_iconst C (0 : Int32) dX11_type_1 ic_0 ?_
  refine sm_bipush C (127 : Int32) dX11_type_2 bp_127 ?_
  refine r_callSI C [.int x1, .int (0 : Int32), .int (127 : Int32)] (fun qq ss hh => ct_X11_within x1 (0 : Int32) (127 : Int32) s0 qq ss hh) kw_346 kw_347 kw_51 kw_348 dX11_type_4 rfl dd_X11_within ⟨rfl, rfl⟩ ⟨by decide, by decide⟩ (Nat.le_of_ble_eq_true rfl) _ rfl (fun q1 s2 => ?_)
  refine sm_if_ne C 15 dX11_type_7 (by decide) ?_ ?_
  · refine sm_aload_n C 0 dX11_type_15 rfl ?_
    refine sm_getR C (ci := 11) (R := RX11) (T := TX11) (N := 12) (j := 6) (G_N G).2 (G_N G).1 rfl gX11 (by decide) kw_306 dX11_type_16 (fun _ _ => rfl) ?_
    refine sm_getIN C (ci := 8) (R := RX8) (T := TX8) (N := 6) (j := 1) (G_S G).2 (G_S G).1 rfl gX8 (by decide) nf_34 dX11_type_19 (fun _ _ => rfl) (fun v3 => ?_)
    refine sm_sipush C (150 : Int32) dX11_type_22 sp_150 ?_
    refine sm_icmp_lt C 33 dX11_type_25 (by decide) ?_ ?_
    · refine sm_aload_n C 0 dX11_type_33 rfl ?_
      refine sm_getR C (ci := 11) (R := RX11) (T := TX11) (N := 12) (j := 6) (G_N G).2 (G_N G).1 rfl gX11 (by decide) kw_306 dX11_type_34 (fun _ _ => rfl) ?_
      refine sm_iload_n C 1 dX11_type_37 rfl ?_
      refine r_callVU C (R := RX8) (T := TX8) (N := 6) [.int x1] (G_S G) rfl (fun qq ss hh => ct_X8_append G x1 s2 qq ss hh) kw_376 kw_377 kw_378 kw_63 kw_379 dX11_type_38 rfl dd_X8_append ⟨rfl, rfl⟩ ⟨by decide, by decide⟩ (Nat.le_of_ble_eq_true rfl) _ rfl (fun q4 s5 => ?_)
      refine sm_aload_n C 0 dX11_type_41 rfl ?_
      refine sm_getR C (ci := 11) (R := RX11) (T := TX11) (N := 12) (j := 6) (G_N G).2 (G_N G).1 rfl gX11 (by decide) kw_306 dX11_type_42 (fun _ _ => rfl) ?_
      refine sm_getIN C (ci := 8) (R := RX8) (T := TX8) (N := 6) (j := 1) (G_S G).2 (G_S G).1 rfl gX8 (by decide) nf_34 dX11_type_45 (fun _ _ => rfl) (fun v6 => ?_)
      exact sm_iret C dX11_type_48
    · refine sm_aload_n C 0 dX11_type_28 rfl ?_
      refine r_callVI C (R := RX11) (T := TX11) (N := 12) [] (G_N G) rfl (fun qq ss hh => ct_X11_full G s2 qq ss hh) kw_364 kw_366 kw_1 kw_51 kw_367 dX11_type_29 rfl dd_X11_full ⟨rfl, rfl⟩ ⟨by decide, by decide⟩ (Nat.le_of_ble_eq_true rfl) _ rfl (fun q7 s8 => ?_)
      exact sm_iret C dX11_type_32
  · refine sm_aload_n C 0 dX11_type_10 rfl ?_
    refine r_callVI C (R := RX11) (T := TX11) (N := 12) [] (G_N G) rfl (fun qq ss hh => ct_X11_bad G s2 qq ss hh) kw_349 kw_351 kw_0 kw_51 kw_352 dX11_type_11 rfl dd_X11_bad ⟨rfl, rfl⟩ ⟨by decide, by decide⟩ (Nat.le_of_ble_eq_true rfl) _ rfl (fun q9 s10 => ?_)
    exact sm_iret C dX11_type_14
theorem dd_X11_clear : yX11_clear.cls = RX11 ∧ yX11_clear.cls ≠ "java/lang/invoke/MethodHandle" ∧ yX11_clear.cls ≠ "java/lang/invoke/VarHandle" ∧ (parseMethodDescriptor yX11_clear.desc).map (fun d => d.parameters.length) = some 0 := by decide +kernel
set_option maxRecDepth 100000 in
set_option maxHeartbeats 4000000 in
theorem ct_X11_clear {l : Launch} {w : Wco} (G : GW w) (s0 : Sta) (qq : Int32) (ss : Sta) (hh : X11_clear s0 = some (qq, ss)) : Ct l w yX11_clear (Cond.code yX11_clear cX11_clear 2 (some .int) :: GT) { frames := 0, cells := 0, slots := 0, locals := 0 } [.ref (wad w 0)] s0 (oI qq) ss := by
  refine ct_of [(0, .ref (wad w 0))] (by decide +kernel) (Nat.le_of_ble_eq_true rfl) rfl hh (fun M _ C => ?_)
  unfold X11_clear
  refine sm_aload_n C 0 dX11_clear_0 rfl ?_
  refine sm_getR C (ci := 11) (R := RX11) (T := TX11) (N := 12) (j := 6) (G_N G).2 (G_N G).1 rfl gX11 (by decide) kw_306 dX11_clear_1 (fun _ _ => rfl) ?_
  refine sm_getIN C (ci := 8) (R := RX8) (T := TX8) (N := 6) (j := 1) (G_S G).2 (G_S G).1 rfl gX8 (by decide) nf_34 dX11_clear_4 (fun _ _ => rfl) (fun v1 => ?_)
  refine sm_istore_n C [(1, .int v1), (0, .ref (wad w 0))] dX11_clear_7 (by decide) rfl ?_
  refine sm_aload_n C 1 dX11_clear_8 rfl ?_
  refine sm_getR C (ci := 11) (R := RX11) (T := TX11) (N := 12) (j := 6) (G_N G).2 (G_N G).1 rfl gX11 (by decide) kw_306 dX11_clear_9 (fun _ _ => rfl) ?_
  refine sm_iconst C (0 : Int32) dX11_clear_12 ic_0 ?_
  refine sm_putIN C (ci := 8) (R := RX8) (T := TX8) (N := 6) (j := 1) (G_S G).2 (G_S G).1 rfl gX8 tyX8 tyX8_ok nmX8 (by decide) nf_34 rfl (by decide +kernel) dX11_clear_13 (fun _ _ => Nat.le_of_ble_eq_true rfl) (set_fsS_1 w) (fun s2 => ?_)
  refine sm_iload_n C 0 dX11_clear_16 rfl ?_
  exact sm_iret C dX11_clear_17
theorem dd_X11_no : yX11_no.cls = RX11 ∧ yX11_no.cls ≠ "java/lang/invoke/MethodHandle" ∧ yX11_no.cls ≠ "java/lang/invoke/VarHandle" ∧ (parseMethodDescriptor yX11_no.desc).map (fun d => d.parameters.length) = some 0 := by decide +kernel
set_option maxRecDepth 100000 in
set_option maxHeartbeats 4000000 in
theorem ct_X11_no {l : Launch} {w : Wco} (G : GW w) (s0 : Sta) (qq : Int32) (ss : Sta) (hh : X11_no s0 = some (qq, ss)) : Ct l w yX11_no (Cond.code yX11_no cX11_no 1 (some .int) :: GT) { frames := 0, cells := 0, slots := 0, locals := 0 } [.ref (wad w 0)] s0 (oI qq) ss := by
  refine ct_of [(0, .ref (wad w 0))] (by decide +kernel) (Nat.le_of_ble_eq_true rfl) rfl hh (fun M _ C => ?_)
  unfold X11_no
  refine sm_aload_n C 0 dX11_no_0 rfl ?_
  refine sm_dup C dX11_no_1 rfl ?_
  refine sm_getI C (ci := 11) (R := RX11) (T := TX11) (N := 12) (j := 10) (G_N G).2 (G_N G).1 rfl gX11 (by decide) kw_310 dX11_no_2 (fun _ _ => rfl) (fun v1 => ?_)
  refine sm_iconst C (1 : Int32) dX11_no_5 ic_1 ?_
  refine sm_iadd C dX11_no_6 ?_
  refine sm_putI C (ci := 11) (R := RX11) (T := TX11) (N := 12) (j := 10) (G_N G).2 (G_N G).1 rfl gX11 tyX11 tyX11_ok nmX11 (by decide) kw_310 rfl (by decide +kernel) dX11_no_7 (fun _ _ => Nat.le_of_ble_eq_true rfl) (set_fsN_10 w) (fun s2 => ?_)
  refine sm_bipush C (-3 : Int32) dX11_no_10 bp_m3 ?_
  exact sm_iret C dX11_no_12
theorem dd_X11_year : yX11_year.cls = RX11 ∧ yX11_year.cls ≠ "java/lang/invoke/MethodHandle" ∧ yX11_year.cls ≠ "java/lang/invoke/VarHandle" ∧ (parseMethodDescriptor yX11_year.desc).map (fun d => d.parameters.length) = some 0 := by decide +kernel
set_option maxRecDepth 100000 in
set_option maxHeartbeats 4000000 in
theorem ct_X11_year {l : Launch} {w : Wco} (G : GW w) (s0 : Sta) (qq : Int32) (ss : Sta) (hh : X11_year s0 = some (qq, ss)) : Ct l w yX11_year (Cond.code yX11_year cX11_year 1 (some .int) :: GT) { frames := 6, cells := 0, slots := 0, locals := 165 } [.ref (wad w 0)] s0 (oI qq) ss := by
  refine ct_of [(0, .ref (wad w 0))] (by decide +kernel) (Nat.le_of_ble_eq_true rfl) rfl hh (fun M _ C => ?_)
  unfold X11_year
  refine sm_aload_n C 0 dX11_year_0 rfl ?_
  refine sm_getR C (ci := 11) (R := RX11) (T := TX11) (N := 12) (j := 0) (G_N G).2 (G_N G).1 rfl gX11 (by decide) kw_300 dX11_year_1 (fun _ _ => rfl) ?_
  refine sm_getIN C (ci := 10) (R := RX10) (T := TX10) (N := 13) (j := 11) (V_O (G_now G)).2 (V_O (G_now G)).1 rfl gX10 (by decide) nf_25 dX11_year_4 (fun _ _ => rfl) (fun v1 => ?_)
  refine sm_bipush C (8 : Int32) dX11_year_7 bp_8 ?_
  refine sm_icmp_lt C 17 dX11_year_9 (by decide) ?_ ?_
  · refine sm_aload_n C 0 dX11_year_17 rfl ?_
    refine sm_getR C (ci := 11) (R := RX11) (T := TX11) (N := 12) (j := 4) (G_N G).2 (G_N G).1 rfl gX11 (by decide) kw_304 dX11_year_18 (fun _ _ => rfl) ?_
    refine r_callVU C (R := RX0) (T := TX0) (N := 5) [] (C_O (G_con G)) rfl (fun qq ss hh => ct_X0_allByKind 55 (G_con G).1 s0 qq ss hh) kw_506 kw_227 kw_228 kw_55 kw_229 dX11_year_21 rfl dd_X0_allByKind ⟨rfl, rfl⟩ ⟨by decide, by decide⟩ (Nat.le_of_ble_eq_true rfl) _ rfl (fun q2 s3 => ?_)
    refine sm_aload_n C 0 dX11_year_24 rfl ?_
    refine sm_getR C (ci := 11) (R := RX11) (T := TX11) (N := 12) (j := 4) (G_N G).2 (G_N G).1 rfl gX11 (by decide) kw_304 dX11_year_25 (fun _ _ => rfl) ?_
    refine sm_aload_n C 0 dX11_year_28 rfl ?_
    refine sm_getR C (ci := 11) (R := RX11) (T := TX11) (N := 12) (j := 0) (G_N G).2 (G_N G).1 rfl gX11 (by decide) kw_300 dX11_year_29 (fun _ _ => rfl) ?_
    refine sm_aload_n C 0 dX11_year_32 rfl ?_
    refine sm_getR C (ci := 11) (R := RX11) (T := TX11) (N := 12) (j := 0) (G_N G).2 (G_N G).1 rfl gX11 (by decide) kw_300 dX11_year_33 (fun _ _ => rfl) ?_
    refine sm_getIN C (ci := 10) (R := RX10) (T := TX10) (N := 13) (j := 11) (V_O (G_now G)).2 (V_O (G_now G)).1 rfl gX10 (by decide) nf_25 dX11_year_36 (fun _ _ => rfl) (fun v4 => ?_)
    refine r_callVU C (R := RX0) (T := TX0) (N := 5) [.ref (wad w 1), .int v4] (C_O (G_con G)) rfl (fun qq ss hh => ct_X0_hold 55 1 (G_con G) (G_now G) v4 s3 qq ss hh) kw_507 kw_508 kw_509 kw_55 kw_510 dX11_year_39 rfl dd_X0_hold ⟨rfl, rfl⟩ ⟨by decide, by decide⟩ (Nat.le_of_ble_eq_true rfl) _ rfl (fun q5 s6 => ?_)
    refine sm_aload_n C 0 dX11_year_42 rfl ?_
    refine sm_getR C (ci := 11) (R := RX11) (T := TX11) (N := 12) (j := 0) (G_N G).2 (G_N G).1 rfl gX11 (by decide) kw_300 dX11_year_43 (fun _ _ => rfl) ?_
    refine sm_aload_n C 0 dX11_year_46 rfl ?_
    refine sm_getR C (ci := 11) (R := RX11) (T := TX11) (N := 12) (j := 4) (G_N G).2 (G_N G).1 rfl gX11 (by decide) kw_304 dX11_year_47 (fun _ _ => rfl) ?_
    refine sm_getIN C (ci := 0) (R := RX0) (T := TX0) (N := 5) (j := 3) (C_O (G_con G)).2 (C_O (G_con G)).1 rfl gX0 (by decide) nf_30 dX11_year_50 (fun _ _ => rfl) (fun v7 => ?_)
    refine sm_aload_n C 0 dX11_year_53 rfl ?_
    refine sm_getR C (ci := 11) (R := RX11) (T := TX11) (N := 12) (j := 4) (G_N G).2 (G_N G).1 rfl gX11 (by decide) kw_304 dX11_year_54 (fun _ _ => rfl) ?_
    refine sm_getIN C (ci := 0) (R := RX0) (T := TX0) (N := 5) (j := 4) (C_O (G_con G)).2 (C_O (G_con G)).1 rfl gX0 (by decide) nf_32 dX11_year_57 (fun _ _ => rfl) (fun v8 => ?_)
    refine r_callVU C (R := RX10) (T := TX10) (N := 13) [.int v7, .int v8] (V_O (G_now G)) rfl (fun qq ss hh => ct_X10_pass 1 (G_now G) v7 v8 s6 qq ss hh) kw_577 kw_578 kw_579 kw_52 kw_580 dX11_year_60 rfl dd_X10_pass ⟨rfl, rfl⟩ ⟨by decide, by decide⟩ (Nat.le_of_ble_eq_true rfl) _ rfl (fun q9 s10 => ?_)
    refine sm_aload_n C 0 dX11_year_63 rfl ?_
    refine sm_getR C (ci := 11) (R := RX11) (T := TX11) (N := 12) (j := 4) (G_N G).2 (G_N G).1 rfl gX11 (by decide) kw_304 dX11_year_64 (fun _ _ => rfl) ?_
    refine sm_getIN C (ci := 0) (R := RX0) (T := TX0) (N := 5) (j := 3) (C_O (G_con G)).2 (C_O (G_con G)).1 rfl gX0 (by decide) nf_30 dX11_year_67 (fun _ _ => rfl) (fun v11 => ?_)
    exact sm_iret C dX11_year_70
  · refine sm_aload_n C 0 dX11_year_12 rfl ?_
    refine r_callVI C (R := RX11) (T := TX11) (N := 12) [] (G_N G) rfl (fun qq ss hh => ct_X11_no G s0 qq ss hh) kw_502 kw_504 kw_9 kw_51 kw_505 dX11_year_13 rfl dd_X11_no ⟨rfl, rfl⟩ ⟨by decide, by decide⟩ (Nat.le_of_ble_eq_true rfl) _ rfl (fun q12 s13 => ?_)
    exact sm_iret C dX11_year_16
theorem dd_X11_undo : yX11_undo.cls = RX11 ∧ yX11_undo.cls ≠ "java/lang/invoke/MethodHandle" ∧ yX11_undo.cls ≠ "java/lang/invoke/VarHandle" ∧ (parseMethodDescriptor yX11_undo.desc).map (fun d => d.parameters.length) = some 0 := by decide +kernel
set_option maxRecDepth 100000 in
set_option maxHeartbeats 4000000 in
theorem ct_X11_undo {l : Launch} {w : Wco} (G : GW w) (s0 : Sta) (qq : Int32) (ss : Sta) (hh : X11_undo s0 = some (qq, ss)) : Ct l w yX11_undo (Cond.code yX11_undo cX11_undo 1 (some .int) :: GT) { frames := 2, cells := 0, slots := 0, locals := 44 } [.ref (wad w 0)] s0 (oI qq) ss := by
  refine ct_of [(0, .ref (wad w 0))] (by decide +kernel) (Nat.le_of_ble_eq_true rfl) rfl hh (fun M _ C => ?_)
  unfold X11_undo
  refine sm_aload_n C 0 dX11_undo_0 rfl ?_
  refine sm_getR C (ci := 11) (R := RX11) (T := TX11) (N := 12) (j := 0) (G_N G).2 (G_N G).1 rfl gX11 (by decide) kw_300 dX11_undo_1 (fun _ _ => rfl) ?_
  refine sm_getIN C (ci := 10) (R := RX10) (T := TX10) (N := 13) (j := 12) (V_O (G_now G)).2 (V_O (G_now G)).1 rfl gX10 (by decide) nf_27 dX11_undo_4 (fun _ _ => rfl) (fun v1 => ?_)
  refine sm_if_gt C 15 dX11_undo_7 (by decide) ?_ ?_
  · refine sm_aload_n C 0 dX11_undo_15 rfl ?_
    refine sm_getR C (ci := 11) (R := RX11) (T := TX11) (N := 12) (j := 0) (G_N G).2 (G_N G).1 rfl gX11 (by decide) kw_300 dX11_undo_16 (fun _ _ => rfl) ?_
    refine r_callVU C (R := RX10) (T := TX10) (N := 13) [] (V_O (G_now G)) rfl (fun qq ss hh => ct_X10_takeBack 1 (G_now G) s0 qq ss hh) kw_586 kw_587 kw_588 kw_52 kw_589 dX11_undo_19 rfl dd_X10_takeBack ⟨rfl, rfl⟩ ⟨by decide, by decide⟩ (Nat.le_of_ble_eq_true rfl) _ rfl (fun q2 s3 => ?_)
    refine sm_aload_n C 0 dX11_undo_22 rfl ?_
    refine sm_getR C (ci := 11) (R := RX11) (T := TX11) (N := 12) (j := 0) (G_N G).2 (G_N G).1 rfl gX11 (by decide) kw_300 dX11_undo_23 (fun _ _ => rfl) ?_
    refine sm_getIN C (ci := 10) (R := RX10) (T := TX10) (N := 13) (j := 11) (V_O (G_now G)).2 (V_O (G_now G)).1 rfl gX10 (by decide) nf_25 dX11_undo_26 (fun _ _ => rfl) (fun v4 => ?_)
    exact sm_iret C dX11_undo_29
  · refine sm_aload_n C 0 dX11_undo_10 rfl ?_
    refine r_callVI C (R := RX11) (T := TX11) (N := 12) [] (G_N G) rfl (fun qq ss hh => ct_X11_no G s0 qq ss hh) kw_502 kw_504 kw_9 kw_51 kw_505 dX11_undo_11 rfl dd_X11_no ⟨rfl, rfl⟩ ⟨by decide, by decide⟩ (Nat.le_of_ble_eq_true rfl) _ rfl (fun q5 s6 => ?_)
    exact sm_iret C dX11_undo_14
theorem dd_X11_isOne : yX11_isOne.cls = RX11 ∧ yX11_isOne.cls ≠ "java/lang/invoke/MethodHandle" ∧ yX11_isOne.cls ≠ "java/lang/invoke/VarHandle" ∧ (parseMethodDescriptor yX11_isOne.desc).map (fun d => d.parameters.length) = some 1 := by decide +kernel
set_option maxRecDepth 100000 in
set_option maxHeartbeats 4000000 in
theorem ct_X11_isOne {l : Launch} {w : Wco} (G : GW w) (x1 : Int32) (s0 : Sta) (qq : Int32) (ss : Sta) (hh : X11_isOne x1 s0 = some (qq, ss)) : Ct l w yX11_isOne (Cond.code yX11_isOne cX11_isOne 2 (some .boolean) :: GT) { frames := 1, cells := 0, slots := 0, locals := 22 } [.ref (wad w 0), .int x1] s0 (oI qq) ss := by
  refine ct_of [(0, .ref (wad w 0)), (1, .int x1)] (by decide +kernel) (Nat.le_of_ble_eq_true rfl) rfl hh (fun M _ C => ?_)
  unfold X11_isOne
  refine sm_iload_n C 1 dX11_isOne_0 rfl ?_
  refine sm_iconst C (0 : Int32) dX11_isOne_1 ic_0 ?_
  refine sm_aload_n C 0 dX11_isOne_2 rfl ?_
  refine sm_getR C (ci := 11) (R := RX11) (T := TX11) (N := 12) (j := 0) (G_N G).2 (G_N G).1 rfl gX11 (by decide) kw_300 dX11_isOne_3 (fun _ _ => rfl) ?_
  refine sm_getIN C (ci := 10) (R := RX10) (T := TX10) (N := 13) (j := 10) (V_O (G_now G)).2 (V_O (G_now G)).1 rfl gX10 (by decide) nf_20 dX11_isOne_6 (fun _ _ => rfl) (fun v1 => ?_)
  refine sm_iconst C (1 : Int32) dX11_isOne_9 ic_1 ?_
  refine sm_isub C dX11_isOne_10 ?_
  refine r_callSI C [.int x1, .int (0 : Int32), .int (v1 - (1 : Int32))] (fun qq ss hh => ct_X11_within x1 (0 : Int32) (v1 - (1 : Int32)) s0 qq ss hh) kw_346 kw_347 kw_51 kw_348 dX11_isOne_11 rfl dd_X11_within ⟨rfl, rfl⟩ ⟨by decide, by decide⟩ (Nat.le_of_ble_eq_true rfl) _ rfl (fun q2 s3 => ?_)
  exact sm_zret C dX11_isOne_14
theorem dd_X11_of : yX11_of.cls = RX11 ∧ yX11_of.cls ≠ "java/lang/invoke/MethodHandle" ∧ yX11_of.cls ≠ "java/lang/invoke/VarHandle" ∧ (parseMethodDescriptor yX11_of.desc).map (fun d => d.parameters.length) = some 2 := by decide +kernel
set_option maxRecDepth 100000 in
set_option maxHeartbeats 4000000 in
theorem sl_X11_of_L119 {M : Mco} {w : Wco} (C : Cx M w cX11_of 3 yX11_of.cls (Cond.code yX11_of cX11_of 3 (some .int)) (some .int) { frames := 4, cells := 0, slots := 0, locals := 113 }) (G : GW w) : ∀ (y1 : Int32) (y2 : Int32) (s0 : Sta), Sm M w 3 oI 119 [(0, .ref (wad w 0)), (1, .int y1), (2, .int y2)] [] s0 (X11_of_L119 y1 y2 s0) := by
  intro y1 y2 s0
  unfold X11_of_L119
  refine sm_aload_n C 0 dX11_of_119 rfl ?_
  refine sm_getR C (ci := 11) (R := RX11) (T := TX11) (N := 12) (j := 0) (G_N G).2 (G_N G).1 rfl gX11 (by decide) kw_300 dX11_of_120 (fun _ _ => rfl) ?_
  refine sm_getRN C (ci := 10) (R := RX10) (T := TX10) (N := 13) (j := 3) (V_O (G_now G)).2 (V_O (G_now G)).1 rfl gX10 (by decide) nf_12 dX11_of_123 (fun _ _ => rfl) ?_
  refine sm_iload_n C 1 dX11_of_126 rfl ?_
  refine sm_iconst C (3 : Int32) dX11_of_127 ic_3 ?_
  refine sm_imul C dX11_of_128 ?_
  refine sm_iload_n C 2 dX11_of_129 rfl ?_
  refine sm_iadd C dX11_of_130 ?_
  refine sm_iconst C (1 : Int32) dX11_of_131 ic_1 ?_
  refine sm_isub C dX11_of_132 ?_
  refine r_iald C (V_arts (G_now G)) dX11_of_133 (fun v14 => ?_)
  exact sm_iret C dX11_of_134
set_option maxRecDepth 100000 in
set_option maxHeartbeats 4000000 in
theorem ct_X11_of {l : Launch} {w : Wco} (G : GW w) (x1 : Int32) (x2 : Int32) (s0 : Sta) (qq : Int32) (ss : Sta) (hh : X11_of x1 x2 s0 = some (qq, ss)) : Ct l w yX11_of (Cond.code yX11_of cX11_of 3 (some .int) :: GT) { frames := 4, cells := 0, slots := 0, locals := 113 } [.ref (wad w 0), .int x1, .int x2] s0 (oI qq) ss := by
  refine ct_of [(0, .ref (wad w 0)), (1, .int x1), (2, .int x2)] (by decide +kernel) (Nat.le_of_ble_eq_true rfl) rfl hh (fun M _ C => ?_)
  unfold X11_of
  refine sm_aload_n C 0 dX11_of_0 rfl ?_
  refine sm_iload_n C 1 dX11_of_1 rfl ?_
  refine r_callVI C (R := RX11) (T := TX11) (N := 12) [.int x1] (G_N G) rfl (fun qq ss hh => ct_X11_isOne G x1 s0 qq ss hh) kw_594 kw_596 kw_10 kw_51 kw_597 dX11_of_2 rfl dd_X11_isOne ⟨rfl, rfl⟩ ⟨by decide, by decide⟩ (Nat.le_of_ble_eq_true rfl) _ rfl (fun q1 s2 => ?_)
  refine sm_if_eq C 18 dX11_of_5 (by decide) ?_ ?_
  · refine sm_aload_n C 0 dX11_of_18 rfl ?_
    refine r_callVI C (R := RX11) (T := TX11) (N := 12) [] (G_N G) rfl (fun qq ss hh => ct_X11_bad G s2 qq ss hh) kw_349 kw_351 kw_0 kw_51 kw_352 dX11_of_19 rfl dd_X11_bad ⟨rfl, rfl⟩ ⟨by decide, by decide⟩ (Nat.le_of_ble_eq_true rfl) _ rfl (fun q3 s4 => ?_)
    exact sm_iret C dX11_of_22
  · refine sm_iload_n C 2 dX11_of_8 rfl ?_
    refine sm_iconst C (0 : Int32) dX11_of_9 ic_0 ?_
    refine sm_bipush C (6 : Int32) dX11_of_10 bp_6 ?_
    refine r_callSI C [.int x2, .int (0 : Int32), .int (6 : Int32)] (fun qq ss hh => ct_X11_within x2 (0 : Int32) (6 : Int32) s2 qq ss hh) kw_346 kw_347 kw_51 kw_348 dX11_of_12 rfl dd_X11_within ⟨rfl, rfl⟩ ⟨by decide, by decide⟩ (Nat.le_of_ble_eq_true rfl) _ rfl (fun q5 s6 => ?_)
    refine sm_if_ne C 23 dX11_of_15 (by decide) ?_ ?_
    · refine sm_iload_n C 2 dX11_of_23 rfl ?_
      refine r_table C 119 dX11_of_24 rfl (by decide) ⟨⟨(show (0 : Int32).toInt = (0 : Int) + ((0 : Nat) : Int) from by decide), 44, 68, rfl, by decide, ?_⟩, ⟨⟨(show (1 : Int32).toInt = (0 : Int) + ((1 : Nat) : Int) from by decide), 95, 119, rfl, by decide, ?_⟩, ⟨⟨(show (2 : Int32).toInt = (0 : Int) + ((2 : Nat) : Int) from by decide), 95, 119, rfl, by decide, ?_⟩, ⟨⟨(show (3 : Int32).toInt = (0 : Int) + ((3 : Nat) : Int) from by decide), 95, 119, rfl, by decide, ?_⟩, ⟨⟨(show (4 : Int32).toInt = (0 : Int) + ((4 : Nat) : Int) from by decide), 54, 78, rfl, by decide, ?_⟩, ⟨⟨(show (5 : Int32).toInt = (0 : Int) + ((5 : Nat) : Int) from by decide), 64, 88, rfl, by decide, ?_⟩, ⟨⟨(show (6 : Int32).toInt = (0 : Int) + ((6 : Nat) : Int) from by decide), 74, 98, rfl, by decide, ?_⟩, trivial⟩⟩⟩⟩⟩⟩⟩ ?_
      · dsimp only
        refine sm_aload_n C 0 dX11_of_68 rfl ?_
        refine sm_getR C (ci := 11) (R := RX11) (T := TX11) (N := 12) (j := 0) (G_N G).2 (G_N G).1 rfl gX11 (by decide) kw_300 dX11_of_69 (fun _ _ => rfl) ?_
        refine sm_getRN C (ci := 10) (R := RX10) (T := TX10) (N := 13) (j := 2) (V_O (G_now G)).2 (V_O (G_now G)).1 rfl gX10 (by decide) nf_10 dX11_of_72 (fun _ _ => rfl) ?_
        refine sm_iload_n C 1 dX11_of_75 rfl ?_
        refine r_iald C (V_kinds (G_now G)) dX11_of_76 (fun v7 => ?_)
        exact sm_iret C dX11_of_77
      · dsimp only
        exact sm_sub [0, 1, 2] rfl (sl_X11_of_L119 C G x1 x2 s6)
      · dsimp only
        exact sm_sub [0, 1, 2] rfl (sl_X11_of_L119 C G x1 x2 s6)
      · dsimp only
        exact sm_sub [0, 1, 2] rfl (sl_X11_of_L119 C G x1 x2 s6)
      · dsimp only
        refine sm_aload_n C 0 dX11_of_78 rfl ?_
        refine sm_getR C (ci := 11) (R := RX11) (T := TX11) (N := 12) (j := 0) (G_N G).2 (G_N G).1 rfl gX11 (by decide) kw_300 dX11_of_79 (fun _ _ => rfl) ?_
        refine sm_getRN C (ci := 10) (R := RX10) (T := TX10) (N := 13) (j := 4) (V_O (G_now G)).2 (V_O (G_now G)).1 rfl gX10 (by decide) nf_15 dX11_of_82 (fun _ _ => rfl) ?_
        refine sm_iload_n C 1 dX11_of_85 rfl ?_
        refine r_iald C (V_wins (G_now G)) dX11_of_86 (fun v8 => ?_)
        exact sm_iret C dX11_of_87
      · dsimp only
        refine sm_aload_n C 0 dX11_of_88 rfl ?_
        refine sm_getR C (ci := 11) (R := RX11) (T := TX11) (N := 12) (j := 0) (G_N G).2 (G_N G).1 rfl gX11 (by decide) kw_300 dX11_of_89 (fun _ _ => rfl) ?_
        refine sm_getRN C (ci := 10) (R := RX10) (T := TX10) (N := 13) (j := 5) (V_O (G_now G)).2 (V_O (G_now G)).1 rfl gX10 (by decide) nf_16 dX11_of_92 (fun _ _ => rfl) ?_
        refine sm_iload_n C 1 dX11_of_95 rfl ?_
        refine r_iald C (V_seconds (G_now G)) dX11_of_96 (fun v9 => ?_)
        exact sm_iret C dX11_of_97
      · dsimp only
        refine sm_aload_n C 0 dX11_of_98 rfl ?_
        refine sm_getR C (ci := 11) (R := RX11) (T := TX11) (N := 12) (j := 4) (G_N G).2 (G_N G).1 rfl gX11 (by decide) kw_304 dX11_of_99 (fun _ _ => rfl) ?_
        refine sm_aload_n C 0 dX11_of_102 rfl ?_
        refine sm_getR C (ci := 11) (R := RX11) (T := TX11) (N := 12) (j := 0) (G_N G).2 (G_N G).1 rfl gX11 (by decide) kw_300 dX11_of_103 (fun _ _ => rfl) ?_
        refine sm_iload_n C 1 dX11_of_106 rfl ?_
        refine r_callVI C (R := RX0) (T := TX0) (N := 5) [.ref (wad w 1), .int x1] (C_O (G_con G)) rfl (fun qq ss hh => ct_X0_isBarred 55 1 (G_con G) (G_now G) x1 s6 qq ss hh) kw_598 kw_517 kw_518 kw_55 kw_519 dX11_of_107 rfl dd_X0_isBarred ⟨rfl, rfl⟩ ⟨by decide, by decide⟩ (Nat.le_of_ble_eq_true rfl) _ rfl (fun q10 s11 => ?_)
        refine sm_if_eq C 117 dX11_of_110 (by decide) ?_ ?_
        · refine sm_iconst C (0 : Int32) dX11_of_117 ic_0 ?_
          exact sm_iret C dX11_of_118
        · refine sm_iconst C (1 : Int32) dX11_of_113 ic_1 ?_
          refine sm_goto C 118 dX11_of_114 (by decide) ?_
          exact sm_iret C dX11_of_118
      · exact sm_sub [0, 1, 2] rfl (sl_X11_of_L119 C G x1 x2 s6)
    · refine sm_aload_n C 0 dX11_of_18 rfl ?_
      refine r_callVI C (R := RX11) (T := TX11) (N := 12) [] (G_N G) rfl (fun qq ss hh => ct_X11_bad G s6 qq ss hh) kw_349 kw_351 kw_0 kw_51 kw_352 dX11_of_19 rfl dd_X11_bad ⟨rfl, rfl⟩ ⟨by decide, by decide⟩ (Nat.le_of_ble_eq_true rfl) _ rfl (fun q12 s13 => ?_)
      exact sm_iret C dX11_of_22
theorem dd_X11_about : yX11_about.cls = RX11 ∧ yX11_about.cls ≠ "java/lang/invoke/MethodHandle" ∧ yX11_about.cls ≠ "java/lang/invoke/VarHandle" ∧ (parseMethodDescriptor yX11_about.desc).map (fun d => d.parameters.length) = some 2 := by decide +kernel
set_option maxRecDepth 100000 in
set_option maxHeartbeats 4000000 in
theorem ct_X11_about {l : Launch} {w : Wco} (G : GW w) (x1 : Int32) (x2 : Int32) (s0 : Sta) (qq : Int32) (ss : Sta) (hh : X11_about x1 x2 s0 = some (qq, ss)) : Ct l w yX11_about (Cond.code yX11_about cX11_about 3 (some .int) :: GT) { frames := 1, cells := 0, slots := 0, locals := 22 } [.ref (wad w 0), .int x1, .int x2] s0 (oI qq) ss := by
  refine ct_of [(0, .ref (wad w 0)), (1, .int x1), (2, .int x2)] (by decide +kernel) (Nat.le_of_ble_eq_true rfl) rfl hh (fun M _ C => ?_)
  unfold X11_about
  refine sm_iload_n C 1 dX11_about_0 rfl ?_
  refine sm_iconst C (0 : Int32) dX11_about_1 ic_0 ?_
  refine sm_bipush C (7 : Int32) dX11_about_2 bp_7 ?_
  refine r_callSI C [.int x1, .int (0 : Int32), .int (7 : Int32)] (fun qq ss hh => ct_X11_within x1 (0 : Int32) (7 : Int32) s0 qq ss hh) kw_346 kw_347 kw_51 kw_348 dX11_about_4 rfl dd_X11_within ⟨rfl, rfl⟩ ⟨by decide, by decide⟩ (Nat.le_of_ble_eq_true rfl) _ rfl (fun q1 s2 => ?_)
  refine sm_if_eq C 19 dX11_about_7 (by decide) ?_ ?_
  · refine sm_aload_n C 0 dX11_about_19 rfl ?_
    refine r_callVI C (R := RX11) (T := TX11) (N := 12) [] (G_N G) rfl (fun qq ss hh => ct_X11_bad G s2 qq ss hh) kw_349 kw_351 kw_0 kw_51 kw_352 dX11_about_20 rfl dd_X11_bad ⟨rfl, rfl⟩ ⟨by decide, by decide⟩ (Nat.le_of_ble_eq_true rfl) _ rfl (fun q3 s4 => ?_)
    refine sm_pop C dX11_about_23 rfl ?_
    refine sm_bipush C (-10 : Int32) dX11_about_24 bp_m10 ?_
    exact sm_iret C dX11_about_26
  · refine sm_iload_n C 2 dX11_about_10 rfl ?_
    refine sm_iconst C (0 : Int32) dX11_about_11 ic_0 ?_
    refine sm_iconst C (1 : Int32) dX11_about_12 ic_1 ?_
    refine r_callSI C [.int x2, .int (0 : Int32), .int (1 : Int32)] (fun qq ss hh => ct_X11_within x2 (0 : Int32) (1 : Int32) s2 qq ss hh) kw_346 kw_347 kw_51 kw_348 dX11_about_13 rfl dd_X11_within ⟨rfl, rfl⟩ ⟨by decide, by decide⟩ (Nat.le_of_ble_eq_true rfl) _ rfl (fun q5 s6 => ?_)
    refine sm_if_ne C 27 dX11_about_16 (by decide) ?_ ?_
    · refine sm_iload_n C 2 dX11_about_27 rfl ?_
      refine sm_if_ne C 43 dX11_about_28 (by decide) ?_ ?_
      · refine sm_aload_n C 0 dX11_about_43 rfl ?_
        refine sm_getR C (ci := 11) (R := RX11) (T := TX11) (N := 12) (j := 0) (G_N G).2 (G_N G).1 rfl gX11 (by decide) kw_300 dX11_about_44 (fun _ _ => rfl) ?_
        refine sm_getRN C (ci := 10) (R := RX10) (T := TX10) (N := 13) (j := 1) (V_O (G_now G)).2 (V_O (G_now G)).1 rfl gX10 (by decide) nf_6 dX11_about_47 (fun _ _ => rfl) ?_
        refine sm_iload_n C 1 dX11_about_50 rfl ?_
        refine r_iald C (V_worths (G_now G)) dX11_about_51 (fun v7 => ?_)
        exact sm_iret C dX11_about_52
      · refine sm_aload_n C 0 dX11_about_31 rfl ?_
        refine sm_getR C (ci := 11) (R := RX11) (T := TX11) (N := 12) (j := 0) (G_N G).2 (G_N G).1 rfl gX11 (by decide) kw_300 dX11_about_32 (fun _ _ => rfl) ?_
        refine sm_getRN C (ci := 10) (R := RX10) (T := TX10) (N := 13) (j := 0) (V_O (G_now G)).2 (V_O (G_now G)).1 rfl gX10 (by decide) nf_5 dX11_about_35 (fun _ _ => rfl) ?_
        refine sm_iload_n C 1 dX11_about_38 rfl ?_
        refine r_iald C (V_sorts (G_now G)) dX11_about_39 (fun v8 => ?_)
        refine sm_goto C 52 dX11_about_40 (by decide) ?_
        exact sm_iret C dX11_about_52
    · refine sm_aload_n C 0 dX11_about_19 rfl ?_
      refine r_callVI C (R := RX11) (T := TX11) (N := 12) [] (G_N G) rfl (fun qq ss hh => ct_X11_bad G s6 qq ss hh) kw_349 kw_351 kw_0 kw_51 kw_352 dX11_about_20 rfl dd_X11_bad ⟨rfl, rfl⟩ ⟨by decide, by decide⟩ (Nat.le_of_ble_eq_true rfl) _ rfl (fun q9 s10 => ?_)
      refine sm_pop C dX11_about_23 rfl ?_
      refine sm_bipush C (-10 : Int32) dX11_about_24 bp_m10 ?_
      exact sm_iret C dX11_about_26
theorem dd_X11_good : yX11_good.cls = RX11 ∧ yX11_good.cls ≠ "java/lang/invoke/MethodHandle" ∧ yX11_good.cls ≠ "java/lang/invoke/VarHandle" ∧ (parseMethodDescriptor yX11_good.desc).map (fun d => d.parameters.length) = some 3 := by decide +kernel
set_option maxRecDepth 100000 in
set_option maxHeartbeats 4000000 in
theorem ct_X11_good {l : Launch} {w : Wco} (G : GW w) (x1 : Int32) (x2 : Int32) (x3 : Int32) (s0 : Sta) (qq : Int32) (ss : Sta) (hh : X11_good x1 x2 x3 s0 = some (qq, ss)) : Ct l w yX11_good (Cond.code yX11_good cX11_good 4 (some .int) :: GT) { frames := 4, cells := 0, slots := 0, locals := 113 } [.ref (wad w 0), .int x1, .int x2, .int x3] s0 (oI qq) ss := by
  refine ct_of [(0, .ref (wad w 0)), (1, .int x1), (2, .int x2), (3, .int x3)] (by decide +kernel) (Nat.le_of_ble_eq_true rfl) rfl hh (fun M _ C => ?_)
  unfold X11_good
  refine sm_aload_n C 0 dX11_good_0 rfl ?_
  refine sm_iload_n C 1 dX11_good_1 rfl ?_
  refine r_callVI C (R := RX11) (T := TX11) (N := 12) [.int x1] (G_N G) rfl (fun qq ss hh => ct_X11_isOne G x1 s0 qq ss hh) kw_594 kw_596 kw_10 kw_51 kw_597 dX11_good_2 rfl dd_X11_isOne ⟨rfl, rfl⟩ ⟨by decide, by decide⟩ (Nat.le_of_ble_eq_true rfl) _ rfl (fun q1 s2 => ?_)
  refine sm_if_eq C 27 dX11_good_5 (by decide) ?_ ?_
  · refine sm_aload_n C 0 dX11_good_27 rfl ?_
    refine r_callVI C (R := RX11) (T := TX11) (N := 12) [] (G_N G) rfl (fun qq ss hh => ct_X11_bad G s2 qq ss hh) kw_349 kw_351 kw_0 kw_51 kw_352 dX11_good_28 rfl dd_X11_bad ⟨rfl, rfl⟩ ⟨by decide, by decide⟩ (Nat.le_of_ble_eq_true rfl) _ rfl (fun q3 s4 => ?_)
    exact sm_iret C dX11_good_31
  · refine sm_iload_n C 2 dX11_good_8 rfl ?_
    refine sm_iconst C (0 : Int32) dX11_good_9 ic_0 ?_
    refine sm_iconst C (2 : Int32) dX11_good_10 ic_2 ?_
    refine r_callSI C [.int x2, .int (0 : Int32), .int (2 : Int32)] (fun qq ss hh => ct_X11_within x2 (0 : Int32) (2 : Int32) s2 qq ss hh) kw_346 kw_347 kw_51 kw_348 dX11_good_11 rfl dd_X11_within ⟨rfl, rfl⟩ ⟨by decide, by decide⟩ (Nat.le_of_ble_eq_true rfl) _ rfl (fun q5 s6 => ?_)
    refine sm_if_eq C 27 dX11_good_14 (by decide) ?_ ?_
    · refine sm_aload_n C 0 dX11_good_27 rfl ?_
      refine r_callVI C (R := RX11) (T := TX11) (N := 12) [] (G_N G) rfl (fun qq ss hh => ct_X11_bad G s6 qq ss hh) kw_349 kw_351 kw_0 kw_51 kw_352 dX11_good_28 rfl dd_X11_bad ⟨rfl, rfl⟩ ⟨by decide, by decide⟩ (Nat.le_of_ble_eq_true rfl) _ rfl (fun q7 s8 => ?_)
      exact sm_iret C dX11_good_31
    · refine sm_iload_n C 3 dX11_good_17 rfl ?_
      refine sm_iconst C (0 : Int32) dX11_good_18 ic_0 ?_
      refine sm_bipush C (7 : Int32) dX11_good_19 bp_7 ?_
      refine r_callSI C [.int x3, .int (0 : Int32), .int (7 : Int32)] (fun qq ss hh => ct_X11_within x3 (0 : Int32) (7 : Int32) s6 qq ss hh) kw_346 kw_347 kw_51 kw_348 dX11_good_21 rfl dd_X11_within ⟨rfl, rfl⟩ ⟨by decide, by decide⟩ (Nat.le_of_ble_eq_true rfl) _ rfl (fun q9 s10 => ?_)
      refine sm_if_ne C 32 dX11_good_24 (by decide) ?_ ?_
      · refine sm_aload_n C 0 dX11_good_32 rfl ?_
        refine sm_getR C (ci := 11) (R := RX11) (T := TX11) (N := 12) (j := 4) (G_N G).2 (G_N G).1 rfl gX11 (by decide) kw_304 dX11_good_33 (fun _ _ => rfl) ?_
        refine sm_aload_n C 0 dX11_good_36 rfl ?_
        refine sm_getR C (ci := 11) (R := RX11) (T := TX11) (N := 12) (j := 0) (G_N G).2 (G_N G).1 rfl gX11 (by decide) kw_300 dX11_good_37 (fun _ _ => rfl) ?_
        refine sm_getRN C (ci := 10) (R := RX10) (T := TX10) (N := 13) (j := 2) (V_O (G_now G)).2 (V_O (G_now G)).1 rfl gX10 (by decide) nf_10 dX11_good_40 (fun _ _ => rfl) ?_
        refine sm_iload_n C 1 dX11_good_43 rfl ?_
        refine r_iald C (V_kinds (G_now G)) dX11_good_44 (fun v11 => ?_)
        refine sm_aload_n C 0 dX11_good_45 rfl ?_
        refine sm_getR C (ci := 11) (R := RX11) (T := TX11) (N := 12) (j := 0) (G_N G).2 (G_N G).1 rfl gX11 (by decide) kw_300 dX11_good_46 (fun _ _ => rfl) ?_
        refine sm_getRN C (ci := 10) (R := RX10) (T := TX10) (N := 13) (j := 3) (V_O (G_now G)).2 (V_O (G_now G)).1 rfl gX10 (by decide) nf_12 dX11_good_49 (fun _ _ => rfl) ?_
        refine sm_iload_n C 1 dX11_good_52 rfl ?_
        refine sm_iconst C (3 : Int32) dX11_good_53 ic_3 ?_
        refine sm_imul C dX11_good_54 ?_
        refine sm_iload_n C 2 dX11_good_55 rfl ?_
        refine sm_iadd C dX11_good_56 ?_
        refine r_iald C (V_arts (G_now G)) dX11_good_57 (fun v12 => ?_)
        refine sm_iload_n C 3 dX11_good_58 rfl ?_
        refine r_callVI C (R := RX0) (T := TX0) (N := 5) [.int v11, .int v12, .int x3] (C_O (G_con G)) rfl (fun qq ss hh => ct_X0_skillBy 55 (G_con G) v11 v12 x3 s10 qq ss hh) kw_607 kw_608 kw_609 kw_55 kw_610 dX11_good_59 rfl dd_X0_skillBy ⟨rfl, rfl⟩ ⟨by decide, by decide⟩ (Nat.le_of_ble_eq_true rfl) _ rfl (fun q13 s14 => ?_)
        exact sm_iret C dX11_good_62
      · refine sm_aload_n C 0 dX11_good_27 rfl ?_
        refine r_callVI C (R := RX11) (T := TX11) (N := 12) [] (G_N G) rfl (fun qq ss hh => ct_X11_bad G s10 qq ss hh) kw_349 kw_351 kw_0 kw_51 kw_352 dX11_good_28 rfl dd_X11_bad ⟨rfl, rfl⟩ ⟨by decide, by decide⟩ (Nat.le_of_ble_eq_true rfl) _ rfl (fun q15 s16 => ?_)
        exact sm_iret C dX11_good_31
theorem dd_X11_isToCome : yX11_isToCome.cls = RX11 ∧ yX11_isToCome.cls ≠ "java/lang/invoke/MethodHandle" ∧ yX11_isToCome.cls ≠ "java/lang/invoke/VarHandle" ∧ (parseMethodDescriptor yX11_isToCome.desc).map (fun d => d.parameters.length) = some 1 := by decide +kernel
set_option maxRecDepth 100000 in
set_option maxHeartbeats 4000000 in
theorem ct_X11_isToCome {l : Launch} {w : Wco} (G : GW w) (x1 : Int32) (s0 : Sta) (qq : Int32) (ss : Sta) (hh : X11_isToCome x1 s0 = some (qq, ss)) : Ct l w yX11_isToCome (Cond.code yX11_isToCome cX11_isToCome 2 (some .boolean) :: GT) { frames := 1, cells := 0, slots := 0, locals := 22 } [.ref (wad w 0), .int x1] s0 (oI qq) ss := by
  refine ct_of [(0, .ref (wad w 0)), (1, .int x1)] (by decide +kernel) (Nat.le_of_ble_eq_true rfl) rfl hh (fun M _ C => ?_)
  unfold X11_isToCome
  refine sm_iload_n C 1 dX11_isToCome_0 rfl ?_
  refine sm_aload_n C 0 dX11_isToCome_1 rfl ?_
  refine sm_getR C (ci := 11) (R := RX11) (T := TX11) (N := 12) (j := 0) (G_N G).2 (G_N G).1 rfl gX11 (by decide) kw_300 dX11_isToCome_2 (fun _ _ => rfl) ?_
  refine sm_getIN C (ci := 10) (R := RX10) (T := TX10) (N := 13) (j := 11) (V_O (G_now G)).2 (V_O (G_now G)).1 rfl gX10 (by decide) nf_25 dX11_isToCome_5 (fun _ _ => rfl) (fun v1 => ?_)
  refine sm_bipush C (7 : Int32) dX11_isToCome_8 bp_7 ?_
  refine r_callSI C [.int x1, .int v1, .int (7 : Int32)] (fun qq ss hh => ct_X11_within x1 v1 (7 : Int32) s0 qq ss hh) kw_346 kw_347 kw_51 kw_348 dX11_isToCome_10 rfl dd_X11_within ⟨rfl, rfl⟩ ⟨by decide, by decide⟩ (Nat.le_of_ble_eq_true rfl) _ rfl (fun q2 s3 => ?_)
  exact sm_zret C dX11_isToCome_13
theorem dd_X11_enter : yX11_enter.cls = RX11 ∧ yX11_enter.cls ≠ "java/lang/invoke/MethodHandle" ∧ yX11_enter.cls ≠ "java/lang/invoke/VarHandle" ∧ (parseMethodDescriptor yX11_enter.desc).map (fun d => d.parameters.length) = some 1 := by decide +kernel
set_option maxRecDepth 100000 in
set_option maxHeartbeats 4000000 in
theorem ct_X11_enter {l : Launch} {w : Wco} (G : GW w) (x1 : Int32) (s0 : Sta) (qq : Int32) (ss : Sta) (hh : X11_enter x1 s0 = some (qq, ss)) : Ct l w yX11_enter (Cond.code yX11_enter cX11_enter 2 (some .int) :: GT) { frames := 8, cells := 0, slots := 0, locals := 209 } [.ref (wad w 0), .int x1] s0 (oI qq) ss := by
  refine ct_of [(0, .ref (wad w 0)), (1, .int x1)] (by decide +kernel) (Nat.le_of_ble_eq_true rfl) rfl hh (fun M _ C => ?_)
  unfold X11_enter
  refine sm_aload_n C 0 dX11_enter_0 rfl ?_
  refine sm_iload_n C 1 dX11_enter_1 rfl ?_
  refine r_callVI C (R := RX11) (T := TX11) (N := 12) [.int x1] (G_N G) rfl (fun qq ss hh => ct_X11_isToCome G x1 s0 qq ss hh) kw_615 kw_617 kw_11 kw_51 kw_618 dX11_enter_2 rfl dd_X11_isToCome ⟨rfl, rfl⟩ ⟨by decide, by decide⟩ (Nat.le_of_ble_eq_true rfl) _ rfl (fun q1 s2 => ?_)
  refine sm_if_ne C 13 dX11_enter_5 (by decide) ?_ ?_
  · refine sm_aload_n C 0 dX11_enter_13 rfl ?_
    refine sm_getR C (ci := 11) (R := RX11) (T := TX11) (N := 12) (j := 5) (G_N G).2 (G_N G).1 rfl gX11 (by decide) kw_305 dX11_enter_14 (fun _ _ => rfl) ?_
    refine sm_aload_n C 0 dX11_enter_17 rfl ?_
    refine sm_getR C (ci := 11) (R := RX11) (T := TX11) (N := 12) (j := 0) (G_N G).2 (G_N G).1 rfl gX11 (by decide) kw_300 dX11_enter_18 (fun _ _ => rfl) ?_
    refine sm_iload_n C 1 dX11_enter_21 rfl ?_
    refine r_callVU C (R := RX2) (T := TX2) (N := 4) [.ref (wad w 1), .int x1] (G_F G) rfl (fun qq ss hh => ct_X2_contestOf 1 G (G_now G) x1 s2 qq ss hh) kw_619 kw_620 kw_621 kw_62 kw_622 dX11_enter_22 rfl dd_X2_contestOf ⟨rfl, rfl⟩ ⟨by decide, by decide⟩ (Nat.le_of_ble_eq_true rfl) _ rfl (fun q3 s4 => ?_)
    refine sm_aload_n C 0 dX11_enter_25 rfl ?_
    refine sm_getR C (ci := 11) (R := RX11) (T := TX11) (N := 12) (j := 4) (G_N G).2 (G_N G).1 rfl gX11 (by decide) kw_304 dX11_enter_26 (fun _ _ => rfl) ?_
    refine sm_getIN C (ci := 0) (R := RX0) (T := TX0) (N := 5) (j := 2) (C_O (G_con G)).2 (C_O (G_con G)).1 rfl gX0 (by decide) nf_28 dX11_enter_29 (fun _ _ => rfl) (fun v5 => ?_)
    exact sm_iret C dX11_enter_32
  · refine sm_aload_n C 0 dX11_enter_8 rfl ?_
    refine r_callVI C (R := RX11) (T := TX11) (N := 12) [] (G_N G) rfl (fun qq ss hh => ct_X11_bad G s2 qq ss hh) kw_349 kw_351 kw_0 kw_51 kw_352 dX11_enter_9 rfl dd_X11_bad ⟨rfl, rfl⟩ ⟨by decide, by decide⟩ (Nat.le_of_ble_eq_true rfl) _ rfl (fun q6 s7 => ?_)
    exact sm_iret C dX11_enter_12
theorem dd_X11_winner : yX11_winner.cls = RX11 ∧ yX11_winner.cls ≠ "java/lang/invoke/MethodHandle" ∧ yX11_winner.cls ≠ "java/lang/invoke/VarHandle" ∧ (parseMethodDescriptor yX11_winner.desc).map (fun d => d.parameters.length) = some 2 := by decide +kernel
set_option maxRecDepth 100000 in
set_option maxHeartbeats 4000000 in
theorem ct_X11_winner {l : Launch} {w : Wco} (G : GW w) (x1 : Int32) (x2 : Int32) (s0 : Sta) (qq : Int32) (ss : Sta) (hh : X11_winner x1 x2 s0 = some (qq, ss)) : Ct l w yX11_winner (Cond.code yX11_winner cX11_winner 3 (some .int) :: GT) { frames := 8, cells := 0, slots := 0, locals := 209 } [.ref (wad w 0), .int x1, .int x2] s0 (oI qq) ss := by
  refine ct_of [(0, .ref (wad w 0)), (1, .int x1), (2, .int x2)] (by decide +kernel) (Nat.le_of_ble_eq_true rfl) rfl hh (fun M _ C => ?_)
  unfold X11_winner
  refine sm_aload_n C 0 dX11_winner_0 rfl ?_
  refine sm_iload_n C 1 dX11_winner_1 rfl ?_
  refine r_callVI C (R := RX11) (T := TX11) (N := 12) [.int x1] (G_N G) rfl (fun qq ss hh => ct_X11_isToCome G x1 s0 qq ss hh) kw_615 kw_617 kw_11 kw_51 kw_618 dX11_winner_2 rfl dd_X11_isToCome ⟨rfl, rfl⟩ ⟨by decide, by decide⟩ (Nat.le_of_ble_eq_true rfl) _ rfl (fun q1 s2 => ?_)
  refine sm_if_eq C 17 dX11_winner_5 (by decide) ?_ ?_
  · refine sm_aload_n C 0 dX11_winner_17 rfl ?_
    refine r_callVI C (R := RX11) (T := TX11) (N := 12) [] (G_N G) rfl (fun qq ss hh => ct_X11_bad G s2 qq ss hh) kw_349 kw_351 kw_0 kw_51 kw_352 dX11_winner_18 rfl dd_X11_bad ⟨rfl, rfl⟩ ⟨by decide, by decide⟩ (Nat.le_of_ble_eq_true rfl) _ rfl (fun q3 s4 => ?_)
    exact sm_iret C dX11_winner_21
  · refine sm_iload_n C 2 dX11_winner_8 rfl ?_
    refine sm_iconst C (0 : Int32) dX11_winner_9 ic_0 ?_
    refine sm_iconst C (1 : Int32) dX11_winner_10 ic_1 ?_
    refine r_callSI C [.int x2, .int (0 : Int32), .int (1 : Int32)] (fun qq ss hh => ct_X11_within x2 (0 : Int32) (1 : Int32) s2 qq ss hh) kw_346 kw_347 kw_51 kw_348 dX11_winner_11 rfl dd_X11_within ⟨rfl, rfl⟩ ⟨by decide, by decide⟩ (Nat.le_of_ble_eq_true rfl) _ rfl (fun q5 s6 => ?_)
    refine sm_if_ne C 22 dX11_winner_14 (by decide) ?_ ?_
    · refine sm_aload_n C 0 dX11_winner_22 rfl ?_
      refine sm_getR C (ci := 11) (R := RX11) (T := TX11) (N := 12) (j := 5) (G_N G).2 (G_N G).1 rfl gX11 (by decide) kw_305 dX11_winner_23 (fun _ _ => rfl) ?_
      refine sm_aload_n C 0 dX11_winner_26 rfl ?_
      refine sm_getR C (ci := 11) (R := RX11) (T := TX11) (N := 12) (j := 0) (G_N G).2 (G_N G).1 rfl gX11 (by decide) kw_300 dX11_winner_27 (fun _ _ => rfl) ?_
      refine sm_iload_n C 1 dX11_winner_30 rfl ?_
      refine r_callVU C (R := RX2) (T := TX2) (N := 4) [.ref (wad w 1), .int x1] (G_F G) rfl (fun qq ss hh => ct_X2_contestOf 1 G (G_now G) x1 s6 qq ss hh) kw_619 kw_620 kw_621 kw_62 kw_622 dX11_winner_31 rfl dd_X2_contestOf ⟨rfl, rfl⟩ ⟨by decide, by decide⟩ (Nat.le_of_ble_eq_true rfl) _ rfl (fun q7 s8 => ?_)
      refine sm_iload_n C 2 dX11_winner_34 rfl ?_
      refine sm_if_ne C 48 dX11_winner_35 (by decide) ?_ ?_
      · refine sm_aload_n C 0 dX11_winner_48 rfl ?_
        refine sm_getR C (ci := 11) (R := RX11) (T := TX11) (N := 12) (j := 4) (G_N G).2 (G_N G).1 rfl gX11 (by decide) kw_304 dX11_winner_49 (fun _ _ => rfl) ?_
        refine sm_getIN C (ci := 0) (R := RX0) (T := TX0) (N := 5) (j := 4) (C_O (G_con G)).2 (C_O (G_con G)).1 rfl gX0 (by decide) nf_32 dX11_winner_52 (fun _ _ => rfl) (fun v9 => ?_)
        exact sm_iret C dX11_winner_55
      · refine sm_aload_n C 0 dX11_winner_38 rfl ?_
        refine sm_getR C (ci := 11) (R := RX11) (T := TX11) (N := 12) (j := 4) (G_N G).2 (G_N G).1 rfl gX11 (by decide) kw_304 dX11_winner_39 (fun _ _ => rfl) ?_
        refine sm_getIN C (ci := 0) (R := RX0) (T := TX0) (N := 5) (j := 3) (C_O (G_con G)).2 (C_O (G_con G)).1 rfl gX0 (by decide) nf_30 dX11_winner_42 (fun _ _ => rfl) (fun v10 => ?_)
        refine sm_goto C 55 dX11_winner_45 (by decide) ?_
        exact sm_iret C dX11_winner_55
    · refine sm_aload_n C 0 dX11_winner_17 rfl ?_
      refine r_callVI C (R := RX11) (T := TX11) (N := 12) [] (G_N G) rfl (fun qq ss hh => ct_X11_bad G s6 qq ss hh) kw_349 kw_351 kw_0 kw_51 kw_352 dX11_winner_18 rfl dd_X11_bad ⟨rfl, rfl⟩ ⟨by decide, by decide⟩ (Nat.le_of_ble_eq_true rfl) _ rfl (fun q11 s12 => ?_)
      exact sm_iret C dX11_winner_21
theorem dd_X11_end : yX11_end.cls = RX11 ∧ yX11_end.cls ≠ "java/lang/invoke/MethodHandle" ∧ yX11_end.cls ≠ "java/lang/invoke/VarHandle" ∧ (parseMethodDescriptor yX11_end.desc).map (fun d => d.parameters.length) = some 2 := by decide +kernel
set_option maxRecDepth 100000 in
set_option maxHeartbeats 4000000 in
theorem ct_X11_end {l : Launch} {w : Wco} (G : GW w) (x1 : Int32) (x2 : Int32) (s0 : Sta) (qq : Int32) (ss : Sta) (hh : X11_end x1 x2 s0 = some (qq, ss)) : Ct l w yX11_end (Cond.code yX11_end cX11_end 3 (some .int) :: GT) { frames := 7, cells := 0, slots := 0, locals := 187 } [.ref (wad w 0), .int x1, .int x2] s0 (oI qq) ss := by
  refine ct_of [(0, .ref (wad w 0)), (1, .int x1), (2, .int x2)] (by decide +kernel) (Nat.le_of_ble_eq_true rfl) rfl hh (fun M _ C => ?_)
  unfold X11_end
  refine sm_aload_n C 0 dX11_end_0 rfl ?_
  refine sm_iload_n C 1 dX11_end_1 rfl ?_
  refine r_callVI C (R := RX11) (T := TX11) (N := 12) [.int x1] (G_N G) rfl (fun qq ss hh => ct_X11_isOne G x1 s0 qq ss hh) kw_594 kw_596 kw_10 kw_51 kw_597 dX11_end_2 rfl dd_X11_isOne ⟨rfl, rfl⟩ ⟨by decide, by decide⟩ (Nat.le_of_ble_eq_true rfl) _ rfl (fun q1 s2 => ?_)
  refine sm_if_eq C 17 dX11_end_5 (by decide) ?_ ?_
  · refine sm_aload_n C 0 dX11_end_17 rfl ?_
    refine r_callVI C (R := RX11) (T := TX11) (N := 12) [] (G_N G) rfl (fun qq ss hh => ct_X11_bad G s2 qq ss hh) kw_349 kw_351 kw_0 kw_51 kw_352 dX11_end_18 rfl dd_X11_bad ⟨rfl, rfl⟩ ⟨by decide, by decide⟩ (Nat.le_of_ble_eq_true rfl) _ rfl (fun q3 s4 => ?_)
    exact sm_iret C dX11_end_21
  · refine sm_iload_n C 2 dX11_end_8 rfl ?_
    refine sm_iconst C (0 : Int32) dX11_end_9 ic_0 ?_
    refine sm_iconst C (1 : Int32) dX11_end_10 ic_1 ?_
    refine r_callSI C [.int x2, .int (0 : Int32), .int (1 : Int32)] (fun qq ss hh => ct_X11_within x2 (0 : Int32) (1 : Int32) s2 qq ss hh) kw_346 kw_347 kw_51 kw_348 dX11_end_11 rfl dd_X11_within ⟨rfl, rfl⟩ ⟨by decide, by decide⟩ (Nat.le_of_ble_eq_true rfl) _ rfl (fun q5 s6 => ?_)
    refine sm_if_ne C 22 dX11_end_14 (by decide) ?_ ?_
    · refine sm_aload_n C 0 dX11_end_22 rfl ?_
      refine sm_getR C (ci := 11) (R := RX11) (T := TX11) (N := 12) (j := 5) (G_N G).2 (G_N G).1 rfl gX11 (by decide) kw_305 dX11_end_23 (fun _ _ => rfl) ?_
      refine sm_aload_n C 0 dX11_end_26 rfl ?_
      refine sm_getR C (ci := 11) (R := RX11) (T := TX11) (N := 12) (j := 0) (G_N G).2 (G_N G).1 rfl gX11 (by decide) kw_300 dX11_end_27 (fun _ _ => rfl) ?_
      refine r_callVU C (R := RX2) (T := TX2) (N := 4) [.ref (wad w 1)] (G_F G) rfl (fun qq ss hh => ct_X2_begin 1 G (G_now G) s6 qq ss hh) kw_643 kw_624 kw_625 kw_62 kw_626 dX11_end_30 rfl dd_X2_begin ⟨rfl, rfl⟩ ⟨by decide, by decide⟩ (Nat.le_of_ble_eq_true rfl) _ rfl (fun q7 s8 => ?_)
      refine sm_aload_n C 0 dX11_end_33 rfl ?_
      refine sm_getR C (ci := 11) (R := RX11) (T := TX11) (N := 12) (j := 5) (G_N G).2 (G_N G).1 rfl gX11 (by decide) kw_305 dX11_end_34 (fun _ _ => rfl) ?_
      refine sm_bipush C (8 : Int32) dX11_end_37 bp_8 ?_
      refine r_callVU C (R := RX2) (T := TX2) (N := 4) [.int (8 : Int32)] (G_F G) rfl (fun qq ss hh => ct_X2_runTo G (8 : Int32) s8 qq ss hh) kw_644 kw_630 kw_631 kw_62 kw_632 dX11_end_39 rfl dd_X2_runTo ⟨rfl, rfl⟩ ⟨by decide, by decide⟩ (Nat.le_of_ble_eq_true rfl) _ rfl (fun q9 s10 => ?_)
      refine sm_iload_n C 2 dX11_end_42 rfl ?_
      refine sm_if_ne C 60 dX11_end_43 (by decide) ?_ ?_
      · refine sm_aload_n C 0 dX11_end_60 rfl ?_
        refine sm_getR C (ci := 11) (R := RX11) (T := TX11) (N := 12) (j := 5) (G_N G).2 (G_N G).1 rfl gX11 (by decide) kw_305 dX11_end_61 (fun _ _ => rfl) ?_
        refine sm_getRN C (ci := 2) (R := RX2) (T := TX2) (N := 4) (j := 1) (G_F G).2 (G_F G).1 rfl gX2 (by decide) nf_33 dX11_end_64 (fun _ _ => rfl) ?_
        refine sm_getRN C (ci := 10) (R := RX10) (T := TX10) (N := 13) (j := 5) (V_O (G_trial G)).2 (V_O (G_trial G)).1 rfl gX10 (by decide) nf_16 dX11_end_67 (fun _ _ => rfl) ?_
        refine sm_iload_n C 1 dX11_end_70 rfl ?_
        refine r_iald C (V_seconds (G_trial G)) dX11_end_71 (fun v11 => ?_)
        exact sm_iret C dX11_end_72
      · refine sm_aload_n C 0 dX11_end_46 rfl ?_
        refine sm_getR C (ci := 11) (R := RX11) (T := TX11) (N := 12) (j := 5) (G_N G).2 (G_N G).1 rfl gX11 (by decide) kw_305 dX11_end_47 (fun _ _ => rfl) ?_
        refine sm_getRN C (ci := 2) (R := RX2) (T := TX2) (N := 4) (j := 1) (G_F G).2 (G_F G).1 rfl gX2 (by decide) nf_33 dX11_end_50 (fun _ _ => rfl) ?_
        refine sm_iload_n C 1 dX11_end_53 rfl ?_
        refine r_callVI C (R := RX10) (T := TX10) (N := 13) [.int x1] (V_O (G_trial G)) rfl (fun qq ss hh => ct_X10_worthWonBy 65 (G_trial G) x1 s10 qq ss hh) kw_645 kw_646 kw_647 kw_52 kw_648 dX11_end_54 rfl dd_X10_worthWonBy ⟨rfl, rfl⟩ ⟨by decide, by decide⟩ (Nat.le_of_ble_eq_true rfl) _ rfl (fun q12 s13 => ?_)
        refine sm_goto C 72 dX11_end_57 (by decide) ?_
        exact sm_iret C dX11_end_72
    · refine sm_aload_n C 0 dX11_end_17 rfl ?_
      refine r_callVI C (R := RX11) (T := TX11) (N := 12) [] (G_N G) rfl (fun qq ss hh => ct_X11_bad G s6 qq ss hh) kw_349 kw_351 kw_0 kw_51 kw_352 dX11_end_18 rfl dd_X11_bad ⟨rfl, rfl⟩ ⟨by decide, by decide⟩ (Nat.le_of_ble_eq_true rfl) _ rfl (fun q14 s15 => ?_)
      exact sm_iret C dX11_end_21
theorem dd_X11_left : yX11_left.cls = RX11 ∧ yX11_left.cls ≠ "java/lang/invoke/MethodHandle" ∧ yX11_left.cls ≠ "java/lang/invoke/VarHandle" ∧ (parseMethodDescriptor yX11_left.desc).map (fun d => d.parameters.length) = some 0 := by decide +kernel
set_option maxRecDepth 100000 in
set_option maxHeartbeats 4000000 in
theorem ct_X11_left {l : Launch} {w : Wco} (G : GW w) (s0 : Sta) (qq : Int32) (ss : Sta) (hh : X11_left s0 = some (qq, ss)) : Ct l w yX11_left (Cond.code yX11_left cX11_left 1 (some .int) :: GT) { frames := 8, cells := 0, slots := 0, locals := 211 } [.ref (wad w 0)] s0 (oI qq) ss := by
  refine ct_of [(0, .ref (wad w 0))] (by decide +kernel) (Nat.le_of_ble_eq_true rfl) rfl hh (fun M _ C => ?_)
  unfold X11_left
  refine sm_aload_n C 0 dX11_left_0 rfl ?_
  refine sm_getR C (ci := 11) (R := RX11) (T := TX11) (N := 12) (j := 5) (G_N G).2 (G_N G).1 rfl gX11 (by decide) kw_305 dX11_left_1 (fun _ _ => rfl) ?_
  refine sm_aload_n C 0 dX11_left_4 rfl ?_
  refine sm_getR C (ci := 11) (R := RX11) (T := TX11) (N := 12) (j := 0) (G_N G).2 (G_N G).1 rfl gX11 (by decide) kw_300 dX11_left_5 (fun _ _ => rfl) ?_
  refine r_callVI C (R := RX2) (T := TX2) (N := 4) [.ref (wad w 1)] (G_F G) rfl (fun qq ss hh => ct_X2_untaken 1 G (G_now G) s0 qq ss hh) kw_657 kw_658 kw_659 kw_62 kw_660 dX11_left_8 rfl dd_X2_untaken ⟨rfl, rfl⟩ ⟨by decide, by decide⟩ (Nat.le_of_ble_eq_true rfl) _ rfl (fun q1 s2 => ?_)
  exact sm_iret C dX11_left_11
theorem dd_X11_best : yX11_best.cls = RX11 ∧ yX11_best.cls ≠ "java/lang/invoke/MethodHandle" ∧ yX11_best.cls ≠ "java/lang/invoke/VarHandle" ∧ (parseMethodDescriptor yX11_best.desc).map (fun d => d.parameters.length) = some 2 := by decide +kernel
set_option maxRecDepth 100000 in
set_option maxHeartbeats 4000000 in
theorem ct_X11_best {l : Launch} {w : Wco} (G : GW w) (x1 : Int32) (x2 : Int32) (s0 : Sta) (qq : Int32) (ss : Sta) (hh : X11_best x1 x2 s0 = some (qq, ss)) : Ct l w yX11_best (Cond.code yX11_best cX11_best 4 (some .int) :: GT) { frames := 8, cells := 0, slots := 0, locals := 212 } [.ref (wad w 0), .int x1, .int x2] s0 (oI qq) ss := by
  refine ct_of [(0, .ref (wad w 0)), (1, .int x1), (2, .int x2)] (by decide +kernel) (Nat.le_of_ble_eq_true rfl) rfl hh (fun M _ C => ?_)
  unfold X11_best
  refine sm_aload_n C 0 dX11_best_0 rfl ?_
  refine sm_iload_n C 1 dX11_best_1 rfl ?_
  refine r_callVI C (R := RX11) (T := TX11) (N := 12) [.int x1] (G_N G) rfl (fun qq ss hh => ct_X11_isOne G x1 s0 qq ss hh) kw_594 kw_596 kw_10 kw_51 kw_597 dX11_best_2 rfl dd_X11_isOne ⟨rfl, rfl⟩ ⟨by decide, by decide⟩ (Nat.le_of_ble_eq_true rfl) _ rfl (fun q1 s2 => ?_)
  refine sm_if_eq C 17 dX11_best_5 (by decide) ?_ ?_
  · refine sm_aload_n C 0 dX11_best_17 rfl ?_
    refine r_callVI C (R := RX11) (T := TX11) (N := 12) [] (G_N G) rfl (fun qq ss hh => ct_X11_bad G s2 qq ss hh) kw_349 kw_351 kw_0 kw_51 kw_352 dX11_best_18 rfl dd_X11_bad ⟨rfl, rfl⟩ ⟨by decide, by decide⟩ (Nat.le_of_ble_eq_true rfl) _ rfl (fun q3 s4 => ?_)
    exact sm_iret C dX11_best_21
  · refine sm_iload_n C 2 dX11_best_8 rfl ?_
    refine sm_iconst C (0 : Int32) dX11_best_9 ic_0 ?_
    refine sm_iconst C (1 : Int32) dX11_best_10 ic_1 ?_
    refine r_callSI C [.int x2, .int (0 : Int32), .int (1 : Int32)] (fun qq ss hh => ct_X11_within x2 (0 : Int32) (1 : Int32) s2 qq ss hh) kw_346 kw_347 kw_51 kw_348 dX11_best_11 rfl dd_X11_within ⟨rfl, rfl⟩ ⟨by decide, by decide⟩ (Nat.le_of_ble_eq_true rfl) _ rfl (fun q5 s6 => ?_)
    refine sm_if_ne C 22 dX11_best_14 (by decide) ?_ ?_
    · refine sm_aload_n C 0 dX11_best_22 rfl ?_
      refine sm_getR C (ci := 11) (R := RX11) (T := TX11) (N := 12) (j := 5) (G_N G).2 (G_N G).1 rfl gX11 (by decide) kw_305 dX11_best_23 (fun _ _ => rfl) ?_
      refine sm_aload_n C 0 dX11_best_26 rfl ?_
      refine sm_getR C (ci := 11) (R := RX11) (T := TX11) (N := 12) (j := 0) (G_N G).2 (G_N G).1 rfl gX11 (by decide) kw_300 dX11_best_27 (fun _ _ => rfl) ?_
      refine sm_iload_n C 1 dX11_best_30 rfl ?_
      refine r_callVI C (R := RX2) (T := TX2) (N := 4) [.ref (wad w 1), .int x1] (G_F G) rfl (fun qq ss hh => ct_X2_bestYear 1 G (G_now G) x1 s6 qq ss hh) kw_665 kw_666 kw_667 kw_62 kw_668 dX11_best_31 rfl dd_X2_bestYear ⟨rfl, rfl⟩ ⟨by decide, by decide⟩ (Nat.le_of_ble_eq_true rfl) _ rfl (fun q7 s8 => ?_)
      refine sm_istore_n C [(3, .int q7), (0, .ref (wad w 0)), (1, .int x1), (2, .int x2)] dX11_best_34 (by decide) rfl ?_
      refine sm_iload_n C 0 dX11_best_35 rfl ?_
      refine sm_iconst C (-1 : Int32) dX11_best_36 ic_m1 ?_
      refine sm_icmp_eq C 44 dX11_best_37 (by decide) ?_ ?_
      · refine sm_iload_n C 0 dX11_best_44 rfl ?_
        refine sm_goto C 57 dX11_best_45 (by decide) ?_
        exact sm_iret C dX11_best_57
      · refine sm_iload_n C 3 dX11_best_40 rfl ?_
        refine sm_if_ne C 48 dX11_best_41 (by decide) ?_ ?_
        · refine sm_aload_n C 1 dX11_best_48 rfl ?_
          refine sm_getR C (ci := 11) (R := RX11) (T := TX11) (N := 12) (j := 0) (G_N G).2 (G_N G).1 rfl gX11 (by decide) kw_300 dX11_best_49 (fun _ _ => rfl) ?_
          refine sm_getRN C (ci := 10) (R := RX10) (T := TX10) (N := 13) (j := 1) (V_O (G_now G)).2 (V_O (G_now G)).1 rfl gX10 (by decide) nf_6 dX11_best_52 (fun _ _ => rfl) ?_
          refine sm_iload_n C 0 dX11_best_55 rfl ?_
          refine r_iald C (V_worths (G_now G)) dX11_best_56 (fun v9 => ?_)
          exact sm_iret C dX11_best_57
        · refine sm_iload_n C 0 dX11_best_44 rfl ?_
          refine sm_goto C 57 dX11_best_45 (by decide) ?_
          exact sm_iret C dX11_best_57
    · refine sm_aload_n C 0 dX11_best_17 rfl ?_
      refine r_callVI C (R := RX11) (T := TX11) (N := 12) [] (G_N G) rfl (fun qq ss hh => ct_X11_bad G s6 qq ss hh) kw_349 kw_351 kw_0 kw_51 kw_352 dX11_best_18 rfl dd_X11_bad ⟨rfl, rfl⟩ ⟨by decide, by decide⟩ (Nat.le_of_ble_eq_true rfl) _ rfl (fun q10 s11 => ?_)
      exact sm_iret C dX11_best_21
theorem dd_X11_rivals : yX11_rivals.cls = RX11 ∧ yX11_rivals.cls ≠ "java/lang/invoke/MethodHandle" ∧ yX11_rivals.cls ≠ "java/lang/invoke/VarHandle" ∧ (parseMethodDescriptor yX11_rivals.desc).map (fun d => d.parameters.length) = some 3 := by decide +kernel
set_option maxRecDepth 100000 in
set_option maxHeartbeats 4000000 in
theorem ct_X11_rivals {l : Launch} {w : Wco} (G : GW w) (x1 : Int32) (x2 : Int32) (x3 : Int32) (s0 : Sta) (qq : Int32) (ss : Sta) (hh : X11_rivals x1 x2 x3 s0 = some (qq, ss)) : Ct l w yX11_rivals (Cond.code yX11_rivals cX11_rivals 4 (some .int) :: GT) { frames := 8, cells := 0, slots := 0, locals := 212 } [.ref (wad w 0), .int x1, .int x2, .int x3] s0 (oI qq) ss := by
  refine ct_of [(0, .ref (wad w 0)), (1, .int x1), (2, .int x2), (3, .int x3)] (by decide +kernel) (Nat.le_of_ble_eq_true rfl) rfl hh (fun M _ C => ?_)
  unfold X11_rivals
  refine sm_aload_n C 0 dX11_rivals_0 rfl ?_
  refine sm_iload_n C 1 dX11_rivals_1 rfl ?_
  refine r_callVI C (R := RX11) (T := TX11) (N := 12) [.int x1] (G_N G) rfl (fun qq ss hh => ct_X11_isOne G x1 s0 qq ss hh) kw_594 kw_596 kw_10 kw_51 kw_597 dX11_rivals_2 rfl dd_X11_isOne ⟨rfl, rfl⟩ ⟨by decide, by decide⟩ (Nat.le_of_ble_eq_true rfl) _ rfl (fun q1 s2 => ?_)
  refine sm_if_eq C 26 dX11_rivals_5 (by decide) ?_ ?_
  · refine sm_aload_n C 0 dX11_rivals_26 rfl ?_
    refine r_callVI C (R := RX11) (T := TX11) (N := 12) [] (G_N G) rfl (fun qq ss hh => ct_X11_bad G s2 qq ss hh) kw_349 kw_351 kw_0 kw_51 kw_352 dX11_rivals_27 rfl dd_X11_bad ⟨rfl, rfl⟩ ⟨by decide, by decide⟩ (Nat.le_of_ble_eq_true rfl) _ rfl (fun q3 s4 => ?_)
    refine sm_pop C dX11_rivals_30 rfl ?_
    refine sm_bipush C (-10 : Int32) dX11_rivals_31 bp_m10 ?_
    exact sm_iret C dX11_rivals_33
  · refine sm_aload_n C 0 dX11_rivals_8 rfl ?_
    refine sm_iload_n C 2 dX11_rivals_9 rfl ?_
    refine r_callVI C (R := RX11) (T := TX11) (N := 12) [.int x2] (G_N G) rfl (fun qq ss hh => ct_X11_isOne G x2 s2 qq ss hh) kw_594 kw_596 kw_10 kw_51 kw_597 dX11_rivals_10 rfl dd_X11_isOne ⟨rfl, rfl⟩ ⟨by decide, by decide⟩ (Nat.le_of_ble_eq_true rfl) _ rfl (fun q5 s6 => ?_)
    refine sm_if_eq C 26 dX11_rivals_13 (by decide) ?_ ?_
    · refine sm_aload_n C 0 dX11_rivals_26 rfl ?_
      refine r_callVI C (R := RX11) (T := TX11) (N := 12) [] (G_N G) rfl (fun qq ss hh => ct_X11_bad G s6 qq ss hh) kw_349 kw_351 kw_0 kw_51 kw_352 dX11_rivals_27 rfl dd_X11_bad ⟨rfl, rfl⟩ ⟨by decide, by decide⟩ (Nat.le_of_ble_eq_true rfl) _ rfl (fun q7 s8 => ?_)
      refine sm_pop C dX11_rivals_30 rfl ?_
      refine sm_bipush C (-10 : Int32) dX11_rivals_31 bp_m10 ?_
      exact sm_iret C dX11_rivals_33
    · refine sm_iload_n C 1 dX11_rivals_16 rfl ?_
      refine sm_iload_n C 2 dX11_rivals_17 rfl ?_
      refine sm_icmp_eq C 26 dX11_rivals_18 (by decide) ?_ ?_
      · refine sm_aload_n C 0 dX11_rivals_26 rfl ?_
        refine r_callVI C (R := RX11) (T := TX11) (N := 12) [] (G_N G) rfl (fun qq ss hh => ct_X11_bad G s6 qq ss hh) kw_349 kw_351 kw_0 kw_51 kw_352 dX11_rivals_27 rfl dd_X11_bad ⟨rfl, rfl⟩ ⟨by decide, by decide⟩ (Nat.le_of_ble_eq_true rfl) _ rfl (fun q9 s10 => ?_)
        refine sm_pop C dX11_rivals_30 rfl ?_
        refine sm_bipush C (-10 : Int32) dX11_rivals_31 bp_m10 ?_
        exact sm_iret C dX11_rivals_33
      · refine sm_iload_n C 3 dX11_rivals_21 rfl ?_
        refine sm_iconst C (-1 : Int32) dX11_rivals_22 ic_m1 ?_
        refine sm_icmp_ge C 34 dX11_rivals_23 (by decide) ?_ ?_
        · refine sm_aload_n C 0 dX11_rivals_34 rfl ?_
          refine sm_getR C (ci := 11) (R := RX11) (T := TX11) (N := 12) (j := 5) (G_N G).2 (G_N G).1 rfl gX11 (by decide) kw_305 dX11_rivals_35 (fun _ _ => rfl) ?_
          refine sm_aload_n C 0 dX11_rivals_38 rfl ?_
          refine sm_getR C (ci := 11) (R := RX11) (T := TX11) (N := 12) (j := 0) (G_N G).2 (G_N G).1 rfl gX11 (by decide) kw_300 dX11_rivals_39 (fun _ _ => rfl) ?_
          refine sm_iload_n C 1 dX11_rivals_42 rfl ?_
          refine sm_iload_n C 2 dX11_rivals_43 rfl ?_
          refine r_callVU C (R := RX2) (T := TX2) (N := 4) [.ref (wad w 1), .int x1, .int x2] (G_F G) rfl (fun qq ss hh => ct_X2_weighRivals 1 G (G_now G) x1 x2 s6 qq ss hh) kw_678 kw_679 kw_680 kw_62 kw_681 dX11_rivals_44 rfl dd_X2_weighRivals ⟨rfl, rfl⟩ ⟨by decide, by decide⟩ (Nat.le_of_ble_eq_true rfl) _ rfl (fun q11 s12 => ?_)
          refine sm_aload_n C 0 dX11_rivals_47 rfl ?_
          refine sm_getR C (ci := 11) (R := RX11) (T := TX11) (N := 12) (j := 5) (G_N G).2 (G_N G).1 rfl gX11 (by decide) kw_305 dX11_rivals_48 (fun _ _ => rfl) ?_
          refine sm_aload_n C 0 dX11_rivals_51 rfl ?_
          refine sm_getR C (ci := 11) (R := RX11) (T := TX11) (N := 12) (j := 0) (G_N G).2 (G_N G).1 rfl gX11 (by decide) kw_300 dX11_rivals_52 (fun _ _ => rfl) ?_
          refine sm_getIN C (ci := 10) (R := RX10) (T := TX10) (N := 13) (j := 11) (V_O (G_now G)).2 (V_O (G_now G)).1 rfl gX10 (by decide) nf_25 dX11_rivals_55 (fun _ _ => rfl) (fun v13 => ?_)
          refine sm_iload_n C 3 dX11_rivals_58 rfl ?_
          refine r_callVI C (R := RX2) (T := TX2) (N := 4) [.int v13, .int x3] (G_F G) rfl (fun qq ss hh => ct_X2_resting G v13 x3 s12 qq ss hh) kw_683 kw_684 kw_685 kw_62 kw_686 dX11_rivals_59 rfl dd_X2_resting ⟨rfl, rfl⟩ ⟨by decide, by decide⟩ (Nat.le_of_ble_eq_true rfl) _ rfl (fun q14 s15 => ?_)
          exact sm_iret C dX11_rivals_62
        · refine sm_aload_n C 0 dX11_rivals_26 rfl ?_
          refine r_callVI C (R := RX11) (T := TX11) (N := 12) [] (G_N G) rfl (fun qq ss hh => ct_X11_bad G s6 qq ss hh) kw_349 kw_351 kw_0 kw_51 kw_352 dX11_rivals_27 rfl dd_X11_bad ⟨rfl, rfl⟩ ⟨by decide, by decide⟩ (Nat.le_of_ble_eq_true rfl) _ rfl (fun q16 s17 => ?_)
          refine sm_pop C dX11_rivals_30 rfl ?_
          refine sm_bipush C (-10 : Int32) dX11_rivals_31 bp_m10 ?_
          exact sm_iret C dX11_rivals_33
theorem dd_X11_handicap : yX11_handicap.cls = RX11 ∧ yX11_handicap.cls ≠ "java/lang/invoke/MethodHandle" ∧ yX11_handicap.cls ≠ "java/lang/invoke/VarHandle" ∧ (parseMethodDescriptor yX11_handicap.desc).map (fun d => d.parameters.length) = some 1 := by decide +kernel
set_option maxRecDepth 100000 in
set_option maxHeartbeats 4000000 in
theorem ct_X11_handicap {l : Launch} {w : Wco} (G : GW w) (x1 : Int32) (s0 : Sta) (qq : Int32) (ss : Sta) (hh : X11_handicap x1 s0 = some (qq, ss)) : Ct l w yX11_handicap (Cond.code yX11_handicap cX11_handicap 2 (some .int) :: GT) { frames := 6, cells := 0, slots := 0, locals := 166 } [.ref (wad w 0), .int x1] s0 (oI qq) ss := by
  refine ct_of [(0, .ref (wad w 0)), (1, .int x1)] (by decide +kernel) (Nat.le_of_ble_eq_true rfl) rfl hh (fun M _ C => ?_)
  unfold X11_handicap
  refine sm_aload_n C 0 dX11_handicap_0 rfl ?_
  refine sm_iload_n C 1 dX11_handicap_1 rfl ?_
  refine r_callVI C (R := RX11) (T := TX11) (N := 12) [.int x1] (G_N G) rfl (fun qq ss hh => ct_X11_isOne G x1 s0 qq ss hh) kw_594 kw_596 kw_10 kw_51 kw_597 dX11_handicap_2 rfl dd_X11_isOne ⟨rfl, rfl⟩ ⟨by decide, by decide⟩ (Nat.le_of_ble_eq_true rfl) _ rfl (fun q1 s2 => ?_)
  refine sm_if_ne C 13 dX11_handicap_5 (by decide) ?_ ?_
  · refine sm_aload_n C 0 dX11_handicap_13 rfl ?_
    refine sm_getR C (ci := 11) (R := RX11) (T := TX11) (N := 12) (j := 4) (G_N G).2 (G_N G).1 rfl gX11 (by decide) kw_304 dX11_handicap_14 (fun _ _ => rfl) ?_
    refine r_callVU C (R := RX0) (T := TX0) (N := 5) [] (C_O (G_con G)) rfl (fun qq ss hh => ct_X0_allByKind 55 (G_con G).1 s2 qq ss hh) kw_506 kw_227 kw_228 kw_55 kw_229 dX11_handicap_17 rfl dd_X0_allByKind ⟨rfl, rfl⟩ ⟨by decide, by decide⟩ (Nat.le_of_ble_eq_true rfl) _ rfl (fun q3 s4 => ?_)
    refine sm_aload_n C 0 dX11_handicap_20 rfl ?_
    refine sm_getR C (ci := 11) (R := RX11) (T := TX11) (N := 12) (j := 4) (G_N G).2 (G_N G).1 rfl gX11 (by decide) kw_304 dX11_handicap_21 (fun _ _ => rfl) ?_
    refine sm_aload_n C 0 dX11_handicap_24 rfl ?_
    refine sm_getR C (ci := 11) (R := RX11) (T := TX11) (N := 12) (j := 0) (G_N G).2 (G_N G).1 rfl gX11 (by decide) kw_300 dX11_handicap_25 (fun _ _ => rfl) ?_
    refine sm_iload_n C 1 dX11_handicap_28 rfl ?_
    refine r_callVI C (R := RX0) (T := TX0) (N := 5) [.ref (wad w 1), .int x1] (C_O (G_con G)) rfl (fun qq ss hh => ct_X0_handicapOf 55 1 (G_con G) (G_now G) x1 s4 qq ss hh) kw_695 kw_696 kw_697 kw_55 kw_698 dX11_handicap_29 rfl dd_X0_handicapOf ⟨rfl, rfl⟩ ⟨by decide, by decide⟩ (Nat.le_of_ble_eq_true rfl) _ rfl (fun q5 s6 => ?_)
    exact sm_iret C dX11_handicap_32
  · refine sm_aload_n C 0 dX11_handicap_8 rfl ?_
    refine r_callVI C (R := RX11) (T := TX11) (N := 12) [] (G_N G) rfl (fun qq ss hh => ct_X11_bad G s2 qq ss hh) kw_349 kw_351 kw_0 kw_51 kw_352 dX11_handicap_9 rfl dd_X11_bad ⟨rfl, rfl⟩ ⟨by decide, by decide⟩ (Nat.le_of_ble_eq_true rfl) _ rfl (fun q7 s8 => ?_)
    exact sm_iret C dX11_handicap_12
theorem dd_X11_order : yX11_order.cls = RX11 ∧ yX11_order.cls ≠ "java/lang/invoke/MethodHandle" ∧ yX11_order.cls ≠ "java/lang/invoke/VarHandle" ∧ (parseMethodDescriptor yX11_order.desc).map (fun d => d.parameters.length) = some 1 := by decide +kernel
set_option maxRecDepth 100000 in
set_option maxHeartbeats 4000000 in
theorem ct_X11_order {l : Launch} {w : Wco} (G : GW w) (x1 : Int32) (s0 : Sta) (qq : Int32) (ss : Sta) (hh : X11_order x1 s0 = some (qq, ss)) : Ct l w yX11_order (Cond.code yX11_order cX11_order 2 (some .int) :: GT) { frames := 8, cells := 0, slots := 0, locals := 213 } [.ref (wad w 0), .int x1] s0 (oI qq) ss := by
  refine ct_of [(0, .ref (wad w 0)), (1, .int x1)] (by decide +kernel) (Nat.le_of_ble_eq_true rfl) rfl hh (fun M _ C => ?_)
  unfold X11_order
  refine sm_aload_n C 0 dX11_order_0 rfl ?_
  refine sm_iload_n C 1 dX11_order_1 rfl ?_
  refine r_callVI C (R := RX11) (T := TX11) (N := 12) [.int x1] (G_N G) rfl (fun qq ss hh => ct_X11_isOne G x1 s0 qq ss hh) kw_594 kw_596 kw_10 kw_51 kw_597 dX11_order_2 rfl dd_X11_isOne ⟨rfl, rfl⟩ ⟨by decide, by decide⟩ (Nat.le_of_ble_eq_true rfl) _ rfl (fun q1 s2 => ?_)
  refine sm_if_ne C 13 dX11_order_5 (by decide) ?_ ?_
  · refine sm_aload_n C 0 dX11_order_13 rfl ?_
    refine sm_getR C (ci := 11) (R := RX11) (T := TX11) (N := 12) (j := 5) (G_N G).2 (G_N G).1 rfl gX11 (by decide) kw_305 dX11_order_14 (fun _ _ => rfl) ?_
    refine sm_aload_n C 0 dX11_order_17 rfl ?_
    refine sm_getR C (ci := 11) (R := RX11) (T := TX11) (N := 12) (j := 0) (G_N G).2 (G_N G).1 rfl gX11 (by decide) kw_300 dX11_order_18 (fun _ _ => rfl) ?_
    refine sm_iload_n C 1 dX11_order_21 rfl ?_
    refine r_callVI C (R := RX2) (T := TX2) (N := 4) [.ref (wad w 1), .int x1] (G_F G) rfl (fun qq ss hh => ct_X2_bestSwap 1 G (G_now G) x1 s2 qq ss hh) kw_705 kw_706 kw_707 kw_62 kw_708 dX11_order_22 rfl dd_X2_bestSwap ⟨rfl, rfl⟩ ⟨by decide, by decide⟩ (Nat.le_of_ble_eq_true rfl) _ rfl (fun q3 s4 => ?_)
    exact sm_iret C dX11_order_25
  · refine sm_aload_n C 0 dX11_order_8 rfl ?_
    refine r_callVI C (R := RX11) (T := TX11) (N := 12) [] (G_N G) rfl (fun qq ss hh => ct_X11_bad G s2 qq ss hh) kw_349 kw_351 kw_0 kw_51 kw_352 dX11_order_9 rfl dd_X11_bad ⟨rfl, rfl⟩ ⟨by decide, by decide⟩ (Nat.le_of_ble_eq_true rfl) _ rfl (fun q5 s6 => ?_)
    exact sm_iret C dX11_order_12
theorem dd_X11_note : yX11_note.cls = RX11 ∧ yX11_note.cls ≠ "java/lang/invoke/MethodHandle" ∧ yX11_note.cls ≠ "java/lang/invoke/VarHandle" ∧ (parseMethodDescriptor yX11_note.desc).map (fun d => d.parameters.length) = some 4 := by decide +kernel
set_option maxRecDepth 100000 in
set_option maxHeartbeats 4000000 in
theorem ct_X11_note {l : Launch} {w : Wco} (G : GW w) (x1 : Int32) (x2 : Int32) (x3 : Int32) (x4 : Int32) (s0 : Sta) (qq : Int32) (ss : Sta) (hh : X11_note x1 x2 x3 x4 s0 = some (qq, ss)) : Ct l w yX11_note (Cond.code yX11_note cX11_note 5 (some .int) :: GT) { frames := 2, cells := 0, slots := 0, locals := 43 } [.ref (wad w 0), .int x1, .int x2, .int x3, .int x4] s0 (oI qq) ss := by
  refine ct_of [(0, .ref (wad w 0)), (1, .int x1), (2, .int x2), (3, .int x3), (4, .int x4)] (by decide +kernel) (Nat.le_of_ble_eq_true rfl) rfl hh (fun M _ C => ?_)
  unfold X11_note
  refine sm_aload_n C 0 dX11_note_0 rfl ?_
  refine sm_iload_n C 1 dX11_note_1 rfl ?_
  refine r_callVI C (R := RX11) (T := TX11) (N := 12) [.int x1] (G_N G) rfl (fun qq ss hh => ct_X11_isOne G x1 s0 qq ss hh) kw_594 kw_596 kw_10 kw_51 kw_597 dX11_note_2 rfl dd_X11_isOne ⟨rfl, rfl⟩ ⟨by decide, by decide⟩ (Nat.le_of_ble_eq_true rfl) _ rfl (fun q1 s2 => ?_)
  refine sm_if_eq C 38 dX11_note_5 (by decide) ?_ ?_
  · refine sm_aload_n C 0 dX11_note_38 rfl ?_
    refine r_callVI C (R := RX11) (T := TX11) (N := 12) [] (G_N G) rfl (fun qq ss hh => ct_X11_bad G s2 qq ss hh) kw_349 kw_351 kw_0 kw_51 kw_352 dX11_note_39 rfl dd_X11_bad ⟨rfl, rfl⟩ ⟨by decide, by decide⟩ (Nat.le_of_ble_eq_true rfl) _ rfl (fun q3 s4 => ?_)
    exact sm_iret C dX11_note_42
  · refine sm_iload_n C 2 dX11_note_8 rfl ?_
    refine sm_iconst C (1 : Int32) dX11_note_9 ic_1 ?_
    refine sm_bipush C (30 : Int32) dX11_note_10 bp_30 ?_
    refine r_callSI C [.int x2, .int (1 : Int32), .int (30 : Int32)] (fun qq ss hh => ct_X11_within x2 (1 : Int32) (30 : Int32) s2 qq ss hh) kw_346 kw_347 kw_51 kw_348 dX11_note_12 rfl dd_X11_within ⟨rfl, rfl⟩ ⟨by decide, by decide⟩ (Nat.le_of_ble_eq_true rfl) _ rfl (fun q5 s6 => ?_)
    refine sm_if_eq C 38 dX11_note_15 (by decide) ?_ ?_
    · refine sm_aload_n C 0 dX11_note_38 rfl ?_
      refine r_callVI C (R := RX11) (T := TX11) (N := 12) [] (G_N G) rfl (fun qq ss hh => ct_X11_bad G s6 qq ss hh) kw_349 kw_351 kw_0 kw_51 kw_352 dX11_note_39 rfl dd_X11_bad ⟨rfl, rfl⟩ ⟨by decide, by decide⟩ (Nat.le_of_ble_eq_true rfl) _ rfl (fun q7 s8 => ?_)
      exact sm_iret C dX11_note_42
    · refine sm_iload_n C 3 dX11_note_18 rfl ?_
      refine sm_iconst C (0 : Int32) dX11_note_19 ic_0 ?_
      refine sm_bipush C (7 : Int32) dX11_note_20 bp_7 ?_
      refine r_callSI C [.int x3, .int (0 : Int32), .int (7 : Int32)] (fun qq ss hh => ct_X11_within x3 (0 : Int32) (7 : Int32) s6 qq ss hh) kw_346 kw_347 kw_51 kw_348 dX11_note_22 rfl dd_X11_within ⟨rfl, rfl⟩ ⟨by decide, by decide⟩ (Nat.le_of_ble_eq_true rfl) _ rfl (fun q9 s10 => ?_)
      refine sm_if_eq C 38 dX11_note_25 (by decide) ?_ ?_
      · refine sm_aload_n C 0 dX11_note_38 rfl ?_
        refine r_callVI C (R := RX11) (T := TX11) (N := 12) [] (G_N G) rfl (fun qq ss hh => ct_X11_bad G s10 qq ss hh) kw_349 kw_351 kw_0 kw_51 kw_352 dX11_note_39 rfl dd_X11_bad ⟨rfl, rfl⟩ ⟨by decide, by decide⟩ (Nat.le_of_ble_eq_true rfl) _ rfl (fun q11 s12 => ?_)
        exact sm_iret C dX11_note_42
      · refine sm_iload C 4 dX11_note_28 rfl ?_
        refine sm_iconst C (0 : Int32) dX11_note_30 ic_0 ?_
        refine sm_iconst C (1 : Int32) dX11_note_31 ic_1 ?_
        refine r_callSI C [.int x4, .int (0 : Int32), .int (1 : Int32)] (fun qq ss hh => ct_X11_within x4 (0 : Int32) (1 : Int32) s10 qq ss hh) kw_346 kw_347 kw_51 kw_348 dX11_note_32 rfl dd_X11_within ⟨rfl, rfl⟩ ⟨by decide, by decide⟩ (Nat.le_of_ble_eq_true rfl) _ rfl (fun q13 s14 => ?_)
        refine sm_if_ne C 43 dX11_note_35 (by decide) ?_ ?_
        · refine sm_aload_n C 0 dX11_note_43 rfl ?_
          refine sm_getR C (ci := 11) (R := RX11) (T := TX11) (N := 12) (j := 0) (G_N G).2 (G_N G).1 rfl gX11 (by decide) kw_300 dX11_note_44 (fun _ _ => rfl) ?_
          refine sm_getRN C (ci := 10) (R := RX10) (T := TX10) (N := 13) (j := 8) (V_O (G_now G)).2 (V_O (G_now G)).1 rfl gX10 (by decide) nf_17 dX11_note_47 (fun _ _ => rfl) ?_
          refine sm_getIN C (ci := 9) (R := RX9) (T := TX9) (N := 2) (j := 1) (T_O (V_notes (G_now G))).2 (T_O (V_notes (G_now G))).1 rfl gX9 (by decide) nf_2 dX11_note_50 (fun _ _ => rfl) (fun v15 => ?_)
          refine sm_bipush C (6 : Int32) dX11_note_53 bp_6 ?_
          refine sm_icmp_lt C 63 dX11_note_55 (by decide) ?_ ?_
          · refine sm_aload_n C 0 dX11_note_63 rfl ?_
            refine sm_getR C (ci := 11) (R := RX11) (T := TX11) (N := 12) (j := 0) (G_N G).2 (G_N G).1 rfl gX11 (by decide) kw_300 dX11_note_64 (fun _ _ => rfl) ?_
            refine sm_getRN C (ci := 10) (R := RX10) (T := TX10) (N := 13) (j := 8) (V_O (G_now G)).2 (V_O (G_now G)).1 rfl gX10 (by decide) nf_17 dX11_note_67 (fun _ _ => rfl) ?_
            refine sm_iload_n C 1 dX11_note_70 rfl ?_
            refine sm_iload_n C 2 dX11_note_71 rfl ?_
            refine sm_iload_n C 3 dX11_note_72 rfl ?_
            refine sm_iload C 4 dX11_note_73 rfl ?_
            refine r_callVU C (R := RX9) (T := TX9) (N := 2) [.int x1, .int x2, .int x3, .int x4] (T_O (V_notes (G_now G))) rfl (fun qq ss hh => ct_X9_add (1 + 9) (V_notes (G_now G)) x1 x2 x3 x4 s14 qq ss hh) kw_719 kw_720 kw_721 kw_53 kw_722 dX11_note_75 rfl dd_X9_add ⟨rfl, rfl⟩ ⟨by decide, by decide⟩ (Nat.le_of_ble_eq_true rfl) _ rfl (fun q16 s17 => ?_)
            refine sm_aload_n C 0 dX11_note_78 rfl ?_
            refine sm_getR C (ci := 11) (R := RX11) (T := TX11) (N := 12) (j := 0) (G_N G).2 (G_N G).1 rfl gX11 (by decide) kw_300 dX11_note_79 (fun _ _ => rfl) ?_
            refine sm_getRN C (ci := 10) (R := RX10) (T := TX10) (N := 13) (j := 8) (V_O (G_now G)).2 (V_O (G_now G)).1 rfl gX10 (by decide) nf_17 dX11_note_82 (fun _ _ => rfl) ?_
            refine sm_getIN C (ci := 9) (R := RX9) (T := TX9) (N := 2) (j := 1) (T_O (V_notes (G_now G))).2 (T_O (V_notes (G_now G))).1 rfl gX9 (by decide) nf_2 dX11_note_85 (fun _ _ => rfl) (fun v18 => ?_)
            exact sm_iret C dX11_note_88
          · refine sm_aload_n C 0 dX11_note_58 rfl ?_
            refine r_callVI C (R := RX11) (T := TX11) (N := 12) [] (G_N G) rfl (fun qq ss hh => ct_X11_full G s14 qq ss hh) kw_364 kw_366 kw_1 kw_51 kw_367 dX11_note_59 rfl dd_X11_full ⟨rfl, rfl⟩ ⟨by decide, by decide⟩ (Nat.le_of_ble_eq_true rfl) _ rfl (fun q19 s20 => ?_)
            exact sm_iret C dX11_note_62
        · refine sm_aload_n C 0 dX11_note_38 rfl ?_
          refine r_callVI C (R := RX11) (T := TX11) (N := 12) [] (G_N G) rfl (fun qq ss hh => ct_X11_bad G s14 qq ss hh) kw_349 kw_351 kw_0 kw_51 kw_352 dX11_note_39 rfl dd_X11_bad ⟨rfl, rfl⟩ ⟨by decide, by decide⟩ (Nat.le_of_ble_eq_true rfl) _ rfl (fun q21 s22 => ?_)
          exact sm_iret C dX11_note_42
theorem dd_X11_beaten : yX11_beaten.cls = RX11 ∧ yX11_beaten.cls ≠ "java/lang/invoke/MethodHandle" ∧ yX11_beaten.cls ≠ "java/lang/invoke/VarHandle" ∧ (parseMethodDescriptor yX11_beaten.desc).map (fun d => d.parameters.length) = some 4 := by decide +kernel
set_option maxRecDepth 100000 in
set_option maxHeartbeats 4000000 in
theorem ct_X11_beaten {l : Launch} {w : Wco} (G : GW w) (x1 : Int32) (x2 : Int32) (x3 : Int32) (x4 : Int32) (s0 : Sta) (qq : Int32) (ss : Sta) (hh : X11_beaten x1 x2 x3 x4 s0 = some (qq, ss)) : Ct l w yX11_beaten (Cond.code yX11_beaten cX11_beaten 5 (some .int) :: GT) { frames := 2, cells := 0, slots := 0, locals := 43 } [.ref (wad w 0), .int x1, .int x2, .int x3, .int x4] s0 (oI qq) ss := by
  refine ct_of [(0, .ref (wad w 0)), (1, .int x1), (2, .int x2), (3, .int x3), (4, .int x4)] (by decide +kernel) (Nat.le_of_ble_eq_true rfl) rfl hh (fun M _ C => ?_)
  unfold X11_beaten
  refine sm_aload_n C 0 dX11_beaten_0 rfl ?_
  refine sm_iload_n C 1 dX11_beaten_1 rfl ?_
  refine r_callVI C (R := RX11) (T := TX11) (N := 12) [.int x1] (G_N G) rfl (fun qq ss hh => ct_X11_isOne G x1 s0 qq ss hh) kw_594 kw_596 kw_10 kw_51 kw_597 dX11_beaten_2 rfl dd_X11_isOne ⟨rfl, rfl⟩ ⟨by decide, by decide⟩ (Nat.le_of_ble_eq_true rfl) _ rfl (fun q1 s2 => ?_)
  refine sm_if_eq C 41 dX11_beaten_5 (by decide) ?_ ?_
  · refine sm_aload_n C 0 dX11_beaten_41 rfl ?_
    refine r_callVI C (R := RX11) (T := TX11) (N := 12) [] (G_N G) rfl (fun qq ss hh => ct_X11_bad G s2 qq ss hh) kw_349 kw_351 kw_0 kw_51 kw_352 dX11_beaten_42 rfl dd_X11_bad ⟨rfl, rfl⟩ ⟨by decide, by decide⟩ (Nat.le_of_ble_eq_true rfl) _ rfl (fun q3 s4 => ?_)
    exact sm_iret C dX11_beaten_45
  · refine sm_aload_n C 0 dX11_beaten_8 rfl ?_
    refine sm_iload_n C 2 dX11_beaten_9 rfl ?_
    refine r_callVI C (R := RX11) (T := TX11) (N := 12) [.int x2] (G_N G) rfl (fun qq ss hh => ct_X11_isOne G x2 s2 qq ss hh) kw_594 kw_596 kw_10 kw_51 kw_597 dX11_beaten_10 rfl dd_X11_isOne ⟨rfl, rfl⟩ ⟨by decide, by decide⟩ (Nat.le_of_ble_eq_true rfl) _ rfl (fun q5 s6 => ?_)
    refine sm_if_eq C 41 dX11_beaten_13 (by decide) ?_ ?_
    · refine sm_aload_n C 0 dX11_beaten_41 rfl ?_
      refine r_callVI C (R := RX11) (T := TX11) (N := 12) [] (G_N G) rfl (fun qq ss hh => ct_X11_bad G s6 qq ss hh) kw_349 kw_351 kw_0 kw_51 kw_352 dX11_beaten_42 rfl dd_X11_bad ⟨rfl, rfl⟩ ⟨by decide, by decide⟩ (Nat.le_of_ble_eq_true rfl) _ rfl (fun q7 s8 => ?_)
      exact sm_iret C dX11_beaten_45
    · refine sm_iload_n C 1 dX11_beaten_16 rfl ?_
      refine sm_iload_n C 2 dX11_beaten_17 rfl ?_
      refine sm_icmp_eq C 41 dX11_beaten_18 (by decide) ?_ ?_
      · refine sm_aload_n C 0 dX11_beaten_41 rfl ?_
        refine r_callVI C (R := RX11) (T := TX11) (N := 12) [] (G_N G) rfl (fun qq ss hh => ct_X11_bad G s6 qq ss hh) kw_349 kw_351 kw_0 kw_51 kw_352 dX11_beaten_42 rfl dd_X11_bad ⟨rfl, rfl⟩ ⟨by decide, by decide⟩ (Nat.le_of_ble_eq_true rfl) _ rfl (fun q9 s10 => ?_)
        exact sm_iret C dX11_beaten_45
      · refine sm_iload_n C 3 dX11_beaten_21 rfl ?_
        refine sm_iconst C (0 : Int32) dX11_beaten_22 ic_0 ?_
        refine sm_iconst C (2 : Int32) dX11_beaten_23 ic_2 ?_
        refine r_callSI C [.int x3, .int (0 : Int32), .int (2 : Int32)] (fun qq ss hh => ct_X11_within x3 (0 : Int32) (2 : Int32) s6 qq ss hh) kw_346 kw_347 kw_51 kw_348 dX11_beaten_24 rfl dd_X11_within ⟨rfl, rfl⟩ ⟨by decide, by decide⟩ (Nat.le_of_ble_eq_true rfl) _ rfl (fun q11 s12 => ?_)
        refine sm_if_eq C 41 dX11_beaten_27 (by decide) ?_ ?_
        · refine sm_aload_n C 0 dX11_beaten_41 rfl ?_
          refine r_callVI C (R := RX11) (T := TX11) (N := 12) [] (G_N G) rfl (fun qq ss hh => ct_X11_bad G s12 qq ss hh) kw_349 kw_351 kw_0 kw_51 kw_352 dX11_beaten_42 rfl dd_X11_bad ⟨rfl, rfl⟩ ⟨by decide, by decide⟩ (Nat.le_of_ble_eq_true rfl) _ rfl (fun q13 s14 => ?_)
          exact sm_iret C dX11_beaten_45
        · refine sm_iload C 4 dX11_beaten_30 rfl ?_
          refine sm_iconst C (0 : Int32) dX11_beaten_32 ic_0 ?_
          refine sm_bipush C (7 : Int32) dX11_beaten_33 bp_7 ?_
          refine r_callSI C [.int x4, .int (0 : Int32), .int (7 : Int32)] (fun qq ss hh => ct_X11_within x4 (0 : Int32) (7 : Int32) s12 qq ss hh) kw_346 kw_347 kw_51 kw_348 dX11_beaten_35 rfl dd_X11_within ⟨rfl, rfl⟩ ⟨by decide, by decide⟩ (Nat.le_of_ble_eq_true rfl) _ rfl (fun q15 s16 => ?_)
          refine sm_if_ne C 46 dX11_beaten_38 (by decide) ?_ ?_
          · refine sm_aload_n C 0 dX11_beaten_46 rfl ?_
            refine sm_getR C (ci := 11) (R := RX11) (T := TX11) (N := 12) (j := 0) (G_N G).2 (G_N G).1 rfl gX11 (by decide) kw_300 dX11_beaten_47 (fun _ _ => rfl) ?_
            refine sm_getRN C (ci := 10) (R := RX10) (T := TX10) (N := 13) (j := 9) (V_O (G_now G)).2 (V_O (G_now G)).1 rfl gX10 (by decide) nf_19 dX11_beaten_50 (fun _ _ => rfl) ?_
            refine sm_getIN C (ci := 9) (R := RX9) (T := TX9) (N := 2) (j := 1) (T_O (V_beatings (G_now G))).2 (T_O (V_beatings (G_now G))).1 rfl gX9 (by decide) nf_2 dX11_beaten_53 (fun _ _ => rfl) (fun v17 => ?_)
            refine sm_bipush C (6 : Int32) dX11_beaten_56 bp_6 ?_
            refine sm_icmp_lt C 66 dX11_beaten_58 (by decide) ?_ ?_
            · refine sm_aload_n C 0 dX11_beaten_66 rfl ?_
              refine sm_getR C (ci := 11) (R := RX11) (T := TX11) (N := 12) (j := 0) (G_N G).2 (G_N G).1 rfl gX11 (by decide) kw_300 dX11_beaten_67 (fun _ _ => rfl) ?_
              refine sm_getRN C (ci := 10) (R := RX10) (T := TX10) (N := 13) (j := 9) (V_O (G_now G)).2 (V_O (G_now G)).1 rfl gX10 (by decide) nf_19 dX11_beaten_70 (fun _ _ => rfl) ?_
              refine sm_iload_n C 1 dX11_beaten_73 rfl ?_
              refine sm_iload_n C 2 dX11_beaten_74 rfl ?_
              refine sm_iload_n C 3 dX11_beaten_75 rfl ?_
              refine sm_iload C 4 dX11_beaten_76 rfl ?_
              refine r_callVU C (R := RX9) (T := TX9) (N := 2) [.int x1, .int x2, .int x3, .int x4] (T_O (V_beatings (G_now G))) rfl (fun qq ss hh => ct_X9_add (1 + 11) (V_beatings (G_now G)) x1 x2 x3 x4 s16 qq ss hh) kw_719 kw_720 kw_721 kw_53 kw_722 dX11_beaten_78 rfl dd_X9_add ⟨rfl, rfl⟩ ⟨by decide, by decide⟩ (Nat.le_of_ble_eq_true rfl) _ rfl (fun q18 s19 => ?_)
              refine sm_aload_n C 0 dX11_beaten_81 rfl ?_
              refine sm_getR C (ci := 11) (R := RX11) (T := TX11) (N := 12) (j := 0) (G_N G).2 (G_N G).1 rfl gX11 (by decide) kw_300 dX11_beaten_82 (fun _ _ => rfl) ?_
              refine sm_getRN C (ci := 10) (R := RX10) (T := TX10) (N := 13) (j := 9) (V_O (G_now G)).2 (V_O (G_now G)).1 rfl gX10 (by decide) nf_19 dX11_beaten_85 (fun _ _ => rfl) ?_
              refine sm_getIN C (ci := 9) (R := RX9) (T := TX9) (N := 2) (j := 1) (T_O (V_beatings (G_now G))).2 (T_O (V_beatings (G_now G))).1 rfl gX9 (by decide) nf_2 dX11_beaten_88 (fun _ _ => rfl) (fun v20 => ?_)
              exact sm_iret C dX11_beaten_91
            · refine sm_aload_n C 0 dX11_beaten_61 rfl ?_
              refine r_callVI C (R := RX11) (T := TX11) (N := 12) [] (G_N G) rfl (fun qq ss hh => ct_X11_full G s16 qq ss hh) kw_364 kw_366 kw_1 kw_51 kw_367 dX11_beaten_62 rfl dd_X11_full ⟨rfl, rfl⟩ ⟨by decide, by decide⟩ (Nat.le_of_ble_eq_true rfl) _ rfl (fun q21 s22 => ?_)
              exact sm_iret C dX11_beaten_65
          · refine sm_aload_n C 0 dX11_beaten_41 rfl ?_
            refine r_callVI C (R := RX11) (T := TX11) (N := 12) [] (G_N G) rfl (fun qq ss hh => ct_X11_bad G s16 qq ss hh) kw_349 kw_351 kw_0 kw_51 kw_352 dX11_beaten_42 rfl dd_X11_bad ⟨rfl, rfl⟩ ⟨by decide, by decide⟩ (Nat.le_of_ble_eq_true rfl) _ rfl (fun q23 s24 => ?_)
            exact sm_iret C dX11_beaten_45
theorem dd_X11_forget : yX11_forget.cls = RX11 ∧ yX11_forget.cls ≠ "java/lang/invoke/MethodHandle" ∧ yX11_forget.cls ≠ "java/lang/invoke/VarHandle" ∧ (parseMethodDescriptor yX11_forget.desc).map (fun d => d.parameters.length) = some 1 := by decide +kernel
set_option maxRecDepth 100000 in
set_option maxHeartbeats 4000000 in
theorem ct_X11_forget {l : Launch} {w : Wco} (G : GW w) (x1 : Int32) (s0 : Sta) (qq : Int32) (ss : Sta) (hh : X11_forget x1 s0 = some (qq, ss)) : Ct l w yX11_forget (Cond.code yX11_forget cX11_forget 4 (some .int) :: GT) { frames := 1, cells := 0, slots := 0, locals := 22 } [.ref (wad w 0), .int x1] s0 (oI qq) ss := by
  refine ct_of [(0, .ref (wad w 0)), (1, .int x1)] (by decide +kernel) (Nat.le_of_ble_eq_true rfl) rfl hh (fun M _ C => ?_)
  unfold X11_forget
  refine sm_iload_n C 1 dX11_forget_0 rfl ?_
  refine sm_iconst C (0 : Int32) dX11_forget_1 ic_0 ?_
  refine sm_iconst C (1 : Int32) dX11_forget_2 ic_1 ?_
  refine r_callSI C [.int x1, .int (0 : Int32), .int (1 : Int32)] (fun qq ss hh => ct_X11_within x1 (0 : Int32) (1 : Int32) s0 qq ss hh) kw_346 kw_347 kw_51 kw_348 dX11_forget_3 rfl dd_X11_within ⟨rfl, rfl⟩ ⟨by decide, by decide⟩ (Nat.le_of_ble_eq_true rfl) _ rfl (fun q1 s2 => ?_)
  refine sm_if_ne C 14 dX11_forget_6 (by decide) ?_ ?_
  · refine sm_iload_n C 1 dX11_forget_14 rfl ?_
    refine sm_if_ne C 28 dX11_forget_15 (by decide) ?_ ?_
    · refine sm_aload_n C 0 dX11_forget_28 rfl ?_
      refine sm_getR C (ci := 11) (R := RX11) (T := TX11) (N := 12) (j := 0) (G_N G).2 (G_N G).1 rfl gX11 (by decide) kw_300 dX11_forget_29 (fun _ _ => rfl) ?_
      refine sm_getRN C (ci := 10) (R := RX10) (T := TX10) (N := 13) (j := 9) (V_O (G_now G)).2 (V_O (G_now G)).1 rfl gX10 (by decide) nf_19 dX11_forget_32 (fun _ _ => rfl) ?_
      refine sm_astore_n C [(2, .ref (wad w (1 + 11))), (0, .ref (wad w 0)), (1, .int x1)] dX11_forget_35 (by decide) rfl ?_
      refine sm_aload_n C 0 dX11_forget_36 rfl ?_
      refine sm_getIN C (ci := 9) (R := RX9) (T := TX9) (N := 2) (j := 1) (T_O (V_beatings (G_now G))).2 (T_O (V_beatings (G_now G))).1 rfl gX9 (by decide) nf_2 dX11_forget_37 (fun _ _ => rfl) (fun v3 => ?_)
      refine sm_istore_n C [(3, .int v3), (2, .ref (wad w (1 + 11))), (0, .ref (wad w 0)), (1, .int x1)] dX11_forget_40 (by decide) rfl ?_
      refine sm_aload_n C 1 dX11_forget_41 rfl ?_
      refine sm_iconst C (0 : Int32) dX11_forget_42 ic_0 ?_
      refine sm_putIN C (ci := 9) (R := RX9) (T := TX9) (N := 2) (j := 1) (T_O (V_beatings (G_now G))).2 (T_O (V_beatings (G_now G))).1 rfl gX9 tyX9 tyX9_ok nmX9 (by decide) nf_2 rfl (by decide +kernel) dX11_forget_43 (fun _ _ => Nat.le_of_ble_eq_true rfl) (set_fsT_1 w (1 + 11)) (fun s4 => ?_)
      refine sm_iload_n C 0 dX11_forget_46 rfl ?_
      exact sm_iret C dX11_forget_47
    · refine sm_aload_n C 0 dX11_forget_18 rfl ?_
      refine sm_getR C (ci := 11) (R := RX11) (T := TX11) (N := 12) (j := 0) (G_N G).2 (G_N G).1 rfl gX11 (by decide) kw_300 dX11_forget_19 (fun _ _ => rfl) ?_
      refine sm_getRN C (ci := 10) (R := RX10) (T := TX10) (N := 13) (j := 8) (V_O (G_now G)).2 (V_O (G_now G)).1 rfl gX10 (by decide) nf_17 dX11_forget_22 (fun _ _ => rfl) ?_
      refine sm_goto C 35 dX11_forget_25 (by decide) ?_
      refine sm_astore_n C [(2, .ref (wad w (1 + 9))), (0, .ref (wad w 0)), (1, .int x1)] dX11_forget_35 (by decide) rfl ?_
      refine sm_aload_n C 0 dX11_forget_36 rfl ?_
      refine sm_getIN C (ci := 9) (R := RX9) (T := TX9) (N := 2) (j := 1) (T_O (V_notes (G_now G))).2 (T_O (V_notes (G_now G))).1 rfl gX9 (by decide) nf_2 dX11_forget_37 (fun _ _ => rfl) (fun v5 => ?_)
      refine sm_istore_n C [(3, .int v5), (2, .ref (wad w (1 + 9))), (0, .ref (wad w 0)), (1, .int x1)] dX11_forget_40 (by decide) rfl ?_
      refine sm_aload_n C 1 dX11_forget_41 rfl ?_
      refine sm_iconst C (0 : Int32) dX11_forget_42 ic_0 ?_
      refine sm_putIN C (ci := 9) (R := RX9) (T := TX9) (N := 2) (j := 1) (T_O (V_notes (G_now G))).2 (T_O (V_notes (G_now G))).1 rfl gX9 tyX9 tyX9_ok nmX9 (by decide) nf_2 rfl (by decide +kernel) dX11_forget_43 (fun _ _ => Nat.le_of_ble_eq_true rfl) (set_fsT_1 w (1 + 9)) (fun s6 => ?_)
      refine sm_iload_n C 0 dX11_forget_46 rfl ?_
      exact sm_iret C dX11_forget_47
  · refine sm_aload_n C 0 dX11_forget_9 rfl ?_
    refine r_callVI C (R := RX11) (T := TX11) (N := 12) [] (G_N G) rfl (fun qq ss hh => ct_X11_bad G s2 qq ss hh) kw_349 kw_351 kw_0 kw_51 kw_352 dX11_forget_10 rfl dd_X11_bad ⟨rfl, rfl⟩ ⟨by decide, by decide⟩ (Nat.le_of_ble_eq_true rfl) _ rfl (fun q7 s8 => ?_)
    exact sm_iret C dX11_forget_13
theorem dd_X11_is : yX11_is.cls = RX11 ∧ yX11_is.cls ≠ "java/lang/invoke/MethodHandle" ∧ yX11_is.cls ≠ "java/lang/invoke/VarHandle" ∧ (parseMethodDescriptor yX11_is.desc).map (fun d => d.parameters.length) = some 1 := by decide +kernel
set_option maxRecDepth 100000 in
set_option maxHeartbeats 4000000 in
theorem ct_X11_is {l : Launch} {w : Wco} (G : GW w) (x1 : Int32) (s0 : Sta) (qq : Int32) (ss : Sta) (hh : X11_is x1 s0 = some (qq, ss)) : Ct l w yX11_is (Cond.code yX11_is cX11_is 2 (some .int) :: GT) { frames := 5, cells := 0, slots := 0, locals := 139 } [.ref (wad w 0), .int x1] s0 (oI qq) ss := by
  refine ct_of [(0, .ref (wad w 0)), (1, .int x1)] (by decide +kernel) (Nat.le_of_ble_eq_true rfl) rfl hh (fun M _ C => ?_)
  unfold X11_is
  refine sm_aload_n C 0 dX11_is_0 rfl ?_
  refine sm_iload_n C 1 dX11_is_1 rfl ?_
  refine r_callVI C (R := RX11) (T := TX11) (N := 12) [.int x1] (G_N G) rfl (fun qq ss hh => ct_X11_isOne G x1 s0 qq ss hh) kw_594 kw_596 kw_10 kw_51 kw_597 dX11_is_2 rfl dd_X11_isOne ⟨rfl, rfl⟩ ⟨by decide, by decide⟩ (Nat.le_of_ble_eq_true rfl) _ rfl (fun q1 s2 => ?_)
  refine sm_if_ne C 13 dX11_is_5 (by decide) ?_ ?_
  · refine sm_aload_n C 0 dX11_is_13 rfl ?_
    refine sm_getR C (ci := 11) (R := RX11) (T := TX11) (N := 12) (j := 4) (G_N G).2 (G_N G).1 rfl gX11 (by decide) kw_304 dX11_is_14 (fun _ _ => rfl) ?_
    refine sm_aload_n C 0 dX11_is_17 rfl ?_
    refine sm_getR C (ci := 11) (R := RX11) (T := TX11) (N := 12) (j := 0) (G_N G).2 (G_N G).1 rfl gX11 (by decide) kw_300 dX11_is_18 (fun _ _ => rfl) ?_
    refine sm_getRN C (ci := 10) (R := RX10) (T := TX10) (N := 13) (j := 8) (V_O (G_now G)).2 (V_O (G_now G)).1 rfl gX10 (by decide) nf_17 dX11_is_21 (fun _ _ => rfl) ?_
    refine sm_iload_n C 1 dX11_is_24 rfl ?_
    refine r_callVI C (R := RX0) (T := TX0) (N := 5) [.ref (wad w (1 + 9)), .int x1] (C_O (G_con G)) rfl (fun qq ss hh => ct_X0_kindsThatFit 55 (1 + 9) (G_con G) (V_notes (G_now G)) x1 s2 qq ss hh) kw_735 kw_736 kw_737 kw_55 kw_738 dX11_is_25 rfl dd_X0_kindsThatFit ⟨rfl, rfl⟩ ⟨by decide, by decide⟩ (Nat.le_of_ble_eq_true rfl) _ rfl (fun q3 s4 => ?_)
    exact sm_iret C dX11_is_28
  · refine sm_aload_n C 0 dX11_is_8 rfl ?_
    refine r_callVI C (R := RX11) (T := TX11) (N := 12) [] (G_N G) rfl (fun qq ss hh => ct_X11_bad G s2 qq ss hh) kw_349 kw_351 kw_0 kw_51 kw_352 dX11_is_9 rfl dd_X11_bad ⟨rfl, rfl⟩ ⟨by decide, by decide⟩ (Nat.le_of_ble_eq_true rfl) _ rfl (fun q5 s6 => ?_)
    exact sm_iret C dX11_is_12
theorem dd_X11_offer : yX11_offer.cls = RX11 ∧ yX11_offer.cls ≠ "java/lang/invoke/MethodHandle" ∧ yX11_offer.cls ≠ "java/lang/invoke/VarHandle" ∧ (parseMethodDescriptor yX11_offer.desc).map (fun d => d.parameters.length) = some 1 := by decide +kernel
set_option maxRecDepth 100000 in
set_option maxHeartbeats 4000000 in
theorem ct_X11_offer {l : Launch} {w : Wco} (G : GW w) (x1 : Int32) (s0 : Sta) (qq : Int32) (ss : Sta) (hh : X11_offer x1 s0 = some (qq, ss)) : Ct l w yX11_offer (Cond.code yX11_offer cX11_offer 3 (some .int) :: GT) { frames := 5, cells := 0, slots := 0, locals := 139 } [.ref (wad w 0), .int x1] s0 (oI qq) ss := by
  refine ct_of [(0, .ref (wad w 0)), (1, .int x1)] (by decide +kernel) (Nat.le_of_ble_eq_true rfl) rfl hh (fun M _ C => ?_)
  unfold X11_offer
  refine sm_aload_n C 0 dX11_offer_0 rfl ?_
  refine sm_iload_n C 1 dX11_offer_1 rfl ?_
  refine r_callVI C (R := RX11) (T := TX11) (N := 12) [.int x1] (G_N G) rfl (fun qq ss hh => ct_X11_isOne G x1 s0 qq ss hh) kw_594 kw_596 kw_10 kw_51 kw_597 dX11_offer_2 rfl dd_X11_isOne ⟨rfl, rfl⟩ ⟨by decide, by decide⟩ (Nat.le_of_ble_eq_true rfl) _ rfl (fun q1 s2 => ?_)
  refine sm_if_ne C 13 dX11_offer_5 (by decide) ?_ ?_
  · refine sm_iconst C (0 : Int32) dX11_offer_13 ic_0 ?_
    refine sm_bipush C (7 : Int32) dX11_offer_14 bp_7 ?_
    refine sm_aload_n C 0 dX11_offer_16 rfl ?_
    refine sm_getR C (ci := 11) (R := RX11) (T := TX11) (N := 12) (j := 0) (G_N G).2 (G_N G).1 rfl gX11 (by decide) kw_300 dX11_offer_17 (fun _ _ => rfl) ?_
    refine sm_getIN C (ci := 10) (R := RX10) (T := TX10) (N := 13) (j := 11) (V_O (G_now G)).2 (V_O (G_now G)).1 rfl gX10 (by decide) nf_25 dX11_offer_20 (fun _ _ => rfl) (fun v3 => ?_)
    refine sm_isub C dX11_offer_23 ?_
    refine r_max C kw_751 (by decide) (Nat.le_of_ble_eq_true rfl) dX11_offer_24 ?_
    refine sm_istore_n C [(2, .int (if (0 : Int32) < ((7 : Int32) - v3) then ((7 : Int32) - v3) else (0 : Int32))), (0, .ref (wad w 0)), (1, .int x1)] dX11_offer_27 (by decide) rfl ?_
    refine sm_aload_n C 1 dX11_offer_28 rfl ?_
    refine sm_getR C (ci := 11) (R := RX11) (T := TX11) (N := 12) (j := 4) (G_N G).2 (G_N G).1 rfl gX11 (by decide) kw_304 dX11_offer_29 (fun _ _ => rfl) ?_
    refine sm_aload_n C 1 dX11_offer_32 rfl ?_
    refine sm_getR C (ci := 11) (R := RX11) (T := TX11) (N := 12) (j := 4) (G_N G).2 (G_N G).1 rfl gX11 (by decide) kw_304 dX11_offer_33 (fun _ _ => rfl) ?_
    refine sm_aload_n C 1 dX11_offer_36 rfl ?_
    refine sm_getR C (ci := 11) (R := RX11) (T := TX11) (N := 12) (j := 0) (G_N G).2 (G_N G).1 rfl gX11 (by decide) kw_300 dX11_offer_37 (fun _ _ => rfl) ?_
    refine sm_getRN C (ci := 10) (R := RX10) (T := TX10) (N := 13) (j := 8) (V_O (G_now G)).2 (V_O (G_now G)).1 rfl gX10 (by decide) nf_17 dX11_offer_40 (fun _ _ => rfl) ?_
    refine sm_iload_n C 2 dX11_offer_43 rfl ?_
    refine r_callVI C (R := RX0) (T := TX0) (N := 5) [.ref (wad w (1 + 9)), .int x1] (C_O (G_con G)) rfl (fun qq ss hh => ct_X0_kindsThatFit 55 (1 + 9) (G_con G) (V_notes (G_now G)) x1 s2 qq ss hh) kw_735 kw_736 kw_737 kw_55 kw_738 dX11_offer_44 rfl dd_X0_kindsThatFit ⟨rfl, rfl⟩ ⟨by decide, by decide⟩ (Nat.le_of_ble_eq_true rfl) _ rfl (fun q4 s5 => ?_)
    refine sm_iload_n C 0 dX11_offer_47 rfl ?_
    refine r_callVI C (R := RX0) (T := TX0) (N := 5) [.int q4, .int (if (0 : Int32) < ((7 : Int32) - v3) then ((7 : Int32) - v3) else (0 : Int32))] (C_O (G_con G)) rfl (fun qq ss hh => ct_X0_tellingWorth 55 (G_con G) q4 (if (0 : Int32) < ((7 : Int32) - v3) then ((7 : Int32) - v3) else (0 : Int32)) s5 qq ss hh) kw_752 kw_753 kw_754 kw_55 kw_755 dX11_offer_48 rfl dd_X0_tellingWorth ⟨rfl, rfl⟩ ⟨by decide, by decide⟩ (Nat.le_of_ble_eq_true rfl) _ rfl (fun q6 s7 => ?_)
    exact sm_iret C dX11_offer_51
  · refine sm_aload_n C 0 dX11_offer_8 rfl ?_
    refine r_callVI C (R := RX11) (T := TX11) (N := 12) [] (G_N G) rfl (fun qq ss hh => ct_X11_bad G s2 qq ss hh) kw_349 kw_351 kw_0 kw_51 kw_352 dX11_offer_9 rfl dd_X11_bad ⟨rfl, rfl⟩ ⟨by decide, by decide⟩ (Nat.le_of_ble_eq_true rfl) _ rfl (fun q8 s9 => ?_)
    exact sm_iret C dX11_offer_12
