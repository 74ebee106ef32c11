theorem dd_X12_end : yX12_end.cls = RX12 ∧ yX12_end.cls ≠ "java/lang/invoke/MethodHandle" ∧ yX12_end.cls ≠ "java/lang/invoke/VarHandle" ∧ (parseMethodDescriptor yX12_end.desc).map (fun d => d.parameters.length) = some 2 := by decide +kernel
set_option maxRecDepth 100000 in
set_option maxHeartbeats 4000000 in
theorem ct_X12_end {l : Launch} {w : Wco} (G : GW w) (x1 : Int32) (x2 : Int32) (s0 : Sta) (qq : Int32) (ss : Sta) (hh : X12_end x1 x2 s0 = some (qq, ss)) : Ct l w yX12_end (Cond.code yX12_end cX12_end 3 (some .int) :: GT) { frames := 6, cells := 0, slots := 0, locals := 138 } [.ref (wad w 82), .int x1, .int x2] s0 (oI qq) ss := by
  refine ct_of [(0, .ref (wad w 82)), (1, .int x1), (2, .int x2)] (by decide +kernel) (Nat.le_of_ble_eq_true rfl) rfl hh (fun M _ C => ?_)
  unfold X12_end
  refine sm_aload_n C 0 dX12_end_0 rfl ?_
  refine sm_iload_n C 1 dX12_end_1 rfl ?_
  refine r_callVI C (R := RX12) (T := TX12) (N := 21) [.int x1] (G_M G) rfl (fun qq ss hh => ct_X12_isOne G x1 s0 qq ss hh) kw_1029 kw_1031 kw_29 kw_64 kw_1032 dX12_end_2 rfl dd_X12_isOne ⟨rfl, rfl⟩ ⟨by decide, by decide⟩ (Nat.le_of_ble_eq_true rfl) _ rfl (fun q1 s2 => ?_)
  refine sm_if_eq C 18 dX12_end_5 (by decide) ?_ ?_
  · refine sm_aload_n C 0 dX12_end_18 rfl ?_
    refine sm_bipush C (-2 : Int32) dX12_end_19 bp_m2 ?_
    refine r_callVI C (R := RX12) (T := TX12) (N := 21) [.int (-2 : Int32)] (G_M G) rfl (fun qq ss hh => ct_X12_bad G (-2 : Int32) s2 qq ss hh) kw_952 kw_954 kw_18 kw_64 kw_955 dX12_end_21 rfl dd_X12_bad ⟨rfl, rfl⟩ ⟨by decide, by decide⟩ (Nat.le_of_ble_eq_true rfl) _ rfl (fun q3 s4 => ?_)
    exact sm_iret C dX12_end_24
  · refine sm_iload_n C 2 dX12_end_8 rfl ?_
    refine sm_i2l C dX12_end_9 ?_
    refine sm_lconst C (0 : Int64) dX12_end_10 lc_0 ?_
    refine sm_lconst C (1 : Int64) dX12_end_11 lc_1 ?_
    refine r_callSI C [.long x2.toInt64, .long (0 : Int64), .long (1 : Int64)] (fun qq ss hh => ct_X12_in x2.toInt64 (0 : Int64) (1 : Int64) s2 qq ss hh) kw_944 kw_945 kw_64 kw_946 dX12_end_12 rfl dd_X12_in ⟨rfl, rfl⟩ ⟨by decide, by decide⟩ (Nat.le_of_ble_eq_true rfl) _ rfl (fun q5 s6 => ?_)
    refine sm_if_ne C 25 dX12_end_15 (by decide) ?_ ?_
    · refine sm_aload_n C 0 dX12_end_25 rfl ?_
      refine r_callVU C (R := RX12) (T := TX12) (N := 21) [] (G_M G) rfl (fun qq ss hh => ct_X12_layHand G s6 qq ss hh) kw_981 kw_983 kw_22 kw_64 kw_984 dX12_end_26 rfl dd_X12_layHand ⟨rfl, rfl⟩ ⟨by decide, by decide⟩ (Nat.le_of_ble_eq_true rfl) _ rfl (fun q7 s8 => ?_)
      refine sm_aload_n C 0 dX12_end_29 rfl ?_
      refine sm_bipush C (8 : Int32) dX12_end_30 bp_8 ?_
      refine r_callVU C (R := RX12) (T := TX12) (N := 21) [.int (8 : Int32)] (G_M G) rfl (fun qq ss hh => ct_X12_goTill G (8 : Int32) s8 qq ss hh) kw_1050 kw_1052 kw_31 kw_64 kw_1053 dX12_end_32 rfl dd_X12_goTill ⟨rfl, rfl⟩ ⟨by decide, by decide⟩ (Nat.le_of_ble_eq_true rfl) _ rfl (fun q9 s10 => ?_)
      refine sm_iload_n C 2 dX12_end_35 rfl ?_
      refine sm_if_ne C 47 dX12_end_36 (by decide) ?_ ?_
      · refine sm_aload_n C 0 dX12_end_47 rfl ?_
        refine sm_getR C (ci := 12) (R := RX12) (T := TX12) (N := 21) (j := 7) (G_M G).2 (G_M G).1 rfl gX12 (by decide) kw_871 dX12_end_48 (fun _ _ => rfl) ?_
        refine sm_iload_n C 1 dX12_end_51 rfl ?_
        refine r_iald C (G_m88 G) dX12_end_52 (fun v11 => ?_)
        exact sm_iret C dX12_end_53
      · refine sm_aload_n C 0 dX12_end_39 rfl ?_
        refine sm_iload_n C 1 dX12_end_40 rfl ?_
        refine r_callVI C (R := RX12) (T := TX12) (N := 21) [.int x1] (G_M G) rfl (fun qq ss hh => ct_X12_worthOf G x1 s10 qq ss hh) kw_1062 kw_1064 kw_32 kw_64 kw_1065 dX12_end_41 rfl dd_X12_worthOf ⟨rfl, rfl⟩ ⟨by decide, by decide⟩ (Nat.le_of_ble_eq_true rfl) _ rfl (fun q12 s13 => ?_)
        refine sm_goto C 53 dX12_end_44 (by decide) ?_
        exact sm_iret C dX12_end_53
    · refine sm_aload_n C 0 dX12_end_18 rfl ?_
      refine sm_bipush C (-2 : Int32) dX12_end_19 bp_m2 ?_
      refine r_callVI C (R := RX12) (T := TX12) (N := 21) [.int (-2 : Int32)] (G_M G) rfl (fun qq ss hh => ct_X12_bad G (-2 : Int32) s6 qq ss hh) kw_952 kw_954 kw_18 kw_64 kw_955 dX12_end_21 rfl dd_X12_bad ⟨rfl, rfl⟩ ⟨by decide, by decide⟩ (Nat.le_of_ble_eq_true rfl) _ rfl (fun q14 s15 => ?_)
      exact sm_iret C dX12_end_24
theorem dd_X12_left : yX12_left.cls = RX12 ∧ yX12_left.cls ≠ "java/lang/invoke/MethodHandle" ∧ yX12_left.cls ≠ "java/lang/invoke/VarHandle" ∧ (parseMethodDescriptor yX12_left.desc).map (fun d => d.parameters.length) = some 0 := by decide +kernel
set_option maxRecDepth 100000 in
set_option maxHeartbeats 4000000 in
theorem sl_X12_left_L13 {M : Mco} {w : Wco} (C : Cx M w cX12_left 3 yX12_left.cls (Cond.code yX12_left cX12_left 3 (some .int)) (some .int) { frames := 5, cells := 0, slots := 0, locals := 115 }) (G : GW w) : ∀ (n : Nat) (y1 : Int32) (y2 : Int32) (s0 : Sta), Sm M w 3 oI 13 [(0, .ref (wad w 82)), (1, .int y1), (2, .int y2)] [] s0 (X12_left_L13 n y1 y2 s0) := by
  intro n
  induction n with
  | zero => intros; exact sm_none
  | succ n ih =>
    intro y1 y2 s0
    rw [X12_left_L13.eq_2]
    refine sm_iload_n C 2 dX12_left_13 rfl ?_
    refine sm_bipush C (8 : Int32) dX12_left_14 bp_8 ?_
    refine sm_icmp_ge C 54 dX12_left_16 (by decide) ?_ ?_
    · refine sm_iload_n C 1 dX12_left_54 rfl ?_
      exact sm_iret C dX12_left_55
    · refine sm_iload_n C 1 dX12_left_19 rfl ?_
      refine sm_aload_n C 0 dX12_left_20 rfl ?_
      refine sm_iload_n C 2 dX12_left_21 rfl ?_
      refine r_callVI C (R := RX12) (T := TX12) (N := 21) [.int y2] (G_M G) rfl (fun qq ss hh => ct_X12_goYear G y2 s0 qq ss hh) kw_985 kw_987 kw_23 kw_64 kw_988 dX12_left_22 rfl dd_X12_goYear ⟨rfl, rfl⟩ ⟨by decide, by decide⟩ (Nat.le_of_ble_eq_true rfl) _ rfl (fun q4 s5 => ?_)
      refine sm_iconst C (-1 : Int32) dX12_left_25 ic_m1 ?_
      refine sm_icmp_ne C 45 dX12_left_26 (by decide) ?_ ?_
      · refine sm_iconst C (0 : Int32) dX12_left_45 ic_0 ?_
        refine sm_ior C dX12_left_46 ?_
        refine sm_istore_n C [(1, .int (y1 ||| (0 : Int32))), (0, .ref (wad w 82)), (2, .int y2)] dX12_left_47 (by decide) rfl ?_
        refine sm_iinc C 2 (y2 + (1 : Int32)) [(2, .int (y2 + (1 : Int32))), (1, .int (y1 ||| (0 : Int32))), (0, .ref (wad w 82))] dX12_left_48 rfl (ii_1 _) (by decide) rfl ?_
        refine sm_goto C 13 dX12_left_51 (by decide) ?_
        exact sm_sub [2, 1, 0] rfl (ih (y1 ||| (0 : Int32)) (y2 + (1 : Int32)) s5)
      · refine sm_aload_n C 0 dX12_left_29 rfl ?_
        refine sm_getR C (ci := 12) (R := RX12) (T := TX12) (N := 21) (j := 8) (G_M G).2 (G_M G).1 rfl gX12 (by decide) kw_872 dX12_left_30 (fun _ _ => rfl) ?_
        refine sm_iload_n C 2 dX12_left_33 rfl ?_
        refine r_iald C (G_m89 G) dX12_left_34 (fun v6 => ?_)
        refine sm_iconst C (-1 : Int32) dX12_left_35 ic_m1 ?_
        refine sm_icmp_eq C 45 dX12_left_36 (by decide) ?_ ?_
        · refine sm_iconst C (0 : Int32) dX12_left_45 ic_0 ?_
          refine sm_ior C dX12_left_46 ?_
          refine sm_istore_n C [(1, .int (y1 ||| (0 : Int32))), (0, .ref (wad w 82)), (2, .int y2)] dX12_left_47 (by decide) rfl ?_
          refine sm_iinc C 2 (y2 + (1 : Int32)) [(2, .int (y2 + (1 : Int32))), (1, .int (y1 ||| (0 : Int32))), (0, .ref (wad w 82))] dX12_left_48 rfl (ii_1 _) (by decide) rfl ?_
          refine sm_goto C 13 dX12_left_51 (by decide) ?_
          exact sm_sub [2, 1, 0] rfl (ih (y1 ||| (0 : Int32)) (y2 + (1 : Int32)) s5)
        · refine sm_iconst C (1 : Int32) dX12_left_39 ic_1 ?_
          refine sm_iload_n C 2 dX12_left_40 rfl ?_
          refine sm_ishl C dX12_left_41 ?_
          refine sm_goto C 46 dX12_left_42 (by decide) ?_
          refine sm_ior C dX12_left_46 ?_
          refine sm_istore_n C [(1, .int (y1 ||| ((1 : Int32) <<< (y2 &&& 31)))), (0, .ref (wad w 82)), (2, .int y2)] dX12_left_47 (by decide) rfl ?_
          refine sm_iinc C 2 (y2 + (1 : Int32)) [(2, .int (y2 + (1 : Int32))), (1, .int (y1 ||| ((1 : Int32) <<< (y2 &&& 31)))), (0, .ref (wad w 82))] dX12_left_48 rfl (ii_1 _) (by decide) rfl ?_
          refine sm_goto C 13 dX12_left_51 (by decide) ?_
          exact sm_sub [2, 1, 0] rfl (ih (y1 ||| ((1 : Int32) <<< (y2 &&& 31))) (y2 + (1 : Int32)) s5)
set_option maxRecDepth 100000 in
set_option maxHeartbeats 4000000 in
theorem ct_X12_left {l : Launch} {w : Wco} (G : GW w) (s0 : Sta) (qq : Int32) (ss : Sta) (hh : X12_left s0 = some (qq, ss)) : Ct l w yX12_left (Cond.code yX12_left cX12_left 3 (some .int) :: GT) { frames := 5, cells := 0, slots := 0, locals := 115 } [.ref (wad w 82)] s0 (oI qq) ss := by
  refine ct_of [(0, .ref (wad w 82))] (by decide +kernel) (Nat.le_of_ble_eq_true rfl) rfl hh (fun M _ C => ?_)
  unfold X12_left
  refine sm_iconst C (0 : Int32) dX12_left_0 ic_0 ?_
  refine sm_istore_n C [(1, .int (0 : Int32)), (0, .ref (wad w 82))] dX12_left_1 (by decide) rfl ?_
  refine sm_aload_n C 1 dX12_left_2 rfl ?_
  refine r_callVU C (R := RX12) (T := TX12) (N := 21) [] (G_M G) rfl (fun qq ss hh => ct_X12_layHand G s0 qq ss hh) kw_981 kw_983 kw_22 kw_64 kw_984 dX12_left_3 rfl dd_X12_layHand ⟨rfl, rfl⟩ ⟨by decide, by decide⟩ (Nat.le_of_ble_eq_true rfl) _ rfl (fun q1 s2 => ?_)
  refine sm_aload_n C 1 dX12_left_6 rfl ?_
  refine sm_getR C (ci := 12) (R := RX12) (T := TX12) (N := 21) (j := 0) (G_M G).2 (G_M G).1 rfl gX12 (by decide) kw_864 dX12_left_7 (fun _ _ => rfl) ?_
  refine sm_iconst C (4 : Int32) dX12_left_10 ic_4 ?_
  refine r_iald C (G_m83 G) dX12_left_11 (fun v3 => ?_)
  refine sm_istore_n C [(2, .int v3), (1, .int (0 : Int32)), (0, .ref (wad w 82))] dX12_left_12 (by decide) rfl ?_
  exact sm_sub [2, 1, 0] rfl (sl_X12_left_L13 C G FU (0 : Int32) v3 s2)
theorem dd_X12_winsBy : yX12_winsBy.cls = RX12 ∧ yX12_winsBy.cls ≠ "java/lang/invoke/MethodHandle" ∧ yX12_winsBy.cls ≠ "java/lang/invoke/VarHandle" ∧ (parseMethodDescriptor yX12_winsBy.desc).map (fun d => d.parameters.length) = some 2 := by decide +kernel
set_option maxRecDepth 100000 in
set_option maxHeartbeats 4000000 in
theorem ct_X12_winsBy {l : Launch} {w : Wco} (G : GW w) (x1 : Int32) (x2 : Int32) (s0 : Sta) (qq : Int32) (ss : Sta) (hh : X12_winsBy x1 x2 s0 = some (qq, ss)) : Ct l w yX12_winsBy (Cond.code yX12_winsBy cX12_winsBy 4 (some .int) :: GT) { frames := 6, cells := 0, slots := 0, locals := 138 } [.ref (wad w 82), .int x1, .int x2] s0 (oI qq) ss := by
  refine ct_of [(0, .ref (wad w 82)), (1, .int x1), (2, .int x2)] (by decide +kernel) (Nat.le_of_ble_eq_true rfl) rfl hh (fun M _ C => ?_)
  unfold X12_winsBy
  refine sm_aload_n C 0 dX12_winsBy_0 rfl ?_
  refine r_callVU C (R := RX12) (T := TX12) (N := 21) [] (G_M G) rfl (fun qq ss hh => ct_X12_layHand G s0 qq ss hh) kw_981 kw_983 kw_22 kw_64 kw_984 dX12_winsBy_1 rfl dd_X12_layHand ⟨rfl, rfl⟩ ⟨by decide, by decide⟩ (Nat.le_of_ble_eq_true rfl) _ rfl (fun q1 s2 => ?_)
  refine sm_aload_n C 0 dX12_winsBy_4 rfl ?_
  refine sm_iload_n C 1 dX12_winsBy_5 rfl ?_
  refine r_callVI C (R := RX12) (T := TX12) (N := 21) [.int x1] (G_M G) rfl (fun qq ss hh => ct_X12_worthOf G x1 s2 qq ss hh) kw_1062 kw_1064 kw_32 kw_64 kw_1065 dX12_winsBy_6 rfl dd_X12_worthOf ⟨rfl, rfl⟩ ⟨by decide, by decide⟩ (Nat.le_of_ble_eq_true rfl) _ rfl (fun q3 s4 => ?_)
  refine sm_istore_n C [(3, .int q3), (0, .ref (wad w 82)), (1, .int x1), (2, .int x2)] dX12_winsBy_9 (by decide) rfl ?_
  refine sm_aload_n C 1 dX12_winsBy_10 rfl ?_
  refine sm_getR C (ci := 12) (R := RX12) (T := TX12) (N := 21) (j := 10) (G_M G).2 (G_M G).1 rfl gX12 (by decide) kw_874 dX12_winsBy_11 (fun _ _ => rfl) ?_
  refine sm_iload_n C 2 dX12_winsBy_14 rfl ?_
  refine sm_iload_n C 3 dX12_winsBy_15 rfl ?_
  refine r_iast C (G_m91 G) dX12_winsBy_16 (fun s5 => ?_)
  refine sm_aload_n C 1 dX12_winsBy_17 rfl ?_
  refine sm_bipush C (8 : Int32) dX12_winsBy_18 bp_8 ?_
  refine r_callVU C (R := RX12) (T := TX12) (N := 21) [.int (8 : Int32)] (G_M G) rfl (fun qq ss hh => ct_X12_goTill G (8 : Int32) s5 qq ss hh) kw_1050 kw_1052 kw_31 kw_64 kw_1053 dX12_winsBy_20 rfl dd_X12_goTill ⟨rfl, rfl⟩ ⟨by decide, by decide⟩ (Nat.le_of_ble_eq_true rfl) _ rfl (fun q6 s7 => ?_)
  refine sm_aload_n C 1 dX12_winsBy_23 rfl ?_
  refine sm_iload_n C 2 dX12_winsBy_24 rfl ?_
  refine r_callVI C (R := RX12) (T := TX12) (N := 21) [.int x1] (G_M G) rfl (fun qq ss hh => ct_X12_worthOf G x1 s7 qq ss hh) kw_1062 kw_1064 kw_32 kw_64 kw_1065 dX12_winsBy_25 rfl dd_X12_worthOf ⟨rfl, rfl⟩ ⟨by decide, by decide⟩ (Nat.le_of_ble_eq_true rfl) _ rfl (fun q8 s9 => ?_)
  refine sm_iload_n C 0 dX12_winsBy_28 rfl ?_
  refine sm_isub C dX12_winsBy_29 ?_
  exact sm_iret C dX12_winsBy_30
theorem dd_X12_best : yX12_best.cls = RX12 ∧ yX12_best.cls ≠ "java/lang/invoke/MethodHandle" ∧ yX12_best.cls ≠ "java/lang/invoke/VarHandle" ∧ (parseMethodDescriptor yX12_best.desc).map (fun d => d.parameters.length) = some 2 := by decide +kernel
set_option maxRecDepth 100000 in
set_option maxHeartbeats 4000000 in
theorem sl_X12_best_L67 {M : Mco} {w : Wco} (C : Cx M w cX12_best 7 yX12_best.cls (Cond.code yX12_best cX12_best 7 (some .int)) (some .int) { frames := 7, cells := 0, slots := 0, locals := 161 }) (G : GW w) {k38 : Int32 → Int32 → Int32 → Int32 → Int32 → Sta → Option (Int32 × Sta)} (H38 : ∀ (y1 : Int32) (y2 : Int32) (y3 : Int32) (y4 : Int32) (y5 : Int32) (s0 : Sta), Sm M w 7 oI 38 [(0, .ref (wad w 82)), (1, .int y1), (2, .int y2), (3, .int y3), (4, .int y4), (5, .int y5)] [] s0 (k38 y1 y2 y3 y4 y5 s0)) : ∀ (y1 : Int32) (y2 : Int32) (y4 : Int32) (y5 : Int32) (y6 : Int32) (z0 : Int32) (s0 : Sta), Sm M w 7 oI 67 [(0, .ref (wad w 82)), (1, .int y1), (2, .int y2), (4, .int y4), (5, .int y5), (6, .int y6)] [.int z0] s0 (X12_best_L67 k38 y1 y2 y4 y5 y6 z0 s0) := by
  intro y1 y2 y4 y5 y6 z0 s0
  unfold X12_best_L67
  refine sm_istore_n C [(3, .int z0), (0, .ref (wad w 82)), (1, .int y1), (2, .int y2), (4, .int y4), (5, .int y5), (6, .int y6)] dX12_best_67 (by decide) rfl ?_
  refine sm_iload C 6 dX12_best_68 rfl ?_
  refine sm_iload C 4 dX12_best_70 rfl ?_
  refine sm_icmp_le C 80 dX12_best_72 (by decide) ?_ ?_
  · refine sm_iload C 4 dX12_best_80 rfl ?_
    refine sm_istore C [(4, .int y4), (3, .int z0), (0, .ref (wad w 82)), (1, .int y1), (2, .int y2), (5, .int y5), (6, .int y6)] dX12_best_82 (by decide) rfl ?_
    refine sm_iinc C 5 (y5 + (1 : Int32)) [(5, .int (y5 + (1 : Int32))), (4, .int y4), (3, .int z0), (0, .ref (wad w 82)), (1, .int y1), (2, .int y2), (6, .int y6)] dX12_best_84 rfl (ii_1 _) (by decide) rfl ?_
    refine sm_goto C 38 dX12_best_87 (by decide) ?_
    exact sm_sub [3, 4, 5, 2, 1, 0] rfl (H38 y1 y2 z0 y4 (y5 + (1 : Int32)) s0)
  · refine sm_iload C 6 dX12_best_75 rfl ?_
    refine sm_goto C 82 dX12_best_77 (by decide) ?_
    refine sm_istore C [(4, .int y6), (3, .int z0), (0, .ref (wad w 82)), (1, .int y1), (2, .int y2), (5, .int y5), (6, .int y6)] dX12_best_82 (by decide) rfl ?_
    refine sm_iinc C 5 (y5 + (1 : Int32)) [(5, .int (y5 + (1 : Int32))), (4, .int y6), (3, .int z0), (0, .ref (wad w 82)), (1, .int y1), (2, .int y2), (6, .int y6)] dX12_best_84 rfl (ii_1 _) (by decide) rfl ?_
    refine sm_goto C 38 dX12_best_87 (by decide) ?_
    exact sm_sub [3, 4, 5, 2, 1, 0] rfl (H38 y1 y2 z0 y6 (y5 + (1 : Int32)) s0)
set_option maxRecDepth 100000 in
set_option maxHeartbeats 4000000 in
theorem sl_X12_best_L38 {M : Mco} {w : Wco} (C : Cx M w cX12_best 7 yX12_best.cls (Cond.code yX12_best cX12_best 7 (some .int)) (some .int) { frames := 7, cells := 0, slots := 0, locals := 161 }) (G : GW w) : ∀ (n : Nat) (y1 : Int32) (y2 : Int32) (y3 : Int32) (y4 : Int32) (y5 : Int32) (s0 : Sta), Sm M w 7 oI 38 [(0, .ref (wad w 82)), (1, .int y1), (2, .int y2), (3, .int y3), (4, .int y4), (5, .int y5)] [] s0 (X12_best_L38 n y1 y2 y3 y4 y5 s0) := by
  intro n
  induction n with
  | zero => intros; exact sm_none
  | succ n ih =>
    intro y1 y2 y3 y4 y5 s0
    rw [X12_best_L38.eq_2]
    refine sm_iload C 5 dX12_best_38 rfl ?_
    refine sm_bipush C (8 : Int32) dX12_best_40 bp_8 ?_
    refine sm_icmp_ge C 90 dX12_best_42 (by decide) ?_ ?_
    · refine sm_iload_n C 2 dX12_best_90 rfl ?_
      refine sm_if_eq C 99 dX12_best_91 (by decide) ?_ ?_
      · refine sm_iload_n C 3 dX12_best_99 rfl ?_
        refine sm_goto C 105 dX12_best_100 (by decide) ?_
        exact sm_iret C dX12_best_105
      · refine sm_iload_n C 3 dX12_best_94 rfl ?_
        refine sm_iconst C (-1 : Int32) dX12_best_95 ic_m1 ?_
        refine sm_icmp_ne C 103 dX12_best_96 (by decide) ?_ ?_
        · refine sm_iload C 4 dX12_best_103 rfl ?_
          exact sm_iret C dX12_best_105
        · refine sm_iload_n C 3 dX12_best_99 rfl ?_
          refine sm_goto C 105 dX12_best_100 (by decide) ?_
          exact sm_iret C dX12_best_105
    · refine sm_aload_n C 0 dX12_best_45 rfl ?_
      refine sm_iload_n C 1 dX12_best_46 rfl ?_
      refine sm_iload C 5 dX12_best_47 rfl ?_
      refine r_callVI C (R := RX12) (T := TX12) (N := 21) [.int y1, .int y5] (G_M G) rfl (fun qq ss hh => ct_X12_winsBy G y1 y5 s0 qq ss hh) kw_1077 kw_1079 kw_33 kw_64 kw_1080 dX12_best_49 rfl dd_X12_winsBy ⟨rfl, rfl⟩ ⟨by decide, by decide⟩ (Nat.le_of_ble_eq_true rfl) _ rfl (fun q10 s11 => ?_)
      refine sm_istore C [(6, .int q10), (0, .ref (wad w 82)), (1, .int y1), (2, .int y2), (3, .int y3), (4, .int y4), (5, .int y5)] dX12_best_52 (by decide) rfl ?_
      refine sm_iload C 0 dX12_best_54 rfl ?_
      refine sm_iload C 5 dX12_best_56 rfl ?_
      refine sm_icmp_le C 66 dX12_best_58 (by decide) ?_ ?_
      · refine sm_iload_n C 4 dX12_best_66 rfl ?_
        exact sm_sub [1, 2, 3, 5, 6, 0] rfl (sl_X12_best_L67 C G ih y1 y2 y4 y5 q10 y3 s11)
      · refine sm_iload C 6 dX12_best_61 rfl ?_
        refine sm_goto C 67 dX12_best_63 (by decide) ?_
        exact sm_sub [1, 2, 3, 5, 6, 0] rfl (sl_X12_best_L67 C G ih y1 y2 y4 y5 q10 y5 s11)
set_option maxRecDepth 100000 in
set_option maxHeartbeats 4000000 in
theorem ct_X12_best {l : Launch} {w : Wco} (G : GW w) (x1 : Int32) (x2 : Int32) (s0 : Sta) (qq : Int32) (ss : Sta) (hh : X12_best x1 x2 s0 = some (qq, ss)) : Ct l w yX12_best (Cond.code yX12_best cX12_best 7 (some .int) :: GT) { frames := 7, cells := 0, slots := 0, locals := 161 } [.ref (wad w 82), .int x1, .int x2] s0 (oI qq) ss := by
  refine ct_of [(0, .ref (wad w 82)), (1, .int x1), (2, .int x2)] (by decide +kernel) (Nat.le_of_ble_eq_true rfl) rfl hh (fun M _ C => ?_)
  unfold X12_best
  refine sm_aload_n C 0 dX12_best_0 rfl ?_
  refine sm_iload_n C 1 dX12_best_1 rfl ?_
  refine r_callVI C (R := RX12) (T := TX12) (N := 21) [.int x1] (G_M G) rfl (fun qq ss hh => ct_X12_isOne G x1 s0 qq ss hh) kw_1029 kw_1031 kw_29 kw_64 kw_1032 dX12_best_2 rfl dd_X12_isOne ⟨rfl, rfl⟩ ⟨by decide, by decide⟩ (Nat.le_of_ble_eq_true rfl) _ rfl (fun q1 s2 => ?_)
  refine sm_if_eq C 18 dX12_best_5 (by decide) ?_ ?_
  · refine sm_aload_n C 0 dX12_best_18 rfl ?_
    refine sm_bipush C (-2 : Int32) dX12_best_19 bp_m2 ?_
    refine r_callVI C (R := RX12) (T := TX12) (N := 21) [.int (-2 : Int32)] (G_M G) rfl (fun qq ss hh => ct_X12_bad G (-2 : Int32) s2 qq ss hh) kw_952 kw_954 kw_18 kw_64 kw_955 dX12_best_21 rfl dd_X12_bad ⟨rfl, rfl⟩ ⟨by decide, by decide⟩ (Nat.le_of_ble_eq_true rfl) _ rfl (fun q3 s4 => ?_)
    exact sm_iret C dX12_best_24
  · refine sm_iload_n C 2 dX12_best_8 rfl ?_
    refine sm_i2l C dX12_best_9 ?_
    refine sm_lconst C (0 : Int64) dX12_best_10 lc_0 ?_
    refine sm_lconst C (1 : Int64) dX12_best_11 lc_1 ?_
    refine r_callSI C [.long x2.toInt64, .long (0 : Int64), .long (1 : Int64)] (fun qq ss hh => ct_X12_in x2.toInt64 (0 : Int64) (1 : Int64) s2 qq ss hh) kw_944 kw_945 kw_64 kw_946 dX12_best_12 rfl dd_X12_in ⟨rfl, rfl⟩ ⟨by decide, by decide⟩ (Nat.le_of_ble_eq_true rfl) _ rfl (fun q5 s6 => ?_)
    refine sm_if_ne C 25 dX12_best_15 (by decide) ?_ ?_
    · refine sm_iconst C (-1 : Int32) dX12_best_25 ic_m1 ?_
      refine sm_istore_n C [(3, .int (-1 : Int32)), (0, .ref (wad w 82)), (1, .int x1), (2, .int x2)] dX12_best_26 (by decide) rfl ?_
      refine sm_iconst C (0 : Int32) dX12_best_27 ic_0 ?_
      refine sm_istore C [(4, .int (0 : Int32)), (3, .int (-1 : Int32)), (0, .ref (wad w 82)), (1, .int x1), (2, .int x2)] dX12_best_28 (by decide) rfl ?_
      refine sm_aload_n C 2 dX12_best_30 rfl ?_
      refine sm_getR C (ci := 12) (R := RX12) (T := TX12) (N := 21) (j := 0) (G_M G).2 (G_M G).1 rfl gX12 (by decide) kw_864 dX12_best_31 (fun _ _ => rfl) ?_
      refine sm_iconst C (4 : Int32) dX12_best_34 ic_4 ?_
      refine r_iald C (G_m83 G) dX12_best_35 (fun v7 => ?_)
      refine sm_istore C [(5, .int v7), (4, .int (0 : Int32)), (3, .int (-1 : Int32)), (0, .ref (wad w 82)), (1, .int x1), (2, .int x2)] dX12_best_36 (by decide) rfl ?_
      exact sm_sub [3, 4, 5, 2, 1, 0] rfl (sl_X12_best_L38 C G FU x1 x2 (-1 : Int32) (0 : Int32) v7 s6)
    · refine sm_aload_n C 0 dX12_best_18 rfl ?_
      refine sm_bipush C (-2 : Int32) dX12_best_19 bp_m2 ?_
      refine r_callVI C (R := RX12) (T := TX12) (N := 21) [.int (-2 : Int32)] (G_M G) rfl (fun qq ss hh => ct_X12_bad G (-2 : Int32) s6 qq ss hh) kw_952 kw_954 kw_18 kw_64 kw_955 dX12_best_21 rfl dd_X12_bad ⟨rfl, rfl⟩ ⟨by decide, by decide⟩ (Nat.le_of_ble_eq_true rfl) _ rfl (fun q8 s9 => ?_)
      exact sm_iret C dX12_best_24
theorem dd_X12_rests : yX12_rests.cls = RX12 ∧ yX12_rests.cls ≠ "java/lang/invoke/MethodHandle" ∧ yX12_rests.cls ≠ "java/lang/invoke/VarHandle" ∧ (parseMethodDescriptor yX12_rests.desc).map (fun d => d.parameters.length) = some 2 := by decide +kernel
set_option maxRecDepth 100000 in
set_option maxHeartbeats 4000000 in
theorem sl_X12_rests_L10 {M : Mco} {w : Wco} (C : Cx M w cX12_rests 5 yX12_rests.cls (Cond.code yX12_rests cX12_rests 5 (some .boolean)) (some .boolean) { frames := 0, cells := 0, slots := 0, locals := 0 }) (G : GW w) : ∀ (n : Nat) (y1 : Int32) (y2 : Int32) (y3 : Int32) (y4 : Int32) (s0 : Sta), Sm M w 5 oI 10 [(0, .ref (wad w 82)), (1, .int y1), (2, .int y2), (3, .int y3), (4, .int y4)] [] s0 (X12_rests_L10 n y1 y2 y3 y4 s0) := by
  intro n
  induction n with
  | zero => intros; exact sm_none
  | succ n ih =>
    intro y1 y2 y3 y4 s0
    rw [X12_rests_L10.eq_2]
    refine sm_iload C 4 dX12_rests_10 rfl ?_
    refine sm_bipush C (8 : Int32) dX12_rests_12 bp_8 ?_
    refine sm_icmp_ge C 85 dX12_rests_14 (by decide) ?_ ?_
    · refine sm_iload_n C 3 dX12_rests_85 rfl ?_
      exact sm_zret C dX12_rests_86
    · refine sm_iload_n C 3 dX12_rests_17 rfl ?_
      refine sm_if_eq C 77 dX12_rests_18 (by decide) ?_ ?_
      · refine sm_iconst C (0 : Int32) dX12_rests_77 ic_0 ?_
        refine sm_istore_n C [(3, .int (0 : Int32)), (0, .ref (wad w 82)), (1, .int y1), (2, .int y2), (4, .int y4)] dX12_rests_78 (by decide) rfl ?_
        refine sm_iinc C 4 (y4 + (1 : Int32)) [(4, .int (y4 + (1 : Int32))), (3, .int (0 : Int32)), (0, .ref (wad w 82)), (1, .int y1), (2, .int y2)] dX12_rests_79 rfl (ii_1 _) (by decide) rfl ?_
        refine sm_goto C 10 dX12_rests_82 (by decide) ?_
        exact sm_sub [2, 3, 4, 1, 0] rfl (ih y1 y2 (0 : Int32) (y4 + (1 : Int32)) s0)
      · refine sm_aload_n C 0 dX12_rests_21 rfl ?_
        refine sm_getR C (ci := 12) (R := RX12) (T := TX12) (N := 21) (j := 11) (G_M G).2 (G_M G).1 rfl gX12 (by decide) kw_875 dX12_rests_22 (fun _ _ => rfl) ?_
        refine sm_bipush C (8 : Int32) dX12_rests_25 bp_8 ?_
        refine sm_iload C 4 dX12_rests_27 rfl ?_
        refine sm_imul C dX12_rests_29 ?_
        refine sm_iload_n C 2 dX12_rests_30 rfl ?_
        refine sm_iadd C dX12_rests_31 ?_
        refine r_iald C (G_m92 G) dX12_rests_32 (fun v2 => ?_)
        refine sm_aload_n C 0 dX12_rests_33 rfl ?_
        refine sm_getR C (ci := 12) (R := RX12) (T := TX12) (N := 21) (j := 11) (G_M G).2 (G_M G).1 rfl gX12 (by decide) kw_875 dX12_rests_34 (fun _ _ => rfl) ?_
        refine sm_bipush C (8 : Int32) dX12_rests_37 bp_8 ?_
        refine sm_iload_n C 1 dX12_rests_39 rfl ?_
        refine sm_imul C dX12_rests_40 ?_
        refine sm_iload_n C 2 dX12_rests_41 rfl ?_
        refine sm_iadd C dX12_rests_42 ?_
        refine r_iald C (G_m92 G) dX12_rests_43 (fun v3 => ?_)
        refine sm_icmp_gt C 77 dX12_rests_44 (by decide) ?_ ?_
        · refine sm_iconst C (0 : Int32) dX12_rests_77 ic_0 ?_
          refine sm_istore_n C [(3, .int (0 : Int32)), (0, .ref (wad w 82)), (1, .int y1), (2, .int y2), (4, .int y4)] dX12_rests_78 (by decide) rfl ?_
          refine sm_iinc C 4 (y4 + (1 : Int32)) [(4, .int (y4 + (1 : Int32))), (3, .int (0 : Int32)), (0, .ref (wad w 82)), (1, .int y1), (2, .int y2)] dX12_rests_79 rfl (ii_1 _) (by decide) rfl ?_
          refine sm_goto C 10 dX12_rests_82 (by decide) ?_
          exact sm_sub [2, 3, 4, 1, 0] rfl (ih y1 y2 (0 : Int32) (y4 + (1 : Int32)) s0)
        · refine sm_aload_n C 0 dX12_rests_47 rfl ?_
          refine sm_getR C (ci := 12) (R := RX12) (T := TX12) (N := 21) (j := 12) (G_M G).2 (G_M G).1 rfl gX12 (by decide) kw_876 dX12_rests_48 (fun _ _ => rfl) ?_
          refine sm_bipush C (8 : Int32) dX12_rests_51 bp_8 ?_
          refine sm_iload_n C 1 dX12_rests_53 rfl ?_
          refine sm_imul C dX12_rests_54 ?_
          refine sm_iload C 4 dX12_rests_55 rfl ?_
          refine sm_iadd C dX12_rests_57 ?_
          refine r_iald C (G_m93 G) dX12_rests_58 (fun v4 => ?_)
          refine sm_aload_n C 0 dX12_rests_59 rfl ?_
          refine sm_getR C (ci := 12) (R := RX12) (T := TX12) (N := 21) (j := 12) (G_M G).2 (G_M G).1 rfl gX12 (by decide) kw_876 dX12_rests_60 (fun _ _ => rfl) ?_
          refine sm_bipush C (8 : Int32) dX12_rests_63 bp_8 ?_
          refine sm_iload_n C 1 dX12_rests_65 rfl ?_
          refine sm_imul C dX12_rests_66 ?_
          refine sm_iload_n C 2 dX12_rests_67 rfl ?_
          refine sm_iadd C dX12_rests_68 ?_
          refine r_iald C (G_m93 G) dX12_rests_69 (fun v5 => ?_)
          refine sm_icmp_gt C 77 dX12_rests_70 (by decide) ?_ ?_
          · refine sm_iconst C (0 : Int32) dX12_rests_77 ic_0 ?_
            refine sm_istore_n C [(3, .int (0 : Int32)), (0, .ref (wad w 82)), (1, .int y1), (2, .int y2), (4, .int y4)] dX12_rests_78 (by decide) rfl ?_
            refine sm_iinc C 4 (y4 + (1 : Int32)) [(4, .int (y4 + (1 : Int32))), (3, .int (0 : Int32)), (0, .ref (wad w 82)), (1, .int y1), (2, .int y2)] dX12_rests_79 rfl (ii_1 _) (by decide) rfl ?_
            refine sm_goto C 10 dX12_rests_82 (by decide) ?_
            exact sm_sub [2, 3, 4, 1, 0] rfl (ih y1 y2 (0 : Int32) (y4 + (1 : Int32)) s0)
          · refine sm_iconst C (1 : Int32) dX12_rests_73 ic_1 ?_
            refine sm_goto C 78 dX12_rests_74 (by decide) ?_
            refine sm_istore_n C [(3, .int (1 : Int32)), (0, .ref (wad w 82)), (1, .int y1), (2, .int y2), (4, .int y4)] dX12_rests_78 (by decide) rfl ?_
            refine sm_iinc C 4 (y4 + (1 : Int32)) [(4, .int (y4 + (1 : Int32))), (3, .int (1 : Int32)), (0, .ref (wad w 82)), (1, .int y1), (2, .int y2)] dX12_rests_79 rfl (ii_1 _) (by decide) rfl ?_
            refine sm_goto C 10 dX12_rests_82 (by decide) ?_
            exact sm_sub [2, 3, 4, 1, 0] rfl (ih y1 y2 (1 : Int32) (y4 + (1 : Int32)) s0)
set_option maxRecDepth 100000 in
set_option maxHeartbeats 4000000 in
theorem ct_X12_rests {l : Launch} {w : Wco} (G : GW w) (x1 : Int32) (x2 : Int32) (s0 : Sta) (qq : Int32) (ss : Sta) (hh : X12_rests x1 x2 s0 = some (qq, ss)) : Ct l w yX12_rests (Cond.code yX12_rests cX12_rests 5 (some .boolean) :: GT) { frames := 0, cells := 0, slots := 0, locals := 0 } [.ref (wad w 82), .int x1, .int x2] s0 (oI qq) ss := by
  refine ct_of [(0, .ref (wad w 82)), (1, .int x1), (2, .int x2)] (by decide +kernel) (Nat.le_of_ble_eq_true rfl) rfl hh (fun M _ C => ?_)
  unfold X12_rests
  refine sm_iconst C (1 : Int32) dX12_rests_0 ic_1 ?_
  refine sm_istore_n C [(3, .int (1 : Int32)), (0, .ref (wad w 82)), (1, .int x1), (2, .int x2)] dX12_rests_1 (by decide) rfl ?_
  refine sm_aload_n C 1 dX12_rests_2 rfl ?_
  refine sm_getR C (ci := 12) (R := RX12) (T := TX12) (N := 21) (j := 0) (G_M G).2 (G_M G).1 rfl gX12 (by decide) kw_864 dX12_rests_3 (fun _ _ => rfl) ?_
  refine sm_iconst C (4 : Int32) dX12_rests_6 ic_4 ?_
  refine r_iald C (G_m83 G) dX12_rests_7 (fun v1 => ?_)
  refine sm_istore C [(4, .int v1), (3, .int (1 : Int32)), (0, .ref (wad w 82)), (1, .int x1), (2, .int x2)] dX12_rests_8 (by decide) rfl ?_
  exact sm_sub [2, 3, 4, 1, 0] rfl (sl_X12_rests_L10 C G FU x1 x2 (1 : Int32) v1 s0)
theorem dd_X12_rivals : yX12_rivals.cls = RX12 ∧ yX12_rivals.cls ≠ "java/lang/invoke/MethodHandle" ∧ yX12_rivals.cls ≠ "java/lang/invoke/VarHandle" ∧ (parseMethodDescriptor yX12_rivals.desc).map (fun d => d.parameters.length) = some 3 := by decide +kernel
set_option maxRecDepth 100000 in
set_option maxHeartbeats 4000000 in
theorem sl_X12_rivals_L211 {M : Mco} {w : Wco} (C : Cx M w cX12_rivals 8 yX12_rivals.cls (Cond.code yX12_rivals cX12_rivals 8 (some .int)) (some .int) { frames := 6, cells := 0, slots := 0, locals := 138 }) (G : GW w) {k196 : Int32 → Int32 → Int32 → Int32 → Sta → Option (Int32 × Sta)} (H196 : ∀ (y3 : Int32) (y4 : Int32) (y5 : Int32) (y6 : Int32) (s0 : Sta), Sm M w 8 oI 196 [(0, .ref (wad w 82)), (3, .int y3), (4, .int y4), (5, .int y5), (6, .int y6)] [] s0 (k196 y3 y4 y5 y6 s0)) : ∀ (n : Nat) (y3 : Int32) (y4 : Int32) (y5 : Int32) (y6 : Int32) (y7 : Int32) (s0 : Sta), Sm M w 8 oI 211 [(0, .ref (wad w 82)), (3, .int y3), (4, .int y4), (5, .int y5), (6, .int y6), (7, .int y7)] [] s0 (X12_rivals_L211 k196 n y3 y4 y5 y6 y7 s0) := by
  intro n
  induction n with
  | zero => intros; exact sm_none
  | succ n ih =>
    intro y3 y4 y5 y6 y7 s0
    rw [X12_rivals_L211.eq_2]
    refine sm_iload C 5 dX12_rivals_211 rfl ?_
    refine sm_bipush C (8 : Int32) dX12_rivals_213 bp_8 ?_
    refine sm_icmp_ge C 259 dX12_rivals_215 (by decide) ?_ ?_
    · refine sm_iinc C 4 (y6 + (1 : Int32)) [(6, .int (y6 + (1 : Int32))), (0, .ref (wad w 82)), (3, .int y3), (4, .int y4), (5, .int y5), (7, .int y7)] dX12_rivals_259 rfl (ii_1 _) (by decide) rfl ?_
      refine sm_goto C 196 dX12_rivals_262 (by decide) ?_
      exact sm_sub [1, 2, 3, 4, 0] rfl (H196 y3 y4 y5 (y6 + (1 : Int32)) s0)
    · refine sm_aload_n C 0 dX12_rivals_218 rfl ?_
      refine sm_iload C 4 dX12_rivals_219 rfl ?_
      refine sm_iload C 5 dX12_rivals_221 rfl ?_
      refine r_callVI C (R := RX12) (T := TX12) (N := 21) [.int y6, .int y7] (G_M G) rfl (fun qq ss hh => ct_X12_rests G y6 y7 s0 qq ss hh) kw_1085 kw_1087 kw_34 kw_64 kw_1088 dX12_rivals_223 rfl dd_X12_rests ⟨rfl, rfl⟩ ⟨by decide, by decide⟩ (Nat.le_of_ble_eq_true rfl) _ rfl (fun q37 s38 => ?_)
      refine sm_if_eq C 253 dX12_rivals_226 (by decide) ?_ ?_
      · refine sm_iinc C 5 (y7 + (1 : Int32)) [(7, .int (y7 + (1 : Int32))), (0, .ref (wad w 82)), (3, .int y3), (4, .int y4), (5, .int y5), (6, .int y6)] dX12_rivals_253 rfl (ii_1 _) (by decide) rfl ?_
        refine sm_goto C 211 dX12_rivals_256 (by decide) ?_
        exact sm_sub [1, 2, 3, 4, 5, 0] rfl (ih y3 y4 y5 y6 (y7 + (1 : Int32)) s38)
      · refine sm_iload C 2 dX12_rivals_229 rfl ?_
        refine sm_iload_n C 1 dX12_rivals_231 rfl ?_
        refine sm_icmp_ne C 246 dX12_rivals_232 (by decide) ?_ ?_
        · refine sm_iload C 3 dX12_rivals_246 rfl ?_
          refine sm_istore C [(5, .int y5), (0, .ref (wad w 82)), (3, .int y3), (4, .int y4), (6, .int y6), (7, .int y7)] dX12_rivals_248 (by decide) rfl ?_
          refine sm_iinc C 3 (y4 + (1 : Int32)) [(4, .int (y4 + (1 : Int32))), (5, .int y5), (0, .ref (wad w 82)), (3, .int y3), (6, .int y6), (7, .int y7)] dX12_rivals_250 rfl (ii_1 _) (by decide) rfl ?_
          refine sm_iinc C 5 (y7 + (1 : Int32)) [(7, .int (y7 + (1 : Int32))), (4, .int (y4 + (1 : Int32))), (5, .int y5), (0, .ref (wad w 82)), (3, .int y3), (6, .int y6)] dX12_rivals_253 rfl (ii_1 _) (by decide) rfl ?_
          refine sm_goto C 211 dX12_rivals_256 (by decide) ?_
          exact sm_sub [3, 4, 1, 2, 5, 0] rfl (ih y3 (y4 + (1 : Int32)) y5 y6 (y7 + (1 : Int32)) s38)
        · refine sm_bipush C (8 : Int32) dX12_rivals_235 bp_8 ?_
          refine sm_iload C 4 dX12_rivals_237 rfl ?_
          refine sm_imul C dX12_rivals_239 ?_
          refine sm_iload C 5 dX12_rivals_240 rfl ?_
          refine sm_iadd C dX12_rivals_242 ?_
          refine sm_goto C 248 dX12_rivals_243 (by decide) ?_
          refine sm_istore C [(5, .int (((8 : Int32) * y6) + y7)), (0, .ref (wad w 82)), (3, .int y3), (4, .int y4), (6, .int y6), (7, .int y7)] dX12_rivals_248 (by decide) rfl ?_
          refine sm_iinc C 3 (y4 + (1 : Int32)) [(4, .int (y4 + (1 : Int32))), (5, .int (((8 : Int32) * y6) + y7)), (0, .ref (wad w 82)), (3, .int y3), (6, .int y6), (7, .int y7)] dX12_rivals_250 rfl (ii_1 _) (by decide) rfl ?_
          refine sm_iinc C 5 (y7 + (1 : Int32)) [(7, .int (y7 + (1 : Int32))), (4, .int (y4 + (1 : Int32))), (5, .int (((8 : Int32) * y6) + y7)), (0, .ref (wad w 82)), (3, .int y3), (6, .int y6)] dX12_rivals_253 rfl (ii_1 _) (by decide) rfl ?_
          refine sm_goto C 211 dX12_rivals_256 (by decide) ?_
          exact sm_sub [3, 4, 1, 2, 5, 0] rfl (ih y3 (y4 + (1 : Int32)) (((8 : Int32) * y6) + y7) y6 (y7 + (1 : Int32)) s38)
set_option maxRecDepth 100000 in
set_option maxHeartbeats 4000000 in
theorem sl_X12_rivals_L196 {M : Mco} {w : Wco} (C : Cx M w cX12_rivals 8 yX12_rivals.cls (Cond.code yX12_rivals cX12_rivals 8 (some .int)) (some .int) { frames := 6, cells := 0, slots := 0, locals := 138 }) (G : GW w) : ∀ (n : Nat) (y3 : Int32) (y4 : Int32) (y5 : Int32) (y6 : Int32) (s0 : Sta), Sm M w 8 oI 196 [(0, .ref (wad w 82)), (3, .int y3), (4, .int y4), (5, .int y5), (6, .int y6)] [] s0 (X12_rivals_L196 n y3 y4 y5 y6 s0) := by
  intro n
  induction n with
  | zero => intros; exact sm_none
  | succ n ih =>
    intro y3 y4 y5 y6 s0
    rw [X12_rivals_L196.eq_2]
    refine sm_iload C 4 dX12_rivals_196 rfl ?_
    refine sm_bipush C (8 : Int32) dX12_rivals_198 bp_8 ?_
    refine sm_icmp_ge C 265 dX12_rivals_200 (by decide) ?_ ?_
    · refine sm_iload_n C 1 dX12_rivals_265 rfl ?_
      refine sm_iconst C (-1 : Int32) dX12_rivals_266 ic_m1 ?_
      refine sm_icmp_ne C 275 dX12_rivals_267 (by decide) ?_ ?_
      · refine sm_iload C 3 dX12_rivals_275 rfl ?_
        exact sm_iret C dX12_rivals_277
      · refine sm_iload C 2 dX12_rivals_270 rfl ?_
        refine sm_goto C 277 dX12_rivals_272 (by decide) ?_
        exact sm_iret C dX12_rivals_277
    · refine sm_aload_n C 0 dX12_rivals_203 rfl ?_
      refine sm_getR C (ci := 12) (R := RX12) (T := TX12) (N := 21) (j := 0) (G_M G).2 (G_M G).1 rfl gX12 (by decide) kw_864 dX12_rivals_204 (fun _ _ => rfl) ?_
      refine sm_iconst C (4 : Int32) dX12_rivals_207 ic_4 ?_
      refine r_iald C (G_m83 G) dX12_rivals_208 (fun v36 => ?_)
      refine sm_istore C [(7, .int v36), (0, .ref (wad w 82)), (3, .int y3), (4, .int y4), (5, .int y5), (6, .int y6)] dX12_rivals_209 (by decide) rfl ?_
      exact sm_sub [1, 2, 3, 4, 5, 0] rfl (sl_X12_rivals_L211 C G ih FU y3 y4 y5 y6 v36 s0)
set_option maxRecDepth 100000 in
set_option maxHeartbeats 4000000 in
theorem sl_X12_rivals_L56 {M : Mco} {w : Wco} (C : Cx M w cX12_rivals 8 yX12_rivals.cls (Cond.code yX12_rivals cX12_rivals 8 (some .int)) (some .int) { frames := 6, cells := 0, slots := 0, locals := 138 }) (G : GW w) {k41 : Int32 → Int32 → Int32 → Int32 → Sta → Option (Int32 × Sta)} (H41 : ∀ (y1 : Int32) (y2 : Int32) (y3 : Int32) (y4 : Int32) (s0 : Sta), Sm M w 8 oI 41 [(0, .ref (wad w 82)), (1, .int y1), (2, .int y2), (3, .int y3), (4, .int y4)] [] s0 (k41 y1 y2 y3 y4 s0)) : ∀ (n : Nat) (y1 : Int32) (y2 : Int32) (y3 : Int32) (y4 : Int32) (y5 : Int32) (s0 : Sta), Sm M w 8 oI 56 [(0, .ref (wad w 82)), (1, .int y1), (2, .int y2), (3, .int y3), (4, .int y4), (5, .int y5)] [] s0 (X12_rivals_L56 k41 n y1 y2 y3 y4 y5 s0) := by
  intro n
  induction n with
  | zero => intros; exact sm_none
  | succ n ih =>
    intro y1 y2 y3 y4 y5 s0
    rw [X12_rivals_L56.eq_2]
    refine sm_iload C 5 dX12_rivals_56 rfl ?_
    refine sm_bipush C (8 : Int32) dX12_rivals_58 bp_8 ?_
    refine sm_icmp_ge C 175 dX12_rivals_60 (by decide) ?_ ?_
    · refine sm_iinc C 4 (y4 + (1 : Int32)) [(4, .int (y4 + (1 : Int32))), (0, .ref (wad w 82)), (1, .int y1), (2, .int y2), (3, .int y3), (5, .int y5)] dX12_rivals_175 rfl (ii_1 _) (by decide) rfl ?_
      refine sm_goto C 41 dX12_rivals_178 (by decide) ?_
      exact sm_sub [1, 2, 3, 4, 0] rfl (H41 y1 y2 y3 (y4 + (1 : Int32)) s0)
    · refine sm_aload_n C 0 dX12_rivals_63 rfl ?_
      refine r_callVU C (R := RX12) (T := TX12) (N := 21) [] (G_M G) rfl (fun qq ss hh => ct_X12_layHand G s0 qq ss hh) kw_981 kw_983 kw_22 kw_64 kw_984 dX12_rivals_64 rfl dd_X12_layHand ⟨rfl, rfl⟩ ⟨by decide, by decide⟩ (Nat.le_of_ble_eq_true rfl) _ rfl (fun q16 s17 => ?_)
      refine sm_aload_n C 0 dX12_rivals_67 rfl ?_
      refine sm_getR C (ci := 12) (R := RX12) (T := TX12) (N := 21) (j := 11) (G_M G).2 (G_M G).1 rfl gX12 (by decide) kw_875 dX12_rivals_68 (fun _ _ => rfl) ?_
      refine sm_bipush C (8 : Int32) dX12_rivals_71 bp_8 ?_
      refine sm_iload C 4 dX12_rivals_73 rfl ?_
      refine sm_imul C dX12_rivals_75 ?_
      refine sm_iload C 5 dX12_rivals_76 rfl ?_
      refine sm_iadd C dX12_rivals_78 ?_
      refine sm_aload_n C 0 dX12_rivals_79 rfl ?_
      refine sm_iload_n C 1 dX12_rivals_80 rfl ?_
      refine r_callVI C (R := RX12) (T := TX12) (N := 21) [.int y1] (G_M G) rfl (fun qq ss hh => ct_X12_worthOf G y1 s17 qq ss hh) kw_1062 kw_1064 kw_32 kw_64 kw_1065 dX12_rivals_81 rfl dd_X12_worthOf ⟨rfl, rfl⟩ ⟨by decide, by decide⟩ (Nat.le_of_ble_eq_true rfl) _ rfl (fun q18 s19 => ?_)
      refine sm_ineg C dX12_rivals_84 ?_
      refine r_iast C (G_m92 G) dX12_rivals_85 (fun s20 => ?_)
      refine sm_aload_n C 0 dX12_rivals_86 rfl ?_
      refine sm_getR C (ci := 12) (R := RX12) (T := TX12) (N := 21) (j := 12) (G_M G).2 (G_M G).1 rfl gX12 (by decide) kw_876 dX12_rivals_87 (fun _ _ => rfl) ?_
      refine sm_bipush C (8 : Int32) dX12_rivals_90 bp_8 ?_
      refine sm_iload C 4 dX12_rivals_92 rfl ?_
      refine sm_imul C dX12_rivals_94 ?_
      refine sm_iload C 5 dX12_rivals_95 rfl ?_
      refine sm_iadd C dX12_rivals_97 ?_
      refine sm_aload_n C 0 dX12_rivals_98 rfl ?_
      refine sm_iload_n C 2 dX12_rivals_99 rfl ?_
      refine r_callVI C (R := RX12) (T := TX12) (N := 21) [.int y2] (G_M G) rfl (fun qq ss hh => ct_X12_worthOf G y2 s20 qq ss hh) kw_1062 kw_1064 kw_32 kw_64 kw_1065 dX12_rivals_100 rfl dd_X12_worthOf ⟨rfl, rfl⟩ ⟨by decide, by decide⟩ (Nat.le_of_ble_eq_true rfl) _ rfl (fun q21 s22 => ?_)
      refine sm_ineg C dX12_rivals_103 ?_
      refine r_iast C (G_m93 G) dX12_rivals_104 (fun s23 => ?_)
      refine sm_aload_n C 0 dX12_rivals_105 rfl ?_
      refine sm_getR C (ci := 12) (R := RX12) (T := TX12) (N := 21) (j := 10) (G_M G).2 (G_M G).1 rfl gX12 (by decide) kw_874 dX12_rivals_106 (fun _ _ => rfl) ?_
      refine sm_iload_n C 1 dX12_rivals_109 rfl ?_
      refine sm_iload C 4 dX12_rivals_110 rfl ?_
      refine r_iast C (G_m91 G) dX12_rivals_112 (fun s24 => ?_)
      refine sm_aload_n C 0 dX12_rivals_113 rfl ?_
      refine sm_getR C (ci := 12) (R := RX12) (T := TX12) (N := 21) (j := 10) (G_M G).2 (G_M G).1 rfl gX12 (by decide) kw_874 dX12_rivals_114 (fun _ _ => rfl) ?_
      refine sm_iload_n C 2 dX12_rivals_117 rfl ?_
      refine sm_iload C 5 dX12_rivals_118 rfl ?_
      refine r_iast C (G_m91 G) dX12_rivals_120 (fun s25 => ?_)
      refine sm_aload_n C 0 dX12_rivals_121 rfl ?_
      refine sm_bipush C (8 : Int32) dX12_rivals_122 bp_8 ?_
      refine r_callVU C (R := RX12) (T := TX12) (N := 21) [.int (8 : Int32)] (G_M G) rfl (fun qq ss hh => ct_X12_goTill G (8 : Int32) s25 qq ss hh) kw_1050 kw_1052 kw_31 kw_64 kw_1053 dX12_rivals_124 rfl dd_X12_goTill ⟨rfl, rfl⟩ ⟨by decide, by decide⟩ (Nat.le_of_ble_eq_true rfl) _ rfl (fun q26 s27 => ?_)
      refine sm_aload_n C 0 dX12_rivals_127 rfl ?_
      refine sm_getR C (ci := 12) (R := RX12) (T := TX12) (N := 21) (j := 11) (G_M G).2 (G_M G).1 rfl gX12 (by decide) kw_875 dX12_rivals_128 (fun _ _ => rfl) ?_
      refine sm_bipush C (8 : Int32) dX12_rivals_131 bp_8 ?_
      refine sm_iload C 4 dX12_rivals_133 rfl ?_
      refine sm_imul C dX12_rivals_135 ?_
      refine sm_iload C 5 dX12_rivals_136 rfl ?_
      refine sm_iadd C dX12_rivals_138 ?_
      refine sm_dup2 C dX12_rivals_139 rfl rfl ?_
      refine r_iald C (G_m92 G) dX12_rivals_140 (fun v28 => ?_)
      refine sm_aload_n C 0 dX12_rivals_141 rfl ?_
      refine sm_iload_n C 1 dX12_rivals_142 rfl ?_
      refine r_callVI C (R := RX12) (T := TX12) (N := 21) [.int y1] (G_M G) rfl (fun qq ss hh => ct_X12_worthOf G y1 s27 qq ss hh) kw_1062 kw_1064 kw_32 kw_64 kw_1065 dX12_rivals_143 rfl dd_X12_worthOf ⟨rfl, rfl⟩ ⟨by decide, by decide⟩ (Nat.le_of_ble_eq_true rfl) _ rfl (fun q29 s30 => ?_)
      refine sm_iadd C dX12_rivals_146 ?_
      refine r_iast C (G_m92 G) dX12_rivals_147 (fun s31 => ?_)
      refine sm_aload_n C 0 dX12_rivals_148 rfl ?_
      refine sm_getR C (ci := 12) (R := RX12) (T := TX12) (N := 21) (j := 12) (G_M G).2 (G_M G).1 rfl gX12 (by decide) kw_876 dX12_rivals_149 (fun _ _ => rfl) ?_
      refine sm_bipush C (8 : Int32) dX12_rivals_152 bp_8 ?_
      refine sm_iload C 4 dX12_rivals_154 rfl ?_
      refine sm_imul C dX12_rivals_156 ?_
      refine sm_iload C 5 dX12_rivals_157 rfl ?_
      refine sm_iadd C dX12_rivals_159 ?_
      refine sm_dup2 C dX12_rivals_160 rfl rfl ?_
      refine r_iald C (G_m93 G) dX12_rivals_161 (fun v32 => ?_)
      refine sm_aload_n C 0 dX12_rivals_162 rfl ?_
      refine sm_iload_n C 2 dX12_rivals_163 rfl ?_
      refine r_callVI C (R := RX12) (T := TX12) (N := 21) [.int y2] (G_M G) rfl (fun qq ss hh => ct_X12_worthOf G y2 s31 qq ss hh) kw_1062 kw_1064 kw_32 kw_64 kw_1065 dX12_rivals_164 rfl dd_X12_worthOf ⟨rfl, rfl⟩ ⟨by decide, by decide⟩ (Nat.le_of_ble_eq_true rfl) _ rfl (fun q33 s34 => ?_)
      refine sm_iadd C dX12_rivals_167 ?_
      refine r_iast C (G_m93 G) dX12_rivals_168 (fun s35 => ?_)
      refine sm_iinc C 5 (y5 + (1 : Int32)) [(5, .int (y5 + (1 : Int32))), (0, .ref (wad w 82)), (1, .int y1), (2, .int y2), (3, .int y3), (4, .int y4)] dX12_rivals_169 rfl (ii_1 _) (by decide) rfl ?_
      refine sm_goto C 56 dX12_rivals_172 (by decide) ?_
      exact sm_sub [1, 2, 3, 4, 5, 0] rfl (ih y1 y2 y3 y4 (y5 + (1 : Int32)) s35)
set_option maxRecDepth 100000 in
set_option maxHeartbeats 4000000 in
theorem sl_X12_rivals_L41 {M : Mco} {w : Wco} (C : Cx M w cX12_rivals 8 yX12_rivals.cls (Cond.code yX12_rivals cX12_rivals 8 (some .int)) (some .int) { frames := 6, cells := 0, slots := 0, locals := 138 }) (G : GW w) : ∀ (n : Nat) (y1 : Int32) (y2 : Int32) (y3 : Int32) (y4 : Int32) (s0 : Sta), Sm M w 8 oI 41 [(0, .ref (wad w 82)), (1, .int y1), (2, .int y2), (3, .int y3), (4, .int y4)] [] s0 (X12_rivals_L41 n y1 y2 y3 y4 s0) := by
  intro n
  induction n with
  | zero => intros; exact sm_none
  | succ n ih =>
    intro y1 y2 y3 y4 s0
    rw [X12_rivals_L41.eq_2]
    refine sm_iload C 4 dX12_rivals_41 rfl ?_
    refine sm_bipush C (8 : Int32) dX12_rivals_43 bp_8 ?_
    refine sm_icmp_ge C 181 dX12_rivals_45 (by decide) ?_ ?_
    · refine sm_iconst C (0 : Int32) dX12_rivals_181 ic_0 ?_
      refine sm_istore C [(4, .int (0 : Int32)), (0, .ref (wad w 82)), (1, .int y1), (2, .int y2), (3, .int y3)] dX12_rivals_182 (by decide) rfl ?_
      refine sm_bipush C (-5 : Int32) dX12_rivals_184 bp_m5 ?_
      refine sm_istore C [(5, .int (-5 : Int32)), (4, .int (0 : Int32)), (0, .ref (wad w 82)), (1, .int y1), (2, .int y2), (3, .int y3)] dX12_rivals_186 (by decide) rfl ?_
      refine sm_aload_n C 2 dX12_rivals_188 rfl ?_
      refine sm_getR C (ci := 12) (R := RX12) (T := TX12) (N := 21) (j := 0) (G_M G).2 (G_M G).1 rfl gX12 (by decide) kw_864 dX12_rivals_189 (fun _ _ => rfl) ?_
      refine sm_iconst C (4 : Int32) dX12_rivals_192 ic_4 ?_
      refine r_iald C (G_m83 G) dX12_rivals_193 (fun v14 => ?_)
      refine sm_istore C [(6, .int v14), (5, .int (-5 : Int32)), (4, .int (0 : Int32)), (0, .ref (wad w 82)), (1, .int y1), (2, .int y2), (3, .int y3)] dX12_rivals_194 (by decide) rfl ?_
      exact sm_sub [3, 6, 2, 1, 0] rfl (sl_X12_rivals_L196 C G FU y3 (0 : Int32) (-5 : Int32) v14 s0)
    · refine sm_aload_n C 0 dX12_rivals_48 rfl ?_
      refine sm_getR C (ci := 12) (R := RX12) (T := TX12) (N := 21) (j := 0) (G_M G).2 (G_M G).1 rfl gX12 (by decide) kw_864 dX12_rivals_49 (fun _ _ => rfl) ?_
      refine sm_iconst C (4 : Int32) dX12_rivals_52 ic_4 ?_
      refine r_iald C (G_m83 G) dX12_rivals_53 (fun v15 => ?_)
      refine sm_istore C [(5, .int v15), (0, .ref (wad w 82)), (1, .int y1), (2, .int y2), (3, .int y3), (4, .int y4)] dX12_rivals_54 (by decide) rfl ?_
      exact sm_sub [1, 2, 3, 4, 5, 0] rfl (sl_X12_rivals_L56 C G ih FU y1 y2 y3 y4 v15 s0)
set_option maxRecDepth 100000 in
set_option maxHeartbeats 4000000 in
theorem ct_X12_rivals {l : Launch} {w : Wco} (G : GW w) (x1 : Int32) (x2 : Int32) (x3 : Int32) (s0 : Sta) (qq : Int32) (ss : Sta) (hh : X12_rivals x1 x2 x3 s0 = some (qq, ss)) : Ct l w yX12_rivals (Cond.code yX12_rivals cX12_rivals 8 (some .int) :: GT) { frames := 6, cells := 0, slots := 0, locals := 138 } [.ref (wad w 82), .int x1, .int x2, .int x3] s0 (oI qq) ss := by
  refine ct_of [(0, .ref (wad w 82)), (1, .int x1), (2, .int x2), (3, .int x3)] (by decide +kernel) (Nat.le_of_ble_eq_true rfl) rfl hh (fun M _ C => ?_)
  unfold X12_rivals
  refine sm_aload_n C 0 dX12_rivals_0 rfl ?_
  refine sm_iload_n C 1 dX12_rivals_1 rfl ?_
  refine r_callVI C (R := RX12) (T := TX12) (N := 21) [.int x1] (G_M G) rfl (fun qq ss hh => ct_X12_isOne G x1 s0 qq ss hh) kw_1029 kw_1031 kw_29 kw_64 kw_1032 dX12_rivals_2 rfl dd_X12_isOne ⟨rfl, rfl⟩ ⟨by decide, by decide⟩ (Nat.le_of_ble_eq_true rfl) _ rfl (fun q1 s2 => ?_)
  refine sm_if_eq C 26 dX12_rivals_5 (by decide) ?_ ?_
  · refine sm_aload_n C 0 dX12_rivals_26 rfl ?_
    refine sm_bipush C (-10 : Int32) dX12_rivals_27 bp_m10 ?_
    refine r_callVI C (R := RX12) (T := TX12) (N := 21) [.int (-10 : Int32)] (G_M G) rfl (fun qq ss hh => ct_X12_bad G (-10 : Int32) s2 qq ss hh) kw_952 kw_954 kw_18 kw_64 kw_955 dX12_rivals_29 rfl dd_X12_bad ⟨rfl, rfl⟩ ⟨by decide, by decide⟩ (Nat.le_of_ble_eq_true rfl) _ rfl (fun q3 s4 => ?_)
    exact sm_iret C dX12_rivals_32
  · refine sm_aload_n C 0 dX12_rivals_8 rfl ?_
    refine sm_iload_n C 2 dX12_rivals_9 rfl ?_
    refine r_callVI C (R := RX12) (T := TX12) (N := 21) [.int x2] (G_M G) rfl (fun qq ss hh => ct_X12_isOne G x2 s2 qq ss hh) kw_1029 kw_1031 kw_29 kw_64 kw_1032 dX12_rivals_10 rfl dd_X12_isOne ⟨rfl, rfl⟩ ⟨by decide, by decide⟩ (Nat.le_of_ble_eq_true rfl) _ rfl (fun q5 s6 => ?_)
    refine sm_if_eq C 26 dX12_rivals_13 (by decide) ?_ ?_
    · refine sm_aload_n C 0 dX12_rivals_26 rfl ?_
      refine sm_bipush C (-10 : Int32) dX12_rivals_27 bp_m10 ?_
      refine r_callVI C (R := RX12) (T := TX12) (N := 21) [.int (-10 : Int32)] (G_M G) rfl (fun qq ss hh => ct_X12_bad G (-10 : Int32) s6 qq ss hh) kw_952 kw_954 kw_18 kw_64 kw_955 dX12_rivals_29 rfl dd_X12_bad ⟨rfl, rfl⟩ ⟨by decide, by decide⟩ (Nat.le_of_ble_eq_true rfl) _ rfl (fun q7 s8 => ?_)
      exact sm_iret C dX12_rivals_32
    · refine sm_iload_n C 1 dX12_rivals_16 rfl ?_
      refine sm_iload_n C 2 dX12_rivals_17 rfl ?_
      refine sm_icmp_eq C 26 dX12_rivals_18 (by decide) ?_ ?_
      · refine sm_aload_n C 0 dX12_rivals_26 rfl ?_
        refine sm_bipush C (-10 : Int32) dX12_rivals_27 bp_m10 ?_
        refine r_callVI C (R := RX12) (T := TX12) (N := 21) [.int (-10 : Int32)] (G_M G) rfl (fun qq ss hh => ct_X12_bad G (-10 : Int32) s6 qq ss hh) kw_952 kw_954 kw_18 kw_64 kw_955 dX12_rivals_29 rfl dd_X12_bad ⟨rfl, rfl⟩ ⟨by decide, by decide⟩ (Nat.le_of_ble_eq_true rfl) _ rfl (fun q9 s10 => ?_)
        exact sm_iret C dX12_rivals_32
      · refine sm_iload_n C 3 dX12_rivals_21 rfl ?_
        refine sm_iconst C (-1 : Int32) dX12_rivals_22 ic_m1 ?_
        refine sm_icmp_ge C 33 dX12_rivals_23 (by decide) ?_ ?_
        · refine sm_aload_n C 0 dX12_rivals_33 rfl ?_
          refine sm_getR C (ci := 12) (R := RX12) (T := TX12) (N := 21) (j := 0) (G_M G).2 (G_M G).1 rfl gX12 (by decide) kw_864 dX12_rivals_34 (fun _ _ => rfl) ?_
          refine sm_iconst C (4 : Int32) dX12_rivals_37 ic_4 ?_
          refine r_iald C (G_m83 G) dX12_rivals_38 (fun v11 => ?_)
          refine sm_istore C [(4, .int v11), (0, .ref (wad w 82)), (1, .int x1), (2, .int x2), (3, .int x3)] dX12_rivals_39 (by decide) rfl ?_
          exact sm_sub [1, 2, 3, 4, 0] rfl (sl_X12_rivals_L41 C G FU x1 x2 x3 v11 s6)
        · refine sm_aload_n C 0 dX12_rivals_26 rfl ?_
          refine sm_bipush C (-10 : Int32) dX12_rivals_27 bp_m10 ?_
          refine r_callVI C (R := RX12) (T := TX12) (N := 21) [.int (-10 : Int32)] (G_M G) rfl (fun qq ss hh => ct_X12_bad G (-10 : Int32) s6 qq ss hh) kw_952 kw_954 kw_18 kw_64 kw_955 dX12_rivals_29 rfl dd_X12_bad ⟨rfl, rfl⟩ ⟨by decide, by decide⟩ (Nat.le_of_ble_eq_true rfl) _ rfl (fun q12 s13 => ?_)
          exact sm_iret C dX12_rivals_32
theorem dd_X12_handicap : yX12_handicap.cls = RX12 ∧ yX12_handicap.cls ≠ "java/lang/invoke/MethodHandle" ∧ yX12_handicap.cls ≠ "java/lang/invoke/VarHandle" ∧ (parseMethodDescriptor yX12_handicap.desc).map (fun d => d.parameters.length) = some 1 := by decide +kernel
set_option maxRecDepth 100000 in
set_option maxHeartbeats 4000000 in
theorem sl_X12_handicap_L143 {M : Mco} {w : Wco} (C : Cx M w cX12_handicap 8 yX12_handicap.cls (Cond.code yX12_handicap cX12_handicap 8 (some .int)) (some .int) { frames := 3, cells := 0, slots := 0, locals := 67 }) (G : GW w) {k86 : Int32 → Int32 → Int32 → Int32 → Int32 → Sta → Option (Int32 × Sta)} (H86 : ∀ (y1 : Int32) (y2 : Int32) (y3 : Int32) (y4 : Int32) (y5 : Int32) (s0 : Sta), Sm M w 8 oI 86 [(0, .ref (wad w 82)), (1, .int y1), (2, .int y2), (3, .int y3), (4, .int y4), (5, .int y5)] [] s0 (k86 y1 y2 y3 y4 y5 s0)) : ∀ (y1 : Int32) (y2 : Int32) (y3 : Int32) (y4 : Int32) (y5 : Int32) (y6 : Int32) (z0 : Int32) (s0 : Sta), Sm M w 8 oI 143 [(0, .ref (wad w 82)), (1, .int y1), (2, .int y2), (3, .int y3), (4, .int y4), (5, .int y5), (6, .int y6)] [.int z0] s0 (X12_handicap_L143 k86 y1 y2 y3 y4 y5 y6 z0 s0) := by
  intro y1 y2 y3 y4 y5 y6 z0 s0
  unfold X12_handicap_L143
  refine sm_istore C [(7, .int z0), (0, .ref (wad w 82)), (1, .int y1), (2, .int y2), (3, .int y3), (4, .int y4), (5, .int y5), (6, .int y6)] dX12_handicap_143 (by decide) rfl ?_
  refine sm_iload C 5 dX12_handicap_145 rfl ?_
  refine sm_iload C 0 dX12_handicap_147 rfl ?_
  refine sm_iload C 7 dX12_handicap_149 rfl ?_
  refine sm_icmp_le C 162 dX12_handicap_151 (by decide) ?_ ?_
  · refine sm_iconst C (0 : Int32) dX12_handicap_162 ic_0 ?_
    refine sm_iadd C dX12_handicap_163 ?_
    refine sm_istore C [(4, .int (y4 + (0 : Int32))), (7, .int z0), (0, .ref (wad w 82)), (1, .int y1), (2, .int y2), (3, .int y3), (5, .int y5), (6, .int y6)] dX12_handicap_164 (by decide) rfl ?_
    refine sm_iinc C 6 (y5 + (1 : Int32)) [(5, .int (y5 + (1 : Int32))), (4, .int (y4 + (0 : Int32))), (7, .int z0), (0, .ref (wad w 82)), (1, .int y1), (2, .int y2), (3, .int y3), (6, .int y6)] dX12_handicap_166 rfl (ii_1 _) (by decide) rfl ?_
    refine sm_goto C 86 dX12_handicap_169 (by decide) ?_
    exact sm_sub [3, 4, 5, 6, 1, 0] rfl (H86 y1 y2 y3 (y4 + (0 : Int32)) (y5 + (1 : Int32)) s0)
  · refine sm_iload C 0 dX12_handicap_154 rfl ?_
    refine sm_iload C 7 dX12_handicap_156 rfl ?_
    refine sm_isub C dX12_handicap_158 ?_
    refine sm_goto C 163 dX12_handicap_159 (by decide) ?_
    refine sm_iadd C dX12_handicap_163 ?_
    refine sm_istore C [(4, .int (y4 + (z0 - y6))), (7, .int z0), (0, .ref (wad w 82)), (1, .int y1), (2, .int y2), (3, .int y3), (5, .int y5), (6, .int y6)] dX12_handicap_164 (by decide) rfl ?_
    refine sm_iinc C 6 (y5 + (1 : Int32)) [(5, .int (y5 + (1 : Int32))), (4, .int (y4 + (z0 - y6))), (7, .int z0), (0, .ref (wad w 82)), (1, .int y1), (2, .int y2), (3, .int y3), (6, .int y6)] dX12_handicap_166 rfl (ii_1 _) (by decide) rfl ?_
    refine sm_goto C 86 dX12_handicap_169 (by decide) ?_
    exact sm_sub [3, 4, 5, 6, 1, 0] rfl (H86 y1 y2 y3 (y4 + (z0 - y6)) (y5 + (1 : Int32)) s0)
set_option maxRecDepth 100000 in
set_option maxHeartbeats 4000000 in
theorem sl_X12_handicap_L108 {M : Mco} {w : Wco} (C : Cx M w cX12_handicap 8 yX12_handicap.cls (Cond.code yX12_handicap cX12_handicap 8 (some .int)) (some .int) { frames := 3, cells := 0, slots := 0, locals := 67 }) (G : GW w) {k86 : Int32 → Int32 → Int32 → Int32 → Int32 → Sta → Option (Int32 × Sta)} (H86 : ∀ (y1 : Int32) (y2 : Int32) (y3 : Int32) (y4 : Int32) (y5 : Int32) (s0 : Sta), Sm M w 8 oI 86 [(0, .ref (wad w 82)), (1, .int y1), (2, .int y2), (3, .int y3), (4, .int y4), (5, .int y5)] [] s0 (k86 y1 y2 y3 y4 y5 s0)) : ∀ (y1 : Int32) (y2 : Int32) (y3 : Int32) (y4 : Int32) (y5 : Int32) (z0 : Int32) (s0 : Sta), Sm M w 8 oI 108 [(0, .ref (wad w 82)), (1, .int y1), (2, .int y2), (3, .int y3), (4, .int y4), (5, .int y5)] [.int z0] s0 (X12_handicap_L108 k86 y1 y2 y3 y4 y5 z0 s0) := by
  intro y1 y2 y3 y4 y5 z0 s0
  unfold X12_handicap_L108
  refine sm_istore C [(6, .int z0), (0, .ref (wad w 82)), (1, .int y1), (2, .int y2), (3, .int y3), (4, .int y4), (5, .int y5)] dX12_handicap_108 (by decide) rfl ?_
  refine sm_iload C 6 dX12_handicap_110 rfl ?_
  refine sm_iload_n C 2 dX12_handicap_112 rfl ?_
  refine sm_icmp_eq C 142 dX12_handicap_113 (by decide) ?_ ?_
  · refine sm_iconst C (0 : Int32) dX12_handicap_142 ic_0 ?_
    exact sm_sub [1, 2, 3, 4, 5, 6, 0] rfl (sl_X12_handicap_L143 C G H86 y1 y2 y3 y4 y5 z0 (0 : Int32) s0)
  · refine sm_aload_n C 1 dX12_handicap_116 rfl ?_
    refine sm_iload C 6 dX12_handicap_117 rfl ?_
    refine sm_iload_n C 3 dX12_handicap_119 rfl ?_
    refine r_callVI C (R := RX12) (T := TX12) (N := 21) [.int y5, .int y2] (G_M G) rfl (fun qq ss hh => ct_X12_enters G y5 y2 s0 qq ss hh) kw_993 kw_995 kw_25 kw_64 kw_996 dX12_handicap_120 rfl dd_X12_enters ⟨rfl, rfl⟩ ⟨by decide, by decide⟩ (Nat.le_of_ble_eq_true rfl) _ rfl (fun q19 s20 => ?_)
    refine sm_if_eq C 142 dX12_handicap_123 (by decide) ?_ ?_
    · refine sm_iconst C (0 : Int32) dX12_handicap_142 ic_0 ?_
      exact sm_sub [1, 2, 3, 4, 5, 6, 0] rfl (sl_X12_handicap_L143 C G H86 y1 y2 y3 y4 y5 z0 (0 : Int32) s20)
    · refine sm_aload_n C 1 dX12_handicap_126 rfl ?_
      refine sm_iload C 6 dX12_handicap_127 rfl ?_
      refine sm_aload_n C 1 dX12_handicap_129 rfl ?_
      refine sm_getR C (ci := 12) (R := RX12) (T := TX12) (N := 21) (j := 8) (G_M G).2 (G_M G).1 rfl gX12 (by decide) kw_872 dX12_handicap_130 (fun _ _ => rfl) ?_
      refine sm_iload_n C 3 dX12_handicap_133 rfl ?_
      refine r_iald C (G_m89 G) dX12_handicap_134 (fun v21 => ?_)
      refine sm_iload_n C 3 dX12_handicap_135 rfl ?_
      refine r_callVI C (R := RX12) (T := TX12) (N := 21) [.int y5, .int v21, .int y2] (G_M G) rfl (fun qq ss hh => ct_X12_goodOf G y5 v21 y2 s20 qq ss hh) kw_1014 kw_1016 kw_28 kw_64 kw_1017 dX12_handicap_136 rfl dd_X12_goodOf ⟨rfl, rfl⟩ ⟨by decide, by decide⟩ (Nat.le_of_ble_eq_true rfl) _ rfl (fun q22 s23 => ?_)
      refine sm_goto C 143 dX12_handicap_139 (by decide) ?_
      exact sm_sub [1, 2, 3, 4, 5, 6, 0] rfl (sl_X12_handicap_L143 C G H86 y1 y2 y3 y4 y5 z0 q22 s23)
set_option maxRecDepth 100000 in
set_option maxHeartbeats 4000000 in
theorem sl_X12_handicap_L86 {M : Mco} {w : Wco} (C : Cx M w cX12_handicap 8 yX12_handicap.cls (Cond.code yX12_handicap cX12_handicap 8 (some .int)) (some .int) { frames := 3, cells := 0, slots := 0, locals := 67 }) (G : GW w) : ∀ (n : Nat) (y1 : Int32) (y2 : Int32) (y3 : Int32) (y4 : Int32) (y5 : Int32) (s0 : Sta), Sm M w 8 oI 86 [(0, .ref (wad w 82)), (1, .int y1), (2, .int y2), (3, .int y3), (4, .int y4), (5, .int y5)] [] s0 (X12_handicap_L86 n y1 y2 y3 y4 y5 s0) := by
  intro n
  induction n with
  | zero => intros; exact sm_none
  | succ n ih =>
    intro y1 y2 y3 y4 y5 s0
    rw [X12_handicap_L86.eq_2]
    refine sm_iload C 5 dX12_handicap_86 rfl ?_
    refine sm_aload_n C 0 dX12_handicap_88 rfl ?_
    refine r_callVI C (R := RX12) (T := TX12) (N := 21) [] (G_M G) rfl (fun qq ss hh => ct_X12_many G s0 qq ss hh) kw_932 kw_934 kw_17 kw_64 kw_935 dX12_handicap_89 rfl dd_X12_many ⟨rfl, rfl⟩ ⟨by decide, by decide⟩ (Nat.le_of_ble_eq_true rfl) _ rfl (fun q17 s18 => ?_)
    refine sm_icmp_ge C 172 dX12_handicap_92 (by decide) ?_ ?_
    · refine sm_iload C 4 dX12_handicap_172 rfl ?_
      exact sm_iret C dX12_handicap_174
    · refine sm_iload C 5 dX12_handicap_95 rfl ?_
      refine sm_iload_n C 1 dX12_handicap_97 rfl ?_
      refine sm_icmp_ge C 107 dX12_handicap_98 (by decide) ?_ ?_
      · refine sm_iload_n C 3 dX12_handicap_107 rfl ?_
        exact sm_sub [0, 1, 2, 3, 4, 5] rfl (sl_X12_handicap_L108 C G ih y1 y2 y3 y4 y5 y3 s18)
      · refine sm_iload_n C 3 dX12_handicap_101 rfl ?_
        refine sm_iconst C (1 : Int32) dX12_handicap_102 ic_1 ?_
        refine sm_isub C dX12_handicap_103 ?_
        refine sm_goto C 108 dX12_handicap_104 (by decide) ?_
        exact sm_sub [0, 1, 2, 3, 4, 5] rfl (sl_X12_handicap_L108 C G ih y1 y2 y3 y4 y5 (y3 - (1 : Int32)) s18)
set_option maxRecDepth 100000 in
set_option maxHeartbeats 4000000 in
theorem ct_X12_handicap {l : Launch} {w : Wco} (G : GW w) (x1 : Int32) (s0 : Sta) (qq : Int32) (ss : Sta) (hh : X12_handicap x1 s0 = some (qq, ss)) : Ct l w yX12_handicap (Cond.code yX12_handicap cX12_handicap 8 (some .int) :: GT) { frames := 3, cells := 0, slots := 0, locals := 67 } [.ref (wad w 82), .int x1] s0 (oI qq) ss := by
  refine ct_of [(0, .ref (wad w 82)), (1, .int x1)] (by decide +kernel) (Nat.le_of_ble_eq_true rfl) rfl hh (fun M _ C => ?_)
  unfold X12_handicap
  refine sm_aload_n C 0 dX12_handicap_0 rfl ?_
  refine sm_iload_n C 1 dX12_handicap_1 rfl ?_
  refine r_callVI C (R := RX12) (T := TX12) (N := 21) [.int x1] (G_M G) rfl (fun qq ss hh => ct_X12_isOne G x1 s0 qq ss hh) kw_1029 kw_1031 kw_29 kw_64 kw_1032 dX12_handicap_2 rfl dd_X12_isOne ⟨rfl, rfl⟩ ⟨by decide, by decide⟩ (Nat.le_of_ble_eq_true rfl) _ rfl (fun q1 s2 => ?_)
  refine sm_if_ne C 15 dX12_handicap_5 (by decide) ?_ ?_
  · refine sm_aload_n C 0 dX12_handicap_15 rfl ?_
    refine sm_getR C (ci := 12) (R := RX12) (T := TX12) (N := 21) (j := 0) (G_M G).2 (G_M G).1 rfl gX12 (by decide) kw_864 dX12_handicap_16 (fun _ _ => rfl) ?_
    refine sm_iconst C (4 : Int32) dX12_handicap_19 ic_4 ?_
    refine r_iald C (G_m83 G) dX12_handicap_20 (fun v3 => ?_)
    refine sm_istore_n C [(2, .int v3), (0, .ref (wad w 82)), (1, .int x1)] dX12_handicap_21 (by decide) rfl ?_
    refine sm_aload_n C 1 dX12_handicap_22 rfl ?_
    refine r_callVU C (R := RX12) (T := TX12) (N := 21) [] (G_M G) rfl (fun qq ss hh => ct_X12_layHand G s2 qq ss hh) kw_981 kw_983 kw_22 kw_64 kw_984 dX12_handicap_23 rfl dd_X12_layHand ⟨rfl, rfl⟩ ⟨by decide, by decide⟩ (Nat.le_of_ble_eq_true rfl) _ rfl (fun q4 s5 => ?_)
    refine sm_iload_n C 0 dX12_handicap_26 rfl ?_
    refine sm_bipush C (8 : Int32) dX12_handicap_27 bp_8 ?_
    refine sm_icmp_eq C 65 dX12_handicap_29 (by decide) ?_ ?_
    · refine sm_iconst C (-1 : Int32) dX12_handicap_65 ic_m1 ?_
      exact sm_iret C dX12_handicap_66
    · refine sm_aload_n C 1 dX12_handicap_32 rfl ?_
      refine sm_getR C (ci := 12) (R := RX12) (T := TX12) (N := 21) (j := 8) (G_M G).2 (G_M G).1 rfl gX12 (by decide) kw_872 dX12_handicap_33 (fun _ _ => rfl) ?_
      refine sm_iload_n C 0 dX12_handicap_36 rfl ?_
      refine r_iald C (G_m89 G) dX12_handicap_37 (fun v6 => ?_)
      refine sm_iconst C (-1 : Int32) dX12_handicap_38 ic_m1 ?_
      refine sm_icmp_eq C 65 dX12_handicap_39 (by decide) ?_ ?_
      · refine sm_iconst C (-1 : Int32) dX12_handicap_65 ic_m1 ?_
        exact sm_iret C dX12_handicap_66
      · refine sm_aload_n C 1 dX12_handicap_42 rfl ?_
        refine sm_iload_n C 2 dX12_handicap_43 rfl ?_
        refine r_callVI C (R := RX12) (T := TX12) (N := 21) [.int x1] (G_M G) rfl (fun qq ss hh => ct_X12_isBarred G x1 s5 qq ss hh) kw_997 kw_999 kw_26 kw_64 kw_1000 dX12_handicap_44 rfl dd_X12_isBarred ⟨rfl, rfl⟩ ⟨by decide, by decide⟩ (Nat.le_of_ble_eq_true rfl) _ rfl (fun q7 s8 => ?_)
        refine sm_if_ne C 65 dX12_handicap_47 (by decide) ?_ ?_
        · refine sm_iconst C (-1 : Int32) dX12_handicap_65 ic_m1 ?_
          exact sm_iret C dX12_handicap_66
        · refine sm_aload_n C 1 dX12_handicap_50 rfl ?_
          refine sm_iload_n C 2 dX12_handicap_51 rfl ?_
          refine sm_aload_n C 1 dX12_handicap_52 rfl ?_
          refine sm_getR C (ci := 12) (R := RX12) (T := TX12) (N := 21) (j := 8) (G_M G).2 (G_M G).1 rfl gX12 (by decide) kw_872 dX12_handicap_53 (fun _ _ => rfl) ?_
          refine sm_iload_n C 0 dX12_handicap_56 rfl ?_
          refine r_iald C (G_m89 G) dX12_handicap_57 (fun v9 => ?_)
          refine sm_iload_n C 0 dX12_handicap_58 rfl ?_
          refine r_callVI C (R := RX12) (T := TX12) (N := 21) [.int x1, .int v9, .int v3] (G_M G) rfl (fun qq ss hh => ct_X12_goodOf G x1 v9 v3 s8 qq ss hh) kw_1014 kw_1016 kw_28 kw_64 kw_1017 dX12_handicap_59 rfl dd_X12_goodOf ⟨rfl, rfl⟩ ⟨by decide, by decide⟩ (Nat.le_of_ble_eq_true rfl) _ rfl (fun q10 s11 => ?_)
          refine sm_if_ne C 67 dX12_handicap_62 (by decide) ?_ ?_
          · refine sm_aload_n C 1 dX12_handicap_67 rfl ?_
            refine sm_iload_n C 2 dX12_handicap_68 rfl ?_
            refine sm_aload_n C 1 dX12_handicap_69 rfl ?_
            refine sm_getR C (ci := 12) (R := RX12) (T := TX12) (N := 21) (j := 8) (G_M G).2 (G_M G).1 rfl gX12 (by decide) kw_872 dX12_handicap_70 (fun _ _ => rfl) ?_
            refine sm_iload_n C 0 dX12_handicap_73 rfl ?_
            refine r_iald C (G_m89 G) dX12_handicap_74 (fun v12 => ?_)
            refine sm_iload_n C 0 dX12_handicap_75 rfl ?_
            refine r_callVI C (R := RX12) (T := TX12) (N := 21) [.int x1, .int v12, .int v3] (G_M G) rfl (fun qq ss hh => ct_X12_goodOf G x1 v12 v3 s11 qq ss hh) kw_1014 kw_1016 kw_28 kw_64 kw_1017 dX12_handicap_76 rfl dd_X12_goodOf ⟨rfl, rfl⟩ ⟨by decide, by decide⟩ (Nat.le_of_ble_eq_true rfl) _ rfl (fun q13 s14 => ?_)
            refine sm_istore_n C [(3, .int q13), (2, .int v3), (0, .ref (wad w 82)), (1, .int x1)] dX12_handicap_79 (by decide) rfl ?_
            refine sm_iconst C (0 : Int32) dX12_handicap_80 ic_0 ?_
            refine sm_istore C [(4, .int (0 : Int32)), (3, .int q13), (2, .int v3), (0, .ref (wad w 82)), (1, .int x1)] dX12_handicap_81 (by decide) rfl ?_
            refine sm_iconst C (0 : Int32) dX12_handicap_83 ic_0 ?_
            refine sm_istore C [(5, .int (0 : Int32)), (4, .int (0 : Int32)), (3, .int q13), (2, .int v3), (0, .ref (wad w 82)), (1, .int x1)] dX12_handicap_84 (by decide) rfl ?_
            exact sm_sub [4, 5, 3, 2, 1, 0] rfl (sl_X12_handicap_L86 C G FU x1 v3 q13 (0 : Int32) (0 : Int32) s14)
          · refine sm_iconst C (-1 : Int32) dX12_handicap_65 ic_m1 ?_
            exact sm_iret C dX12_handicap_66
  · refine sm_aload_n C 0 dX12_handicap_8 rfl ?_
    refine sm_bipush C (-2 : Int32) dX12_handicap_9 bp_m2 ?_
    refine r_callVI C (R := RX12) (T := TX12) (N := 21) [.int (-2 : Int32)] (G_M G) rfl (fun qq ss hh => ct_X12_bad G (-2 : Int32) s2 qq ss hh) kw_952 kw_954 kw_18 kw_64 kw_955 dX12_handicap_11 rfl dd_X12_bad ⟨rfl, rfl⟩ ⟨by decide, by decide⟩ (Nat.le_of_ble_eq_true rfl) _ rfl (fun q15 s16 => ?_)
    exact sm_iret C dX12_handicap_14
theorem dd_X12_order : yX12_order.cls = RX12 ∧ yX12_order.cls ≠ "java/lang/invoke/MethodHandle" ∧ yX12_order.cls ≠ "java/lang/invoke/VarHandle" ∧ (parseMethodDescriptor yX12_order.desc).map (fun d => d.parameters.length) = some 1 := by decide +kernel
set_option maxRecDepth 100000 in
set_option maxHeartbeats 4000000 in
theorem sl_X12_order_L160 {M : Mco} {w : Wco} (C : Cx M w cX12_order 6 yX12_order.cls (Cond.code yX12_order cX12_order 6 (some .int)) (some .int) { frames := 6, cells := 0, slots := 0, locals := 138 }) (G : GW w) {k41 : Int32 → Int32 → Int32 → Int32 → Sta → Option (Int32 × Sta)} {k54 : Int32 → Int32 → Int32 → Int32 → Int32 → Sta → Option (Int32 × Sta)} (H41 : ∀ (y1 : Int32) (y2 : Int32) (y3 : Int32) (y4 : Int32) (s0 : Sta), Sm M w 6 oI 41 [(0, .ref (wad w 82)), (1, .int y1), (2, .int y2), (3, .int y3), (4, .int y4)] [] s0 (k41 y1 y2 y3 y4 s0)) (H54 : ∀ (y1 : Int32) (y2 : Int32) (y3 : Int32) (y4 : Int32) (y5 : Int32) (s0 : Sta), Sm M w 6 oI 54 [(0, .ref (wad w 82)), (1, .int y1), (2, .int y2), (3, .int y3), (4, .int y4), (5, .int y5)] [] s0 (k54 y1 y2 y3 y4 y5 s0)) : ∀ (y1 : Int32) (y3 : Int32) (y4 : Int32) (y5 : Int32) (z0 : Int32) (s0 : Sta), Sm M w 6 oI 160 [(0, .ref (wad w 82)), (1, .int y1), (3, .int y3), (4, .int y4), (5, .int y5)] [.int z0] s0 (X12_order_L160 k41 k54 y1 y3 y4 y5 z0 s0) := by
  intro y1 y3 y4 y5 z0 s0
  unfold X12_order_L160
  refine sm_istore_n C [(2, .int z0), (0, .ref (wad w 82)), (1, .int y1), (3, .int y3), (4, .int y4), (5, .int y5)] dX12_order_160 (by decide) rfl ?_
  refine sm_aload_n C 1 dX12_order_161 rfl ?_
  refine sm_iload_n C 2 dX12_order_162 rfl ?_
  refine r_callVI C (R := RX12) (T := TX12) (N := 21) [.int y1] (G_M G) rfl (fun qq ss hh => ct_X12_worthOf G y1 s0 qq ss hh) kw_1062 kw_1064 kw_32 kw_64 kw_1065 dX12_order_163 rfl dd_X12_worthOf ⟨rfl, rfl⟩ ⟨by decide, by decide⟩ (Nat.le_of_ble_eq_true rfl) _ rfl (fun q26 s27 => ?_)
  refine sm_iload_n C 3 dX12_order_166 rfl ?_
  refine sm_icmp_le C 178 dX12_order_167 (by decide) ?_ ?_
  · refine sm_iload_n C 3 dX12_order_178 rfl ?_
    refine sm_istore_n C [(3, .int y3), (2, .int z0), (0, .ref (wad w 82)), (1, .int y1), (4, .int y4), (5, .int y5)] dX12_order_179 (by decide) rfl ?_
    refine sm_iinc C 5 (y5 + (1 : Int32)) [(5, .int (y5 + (1 : Int32))), (3, .int y3), (2, .int z0), (0, .ref (wad w 82)), (1, .int y1), (4, .int y4)] dX12_order_180 rfl (ii_1 _) (by decide) rfl ?_
    refine sm_goto C 54 dX12_order_183 (by decide) ?_
    exact sm_sub [3, 4, 2, 1, 5, 0] rfl (H54 y1 z0 y3 y4 (y5 + (1 : Int32)) s27)
  · refine sm_aload_n C 1 dX12_order_170 rfl ?_
    refine sm_iload_n C 2 dX12_order_171 rfl ?_
    refine r_callVI C (R := RX12) (T := TX12) (N := 21) [.int y1] (G_M G) rfl (fun qq ss hh => ct_X12_worthOf G y1 s27 qq ss hh) kw_1062 kw_1064 kw_32 kw_64 kw_1065 dX12_order_172 rfl dd_X12_worthOf ⟨rfl, rfl⟩ ⟨by decide, by decide⟩ (Nat.le_of_ble_eq_true rfl) _ rfl (fun q28 s29 => ?_)
    refine sm_goto C 179 dX12_order_175 (by decide) ?_
    refine sm_istore_n C [(3, .int q28), (2, .int z0), (0, .ref (wad w 82)), (1, .int y1), (4, .int y4), (5, .int y5)] dX12_order_179 (by decide) rfl ?_
    refine sm_iinc C 5 (y5 + (1 : Int32)) [(5, .int (y5 + (1 : Int32))), (3, .int q28), (2, .int z0), (0, .ref (wad w 82)), (1, .int y1), (4, .int y4)] dX12_order_180 rfl (ii_1 _) (by decide) rfl ?_
    refine sm_goto C 54 dX12_order_183 (by decide) ?_
    exact sm_sub [3, 4, 2, 1, 5, 0] rfl (H54 y1 z0 q28 y4 (y5 + (1 : Int32)) s29)
set_option maxRecDepth 100000 in
set_option maxHeartbeats 4000000 in
theorem sl_X12_order_L54 {M : Mco} {w : Wco} (C : Cx M w cX12_order 6 yX12_order.cls (Cond.code yX12_order cX12_order 6 (some .int)) (some .int) { frames := 6, cells := 0, slots := 0, locals := 138 }) (G : GW w) {k41 : Int32 → Int32 → Int32 → Int32 → Sta → Option (Int32 × Sta)} (H41 : ∀ (y1 : Int32) (y2 : Int32) (y3 : Int32) (y4 : Int32) (s0 : Sta), Sm M w 6 oI 41 [(0, .ref (wad w 82)), (1, .int y1), (2, .int y2), (3, .int y3), (4, .int y4)] [] s0 (k41 y1 y2 y3 y4 s0)) : ∀ (n : Nat) (y1 : Int32) (y2 : Int32) (y3 : Int32) (y4 : Int32) (y5 : Int32) (s0 : Sta), Sm M w 6 oI 54 [(0, .ref (wad w 82)), (1, .int y1), (2, .int y2), (3, .int y3), (4, .int y4), (5, .int y5)] [] s0 (X12_order_L54 k41 n y1 y2 y3 y4 y5 s0) := by
  intro n
  induction n with
  | zero => intros; exact sm_none
  | succ n ih =>
    intro y1 y2 y3 y4 y5 s0
    rw [X12_order_L54.eq_2]
    refine sm_iload C 5 dX12_order_54 rfl ?_
    refine sm_bipush C (8 : Int32) dX12_order_56 bp_8 ?_
    refine sm_icmp_ge C 186 dX12_order_58 (by decide) ?_ ?_
    · refine sm_iinc C 4 (y4 + (1 : Int32)) [(4, .int (y4 + (1 : Int32))), (0, .ref (wad w 82)), (1, .int y1), (2, .int y2), (3, .int y3), (5, .int y5)] dX12_order_186 rfl (ii_1 _) (by decide) rfl ?_
      refine sm_goto C 41 dX12_order_189 (by decide) ?_
      exact sm_sub [1, 2, 3, 4, 0] rfl (H41 y1 y2 y3 (y4 + (1 : Int32)) s0)
    · refine sm_aload_n C 0 dX12_order_61 rfl ?_
      refine r_callVU C (R := RX12) (T := TX12) (N := 21) [] (G_M G) rfl (fun qq ss hh => ct_X12_layHand G s0 qq ss hh) kw_981 kw_983 kw_22 kw_64 kw_984 dX12_order_62 rfl dd_X12_layHand ⟨rfl, rfl⟩ ⟨by decide, by decide⟩ (Nat.le_of_ble_eq_true rfl) _ rfl (fun q12 s13 => ?_)
      refine sm_aload_n C 0 dX12_order_65 rfl ?_
      refine sm_getR C (ci := 12) (R := RX12) (T := TX12) (N := 21) (j := 8) (G_M G).2 (G_M G).1 rfl gX12 (by decide) kw_872 dX12_order_66 (fun _ _ => rfl) ?_
      refine sm_iload C 4 dX12_order_69 rfl ?_
      refine sm_aload_n C 0 dX12_order_71 rfl ?_
      refine sm_getR C (ci := 12) (R := RX12) (T := TX12) (N := 21) (j := 0) (G_M G).2 (G_M G).1 rfl gX12 (by decide) kw_864 dX12_order_72 (fun _ _ => rfl) ?_
      refine sm_bipush C (41 : Int32) dX12_order_75 bp_41 ?_
      refine sm_iload C 5 dX12_order_77 rfl ?_
      refine sm_iadd C dX12_order_79 ?_
      refine r_iald C (G_m83 G) dX12_order_80 (fun v14 => ?_)
      refine r_iast C (G_m89 G) dX12_order_81 (fun s15 => ?_)
      refine sm_aload_n C 0 dX12_order_82 rfl ?_
      refine sm_getR C (ci := 12) (R := RX12) (T := TX12) (N := 21) (j := 9) (G_M G).2 (G_M G).1 rfl gX12 (by decide) kw_873 dX12_order_83 (fun _ _ => rfl) ?_
      refine sm_iload C 4 dX12_order_86 rfl ?_
      refine sm_aload_n C 0 dX12_order_88 rfl ?_
      refine sm_getR C (ci := 12) (R := RX12) (T := TX12) (N := 21) (j := 0) (G_M G).2 (G_M G).1 rfl gX12 (by decide) kw_864 dX12_order_89 (fun _ _ => rfl) ?_
      refine sm_bipush C (49 : Int32) dX12_order_92 bp_49 ?_
      refine sm_iload C 5 dX12_order_94 rfl ?_
      refine sm_iadd C dX12_order_96 ?_
      refine r_iald C (G_m83 G) dX12_order_97 (fun v16 => ?_)
      refine r_iast C (G_m90 G) dX12_order_98 (fun s17 => ?_)
      refine sm_aload_n C 0 dX12_order_99 rfl ?_
      refine sm_getR C (ci := 12) (R := RX12) (T := TX12) (N := 21) (j := 8) (G_M G).2 (G_M G).1 rfl gX12 (by decide) kw_872 dX12_order_100 (fun _ _ => rfl) ?_
      refine sm_iload C 5 dX12_order_103 rfl ?_
      refine sm_aload_n C 0 dX12_order_105 rfl ?_
      refine sm_getR C (ci := 12) (R := RX12) (T := TX12) (N := 21) (j := 0) (G_M G).2 (G_M G).1 rfl gX12 (by decide) kw_864 dX12_order_106 (fun _ _ => rfl) ?_
      refine sm_bipush C (41 : Int32) dX12_order_109 bp_41 ?_
      refine sm_iload C 4 dX12_order_111 rfl ?_
      refine sm_iadd C dX12_order_113 ?_
      refine r_iald C (G_m83 G) dX12_order_114 (fun v18 => ?_)
      refine r_iast C (G_m89 G) dX12_order_115 (fun s19 => ?_)
      refine sm_aload_n C 0 dX12_order_116 rfl ?_
      refine sm_getR C (ci := 12) (R := RX12) (T := TX12) (N := 21) (j := 9) (G_M G).2 (G_M G).1 rfl gX12 (by decide) kw_873 dX12_order_117 (fun _ _ => rfl) ?_
      refine sm_iload C 5 dX12_order_120 rfl ?_
      refine sm_aload_n C 0 dX12_order_122 rfl ?_
      refine sm_getR C (ci := 12) (R := RX12) (T := TX12) (N := 21) (j := 0) (G_M G).2 (G_M G).1 rfl gX12 (by decide) kw_864 dX12_order_123 (fun _ _ => rfl) ?_
      refine sm_bipush C (49 : Int32) dX12_order_126 bp_49 ?_
      refine sm_iload C 4 dX12_order_128 rfl ?_
      refine sm_iadd C dX12_order_130 ?_
      refine r_iald C (G_m83 G) dX12_order_131 (fun v20 => ?_)
      refine r_iast C (G_m90 G) dX12_order_132 (fun s21 => ?_)
      refine sm_aload_n C 0 dX12_order_133 rfl ?_
      refine sm_bipush C (8 : Int32) dX12_order_134 bp_8 ?_
      refine r_callVU C (R := RX12) (T := TX12) (N := 21) [.int (8 : Int32)] (G_M G) rfl (fun qq ss hh => ct_X12_goTill G (8 : Int32) s21 qq ss hh) kw_1050 kw_1052 kw_31 kw_64 kw_1053 dX12_order_136 rfl dd_X12_goTill ⟨rfl, rfl⟩ ⟨by decide, by decide⟩ (Nat.le_of_ble_eq_true rfl) _ rfl (fun q22 s23 => ?_)
      refine sm_aload_n C 0 dX12_order_139 rfl ?_
      refine sm_iload_n C 1 dX12_order_140 rfl ?_
      refine r_callVI C (R := RX12) (T := TX12) (N := 21) [.int y1] (G_M G) rfl (fun qq ss hh => ct_X12_worthOf G y1 s23 qq ss hh) kw_1062 kw_1064 kw_32 kw_64 kw_1065 dX12_order_141 rfl dd_X12_worthOf ⟨rfl, rfl⟩ ⟨by decide, by decide⟩ (Nat.le_of_ble_eq_true rfl) _ rfl (fun q24 s25 => ?_)
      refine sm_iload_n C 3 dX12_order_144 rfl ?_
      refine sm_icmp_le C 159 dX12_order_145 (by decide) ?_ ?_
      · refine sm_iload_n C 2 dX12_order_159 rfl ?_
        exact sm_sub [0, 1, 3, 4, 5] rfl (sl_X12_order_L160 C G H41 ih y1 y3 y4 y5 y2 s25)
      · refine sm_bipush C (10 : Int32) dX12_order_148 bp_10 ?_
        refine sm_iload C 4 dX12_order_150 rfl ?_
        refine sm_imul C dX12_order_152 ?_
        refine sm_iload C 5 dX12_order_153 rfl ?_
        refine sm_iadd C dX12_order_155 ?_
        refine sm_goto C 160 dX12_order_156 (by decide) ?_
        exact sm_sub [0, 1, 3, 4, 5] rfl (sl_X12_order_L160 C G H41 ih y1 y3 y4 y5 (((10 : Int32) * y4) + y5) s25)
set_option maxRecDepth 100000 in
set_option maxHeartbeats 4000000 in
theorem sl_X12_order_L41 {M : Mco} {w : Wco} (C : Cx M w cX12_order 6 yX12_order.cls (Cond.code yX12_order cX12_order 6 (some .int)) (some .int) { frames := 6, cells := 0, slots := 0, locals := 138 }) (G : GW w) : ∀ (n : Nat) (y1 : Int32) (y2 : Int32) (y3 : Int32) (y4 : Int32) (s0 : Sta), Sm M w 6 oI 41 [(0, .ref (wad w 82)), (1, .int y1), (2, .int y2), (3, .int y3), (4, .int y4)] [] s0 (X12_order_L41 n y1 y2 y3 y4 s0) := by
  intro n
  induction n with
  | zero => intros; exact sm_none
  | succ n ih =>
    intro y1 y2 y3 y4 s0
    rw [X12_order_L41.eq_2]
    refine sm_iload C 4 dX12_order_41 rfl ?_
    refine sm_bipush C (8 : Int32) dX12_order_43 bp_8 ?_
    refine sm_icmp_ge C 192 dX12_order_45 (by decide) ?_ ?_
    · refine sm_iload_n C 2 dX12_order_192 rfl ?_
      exact sm_iret C dX12_order_193
    · refine sm_iload C 4 dX12_order_48 rfl ?_
      refine sm_iconst C (1 : Int32) dX12_order_50 ic_1 ?_
      refine sm_iadd C dX12_order_51 ?_
      refine sm_istore C [(5, .int (y4 + (1 : Int32))), (0, .ref (wad w 82)), (1, .int y1), (2, .int y2), (3, .int y3), (4, .int y4)] dX12_order_52 (by decide) rfl ?_
      exact sm_sub [1, 2, 3, 4, 5, 0] rfl (sl_X12_order_L54 C G ih FU y1 y2 y3 y4 (y4 + (1 : Int32)) s0)
set_option maxRecDepth 100000 in
set_option maxHeartbeats 4000000 in
theorem ct_X12_order {l : Launch} {w : Wco} (G : GW w) (x1 : Int32) (s0 : Sta) (qq : Int32) (ss : Sta) (hh : X12_order x1 s0 = some (qq, ss)) : Ct l w yX12_order (Cond.code yX12_order cX12_order 6 (some .int) :: GT) { frames := 6, cells := 0, slots := 0, locals := 138 } [.ref (wad w 82), .int x1] s0 (oI qq) ss := by
  refine ct_of [(0, .ref (wad w 82)), (1, .int x1)] (by decide +kernel) (Nat.le_of_ble_eq_true rfl) rfl hh (fun M _ C => ?_)
  unfold X12_order
  refine sm_aload_n C 0 dX12_order_0 rfl ?_
  refine sm_iload_n C 1 dX12_order_1 rfl ?_
  refine r_callVI C (R := RX12) (T := TX12) (N := 21) [.int x1] (G_M G) rfl (fun qq ss hh => ct_X12_isOne G x1 s0 qq ss hh) kw_1029 kw_1031 kw_29 kw_64 kw_1032 dX12_order_2 rfl dd_X12_isOne ⟨rfl, rfl⟩ ⟨by decide, by decide⟩ (Nat.le_of_ble_eq_true rfl) _ rfl (fun q1 s2 => ?_)
  refine sm_if_ne C 15 dX12_order_5 (by decide) ?_ ?_
  · refine sm_aload_n C 0 dX12_order_15 rfl ?_
    refine r_callVU C (R := RX12) (T := TX12) (N := 21) [] (G_M G) rfl (fun qq ss hh => ct_X12_layHand G s2 qq ss hh) kw_981 kw_983 kw_22 kw_64 kw_984 dX12_order_16 rfl dd_X12_layHand ⟨rfl, rfl⟩ ⟨by decide, by decide⟩ (Nat.le_of_ble_eq_true rfl) _ rfl (fun q3 s4 => ?_)
    refine sm_aload_n C 0 dX12_order_19 rfl ?_
    refine sm_bipush C (8 : Int32) dX12_order_20 bp_8 ?_
    refine r_callVU C (R := RX12) (T := TX12) (N := 21) [.int (8 : Int32)] (G_M G) rfl (fun qq ss hh => ct_X12_goTill G (8 : Int32) s4 qq ss hh) kw_1050 kw_1052 kw_31 kw_64 kw_1053 dX12_order_22 rfl dd_X12_goTill ⟨rfl, rfl⟩ ⟨by decide, by decide⟩ (Nat.le_of_ble_eq_true rfl) _ rfl (fun q5 s6 => ?_)
    refine sm_iconst C (-1 : Int32) dX12_order_25 ic_m1 ?_
    refine sm_istore_n C [(2, .int (-1 : Int32)), (0, .ref (wad w 82)), (1, .int x1)] dX12_order_26 (by decide) rfl ?_
    refine sm_aload_n C 1 dX12_order_27 rfl ?_
    refine sm_iload_n C 2 dX12_order_28 rfl ?_
    refine r_callVI C (R := RX12) (T := TX12) (N := 21) [.int x1] (G_M G) rfl (fun qq ss hh => ct_X12_worthOf G x1 s6 qq ss hh) kw_1062 kw_1064 kw_32 kw_64 kw_1065 dX12_order_29 rfl dd_X12_worthOf ⟨rfl, rfl⟩ ⟨by decide, by decide⟩ (Nat.le_of_ble_eq_true rfl) _ rfl (fun q7 s8 => ?_)
    refine sm_istore_n C [(3, .int q7), (2, .int (-1 : Int32)), (0, .ref (wad w 82)), (1, .int x1)] dX12_order_32 (by decide) rfl ?_
    refine sm_aload_n C 2 dX12_order_33 rfl ?_
    refine sm_getR C (ci := 12) (R := RX12) (T := TX12) (N := 21) (j := 0) (G_M G).2 (G_M G).1 rfl gX12 (by decide) kw_864 dX12_order_34 (fun _ _ => rfl) ?_
    refine sm_iconst C (4 : Int32) dX12_order_37 ic_4 ?_
    refine r_iald C (G_m83 G) dX12_order_38 (fun v9 => ?_)
    refine sm_istore C [(4, .int v9), (3, .int q7), (2, .int (-1 : Int32)), (0, .ref (wad w 82)), (1, .int x1)] dX12_order_39 (by decide) rfl ?_
    exact sm_sub [3, 4, 2, 1, 0] rfl (sl_X12_order_L41 C G FU x1 (-1 : Int32) q7 v9 s8)
  · refine sm_aload_n C 0 dX12_order_8 rfl ?_
    refine sm_bipush C (-2 : Int32) dX12_order_9 bp_m2 ?_
    refine r_callVI C (R := RX12) (T := TX12) (N := 21) [.int (-2 : Int32)] (G_M G) rfl (fun qq ss hh => ct_X12_bad G (-2 : Int32) s2 qq ss hh) kw_952 kw_954 kw_18 kw_64 kw_955 dX12_order_11 rfl dd_X12_bad ⟨rfl, rfl⟩ ⟨by decide, by decide⟩ (Nat.le_of_ble_eq_true rfl) _ rfl (fun q10 s11 => ?_)
    exact sm_iret C dX12_order_14
theorem dd_X12_note : yX12_note.cls = RX12 ∧ yX12_note.cls ≠ "java/lang/invoke/MethodHandle" ∧ yX12_note.cls ≠ "java/lang/invoke/VarHandle" ∧ (parseMethodDescriptor yX12_note.desc).map (fun d => d.parameters.length) = some 4 := by decide +kernel
set_option maxRecDepth 100000 in
set_option maxHeartbeats 4000000 in
theorem ct_X12_note {l : Launch} {w : Wco} (G : GW w) (x1 : Int32) (x2 : Int32) (x3 : Int32) (x4 : Int32) (s0 : Sta) (qq : Int32) (ss : Sta) (hh : X12_note x1 x2 x3 x4 s0 = some (qq, ss)) : Ct l w yX12_note (Cond.code yX12_note cX12_note 6 (some .int) :: GT) { frames := 2, cells := 0, slots := 0, locals := 46 } [.ref (wad w 82), .int x1, .int x2, .int x3, .int x4] s0 (oI qq) ss := by
  refine ct_of [(0, .ref (wad w 82)), (1, .int x1), (2, .int x2), (3, .int x3), (4, .int x4)] (by decide +kernel) (Nat.le_of_ble_eq_true rfl) rfl hh (fun M _ C => ?_)
  unfold X12_note
  refine sm_aload_n C 0 dX12_note_0 rfl ?_
  refine sm_iload_n C 1 dX12_note_1 rfl ?_
  refine r_callVI C (R := RX12) (T := TX12) (N := 21) [.int x1] (G_M G) rfl (fun qq ss hh => ct_X12_isOne G x1 s0 qq ss hh) kw_1029 kw_1031 kw_29 kw_64 kw_1032 dX12_note_2 rfl dd_X12_isOne ⟨rfl, rfl⟩ ⟨by decide, by decide⟩ (Nat.le_of_ble_eq_true rfl) _ rfl (fun q1 s2 => ?_)
  refine sm_if_eq C 43 dX12_note_5 (by decide) ?_ ?_
  · refine sm_aload_n C 0 dX12_note_43 rfl ?_
    refine sm_bipush C (-2 : Int32) dX12_note_44 bp_m2 ?_
    refine r_callVI C (R := RX12) (T := TX12) (N := 21) [.int (-2 : Int32)] (G_M G) rfl (fun qq ss hh => ct_X12_bad G (-2 : Int32) s2 qq ss hh) kw_952 kw_954 kw_18 kw_64 kw_955 dX12_note_46 rfl dd_X12_bad ⟨rfl, rfl⟩ ⟨by decide, by decide⟩ (Nat.le_of_ble_eq_true rfl) _ rfl (fun q3 s4 => ?_)
    exact sm_iret C dX12_note_49
  · refine sm_iload_n C 2 dX12_note_8 rfl ?_
    refine sm_i2l C dX12_note_9 ?_
    refine sm_lconst C (1 : Int64) dX12_note_10 lc_1 ?_
    refine sm_ldc2 C kw_951 dX12_note_11 ?_
    refine r_callSI C [.long x2.toInt64, .long (1 : Int64), .long (30 : Int64)] (fun qq ss hh => ct_X12_in x2.toInt64 (1 : Int64) (30 : Int64) s2 qq ss hh) kw_944 kw_945 kw_64 kw_946 dX12_note_14 rfl dd_X12_in ⟨rfl, rfl⟩ ⟨by decide, by decide⟩ (Nat.le_of_ble_eq_true rfl) _ rfl (fun q5 s6 => ?_)
    refine sm_if_eq C 43 dX12_note_17 (by decide) ?_ ?_
    · refine sm_aload_n C 0 dX12_note_43 rfl ?_
      refine sm_bipush C (-2 : Int32) dX12_note_44 bp_m2 ?_
      refine r_callVI C (R := RX12) (T := TX12) (N := 21) [.int (-2 : Int32)] (G_M G) rfl (fun qq ss hh => ct_X12_bad G (-2 : Int32) s6 qq ss hh) kw_952 kw_954 kw_18 kw_64 kw_955 dX12_note_46 rfl dd_X12_bad ⟨rfl, rfl⟩ ⟨by decide, by decide⟩ (Nat.le_of_ble_eq_true rfl) _ rfl (fun q7 s8 => ?_)
      exact sm_iret C dX12_note_49
    · refine sm_iload_n C 3 dX12_note_20 rfl ?_
      refine sm_i2l C dX12_note_21 ?_
      refine sm_lconst C (0 : Int64) dX12_note_22 lc_0 ?_
      refine sm_ldc2 C kw_943 dX12_note_23 ?_
      refine r_callSI C [.long x3.toInt64, .long (0 : Int64), .long (7 : Int64)] (fun qq ss hh => ct_X12_in x3.toInt64 (0 : Int64) (7 : Int64) s6 qq ss hh) kw_944 kw_945 kw_64 kw_946 dX12_note_26 rfl dd_X12_in ⟨rfl, rfl⟩ ⟨by decide, by decide⟩ (Nat.le_of_ble_eq_true rfl) _ rfl (fun q9 s10 => ?_)
      refine sm_if_eq C 43 dX12_note_29 (by decide) ?_ ?_
      · refine sm_aload_n C 0 dX12_note_43 rfl ?_
        refine sm_bipush C (-2 : Int32) dX12_note_44 bp_m2 ?_
        refine r_callVI C (R := RX12) (T := TX12) (N := 21) [.int (-2 : Int32)] (G_M G) rfl (fun qq ss hh => ct_X12_bad G (-2 : Int32) s10 qq ss hh) kw_952 kw_954 kw_18 kw_64 kw_955 dX12_note_46 rfl dd_X12_bad ⟨rfl, rfl⟩ ⟨by decide, by decide⟩ (Nat.le_of_ble_eq_true rfl) _ rfl (fun q11 s12 => ?_)
        exact sm_iret C dX12_note_49
      · refine sm_iload C 4 dX12_note_32 rfl ?_
        refine sm_i2l C dX12_note_34 ?_
        refine sm_lconst C (0 : Int64) dX12_note_35 lc_0 ?_
        refine sm_lconst C (1 : Int64) dX12_note_36 lc_1 ?_
        refine r_callSI C [.long x4.toInt64, .long (0 : Int64), .long (1 : Int64)] (fun qq ss hh => ct_X12_in x4.toInt64 (0 : Int64) (1 : Int64) s10 qq ss hh) kw_944 kw_945 kw_64 kw_946 dX12_note_37 rfl dd_X12_in ⟨rfl, rfl⟩ ⟨by decide, by decide⟩ (Nat.le_of_ble_eq_true rfl) _ rfl (fun q13 s14 => ?_)
        refine sm_if_ne C 50 dX12_note_40 (by decide) ?_ ?_
        · refine sm_aload_n C 0 dX12_note_50 rfl ?_
          refine sm_getR C (ci := 12) (R := RX12) (T := TX12) (N := 21) (j := 0) (G_M G).2 (G_M G).1 rfl gX12 (by decide) kw_864 dX12_note_51 (fun _ _ => rfl) ?_
          refine sm_iconst C (1 : Int32) dX12_note_54 ic_1 ?_
          refine r_iald C (G_m83 G) dX12_note_55 (fun v15 => ?_)
          refine sm_bipush C (6 : Int32) dX12_note_56 bp_6 ?_
          refine sm_icmp_ne C 66 dX12_note_58 (by decide) ?_ ?_
          · refine sm_bipush C (57 : Int32) dX12_note_66 bp_57 ?_
            refine sm_iconst C (4 : Int32) dX12_note_68 ic_4 ?_
            refine sm_aload_n C 0 dX12_note_69 rfl ?_
            refine sm_getR C (ci := 12) (R := RX12) (T := TX12) (N := 21) (j := 0) (G_M G).2 (G_M G).1 rfl gX12 (by decide) kw_864 dX12_note_70 (fun _ _ => rfl) ?_
            refine sm_iconst C (1 : Int32) dX12_note_73 ic_1 ?_
            refine r_iald C (G_m83 G) dX12_note_74 (fun v16 => ?_)
            refine sm_imul C dX12_note_75 ?_
            refine sm_iadd C dX12_note_76 ?_
            refine sm_istore C [(5, .int ((57 : Int32) + ((4 : Int32) * v16))), (0, .ref (wad w 82)), (1, .int x1), (2, .int x2), (3, .int x3), (4, .int x4)] dX12_note_77 (by decide) rfl ?_
            refine sm_aload_n C 1 dX12_note_79 rfl ?_
            refine sm_getR C (ci := 12) (R := RX12) (T := TX12) (N := 21) (j := 0) (G_M G).2 (G_M G).1 rfl gX12 (by decide) kw_864 dX12_note_80 (fun _ _ => rfl) ?_
            refine sm_iload C 0 dX12_note_83 rfl ?_
            refine sm_iload_n C 2 dX12_note_85 rfl ?_
            refine r_iast C (G_m83 G) dX12_note_86 (fun s17 => ?_)
            refine sm_aload_n C 1 dX12_note_87 rfl ?_
            refine sm_getR C (ci := 12) (R := RX12) (T := TX12) (N := 21) (j := 0) (G_M G).2 (G_M G).1 rfl gX12 (by decide) kw_864 dX12_note_88 (fun _ _ => rfl) ?_
            refine sm_iload C 0 dX12_note_91 rfl ?_
            refine sm_iconst C (1 : Int32) dX12_note_93 ic_1 ?_
            refine sm_iadd C dX12_note_94 ?_
            refine sm_iload_n C 3 dX12_note_95 rfl ?_
            refine r_iast C (G_m83 G) dX12_note_96 (fun s18 => ?_)
            refine sm_aload_n C 1 dX12_note_97 rfl ?_
            refine sm_getR C (ci := 12) (R := RX12) (T := TX12) (N := 21) (j := 0) (G_M G).2 (G_M G).1 rfl gX12 (by decide) kw_864 dX12_note_98 (fun _ _ => rfl) ?_
            refine sm_iload C 0 dX12_note_101 rfl ?_
            refine sm_iconst C (2 : Int32) dX12_note_103 ic_2 ?_
            refine sm_iadd C dX12_note_104 ?_
            refine sm_iload_n C 4 dX12_note_105 rfl ?_
            refine r_iast C (G_m83 G) dX12_note_106 (fun s19 => ?_)
            refine sm_aload_n C 1 dX12_note_107 rfl ?_
            refine sm_getR C (ci := 12) (R := RX12) (T := TX12) (N := 21) (j := 0) (G_M G).2 (G_M G).1 rfl gX12 (by decide) kw_864 dX12_note_108 (fun _ _ => rfl) ?_
            refine sm_iload C 0 dX12_note_111 rfl ?_
            refine sm_iconst C (3 : Int32) dX12_note_113 ic_3 ?_
            refine sm_iadd C dX12_note_114 ?_
            refine sm_iload C 5 dX12_note_115 rfl ?_
            refine r_iast C (G_m83 G) dX12_note_117 (fun s20 => ?_)
            refine sm_aload_n C 1 dX12_note_118 rfl ?_
            refine sm_getR C (ci := 12) (R := RX12) (T := TX12) (N := 21) (j := 0) (G_M G).2 (G_M G).1 rfl gX12 (by decide) kw_864 dX12_note_119 (fun _ _ => rfl) ?_
            refine sm_iconst C (1 : Int32) dX12_note_122 ic_1 ?_
            refine sm_dup2 C dX12_note_123 rfl rfl ?_
            refine r_iald C (G_m83 G) dX12_note_124 (fun v21 => ?_)
            refine sm_iconst C (1 : Int32) dX12_note_125 ic_1 ?_
            refine sm_iadd C dX12_note_126 ?_
            refine r_iast C (G_m83 G) dX12_note_127 (fun s22 => ?_)
            refine sm_aload_n C 1 dX12_note_128 rfl ?_
            refine sm_getR C (ci := 12) (R := RX12) (T := TX12) (N := 21) (j := 0) (G_M G).2 (G_M G).1 rfl gX12 (by decide) kw_864 dX12_note_129 (fun _ _ => rfl) ?_
            refine sm_iconst C (1 : Int32) dX12_note_132 ic_1 ?_
            refine r_iald C (G_m83 G) dX12_note_133 (fun v23 => ?_)
            exact sm_iret C dX12_note_134
          · refine sm_aload_n C 0 dX12_note_61 rfl ?_
            refine r_callVI C (R := RX12) (T := TX12) (N := 21) [] (G_M G) rfl (fun qq ss hh => ct_X12_full G s14 qq ss hh) kw_962 kw_964 kw_19 kw_64 kw_965 dX12_note_62 rfl dd_X12_full ⟨rfl, rfl⟩ ⟨by decide, by decide⟩ (Nat.le_of_ble_eq_true rfl) _ rfl (fun q24 s25 => ?_)
            exact sm_iret C dX12_note_65
        · refine sm_aload_n C 0 dX12_note_43 rfl ?_
          refine sm_bipush C (-2 : Int32) dX12_note_44 bp_m2 ?_
          refine r_callVI C (R := RX12) (T := TX12) (N := 21) [.int (-2 : Int32)] (G_M G) rfl (fun qq ss hh => ct_X12_bad G (-2 : Int32) s14 qq ss hh) kw_952 kw_954 kw_18 kw_64 kw_955 dX12_note_46 rfl dd_X12_bad ⟨rfl, rfl⟩ ⟨by decide, by decide⟩ (Nat.le_of_ble_eq_true rfl) _ rfl (fun q26 s27 => ?_)
          exact sm_iret C dX12_note_49
theorem dd_X12_beaten : yX12_beaten.cls = RX12 ∧ yX12_beaten.cls ≠ "java/lang/invoke/MethodHandle" ∧ yX12_beaten.cls ≠ "java/lang/invoke/VarHandle" ∧ (parseMethodDescriptor yX12_beaten.desc).map (fun d => d.parameters.length) = some 4 := by decide +kernel
set_option maxRecDepth 100000 in
set_option maxHeartbeats 4000000 in
theorem ct_X12_beaten {l : Launch} {w : Wco} (G : GW w) (x1 : Int32) (x2 : Int32) (x3 : Int32) (x4 : Int32) (s0 : Sta) (qq : Int32) (ss : Sta) (hh : X12_beaten x1 x2 x3 x4 s0 = some (qq, ss)) : Ct l w yX12_beaten (Cond.code yX12_beaten cX12_beaten 6 (some .int) :: GT) { frames := 2, cells := 0, slots := 0, locals := 46 } [.ref (wad w 82), .int x1, .int x2, .int x3, .int x4] s0 (oI qq) ss := by
  refine ct_of [(0, .ref (wad w 82)), (1, .int x1), (2, .int x2), (3, .int x3), (4, .int x4)] (by decide +kernel) (Nat.le_of_ble_eq_true rfl) rfl hh (fun M _ C => ?_)
  unfold X12_beaten
  refine sm_aload_n C 0 dX12_beaten_0 rfl ?_
  refine sm_iload_n C 1 dX12_beaten_1 rfl ?_
  refine r_callVI C (R := RX12) (T := TX12) (N := 21) [.int x1] (G_M G) rfl (fun qq ss hh => ct_X12_isOne G x1 s0 qq ss hh) kw_1029 kw_1031 kw_29 kw_64 kw_1032 dX12_beaten_2 rfl dd_X12_isOne ⟨rfl, rfl⟩ ⟨by decide, by decide⟩ (Nat.le_of_ble_eq_true rfl) _ rfl (fun q1 s2 => ?_)
  refine sm_if_eq C 36 dX12_beaten_5 (by decide) ?_ ?_
  · refine sm_aload_n C 0 dX12_beaten_36 rfl ?_
    refine sm_bipush C (-2 : Int32) dX12_beaten_37 bp_m2 ?_
    refine r_callVI C (R := RX12) (T := TX12) (N := 21) [.int (-2 : Int32)] (G_M G) rfl (fun qq ss hh => ct_X12_bad G (-2 : Int32) s2 qq ss hh) kw_952 kw_954 kw_18 kw_64 kw_955 dX12_beaten_39 rfl dd_X12_bad ⟨rfl, rfl⟩ ⟨by decide, by decide⟩ (Nat.le_of_ble_eq_true rfl) _ rfl (fun q3 s4 => ?_)
    exact sm_iret C dX12_beaten_42
  · refine sm_aload_n C 0 dX12_beaten_8 rfl ?_
    refine sm_iload_n C 2 dX12_beaten_9 rfl ?_
    refine r_callVI C (R := RX12) (T := TX12) (N := 21) [.int x2] (G_M G) rfl (fun qq ss hh => ct_X12_isOne G x2 s2 qq ss hh) kw_1029 kw_1031 kw_29 kw_64 kw_1032 dX12_beaten_10 rfl dd_X12_isOne ⟨rfl, rfl⟩ ⟨by decide, by decide⟩ (Nat.le_of_ble_eq_true rfl) _ rfl (fun q5 s6 => ?_)
    refine sm_if_eq C 36 dX12_beaten_13 (by decide) ?_ ?_
    · refine sm_aload_n C 0 dX12_beaten_36 rfl ?_
      refine sm_bipush C (-2 : Int32) dX12_beaten_37 bp_m2 ?_
      refine r_callVI C (R := RX12) (T := TX12) (N := 21) [.int (-2 : Int32)] (G_M G) rfl (fun qq ss hh => ct_X12_bad G (-2 : Int32) s6 qq ss hh) kw_952 kw_954 kw_18 kw_64 kw_955 dX12_beaten_39 rfl dd_X12_bad ⟨rfl, rfl⟩ ⟨by decide, by decide⟩ (Nat.le_of_ble_eq_true rfl) _ rfl (fun q7 s8 => ?_)
      exact sm_iret C dX12_beaten_42
    · refine sm_iload_n C 1 dX12_beaten_16 rfl ?_
      refine sm_iload_n C 2 dX12_beaten_17 rfl ?_
      refine sm_icmp_eq C 36 dX12_beaten_18 (by decide) ?_ ?_
      · refine sm_aload_n C 0 dX12_beaten_36 rfl ?_
        refine sm_bipush C (-2 : Int32) dX12_beaten_37 bp_m2 ?_
        refine r_callVI C (R := RX12) (T := TX12) (N := 21) [.int (-2 : Int32)] (G_M G) rfl (fun qq ss hh => ct_X12_bad G (-2 : Int32) s6 qq ss hh) kw_952 kw_954 kw_18 kw_64 kw_955 dX12_beaten_39 rfl dd_X12_bad ⟨rfl, rfl⟩ ⟨by decide, by decide⟩ (Nat.le_of_ble_eq_true rfl) _ rfl (fun q9 s10 => ?_)
        exact sm_iret C dX12_beaten_42
      · refine sm_iload_n C 3 dX12_beaten_21 rfl ?_
        refine r_callSI C [.int x3] (fun qq ss hh => ct_X12_isSort x3 s6 qq ss hh) kw_947 kw_948 kw_64 kw_949 dX12_beaten_22 rfl dd_X12_isSort ⟨rfl, rfl⟩ ⟨by decide, by decide⟩ (Nat.le_of_ble_eq_true rfl) _ rfl (fun q11 s12 => ?_)
        refine sm_if_eq C 36 dX12_beaten_25 (by decide) ?_ ?_
        · refine sm_aload_n C 0 dX12_beaten_36 rfl ?_
          refine sm_bipush C (-2 : Int32) dX12_beaten_37 bp_m2 ?_
          refine r_callVI C (R := RX12) (T := TX12) (N := 21) [.int (-2 : Int32)] (G_M G) rfl (fun qq ss hh => ct_X12_bad G (-2 : Int32) s12 qq ss hh) kw_952 kw_954 kw_18 kw_64 kw_955 dX12_beaten_39 rfl dd_X12_bad ⟨rfl, rfl⟩ ⟨by decide, by decide⟩ (Nat.le_of_ble_eq_true rfl) _ rfl (fun q13 s14 => ?_)
          exact sm_iret C dX12_beaten_42
        · refine sm_iload C 4 dX12_beaten_28 rfl ?_
          refine r_callSI C [.int x4] (fun qq ss hh => ct_X12_isYear x4 s12 qq ss hh) kw_940 kw_941 kw_64 kw_942 dX12_beaten_30 rfl dd_X12_isYear ⟨rfl, rfl⟩ ⟨by decide, by decide⟩ (Nat.le_of_ble_eq_true rfl) _ rfl (fun q15 s16 => ?_)
          refine sm_if_ne C 43 dX12_beaten_33 (by decide) ?_ ?_
          · refine sm_aload_n C 0 dX12_beaten_43 rfl ?_
            refine sm_getR C (ci := 12) (R := RX12) (T := TX12) (N := 21) (j := 0) (G_M G).2 (G_M G).1 rfl gX12 (by decide) kw_864 dX12_beaten_44 (fun _ _ => rfl) ?_
            refine sm_iconst C (2 : Int32) dX12_beaten_47 ic_2 ?_
            refine r_iald C (G_m83 G) dX12_beaten_48 (fun v17 => ?_)
            refine sm_bipush C (6 : Int32) dX12_beaten_49 bp_6 ?_
            refine sm_icmp_ne C 59 dX12_beaten_51 (by decide) ?_ ?_
            · refine sm_bipush C (81 : Int32) dX12_beaten_59 bp_81 ?_
              refine sm_iconst C (4 : Int32) dX12_beaten_61 ic_4 ?_
              refine sm_aload_n C 0 dX12_beaten_62 rfl ?_
              refine sm_getR C (ci := 12) (R := RX12) (T := TX12) (N := 21) (j := 0) (G_M G).2 (G_M G).1 rfl gX12 (by decide) kw_864 dX12_beaten_63 (fun _ _ => rfl) ?_
              refine sm_iconst C (2 : Int32) dX12_beaten_66 ic_2 ?_
              refine r_iald C (G_m83 G) dX12_beaten_67 (fun v18 => ?_)
              refine sm_imul C dX12_beaten_68 ?_
              refine sm_iadd C dX12_beaten_69 ?_
              refine sm_istore C [(5, .int ((81 : Int32) + ((4 : Int32) * v18))), (0, .ref (wad w 82)), (1, .int x1), (2, .int x2), (3, .int x3), (4, .int x4)] dX12_beaten_70 (by decide) rfl ?_
              refine sm_aload_n C 1 dX12_beaten_72 rfl ?_
              refine sm_getR C (ci := 12) (R := RX12) (T := TX12) (N := 21) (j := 0) (G_M G).2 (G_M G).1 rfl gX12 (by decide) kw_864 dX12_beaten_73 (fun _ _ => rfl) ?_
              refine sm_iload C 0 dX12_beaten_76 rfl ?_
              refine sm_iload_n C 2 dX12_beaten_78 rfl ?_
              refine r_iast C (G_m83 G) dX12_beaten_79 (fun s19 => ?_)
              refine sm_aload_n C 1 dX12_beaten_80 rfl ?_
              refine sm_getR C (ci := 12) (R := RX12) (T := TX12) (N := 21) (j := 0) (G_M G).2 (G_M G).1 rfl gX12 (by decide) kw_864 dX12_beaten_81 (fun _ _ => rfl) ?_
              refine sm_iload C 0 dX12_beaten_84 rfl ?_
              refine sm_iconst C (1 : Int32) dX12_beaten_86 ic_1 ?_
              refine sm_iadd C dX12_beaten_87 ?_
              refine sm_iload_n C 3 dX12_beaten_88 rfl ?_
              refine r_iast C (G_m83 G) dX12_beaten_89 (fun s20 => ?_)
              refine sm_aload_n C 1 dX12_beaten_90 rfl ?_
              refine sm_getR C (ci := 12) (R := RX12) (T := TX12) (N := 21) (j := 0) (G_M G).2 (G_M G).1 rfl gX12 (by decide) kw_864 dX12_beaten_91 (fun _ _ => rfl) ?_
              refine sm_iload C 0 dX12_beaten_94 rfl ?_
              refine sm_iconst C (2 : Int32) dX12_beaten_96 ic_2 ?_
              refine sm_iadd C dX12_beaten_97 ?_
              refine sm_iload_n C 4 dX12_beaten_98 rfl ?_
              refine r_iast C (G_m83 G) dX12_beaten_99 (fun s21 => ?_)
              refine sm_aload_n C 1 dX12_beaten_100 rfl ?_
              refine sm_getR C (ci := 12) (R := RX12) (T := TX12) (N := 21) (j := 0) (G_M G).2 (G_M G).1 rfl gX12 (by decide) kw_864 dX12_beaten_101 (fun _ _ => rfl) ?_
              refine sm_iload C 0 dX12_beaten_104 rfl ?_
              refine sm_iconst C (3 : Int32) dX12_beaten_106 ic_3 ?_
              refine sm_iadd C dX12_beaten_107 ?_
              refine sm_iload C 5 dX12_beaten_108 rfl ?_
              refine r_iast C (G_m83 G) dX12_beaten_110 (fun s22 => ?_)
              refine sm_aload_n C 1 dX12_beaten_111 rfl ?_
              refine sm_getR C (ci := 12) (R := RX12) (T := TX12) (N := 21) (j := 0) (G_M G).2 (G_M G).1 rfl gX12 (by decide) kw_864 dX12_beaten_112 (fun _ _ => rfl) ?_
              refine sm_iconst C (2 : Int32) dX12_beaten_115 ic_2 ?_
              refine sm_dup2 C dX12_beaten_116 rfl rfl ?_
              refine r_iald C (G_m83 G) dX12_beaten_117 (fun v23 => ?_)
              refine sm_iconst C (1 : Int32) dX12_beaten_118 ic_1 ?_
              refine sm_iadd C dX12_beaten_119 ?_
              refine r_iast C (G_m83 G) dX12_beaten_120 (fun s24 => ?_)
              refine sm_aload_n C 1 dX12_beaten_121 rfl ?_
              refine sm_getR C (ci := 12) (R := RX12) (T := TX12) (N := 21) (j := 0) (G_M G).2 (G_M G).1 rfl gX12 (by decide) kw_864 dX12_beaten_122 (fun _ _ => rfl) ?_
              refine sm_iconst C (2 : Int32) dX12_beaten_125 ic_2 ?_
              refine r_iald C (G_m83 G) dX12_beaten_126 (fun v25 => ?_)
              exact sm_iret C dX12_beaten_127
            · refine sm_aload_n C 0 dX12_beaten_54 rfl ?_
              refine r_callVI C (R := RX12) (T := TX12) (N := 21) [] (G_M G) rfl (fun qq ss hh => ct_X12_full G s16 qq ss hh) kw_962 kw_964 kw_19 kw_64 kw_965 dX12_beaten_55 rfl dd_X12_full ⟨rfl, rfl⟩ ⟨by decide, by decide⟩ (Nat.le_of_ble_eq_true rfl) _ rfl (fun q26 s27 => ?_)
              exact sm_iret C dX12_beaten_58
          · refine sm_aload_n C 0 dX12_beaten_36 rfl ?_
            refine sm_bipush C (-2 : Int32) dX12_beaten_37 bp_m2 ?_
            refine r_callVI C (R := RX12) (T := TX12) (N := 21) [.int (-2 : Int32)] (G_M G) rfl (fun qq ss hh => ct_X12_bad G (-2 : Int32) s16 qq ss hh) kw_952 kw_954 kw_18 kw_64 kw_955 dX12_beaten_39 rfl dd_X12_bad ⟨rfl, rfl⟩ ⟨by decide, by decide⟩ (Nat.le_of_ble_eq_true rfl) _ rfl (fun q28 s29 => ?_)
            exact sm_iret C dX12_beaten_42
