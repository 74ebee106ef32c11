theorem dd_X12_forget : yX12_forget.cls = RX12 ∧ yX12_forget.cls ≠ "java/lang/invoke/MethodHandle" ∧ yX12_forget.cls ≠ "java/lang/invoke/VarHandle" ∧ (parseMethodDescriptor yX12_forget.desc).map (fun d => d.parameters.length) = some 1 := by decide +kernel
set_option maxRecDepth 100000 in
set_option maxHeartbeats 4000000 in
theorem ct_X12_forget {l : Launch} {w : Wco} (G : GW w) (x1 : Int32) (s0 : Sta) (qq : Int32) (ss : Sta) (hh : X12_forget x1 s0 = some (qq, ss)) : Ct l w yX12_forget (Cond.code yX12_forget cX12_forget 3 (some .int) :: GT) { frames := 1, cells := 0, slots := 0, locals := 25 } [.ref (wad w 82), .int x1] s0 (oI qq) ss := by
  refine ct_of [(0, .ref (wad w 82)), (1, .int x1)] (by decide +kernel) (Nat.le_of_ble_eq_true rfl) rfl hh (fun M _ C => ?_)
  unfold X12_forget
  refine sm_iload_n C 1 dX12_forget_0 rfl ?_
  refine sm_i2l C dX12_forget_1 ?_
  refine sm_lconst C (0 : Int64) dX12_forget_2 lc_0 ?_
  refine sm_lconst C (1 : Int64) dX12_forget_3 lc_1 ?_
  refine r_callSI C [.long x1.toInt64, .long (0 : Int64), .long (1 : Int64)] (fun qq ss hh => ct_X12_in x1.toInt64 (0 : Int64) (1 : Int64) s0 qq ss hh) kw_944 kw_945 kw_64 kw_946 dX12_forget_4 rfl dd_X12_in ⟨rfl, rfl⟩ ⟨by decide, by decide⟩ (Nat.le_of_ble_eq_true rfl) _ rfl (fun q1 s2 => ?_)
  refine sm_if_ne C 17 dX12_forget_7 (by decide) ?_ ?_
  · refine sm_aload_n C 0 dX12_forget_17 rfl ?_
    refine sm_getR C (ci := 12) (R := RX12) (T := TX12) (N := 21) (j := 0) (G_M G).2 (G_M G).1 rfl gX12 (by decide) kw_864 dX12_forget_18 (fun _ _ => rfl) ?_
    refine sm_iconst C (1 : Int32) dX12_forget_21 ic_1 ?_
    refine sm_iload_n C 1 dX12_forget_22 rfl ?_
    refine sm_iadd C dX12_forget_23 ?_
    refine r_iald C (G_m83 G) dX12_forget_24 (fun v3 => ?_)
    refine sm_istore_n C [(2, .int v3), (0, .ref (wad w 82)), (1, .int x1)] dX12_forget_25 (by decide) rfl ?_
    refine sm_aload_n C 1 dX12_forget_26 rfl ?_
    refine sm_getR C (ci := 12) (R := RX12) (T := TX12) (N := 21) (j := 0) (G_M G).2 (G_M G).1 rfl gX12 (by decide) kw_864 dX12_forget_27 (fun _ _ => rfl) ?_
    refine sm_iconst C (1 : Int32) dX12_forget_30 ic_1 ?_
    refine sm_iload_n C 2 dX12_forget_31 rfl ?_
    refine sm_iadd C dX12_forget_32 ?_
    refine sm_iconst C (0 : Int32) dX12_forget_33 ic_0 ?_
    refine r_iast C (G_m83 G) dX12_forget_34 (fun s4 => ?_)
    refine sm_iload_n C 0 dX12_forget_35 rfl ?_
    exact sm_iret C dX12_forget_36
  · refine sm_aload_n C 0 dX12_forget_10 rfl ?_
    refine sm_bipush C (-2 : Int32) dX12_forget_11 bp_m2 ?_
    refine r_callVI C (R := RX12) (T := TX12) (N := 21) [.int (-2 : Int32)] (G_M G) rfl (fun qq ss hh => ct_X12_bad G (-2 : Int32) s2 qq ss hh) kw_952 kw_954 kw_18 kw_64 kw_955 dX12_forget_13 rfl dd_X12_bad ⟨rfl, rfl⟩ ⟨by decide, by decide⟩ (Nat.le_of_ble_eq_true rfl) _ rfl (fun q5 s6 => ?_)
    exact sm_iret C dX12_forget_16
theorem dd_X12_kindsOf : yX12_kindsOf.cls = RX12 ∧ yX12_kindsOf.cls ≠ "java/lang/invoke/MethodHandle" ∧ yX12_kindsOf.cls ≠ "java/lang/invoke/VarHandle" ∧ (parseMethodDescriptor yX12_kindsOf.desc).map (fun d => d.parameters.length) = some 1 := by decide +kernel
set_option maxRecDepth 100000 in
set_option maxHeartbeats 4000000 in
theorem sl_X12_kindsOf_L92 {M : Mco} {w : Wco} (C : Cx M w cX12_kindsOf 7 yX12_kindsOf.cls (Cond.code yX12_kindsOf cX12_kindsOf 7 (some .int)) (some .int) { frames := 1, cells := 0, slots := 0, locals := 23 }) (G : GW w) {k4 : Int32 → Int32 → Int32 → Sta → Option (Int32 × Sta)} {k16 : Int32 → Int32 → Int32 → Int32 → Int32 → Sta → Option (Int32 × Sta)} (H4 : ∀ (y1 : Int32) (y2 : Int32) (y3 : Int32) (s0 : Sta), Sm M w 7 oI 4 [(0, .ref (wad w 82)), (1, .int y1), (2, .int y2), (3, .int y3)] [] s0 (k4 y1 y2 y3 s0)) (H16 : ∀ (y1 : Int32) (y2 : Int32) (y3 : Int32) (y4 : Int32) (y5 : Int32) (s0 : Sta), Sm M w 7 oI 16 [(0, .ref (wad w 82)), (1, .int y1), (2, .int y2), (3, .int y3), (4, .int y4), (5, .int y5)] [] s0 (k16 y1 y2 y3 y4 y5 s0)) : ∀ (y1 : Int32) (y2 : Int32) (y3 : Int32) (y5 : Int32) (z0 : Int32) (z1 : Int32) (s0 : Sta), Sm M w 7 oI 92 [(0, .ref (wad w 82)), (1, .int y1), (2, .int y2), (3, .int y3), (5, .int y5)] [.int z0, .int z1] s0 (X12_kindsOf_L92 k4 k16 y1 y2 y3 y5 z0 z1 s0) := by
  intro y1 y2 y3 y5 z0 z1 s0
  unfold X12_kindsOf_L92
  refine sm_icmp_ne C 99 dX12_kindsOf_92 (by decide) ?_ ?_
  · refine sm_iconst C (0 : Int32) dX12_kindsOf_99 ic_0 ?_
    refine sm_istore C [(4, .int (0 : Int32)), (0, .ref (wad w 82)), (1, .int y1), (2, .int y2), (3, .int y3), (5, .int y5)] dX12_kindsOf_100 (by decide) rfl ?_
    refine sm_iinc C 5 (y5 + (1 : Int32)) [(5, .int (y5 + (1 : Int32))), (4, .int (0 : Int32)), (0, .ref (wad w 82)), (1, .int y1), (2, .int y2), (3, .int y3)] dX12_kindsOf_102 rfl (ii_1 _) (by decide) rfl ?_
    refine sm_goto C 16 dX12_kindsOf_105 (by decide) ?_
    exact sm_sub [2, 3, 4, 5, 1, 0] rfl (H16 y1 y2 y3 (0 : Int32) (y5 + (1 : Int32)) s0)
  · refine sm_iconst C (1 : Int32) dX12_kindsOf_95 ic_1 ?_
    refine sm_goto C 100 dX12_kindsOf_96 (by decide) ?_
    refine sm_istore C [(4, .int (1 : Int32)), (0, .ref (wad w 82)), (1, .int y1), (2, .int y2), (3, .int y3), (5, .int y5)] dX12_kindsOf_100 (by decide) rfl ?_
    refine sm_iinc C 5 (y5 + (1 : Int32)) [(5, .int (y5 + (1 : Int32))), (4, .int (1 : Int32)), (0, .ref (wad w 82)), (1, .int y1), (2, .int y2), (3, .int y3)] dX12_kindsOf_102 rfl (ii_1 _) (by decide) rfl ?_
    refine sm_goto C 16 dX12_kindsOf_105 (by decide) ?_
    exact sm_sub [2, 3, 4, 5, 1, 0] rfl (H16 y1 y2 y3 (1 : Int32) (y5 + (1 : Int32)) s0)
set_option maxRecDepth 100000 in
set_option maxHeartbeats 4000000 in
theorem sl_X12_kindsOf_L16 {M : Mco} {w : Wco} (C : Cx M w cX12_kindsOf 7 yX12_kindsOf.cls (Cond.code yX12_kindsOf cX12_kindsOf 7 (some .int)) (some .int) { frames := 1, cells := 0, slots := 0, locals := 23 }) (G : GW w) {k4 : Int32 → Int32 → Int32 → Sta → Option (Int32 × Sta)} (H4 : ∀ (y1 : Int32) (y2 : Int32) (y3 : Int32) (s0 : Sta), Sm M w 7 oI 4 [(0, .ref (wad w 82)), (1, .int y1), (2, .int y2), (3, .int y3)] [] s0 (k4 y1 y2 y3 s0)) : ∀ (n : Nat) (y1 : Int32) (y2 : Int32) (y3 : Int32) (y4 : Int32) (y5 : Int32) (s0 : Sta), Sm M w 7 oI 16 [(0, .ref (wad w 82)), (1, .int y1), (2, .int y2), (3, .int y3), (4, .int y4), (5, .int y5)] [] s0 (X12_kindsOf_L16 k4 n y1 y2 y3 y4 y5 s0) := by
  intro n
  induction n with
  | zero => intros; exact sm_none
  | succ n ih =>
    intro y1 y2 y3 y4 y5 s0
    rw [X12_kindsOf_L16.eq_2]
    refine sm_iload C 5 dX12_kindsOf_16 rfl ?_
    refine sm_aload_n C 0 dX12_kindsOf_18 rfl ?_
    refine sm_getR C (ci := 12) (R := RX12) (T := TX12) (N := 21) (j := 0) (G_M G).2 (G_M G).1 rfl gX12 (by decide) kw_864 dX12_kindsOf_19 (fun _ _ => rfl) ?_
    refine sm_iconst C (1 : Int32) dX12_kindsOf_22 ic_1 ?_
    refine r_iald C (G_m83 G) dX12_kindsOf_23 (fun v1 => ?_)
    refine sm_icmp_ge C 108 dX12_kindsOf_24 (by decide) ?_ ?_
    · refine sm_iload_n C 2 dX12_kindsOf_108 rfl ?_
      refine sm_iload C 4 dX12_kindsOf_109 rfl ?_
      refine sm_if_eq C 120 dX12_kindsOf_111 (by decide) ?_ ?_
      · refine sm_iconst C (0 : Int32) dX12_kindsOf_120 ic_0 ?_
        refine sm_ior C dX12_kindsOf_121 ?_
        refine sm_istore_n C [(2, .int (y2 ||| (0 : Int32))), (0, .ref (wad w 82)), (1, .int y1), (3, .int y3), (4, .int y4), (5, .int y5)] dX12_kindsOf_122 (by decide) rfl ?_
        refine sm_iinc C 3 (y3 + (1 : Int32)) [(3, .int (y3 + (1 : Int32))), (2, .int (y2 ||| (0 : Int32))), (0, .ref (wad w 82)), (1, .int y1), (4, .int y4), (5, .int y5)] dX12_kindsOf_123 rfl (ii_1 _) (by decide) rfl ?_
        refine sm_goto C 4 dX12_kindsOf_126 (by decide) ?_
        exact sm_sub [2, 3, 1, 0] rfl (H4 y1 (y2 ||| (0 : Int32)) (y3 + (1 : Int32)) s0)
      · refine sm_iconst C (1 : Int32) dX12_kindsOf_114 ic_1 ?_
        refine sm_iload_n C 3 dX12_kindsOf_115 rfl ?_
        refine sm_ishl C dX12_kindsOf_116 ?_
        refine sm_goto C 121 dX12_kindsOf_117 (by decide) ?_
        refine sm_ior C dX12_kindsOf_121 ?_
        refine sm_istore_n C [(2, .int (y2 ||| ((1 : Int32) <<< (y3 &&& 31)))), (0, .ref (wad w 82)), (1, .int y1), (3, .int y3), (4, .int y4), (5, .int y5)] dX12_kindsOf_122 (by decide) rfl ?_
        refine sm_iinc C 3 (y3 + (1 : Int32)) [(3, .int (y3 + (1 : Int32))), (2, .int (y2 ||| ((1 : Int32) <<< (y3 &&& 31)))), (0, .ref (wad w 82)), (1, .int y1), (4, .int y4), (5, .int y5)] dX12_kindsOf_123 rfl (ii_1 _) (by decide) rfl ?_
        refine sm_goto C 4 dX12_kindsOf_126 (by decide) ?_
        exact sm_sub [2, 3, 1, 0] rfl (H4 y1 (y2 ||| ((1 : Int32) <<< (y3 &&& 31))) (y3 + (1 : Int32)) s0)
    · refine sm_bipush C (57 : Int32) dX12_kindsOf_27 bp_57 ?_
      refine sm_iconst C (4 : Int32) dX12_kindsOf_29 ic_4 ?_
      refine sm_iload C 5 dX12_kindsOf_30 rfl ?_
      refine sm_imul C dX12_kindsOf_32 ?_
      refine sm_iadd C dX12_kindsOf_33 ?_
      refine sm_istore C [(6, .int ((57 : Int32) + ((4 : Int32) * y5))), (0, .ref (wad w 82)), (1, .int y1), (2, .int y2), (3, .int y3), (4, .int y4), (5, .int y5)] dX12_kindsOf_34 (by decide) rfl ?_
      refine sm_iload C 5 dX12_kindsOf_36 rfl ?_
      refine sm_if_eq C 99 dX12_kindsOf_38 (by decide) ?_ ?_
      · refine sm_iconst C (0 : Int32) dX12_kindsOf_99 ic_0 ?_
        refine sm_istore C [(4, .int (0 : Int32)), (6, .int ((57 : Int32) + ((4 : Int32) * y5))), (0, .ref (wad w 82)), (1, .int y1), (2, .int y2), (3, .int y3), (5, .int y5)] dX12_kindsOf_100 (by decide) rfl ?_
        refine sm_iinc C 6 (y5 + (1 : Int32)) [(5, .int (y5 + (1 : Int32))), (4, .int (0 : Int32)), (6, .int ((57 : Int32) + ((4 : Int32) * y5))), (0, .ref (wad w 82)), (1, .int y1), (2, .int y2), (3, .int y3)] dX12_kindsOf_102 rfl (ii_1 _) (by decide) rfl ?_
        refine sm_goto C 16 dX12_kindsOf_105 (by decide) ?_
        exact sm_sub [3, 4, 5, 6, 1, 0] rfl (ih y1 y2 y3 (0 : Int32) (y5 + (1 : Int32)) s0)
      · refine sm_aload_n C 1 dX12_kindsOf_41 rfl ?_
        refine sm_getR C (ci := 12) (R := RX12) (T := TX12) (N := 21) (j := 0) (G_M G).2 (G_M G).1 rfl gX12 (by decide) kw_864 dX12_kindsOf_42 (fun _ _ => rfl) ?_
        refine sm_iload C 0 dX12_kindsOf_45 rfl ?_
        refine r_iald C (G_m83 G) dX12_kindsOf_47 (fun v2 => ?_)
        refine sm_iload_n C 2 dX12_kindsOf_48 rfl ?_
        refine sm_icmp_ne C 95 dX12_kindsOf_49 (by decide) ?_ ?_
        · refine sm_iconst C (1 : Int32) dX12_kindsOf_95 ic_1 ?_
          refine sm_goto C 100 dX12_kindsOf_96 (by decide) ?_
          refine sm_istore C [(4, .int (1 : Int32)), (6, .int ((57 : Int32) + ((4 : Int32) * y5))), (0, .ref (wad w 82)), (1, .int y1), (2, .int y2), (3, .int y3), (5, .int y5)] dX12_kindsOf_100 (by decide) rfl ?_
          refine sm_iinc C 6 (y5 + (1 : Int32)) [(5, .int (y5 + (1 : Int32))), (4, .int (1 : Int32)), (6, .int ((57 : Int32) + ((4 : Int32) * y5))), (0, .ref (wad w 82)), (1, .int y1), (2, .int y2), (3, .int y3)] dX12_kindsOf_102 rfl (ii_1 _) (by decide) rfl ?_
          refine sm_goto C 16 dX12_kindsOf_105 (by decide) ?_
          exact sm_sub [3, 4, 5, 6, 1, 0] rfl (ih y1 y2 y3 (1 : Int32) (y5 + (1 : Int32)) s0)
        · refine sm_iload_n C 4 dX12_kindsOf_52 rfl ?_
          refine sm_aload_n C 1 dX12_kindsOf_53 rfl ?_
          refine sm_getR C (ci := 12) (R := RX12) (T := TX12) (N := 21) (j := 0) (G_M G).2 (G_M G).1 rfl gX12 (by decide) kw_864 dX12_kindsOf_54 (fun _ _ => rfl) ?_
          refine sm_iload C 0 dX12_kindsOf_57 rfl ?_
          refine sm_iconst C (1 : Int32) dX12_kindsOf_59 ic_1 ?_
          refine sm_iadd C dX12_kindsOf_60 ?_
          refine r_iald C (G_m83 G) dX12_kindsOf_61 (fun v3 => ?_)
          refine sm_aload_n C 1 dX12_kindsOf_62 rfl ?_
          refine sm_getR C (ci := 12) (R := RX12) (T := TX12) (N := 21) (j := 0) (G_M G).2 (G_M G).1 rfl gX12 (by decide) kw_864 dX12_kindsOf_63 (fun _ _ => rfl) ?_
          refine sm_iload C 0 dX12_kindsOf_66 rfl ?_
          refine sm_iconst C (2 : Int32) dX12_kindsOf_68 ic_2 ?_
          refine sm_iadd C dX12_kindsOf_69 ?_
          refine r_iald C (G_m83 G) dX12_kindsOf_70 (fun v4 => ?_)
          refine r_callSI C [.int y3, .int v3, .int v4] (fun qq ss hh => ct_X12_triesAs y3 v3 v4 s0 qq ss hh) kw_1011 kw_1012 kw_64 kw_1013 dX12_kindsOf_71 rfl dd_X12_triesAs ⟨rfl, rfl⟩ ⟨by decide, by decide⟩ (Nat.le_of_ble_eq_true rfl) _ rfl (fun q5 s6 => ?_)
          refine sm_aload_n C 1 dX12_kindsOf_74 rfl ?_
          refine sm_getR C (ci := 12) (R := RX12) (T := TX12) (N := 21) (j := 0) (G_M G).2 (G_M G).1 rfl gX12 (by decide) kw_864 dX12_kindsOf_75 (fun _ _ => rfl) ?_
          refine sm_iload C 0 dX12_kindsOf_78 rfl ?_
          refine sm_iconst C (3 : Int32) dX12_kindsOf_80 ic_3 ?_
          refine sm_iadd C dX12_kindsOf_81 ?_
          refine r_iald C (G_m83 G) dX12_kindsOf_82 (fun v7 => ?_)
          refine sm_iconst C (1 : Int32) dX12_kindsOf_83 ic_1 ?_
          refine sm_icmp_ne C 91 dX12_kindsOf_84 (by decide) ?_ ?_
          · refine sm_iconst C (0 : Int32) dX12_kindsOf_91 ic_0 ?_
            exact sm_sub [1, 2, 3, 4, 6] rfl (sl_X12_kindsOf_L92 C G H4 ih y1 y2 y3 y5 (0 : Int32) q5 s6)
          · refine sm_iconst C (1 : Int32) dX12_kindsOf_87 ic_1 ?_
            refine sm_goto C 92 dX12_kindsOf_88 (by decide) ?_
            exact sm_sub [1, 2, 3, 4, 6] rfl (sl_X12_kindsOf_L92 C G H4 ih y1 y2 y3 y5 (1 : Int32) q5 s6)
set_option maxRecDepth 100000 in
set_option maxHeartbeats 4000000 in
theorem sl_X12_kindsOf_L4 {M : Mco} {w : Wco} (C : Cx M w cX12_kindsOf 7 yX12_kindsOf.cls (Cond.code yX12_kindsOf cX12_kindsOf 7 (some .int)) (some .int) { frames := 1, cells := 0, slots := 0, locals := 23 }) (G : GW w) : ∀ (n : Nat) (y1 : Int32) (y2 : Int32) (y3 : Int32) (s0 : Sta), Sm M w 7 oI 4 [(0, .ref (wad w 82)), (1, .int y1), (2, .int y2), (3, .int y3)] [] s0 (X12_kindsOf_L4 n y1 y2 y3 s0) := by
  intro n
  induction n with
  | zero => intros; exact sm_none
  | succ n ih =>
    intro y1 y2 y3 s0
    rw [X12_kindsOf_L4.eq_2]
    refine sm_iload_n C 3 dX12_kindsOf_4 rfl ?_
    refine sm_bipush C (6 : Int32) dX12_kindsOf_5 bp_6 ?_
    refine sm_icmp_ge C 129 dX12_kindsOf_7 (by decide) ?_ ?_
    · refine sm_iload_n C 2 dX12_kindsOf_129 rfl ?_
      exact sm_iret C dX12_kindsOf_130
    · refine sm_iconst C (1 : Int32) dX12_kindsOf_10 ic_1 ?_
      refine sm_istore C [(4, .int (1 : Int32)), (0, .ref (wad w 82)), (1, .int y1), (2, .int y2), (3, .int y3)] dX12_kindsOf_11 (by decide) rfl ?_
      refine sm_iconst C (0 : Int32) dX12_kindsOf_13 ic_0 ?_
      refine sm_istore C [(5, .int (0 : Int32)), (4, .int (1 : Int32)), (0, .ref (wad w 82)), (1, .int y1), (2, .int y2), (3, .int y3)] dX12_kindsOf_14 (by decide) rfl ?_
      exact sm_sub [2, 3, 4, 5, 1, 0] rfl (sl_X12_kindsOf_L16 C G ih FU y1 y2 y3 (1 : Int32) (0 : Int32) s0)
set_option maxRecDepth 100000 in
set_option maxHeartbeats 4000000 in
theorem ct_X12_kindsOf {l : Launch} {w : Wco} (G : GW w) (x1 : Int32) (s0 : Sta) (qq : Int32) (ss : Sta) (hh : X12_kindsOf x1 s0 = some (qq, ss)) : Ct l w yX12_kindsOf (Cond.code yX12_kindsOf cX12_kindsOf 7 (some .int) :: GT) { frames := 1, cells := 0, slots := 0, locals := 23 } [.ref (wad w 82), .int x1] s0 (oI qq) ss := by
  refine ct_of [(0, .ref (wad w 82)), (1, .int x1)] (by decide +kernel) (Nat.le_of_ble_eq_true rfl) rfl hh (fun M _ C => ?_)
  unfold X12_kindsOf
  refine sm_iconst C (0 : Int32) dX12_kindsOf_0 ic_0 ?_
  refine sm_istore_n C [(2, .int (0 : Int32)), (0, .ref (wad w 82)), (1, .int x1)] dX12_kindsOf_1 (by decide) rfl ?_
  refine sm_iconst C (0 : Int32) dX12_kindsOf_2 ic_0 ?_
  refine sm_istore_n C [(3, .int (0 : Int32)), (2, .int (0 : Int32)), (0, .ref (wad w 82)), (1, .int x1)] dX12_kindsOf_3 (by decide) rfl ?_
  exact sm_sub [2, 3, 1, 0] rfl (sl_X12_kindsOf_L4 C G FU x1 (0 : Int32) (0 : Int32) s0)
theorem dd_X12_is : yX12_is.cls = RX12 ∧ yX12_is.cls ≠ "java/lang/invoke/MethodHandle" ∧ yX12_is.cls ≠ "java/lang/invoke/VarHandle" ∧ (parseMethodDescriptor yX12_is.desc).map (fun d => d.parameters.length) = some 1 := by decide +kernel
set_option maxRecDepth 100000 in
set_option maxHeartbeats 4000000 in
theorem ct_X12_is {l : Launch} {w : Wco} (G : GW w) (x1 : Int32) (s0 : Sta) (qq : Int32) (ss : Sta) (hh : X12_is x1 s0 = some (qq, ss)) : Ct l w yX12_is (Cond.code yX12_is cX12_is 2 (some .int) :: GT) { frames := 2, cells := 0, slots := 0, locals := 49 } [.ref (wad w 82), .int x1] s0 (oI qq) ss := by
  refine ct_of [(0, .ref (wad w 82)), (1, .int x1)] (by decide +kernel) (Nat.le_of_ble_eq_true rfl) rfl hh (fun M _ C => ?_)
  unfold X12_is
  refine sm_aload_n C 0 dX12_is_0 rfl ?_
  refine sm_iload_n C 1 dX12_is_1 rfl ?_
  refine r_callVI C (R := RX12) (T := TX12) (N := 21) [.int x1] (G_M G) rfl (fun qq ss hh => ct_X12_isOne G x1 s0 qq ss hh) kw_1029 kw_1031 kw_29 kw_64 kw_1032 dX12_is_2 rfl dd_X12_isOne ⟨rfl, rfl⟩ ⟨by decide, by decide⟩ (Nat.le_of_ble_eq_true rfl) _ rfl (fun q1 s2 => ?_)
  refine sm_if_eq C 16 dX12_is_5 (by decide) ?_ ?_
  · refine sm_aload_n C 0 dX12_is_16 rfl ?_
    refine sm_bipush C (-2 : Int32) dX12_is_17 bp_m2 ?_
    refine r_callVI C (R := RX12) (T := TX12) (N := 21) [.int (-2 : Int32)] (G_M G) rfl (fun qq ss hh => ct_X12_bad G (-2 : Int32) s2 qq ss hh) kw_952 kw_954 kw_18 kw_64 kw_955 dX12_is_19 rfl dd_X12_bad ⟨rfl, rfl⟩ ⟨by decide, by decide⟩ (Nat.le_of_ble_eq_true rfl) _ rfl (fun q3 s4 => ?_)
    exact sm_iret C dX12_is_22
  · refine sm_aload_n C 0 dX12_is_8 rfl ?_
    refine sm_iload_n C 1 dX12_is_9 rfl ?_
    refine r_callVI C (R := RX12) (T := TX12) (N := 21) [.int x1] (G_M G) rfl (fun qq ss hh => ct_X12_kindsOf G x1 s2 qq ss hh) kw_1113 kw_1115 kw_35 kw_64 kw_1116 dX12_is_10 rfl dd_X12_kindsOf ⟨rfl, rfl⟩ ⟨by decide, by decide⟩ (Nat.le_of_ble_eq_true rfl) _ rfl (fun q5 s6 => ?_)
    refine sm_goto C 22 dX12_is_13 (by decide) ?_
    exact sm_iret C dX12_is_22
theorem dd_X12_offer : yX12_offer.cls = RX12 ∧ yX12_offer.cls ≠ "java/lang/invoke/MethodHandle" ∧ yX12_offer.cls ≠ "java/lang/invoke/VarHandle" ∧ (parseMethodDescriptor yX12_offer.desc).map (fun d => d.parameters.length) = some 1 := by decide +kernel
set_option maxRecDepth 100000 in
set_option maxHeartbeats 4000000 in
theorem sl_X12_offer_L155 {M : Mco} {w : Wco} (C : Cx M w cX12_offer 9 yX12_offer.cls (Cond.code yX12_offer cX12_offer 9 (some .int)) (some .int) { frames := 2, cells := 0, slots := 0, locals := 49 }) (G : GW w) {k56 : Int32 → Int32 → Int32 → Int32 → Int32 → Sta → Option (Int32 × Sta)} (H56 : ∀ (y2 : Int32) (y3 : Int32) (y4 : Int32) (y5 : Int32) (y6 : Int32) (s0 : Sta), Sm M w 9 oI 56 [(2, .int y2), (3, .int y3), (4, .int y4), (5, .int y5), (6, .int y6)] [] s0 (k56 y2 y3 y4 y5 y6 s0)) : ∀ (y2 : Int32) (y3 : Int32) (y5 : Int32) (y6 : Int32) (y8 : Int32) (z0 : Int32) (s0 : Sta), Sm M w 9 oI 155 [(2, .int y2), (3, .int y3), (5, .int y5), (6, .int y6), (8, .int y8)] [.int z0] s0 (X12_offer_L155 k56 y2 y3 y5 y6 y8 z0 s0) := by
  intro y2 y3 y5 y6 y8 z0 s0
  unfold X12_offer_L155
  refine sm_istore C [(4, .int z0), (2, .int y2), (3, .int y3), (5, .int y5), (6, .int y6), (8, .int y8)] dX12_offer_155 (by decide) rfl ?_
  refine sm_iload C 5 dX12_offer_157 rfl ?_
  refine sm_iload C 3 dX12_offer_159 rfl ?_
  refine sm_icmp_ge C 169 dX12_offer_161 (by decide) ?_ ?_
  · refine sm_iload C 3 dX12_offer_169 rfl ?_
    refine sm_istore C [(5, .int y5), (4, .int z0), (2, .int y2), (3, .int y3), (6, .int y6), (8, .int y8)] dX12_offer_171 (by decide) rfl ?_
    refine sm_iinc C 4 (y6 + (1 : Int32)) [(6, .int (y6 + (1 : Int32))), (5, .int y5), (4, .int z0), (2, .int y2), (3, .int y3), (8, .int y8)] dX12_offer_173 rfl (ii_1 _) (by decide) rfl ?_
    refine sm_goto C 56 dX12_offer_176 (by decide) ?_
    exact sm_sub [3, 4, 2, 1, 0] rfl (H56 y2 y3 z0 y5 (y6 + (1 : Int32)) s0)
  · refine sm_iload C 5 dX12_offer_164 rfl ?_
    refine sm_goto C 171 dX12_offer_166 (by decide) ?_
    refine sm_istore C [(5, .int y8), (4, .int z0), (2, .int y2), (3, .int y3), (6, .int y6), (8, .int y8)] dX12_offer_171 (by decide) rfl ?_
    refine sm_iinc C 4 (y6 + (1 : Int32)) [(6, .int (y6 + (1 : Int32))), (5, .int y8), (4, .int z0), (2, .int y2), (3, .int y3), (8, .int y8)] dX12_offer_173 rfl (ii_1 _) (by decide) rfl ?_
    refine sm_goto C 56 dX12_offer_176 (by decide) ?_
    exact sm_sub [3, 4, 2, 1, 0] rfl (H56 y2 y3 z0 y8 (y6 + (1 : Int32)) s0)
set_option maxRecDepth 100000 in
set_option maxHeartbeats 4000000 in
theorem sl_X12_offer_L139 {M : Mco} {w : Wco} (C : Cx M w cX12_offer 9 yX12_offer.cls (Cond.code yX12_offer cX12_offer 9 (some .int)) (some .int) { frames := 2, cells := 0, slots := 0, locals := 49 }) (G : GW w) {k56 : Int32 → Int32 → Int32 → Int32 → Int32 → Sta → Option (Int32 × Sta)} (H56 : ∀ (y2 : Int32) (y3 : Int32) (y4 : Int32) (y5 : Int32) (y6 : Int32) (s0 : Sta), Sm M w 9 oI 56 [(2, .int y2), (3, .int y3), (4, .int y4), (5, .int y5), (6, .int y6)] [] s0 (k56 y2 y3 y4 y5 y6 s0)) : ∀ (y2 : Int32) (y3 : Int32) (y4 : Int32) (y5 : Int32) (y6 : Int32) (z0 : Int32) (s0 : Sta), Sm M w 9 oI 139 [(2, .int y2), (3, .int y3), (4, .int y4), (5, .int y5), (6, .int y6)] [.int z0] s0 (X12_offer_L139 k56 y2 y3 y4 y5 y6 z0 s0) := by
  intro y2 y3 y4 y5 y6 z0 s0
  unfold X12_offer_L139
  refine sm_istore C [(8, .int z0), (2, .int y2), (3, .int y3), (4, .int y4), (5, .int y5), (6, .int y6)] dX12_offer_139 (by decide) rfl ?_
  refine sm_iload C 0 dX12_offer_141 rfl ?_
  refine sm_iload C 4 dX12_offer_143 rfl ?_
  refine sm_icmp_ge C 153 dX12_offer_145 (by decide) ?_ ?_
  · refine sm_iload C 3 dX12_offer_153 rfl ?_
    exact sm_sub [1, 2, 4, 5, 0] rfl (sl_X12_offer_L155 C G H56 y2 y3 y5 y6 z0 y4 s0)
  · refine sm_iload C 5 dX12_offer_148 rfl ?_
    refine sm_goto C 155 dX12_offer_150 (by decide) ?_
    exact sm_sub [1, 2, 4, 5, 0] rfl (sl_X12_offer_L155 C G H56 y2 y3 y5 y6 z0 y6 s0)
set_option maxRecDepth 100000 in
set_option maxHeartbeats 4000000 in
theorem sl_X12_offer_L73 {M : Mco} {w : Wco} (C : Cx M w cX12_offer 9 yX12_offer.cls (Cond.code yX12_offer cX12_offer 9 (some .int)) (some .int) { frames := 2, cells := 0, slots := 0, locals := 49 }) (G : GW w) {k56 : Int32 → Int32 → Int32 → Int32 → Int32 → Sta → Option (Int32 × Sta)} (H56 : ∀ (y2 : Int32) (y3 : Int32) (y4 : Int32) (y5 : Int32) (y6 : Int32) (s0 : Sta), Sm M w 9 oI 56 [(2, .int y2), (3, .int y3), (4, .int y4), (5, .int y5), (6, .int y6)] [] s0 (k56 y2 y3 y4 y5 y6 s0)) : ∀ (n : Nat) (y2 : Int32) (y3 : Int32) (y4 : Int32) (y5 : Int32) (y6 : Int32) (y7 : Int32) (y8 : Int32) (s0 : Sta), Sm M w 9 oI 73 [(2, .int y2), (3, .int y3), (4, .int y4), (5, .int y5), (6, .int y6), (7, .int y7), (8, .int y8)] [] s0 (X12_offer_L73 k56 n y2 y3 y4 y5 y6 y7 y8 s0) := by
  intro n
  induction n with
  | zero => intros; exact sm_none
  | succ n ih =>
    intro y2 y3 y4 y5 y6 y7 y8 s0
    rw [X12_offer_L73.eq_2]
    refine sm_iload C 6 dX12_offer_73 rfl ?_
    refine sm_bipush C (6 : Int32) dX12_offer_75 bp_6 ?_
    refine sm_icmp_ge C 116 dX12_offer_77 (by decide) ?_ ?_
    · refine sm_iconst C (2 : Int32) dX12_offer_116 ic_2 ?_
      refine sm_iload C 5 dX12_offer_117 rfl ?_
      refine sm_imul C dX12_offer_119 ?_
      refine sm_iload_n C 0 dX12_offer_120 rfl ?_
      refine r_callSI C [.int y2] (fun qq ss hh => ct_X12_bits y2 s0 qq ss hh) kw_1001 kw_1002 kw_64 kw_1003 dX12_offer_121 rfl dd_X12_bits ⟨rfl, rfl⟩ ⟨by decide, by decide⟩ (Nat.le_of_ble_eq_true rfl) _ rfl (fun q9 s10 => ?_)
      refine sm_icmp_le C 132 dX12_offer_124 (by decide) ?_ ?_
      · refine sm_iload_n C 0 dX12_offer_132 rfl ?_
        refine r_callSI C [.int y2] (fun qq ss hh => ct_X12_bits y2 s10 qq ss hh) kw_1001 kw_1002 kw_64 kw_1003 dX12_offer_133 rfl dd_X12_bits ⟨rfl, rfl⟩ ⟨by decide, by decide⟩ (Nat.le_of_ble_eq_true rfl) _ rfl (fun q11 s12 => ?_)
        refine sm_iload C 5 dX12_offer_136 rfl ?_
        refine sm_isub C dX12_offer_138 ?_
        exact sm_sub [0, 1, 2, 3, 4] rfl (sl_X12_offer_L139 C G H56 y2 y3 y4 y5 y6 (q11 - y7) s12)
      · refine sm_iload C 5 dX12_offer_127 rfl ?_
        refine sm_goto C 139 dX12_offer_129 (by decide) ?_
        exact sm_sub [0, 1, 2, 3, 4] rfl (sl_X12_offer_L139 C G H56 y2 y3 y4 y5 y6 y7 s10)
    · refine sm_iload C 5 dX12_offer_80 rfl ?_
      refine sm_iload_n C 0 dX12_offer_82 rfl ?_
      refine sm_iload C 6 dX12_offer_83 rfl ?_
      refine r_callSI C [.int y2, .int y8] (fun qq ss hh => ct_X12_has y2 y8 s0 qq ss hh) kw_1066 kw_1067 kw_64 kw_1068 dX12_offer_85 rfl dd_X12_has ⟨rfl, rfl⟩ ⟨by decide, by decide⟩ (Nat.le_of_ble_eq_true rfl) _ rfl (fun q13 s14 => ?_)
      refine sm_if_eq C 106 dX12_offer_88 (by decide) ?_ ?_
      · refine sm_iconst C (0 : Int32) dX12_offer_106 ic_0 ?_
        refine sm_iadd C dX12_offer_107 ?_
        refine sm_istore C [(7, .int (y7 + (0 : Int32))), (2, .int y2), (3, .int y3), (4, .int y4), (5, .int y5), (6, .int y6), (8, .int y8)] dX12_offer_108 (by decide) rfl ?_
        refine sm_iinc C 6 (y8 + (1 : Int32)) [(8, .int (y8 + (1 : Int32))), (7, .int (y7 + (0 : Int32))), (2, .int y2), (3, .int y3), (4, .int y4), (5, .int y5), (6, .int y6)] dX12_offer_110 rfl (ii_1 _) (by decide) rfl ?_
        refine sm_goto C 73 dX12_offer_113 (by decide) ?_
        exact sm_sub [2, 3, 4, 5, 6, 1, 0] rfl (ih y2 y3 y4 y5 y6 (y7 + (0 : Int32)) (y8 + (1 : Int32)) s14)
      · refine sm_iload C 6 dX12_offer_91 rfl ?_
        refine sm_iload C 4 dX12_offer_93 rfl ?_
        refine sm_iload_n C 1 dX12_offer_95 rfl ?_
        refine r_callSI C [.int y8, .int y6, .int y3] (fun qq ss hh => ct_X12_triesAs y8 y6 y3 s14 qq ss hh) kw_1011 kw_1012 kw_64 kw_1013 dX12_offer_96 rfl dd_X12_triesAs ⟨rfl, rfl⟩ ⟨by decide, by decide⟩ (Nat.le_of_ble_eq_true rfl) _ rfl (fun q15 s16 => ?_)
        refine sm_if_eq C 106 dX12_offer_99 (by decide) ?_ ?_
        · refine sm_iconst C (0 : Int32) dX12_offer_106 ic_0 ?_
          refine sm_iadd C dX12_offer_107 ?_
          refine sm_istore C [(7, .int (y7 + (0 : Int32))), (2, .int y2), (3, .int y3), (4, .int y4), (5, .int y5), (6, .int y6), (8, .int y8)] dX12_offer_108 (by decide) rfl ?_
          refine sm_iinc C 6 (y8 + (1 : Int32)) [(8, .int (y8 + (1 : Int32))), (7, .int (y7 + (0 : Int32))), (2, .int y2), (3, .int y3), (4, .int y4), (5, .int y5), (6, .int y6)] dX12_offer_110 rfl (ii_1 _) (by decide) rfl ?_
          refine sm_goto C 73 dX12_offer_113 (by decide) ?_
          exact sm_sub [2, 3, 4, 5, 6, 1, 0] rfl (ih y2 y3 y4 y5 y6 (y7 + (0 : Int32)) (y8 + (1 : Int32)) s16)
        · refine sm_iconst C (1 : Int32) dX12_offer_102 ic_1 ?_
          refine sm_goto C 107 dX12_offer_103 (by decide) ?_
          refine sm_iadd C dX12_offer_107 ?_
          refine sm_istore C [(7, .int (y7 + (1 : Int32))), (2, .int y2), (3, .int y3), (4, .int y4), (5, .int y5), (6, .int y6), (8, .int y8)] dX12_offer_108 (by decide) rfl ?_
          refine sm_iinc C 6 (y8 + (1 : Int32)) [(8, .int (y8 + (1 : Int32))), (7, .int (y7 + (1 : Int32))), (2, .int y2), (3, .int y3), (4, .int y4), (5, .int y5), (6, .int y6)] dX12_offer_110 rfl (ii_1 _) (by decide) rfl ?_
          refine sm_goto C 73 dX12_offer_113 (by decide) ?_
          exact sm_sub [2, 3, 4, 5, 6, 1, 0] rfl (ih y2 y3 y4 y5 y6 (y7 + (1 : Int32)) (y8 + (1 : Int32)) s16)
set_option maxRecDepth 100000 in
set_option maxHeartbeats 4000000 in
theorem sl_X12_offer_L56 {M : Mco} {w : Wco} (C : Cx M w cX12_offer 9 yX12_offer.cls (Cond.code yX12_offer cX12_offer 9 (some .int)) (some .int) { frames := 2, cells := 0, slots := 0, locals := 49 }) (G : GW w) : ∀ (n : Nat) (y2 : Int32) (y3 : Int32) (y4 : Int32) (y5 : Int32) (y6 : Int32) (s0 : Sta), Sm M w 9 oI 56 [(2, .int y2), (3, .int y3), (4, .int y4), (5, .int y5), (6, .int y6)] [] s0 (X12_offer_L56 n y2 y3 y4 y5 y6 s0) := by
  intro n
  induction n with
  | zero => intros; exact sm_none
  | succ n ih =>
    intro y2 y3 y4 y5 y6 s0
    rw [X12_offer_L56.eq_2]
    refine sm_iload C 4 dX12_offer_56 rfl ?_
    refine sm_bipush C (30 : Int32) dX12_offer_58 bp_30 ?_
    refine sm_icmp_gt C 179 dX12_offer_60 (by decide) ?_ ?_
    · refine sm_iload C 2 dX12_offer_179 rfl ?_
      exact sm_iret C dX12_offer_181
    · refine sm_iload_n C 0 dX12_offer_63 rfl ?_
      refine sm_if_le C 179 dX12_offer_64 (by decide) ?_ ?_
      · refine sm_iload C 2 dX12_offer_179 rfl ?_
        exact sm_iret C dX12_offer_181
      · refine sm_iconst C (0 : Int32) dX12_offer_67 ic_0 ?_
        refine sm_istore C [(7, .int (0 : Int32)), (2, .int y2), (3, .int y3), (4, .int y4), (5, .int y5), (6, .int y6)] dX12_offer_68 (by decide) rfl ?_
        refine sm_iconst C (0 : Int32) dX12_offer_70 ic_0 ?_
        refine sm_istore C [(8, .int (0 : Int32)), (7, .int (0 : Int32)), (2, .int y2), (3, .int y3), (4, .int y4), (5, .int y5), (6, .int y6)] dX12_offer_71 (by decide) rfl ?_
        exact sm_sub [2, 3, 4, 5, 6, 1, 0] rfl (sl_X12_offer_L73 C G ih FU y2 y3 y4 y5 y6 (0 : Int32) (0 : Int32) s0)
set_option maxRecDepth 100000 in
set_option maxHeartbeats 4000000 in
theorem sl_X12_offer_L45 {M : Mco} {w : Wco} (C : Cx M w cX12_offer 9 yX12_offer.cls (Cond.code yX12_offer cX12_offer 9 (some .int)) (some .int) { frames := 2, cells := 0, slots := 0, locals := 49 }) (G : GW w) : ∀ (y2 : Int32) (z0 : Int32) (s0 : Sta), Sm M w 9 oI 45 [(2, .int y2)] [.int z0] s0 (X12_offer_L45 y2 z0 s0) := by
  intro y2 z0 s0
  unfold X12_offer_L45
  refine sm_istore_n C [(3, .int z0), (2, .int y2)] dX12_offer_45 (by decide) rfl ?_
  refine sm_iconst C (-1 : Int32) dX12_offer_46 ic_m1 ?_
  refine sm_istore C [(4, .int (-1 : Int32)), (3, .int z0), (2, .int y2)] dX12_offer_47 (by decide) rfl ?_
  refine sm_ldc C kw_1121 dX12_offer_49 ?_
  refine sm_istore C [(5, .int (1000000 : Int32)), (4, .int (-1 : Int32)), (3, .int z0), (2, .int y2)] dX12_offer_51 (by decide) rfl ?_
  refine sm_iconst C (1 : Int32) dX12_offer_53 ic_1 ?_
  refine sm_istore C [(6, .int (1 : Int32)), (5, .int (1000000 : Int32)), (4, .int (-1 : Int32)), (3, .int z0), (2, .int y2)] dX12_offer_54 (by decide) rfl ?_
  exact sm_sub [4, 3, 2, 1, 0] rfl (sl_X12_offer_L56 C G FU y2 z0 (-1 : Int32) (1000000 : Int32) (1 : Int32) s0)
set_option maxRecDepth 100000 in
set_option maxHeartbeats 4000000 in
theorem ct_X12_offer {l : Launch} {w : Wco} (G : GW w) (x1 : Int32) (s0 : Sta) (qq : Int32) (ss : Sta) (hh : X12_offer x1 s0 = some (qq, ss)) : Ct l w yX12_offer (Cond.code yX12_offer cX12_offer 9 (some .int) :: GT) { frames := 2, cells := 0, slots := 0, locals := 49 } [.ref (wad w 82), .int x1] s0 (oI qq) ss := by
  refine ct_of [(0, .ref (wad w 82)), (1, .int x1)] (by decide +kernel) (Nat.le_of_ble_eq_true rfl) rfl hh (fun M _ C => ?_)
  unfold X12_offer
  refine sm_aload_n C 0 dX12_offer_0 rfl ?_
  refine sm_iload_n C 1 dX12_offer_1 rfl ?_
  refine r_callVI C (R := RX12) (T := TX12) (N := 21) [.int x1] (G_M G) rfl (fun qq ss hh => ct_X12_isOne G x1 s0 qq ss hh) kw_1029 kw_1031 kw_29 kw_64 kw_1032 dX12_offer_2 rfl dd_X12_isOne ⟨rfl, rfl⟩ ⟨by decide, by decide⟩ (Nat.le_of_ble_eq_true rfl) _ rfl (fun q1 s2 => ?_)
  refine sm_if_ne C 15 dX12_offer_5 (by decide) ?_ ?_
  · refine sm_aload_n C 0 dX12_offer_15 rfl ?_
    refine sm_iload_n C 1 dX12_offer_16 rfl ?_
    refine r_callVI C (R := RX12) (T := TX12) (N := 21) [.int x1] (G_M G) rfl (fun qq ss hh => ct_X12_kindsOf G x1 s2 qq ss hh) kw_1113 kw_1115 kw_35 kw_64 kw_1116 dX12_offer_17 rfl dd_X12_kindsOf ⟨rfl, rfl⟩ ⟨by decide, by decide⟩ (Nat.le_of_ble_eq_true rfl) _ rfl (fun q3 s4 => ?_)
    refine sm_istore_n C [(2, .int q3), (0, .ref (wad w 82)), (1, .int x1)] dX12_offer_20 (by decide) rfl ?_
    refine sm_aload_n C 1 dX12_offer_21 rfl ?_
    refine sm_getR C (ci := 12) (R := RX12) (T := TX12) (N := 21) (j := 0) (G_M G).2 (G_M G).1 rfl gX12 (by decide) kw_864 dX12_offer_22 (fun _ _ => rfl) ?_
    refine sm_iconst C (4 : Int32) dX12_offer_25 ic_4 ?_
    refine r_iald C (G_m83 G) dX12_offer_26 (fun v5 => ?_)
    refine sm_bipush C (8 : Int32) dX12_offer_27 bp_8 ?_
    refine sm_icmp_ne C 36 dX12_offer_29 (by decide) ?_ ?_
    · refine sm_bipush C (7 : Int32) dX12_offer_36 bp_7 ?_
      refine sm_aload_n C 1 dX12_offer_38 rfl ?_
      refine sm_getR C (ci := 12) (R := RX12) (T := TX12) (N := 21) (j := 0) (G_M G).2 (G_M G).1 rfl gX12 (by decide) kw_864 dX12_offer_39 (fun _ _ => rfl) ?_
      refine sm_iconst C (4 : Int32) dX12_offer_42 ic_4 ?_
      refine r_iald C (G_m83 G) dX12_offer_43 (fun v6 => ?_)
      refine sm_isub C dX12_offer_44 ?_
      exact sm_sub [0] rfl (sl_X12_offer_L45 C G q3 ((7 : Int32) - v6) s4)
    · refine sm_iconst C (0 : Int32) dX12_offer_32 ic_0 ?_
      refine sm_goto C 45 dX12_offer_33 (by decide) ?_
      exact sm_sub [0] rfl (sl_X12_offer_L45 C G q3 (0 : Int32) s4)
  · refine sm_aload_n C 0 dX12_offer_8 rfl ?_
    refine sm_bipush C (-2 : Int32) dX12_offer_9 bp_m2 ?_
    refine r_callVI C (R := RX12) (T := TX12) (N := 21) [.int (-2 : Int32)] (G_M G) rfl (fun qq ss hh => ct_X12_bad G (-2 : Int32) s2 qq ss hh) kw_952 kw_954 kw_18 kw_64 kw_955 dX12_offer_11 rfl dd_X12_bad ⟨rfl, rfl⟩ ⟨by decide, by decide⟩ (Nat.le_of_ble_eq_true rfl) _ rfl (fun q7 s8 => ?_)
    exact sm_iret C dX12_offer_14
theorem dd_X12_goodThen : yX12_goodThen.cls = RX12 ∧ yX12_goodThen.cls ≠ "java/lang/invoke/MethodHandle" ∧ yX12_goodThen.cls ≠ "java/lang/invoke/VarHandle" ∧ (parseMethodDescriptor yX12_goodThen.desc).map (fun d => d.parameters.length) = some 4 := by decide +kernel
set_option maxRecDepth 100000 in
set_option maxHeartbeats 4000000 in
theorem ct_X12_goodThen {l : Launch} {w : Wco} (G : GW w) (x1 : Int32) (x2 : Int32) (x3 : Int32) (x4 : Int32) (s0 : Sta) (qq : Int32) (ss : Sta) (hh : X12_goodThen x1 x2 x3 x4 s0 = some (qq, ss)) : Ct l w yX12_goodThen (Cond.code yX12_goodThen cX12_goodThen 7 (some .int) :: GT) { frames := 2, cells := 0, slots := 0, locals := 45 } [.ref (wad w 82), .int x1, .int x2, .int x3, .int x4] s0 (oI qq) ss := by
  refine ct_of [(0, .ref (wad w 82)), (1, .int x1), (2, .int x2), (3, .int x3), (4, .int x4)] (by decide +kernel) (Nat.le_of_ble_eq_true rfl) rfl hh (fun M _ C => ?_)
  unfold X12_goodThen
  refine sm_aload_n C 0 dX12_goodThen_0 rfl ?_
  refine sm_getR C (ci := 12) (R := RX12) (T := TX12) (N := 21) (j := 0) (G_M G).2 (G_M G).1 rfl gX12 (by decide) kw_864 dX12_goodThen_1 (fun _ _ => rfl) ?_
  refine sm_bipush C (81 : Int32) dX12_goodThen_4 bp_81 ?_
  refine sm_iconst C (4 : Int32) dX12_goodThen_6 ic_4 ?_
  refine sm_iload_n C 1 dX12_goodThen_7 rfl ?_
  refine sm_imul C dX12_goodThen_8 ?_
  refine sm_iadd C dX12_goodThen_9 ?_
  refine sm_iconst C (2 : Int32) dX12_goodThen_10 ic_2 ?_
  refine sm_iadd C dX12_goodThen_11 ?_
  refine r_iald C (G_m83 G) dX12_goodThen_12 (fun v1 => ?_)
  refine sm_istore C [(5, .int v1), (0, .ref (wad w 82)), (1, .int x1), (2, .int x2), (3, .int x3), (4, .int x4)] dX12_goodThen_13 (by decide) rfl ?_
  refine sm_aload_n C 1 dX12_goodThen_15 rfl ?_
  refine sm_getR C (ci := 12) (R := RX12) (T := TX12) (N := 21) (j := 0) (G_M G).2 (G_M G).1 rfl gX12 (by decide) kw_864 dX12_goodThen_16 (fun _ _ => rfl) ?_
  refine sm_bipush C (81 : Int32) dX12_goodThen_19 bp_81 ?_
  refine sm_iconst C (4 : Int32) dX12_goodThen_21 ic_4 ?_
  refine sm_iload_n C 2 dX12_goodThen_22 rfl ?_
  refine sm_imul C dX12_goodThen_23 ?_
  refine sm_iadd C dX12_goodThen_24 ?_
  refine sm_iconst C (3 : Int32) dX12_goodThen_25 ic_3 ?_
  refine sm_iadd C dX12_goodThen_26 ?_
  refine r_iald C (G_m83 G) dX12_goodThen_27 (fun v2 => ?_)
  refine sm_istore C [(6, .int v2), (5, .int v1), (0, .ref (wad w 82)), (1, .int x1), (2, .int x2), (3, .int x3), (4, .int x4)] dX12_goodThen_28 (by decide) rfl ?_
  refine sm_iload_n C 4 dX12_goodThen_30 rfl ?_
  refine sm_iload_n C 5 dX12_goodThen_31 rfl ?_
  refine sm_icmp_ne C 54 dX12_goodThen_32 (by decide) ?_ ?_
  · refine sm_aload_n C 2 dX12_goodThen_54 rfl ?_
    refine sm_iload_n C 4 dX12_goodThen_55 rfl ?_
    refine sm_iload C 1 dX12_goodThen_56 rfl ?_
    refine sm_iload C 0 dX12_goodThen_58 rfl ?_
    refine r_callVI C (R := RX12) (T := TX12) (N := 21) [.int x2, .int v1, .int v2] (G_M G) rfl (fun qq ss hh => ct_X12_goodOf G x2 v1 v2 s0 qq ss hh) kw_1014 kw_1016 kw_28 kw_64 kw_1017 dX12_goodThen_60 rfl dd_X12_goodOf ⟨rfl, rfl⟩ ⟨by decide, by decide⟩ (Nat.le_of_ble_eq_true rfl) _ rfl (fun q3 s4 => ?_)
    exact sm_iret C dX12_goodThen_63
  · refine sm_aload_n C 2 dX12_goodThen_35 rfl ?_
    refine sm_getR C (ci := 12) (R := RX12) (T := TX12) (N := 21) (j := 0) (G_M G).2 (G_M G).1 rfl gX12 (by decide) kw_864 dX12_goodThen_36 (fun _ _ => rfl) ?_
    refine sm_bipush C (17 : Int32) dX12_goodThen_39 bp_17 ?_
    refine sm_iload_n C 4 dX12_goodThen_41 rfl ?_
    refine sm_iadd C dX12_goodThen_42 ?_
    refine r_iald C (G_m83 G) dX12_goodThen_43 (fun v5 => ?_)
    refine sm_iload C 6 dX12_goodThen_44 rfl ?_
    refine sm_iload C 0 dX12_goodThen_46 rfl ?_
    refine r_callSI C [.int v5, .int x4, .int v2] (fun qq ss hh => ct_X12_goodAs v5 x4 v2 s0 qq ss hh) kw_1018 kw_1019 kw_64 kw_1020 dX12_goodThen_48 rfl dd_X12_goodAs ⟨rfl, rfl⟩ ⟨by decide, by decide⟩ (Nat.le_of_ble_eq_true rfl) _ rfl (fun q6 s7 => ?_)
    refine sm_goto C 63 dX12_goodThen_51 (by decide) ?_
    exact sm_iret C dX12_goodThen_63
theorem dd_X12_isBeaten : yX12_isBeaten.cls = RX12 ∧ yX12_isBeaten.cls ≠ "java/lang/invoke/MethodHandle" ∧ yX12_isBeaten.cls ≠ "java/lang/invoke/VarHandle" ∧ (parseMethodDescriptor yX12_isBeaten.desc).map (fun d => d.parameters.length) = some 3 := by decide +kernel
set_option maxRecDepth 100000 in
set_option maxHeartbeats 4000000 in
theorem ct_X12_isBeaten {l : Launch} {w : Wco} (G : GW w) (x1 : Int32) (x2 : Int32) (x3 : Int32) (s0 : Sta) (qq : Int32) (ss : Sta) (hh : X12_isBeaten x1 x2 x3 s0 = some (qq, ss)) : Ct l w yX12_isBeaten (Cond.code yX12_isBeaten cX12_isBeaten 4 (some .boolean) :: GT) { frames := 3, cells := 0, slots := 0, locals := 71 } [.ref (wad w 82), .int x1, .int x2, .int x3] s0 (oI qq) ss := by
  refine ct_of [(0, .ref (wad w 82)), (1, .int x1), (2, .int x2), (3, .int x3)] (by decide +kernel) (Nat.le_of_ble_eq_true rfl) rfl hh (fun M _ C => ?_)
  unfold X12_isBeaten
  refine sm_aload_n C 0 dX12_isBeaten_0 rfl ?_
  refine sm_iload_n C 1 dX12_isBeaten_1 rfl ?_
  refine sm_aload_n C 0 dX12_isBeaten_2 rfl ?_
  refine sm_getR C (ci := 12) (R := RX12) (T := TX12) (N := 21) (j := 0) (G_M G).2 (G_M G).1 rfl gX12 (by decide) kw_864 dX12_isBeaten_3 (fun _ _ => rfl) ?_
  refine sm_bipush C (81 : Int32) dX12_isBeaten_6 bp_81 ?_
  refine sm_iconst C (4 : Int32) dX12_isBeaten_8 ic_4 ?_
  refine sm_iload_n C 1 dX12_isBeaten_9 rfl ?_
  refine sm_imul C dX12_isBeaten_10 ?_
  refine sm_iadd C dX12_isBeaten_11 ?_
  refine r_iald C (G_m83 G) dX12_isBeaten_12 (fun v1 => ?_)
  refine sm_iload_n C 2 dX12_isBeaten_13 rfl ?_
  refine sm_iload_n C 3 dX12_isBeaten_14 rfl ?_
  refine r_callVI C (R := RX12) (T := TX12) (N := 21) [.int x1, .int v1, .int x2, .int x3] (G_M G) rfl (fun qq ss hh => ct_X12_goodThen G x1 v1 x2 x3 s0 qq ss hh) kw_1130 kw_1132 kw_37 kw_64 kw_1133 dX12_isBeaten_15 rfl dd_X12_goodThen ⟨rfl, rfl⟩ ⟨by decide, by decide⟩ (Nat.le_of_ble_eq_true rfl) _ rfl (fun q2 s3 => ?_)
  refine sm_aload_n C 0 dX12_isBeaten_18 rfl ?_
  refine sm_iload_n C 1 dX12_isBeaten_19 rfl ?_
  refine sm_aload_n C 0 dX12_isBeaten_20 rfl ?_
  refine sm_getR C (ci := 12) (R := RX12) (T := TX12) (N := 21) (j := 0) (G_M G).2 (G_M G).1 rfl gX12 (by decide) kw_864 dX12_isBeaten_21 (fun _ _ => rfl) ?_
  refine sm_bipush C (81 : Int32) dX12_isBeaten_24 bp_81 ?_
  refine sm_iconst C (4 : Int32) dX12_isBeaten_26 ic_4 ?_
  refine sm_iload_n C 1 dX12_isBeaten_27 rfl ?_
  refine sm_imul C dX12_isBeaten_28 ?_
  refine sm_iadd C dX12_isBeaten_29 ?_
  refine sm_iconst C (1 : Int32) dX12_isBeaten_30 ic_1 ?_
  refine sm_iadd C dX12_isBeaten_31 ?_
  refine r_iald C (G_m83 G) dX12_isBeaten_32 (fun v4 => ?_)
  refine sm_iload_n C 2 dX12_isBeaten_33 rfl ?_
  refine sm_iload_n C 3 dX12_isBeaten_34 rfl ?_
  refine r_callVI C (R := RX12) (T := TX12) (N := 21) [.int x1, .int v4, .int x2, .int x3] (G_M G) rfl (fun qq ss hh => ct_X12_goodThen G x1 v4 x2 x3 s3 qq ss hh) kw_1130 kw_1132 kw_37 kw_64 kw_1133 dX12_isBeaten_35 rfl dd_X12_goodThen ⟨rfl, rfl⟩ ⟨by decide, by decide⟩ (Nat.le_of_ble_eq_true rfl) _ rfl (fun q5 s6 => ?_)
  refine sm_icmp_le C 45 dX12_isBeaten_38 (by decide) ?_ ?_
  · refine sm_iconst C (0 : Int32) dX12_isBeaten_45 ic_0 ?_
    exact sm_zret C dX12_isBeaten_46
  · refine sm_iconst C (1 : Int32) dX12_isBeaten_41 ic_1 ?_
    refine sm_goto C 46 dX12_isBeaten_42 (by decide) ?_
    exact sm_zret C dX12_isBeaten_46
theorem dd_X12_may : yX12_may.cls = RX12 ∧ yX12_may.cls ≠ "java/lang/invoke/MethodHandle" ∧ yX12_may.cls ≠ "java/lang/invoke/VarHandle" ∧ (parseMethodDescriptor yX12_may.desc).map (fun d => d.parameters.length) = some 2 := by decide +kernel
set_option maxRecDepth 100000 in
set_option maxHeartbeats 4000000 in
theorem sl_X12_may_L90 {M : Mco} {w : Wco} (C : Cx M w cX12_may 8 yX12_may.cls (Cond.code yX12_may cX12_may 8 (some .int)) (some .int) { frames := 4, cells := 0, slots := 0, locals := 94 }) (G : GW w) {k27 : Int32 → Int32 → Int32 → Int32 → Sta → Option (Int32 × Sta)} {k40 : Int32 → Int32 → Int32 → Int32 → Int32 → Int32 → Sta → Option (Int32 × Sta)} (H27 : ∀ (y1 : Int32) (y2 : Int32) (y3 : Int32) (y4 : Int32) (s0 : Sta), Sm M w 8 oI 27 [(0, .ref (wad w 82)), (1, .int y1), (2, .int y2), (3, .int y3), (4, .int y4)] [] s0 (k27 y1 y2 y3 y4 s0)) (H40 : ∀ (y1 : Int32) (y2 : Int32) (y3 : Int32) (y4 : Int32) (y5 : Int32) (y6 : Int32) (s0 : Sta), Sm M w 8 oI 40 [(0, .ref (wad w 82)), (1, .int y1), (2, .int y2), (3, .int y3), (4, .int y4), (5, .int y5), (6, .int y6)] [] s0 (k40 y1 y2 y3 y4 y5 y6 s0)) : ∀ (y1 : Int32) (y2 : Int32) (y3 : Int32) (y4 : Int32) (y5 : Int32) (y6 : Int32) (z0 : Int32) (s0 : Sta), Sm M w 8 oI 90 [(0, .ref (wad w 82)), (1, .int y1), (2, .int y2), (3, .int y3), (4, .int y4), (5, .int y5), (6, .int y6)] [.int z0] s0 (X12_may_L90 k27 k40 y1 y2 y3 y4 y5 y6 z0 s0) := by
  intro y1 y2 y3 y4 y5 y6 z0 s0
  unfold X12_may_L90
  refine sm_istore C [(7, .int z0), (0, .ref (wad w 82)), (1, .int y1), (2, .int y2), (3, .int y3), (4, .int y4), (5, .int y5), (6, .int y6)] dX12_may_90 (by decide) rfl ?_
  refine sm_iload C 6 dX12_may_92 rfl ?_
  refine sm_if_eq C 136 dX12_may_94 (by decide) ?_ ?_
  · refine sm_iconst C (0 : Int32) dX12_may_136 ic_0 ?_
    refine sm_istore C [(5, .int (0 : Int32)), (7, .int z0), (0, .ref (wad w 82)), (1, .int y1), (2, .int y2), (3, .int y3), (4, .int y4), (6, .int y6)] dX12_may_137 (by decide) rfl ?_
    refine sm_iinc C 7 (y6 + (1 : Int32)) [(6, .int (y6 + (1 : Int32))), (5, .int (0 : Int32)), (7, .int z0), (0, .ref (wad w 82)), (1, .int y1), (2, .int y2), (3, .int y3), (4, .int y4)] dX12_may_139 rfl (ii_1 _) (by decide) rfl ?_
    refine sm_goto C 40 dX12_may_142 (by decide) ?_
    exact sm_sub [3, 4, 5, 6, 7, 1, 0] rfl (H40 y1 y2 y3 y4 (0 : Int32) (y6 + (1 : Int32)) s0)
  · refine sm_iload C 0 dX12_may_97 rfl ?_
    refine sm_if_eq C 132 dX12_may_99 (by decide) ?_ ?_
    · refine sm_iconst C (1 : Int32) dX12_may_132 ic_1 ?_
      refine sm_goto C 137 dX12_may_133 (by decide) ?_
      refine sm_istore C [(5, .int (1 : Int32)), (7, .int z0), (0, .ref (wad w 82)), (1, .int y1), (2, .int y2), (3, .int y3), (4, .int y4), (6, .int y6)] dX12_may_137 (by decide) rfl ?_
      refine sm_iinc C 7 (y6 + (1 : Int32)) [(6, .int (y6 + (1 : Int32))), (5, .int (1 : Int32)), (7, .int z0), (0, .ref (wad w 82)), (1, .int y1), (2, .int y2), (3, .int y3), (4, .int y4)] dX12_may_139 rfl (ii_1 _) (by decide) rfl ?_
      refine sm_goto C 40 dX12_may_142 (by decide) ?_
      exact sm_sub [3, 4, 5, 6, 7, 1, 0] rfl (H40 y1 y2 y3 y4 (1 : Int32) (y6 + (1 : Int32)) s0)
    · refine sm_aload_n C 1 dX12_may_102 rfl ?_
      refine sm_getR C (ci := 12) (R := RX12) (T := TX12) (N := 21) (j := 0) (G_M G).2 (G_M G).1 rfl gX12 (by decide) kw_864 dX12_may_103 (fun _ _ => rfl) ?_
      refine sm_bipush C (81 : Int32) dX12_may_106 bp_81 ?_
      refine sm_iconst C (4 : Int32) dX12_may_108 ic_4 ?_
      refine sm_iload C 7 dX12_may_109 rfl ?_
      refine sm_imul C dX12_may_111 ?_
      refine sm_iadd C dX12_may_112 ?_
      refine sm_iconst C (2 : Int32) dX12_may_113 ic_2 ?_
      refine sm_iadd C dX12_may_114 ?_
      refine r_iald C (G_m83 G) dX12_may_115 (fun v12 => ?_)
      refine sm_iload_n C 3 dX12_may_116 rfl ?_
      refine sm_icmp_ne C 132 dX12_may_117 (by decide) ?_ ?_
      · refine sm_iconst C (1 : Int32) dX12_may_132 ic_1 ?_
        refine sm_goto C 137 dX12_may_133 (by decide) ?_
        refine sm_istore C [(5, .int (1 : Int32)), (7, .int z0), (0, .ref (wad w 82)), (1, .int y1), (2, .int y2), (3, .int y3), (4, .int y4), (6, .int y6)] dX12_may_137 (by decide) rfl ?_
        refine sm_iinc C 7 (y6 + (1 : Int32)) [(6, .int (y6 + (1 : Int32))), (5, .int (1 : Int32)), (7, .int z0), (0, .ref (wad w 82)), (1, .int y1), (2, .int y2), (3, .int y3), (4, .int y4)] dX12_may_139 rfl (ii_1 _) (by decide) rfl ?_
        refine sm_goto C 40 dX12_may_142 (by decide) ?_
        exact sm_sub [3, 4, 5, 6, 7, 1, 0] rfl (H40 y1 y2 y3 y4 (1 : Int32) (y6 + (1 : Int32)) s0)
      · refine sm_aload_n C 1 dX12_may_120 rfl ?_
        refine sm_iload C 7 dX12_may_121 rfl ?_
        refine sm_iload_n C 2 dX12_may_123 rfl ?_
        refine sm_iload C 5 dX12_may_124 rfl ?_
        refine r_callVI C (R := RX12) (T := TX12) (N := 21) [.int y6, .int y1, .int y4] (G_M G) rfl (fun qq ss hh => ct_X12_isBeaten G y6 y1 y4 s0 qq ss hh) kw_1126 kw_1128 kw_36 kw_64 kw_1129 dX12_may_126 rfl dd_X12_isBeaten ⟨rfl, rfl⟩ ⟨by decide, by decide⟩ (Nat.le_of_ble_eq_true rfl) _ rfl (fun q13 s14 => ?_)
        refine sm_if_eq C 136 dX12_may_129 (by decide) ?_ ?_
        · refine sm_iconst C (0 : Int32) dX12_may_136 ic_0 ?_
          refine sm_istore C [(5, .int (0 : Int32)), (7, .int z0), (0, .ref (wad w 82)), (1, .int y1), (2, .int y2), (3, .int y3), (4, .int y4), (6, .int y6)] dX12_may_137 (by decide) rfl ?_
          refine sm_iinc C 7 (y6 + (1 : Int32)) [(6, .int (y6 + (1 : Int32))), (5, .int (0 : Int32)), (7, .int z0), (0, .ref (wad w 82)), (1, .int y1), (2, .int y2), (3, .int y3), (4, .int y4)] dX12_may_139 rfl (ii_1 _) (by decide) rfl ?_
          refine sm_goto C 40 dX12_may_142 (by decide) ?_
          exact sm_sub [3, 4, 5, 6, 7, 1, 0] rfl (H40 y1 y2 y3 y4 (0 : Int32) (y6 + (1 : Int32)) s14)
        · refine sm_iconst C (1 : Int32) dX12_may_132 ic_1 ?_
          refine sm_goto C 137 dX12_may_133 (by decide) ?_
          refine sm_istore C [(5, .int (1 : Int32)), (7, .int z0), (0, .ref (wad w 82)), (1, .int y1), (2, .int y2), (3, .int y3), (4, .int y4), (6, .int y6)] dX12_may_137 (by decide) rfl ?_
          refine sm_iinc C 7 (y6 + (1 : Int32)) [(6, .int (y6 + (1 : Int32))), (5, .int (1 : Int32)), (7, .int z0), (0, .ref (wad w 82)), (1, .int y1), (2, .int y2), (3, .int y3), (4, .int y4)] dX12_may_139 rfl (ii_1 _) (by decide) rfl ?_
          refine sm_goto C 40 dX12_may_142 (by decide) ?_
          exact sm_sub [3, 4, 5, 6, 7, 1, 0] rfl (H40 y1 y2 y3 y4 (1 : Int32) (y6 + (1 : Int32)) s14)
set_option maxRecDepth 100000 in
set_option maxHeartbeats 4000000 in
theorem sl_X12_may_L40 {M : Mco} {w : Wco} (C : Cx M w cX12_may 8 yX12_may.cls (Cond.code yX12_may cX12_may 8 (some .int)) (some .int) { frames := 4, cells := 0, slots := 0, locals := 94 }) (G : GW w) {k27 : Int32 → Int32 → Int32 → Int32 → Sta → Option (Int32 × Sta)} (H27 : ∀ (y1 : Int32) (y2 : Int32) (y3 : Int32) (y4 : Int32) (s0 : Sta), Sm M w 8 oI 27 [(0, .ref (wad w 82)), (1, .int y1), (2, .int y2), (3, .int y3), (4, .int y4)] [] s0 (k27 y1 y2 y3 y4 s0)) : ∀ (n : Nat) (y1 : Int32) (y2 : Int32) (y3 : Int32) (y4 : Int32) (y5 : Int32) (y6 : Int32) (s0 : Sta), Sm M w 8 oI 40 [(0, .ref (wad w 82)), (1, .int y1), (2, .int y2), (3, .int y3), (4, .int y4), (5, .int y5), (6, .int y6)] [] s0 (X12_may_L40 k27 n y1 y2 y3 y4 y5 y6 s0) := by
  intro n
  induction n with
  | zero => intros; exact sm_none
  | succ n ih =>
    intro y1 y2 y3 y4 y5 y6 s0
    rw [X12_may_L40.eq_2]
    refine sm_iload C 6 dX12_may_40 rfl ?_
    refine sm_aload_n C 0 dX12_may_42 rfl ?_
    refine sm_getR C (ci := 12) (R := RX12) (T := TX12) (N := 21) (j := 0) (G_M G).2 (G_M G).1 rfl gX12 (by decide) kw_864 dX12_may_43 (fun _ _ => rfl) ?_
    refine sm_iconst C (2 : Int32) dX12_may_46 ic_2 ?_
    refine r_iald C (G_m83 G) dX12_may_47 (fun v9 => ?_)
    refine sm_icmp_ge C 145 dX12_may_48 (by decide) ?_ ?_
    · refine sm_iload_n C 3 dX12_may_145 rfl ?_
      refine sm_iload C 5 dX12_may_146 rfl ?_
      refine sm_if_eq C 158 dX12_may_148 (by decide) ?_ ?_
      · refine sm_iconst C (0 : Int32) dX12_may_158 ic_0 ?_
        refine sm_ior C dX12_may_159 ?_
        refine sm_istore_n C [(3, .int (y3 ||| (0 : Int32))), (0, .ref (wad w 82)), (1, .int y1), (2, .int y2), (4, .int y4), (5, .int y5), (6, .int y6)] dX12_may_160 (by decide) rfl ?_
        refine sm_iinc C 4 (y4 + (1 : Int32)) [(4, .int (y4 + (1 : Int32))), (3, .int (y3 ||| (0 : Int32))), (0, .ref (wad w 82)), (1, .int y1), (2, .int y2), (5, .int y5), (6, .int y6)] dX12_may_161 rfl (ii_1 _) (by decide) rfl ?_
        refine sm_goto C 27 dX12_may_164 (by decide) ?_
        exact sm_sub [2, 3, 4, 1, 0] rfl (H27 y1 y2 (y3 ||| (0 : Int32)) (y4 + (1 : Int32)) s0)
      · refine sm_iconst C (1 : Int32) dX12_may_151 ic_1 ?_
        refine sm_iload C 4 dX12_may_152 rfl ?_
        refine sm_ishl C dX12_may_154 ?_
        refine sm_goto C 159 dX12_may_155 (by decide) ?_
        refine sm_ior C dX12_may_159 ?_
        refine sm_istore_n C [(3, .int (y3 ||| ((1 : Int32) <<< (y4 &&& 31)))), (0, .ref (wad w 82)), (1, .int y1), (2, .int y2), (4, .int y4), (5, .int y5), (6, .int y6)] dX12_may_160 (by decide) rfl ?_
        refine sm_iinc C 4 (y4 + (1 : Int32)) [(4, .int (y4 + (1 : Int32))), (3, .int (y3 ||| ((1 : Int32) <<< (y4 &&& 31)))), (0, .ref (wad w 82)), (1, .int y1), (2, .int y2), (5, .int y5), (6, .int y6)] dX12_may_161 rfl (ii_1 _) (by decide) rfl ?_
        refine sm_goto C 27 dX12_may_164 (by decide) ?_
        exact sm_sub [2, 3, 4, 1, 0] rfl (H27 y1 y2 (y3 ||| ((1 : Int32) <<< (y4 &&& 31))) (y4 + (1 : Int32)) s0)
    · refine sm_aload_n C 0 dX12_may_51 rfl ?_
      refine sm_getR C (ci := 12) (R := RX12) (T := TX12) (N := 21) (j := 0) (G_M G).2 (G_M G).1 rfl gX12 (by decide) kw_864 dX12_may_52 (fun _ _ => rfl) ?_
      refine sm_bipush C (81 : Int32) dX12_may_55 bp_81 ?_
      refine sm_iconst C (4 : Int32) dX12_may_57 ic_4 ?_
      refine sm_iload C 6 dX12_may_58 rfl ?_
      refine sm_imul C dX12_may_60 ?_
      refine sm_iadd C dX12_may_61 ?_
      refine r_iald C (G_m83 G) dX12_may_62 (fun v10 => ?_)
      refine sm_iload_n C 1 dX12_may_63 rfl ?_
      refine sm_icmp_eq C 85 dX12_may_64 (by decide) ?_ ?_
      · refine sm_iconst C (1 : Int32) dX12_may_85 ic_1 ?_
        refine sm_goto C 90 dX12_may_86 (by decide) ?_
        exact sm_sub [0, 1, 2, 3, 4, 5, 6] rfl (sl_X12_may_L90 C G H27 ih y1 y2 y3 y4 y5 y6 (1 : Int32) s0)
      · refine sm_aload_n C 0 dX12_may_67 rfl ?_
        refine sm_getR C (ci := 12) (R := RX12) (T := TX12) (N := 21) (j := 0) (G_M G).2 (G_M G).1 rfl gX12 (by decide) kw_864 dX12_may_68 (fun _ _ => rfl) ?_
        refine sm_bipush C (81 : Int32) dX12_may_71 bp_81 ?_
        refine sm_iconst C (4 : Int32) dX12_may_73 ic_4 ?_
        refine sm_iload C 6 dX12_may_74 rfl ?_
        refine sm_imul C dX12_may_76 ?_
        refine sm_iadd C dX12_may_77 ?_
        refine sm_iconst C (1 : Int32) dX12_may_78 ic_1 ?_
        refine sm_iadd C dX12_may_79 ?_
        refine r_iald C (G_m83 G) dX12_may_80 (fun v11 => ?_)
        refine sm_iload_n C 1 dX12_may_81 rfl ?_
        refine sm_icmp_ne C 89 dX12_may_82 (by decide) ?_ ?_
        · refine sm_iconst C (0 : Int32) dX12_may_89 ic_0 ?_
          exact sm_sub [0, 1, 2, 3, 4, 5, 6] rfl (sl_X12_may_L90 C G H27 ih y1 y2 y3 y4 y5 y6 (0 : Int32) s0)
        · refine sm_iconst C (1 : Int32) dX12_may_85 ic_1 ?_
          refine sm_goto C 90 dX12_may_86 (by decide) ?_
          exact sm_sub [0, 1, 2, 3, 4, 5, 6] rfl (sl_X12_may_L90 C G H27 ih y1 y2 y3 y4 y5 y6 (1 : Int32) s0)
set_option maxRecDepth 100000 in
set_option maxHeartbeats 4000000 in
theorem sl_X12_may_L27 {M : Mco} {w : Wco} (C : Cx M w cX12_may 8 yX12_may.cls (Cond.code yX12_may cX12_may 8 (some .int)) (some .int) { frames := 4, cells := 0, slots := 0, locals := 94 }) (G : GW w) : ∀ (n : Nat) (y1 : Int32) (y2 : Int32) (y3 : Int32) (y4 : Int32) (s0 : Sta), Sm M w 8 oI 27 [(0, .ref (wad w 82)), (1, .int y1), (2, .int y2), (3, .int y3), (4, .int y4)] [] s0 (X12_may_L27 n y1 y2 y3 y4 s0) := by
  intro n
  induction n with
  | zero => intros; exact sm_none
  | succ n ih =>
    intro y1 y2 y3 y4 s0
    rw [X12_may_L27.eq_2]
    refine sm_iload C 4 dX12_may_27 rfl ?_
    refine sm_bipush C (10 : Int32) dX12_may_29 bp_10 ?_
    refine sm_icmp_ge C 167 dX12_may_31 (by decide) ?_ ?_
    · refine sm_iload_n C 3 dX12_may_167 rfl ?_
      exact sm_iret C dX12_may_168
    · refine sm_iconst C (1 : Int32) dX12_may_34 ic_1 ?_
      refine sm_istore C [(5, .int (1 : Int32)), (0, .ref (wad w 82)), (1, .int y1), (2, .int y2), (3, .int y3), (4, .int y4)] dX12_may_35 (by decide) rfl ?_
      refine sm_iconst C (0 : Int32) dX12_may_37 ic_0 ?_
      refine sm_istore C [(6, .int (0 : Int32)), (5, .int (1 : Int32)), (0, .ref (wad w 82)), (1, .int y1), (2, .int y2), (3, .int y3), (4, .int y4)] dX12_may_38 (by decide) rfl ?_
      exact sm_sub [2, 3, 4, 5, 6, 1, 0] rfl (sl_X12_may_L40 C G ih FU y1 y2 y3 y4 (1 : Int32) (0 : Int32) s0)
set_option maxRecDepth 100000 in
set_option maxHeartbeats 4000000 in
theorem ct_X12_may {l : Launch} {w : Wco} (G : GW w) (x1 : Int32) (x2 : Int32) (s0 : Sta) (qq : Int32) (ss : Sta) (hh : X12_may x1 x2 s0 = some (qq, ss)) : Ct l w yX12_may (Cond.code yX12_may cX12_may 8 (some .int) :: GT) { frames := 4, cells := 0, slots := 0, locals := 94 } [.ref (wad w 82), .int x1, .int x2] s0 (oI qq) ss := by
  refine ct_of [(0, .ref (wad w 82)), (1, .int x1), (2, .int x2)] (by decide +kernel) (Nat.le_of_ble_eq_true rfl) rfl hh (fun M _ C => ?_)
  unfold X12_may
  refine sm_aload_n C 0 dX12_may_0 rfl ?_
  refine sm_iload_n C 1 dX12_may_1 rfl ?_
  refine r_callVI C (R := RX12) (T := TX12) (N := 21) [.int x1] (G_M G) rfl (fun qq ss hh => ct_X12_isOne G x1 s0 qq ss hh) kw_1029 kw_1031 kw_29 kw_64 kw_1032 dX12_may_2 rfl dd_X12_isOne ⟨rfl, rfl⟩ ⟨by decide, by decide⟩ (Nat.le_of_ble_eq_true rfl) _ rfl (fun q1 s2 => ?_)
  refine sm_if_eq C 15 dX12_may_5 (by decide) ?_ ?_
  · refine sm_aload_n C 0 dX12_may_15 rfl ?_
    refine sm_bipush C (-2 : Int32) dX12_may_16 bp_m2 ?_
    refine r_callVI C (R := RX12) (T := TX12) (N := 21) [.int (-2 : Int32)] (G_M G) rfl (fun qq ss hh => ct_X12_bad G (-2 : Int32) s2 qq ss hh) kw_952 kw_954 kw_18 kw_64 kw_955 dX12_may_18 rfl dd_X12_bad ⟨rfl, rfl⟩ ⟨by decide, by decide⟩ (Nat.le_of_ble_eq_true rfl) _ rfl (fun q3 s4 => ?_)
    exact sm_iret C dX12_may_21
  · refine sm_iload_n C 2 dX12_may_8 rfl ?_
    refine r_callSI C [.int x2] (fun qq ss hh => ct_X12_isSort x2 s2 qq ss hh) kw_947 kw_948 kw_64 kw_949 dX12_may_9 rfl dd_X12_isSort ⟨rfl, rfl⟩ ⟨by decide, by decide⟩ (Nat.le_of_ble_eq_true rfl) _ rfl (fun q5 s6 => ?_)
    refine sm_if_ne C 22 dX12_may_12 (by decide) ?_ ?_
    · refine sm_iconst C (0 : Int32) dX12_may_22 ic_0 ?_
      refine sm_istore_n C [(3, .int (0 : Int32)), (0, .ref (wad w 82)), (1, .int x1), (2, .int x2)] dX12_may_23 (by decide) rfl ?_
      refine sm_iconst C (0 : Int32) dX12_may_24 ic_0 ?_
      refine sm_istore C [(4, .int (0 : Int32)), (3, .int (0 : Int32)), (0, .ref (wad w 82)), (1, .int x1), (2, .int x2)] dX12_may_25 (by decide) rfl ?_
      exact sm_sub [2, 3, 4, 1, 0] rfl (sl_X12_may_L27 C G FU x1 x2 (0 : Int32) (0 : Int32) s6)
    · refine sm_aload_n C 0 dX12_may_15 rfl ?_
      refine sm_bipush C (-2 : Int32) dX12_may_16 bp_m2 ?_
      refine r_callVI C (R := RX12) (T := TX12) (N := 21) [.int (-2 : Int32)] (G_M G) rfl (fun qq ss hh => ct_X12_bad G (-2 : Int32) s6 qq ss hh) kw_952 kw_954 kw_18 kw_64 kw_955 dX12_may_18 rfl dd_X12_bad ⟨rfl, rfl⟩ ⟨by decide, by decide⟩ (Nat.le_of_ble_eq_true rfl) _ rfl (fun q7 s8 => ?_)
      exact sm_iret C dX12_may_21
theorem dd_X12_clash : yX12_clash.cls = RX12 ∧ yX12_clash.cls ≠ "java/lang/invoke/MethodHandle" ∧ yX12_clash.cls ≠ "java/lang/invoke/VarHandle" ∧ (parseMethodDescriptor yX12_clash.desc).map (fun d => d.parameters.length) = some 0 := by decide +kernel
set_option maxRecDepth 100000 in
set_option maxHeartbeats 4000000 in
theorem sl_X12_clash_L4 {M : Mco} {w : Wco} (C : Cx M w cX12_clash 3 yX12_clash.cls (Cond.code yX12_clash cX12_clash 3 (some .int)) (some .int) { frames := 4, cells := 0, slots := 0, locals := 94 }) (G : GW w) : ∀ (n : Nat) (y1 : Int32) (y2 : Int32) (s0 : Sta), Sm M w 3 oI 4 [(0, .ref (wad w 82)), (1, .int y1), (2, .int y2)] [] s0 (X12_clash_L4 n y1 y2 s0) := by
  intro n
  induction n with
  | zero => intros; exact sm_none
  | succ n ih =>
    intro y1 y2 s0
    rw [X12_clash_L4.eq_2]
    refine sm_iload_n C 2 dX12_clash_4 rfl ?_
    refine sm_aload_n C 0 dX12_clash_5 rfl ?_
    refine sm_getR C (ci := 12) (R := RX12) (T := TX12) (N := 21) (j := 0) (G_M G).2 (G_M G).1 rfl gX12 (by decide) kw_864 dX12_clash_6 (fun _ _ => rfl) ?_
    refine sm_iconst C (2 : Int32) dX12_clash_9 ic_2 ?_
    refine r_iald C (G_m83 G) dX12_clash_10 (fun v1 => ?_)
    refine sm_icmp_ge C 38 dX12_clash_11 (by decide) ?_ ?_
    · refine sm_iload_n C 1 dX12_clash_38 rfl ?_
      exact sm_iret C dX12_clash_39
    · refine sm_iload_n C 1 dX12_clash_14 rfl ?_
      refine sm_aload_n C 0 dX12_clash_15 rfl ?_
      refine sm_iload_n C 2 dX12_clash_16 rfl ?_
      refine sm_iconst C (-1 : Int32) dX12_clash_17 ic_m1 ?_
      refine sm_iconst C (0 : Int32) dX12_clash_18 ic_0 ?_
      refine r_callVI C (R := RX12) (T := TX12) (N := 21) [.int y2, .int (-1 : Int32), .int (0 : Int32)] (G_M G) rfl (fun qq ss hh => ct_X12_isBeaten G y2 (-1 : Int32) (0 : Int32) s0 qq ss hh) kw_1126 kw_1128 kw_36 kw_64 kw_1129 dX12_clash_19 rfl dd_X12_isBeaten ⟨rfl, rfl⟩ ⟨by decide, by decide⟩ (Nat.le_of_ble_eq_true rfl) _ rfl (fun q2 s3 => ?_)
      refine sm_if_eq C 29 dX12_clash_22 (by decide) ?_ ?_
      · refine sm_iconst C (1 : Int32) dX12_clash_29 ic_1 ?_
        refine sm_iadd C dX12_clash_30 ?_
        refine sm_istore_n C [(1, .int (y1 + (1 : Int32))), (0, .ref (wad w 82)), (2, .int y2)] dX12_clash_31 (by decide) rfl ?_
        refine sm_iinc C 2 (y2 + (1 : Int32)) [(2, .int (y2 + (1 : Int32))), (1, .int (y1 + (1 : Int32))), (0, .ref (wad w 82))] dX12_clash_32 rfl (ii_1 _) (by decide) rfl ?_
        refine sm_goto C 4 dX12_clash_35 (by decide) ?_
        exact sm_sub [2, 1, 0] rfl (ih (y1 + (1 : Int32)) (y2 + (1 : Int32)) s3)
      · refine sm_iconst C (0 : Int32) dX12_clash_25 ic_0 ?_
        refine sm_goto C 30 dX12_clash_26 (by decide) ?_
        refine sm_iadd C dX12_clash_30 ?_
        refine sm_istore_n C [(1, .int (y1 + (0 : Int32))), (0, .ref (wad w 82)), (2, .int y2)] dX12_clash_31 (by decide) rfl ?_
        refine sm_iinc C 2 (y2 + (1 : Int32)) [(2, .int (y2 + (1 : Int32))), (1, .int (y1 + (0 : Int32))), (0, .ref (wad w 82))] dX12_clash_32 rfl (ii_1 _) (by decide) rfl ?_
        refine sm_goto C 4 dX12_clash_35 (by decide) ?_
        exact sm_sub [2, 1, 0] rfl (ih (y1 + (0 : Int32)) (y2 + (1 : Int32)) s3)
set_option maxRecDepth 100000 in
set_option maxHeartbeats 4000000 in
theorem ct_X12_clash {l : Launch} {w : Wco} (G : GW w) (s0 : Sta) (qq : Int32) (ss : Sta) (hh : X12_clash s0 = some (qq, ss)) : Ct l w yX12_clash (Cond.code yX12_clash cX12_clash 3 (some .int) :: GT) { frames := 4, cells := 0, slots := 0, locals := 94 } [.ref (wad w 82)] s0 (oI qq) ss := by
  refine ct_of [(0, .ref (wad w 82))] (by decide +kernel) (Nat.le_of_ble_eq_true rfl) rfl hh (fun M _ C => ?_)
  unfold X12_clash
  refine sm_iconst C (0 : Int32) dX12_clash_0 ic_0 ?_
  refine sm_istore_n C [(1, .int (0 : Int32)), (0, .ref (wad w 82))] dX12_clash_1 (by decide) rfl ?_
  refine sm_iconst C (0 : Int32) dX12_clash_2 ic_0 ?_
  refine sm_istore_n C [(2, .int (0 : Int32)), (1, .int (0 : Int32)), (0, .ref (wad w 82))] dX12_clash_3 (by decide) rfl ?_
  exact sm_sub [2, 1, 0] rfl (sl_X12_clash_L4 C G FU (0 : Int32) (0 : Int32) s0)
theorem dd_X12_fraction : yX12_fraction.cls = RX12 ∧ yX12_fraction.cls ≠ "java/lang/invoke/MethodHandle" ∧ yX12_fraction.cls ≠ "java/lang/invoke/VarHandle" ∧ (parseMethodDescriptor yX12_fraction.desc).map (fun d => d.parameters.length) = some 2 := by decide +kernel
set_option maxRecDepth 100000 in
set_option maxHeartbeats 4000000 in
theorem sl_X12_fraction_L6 {M : Mco} {w : Wco} (C : Cx M w cX12_fraction 11 yX12_fraction.cls (Cond.code yX12_fraction cX12_fraction 11 none) none { frames := 0, cells := 0, slots := 0, locals := 0 }) (G : GW w) : ∀ (n : Nat) (y1 : Int64) (y3 : Int64) (y5 : Int64) (y7 : Int64) (s0 : Sta), Sm M w 11 oV 6 [(0, .ref (wad w 82)), (1, .long y1), (3, .long y3), (5, .long y5), (7, .long y7)] [] s0 (X12_fraction_L6 n y1 y3 y5 y7 s0) := by
  intro n
  induction n with
  | zero => intros; exact sm_none
  | succ n ih =>
    intro y1 y3 y5 y7 s0
    rw [X12_fraction_L6.eq_2]
    refine sm_lload C 4 dX12_fraction_6 rfl ?_
    refine sm_lconst C (0 : Int64) dX12_fraction_8 lc_0 ?_
    refine sm_lcmp C dX12_fraction_9 ?_
    refine sm_if_eq C 31 dX12_fraction_10 (by decide) ?_ ?_
    · refine sm_aload_n C 0 dX12_fraction_31 rfl ?_
      refine sm_lload_n C 1 dX12_fraction_32 rfl ?_
      refine sm_lload C 3 dX12_fraction_33 rfl ?_
      refine sm_ldivG C dX12_fraction_35 ?_
      refine sm_putL C (ci := 12) (R := RX12) (T := TX12) (N := 21) (j := 4) (G_M G).2 (G_M G).1 rfl gX12 tyX12 tyX12_ok nmX12 (by decide) kw_868 rfl (by decide +kernel) dX12_fraction_36 (fun _ _ => Nat.le_of_ble_eq_true rfl) (set_fsM_4 w) (fun s1 => ?_)
      refine sm_aload_n C 0 dX12_fraction_39 rfl ?_
      refine sm_lload_n C 2 dX12_fraction_40 rfl ?_
      refine sm_lload C 3 dX12_fraction_41 rfl ?_
      refine sm_ldivG C dX12_fraction_43 ?_
      refine sm_putL C (ci := 12) (R := RX12) (T := TX12) (N := 21) (j := 5) (G_M G).2 (G_M G).1 rfl gX12 tyX12 tyX12_ok nmX12 (by decide) kw_869 rfl (by decide +kernel) dX12_fraction_44 (fun _ _ => Nat.le_of_ble_eq_true rfl) (set_fsM_5 w) (fun s2 => ?_)
      exact sm_vret C dX12_fraction_47
    · refine sm_lload C 3 dX12_fraction_13 rfl ?_
      refine sm_lload C 4 dX12_fraction_15 rfl ?_
      refine sm_lremG C dX12_fraction_17 ?_
      refine sm_lstore C [(9, .long (y5 - y5 / y7 * y7)), (0, .ref (wad w 82)), (1, .long y1), (3, .long y3), (5, .long y5), (7, .long y7)] dX12_fraction_18 (by decide) rfl ?_
      refine sm_lload C 5 dX12_fraction_20 rfl ?_
      refine sm_lstore C [(5, .long y7), (9, .long (y5 - y5 / y7 * y7)), (0, .ref (wad w 82)), (1, .long y1), (3, .long y3), (7, .long y7)] dX12_fraction_22 (by decide) rfl ?_
      refine sm_lload C 1 dX12_fraction_24 rfl ?_
      refine sm_lstore C [(7, .long (y5 - y5 / y7 * y7)), (5, .long y7), (9, .long (y5 - y5 / y7 * y7)), (0, .ref (wad w 82)), (1, .long y1), (3, .long y3)] dX12_fraction_26 (by decide) rfl ?_
      refine sm_goto C 6 dX12_fraction_28 (by decide) ?_
      exact sm_sub [3, 4, 5, 1, 0] rfl (ih y1 y3 y7 (y5 - y5 / y7 * y7) s0)
set_option maxRecDepth 100000 in
set_option maxHeartbeats 4000000 in
theorem ct_X12_fraction {l : Launch} {w : Wco} (G : GW w) (x1 : Int64) (x2 : Int64) (s0 : Sta) (qq : Unit) (ss : Sta) (hh : X12_fraction x1 x2 s0 = some (qq, ss)) : Ct l w yX12_fraction (Cond.code yX12_fraction cX12_fraction 11 none :: GT) { frames := 0, cells := 0, slots := 0, locals := 0 } [.ref (wad w 82), .long x1, .long x2] s0 (oV qq) ss := by
  refine ct_of [(0, .ref (wad w 82)), (1, .long x1), (3, .long x2)] (by decide +kernel) (Nat.le_of_ble_eq_true rfl) rfl hh (fun M _ C => ?_)
  unfold X12_fraction
  refine sm_lload_n C 1 dX12_fraction_0 rfl ?_
  refine sm_lstore C [(5, .long x1), (0, .ref (wad w 82)), (1, .long x1), (3, .long x2)] dX12_fraction_1 (by decide) rfl ?_
  refine sm_lload_n C 3 dX12_fraction_3 rfl ?_
  refine sm_lstore C [(7, .long x2), (5, .long x1), (0, .ref (wad w 82)), (1, .long x1), (3, .long x2)] dX12_fraction_4 (by decide) rfl ?_
  exact sm_sub [2, 3, 4, 1, 0] rfl (sl_X12_fraction_L6 C G FU x1 x2 x1 x2 s0)
theorem dd_X12_odds : yX12_odds.cls = RX12 ∧ yX12_odds.cls ≠ "java/lang/invoke/MethodHandle" ∧ yX12_odds.cls ≠ "java/lang/invoke/VarHandle" ∧ (parseMethodDescriptor yX12_odds.desc).map (fun d => d.parameters.length) = some 2 := by decide +kernel
set_option maxRecDepth 100000 in
set_option maxHeartbeats 4000000 in
theorem sl_X12_odds_L37 {M : Mco} {w : Wco} (C : Cx M w cX12_odds 5 yX12_odds.cls (Cond.code yX12_odds cX12_odds 5 (some .int)) (some .int) { frames := 6, cells := 0, slots := 0, locals := 138 }) (G : GW w) : ∀ (n : Nat) (y1 : Int32) (y2 : Int32) (y3 : Int32) (y4 : Int32) (s0 : Sta), Sm M w 5 oI 37 [(0, .ref (wad w 82)), (1, .int y1), (2, .int y2), (3, .int y3), (4, .int y4)] [] s0 (X12_odds_L37 n y1 y2 y3 y4 s0) := by
  intro n
  induction n with
  | zero => intros; exact sm_none
  | succ n ih =>
    intro y1 y2 y3 y4 s0
    rw [X12_odds_L37.eq_2]
    refine sm_iload C 4 dX12_odds_37 rfl ?_
    refine sm_aload_n C 0 dX12_odds_39 rfl ?_
    refine r_callVI C (R := RX12) (T := TX12) (N := 21) [] (G_M G) rfl (fun qq ss hh => ct_X12_many G s0 qq ss hh) kw_932 kw_934 kw_17 kw_64 kw_935 dX12_odds_40 rfl dd_X12_many ⟨rfl, rfl⟩ ⟨by decide, by decide⟩ (Nat.le_of_ble_eq_true rfl) _ rfl (fun q13 s14 => ?_)
    refine sm_icmp_ge C 82 dX12_odds_43 (by decide) ?_ ?_
    · refine sm_aload_n C 0 dX12_odds_82 rfl ?_
      refine sm_iload_n C 1 dX12_odds_83 rfl ?_
      refine sm_iload_n C 2 dX12_odds_84 rfl ?_
      refine r_callVI C (R := RX12) (T := TX12) (N := 21) [.int y1, .int y2] (G_M G) rfl (fun qq ss hh => ct_X12_enters G y1 y2 s14 qq ss hh) kw_993 kw_995 kw_25 kw_64 kw_996 dX12_odds_85 rfl dd_X12_enters ⟨rfl, rfl⟩ ⟨by decide, by decide⟩ (Nat.le_of_ble_eq_true rfl) _ rfl (fun q15 s16 => ?_)
      refine sm_if_eq C 113 dX12_odds_88 (by decide) ?_ ?_
      · refine sm_aload_n C 0 dX12_odds_113 rfl ?_
        refine sm_lconst C (0 : Int64) dX12_odds_114 lc_0 ?_
        refine sm_lconst C (1 : Int64) dX12_odds_115 lc_1 ?_
        refine r_callVU C (R := RX12) (T := TX12) (N := 21) [.long (0 : Int64), .long (1 : Int64)] (G_M G) rfl (fun qq ss hh => ct_X12_fraction G (0 : Int64) (1 : Int64) s16 qq ss hh) kw_1142 kw_1144 kw_38 kw_64 kw_1145 dX12_odds_116 rfl dd_X12_fraction ⟨rfl, rfl⟩ ⟨by decide, by decide⟩ (Nat.le_of_ble_eq_true rfl) _ rfl (fun q17 s18 => ?_)
        refine sm_iconst C (1 : Int32) dX12_odds_119 ic_1 ?_
        exact sm_iret C dX12_odds_120
      · refine sm_aload_n C 0 dX12_odds_91 rfl ?_
        refine sm_aload_n C 0 dX12_odds_92 rfl ?_
        refine sm_iload_n C 1 dX12_odds_93 rfl ?_
        refine sm_aload_n C 0 dX12_odds_94 rfl ?_
        refine sm_getR C (ci := 12) (R := RX12) (T := TX12) (N := 21) (j := 8) (G_M G).2 (G_M G).1 rfl gX12 (by decide) kw_872 dX12_odds_95 (fun _ _ => rfl) ?_
        refine sm_iload_n C 2 dX12_odds_98 rfl ?_
        refine r_iald C (G_m89 G) dX12_odds_99 (fun v19 => ?_)
        refine sm_iload_n C 2 dX12_odds_100 rfl ?_
        refine r_callVI C (R := RX12) (T := TX12) (N := 21) [.int y1, .int v19, .int y2] (G_M G) rfl (fun qq ss hh => ct_X12_goodOf G y1 v19 y2 s16 qq ss hh) kw_1014 kw_1016 kw_28 kw_64 kw_1017 dX12_odds_101 rfl dd_X12_goodOf ⟨rfl, rfl⟩ ⟨by decide, by decide⟩ (Nat.le_of_ble_eq_true rfl) _ rfl (fun q20 s21 => ?_)
        refine sm_i2l C dX12_odds_104 ?_
        refine sm_iload_n C 3 dX12_odds_105 rfl ?_
        refine sm_i2l C dX12_odds_106 ?_
        refine r_callVU C (R := RX12) (T := TX12) (N := 21) [.long q20.toInt64, .long y3.toInt64] (G_M G) rfl (fun qq ss hh => ct_X12_fraction G q20.toInt64 y3.toInt64 s21 qq ss hh) kw_1142 kw_1144 kw_38 kw_64 kw_1145 dX12_odds_107 rfl dd_X12_fraction ⟨rfl, rfl⟩ ⟨by decide, by decide⟩ (Nat.le_of_ble_eq_true rfl) _ rfl (fun q22 s23 => ?_)
        refine sm_goto C 119 dX12_odds_110 (by decide) ?_
        refine sm_iconst C (1 : Int32) dX12_odds_119 ic_1 ?_
        exact sm_iret C dX12_odds_120
    · refine sm_iload_n C 3 dX12_odds_46 rfl ?_
      refine sm_aload_n C 0 dX12_odds_47 rfl ?_
      refine sm_iload C 4 dX12_odds_48 rfl ?_
      refine sm_iload_n C 2 dX12_odds_50 rfl ?_
      refine r_callVI C (R := RX12) (T := TX12) (N := 21) [.int y4, .int y2] (G_M G) rfl (fun qq ss hh => ct_X12_enters G y4 y2 s14 qq ss hh) kw_993 kw_995 kw_25 kw_64 kw_996 dX12_odds_51 rfl dd_X12_enters ⟨rfl, rfl⟩ ⟨by decide, by decide⟩ (Nat.le_of_ble_eq_true rfl) _ rfl (fun q24 s25 => ?_)
      refine sm_if_eq C 73 dX12_odds_54 (by decide) ?_ ?_
      · refine sm_iconst C (0 : Int32) dX12_odds_73 ic_0 ?_
        refine sm_iadd C dX12_odds_74 ?_
        refine sm_istore_n C [(3, .int (y3 + (0 : Int32))), (0, .ref (wad w 82)), (1, .int y1), (2, .int y2), (4, .int y4)] dX12_odds_75 (by decide) rfl ?_
        refine sm_iinc C 4 (y4 + (1 : Int32)) [(4, .int (y4 + (1 : Int32))), (3, .int (y3 + (0 : Int32))), (0, .ref (wad w 82)), (1, .int y1), (2, .int y2)] dX12_odds_76 rfl (ii_1 _) (by decide) rfl ?_
        refine sm_goto C 37 dX12_odds_79 (by decide) ?_
        exact sm_sub [2, 3, 4, 1, 0] rfl (ih y1 y2 (y3 + (0 : Int32)) (y4 + (1 : Int32)) s25)
      · refine sm_aload_n C 0 dX12_odds_57 rfl ?_
        refine sm_iload C 4 dX12_odds_58 rfl ?_
        refine sm_aload_n C 0 dX12_odds_60 rfl ?_
        refine sm_getR C (ci := 12) (R := RX12) (T := TX12) (N := 21) (j := 8) (G_M G).2 (G_M G).1 rfl gX12 (by decide) kw_872 dX12_odds_61 (fun _ _ => rfl) ?_
        refine sm_iload_n C 2 dX12_odds_64 rfl ?_
        refine r_iald C (G_m89 G) dX12_odds_65 (fun v26 => ?_)
        refine sm_iload_n C 2 dX12_odds_66 rfl ?_
        refine r_callVI C (R := RX12) (T := TX12) (N := 21) [.int y4, .int v26, .int y2] (G_M G) rfl (fun qq ss hh => ct_X12_goodOf G y4 v26 y2 s25 qq ss hh) kw_1014 kw_1016 kw_28 kw_64 kw_1017 dX12_odds_67 rfl dd_X12_goodOf ⟨rfl, rfl⟩ ⟨by decide, by decide⟩ (Nat.le_of_ble_eq_true rfl) _ rfl (fun q27 s28 => ?_)
        refine sm_goto C 74 dX12_odds_70 (by decide) ?_
        refine sm_iadd C dX12_odds_74 ?_
        refine sm_istore_n C [(3, .int (y3 + q27)), (0, .ref (wad w 82)), (1, .int y1), (2, .int y2), (4, .int y4)] dX12_odds_75 (by decide) rfl ?_
        refine sm_iinc C 4 (y4 + (1 : Int32)) [(4, .int (y4 + (1 : Int32))), (3, .int (y3 + q27)), (0, .ref (wad w 82)), (1, .int y1), (2, .int y2)] dX12_odds_76 rfl (ii_1 _) (by decide) rfl ?_
        refine sm_goto C 37 dX12_odds_79 (by decide) ?_
        exact sm_sub [2, 3, 4, 1, 0] rfl (ih y1 y2 (y3 + q27) (y4 + (1 : Int32)) s28)
set_option maxRecDepth 100000 in
set_option maxHeartbeats 4000000 in
theorem ct_X12_odds {l : Launch} {w : Wco} (G : GW w) (x1 : Int32) (x2 : Int32) (s0 : Sta) (qq : Int32) (ss : Sta) (hh : X12_odds x1 x2 s0 = some (qq, ss)) : Ct l w yX12_odds (Cond.code yX12_odds cX12_odds 5 (some .int) :: GT) { frames := 6, cells := 0, slots := 0, locals := 138 } [.ref (wad w 82), .int x1, .int x2] s0 (oI qq) ss := by
  refine ct_of [(0, .ref (wad w 82)), (1, .int x1), (2, .int x2)] (by decide +kernel) (Nat.le_of_ble_eq_true rfl) rfl hh (fun M _ C => ?_)
  unfold X12_odds
  refine sm_aload_n C 0 dX12_odds_0 rfl ?_
  refine sm_iload_n C 1 dX12_odds_1 rfl ?_
  refine r_callVI C (R := RX12) (T := TX12) (N := 21) [.int x1] (G_M G) rfl (fun qq ss hh => ct_X12_isOne G x1 s0 qq ss hh) kw_1029 kw_1031 kw_29 kw_64 kw_1032 dX12_odds_2 rfl dd_X12_isOne ⟨rfl, rfl⟩ ⟨by decide, by decide⟩ (Nat.le_of_ble_eq_true rfl) _ rfl (fun q1 s2 => ?_)
  refine sm_if_eq C 16 dX12_odds_5 (by decide) ?_ ?_
  · refine sm_aload_n C 0 dX12_odds_16 rfl ?_
    refine sm_bipush C (-2 : Int32) dX12_odds_17 bp_m2 ?_
    refine r_callVI C (R := RX12) (T := TX12) (N := 21) [.int (-2 : Int32)] (G_M G) rfl (fun qq ss hh => ct_X12_bad G (-2 : Int32) s2 qq ss hh) kw_952 kw_954 kw_18 kw_64 kw_955 dX12_odds_19 rfl dd_X12_bad ⟨rfl, rfl⟩ ⟨by decide, by decide⟩ (Nat.le_of_ble_eq_true rfl) _ rfl (fun q3 s4 => ?_)
    exact sm_iret C dX12_odds_22
  · refine sm_aload_n C 0 dX12_odds_8 rfl ?_
    refine sm_iload_n C 2 dX12_odds_9 rfl ?_
    refine r_callVI C (R := RX12) (T := TX12) (N := 21) [.int x2] (G_M G) rfl (fun qq ss hh => ct_X12_isToCome G x2 s2 qq ss hh) kw_1046 kw_1048 kw_30 kw_64 kw_1049 dX12_odds_10 rfl dd_X12_isToCome ⟨rfl, rfl⟩ ⟨by decide, by decide⟩ (Nat.le_of_ble_eq_true rfl) _ rfl (fun q5 s6 => ?_)
    refine sm_if_ne C 23 dX12_odds_13 (by decide) ?_ ?_
    · refine sm_aload_n C 0 dX12_odds_23 rfl ?_
      refine r_callVU C (R := RX12) (T := TX12) (N := 21) [] (G_M G) rfl (fun qq ss hh => ct_X12_layHand G s6 qq ss hh) kw_981 kw_983 kw_22 kw_64 kw_984 dX12_odds_24 rfl dd_X12_layHand ⟨rfl, rfl⟩ ⟨by decide, by decide⟩ (Nat.le_of_ble_eq_true rfl) _ rfl (fun q7 s8 => ?_)
      refine sm_aload_n C 0 dX12_odds_27 rfl ?_
      refine sm_iload_n C 2 dX12_odds_28 rfl ?_
      refine r_callVU C (R := RX12) (T := TX12) (N := 21) [.int x2] (G_M G) rfl (fun qq ss hh => ct_X12_goTill G x2 s8 qq ss hh) kw_1050 kw_1052 kw_31 kw_64 kw_1053 dX12_odds_29 rfl dd_X12_goTill ⟨rfl, rfl⟩ ⟨by decide, by decide⟩ (Nat.le_of_ble_eq_true rfl) _ rfl (fun q9 s10 => ?_)
      refine sm_iconst C (0 : Int32) dX12_odds_32 ic_0 ?_
      refine sm_istore_n C [(3, .int (0 : Int32)), (0, .ref (wad w 82)), (1, .int x1), (2, .int x2)] dX12_odds_33 (by decide) rfl ?_
      refine sm_iconst C (0 : Int32) dX12_odds_34 ic_0 ?_
      refine sm_istore C [(4, .int (0 : Int32)), (3, .int (0 : Int32)), (0, .ref (wad w 82)), (1, .int x1), (2, .int x2)] dX12_odds_35 (by decide) rfl ?_
      exact sm_sub [2, 3, 4, 1, 0] rfl (sl_X12_odds_L37 C G FU x1 x2 (0 : Int32) (0 : Int32) s10)
    · refine sm_aload_n C 0 dX12_odds_16 rfl ?_
      refine sm_bipush C (-2 : Int32) dX12_odds_17 bp_m2 ?_
      refine r_callVI C (R := RX12) (T := TX12) (N := 21) [.int (-2 : Int32)] (G_M G) rfl (fun qq ss hh => ct_X12_bad G (-2 : Int32) s6 qq ss hh) kw_952 kw_954 kw_18 kw_64 kw_955 dX12_odds_19 rfl dd_X12_bad ⟨rfl, rfl⟩ ⟨by decide, by decide⟩ (Nat.le_of_ble_eq_true rfl) _ rfl (fun q11 s12 => ?_)
      exact sm_iret C dX12_odds_22
theorem dd_X12_valleys : yX12_valleys.cls = RX12 ∧ yX12_valleys.cls ≠ "java/lang/invoke/MethodHandle" ∧ yX12_valleys.cls ≠ "java/lang/invoke/VarHandle" ∧ (parseMethodDescriptor yX12_valleys.desc).map (fun d => d.parameters.length) = some 2 := by decide +kernel
set_option maxRecDepth 100000 in
set_option maxHeartbeats 4000000 in
theorem sl_X12_valleys_L129 {M : Mco} {w : Wco} (C : Cx M w cX12_valleys 8 yX12_valleys.cls (Cond.code yX12_valleys cX12_valleys 8 (some .int)) (some .int) { frames := 5, cells := 0, slots := 0, locals := 115 }) (G : GW w) {k40 : Int32 → Int64 → Int32 → Int32 → Sta → Option (Int32 × Sta)} (H40 : ∀ (y2 : Int32) (y3 : Int64) (y5 : Int32) (y6 : Int32) (s0 : Sta), Sm M w 8 oI 40 [(0, .ref (wad w 82)), (2, .int y2), (3, .long y3), (5, .int y5), (6, .int y6)] [] s0 (k40 y2 y3 y5 y6 s0)) : ∀ (n : Nat) (y2 : Int32) (y3 : Int64) (y5 : Int32) (y6 : Int32) (y7 : Int32) (s0 : Sta), Sm M w 8 oI 129 [(0, .ref (wad w 82)), (2, .int y2), (3, .long y3), (5, .int y5), (6, .int y6), (7, .int y7)] [] s0 (X12_valleys_L129 k40 n y2 y3 y5 y6 y7 s0) := by
  intro n
  induction n with
  | zero => intros; exact sm_none
  | succ n ih =>
    intro y2 y3 y5 y6 y7 s0
    rw [X12_valleys_L129.eq_2]
    refine sm_iload C 5 dX12_valleys_129 rfl ?_
    refine sm_bipush C (8 : Int32) dX12_valleys_131 bp_8 ?_
    refine sm_icmp_ge C 168 dX12_valleys_133 (by decide) ?_ ?_
    · refine sm_iinc C 4 (y6 + (1 : Int32)) [(6, .int (y6 + (1 : Int32))), (0, .ref (wad w 82)), (2, .int y2), (3, .long y3), (5, .int y5), (7, .int y7)] dX12_valleys_168 rfl (ii_1 _) (by decide) rfl ?_
      refine sm_goto C 40 dX12_valleys_171 (by decide) ?_
      exact sm_sub [1, 2, 3, 4, 0] rfl (H40 y2 y3 y5 (y6 + (1 : Int32)) s0)
    · refine sm_iload C 3 dX12_valleys_136 rfl ?_
      refine sm_aload_n C 0 dX12_valleys_138 rfl ?_
      refine sm_iload C 5 dX12_valleys_139 rfl ?_
      refine r_callVI C (R := RX12) (T := TX12) (N := 21) [.int y7] (G_M G) rfl (fun qq ss hh => ct_X12_goYear G y7 s0 qq ss hh) kw_985 kw_987 kw_23 kw_64 kw_988 dX12_valleys_141 rfl dd_X12_goYear ⟨rfl, rfl⟩ ⟨by decide, by decide⟩ (Nat.le_of_ble_eq_true rfl) _ rfl (fun q15 s16 => ?_)
      refine sm_iconst C (-1 : Int32) dX12_valleys_144 ic_m1 ?_
      refine sm_icmp_ne C 152 dX12_valleys_145 (by decide) ?_ ?_
      · refine sm_aload_n C 0 dX12_valleys_152 rfl ?_
        refine sm_getR C (ci := 12) (R := RX12) (T := TX12) (N := 21) (j := 9) (G_M G).2 (G_M G).1 rfl gX12 (by decide) kw_873 dX12_valleys_153 (fun _ _ => rfl) ?_
        refine sm_iload C 5 dX12_valleys_156 rfl ?_
        refine r_iald C (G_m90 G) dX12_valleys_158 (fun v17 => ?_)
        refine sm_iadd C dX12_valleys_159 ?_
        refine sm_istore C [(5, .int (y5 + v17)), (0, .ref (wad w 82)), (2, .int y2), (3, .long y3), (6, .int y6), (7, .int y7)] dX12_valleys_160 (by decide) rfl ?_
        refine sm_iinc C 5 (y7 + (1 : Int32)) [(7, .int (y7 + (1 : Int32))), (5, .int (y5 + v17)), (0, .ref (wad w 82)), (2, .int y2), (3, .long y3), (6, .int y6)] dX12_valleys_162 rfl (ii_1 _) (by decide) rfl ?_
        refine sm_goto C 129 dX12_valleys_165 (by decide) ?_
        exact sm_sub [2, 3, 4, 1, 5, 0] rfl (ih y2 y3 (y5 + v17) y6 (y7 + (1 : Int32)) s16)
      · refine sm_iconst C (0 : Int32) dX12_valleys_148 ic_0 ?_
        refine sm_goto C 159 dX12_valleys_149 (by decide) ?_
        refine sm_iadd C dX12_valleys_159 ?_
        refine sm_istore C [(5, .int (y5 + (0 : Int32))), (0, .ref (wad w 82)), (2, .int y2), (3, .long y3), (6, .int y6), (7, .int y7)] dX12_valleys_160 (by decide) rfl ?_
        refine sm_iinc C 5 (y7 + (1 : Int32)) [(7, .int (y7 + (1 : Int32))), (5, .int (y5 + (0 : Int32))), (0, .ref (wad w 82)), (2, .int y2), (3, .long y3), (6, .int y6)] dX12_valleys_162 rfl (ii_1 _) (by decide) rfl ?_
        refine sm_goto C 129 dX12_valleys_165 (by decide) ?_
        exact sm_sub [2, 3, 4, 1, 5, 0] rfl (ih y2 y3 (y5 + (0 : Int32)) y6 (y7 + (1 : Int32)) s16)
set_option maxRecDepth 100000 in
set_option maxHeartbeats 4000000 in
theorem sl_X12_valleys_L58 {M : Mco} {w : Wco} (C : Cx M w cX12_valleys 8 yX12_valleys.cls (Cond.code yX12_valleys cX12_valleys 8 (some .int)) (some .int) { frames := 5, cells := 0, slots := 0, locals := 115 }) (G : GW w) {k40 : Int32 → Int64 → Int32 → Int32 → Sta → Option (Int32 × Sta)} (H40 : ∀ (y2 : Int32) (y3 : Int64) (y5 : Int32) (y6 : Int32) (s0 : Sta), Sm M w 8 oI 40 [(0, .ref (wad w 82)), (2, .int y2), (3, .long y3), (5, .int y5), (6, .int y6)] [] s0 (k40 y2 y3 y5 y6 s0)) : ∀ (n : Nat) (y2 : Int32) (y3 : Int64) (y5 : Int32) (y6 : Int32) (y7 : Int32) (s0 : Sta), Sm M w 8 oI 58 [(0, .ref (wad w 82)), (2, .int y2), (3, .long y3), (5, .int y5), (6, .int y6), (7, .int y7)] [] s0 (X12_valleys_L58 k40 n y2 y3 y5 y6 y7 s0) := by
  intro n
  induction n with
  | zero => intros; exact sm_none
  | succ n ih =>
    intro y2 y3 y5 y6 y7 s0
    rw [X12_valleys_L58.eq_2]
    refine sm_iload C 5 dX12_valleys_58 rfl ?_
    refine sm_bipush C (8 : Int32) dX12_valleys_60 bp_8 ?_
    refine sm_icmp_ge C 121 dX12_valleys_62 (by decide) ?_ ?_
    · refine sm_aload_n C 0 dX12_valleys_121 rfl ?_
      refine sm_getR C (ci := 12) (R := RX12) (T := TX12) (N := 21) (j := 0) (G_M G).2 (G_M G).1 rfl gX12 (by decide) kw_864 dX12_valleys_122 (fun _ _ => rfl) ?_
      refine sm_iconst C (4 : Int32) dX12_valleys_125 ic_4 ?_
      refine r_iald C (G_m83 G) dX12_valleys_126 (fun v12 => ?_)
      refine sm_istore C [(7, .int v12), (0, .ref (wad w 82)), (2, .int y2), (3, .long y3), (5, .int y5), (6, .int y6)] dX12_valleys_127 (by decide) rfl ?_
      exact sm_sub [1, 2, 3, 4, 5, 0] rfl (sl_X12_valleys_L129 C G H40 FU y2 y3 y5 y6 v12 s0)
    · refine sm_lload_n C 2 dX12_valleys_65 rfl ?_
      refine sm_ldc2 C kw_1152 dX12_valleys_66 ?_
      refine sm_lmul C dX12_valleys_69 ?_
      refine sm_ldc2 C kw_1153 dX12_valleys_70 ?_
      refine sm_ladd C dX12_valleys_73 ?_
      refine sm_ldc2 C kw_1154 dX12_valleys_74 ?_
      refine sm_lrem C dX12_valleys_77 (by decide) ?_
      refine sm_lstore_n C [(3, .long (((y3 * (1103515245 : Int64)) + (12345 : Int64)) - ((y3 * (1103515245 : Int64)) + (12345 : Int64)) / (2147483648 : Int64) * (2147483648 : Int64))), (0, .ref (wad w 82)), (2, .int y2), (5, .int y5), (6, .int y6), (7, .int y7)] dX12_valleys_78 (by decide) rfl ?_
      refine sm_aload_n C 1 dX12_valleys_79 rfl ?_
      refine sm_getR C (ci := 12) (R := RX12) (T := TX12) (N := 21) (j := 8) (G_M G).2 (G_M G).1 rfl gX12 (by decide) kw_872 dX12_valleys_80 (fun _ _ => rfl) ?_
      refine sm_iload C 5 dX12_valleys_83 rfl ?_
      refine sm_lload_n C 0 dX12_valleys_85 rfl ?_
      refine sm_ldc2 C kw_1155 dX12_valleys_86 ?_
      refine sm_ldiv C dX12_valleys_89 (by decide) ?_
      refine sm_ldc2 C kw_1156 dX12_valleys_90 ?_
      refine sm_lrem C dX12_valleys_93 (by decide) ?_
      refine sm_l2i C dX12_valleys_94 ?_
      refine r_iast C (G_m89 G) dX12_valleys_95 (fun s13 => ?_)
      refine sm_aload_n C 1 dX12_valleys_96 rfl ?_
      refine sm_getR C (ci := 12) (R := RX12) (T := TX12) (N := 21) (j := 9) (G_M G).2 (G_M G).1 rfl gX12 (by decide) kw_873 dX12_valleys_97 (fun _ _ => rfl) ?_
      refine sm_iload C 5 dX12_valleys_100 rfl ?_
      refine sm_lload_n C 0 dX12_valleys_102 rfl ?_
      refine sm_ldc2 C kw_1157 dX12_valleys_103 ?_
      refine sm_ldiv C dX12_valleys_106 (by decide) ?_
      refine sm_ldc2 C kw_951 dX12_valleys_107 ?_
      refine sm_lrem C dX12_valleys_110 (by decide) ?_
      refine sm_l2i C dX12_valleys_111 ?_
      refine sm_iconst C (1 : Int32) dX12_valleys_112 ic_1 ?_
      refine sm_iadd C dX12_valleys_113 ?_
      refine r_iast C (G_m90 G) dX12_valleys_114 (fun s14 => ?_)
      refine sm_iinc C 5 (y7 + (1 : Int32)) [(7, .int (y7 + (1 : Int32))), (3, .long (((y3 * (1103515245 : Int64)) + (12345 : Int64)) - ((y3 * (1103515245 : Int64)) + (12345 : Int64)) / (2147483648 : Int64) * (2147483648 : Int64))), (0, .ref (wad w 82)), (2, .int y2), (5, .int y5), (6, .int y6)] dX12_valleys_115 rfl (ii_1 _) (by decide) rfl ?_
      refine sm_goto C 58 dX12_valleys_118 (by decide) ?_
      exact sm_sub [2, 3, 1, 4, 5, 0] rfl (ih y2 (((y3 * (1103515245 : Int64)) + (12345 : Int64)) - ((y3 * (1103515245 : Int64)) + (12345 : Int64)) / (2147483648 : Int64) * (2147483648 : Int64)) y5 y6 (y7 + (1 : Int32)) s14)
set_option maxRecDepth 100000 in
set_option maxHeartbeats 4000000 in
theorem sl_X12_valleys_L40 {M : Mco} {w : Wco} (C : Cx M w cX12_valleys 8 yX12_valleys.cls (Cond.code yX12_valleys cX12_valleys 8 (some .int)) (some .int) { frames := 5, cells := 0, slots := 0, locals := 115 }) (G : GW w) : ∀ (n : Nat) (y2 : Int32) (y3 : Int64) (y5 : Int32) (y6 : Int32) (s0 : Sta), Sm M w 8 oI 40 [(0, .ref (wad w 82)), (2, .int y2), (3, .long y3), (5, .int y5), (6, .int y6)] [] s0 (X12_valleys_L40 n y2 y3 y5 y6 s0) := by
  intro n
  induction n with
  | zero => intros; exact sm_none
  | succ n ih =>
    intro y2 y3 y5 y6 s0
    rw [X12_valleys_L40.eq_2]
    refine sm_iload C 4 dX12_valleys_40 rfl ?_
    refine sm_iload_n C 1 dX12_valleys_42 rfl ?_
    refine sm_icmp_ge C 174 dX12_valleys_43 (by decide) ?_ ?_
    · refine sm_iload C 3 dX12_valleys_174 rfl ?_
      exact sm_iret C dX12_valleys_176
    · refine sm_aload_n C 0 dX12_valleys_46 rfl ?_
      refine r_callVU C (R := RX12) (T := TX12) (N := 21) [] (G_M G) rfl (fun qq ss hh => ct_X12_layHand G s0 qq ss hh) kw_981 kw_983 kw_22 kw_64 kw_984 dX12_valleys_47 rfl dd_X12_layHand ⟨rfl, rfl⟩ ⟨by decide, by decide⟩ (Nat.le_of_ble_eq_true rfl) _ rfl (fun q9 s10 => ?_)
      refine sm_aload_n C 0 dX12_valleys_50 rfl ?_
      refine sm_getR C (ci := 12) (R := RX12) (T := TX12) (N := 21) (j := 0) (G_M G).2 (G_M G).1 rfl gX12 (by decide) kw_864 dX12_valleys_51 (fun _ _ => rfl) ?_
      refine sm_iconst C (4 : Int32) dX12_valleys_54 ic_4 ?_
      refine r_iald C (G_m83 G) dX12_valleys_55 (fun v11 => ?_)
      refine sm_istore C [(7, .int v11), (0, .ref (wad w 82)), (2, .int y2), (3, .long y3), (5, .int y5), (6, .int y6)] dX12_valleys_56 (by decide) rfl ?_
      exact sm_sub [1, 2, 3, 4, 5, 0] rfl (sl_X12_valleys_L58 C G ih FU y2 y3 y5 y6 v11 s10)
set_option maxRecDepth 100000 in
set_option maxHeartbeats 4000000 in
theorem ct_X12_valleys {l : Launch} {w : Wco} (G : GW w) (x1 : Int32) (x2 : Int32) (s0 : Sta) (qq : Int32) (ss : Sta) (hh : X12_valleys x1 x2 s0 = some (qq, ss)) : Ct l w yX12_valleys (Cond.code yX12_valleys cX12_valleys 8 (some .int) :: GT) { frames := 5, cells := 0, slots := 0, locals := 115 } [.ref (wad w 82), .int x1, .int x2] s0 (oI qq) ss := by
  refine ct_of [(0, .ref (wad w 82)), (1, .int x1), (2, .int x2)] (by decide +kernel) (Nat.le_of_ble_eq_true rfl) rfl hh (fun M _ C => ?_)
  unfold X12_valleys
  refine sm_iload_n C 1 dX12_valleys_0 rfl ?_
  refine sm_i2l C dX12_valleys_1 ?_
  refine sm_lconst C (0 : Int64) dX12_valleys_2 lc_0 ?_
  refine sm_ldc2 C kw_1150 dX12_valleys_3 ?_
  refine r_callSI C [.long x1.toInt64, .long (0 : Int64), .long (999999 : Int64)] (fun qq ss hh => ct_X12_in x1.toInt64 (0 : Int64) (999999 : Int64) s0 qq ss hh) kw_944 kw_945 kw_64 kw_946 dX12_valleys_6 rfl dd_X12_in ⟨rfl, rfl⟩ ⟨by decide, by decide⟩ (Nat.le_of_ble_eq_true rfl) _ rfl (fun q1 s2 => ?_)
  refine sm_if_eq C 24 dX12_valleys_9 (by decide) ?_ ?_
  · refine sm_aload_n C 0 dX12_valleys_24 rfl ?_
    refine sm_bipush C (-2 : Int32) dX12_valleys_25 bp_m2 ?_
    refine r_callVI C (R := RX12) (T := TX12) (N := 21) [.int (-2 : Int32)] (G_M G) rfl (fun qq ss hh => ct_X12_bad G (-2 : Int32) s2 qq ss hh) kw_952 kw_954 kw_18 kw_64 kw_955 dX12_valleys_27 rfl dd_X12_bad ⟨rfl, rfl⟩ ⟨by decide, by decide⟩ (Nat.le_of_ble_eq_true rfl) _ rfl (fun q3 s4 => ?_)
    exact sm_iret C dX12_valleys_30
  · refine sm_iload_n C 2 dX12_valleys_12 rfl ?_
    refine sm_i2l C dX12_valleys_13 ?_
    refine sm_lconst C (0 : Int64) dX12_valleys_14 lc_0 ?_
    refine sm_ldc2 C kw_1151 dX12_valleys_15 ?_
    refine r_callSI C [.long x2.toInt64, .long (0 : Int64), .long (60 : Int64)] (fun qq ss hh => ct_X12_in x2.toInt64 (0 : Int64) (60 : Int64) s2 qq ss hh) kw_944 kw_945 kw_64 kw_946 dX12_valleys_18 rfl dd_X12_in ⟨rfl, rfl⟩ ⟨by decide, by decide⟩ (Nat.le_of_ble_eq_true rfl) _ rfl (fun q5 s6 => ?_)
    refine sm_if_ne C 31 dX12_valleys_21 (by decide) ?_ ?_
    · refine sm_iload_n C 1 dX12_valleys_31 rfl ?_
      refine sm_i2l C dX12_valleys_32 ?_
      refine sm_lstore_n C [(3, .long x1.toInt64), (0, .ref (wad w 82)), (1, .int x1), (2, .int x2)] dX12_valleys_33 (by decide) rfl ?_
      refine sm_iconst C (0 : Int32) dX12_valleys_34 ic_0 ?_
      refine sm_istore C [(5, .int (0 : Int32)), (3, .long x1.toInt64), (0, .ref (wad w 82)), (1, .int x1), (2, .int x2)] dX12_valleys_35 (by decide) rfl ?_
      refine sm_iconst C (0 : Int32) dX12_valleys_37 ic_0 ?_
      refine sm_istore C [(6, .int (0 : Int32)), (5, .int (0 : Int32)), (3, .long x1.toInt64), (0, .ref (wad w 82)), (1, .int x1), (2, .int x2)] dX12_valleys_38 (by decide) rfl ?_
      exact sm_sub [3, 5, 2, 1, 0] rfl (sl_X12_valleys_L40 C G FU x2 x1.toInt64 (0 : Int32) (0 : Int32) s6)
    · refine sm_aload_n C 0 dX12_valleys_24 rfl ?_
      refine sm_bipush C (-2 : Int32) dX12_valleys_25 bp_m2 ?_
      refine r_callVI C (R := RX12) (T := TX12) (N := 21) [.int (-2 : Int32)] (G_M G) rfl (fun qq ss hh => ct_X12_bad G (-2 : Int32) s6 qq ss hh) kw_952 kw_954 kw_18 kw_64 kw_955 dX12_valleys_27 rfl dd_X12_bad ⟨rfl, rfl⟩ ⟨by decide, by decide⟩ (Nat.le_of_ble_eq_true rfl) _ rfl (fun q7 s8 => ?_)
      exact sm_iret C dX12_valleys_30
theorem dd_X12_type : yX12_type.cls = RX12 ∧ yX12_type.cls ≠ "java/lang/invoke/MethodHandle" ∧ yX12_type.cls ≠ "java/lang/invoke/VarHandle" ∧ (parseMethodDescriptor yX12_type.desc).map (fun d => d.parameters.length) = some 1 := by decide +kernel
set_option maxRecDepth 100000 in
set_option maxHeartbeats 4000000 in
theorem ct_X12_type {l : Launch} {w : Wco} (G : GW w) (x1 : Int32) (s0 : Sta) (qq : Int32) (ss : Sta) (hh : X12_type x1 s0 = some (qq, ss)) : Ct l w yX12_type (Cond.code yX12_type cX12_type 2 (some .int) :: GT) { frames := 1, cells := 0, slots := 0, locals := 25 } [.ref (wad w 82), .int x1] s0 (oI qq) ss := by
  refine ct_of [(0, .ref (wad w 82)), (1, .int x1)] (by decide +kernel) (Nat.le_of_ble_eq_true rfl) rfl hh (fun M _ C => ?_)
  unfold X12_type
  refine sm_iload_n C 1 dX12_type_0 rfl ?_
  refine sm_i2l C dX12_type_1 ?_
  refine sm_lconst C (0 : Int64) dX12_type_2 lc_0 ?_
  refine sm_ldc2 C kw_1162 dX12_type_3 ?_
  refine r_callSI C [.long x1.toInt64, .long (0 : Int64), .long (127 : Int64)] (fun qq ss hh => ct_X12_in x1.toInt64 (0 : Int64) (127 : Int64) s0 qq ss hh) kw_944 kw_945 kw_64 kw_946 dX12_type_6 rfl dd_X12_in ⟨rfl, rfl⟩ ⟨by decide, by decide⟩ (Nat.le_of_ble_eq_true rfl) _ rfl (fun q1 s2 => ?_)
  refine sm_if_ne C 19 dX12_type_9 (by decide) ?_ ?_
  · refine sm_aload_n C 0 dX12_type_19 rfl ?_
    refine sm_getI C (ci := 12) (R := RX12) (T := TX12) (N := 21) (j := 14) (G_M G).2 (G_M G).1 rfl gX12 (by decide) kw_878 dX12_type_20 (fun _ _ => rfl) (fun v3 => ?_)
    refine sm_sipush C (150 : Int32) dX12_type_23 sp_150 ?_
    refine sm_icmp_ne C 34 dX12_type_26 (by decide) ?_ ?_
    · refine sm_aload_n C 0 dX12_type_34 rfl ?_
      refine sm_getR C (ci := 12) (R := RX12) (T := TX12) (N := 21) (j := 13) (G_M G).2 (G_M G).1 rfl gX12 (by decide) kw_877 dX12_type_35 (fun _ _ => rfl) ?_
      refine sm_aload_n C 0 dX12_type_38 rfl ?_
      refine sm_getI C (ci := 12) (R := RX12) (T := TX12) (N := 21) (j := 14) (G_M G).2 (G_M G).1 rfl gX12 (by decide) kw_878 dX12_type_39 (fun _ _ => rfl) (fun v4 => ?_)
      refine sm_iload_n C 1 dX12_type_42 rfl ?_
      refine r_iast C (G_m94 G) dX12_type_43 (fun s5 => ?_)
      refine sm_aload_n C 0 dX12_type_44 rfl ?_
      refine sm_dup C dX12_type_45 rfl ?_
      refine sm_getI C (ci := 12) (R := RX12) (T := TX12) (N := 21) (j := 14) (G_M G).2 (G_M G).1 rfl gX12 (by decide) kw_878 dX12_type_46 (fun _ _ => rfl) (fun v6 => ?_)
      refine sm_iconst C (1 : Int32) dX12_type_49 ic_1 ?_
      refine sm_iadd C dX12_type_50 ?_
      refine sm_putI C (ci := 12) (R := RX12) (T := TX12) (N := 21) (j := 14) (G_M G).2 (G_M G).1 rfl gX12 tyX12 tyX12_ok nmX12 (by decide) kw_878 rfl (by decide +kernel) dX12_type_51 (fun _ _ => Nat.le_of_ble_eq_true rfl) (set_fsM_14 w) (fun s7 => ?_)
      refine sm_aload_n C 0 dX12_type_54 rfl ?_
      refine sm_getI C (ci := 12) (R := RX12) (T := TX12) (N := 21) (j := 14) (G_M G).2 (G_M G).1 rfl gX12 (by decide) kw_878 dX12_type_55 (fun _ _ => rfl) (fun v8 => ?_)
      exact sm_iret C dX12_type_58
    · refine sm_aload_n C 0 dX12_type_29 rfl ?_
      refine r_callVI C (R := RX12) (T := TX12) (N := 21) [] (G_M G) rfl (fun qq ss hh => ct_X12_full G s2 qq ss hh) kw_962 kw_964 kw_19 kw_64 kw_965 dX12_type_30 rfl dd_X12_full ⟨rfl, rfl⟩ ⟨by decide, by decide⟩ (Nat.le_of_ble_eq_true rfl) _ rfl (fun q9 s10 => ?_)
      exact sm_iret C dX12_type_33
  · refine sm_aload_n C 0 dX12_type_12 rfl ?_
    refine sm_bipush C (-2 : Int32) dX12_type_13 bp_m2 ?_
    refine r_callVI C (R := RX12) (T := TX12) (N := 21) [.int (-2 : Int32)] (G_M G) rfl (fun qq ss hh => ct_X12_bad G (-2 : Int32) s2 qq ss hh) kw_952 kw_954 kw_18 kw_64 kw_955 dX12_type_15 rfl dd_X12_bad ⟨rfl, rfl⟩ ⟨by decide, by decide⟩ (Nat.le_of_ble_eq_true rfl) _ rfl (fun q11 s12 => ?_)
    exact sm_iret C dX12_type_18
theorem dd_X12_clear : yX12_clear.cls = RX12 ∧ yX12_clear.cls ≠ "java/lang/invoke/MethodHandle" ∧ yX12_clear.cls ≠ "java/lang/invoke/VarHandle" ∧ (parseMethodDescriptor yX12_clear.desc).map (fun d => d.parameters.length) = some 0 := by decide +kernel
set_option maxRecDepth 100000 in
set_option maxHeartbeats 4000000 in
theorem ct_X12_clear {l : Launch} {w : Wco} (G : GW w) (s0 : Sta) (qq : Int32) (ss : Sta) (hh : X12_clear s0 = some (qq, ss)) : Ct l w yX12_clear (Cond.code yX12_clear cX12_clear 2 (some .int) :: GT) { frames := 0, cells := 0, slots := 0, locals := 0 } [.ref (wad w 82)] s0 (oI qq) ss := by
  refine ct_of [(0, .ref (wad w 82))] (by decide +kernel) (Nat.le_of_ble_eq_true rfl) rfl hh (fun M _ C => ?_)
  unfold X12_clear
  refine sm_aload_n C 0 dX12_clear_0 rfl ?_
  refine sm_getI C (ci := 12) (R := RX12) (T := TX12) (N := 21) (j := 14) (G_M G).2 (G_M G).1 rfl gX12 (by decide) kw_878 dX12_clear_1 (fun _ _ => rfl) (fun v1 => ?_)
  refine sm_istore_n C [(1, .int v1), (0, .ref (wad w 82))] dX12_clear_4 (by decide) rfl ?_
  refine sm_aload_n C 1 dX12_clear_5 rfl ?_
  refine sm_iconst C (0 : Int32) dX12_clear_6 ic_0 ?_
  refine sm_putI C (ci := 12) (R := RX12) (T := TX12) (N := 21) (j := 14) (G_M G).2 (G_M G).1 rfl gX12 tyX12 tyX12_ok nmX12 (by decide) kw_878 rfl (by decide +kernel) dX12_clear_7 (fun _ _ => Nat.le_of_ble_eq_true rfl) (set_fsM_14 w) (fun s2 => ?_)
  refine sm_iload_n C 0 dX12_clear_10 rfl ?_
  exact sm_iret C dX12_clear_11
theorem dd_X12_isSmall : yX12_isSmall.cls ≠ "java/lang/invoke/MethodHandle" ∧ yX12_isSmall.cls ≠ "java/lang/invoke/VarHandle" ∧ (parseMethodDescriptor yX12_isSmall.desc).map (fun d => d.parameters.length) = some 1 := by decide +kernel
set_option maxRecDepth 100000 in
set_option maxHeartbeats 4000000 in
theorem ct_X12_isSmall {l : Launch} {w : Wco} (x1 : Int32) (s0 : Sta) (qq : Int32) (ss : Sta) (hh : X12_isSmall x1 s0 = some (qq, ss)) : Ct l w yX12_isSmall (Cond.code yX12_isSmall cX12_isSmall 1 (some .boolean) :: GT) { frames := 1, cells := 0, slots := 0, locals := 25 } [.int x1] s0 (oI qq) ss := by
  refine ct_of [(0, .int x1)] (by decide +kernel) (Nat.le_of_ble_eq_true rfl) rfl hh (fun M _ C => ?_)
  unfold X12_isSmall
  refine sm_iload_n C 0 dX12_isSmall_0 rfl ?_
  refine sm_i2l C dX12_isSmall_1 ?_
  refine sm_ldc2 C kw_1178 dX12_isSmall_2 ?_
  refine sm_ldc2 C kw_1179 dX12_isSmall_5 ?_
  refine r_callSI C [.long x1.toInt64, .long (97 : Int64), .long (122 : Int64)] (fun qq ss hh => ct_X12_in x1.toInt64 (97 : Int64) (122 : Int64) s0 qq ss hh) kw_944 kw_945 kw_64 kw_946 dX12_isSmall_8 rfl dd_X12_in ⟨rfl, rfl⟩ ⟨by decide, by decide⟩ (Nat.le_of_ble_eq_true rfl) _ rfl (fun q1 s2 => ?_)
  exact sm_zret C dX12_isSmall_11
theorem dd_X12_isFigure : yX12_isFigure.cls ≠ "java/lang/invoke/MethodHandle" ∧ yX12_isFigure.cls ≠ "java/lang/invoke/VarHandle" ∧ (parseMethodDescriptor yX12_isFigure.desc).map (fun d => d.parameters.length) = some 1 := by decide +kernel
set_option maxRecDepth 100000 in
set_option maxHeartbeats 4000000 in
theorem ct_X12_isFigure {l : Launch} {w : Wco} (x1 : Int32) (s0 : Sta) (qq : Int32) (ss : Sta) (hh : X12_isFigure x1 s0 = some (qq, ss)) : Ct l w yX12_isFigure (Cond.code yX12_isFigure cX12_isFigure 1 (some .boolean) :: GT) { frames := 1, cells := 0, slots := 0, locals := 25 } [.int x1] s0 (oI qq) ss := by
  refine ct_of [(0, .int x1)] (by decide +kernel) (Nat.le_of_ble_eq_true rfl) rfl hh (fun M _ C => ?_)
  unfold X12_isFigure
  refine sm_iload_n C 0 dX12_isFigure_0 rfl ?_
  refine sm_i2l C dX12_isFigure_1 ?_
  refine sm_ldc2 C kw_1183 dX12_isFigure_2 ?_
  refine sm_ldc2 C kw_1184 dX12_isFigure_5 ?_
  refine r_callSI C [.long x1.toInt64, .long (48 : Int64), .long (57 : Int64)] (fun qq ss hh => ct_X12_in x1.toInt64 (48 : Int64) (57 : Int64) s0 qq ss hh) kw_944 kw_945 kw_64 kw_946 dX12_isFigure_8 rfl dd_X12_in ⟨rfl, rfl⟩ ⟨by decide, by decide⟩ (Nat.le_of_ble_eq_true rfl) _ rfl (fun q1 s2 => ?_)
  exact sm_zret C dX12_isFigure_11
theorem dd_X12_lookAt : yX12_lookAt.cls = RX12 ∧ yX12_lookAt.cls ≠ "java/lang/invoke/MethodHandle" ∧ yX12_lookAt.cls ≠ "java/lang/invoke/VarHandle" ∧ (parseMethodDescriptor yX12_lookAt.desc).map (fun d => d.parameters.length) = some 1 := by decide +kernel
set_option maxRecDepth 100000 in
set_option maxHeartbeats 4000000 in
theorem sl_X12_lookAt_L274 {M : Mco} {w : Wco} (C : Cx M w cX12_lookAt 5 yX12_lookAt.cls (Cond.code yX12_lookAt cX12_lookAt 5 none) none { frames := 2, cells := 0, slots := 0, locals := 45 }) (G : GW w) : ∀ (s0 : Sta), Sm M w 5 oV 274 [(0, .ref (wad w 82))] [] s0 (X12_lookAt_L274 s0) := by
  intro s0
  unfold X12_lookAt_L274
  refine sm_aload_n C 0 dX12_lookAt_274 rfl ?_
  refine sm_aload_n C 0 dX12_lookAt_275 rfl ?_
  refine sm_getI C (ci := 12) (R := RX12) (T := TX12) (N := 21) (j := 17) (G_M G).2 (G_M G).1 rfl gX12 (by decide) kw_881 dX12_lookAt_276 (fun _ _ => rfl) (fun v42 => ?_)
  refine sm_iconst C (2 : Int32) dX12_lookAt_279 ic_2 ?_
  refine sm_icmp_ne C 295 dX12_lookAt_280 (by decide) ?_ ?_
  · refine sm_aload_n C 0 dX12_lookAt_295 rfl ?_
    refine sm_getI C (ci := 12) (R := RX12) (T := TX12) (N := 21) (j := 17) (G_M G).2 (G_M G).1 rfl gX12 (by decide) kw_881 dX12_lookAt_296 (fun _ _ => rfl) (fun v43 => ?_)
    refine sm_putI C (ci := 12) (R := RX12) (T := TX12) (N := 21) (j := 17) (G_M G).2 (G_M G).1 rfl gX12 tyX12 tyX12_ok nmX12 (by decide) kw_881 rfl (by decide +kernel) dX12_lookAt_299 (fun _ _ => Nat.le_of_ble_eq_true rfl) (set_fsM_17 w) (fun s44 => ?_)
    exact sm_vret C dX12_lookAt_302
  · refine sm_aload_n C 0 dX12_lookAt_283 rfl ?_
    refine sm_getI C (ci := 12) (R := RX12) (T := TX12) (N := 21) (j := 16) (G_M G).2 (G_M G).1 rfl gX12 (by decide) kw_880 dX12_lookAt_284 (fun _ _ => rfl) (fun v45 => ?_)
    refine sm_iconst C (2 : Int32) dX12_lookAt_287 ic_2 ?_
    refine sm_icmp_le C 295 dX12_lookAt_288 (by decide) ?_ ?_
    · refine sm_aload_n C 0 dX12_lookAt_295 rfl ?_
      refine sm_getI C (ci := 12) (R := RX12) (T := TX12) (N := 21) (j := 17) (G_M G).2 (G_M G).1 rfl gX12 (by decide) kw_881 dX12_lookAt_296 (fun _ _ => rfl) (fun v46 => ?_)
      refine sm_putI C (ci := 12) (R := RX12) (T := TX12) (N := 21) (j := 17) (G_M G).2 (G_M G).1 rfl gX12 tyX12 tyX12_ok nmX12 (by decide) kw_881 rfl (by decide +kernel) dX12_lookAt_299 (fun _ _ => Nat.le_of_ble_eq_true rfl) (set_fsM_17 w) (fun s47 => ?_)
      exact sm_vret C dX12_lookAt_302
    · refine sm_iconst C (4 : Int32) dX12_lookAt_291 ic_4 ?_
      refine sm_goto C 299 dX12_lookAt_292 (by decide) ?_
      refine sm_putI C (ci := 12) (R := RX12) (T := TX12) (N := 21) (j := 17) (G_M G).2 (G_M G).1 rfl gX12 tyX12 tyX12_ok nmX12 (by decide) kw_881 rfl (by decide +kernel) dX12_lookAt_299 (fun _ _ => Nat.le_of_ble_eq_true rfl) (set_fsM_17 w) (fun s48 => ?_)
      exact sm_vret C dX12_lookAt_302
set_option maxRecDepth 100000 in
set_option maxHeartbeats 4000000 in
theorem sl_X12_lookAt_L218 {M : Mco} {w : Wco} (C : Cx M w cX12_lookAt 5 yX12_lookAt.cls (Cond.code yX12_lookAt cX12_lookAt 5 none) none { frames := 2, cells := 0, slots := 0, locals := 45 }) (G : GW w) : ∀ (n : Nat) (y4 : Int32) (s0 : Sta), Sm M w 5 oV 218 [(0, .ref (wad w 82)), (4, .int y4)] [] s0 (X12_lookAt_L218 n y4 s0) := by
  intro n
  induction n with
  | zero => intros; exact sm_none
  | succ n ih =>
    intro y4 s0
    rw [X12_lookAt_L218.eq_2]
    refine sm_iload C 1 dX12_lookAt_218 rfl ?_
    refine sm_aload_n C 0 dX12_lookAt_220 rfl ?_
    refine sm_getI C (ci := 12) (R := RX12) (T := TX12) (N := 21) (j := 16) (G_M G).2 (G_M G).1 rfl gX12 (by decide) kw_880 dX12_lookAt_221 (fun _ _ => rfl) (fun v36 => ?_)
    refine sm_icmp_ge C 274 dX12_lookAt_224 (by decide) ?_ ?_
    · exact sm_sub [0] rfl (sl_X12_lookAt_L274 C G s0)
    · refine sm_iload C 1 dX12_lookAt_227 rfl ?_
      refine sm_iconst C (2 : Int32) dX12_lookAt_229 ic_2 ?_
      refine sm_icmp_ge C 274 dX12_lookAt_230 (by decide) ?_ ?_
      · exact sm_sub [0] rfl (sl_X12_lookAt_L274 C G s0)
      · refine sm_aload_n C 0 dX12_lookAt_233 rfl ?_
        refine sm_getI C (ci := 12) (R := RX12) (T := TX12) (N := 21) (j := 17) (G_M G).2 (G_M G).1 rfl gX12 (by decide) kw_881 dX12_lookAt_234 (fun _ _ => rfl) (fun v37 => ?_)
        refine sm_iconst C (2 : Int32) dX12_lookAt_237 ic_2 ?_
        refine sm_icmp_ne C 274 dX12_lookAt_238 (by decide) ?_ ?_
        · exact sm_sub [0] rfl (sl_X12_lookAt_L274 C G s0)
        · refine sm_aload_n C 0 dX12_lookAt_241 rfl ?_
          refine sm_bipush C (10 : Int32) dX12_lookAt_242 bp_10 ?_
          refine sm_aload_n C 0 dX12_lookAt_244 rfl ?_
          refine sm_getI C (ci := 12) (R := RX12) (T := TX12) (N := 21) (j := 18) (G_M G).2 (G_M G).1 rfl gX12 (by decide) kw_882 dX12_lookAt_245 (fun _ _ => rfl) (fun v38 => ?_)
          refine sm_imul C dX12_lookAt_248 ?_
          refine sm_aload_n C 0 dX12_lookAt_249 rfl ?_
          refine sm_getR C (ci := 12) (R := RX12) (T := TX12) (N := 21) (j := 13) (G_M G).2 (G_M G).1 rfl gX12 (by decide) kw_877 dX12_lookAt_250 (fun _ _ => rfl) ?_
          refine sm_aload_n C 0 dX12_lookAt_253 rfl ?_
          refine sm_getI C (ci := 12) (R := RX12) (T := TX12) (N := 21) (j := 15) (G_M G).2 (G_M G).1 rfl gX12 (by decide) kw_879 dX12_lookAt_254 (fun _ _ => rfl) (fun v39 => ?_)
          refine sm_iload C 1 dX12_lookAt_257 rfl ?_
          refine sm_iadd C dX12_lookAt_259 ?_
          refine r_iald C (G_m94 G) dX12_lookAt_260 (fun v40 => ?_)
          refine sm_iadd C dX12_lookAt_261 ?_
          refine sm_bipush C (48 : Int32) dX12_lookAt_262 bp_48 ?_
          refine sm_isub C dX12_lookAt_264 ?_
          refine sm_putI C (ci := 12) (R := RX12) (T := TX12) (N := 21) (j := 18) (G_M G).2 (G_M G).1 rfl gX12 tyX12 tyX12_ok nmX12 (by decide) kw_882 rfl (by decide +kernel) dX12_lookAt_265 (fun _ _ => Nat.le_of_ble_eq_true rfl) (set_fsM_18 w) (fun s41 => ?_)
          refine sm_iinc C 1 (y4 + (1 : Int32)) [(4, .int (y4 + (1 : Int32))), (0, .ref (wad w 82))] dX12_lookAt_268 rfl (ii_1 _) (by decide) rfl ?_
          refine sm_goto C 218 dX12_lookAt_271 (by decide) ?_
          exact sm_sub [1, 0] rfl (ih (y4 + (1 : Int32)) s41)
set_option maxRecDepth 100000 in
set_option maxHeartbeats 4000000 in
theorem sl_X12_lookAt_L193 {M : Mco} {w : Wco} (C : Cx M w cX12_lookAt 5 yX12_lookAt.cls (Cond.code yX12_lookAt cX12_lookAt 5 none) none { frames := 2, cells := 0, slots := 0, locals := 45 }) (G : GW w) {k136 : Int32 → Sta → Option (Unit × Sta)} (H136 : ∀ (y3 : Int32) (s0 : Sta), Sm M w 5 oV 136 [(0, .ref (wad w 82)), (3, .int y3)] [] s0 (k136 y3 s0)) : ∀ (z0 : Int32) (s0 : Sta), Sm M w 5 oV 193 [(0, .ref (wad w 82))] [.int z0] s0 (X12_lookAt_L193 k136 z0 s0) := by
  intro z0 s0
  unfold X12_lookAt_L193
  refine sm_istore_n C [(3, .int z0), (0, .ref (wad w 82))] dX12_lookAt_193 (by decide) rfl ?_
  refine sm_aload_n C 1 dX12_lookAt_194 rfl ?_
  refine sm_dup C dX12_lookAt_195 rfl ?_
  refine sm_getI C (ci := 12) (R := RX12) (T := TX12) (N := 21) (j := 16) (G_M G).2 (G_M G).1 rfl gX12 (by decide) kw_880 dX12_lookAt_196 (fun _ _ => rfl) (fun v33 => ?_)
  refine sm_iload_n C 0 dX12_lookAt_199 rfl ?_
  refine sm_if_eq C 207 dX12_lookAt_200 (by decide) ?_ ?_
  · refine sm_iconst C (0 : Int32) dX12_lookAt_207 ic_0 ?_
    refine sm_iadd C dX12_lookAt_208 ?_
    refine sm_putI C (ci := 12) (R := RX12) (T := TX12) (N := 21) (j := 16) (G_M G).2 (G_M G).1 rfl gX12 tyX12 tyX12_ok nmX12 (by decide) kw_880 rfl (by decide +kernel) dX12_lookAt_209 (fun _ _ => Nat.le_of_ble_eq_true rfl) (set_fsM_16 w) (fun s34 => ?_)
    refine sm_goto C 136 dX12_lookAt_212 (by decide) ?_
    exact sm_sub [1, 0] rfl (H136 z0 s34)
  · refine sm_iconst C (1 : Int32) dX12_lookAt_203 ic_1 ?_
    refine sm_goto C 208 dX12_lookAt_204 (by decide) ?_
    refine sm_iadd C dX12_lookAt_208 ?_
    refine sm_putI C (ci := 12) (R := RX12) (T := TX12) (N := 21) (j := 16) (G_M G).2 (G_M G).1 rfl gX12 tyX12 tyX12_ok nmX12 (by decide) kw_880 rfl (by decide +kernel) dX12_lookAt_209 (fun _ _ => Nat.le_of_ble_eq_true rfl) (set_fsM_16 w) (fun s35 => ?_)
    refine sm_goto C 136 dX12_lookAt_212 (by decide) ?_
    exact sm_sub [1, 0] rfl (H136 z0 s35)
set_option maxRecDepth 100000 in
set_option maxHeartbeats 4000000 in
theorem sl_X12_lookAt_L136 {M : Mco} {w : Wco} (C : Cx M w cX12_lookAt 5 yX12_lookAt.cls (Cond.code yX12_lookAt cX12_lookAt 5 none) none { frames := 2, cells := 0, slots := 0, locals := 45 }) (G : GW w) : ∀ (n : Nat) (y3 : Int32) (s0 : Sta), Sm M w 5 oV 136 [(0, .ref (wad w 82)), (3, .int y3)] [] s0 (X12_lookAt_L136 n y3 s0) := by
  intro n
  induction n with
  | zero => intros; exact sm_none
  | succ n ih =>
    intro y3 s0
    rw [X12_lookAt_L136.eq_2]
    refine sm_iload_n C 1 dX12_lookAt_136 rfl ?_
    refine sm_if_eq C 215 dX12_lookAt_137 (by decide) ?_ ?_
    · refine sm_iconst C (0 : Int32) dX12_lookAt_215 ic_0 ?_
      refine sm_istore C [(4, .int (0 : Int32)), (0, .ref (wad w 82)), (3, .int y3)] dX12_lookAt_216 (by decide) rfl ?_
      exact sm_sub [1, 0] rfl (sl_X12_lookAt_L218 C G FU (0 : Int32) s0)
    · refine sm_aload_n C 0 dX12_lookAt_140 rfl ?_
      refine sm_getI C (ci := 12) (R := RX12) (T := TX12) (N := 21) (j := 15) (G_M G).2 (G_M G).1 rfl gX12 (by decide) kw_879 dX12_lookAt_141 (fun _ _ => rfl) (fun v22 => ?_)
      refine sm_aload_n C 0 dX12_lookAt_144 rfl ?_
      refine sm_getI C (ci := 12) (R := RX12) (T := TX12) (N := 21) (j := 16) (G_M G).2 (G_M G).1 rfl gX12 (by decide) kw_880 dX12_lookAt_145 (fun _ _ => rfl) (fun v23 => ?_)
      refine sm_iadd C dX12_lookAt_148 ?_
      refine sm_aload_n C 0 dX12_lookAt_149 rfl ?_
      refine sm_getI C (ci := 12) (R := RX12) (T := TX12) (N := 21) (j := 14) (G_M G).2 (G_M G).1 rfl gX12 (by decide) kw_878 dX12_lookAt_150 (fun _ _ => rfl) (fun v24 => ?_)
      refine sm_icmp_ge C 215 dX12_lookAt_153 (by decide) ?_ ?_
      · refine sm_iconst C (0 : Int32) dX12_lookAt_215 ic_0 ?_
        refine sm_istore C [(4, .int (0 : Int32)), (0, .ref (wad w 82)), (3, .int y3)] dX12_lookAt_216 (by decide) rfl ?_
        exact sm_sub [1, 0] rfl (sl_X12_lookAt_L218 C G FU (0 : Int32) s0)
      · refine sm_aload_n C 0 dX12_lookAt_156 rfl ?_
        refine sm_getR C (ci := 12) (R := RX12) (T := TX12) (N := 21) (j := 13) (G_M G).2 (G_M G).1 rfl gX12 (by decide) kw_877 dX12_lookAt_157 (fun _ _ => rfl) ?_
        refine sm_aload_n C 0 dX12_lookAt_160 rfl ?_
        refine sm_getI C (ci := 12) (R := RX12) (T := TX12) (N := 21) (j := 15) (G_M G).2 (G_M G).1 rfl gX12 (by decide) kw_879 dX12_lookAt_161 (fun _ _ => rfl) (fun v25 => ?_)
        refine sm_aload_n C 0 dX12_lookAt_164 rfl ?_
        refine sm_getI C (ci := 12) (R := RX12) (T := TX12) (N := 21) (j := 16) (G_M G).2 (G_M G).1 rfl gX12 (by decide) kw_880 dX12_lookAt_165 (fun _ _ => rfl) (fun v26 => ?_)
        refine sm_iadd C dX12_lookAt_168 ?_
        refine r_iald C (G_m94 G) dX12_lookAt_169 (fun v27 => ?_)
        refine sm_istore C [(4, .int v27), (0, .ref (wad w 82)), (3, .int y3)] dX12_lookAt_170 (by decide) rfl ?_
        refine sm_aload_n C 1 dX12_lookAt_172 rfl ?_
        refine sm_getI C (ci := 12) (R := RX12) (T := TX12) (N := 21) (j := 17) (G_M G).2 (G_M G).1 rfl gX12 (by decide) kw_881 dX12_lookAt_173 (fun _ _ => rfl) (fun v28 => ?_)
        refine sm_iconst C (1 : Int32) dX12_lookAt_176 ic_1 ?_
        refine sm_icmp_ne C 188 dX12_lookAt_177 (by decide) ?_ ?_
        · refine sm_iload C 0 dX12_lookAt_188 rfl ?_
          refine r_callSI C [.int v27] (fun qq ss hh => ct_X12_isFigure v27 s0 qq ss hh) kw_1180 kw_1181 kw_64 kw_1182 dX12_lookAt_190 rfl dd_X12_isFigure ⟨rfl, rfl⟩ ⟨by decide, by decide⟩ (Nat.le_of_ble_eq_true rfl) _ rfl (fun q29 s30 => ?_)
          exact sm_sub [1] rfl (sl_X12_lookAt_L193 C G ih q29 s30)
        · refine sm_iload C 0 dX12_lookAt_180 rfl ?_
          refine r_callSI C [.int v27] (fun qq ss hh => ct_X12_isSmall v27 s0 qq ss hh) kw_1175 kw_1176 kw_64 kw_1177 dX12_lookAt_182 rfl dd_X12_isSmall ⟨rfl, rfl⟩ ⟨by decide, by decide⟩ (Nat.le_of_ble_eq_true rfl) _ rfl (fun q31 s32 => ?_)
          refine sm_goto C 193 dX12_lookAt_185 (by decide) ?_
          exact sm_sub [1] rfl (sl_X12_lookAt_L193 C G ih q31 s32)
set_option maxRecDepth 100000 in
set_option maxHeartbeats 4000000 in
theorem sl_X12_lookAt_L114 {M : Mco} {w : Wco} (C : Cx M w cX12_lookAt 5 yX12_lookAt.cls (Cond.code yX12_lookAt cX12_lookAt 5 none) none { frames := 2, cells := 0, slots := 0, locals := 45 }) (G : GW w) : ∀ (z0 : Int32) (s0 : Sta), Sm M w 5 oV 114 [(0, .ref (wad w 82))] [.int z0, .ref (wad w 82)] s0 (X12_lookAt_L114 z0 s0) := by
  intro z0 s0
  unfold X12_lookAt_L114
  refine sm_putI C (ci := 12) (R := RX12) (T := TX12) (N := 21) (j := 17) (G_M G).2 (G_M G).1 rfl gX12 tyX12 tyX12_ok nmX12 (by decide) kw_881 rfl (by decide +kernel) dX12_lookAt_114 (fun _ _ => Nat.le_of_ble_eq_true rfl) (set_fsM_17 w) (fun s19 => ?_)
  refine sm_aload_n C 0 dX12_lookAt_117 rfl ?_
  refine sm_iconst C (1 : Int32) dX12_lookAt_118 ic_1 ?_
  refine sm_putI C (ci := 12) (R := RX12) (T := TX12) (N := 21) (j := 16) (G_M G).2 (G_M G).1 rfl gX12 tyX12 tyX12_ok nmX12 (by decide) kw_880 rfl (by decide +kernel) dX12_lookAt_119 (fun _ _ => Nat.le_of_ble_eq_true rfl) (set_fsM_16 w) (fun s20 => ?_)
  refine sm_aload_n C 0 dX12_lookAt_122 rfl ?_
  refine sm_getI C (ci := 12) (R := RX12) (T := TX12) (N := 21) (j := 17) (G_M G).2 (G_M G).1 rfl gX12 (by decide) kw_881 dX12_lookAt_123 (fun _ _ => rfl) (fun v21 => ?_)
  refine sm_iconst C (3 : Int32) dX12_lookAt_126 ic_3 ?_
  refine sm_icmp_ge C 134 dX12_lookAt_127 (by decide) ?_ ?_
  · refine sm_iconst C (0 : Int32) dX12_lookAt_134 ic_0 ?_
    refine sm_istore_n C [(3, .int (0 : Int32)), (0, .ref (wad w 82))] dX12_lookAt_135 (by decide) rfl ?_
    exact sm_sub [1, 0] rfl (sl_X12_lookAt_L136 C G FU (0 : Int32) s20)
  · refine sm_iconst C (1 : Int32) dX12_lookAt_130 ic_1 ?_
    refine sm_goto C 135 dX12_lookAt_131 (by decide) ?_
    refine sm_istore_n C [(3, .int (1 : Int32)), (0, .ref (wad w 82))] dX12_lookAt_135 (by decide) rfl ?_
    exact sm_sub [1, 0] rfl (sl_X12_lookAt_L136 C G FU (1 : Int32) s20)
set_option maxRecDepth 100000 in
set_option maxHeartbeats 4000000 in
theorem sl_X12_lookAt_L43 {M : Mco} {w : Wco} (C : Cx M w cX12_lookAt 5 yX12_lookAt.cls (Cond.code yX12_lookAt cX12_lookAt 5 none) none { frames := 2, cells := 0, slots := 0, locals := 45 }) (G : GW w) : ∀ (s0 : Sta), Sm M w 5 oV 43 [(0, .ref (wad w 82))] [] s0 (X12_lookAt_L43 s0) := by
  intro s0
  unfold X12_lookAt_L43
  refine sm_aload_n C 0 dX12_lookAt_43 rfl ?_
  refine sm_iconst C (0 : Int32) dX12_lookAt_44 ic_0 ?_
  refine sm_putI C (ci := 12) (R := RX12) (T := TX12) (N := 21) (j := 16) (G_M G).2 (G_M G).1 rfl gX12 tyX12 tyX12_ok nmX12 (by decide) kw_880 rfl (by decide +kernel) dX12_lookAt_45 (fun _ _ => Nat.le_of_ble_eq_true rfl) (set_fsM_16 w) (fun s8 => ?_)
  refine sm_aload_n C 0 dX12_lookAt_48 rfl ?_
  refine sm_iconst C (0 : Int32) dX12_lookAt_49 ic_0 ?_
  refine sm_putI C (ci := 12) (R := RX12) (T := TX12) (N := 21) (j := 17) (G_M G).2 (G_M G).1 rfl gX12 tyX12 tyX12_ok nmX12 (by decide) kw_881 rfl (by decide +kernel) dX12_lookAt_50 (fun _ _ => Nat.le_of_ble_eq_true rfl) (set_fsM_17 w) (fun s9 => ?_)
  refine sm_aload_n C 0 dX12_lookAt_53 rfl ?_
  refine sm_iconst C (0 : Int32) dX12_lookAt_54 ic_0 ?_
  refine sm_putI C (ci := 12) (R := RX12) (T := TX12) (N := 21) (j := 18) (G_M G).2 (G_M G).1 rfl gX12 tyX12 tyX12_ok nmX12 (by decide) kw_882 rfl (by decide +kernel) dX12_lookAt_55 (fun _ _ => Nat.le_of_ble_eq_true rfl) (set_fsM_18 w) (fun s10 => ?_)
  refine sm_aload_n C 0 dX12_lookAt_58 rfl ?_
  refine sm_getI C (ci := 12) (R := RX12) (T := TX12) (N := 21) (j := 15) (G_M G).2 (G_M G).1 rfl gX12 (by decide) kw_879 dX12_lookAt_59 (fun _ _ => rfl) (fun v11 => ?_)
  refine sm_aload_n C 0 dX12_lookAt_62 rfl ?_
  refine sm_getI C (ci := 12) (R := RX12) (T := TX12) (N := 21) (j := 14) (G_M G).2 (G_M G).1 rfl gX12 (by decide) kw_878 dX12_lookAt_63 (fun _ _ => rfl) (fun v12 => ?_)
  refine sm_icmp_ne C 70 dX12_lookAt_66 (by decide) ?_ ?_
  · refine sm_aload_n C 0 dX12_lookAt_70 rfl ?_
    refine sm_getR C (ci := 12) (R := RX12) (T := TX12) (N := 21) (j := 13) (G_M G).2 (G_M G).1 rfl gX12 (by decide) kw_877 dX12_lookAt_71 (fun _ _ => rfl) ?_
    refine sm_aload_n C 0 dX12_lookAt_74 rfl ?_
    refine sm_getI C (ci := 12) (R := RX12) (T := TX12) (N := 21) (j := 15) (G_M G).2 (G_M G).1 rfl gX12 (by decide) kw_879 dX12_lookAt_75 (fun _ _ => rfl) (fun v13 => ?_)
    refine r_iald C (G_m94 G) dX12_lookAt_78 (fun v14 => ?_)
    refine sm_istore_n C [(2, .int v14), (0, .ref (wad w 82))] dX12_lookAt_79 (by decide) rfl ?_
    refine sm_aload_n C 1 dX12_lookAt_80 rfl ?_
    refine sm_iload_n C 0 dX12_lookAt_81 rfl ?_
    refine r_callSI C [.int v14] (fun qq ss hh => ct_X12_isSmall v14 s10 qq ss hh) kw_1175 kw_1176 kw_64 kw_1177 dX12_lookAt_82 rfl dd_X12_isSmall ⟨rfl, rfl⟩ ⟨by decide, by decide⟩ (Nat.le_of_ble_eq_true rfl) _ rfl (fun q15 s16 => ?_)
    refine sm_if_eq C 92 dX12_lookAt_85 (by decide) ?_ ?_
    · refine sm_iload_n C 0 dX12_lookAt_92 rfl ?_
      refine r_callSI C [.int v14] (fun qq ss hh => ct_X12_isFigure v14 s16 qq ss hh) kw_1180 kw_1181 kw_64 kw_1182 dX12_lookAt_93 rfl dd_X12_isFigure ⟨rfl, rfl⟩ ⟨by decide, by decide⟩ (Nat.le_of_ble_eq_true rfl) _ rfl (fun q17 s18 => ?_)
      refine sm_if_eq C 103 dX12_lookAt_96 (by decide) ?_ ?_
      · refine sm_iload_n C 0 dX12_lookAt_103 rfl ?_
        refine sm_bipush C (59 : Int32) dX12_lookAt_104 bp_59 ?_
        refine sm_icmp_ne C 113 dX12_lookAt_106 (by decide) ?_ ?_
        · refine sm_iconst C (4 : Int32) dX12_lookAt_113 ic_4 ?_
          exact sm_sub [1] rfl (sl_X12_lookAt_L114 C G (4 : Int32) s18)
        · refine sm_iconst C (3 : Int32) dX12_lookAt_109 ic_3 ?_
          refine sm_goto C 114 dX12_lookAt_110 (by decide) ?_
          exact sm_sub [1] rfl (sl_X12_lookAt_L114 C G (3 : Int32) s18)
      · refine sm_iconst C (2 : Int32) dX12_lookAt_99 ic_2 ?_
        refine sm_goto C 114 dX12_lookAt_100 (by decide) ?_
        exact sm_sub [1] rfl (sl_X12_lookAt_L114 C G (2 : Int32) s18)
    · refine sm_iconst C (1 : Int32) dX12_lookAt_88 ic_1 ?_
      refine sm_goto C 114 dX12_lookAt_89 (by decide) ?_
      exact sm_sub [1] rfl (sl_X12_lookAt_L114 C G (1 : Int32) s16)
  · exact sm_vret C dX12_lookAt_69
set_option maxRecDepth 100000 in
set_option maxHeartbeats 4000000 in
theorem sl_X12_lookAt_L5 {M : Mco} {w : Wco} (C : Cx M w cX12_lookAt 5 yX12_lookAt.cls (Cond.code yX12_lookAt cX12_lookAt 5 none) none { frames := 2, cells := 0, slots := 0, locals := 45 }) (G : GW w) : ∀ (n : Nat) (s0 : Sta), Sm M w 5 oV 5 [(0, .ref (wad w 82))] [] s0 (X12_lookAt_L5 n s0) := by
  intro n
  induction n with
  | zero => intros; exact sm_none
  | succ n ih =>
    intro s0
    rw [X12_lookAt_L5.eq_2]
    refine sm_aload_n C 0 dX12_lookAt_5 rfl ?_
    refine sm_getI C (ci := 12) (R := RX12) (T := TX12) (N := 21) (j := 15) (G_M G).2 (G_M G).1 rfl gX12 (by decide) kw_879 dX12_lookAt_6 (fun _ _ => rfl) (fun v2 => ?_)
    refine sm_aload_n C 0 dX12_lookAt_9 rfl ?_
    refine sm_getI C (ci := 12) (R := RX12) (T := TX12) (N := 21) (j := 14) (G_M G).2 (G_M G).1 rfl gX12 (by decide) kw_878 dX12_lookAt_10 (fun _ _ => rfl) (fun v3 => ?_)
    refine sm_icmp_ge C 43 dX12_lookAt_13 (by decide) ?_ ?_
    · exact sm_sub [0] rfl (sl_X12_lookAt_L43 C G s0)
    · refine sm_aload_n C 0 dX12_lookAt_16 rfl ?_
      refine sm_getR C (ci := 12) (R := RX12) (T := TX12) (N := 21) (j := 13) (G_M G).2 (G_M G).1 rfl gX12 (by decide) kw_877 dX12_lookAt_17 (fun _ _ => rfl) ?_
      refine sm_aload_n C 0 dX12_lookAt_20 rfl ?_
      refine sm_getI C (ci := 12) (R := RX12) (T := TX12) (N := 21) (j := 15) (G_M G).2 (G_M G).1 rfl gX12 (by decide) kw_879 dX12_lookAt_21 (fun _ _ => rfl) (fun v4 => ?_)
      refine r_iald C (G_m94 G) dX12_lookAt_24 (fun v5 => ?_)
      refine sm_bipush C (32 : Int32) dX12_lookAt_25 bp_32 ?_
      refine sm_icmp_ne C 43 dX12_lookAt_27 (by decide) ?_ ?_
      · exact sm_sub [0] rfl (sl_X12_lookAt_L43 C G s0)
      · refine sm_aload_n C 0 dX12_lookAt_30 rfl ?_
        refine sm_dup C dX12_lookAt_31 rfl ?_
        refine sm_getI C (ci := 12) (R := RX12) (T := TX12) (N := 21) (j := 15) (G_M G).2 (G_M G).1 rfl gX12 (by decide) kw_879 dX12_lookAt_32 (fun _ _ => rfl) (fun v6 => ?_)
        refine sm_iconst C (1 : Int32) dX12_lookAt_35 ic_1 ?_
        refine sm_iadd C dX12_lookAt_36 ?_
        refine sm_putI C (ci := 12) (R := RX12) (T := TX12) (N := 21) (j := 15) (G_M G).2 (G_M G).1 rfl gX12 tyX12 tyX12_ok nmX12 (by decide) kw_879 rfl (by decide +kernel) dX12_lookAt_37 (fun _ _ => Nat.le_of_ble_eq_true rfl) (set_fsM_15 w) (fun s7 => ?_)
        refine sm_goto C 5 dX12_lookAt_40 (by decide) ?_
        exact sm_sub [0] rfl (ih s7)
set_option maxRecDepth 100000 in
set_option maxHeartbeats 4000000 in
theorem ct_X12_lookAt {l : Launch} {w : Wco} (G : GW w) (x1 : Int32) (s0 : Sta) (qq : Unit) (ss : Sta) (hh : X12_lookAt x1 s0 = some (qq, ss)) : Ct l w yX12_lookAt (Cond.code yX12_lookAt cX12_lookAt 5 none :: GT) { frames := 2, cells := 0, slots := 0, locals := 45 } [.ref (wad w 82), .int x1] s0 (oV qq) ss := by
  refine ct_of [(0, .ref (wad w 82)), (1, .int x1)] (by decide +kernel) (Nat.le_of_ble_eq_true rfl) rfl hh (fun M _ C => ?_)
  unfold X12_lookAt
  refine sm_aload_n C 0 dX12_lookAt_0 rfl ?_
  refine sm_iload_n C 1 dX12_lookAt_1 rfl ?_
  refine sm_putI C (ci := 12) (R := RX12) (T := TX12) (N := 21) (j := 15) (G_M G).2 (G_M G).1 rfl gX12 tyX12 tyX12_ok nmX12 (by decide) kw_879 rfl (by decide +kernel) dX12_lookAt_2 (fun _ _ => Nat.le_of_ble_eq_true rfl) (set_fsM_15 w) (fun s1 => ?_)
  exact sm_sub [0] rfl (sl_X12_lookAt_L5 C G FU s1)
