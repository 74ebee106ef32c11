theorem dd_X12_goBehind : yX12_goBehind.cls = RX12 ∧ yX12_goBehind.cls ≠ "java/lang/invoke/MethodHandle" ∧ yX12_goBehind.cls ≠ "java/lang/invoke/VarHandle" ∧ (parseMethodDescriptor yX12_goBehind.desc).map (fun d => d.parameters.length) = some 0 := by decide +kernel
set_option maxRecDepth 100000 in
set_option maxHeartbeats 4000000 in
theorem ct_X12_goBehind {l : Launch} {w : Wco} (G : GW w) (s0 : Sta) (qq : Unit) (ss : Sta) (hh : X12_goBehind s0 = some (qq, ss)) : Ct l w yX12_goBehind (Cond.code yX12_goBehind cX12_goBehind 1 none :: GT) { frames := 3, cells := 0, slots := 0, locals := 69 } [.ref (wad w 82)] s0 (oV qq) ss := by
  refine ct_of [(0, .ref (wad w 82))] (by decide +kernel) (Nat.le_of_ble_eq_true rfl) rfl hh (fun M _ C => ?_)
  unfold X12_goBehind
  refine sm_aload_n C 0 dX12_goBehind_0 rfl ?_
  refine sm_aload_n C 0 dX12_goBehind_1 rfl ?_
  refine sm_getI C (ci := 12) (R := RX12) (T := TX12) (N := 21) (j := 15) (G_M G).2 (G_M G).1 rfl gX12 (by decide) kw_879 dX12_goBehind_2 (fun _ _ => rfl) (fun v1 => ?_)
  refine sm_aload_n C 0 dX12_goBehind_5 rfl ?_
  refine sm_getI C (ci := 12) (R := RX12) (T := TX12) (N := 21) (j := 16) (G_M G).2 (G_M G).1 rfl gX12 (by decide) kw_880 dX12_goBehind_6 (fun _ _ => rfl) (fun v2 => ?_)
  refine sm_iadd C dX12_goBehind_9 ?_
  refine r_callVU C (R := RX12) (T := TX12) (N := 21) [.int (v1 + v2)] (G_M G) rfl (fun qq ss hh => ct_X12_lookAt G (v1 + v2) s0 qq ss hh) kw_1171 kw_1173 kw_39 kw_64 kw_1174 dX12_goBehind_10 rfl dd_X12_lookAt ⟨rfl, rfl⟩ ⟨by decide, by decide⟩ (Nat.le_of_ble_eq_true rfl) _ rfl (fun q3 s4 => ?_)
  exact sm_vret C dX12_goBehind_13
theorem dd_X12_spells : yX12_spells.cls = RX12 ∧ yX12_spells.cls ≠ "java/lang/invoke/MethodHandle" ∧ yX12_spells.cls ≠ "java/lang/invoke/VarHandle" ∧ (parseMethodDescriptor yX12_spells.desc).map (fun d => d.parameters.length) = some 7 := by decide +kernel
set_option maxRecDepth 100000 in
set_option maxHeartbeats 4000000 in
theorem sl_X12_spells_L103 {M : Mco} {w : Wco} (C : Cx M w cX12_spells 10 yX12_spells.cls (Cond.code yX12_spells cX12_spells 10 (some .boolean)) (some .boolean) { frames := 0, cells := 0, slots := 0, locals := 0 }) (G : GW w) {k26 : Int32 → Int32 → Int32 → Int32 → Int32 → Int32 → Int32 → Int32 → Int32 → Sta → Option (Int32 × Sta)} (H26 : ∀ (y1 : Int32) (y2 : Int32) (y3 : Int32) (y4 : Int32) (y5 : Int32) (y6 : Int32) (y7 : Int32) (y8 : Int32) (y9 : Int32) (s0 : Sta), Sm M w 10 oI 26 [(0, .ref (wad w 82)), (1, .int y1), (2, .int y2), (3, .int y3), (4, .int y4), (5, .int y5), (6, .int y6), (7, .int y7), (8, .int y8), (9, .int y9)] [] s0 (k26 y1 y2 y3 y4 y5 y6 y7 y8 y9 s0)) : ∀ (y1 : Int32) (y2 : Int32) (y3 : Int32) (y4 : Int32) (y5 : Int32) (y6 : Int32) (y7 : Int32) (y9 : Int32) (z0 : Int32) (z1 : Int32) (s0 : Sta), Sm M w 10 oI 103 [(0, .ref (wad w 82)), (1, .int y1), (2, .int y2), (3, .int y3), (4, .int y4), (5, .int y5), (6, .int y6), (7, .int y7), (9, .int y9)] [.int z0, .int z1] s0 (X12_spells_L103 k26 y1 y2 y3 y4 y5 y6 y7 y9 z0 z1 s0) := by
  intro y1 y2 y3 y4 y5 y6 y7 y9 z0 z1 s0
  unfold X12_spells_L103
  refine sm_icmp_ne C 110 dX12_spells_103 (by decide) ?_ ?_
  · refine sm_iconst C (0 : Int32) dX12_spells_110 ic_0 ?_
    refine sm_istore C [(8, .int (0 : Int32)), (0, .ref (wad w 82)), (1, .int y1), (2, .int y2), (3, .int y3), (4, .int y4), (5, .int y5), (6, .int y6), (7, .int y7), (9, .int y9)] dX12_spells_111 (by decide) rfl ?_
    refine sm_iinc C 9 (y9 + (1 : Int32)) [(9, .int (y9 + (1 : Int32))), (8, .int (0 : Int32)), (0, .ref (wad w 82)), (1, .int y1), (2, .int y2), (3, .int y3), (4, .int y4), (5, .int y5), (6, .int y6), (7, .int y7)] dX12_spells_113 rfl (ii_1 _) (by decide) rfl ?_
    refine sm_goto C 26 dX12_spells_116 (by decide) ?_
    exact sm_sub [2, 3, 4, 5, 6, 7, 8, 9, 1, 0] rfl (H26 y1 y2 y3 y4 y5 y6 y7 (0 : Int32) (y9 + (1 : Int32)) s0)
  · refine sm_iconst C (1 : Int32) dX12_spells_106 ic_1 ?_
    refine sm_goto C 111 dX12_spells_107 (by decide) ?_
    refine sm_istore C [(8, .int (1 : Int32)), (0, .ref (wad w 82)), (1, .int y1), (2, .int y2), (3, .int y3), (4, .int y4), (5, .int y5), (6, .int y6), (7, .int y7), (9, .int y9)] dX12_spells_111 (by decide) rfl ?_
    refine sm_iinc C 9 (y9 + (1 : Int32)) [(9, .int (y9 + (1 : Int32))), (8, .int (1 : Int32)), (0, .ref (wad w 82)), (1, .int y1), (2, .int y2), (3, .int y3), (4, .int y4), (5, .int y5), (6, .int y6), (7, .int y7)] dX12_spells_113 rfl (ii_1 _) (by decide) rfl ?_
    refine sm_goto C 26 dX12_spells_116 (by decide) ?_
    exact sm_sub [2, 3, 4, 5, 6, 7, 8, 9, 1, 0] rfl (H26 y1 y2 y3 y4 y5 y6 y7 (1 : Int32) (y9 + (1 : Int32)) s0)
set_option maxRecDepth 100000 in
set_option maxHeartbeats 4000000 in
theorem sl_X12_spells_L26 {M : Mco} {w : Wco} (C : Cx M w cX12_spells 10 yX12_spells.cls (Cond.code yX12_spells cX12_spells 10 (some .boolean)) (some .boolean) { frames := 0, cells := 0, slots := 0, locals := 0 }) (G : GW w) : ∀ (n : Nat) (y1 : Int32) (y2 : Int32) (y3 : Int32) (y4 : Int32) (y5 : Int32) (y6 : Int32) (y7 : Int32) (y8 : Int32) (y9 : Int32) (s0 : Sta), Sm M w 10 oI 26 [(0, .ref (wad w 82)), (1, .int y1), (2, .int y2), (3, .int y3), (4, .int y4), (5, .int y5), (6, .int y6), (7, .int y7), (8, .int y8), (9, .int y9)] [] s0 (X12_spells_L26 n y1 y2 y3 y4 y5 y6 y7 y8 y9 s0) := by
  intro n
  induction n with
  | zero => intros; exact sm_none
  | succ n ih =>
    intro y1 y2 y3 y4 y5 y6 y7 y8 y9 s0
    rw [X12_spells_L26.eq_2]
    refine sm_iload C 9 dX12_spells_26 rfl ?_
    refine sm_iload_n C 1 dX12_spells_28 rfl ?_
    refine sm_icmp_ge C 119 dX12_spells_29 (by decide) ?_ ?_
    · refine sm_iload C 8 dX12_spells_119 rfl ?_
      exact sm_zret C dX12_spells_121
    · refine sm_iload C 8 dX12_spells_32 rfl ?_
      refine sm_if_eq C 119 dX12_spells_34 (by decide) ?_ ?_
      · refine sm_iload C 8 dX12_spells_119 rfl ?_
        exact sm_zret C dX12_spells_121
      · refine sm_aload_n C 0 dX12_spells_37 rfl ?_
        refine sm_getR C (ci := 12) (R := RX12) (T := TX12) (N := 21) (j := 13) (G_M G).2 (G_M G).1 rfl gX12 (by decide) kw_877 dX12_spells_38 (fun _ _ => rfl) ?_
        refine sm_aload_n C 0 dX12_spells_41 rfl ?_
        refine sm_getI C (ci := 12) (R := RX12) (T := TX12) (N := 21) (j := 15) (G_M G).2 (G_M G).1 rfl gX12 (by decide) kw_879 dX12_spells_42 (fun _ _ => rfl) (fun v3 => ?_)
        refine sm_iload C 9 dX12_spells_45 rfl ?_
        refine sm_iadd C dX12_spells_47 ?_
        refine r_iald C (G_m94 G) dX12_spells_48 (fun v4 => ?_)
        refine sm_iload C 9 dX12_spells_49 rfl ?_
        refine sm_if_ne C 58 dX12_spells_51 (by decide) ?_ ?_
        · refine sm_iload C 9 dX12_spells_58 rfl ?_
          refine sm_iconst C (1 : Int32) dX12_spells_60 ic_1 ?_
          refine sm_icmp_ne C 68 dX12_spells_61 (by decide) ?_ ?_
          · refine sm_iload C 9 dX12_spells_68 rfl ?_
            refine sm_iconst C (2 : Int32) dX12_spells_70 ic_2 ?_
            refine sm_icmp_ne C 79 dX12_spells_71 (by decide) ?_ ?_
            · refine sm_iload C 9 dX12_spells_79 rfl ?_
              refine sm_iconst C (3 : Int32) dX12_spells_81 ic_3 ?_
              refine sm_icmp_ne C 90 dX12_spells_82 (by decide) ?_ ?_
              · refine sm_iload C 9 dX12_spells_90 rfl ?_
                refine sm_iconst C (4 : Int32) dX12_spells_92 ic_4 ?_
                refine sm_icmp_ne C 101 dX12_spells_93 (by decide) ?_ ?_
                · refine sm_iload C 7 dX12_spells_101 rfl ?_
                  exact sm_sub [0, 1, 2, 3, 4, 5, 6, 7, 9] rfl (sl_X12_spells_L103 C G ih y1 y2 y3 y4 y5 y6 y7 y9 y7 v4 s0)
                · refine sm_iload C 6 dX12_spells_96 rfl ?_
                  refine sm_goto C 103 dX12_spells_98 (by decide) ?_
                  exact sm_sub [0, 1, 2, 3, 4, 5, 6, 7, 9] rfl (sl_X12_spells_L103 C G ih y1 y2 y3 y4 y5 y6 y7 y9 y6 v4 s0)
              · refine sm_iload C 5 dX12_spells_85 rfl ?_
                refine sm_goto C 103 dX12_spells_87 (by decide) ?_
                exact sm_sub [0, 1, 2, 3, 4, 5, 6, 7, 9] rfl (sl_X12_spells_L103 C G ih y1 y2 y3 y4 y5 y6 y7 y9 y5 v4 s0)
            · refine sm_iload C 4 dX12_spells_74 rfl ?_
              refine sm_goto C 103 dX12_spells_76 (by decide) ?_
              exact sm_sub [0, 1, 2, 3, 4, 5, 6, 7, 9] rfl (sl_X12_spells_L103 C G ih y1 y2 y3 y4 y5 y6 y7 y9 y4 v4 s0)
          · refine sm_iload_n C 3 dX12_spells_64 rfl ?_
            refine sm_goto C 103 dX12_spells_65 (by decide) ?_
            exact sm_sub [0, 1, 2, 3, 4, 5, 6, 7, 9] rfl (sl_X12_spells_L103 C G ih y1 y2 y3 y4 y5 y6 y7 y9 y3 v4 s0)
        · refine sm_iload_n C 2 dX12_spells_54 rfl ?_
          refine sm_goto C 103 dX12_spells_55 (by decide) ?_
          exact sm_sub [0, 1, 2, 3, 4, 5, 6, 7, 9] rfl (sl_X12_spells_L103 C G ih y1 y2 y3 y4 y5 y6 y7 y9 y2 v4 s0)
set_option maxRecDepth 100000 in
set_option maxHeartbeats 4000000 in
theorem ct_X12_spells {l : Launch} {w : Wco} (G : GW w) (x1 : Int32) (x2 : Int32) (x3 : Int32) (x4 : Int32) (x5 : Int32) (x6 : Int32) (x7 : Int32) (s0 : Sta) (qq : Int32) (ss : Sta) (hh : X12_spells x1 x2 x3 x4 x5 x6 x7 s0 = some (qq, ss)) : Ct l w yX12_spells (Cond.code yX12_spells cX12_spells 10 (some .boolean) :: GT) { frames := 0, cells := 0, slots := 0, locals := 0 } [.ref (wad w 82), .int x1, .int x2, .int x3, .int x4, .int x5, .int x6, .int x7] s0 (oI qq) ss := by
  refine ct_of [(0, .ref (wad w 82)), (1, .int x1), (2, .int x2), (3, .int x3), (4, .int x4), (5, .int x5), (6, .int x6), (7, .int x7)] (by decide +kernel) (Nat.le_of_ble_eq_true rfl) rfl hh (fun M _ C => ?_)
  unfold X12_spells
  refine sm_aload_n C 0 dX12_spells_0 rfl ?_
  refine sm_getI C (ci := 12) (R := RX12) (T := TX12) (N := 21) (j := 17) (G_M G).2 (G_M G).1 rfl gX12 (by decide) kw_881 dX12_spells_1 (fun _ _ => rfl) (fun v1 => ?_)
  refine sm_iconst C (1 : Int32) dX12_spells_4 ic_1 ?_
  refine sm_icmp_ne C 20 dX12_spells_5 (by decide) ?_ ?_
  · refine sm_iconst C (0 : Int32) dX12_spells_20 ic_0 ?_
    refine sm_istore C [(8, .int (0 : Int32)), (0, .ref (wad w 82)), (1, .int x1), (2, .int x2), (3, .int x3), (4, .int x4), (5, .int x5), (6, .int x6), (7, .int x7)] dX12_spells_21 (by decide) rfl ?_
    refine sm_iconst C (0 : Int32) dX12_spells_23 ic_0 ?_
    refine sm_istore C [(9, .int (0 : Int32)), (8, .int (0 : Int32)), (0, .ref (wad w 82)), (1, .int x1), (2, .int x2), (3, .int x3), (4, .int x4), (5, .int x5), (6, .int x6), (7, .int x7)] dX12_spells_24 (by decide) rfl ?_
    exact sm_sub [2, 3, 4, 5, 6, 7, 8, 9, 1, 0] rfl (sl_X12_spells_L26 C G FU x1 x2 x3 x4 x5 x6 x7 (0 : Int32) (0 : Int32) s0)
  · refine sm_aload_n C 0 dX12_spells_8 rfl ?_
    refine sm_getI C (ci := 12) (R := RX12) (T := TX12) (N := 21) (j := 16) (G_M G).2 (G_M G).1 rfl gX12 (by decide) kw_880 dX12_spells_9 (fun _ _ => rfl) (fun v2 => ?_)
    refine sm_iload_n C 1 dX12_spells_12 rfl ?_
    refine sm_icmp_ne C 20 dX12_spells_13 (by decide) ?_ ?_
    · refine sm_iconst C (0 : Int32) dX12_spells_20 ic_0 ?_
      refine sm_istore C [(8, .int (0 : Int32)), (0, .ref (wad w 82)), (1, .int x1), (2, .int x2), (3, .int x3), (4, .int x4), (5, .int x5), (6, .int x6), (7, .int x7)] dX12_spells_21 (by decide) rfl ?_
      refine sm_iconst C (0 : Int32) dX12_spells_23 ic_0 ?_
      refine sm_istore C [(9, .int (0 : Int32)), (8, .int (0 : Int32)), (0, .ref (wad w 82)), (1, .int x1), (2, .int x2), (3, .int x3), (4, .int x4), (5, .int x5), (6, .int x6), (7, .int x7)] dX12_spells_24 (by decide) rfl ?_
      exact sm_sub [2, 3, 4, 5, 6, 7, 8, 9, 1, 0] rfl (sl_X12_spells_L26 C G FU x1 x2 x3 x4 x5 x6 x7 (0 : Int32) (0 : Int32) s0)
    · refine sm_iconst C (1 : Int32) dX12_spells_16 ic_1 ?_
      refine sm_goto C 21 dX12_spells_17 (by decide) ?_
      refine sm_istore C [(8, .int (1 : Int32)), (0, .ref (wad w 82)), (1, .int x1), (2, .int x2), (3, .int x3), (4, .int x4), (5, .int x5), (6, .int x6), (7, .int x7)] dX12_spells_21 (by decide) rfl ?_
      refine sm_iconst C (0 : Int32) dX12_spells_23 ic_0 ?_
      refine sm_istore C [(9, .int (0 : Int32)), (8, .int (1 : Int32)), (0, .ref (wad w 82)), (1, .int x1), (2, .int x2), (3, .int x3), (4, .int x4), (5, .int x5), (6, .int x6), (7, .int x7)] dX12_spells_24 (by decide) rfl ?_
      exact sm_sub [2, 3, 4, 5, 6, 7, 8, 9, 1, 0] rfl (sl_X12_spells_L26 C G FU x1 x2 x3 x4 x5 x6 x7 (1 : Int32) (0 : Int32) s0)
theorem dd_X12_takes : yX12_takes.cls = RX12 ∧ yX12_takes.cls ≠ "java/lang/invoke/MethodHandle" ∧ yX12_takes.cls ≠ "java/lang/invoke/VarHandle" ∧ (parseMethodDescriptor yX12_takes.desc).map (fun d => d.parameters.length) = some 3 := by decide +kernel
set_option maxRecDepth 100000 in
set_option maxHeartbeats 4000000 in
theorem ct_X12_takes {l : Launch} {w : Wco} (G : GW w) (x1 : Int32) (x2 : Int32) (x3 : Int32) (s0 : Sta) (qq : Int32) (ss : Sta) (hh : X12_takes x1 x2 x3 s0 = some (qq, ss)) : Ct l w yX12_takes (Cond.code yX12_takes cX12_takes 4 (some .boolean) :: GT) { frames := 4, cells := 0, slots := 0, locals := 89 } [.ref (wad w 82), .int x1, .int x2, .int x3] s0 (oI qq) ss := by
  refine ct_of [(0, .ref (wad w 82)), (1, .int x1), (2, .int x2), (3, .int x3)] (by decide +kernel) (Nat.le_of_ble_eq_true rfl) rfl hh (fun M _ C => ?_)
  unfold X12_takes
  refine sm_aload_n C 0 dX12_takes_0 rfl ?_
  refine sm_getI C (ci := 12) (R := RX12) (T := TX12) (N := 21) (j := 17) (G_M G).2 (G_M G).1 rfl gX12 (by decide) kw_881 dX12_takes_1 (fun _ _ => rfl) (fun v1 => ?_)
  refine sm_iconst C (2 : Int32) dX12_takes_4 ic_2 ?_
  refine sm_icmp_ne C 23 dX12_takes_5 (by decide) ?_ ?_
  · refine sm_iconst C (0 : Int32) dX12_takes_23 ic_0 ?_
    exact sm_zret C dX12_takes_24
  · refine sm_aload_n C 0 dX12_takes_8 rfl ?_
    refine sm_getI C (ci := 12) (R := RX12) (T := TX12) (N := 21) (j := 18) (G_M G).2 (G_M G).1 rfl gX12 (by decide) kw_882 dX12_takes_9 (fun _ _ => rfl) (fun v2 => ?_)
    refine sm_i2l C dX12_takes_12 ?_
    refine sm_iload_n C 2 dX12_takes_13 rfl ?_
    refine sm_i2l C dX12_takes_14 ?_
    refine sm_iload_n C 3 dX12_takes_15 rfl ?_
    refine sm_i2l C dX12_takes_16 ?_
    refine r_callSI C [.long v2.toInt64, .long x2.toInt64, .long x3.toInt64] (fun qq ss hh => ct_X12_in v2.toInt64 x2.toInt64 x3.toInt64 s0 qq ss hh) kw_944 kw_945 kw_64 kw_946 dX12_takes_17 rfl dd_X12_in ⟨rfl, rfl⟩ ⟨by decide, by decide⟩ (Nat.le_of_ble_eq_true rfl) _ rfl (fun q3 s4 => ?_)
    refine sm_if_ne C 25 dX12_takes_20 (by decide) ?_ ?_
    · refine sm_aload_n C 0 dX12_takes_25 rfl ?_
      refine sm_getR C (ci := 12) (R := RX12) (T := TX12) (N := 21) (j := 20) (G_M G).2 (G_M G).1 rfl gX12 (by decide) kw_884 dX12_takes_26 (fun _ _ => rfl) ?_
      refine sm_iload_n C 1 dX12_takes_29 rfl ?_
      refine sm_aload_n C 0 dX12_takes_30 rfl ?_
      refine sm_getI C (ci := 12) (R := RX12) (T := TX12) (N := 21) (j := 18) (G_M G).2 (G_M G).1 rfl gX12 (by decide) kw_882 dX12_takes_31 (fun _ _ => rfl) (fun v5 => ?_)
      refine r_iast C (G_m96 G) dX12_takes_34 (fun s6 => ?_)
      refine sm_aload_n C 0 dX12_takes_35 rfl ?_
      refine r_callVU C (R := RX12) (T := TX12) (N := 21) [] (G_M G) rfl (fun qq ss hh => ct_X12_goBehind G s6 qq ss hh) kw_1189 kw_1191 kw_41 kw_64 kw_1192 dX12_takes_36 rfl dd_X12_goBehind ⟨rfl, rfl⟩ ⟨by decide, by decide⟩ (Nat.le_of_ble_eq_true rfl) _ rfl (fun q7 s8 => ?_)
      refine sm_iconst C (1 : Int32) dX12_takes_39 ic_1 ?_
      exact sm_zret C dX12_takes_40
    · refine sm_iconst C (0 : Int32) dX12_takes_23 ic_0 ?_
      exact sm_zret C dX12_takes_24
theorem dd_X12_takesPrize : yX12_takesPrize.cls = RX12 ∧ yX12_takesPrize.cls ≠ "java/lang/invoke/MethodHandle" ∧ yX12_takesPrize.cls ≠ "java/lang/invoke/VarHandle" ∧ (parseMethodDescriptor yX12_takesPrize.desc).map (fun d => d.parameters.length) = some 0 := by decide +kernel
set_option maxRecDepth 100000 in
set_option maxHeartbeats 4000000 in
theorem ct_X12_takesPrize {l : Launch} {w : Wco} (G : GW w) (s0 : Sta) (qq : Int32) (ss : Sta) (hh : X12_takesPrize s0 = some (qq, ss)) : Ct l w yX12_takesPrize (Cond.code yX12_takesPrize cX12_takesPrize 1 (some .boolean) :: GT) { frames := 5, cells := 0, slots := 0, locals := 112 } [.ref (wad w 82)] s0 (oI qq) ss := by
  refine ct_of [(0, .ref (wad w 82))] (by decide +kernel) (Nat.le_of_ble_eq_true rfl) rfl hh (fun M _ C => ?_)
  unfold X12_takesPrize
  refine sm_aload_n C 0 dX12_takesPrize_0 rfl ?_
  refine r_callVU C (R := RX12) (T := TX12) (N := 21) [] (G_M G) rfl (fun qq ss hh => ct_X12_goBehind G s0 qq ss hh) kw_1189 kw_1191 kw_41 kw_64 kw_1192 dX12_takesPrize_1 rfl dd_X12_goBehind ⟨rfl, rfl⟩ ⟨by decide, by decide⟩ (Nat.le_of_ble_eq_true rfl) _ rfl (fun q1 s2 => ?_)
  refine sm_aload_n C 0 dX12_takesPrize_4 rfl ?_
  refine sm_iconst C (0 : Int32) dX12_takesPrize_5 ic_0 ?_
  refine sm_iconst C (0 : Int32) dX12_takesPrize_6 ic_0 ?_
  refine sm_bipush C (7 : Int32) dX12_takesPrize_7 bp_7 ?_
  refine r_callVI C (R := RX12) (T := TX12) (N := 21) [.int (0 : Int32), .int (0 : Int32), .int (7 : Int32)] (G_M G) rfl (fun qq ss hh => ct_X12_takes G (0 : Int32) (0 : Int32) (7 : Int32) s2 qq ss hh) kw_1201 kw_1203 kw_44 kw_64 kw_1204 dX12_takesPrize_9 rfl dd_X12_takes ⟨rfl, rfl⟩ ⟨by decide, by decide⟩ (Nat.le_of_ble_eq_true rfl) _ rfl (fun q3 s4 => ?_)
  refine sm_if_eq C 36 dX12_takesPrize_12 (by decide) ?_ ?_
  · refine sm_iconst C (0 : Int32) dX12_takesPrize_36 ic_0 ?_
    exact sm_zret C dX12_takesPrize_37
  · refine sm_aload_n C 0 dX12_takesPrize_15 rfl ?_
    refine sm_iconst C (1 : Int32) dX12_takesPrize_16 ic_1 ?_
    refine sm_iconst C (0 : Int32) dX12_takesPrize_17 ic_0 ?_
    refine sm_iconst C (2 : Int32) dX12_takesPrize_18 ic_2 ?_
    refine r_callVI C (R := RX12) (T := TX12) (N := 21) [.int (1 : Int32), .int (0 : Int32), .int (2 : Int32)] (G_M G) rfl (fun qq ss hh => ct_X12_takes G (1 : Int32) (0 : Int32) (2 : Int32) s4 qq ss hh) kw_1201 kw_1203 kw_44 kw_64 kw_1204 dX12_takesPrize_19 rfl dd_X12_takes ⟨rfl, rfl⟩ ⟨by decide, by decide⟩ (Nat.le_of_ble_eq_true rfl) _ rfl (fun q5 s6 => ?_)
    refine sm_if_eq C 36 dX12_takesPrize_22 (by decide) ?_ ?_
    · refine sm_iconst C (0 : Int32) dX12_takesPrize_36 ic_0 ?_
      exact sm_zret C dX12_takesPrize_37
    · refine sm_aload_n C 0 dX12_takesPrize_25 rfl ?_
      refine sm_iconst C (2 : Int32) dX12_takesPrize_26 ic_2 ?_
      refine sm_iconst C (1 : Int32) dX12_takesPrize_27 ic_1 ?_
      refine sm_bipush C (30 : Int32) dX12_takesPrize_28 bp_30 ?_
      refine r_callVI C (R := RX12) (T := TX12) (N := 21) [.int (2 : Int32), .int (1 : Int32), .int (30 : Int32)] (G_M G) rfl (fun qq ss hh => ct_X12_takes G (2 : Int32) (1 : Int32) (30 : Int32) s6 qq ss hh) kw_1201 kw_1203 kw_44 kw_64 kw_1204 dX12_takesPrize_30 rfl dd_X12_takes ⟨rfl, rfl⟩ ⟨by decide, by decide⟩ (Nat.le_of_ble_eq_true rfl) _ rfl (fun q7 s8 => ?_)
      refine sm_if_ne C 38 dX12_takesPrize_33 (by decide) ?_ ?_
      · refine sm_aload_n C 0 dX12_takesPrize_38 rfl ?_
        refine sm_getR C (ci := 12) (R := RX12) (T := TX12) (N := 21) (j := 19) (G_M G).2 (G_M G).1 rfl gX12 (by decide) kw_883 dX12_takesPrize_39 (fun _ _ => rfl) ?_
        refine sm_bipush C (41 : Int32) dX12_takesPrize_42 bp_41 ?_
        refine sm_aload_n C 0 dX12_takesPrize_44 rfl ?_
        refine sm_getR C (ci := 12) (R := RX12) (T := TX12) (N := 21) (j := 20) (G_M G).2 (G_M G).1 rfl gX12 (by decide) kw_884 dX12_takesPrize_45 (fun _ _ => rfl) ?_
        refine sm_iconst C (0 : Int32) dX12_takesPrize_48 ic_0 ?_
        refine r_iald C (G_m96 G) dX12_takesPrize_49 (fun v9 => ?_)
        refine sm_iadd C dX12_takesPrize_50 ?_
        refine sm_aload_n C 0 dX12_takesPrize_51 rfl ?_
        refine sm_getR C (ci := 12) (R := RX12) (T := TX12) (N := 21) (j := 20) (G_M G).2 (G_M G).1 rfl gX12 (by decide) kw_884 dX12_takesPrize_52 (fun _ _ => rfl) ?_
        refine sm_iconst C (1 : Int32) dX12_takesPrize_55 ic_1 ?_
        refine r_iald C (G_m96 G) dX12_takesPrize_56 (fun v10 => ?_)
        refine r_iast C (G_m95 G) dX12_takesPrize_57 (fun s11 => ?_)
        refine sm_aload_n C 0 dX12_takesPrize_58 rfl ?_
        refine sm_getR C (ci := 12) (R := RX12) (T := TX12) (N := 21) (j := 19) (G_M G).2 (G_M G).1 rfl gX12 (by decide) kw_883 dX12_takesPrize_59 (fun _ _ => rfl) ?_
        refine sm_bipush C (49 : Int32) dX12_takesPrize_62 bp_49 ?_
        refine sm_aload_n C 0 dX12_takesPrize_64 rfl ?_
        refine sm_getR C (ci := 12) (R := RX12) (T := TX12) (N := 21) (j := 20) (G_M G).2 (G_M G).1 rfl gX12 (by decide) kw_884 dX12_takesPrize_65 (fun _ _ => rfl) ?_
        refine sm_iconst C (0 : Int32) dX12_takesPrize_68 ic_0 ?_
        refine r_iald C (G_m96 G) dX12_takesPrize_69 (fun v12 => ?_)
        refine sm_iadd C dX12_takesPrize_70 ?_
        refine sm_aload_n C 0 dX12_takesPrize_71 rfl ?_
        refine sm_getR C (ci := 12) (R := RX12) (T := TX12) (N := 21) (j := 20) (G_M G).2 (G_M G).1 rfl gX12 (by decide) kw_884 dX12_takesPrize_72 (fun _ _ => rfl) ?_
        refine sm_iconst C (2 : Int32) dX12_takesPrize_75 ic_2 ?_
        refine r_iald C (G_m96 G) dX12_takesPrize_76 (fun v13 => ?_)
        refine r_iast C (G_m95 G) dX12_takesPrize_77 (fun s14 => ?_)
        refine sm_iconst C (1 : Int32) dX12_takesPrize_78 ic_1 ?_
        exact sm_zret C dX12_takesPrize_79
      · refine sm_iconst C (0 : Int32) dX12_takesPrize_36 ic_0 ?_
        exact sm_zret C dX12_takesPrize_37
theorem dd_X12_takesOne : yX12_takesOne.cls = RX12 ∧ yX12_takesOne.cls ≠ "java/lang/invoke/MethodHandle" ∧ yX12_takesOne.cls ≠ "java/lang/invoke/VarHandle" ∧ (parseMethodDescriptor yX12_takesOne.desc).map (fun d => d.parameters.length) = some 0 := by decide +kernel
set_option maxRecDepth 100000 in
set_option maxHeartbeats 4000000 in
theorem ct_X12_takesOne {l : Launch} {w : Wco} (G : GW w) (s0 : Sta) (qq : Int32) (ss : Sta) (hh : X12_takesOne s0 = some (qq, ss)) : Ct l w yX12_takesOne (Cond.code yX12_takesOne cX12_takesOne 1 (some .boolean) :: GT) { frames := 5, cells := 0, slots := 0, locals := 112 } [.ref (wad w 82)] s0 (oI qq) ss := by
  refine ct_of [(0, .ref (wad w 82))] (by decide +kernel) (Nat.le_of_ble_eq_true rfl) rfl hh (fun M _ C => ?_)
  unfold X12_takesOne
  refine sm_aload_n C 0 dX12_takesOne_0 rfl ?_
  refine sm_getR C (ci := 12) (R := RX12) (T := TX12) (N := 21) (j := 19) (G_M G).2 (G_M G).1 rfl gX12 (by decide) kw_883 dX12_takesOne_1 (fun _ _ => rfl) ?_
  refine sm_iconst C (0 : Int32) dX12_takesOne_4 ic_0 ?_
  refine r_iald C (G_m95 G) dX12_takesOne_5 (fun v1 => ?_)
  refine sm_bipush C (6 : Int32) dX12_takesOne_6 bp_6 ?_
  refine sm_icmp_ne C 13 dX12_takesOne_8 (by decide) ?_ ?_
  · refine sm_aload_n C 0 dX12_takesOne_13 rfl ?_
    refine r_callVU C (R := RX12) (T := TX12) (N := 21) [] (G_M G) rfl (fun qq ss hh => ct_X12_goBehind G s0 qq ss hh) kw_1189 kw_1191 kw_41 kw_64 kw_1192 dX12_takesOne_14 rfl dd_X12_goBehind ⟨rfl, rfl⟩ ⟨by decide, by decide⟩ (Nat.le_of_ble_eq_true rfl) _ rfl (fun q2 s3 => ?_)
    refine sm_aload_n C 0 dX12_takesOne_17 rfl ?_
    refine sm_iconst C (0 : Int32) dX12_takesOne_18 ic_0 ?_
    refine sm_iconst C (0 : Int32) dX12_takesOne_19 ic_0 ?_
    refine sm_iconst C (5 : Int32) dX12_takesOne_20 ic_5 ?_
    refine r_callVI C (R := RX12) (T := TX12) (N := 21) [.int (0 : Int32), .int (0 : Int32), .int (5 : Int32)] (G_M G) rfl (fun qq ss hh => ct_X12_takes G (0 : Int32) (0 : Int32) (5 : Int32) s3 qq ss hh) kw_1201 kw_1203 kw_44 kw_64 kw_1204 dX12_takesOne_21 rfl dd_X12_takes ⟨rfl, rfl⟩ ⟨by decide, by decide⟩ (Nat.le_of_ble_eq_true rfl) _ rfl (fun q4 s5 => ?_)
    refine sm_if_eq C 60 dX12_takesOne_24 (by decide) ?_ ?_
    · refine sm_iconst C (0 : Int32) dX12_takesOne_60 ic_0 ?_
      exact sm_zret C dX12_takesOne_61
    · refine sm_aload_n C 0 dX12_takesOne_27 rfl ?_
      refine sm_iconst C (1 : Int32) dX12_takesOne_28 ic_1 ?_
      refine sm_iconst C (0 : Int32) dX12_takesOne_29 ic_0 ?_
      refine sm_bipush C (9 : Int32) dX12_takesOne_30 bp_9 ?_
      refine r_callVI C (R := RX12) (T := TX12) (N := 21) [.int (1 : Int32), .int (0 : Int32), .int (9 : Int32)] (G_M G) rfl (fun qq ss hh => ct_X12_takes G (1 : Int32) (0 : Int32) (9 : Int32) s5 qq ss hh) kw_1201 kw_1203 kw_44 kw_64 kw_1204 dX12_takesOne_32 rfl dd_X12_takes ⟨rfl, rfl⟩ ⟨by decide, by decide⟩ (Nat.le_of_ble_eq_true rfl) _ rfl (fun q6 s7 => ?_)
      refine sm_if_eq C 60 dX12_takesOne_35 (by decide) ?_ ?_
      · refine sm_iconst C (0 : Int32) dX12_takesOne_60 ic_0 ?_
        exact sm_zret C dX12_takesOne_61
      · refine sm_aload_n C 0 dX12_takesOne_38 rfl ?_
        refine sm_iconst C (2 : Int32) dX12_takesOne_39 ic_2 ?_
        refine sm_iconst C (0 : Int32) dX12_takesOne_40 ic_0 ?_
        refine sm_bipush C (9 : Int32) dX12_takesOne_41 bp_9 ?_
        refine r_callVI C (R := RX12) (T := TX12) (N := 21) [.int (2 : Int32), .int (0 : Int32), .int (9 : Int32)] (G_M G) rfl (fun qq ss hh => ct_X12_takes G (2 : Int32) (0 : Int32) (9 : Int32) s7 qq ss hh) kw_1201 kw_1203 kw_44 kw_64 kw_1204 dX12_takesOne_43 rfl dd_X12_takes ⟨rfl, rfl⟩ ⟨by decide, by decide⟩ (Nat.le_of_ble_eq_true rfl) _ rfl (fun q8 s9 => ?_)
        refine sm_if_eq C 60 dX12_takesOne_46 (by decide) ?_ ?_
        · refine sm_iconst C (0 : Int32) dX12_takesOne_60 ic_0 ?_
          exact sm_zret C dX12_takesOne_61
        · refine sm_aload_n C 0 dX12_takesOne_49 rfl ?_
          refine sm_iconst C (3 : Int32) dX12_takesOne_50 ic_3 ?_
          refine sm_iconst C (0 : Int32) dX12_takesOne_51 ic_0 ?_
          refine sm_bipush C (9 : Int32) dX12_takesOne_52 bp_9 ?_
          refine r_callVI C (R := RX12) (T := TX12) (N := 21) [.int (3 : Int32), .int (0 : Int32), .int (9 : Int32)] (G_M G) rfl (fun qq ss hh => ct_X12_takes G (3 : Int32) (0 : Int32) (9 : Int32) s9 qq ss hh) kw_1201 kw_1203 kw_44 kw_64 kw_1204 dX12_takesOne_54 rfl dd_X12_takes ⟨rfl, rfl⟩ ⟨by decide, by decide⟩ (Nat.le_of_ble_eq_true rfl) _ rfl (fun q10 s11 => ?_)
          refine sm_if_ne C 62 dX12_takesOne_57 (by decide) ?_ ?_
          · refine sm_aload_n C 0 dX12_takesOne_62 rfl ?_
            refine sm_getR C (ci := 12) (R := RX12) (T := TX12) (N := 21) (j := 19) (G_M G).2 (G_M G).1 rfl gX12 (by decide) kw_883 dX12_takesOne_63 (fun _ _ => rfl) ?_
            refine sm_aload_n C 0 dX12_takesOne_66 rfl ?_
            refine sm_getR C (ci := 12) (R := RX12) (T := TX12) (N := 21) (j := 20) (G_M G).2 (G_M G).1 rfl gX12 (by decide) kw_884 dX12_takesOne_67 (fun _ _ => rfl) ?_
            refine sm_iconst C (0 : Int32) dX12_takesOne_70 ic_0 ?_
            refine r_iald C (G_m96 G) dX12_takesOne_71 (fun v12 => ?_)
            refine sm_aload_n C 0 dX12_takesOne_72 rfl ?_
            refine sm_getR C (ci := 12) (R := RX12) (T := TX12) (N := 21) (j := 20) (G_M G).2 (G_M G).1 rfl gX12 (by decide) kw_884 dX12_takesOne_73 (fun _ _ => rfl) ?_
            refine sm_iconst C (1 : Int32) dX12_takesOne_76 ic_1 ?_
            refine r_iald C (G_m96 G) dX12_takesOne_77 (fun v13 => ?_)
            refine sm_aload_n C 0 dX12_takesOne_78 rfl ?_
            refine sm_getR C (ci := 12) (R := RX12) (T := TX12) (N := 21) (j := 20) (G_M G).2 (G_M G).1 rfl gX12 (by decide) kw_884 dX12_takesOne_79 (fun _ _ => rfl) ?_
            refine sm_iconst C (2 : Int32) dX12_takesOne_82 ic_2 ?_
            refine r_iald C (G_m96 G) dX12_takesOne_83 (fun v14 => ?_)
            refine sm_aload_n C 0 dX12_takesOne_84 rfl ?_
            refine sm_getR C (ci := 12) (R := RX12) (T := TX12) (N := 21) (j := 20) (G_M G).2 (G_M G).1 rfl gX12 (by decide) kw_884 dX12_takesOne_85 (fun _ _ => rfl) ?_
            refine sm_iconst C (3 : Int32) dX12_takesOne_88 ic_3 ?_
            refine r_iald C (G_m96 G) dX12_takesOne_89 (fun v15 => ?_)
            refine r_callSU C [.ref (wad w 95), .int v12, .int v13, .int v14, .int v15] (fun qq ss hh => ct_X12_layOne 105 95 (G_m95 G) v12 v13 v14 v15 s11 qq ss hh) kw_966 kw_967 kw_64 kw_968 dX12_takesOne_90 rfl dd_X12_layOne ⟨rfl, rfl⟩ ⟨by decide, by decide⟩ (Nat.le_of_ble_eq_true rfl) _ rfl (fun q16 s17 => ?_)
            refine sm_iconst C (1 : Int32) dX12_takesOne_93 ic_1 ?_
            exact sm_zret C dX12_takesOne_94
          · refine sm_iconst C (0 : Int32) dX12_takesOne_60 ic_0 ?_
            exact sm_zret C dX12_takesOne_61
  · refine sm_iconst C (0 : Int32) dX12_takesOne_11 ic_0 ?_
    exact sm_zret C dX12_takesOne_12
theorem dd_X12_takesItem : yX12_takesItem.cls = RX12 ∧ yX12_takesItem.cls ≠ "java/lang/invoke/MethodHandle" ∧ yX12_takesItem.cls ≠ "java/lang/invoke/VarHandle" ∧ (parseMethodDescriptor yX12_takesItem.desc).map (fun d => d.parameters.length) = some 0 := by decide +kernel
set_option maxRecDepth 100000 in
set_option maxHeartbeats 4000000 in
theorem ct_X12_takesItem {l : Launch} {w : Wco} (G : GW w) (s0 : Sta) (qq : Int32) (ss : Sta) (hh : X12_takesItem s0 = some (qq, ss)) : Ct l w yX12_takesItem (Cond.code yX12_takesItem cX12_takesItem 1 (some .boolean) :: GT) { frames := 6, cells := 0, slots := 0, locals := 132 } [.ref (wad w 82)] s0 (oI qq) ss := by
  refine ct_of [(0, .ref (wad w 82))] (by decide +kernel) (Nat.le_of_ble_eq_true rfl) rfl hh (fun M _ C => ?_)
  unfold X12_takesItem
  refine sm_aload_n C 0 dX12_takesItem_0 rfl ?_
  refine sm_iconst C (5 : Int32) dX12_takesItem_1 ic_5 ?_
  refine sm_bipush C (112 : Int32) dX12_takesItem_2 bp_112 ?_
  refine sm_bipush C (114 : Int32) dX12_takesItem_4 bp_114 ?_
  refine sm_bipush C (105 : Int32) dX12_takesItem_6 bp_105 ?_
  refine sm_bipush C (122 : Int32) dX12_takesItem_8 bp_122 ?_
  refine sm_bipush C (101 : Int32) dX12_takesItem_10 bp_101 ?_
  refine sm_iconst C (0 : Int32) dX12_takesItem_12 ic_0 ?_
  refine r_callVI C (R := RX12) (T := TX12) (N := 21) [.int (5 : Int32), .int (112 : Int32), .int (114 : Int32), .int (105 : Int32), .int (122 : Int32), .int (101 : Int32), .int (0 : Int32)] (G_M G) rfl (fun qq ss hh => ct_X12_spells G (5 : Int32) (112 : Int32) (114 : Int32) (105 : Int32) (122 : Int32) (101 : Int32) (0 : Int32) s0 qq ss hh) kw_1185 kw_1187 kw_40 kw_64 kw_1188 dX12_takesItem_13 rfl dd_X12_spells ⟨rfl, rfl⟩ ⟨by decide, by decide⟩ (Nat.le_of_ble_eq_true rfl) _ rfl (fun q1 s2 => ?_)
  refine sm_if_eq C 24 dX12_takesItem_16 (by decide) ?_ ?_
  · refine sm_aload_n C 0 dX12_takesItem_24 rfl ?_
    refine sm_iconst C (3 : Int32) dX12_takesItem_25 ic_3 ?_
    refine sm_bipush C (111 : Int32) dX12_takesItem_26 bp_111 ?_
    refine sm_bipush C (110 : Int32) dX12_takesItem_28 bp_110 ?_
    refine sm_bipush C (101 : Int32) dX12_takesItem_30 bp_101 ?_
    refine sm_iconst C (0 : Int32) dX12_takesItem_32 ic_0 ?_
    refine sm_iconst C (0 : Int32) dX12_takesItem_33 ic_0 ?_
    refine sm_iconst C (0 : Int32) dX12_takesItem_34 ic_0 ?_
    refine r_callVI C (R := RX12) (T := TX12) (N := 21) [.int (3 : Int32), .int (111 : Int32), .int (110 : Int32), .int (101 : Int32), .int (0 : Int32), .int (0 : Int32), .int (0 : Int32)] (G_M G) rfl (fun qq ss hh => ct_X12_spells G (3 : Int32) (111 : Int32) (110 : Int32) (101 : Int32) (0 : Int32) (0 : Int32) (0 : Int32) s2 qq ss hh) kw_1185 kw_1187 kw_40 kw_64 kw_1188 dX12_takesItem_35 rfl dd_X12_spells ⟨rfl, rfl⟩ ⟨by decide, by decide⟩ (Nat.le_of_ble_eq_true rfl) _ rfl (fun q3 s4 => ?_)
    refine sm_if_eq C 52 dX12_takesItem_38 (by decide) ?_ ?_
    · refine sm_iconst C (0 : Int32) dX12_takesItem_52 ic_0 ?_
      exact sm_zret C dX12_takesItem_53
    · refine sm_aload_n C 0 dX12_takesItem_41 rfl ?_
      refine r_callVI C (R := RX12) (T := TX12) (N := 21) [] (G_M G) rfl (fun qq ss hh => ct_X12_takesOne G s4 qq ss hh) kw_1205 kw_1207 kw_45 kw_64 kw_1208 dX12_takesItem_42 rfl dd_X12_takesOne ⟨rfl, rfl⟩ ⟨by decide, by decide⟩ (Nat.le_of_ble_eq_true rfl) _ rfl (fun q5 s6 => ?_)
      refine sm_if_eq C 52 dX12_takesItem_45 (by decide) ?_ ?_
      · refine sm_iconst C (0 : Int32) dX12_takesItem_52 ic_0 ?_
        exact sm_zret C dX12_takesItem_53
      · refine sm_iconst C (1 : Int32) dX12_takesItem_48 ic_1 ?_
        refine sm_goto C 53 dX12_takesItem_49 (by decide) ?_
        exact sm_zret C dX12_takesItem_53
  · refine sm_aload_n C 0 dX12_takesItem_19 rfl ?_
    refine r_callVI C (R := RX12) (T := TX12) (N := 21) [] (G_M G) rfl (fun qq ss hh => ct_X12_takesPrize G s2 qq ss hh) kw_1197 kw_1199 kw_43 kw_64 kw_1200 dX12_takesItem_20 rfl dd_X12_takesPrize ⟨rfl, rfl⟩ ⟨by decide, by decide⟩ (Nat.le_of_ble_eq_true rfl) _ rfl (fun q7 s8 => ?_)
    exact sm_zret C dX12_takesItem_23
theorem dd_X12_read : yX12_read.cls = RX12 ∧ yX12_read.cls ≠ "java/lang/invoke/MethodHandle" ∧ yX12_read.cls ≠ "java/lang/invoke/VarHandle" ∧ (parseMethodDescriptor yX12_read.desc).map (fun d => d.parameters.length) = some 0 := by decide +kernel
set_option maxRecDepth 100000 in
set_option maxHeartbeats 4000000 in
theorem sl_X12_read_L109 {M : Mco} {w : Wco} (C : Cx M w cX12_read 3 yX12_read.cls (Cond.code yX12_read cX12_read 3 (some .int)) (some .int) { frames := 7, cells := 0, slots := 0, locals := 152 }) (G : GW w) : ∀ (n : Nat) (y1 : Int32) (y2 : Int32) (s0 : Sta), Sm M w 3 oI 109 [(0, .ref (wad w 82)), (1, .int y1), (2, .int y2)] [] s0 (X12_read_L109 n y1 y2 s0) := by
  intro n
  induction n with
  | zero => intros; exact sm_none
  | succ n ih =>
    intro y1 y2 s0
    rw [X12_read_L109.eq_2]
    refine sm_iload_n C 2 dX12_read_109 rfl ?_
    refine sm_bipush C (105 : Int32) dX12_read_110 bp_105 ?_
    refine sm_icmp_ge C 133 dX12_read_112 (by decide) ?_ ?_
    · refine sm_iload_n C 1 dX12_read_133 rfl ?_
      exact sm_iret C dX12_read_134
    · refine sm_aload_n C 0 dX12_read_115 rfl ?_
      refine sm_getR C (ci := 12) (R := RX12) (T := TX12) (N := 21) (j := 0) (G_M G).2 (G_M G).1 rfl gX12 (by decide) kw_864 dX12_read_116 (fun _ _ => rfl) ?_
      refine sm_iload_n C 2 dX12_read_119 rfl ?_
      refine sm_aload_n C 0 dX12_read_120 rfl ?_
      refine sm_getR C (ci := 12) (R := RX12) (T := TX12) (N := 21) (j := 19) (G_M G).2 (G_M G).1 rfl gX12 (by decide) kw_883 dX12_read_121 (fun _ _ => rfl) ?_
      refine sm_iload_n C 2 dX12_read_124 rfl ?_
      refine r_iald C (G_m95 G) dX12_read_125 (fun v22 => ?_)
      refine r_iast C (G_m83 G) dX12_read_126 (fun s23 => ?_)
      refine sm_iinc C 2 (y2 + (1 : Int32)) [(2, .int (y2 + (1 : Int32))), (0, .ref (wad w 82)), (1, .int y1)] dX12_read_127 rfl (ii_1 _) (by decide) rfl ?_
      refine sm_goto C 109 dX12_read_130 (by decide) ?_
      exact sm_sub [1, 2, 0] rfl (ih y1 (y2 + (1 : Int32)) s23)
set_option maxRecDepth 100000 in
set_option maxHeartbeats 4000000 in
theorem sl_X12_read_L67 {M : Mco} {w : Wco} (C : Cx M w cX12_read 3 yX12_read.cls (Cond.code yX12_read cX12_read 3 (some .int)) (some .int) { frames := 7, cells := 0, slots := 0, locals := 152 }) (G : GW w) : ∀ (n : Nat) (y1 : Int32) (s0 : Sta), Sm M w 3 oI 67 [(0, .ref (wad w 82)), (1, .int y1)] [] s0 (X12_read_L67 n y1 s0) := by
  intro n
  induction n with
  | zero => intros; exact sm_none
  | succ n ih =>
    intro y1 s0
    rw [X12_read_L67.eq_2]
    refine sm_aload_n C 0 dX12_read_67 rfl ?_
    refine sm_getI C (ci := 12) (R := RX12) (T := TX12) (N := 21) (j := 17) (G_M G).2 (G_M G).1 rfl gX12 (by decide) kw_881 dX12_read_68 (fun _ _ => rfl) (fun v14 => ?_)
    refine sm_if_eq C 107 dX12_read_71 (by decide) ?_ ?_
    · refine sm_iconst C (0 : Int32) dX12_read_107 ic_0 ?_
      refine sm_istore_n C [(2, .int (0 : Int32)), (0, .ref (wad w 82)), (1, .int y1)] dX12_read_108 (by decide) rfl ?_
      exact sm_sub [1, 2, 0] rfl (sl_X12_read_L109 C G FU y1 (0 : Int32) s0)
    · refine sm_aload_n C 0 dX12_read_74 rfl ?_
      refine r_callVI C (R := RX12) (T := TX12) (N := 21) [] (G_M G) rfl (fun qq ss hh => ct_X12_takesItem G s0 qq ss hh) kw_1193 kw_1195 kw_42 kw_64 kw_1196 dX12_read_75 rfl dd_X12_takesItem ⟨rfl, rfl⟩ ⟨by decide, by decide⟩ (Nat.le_of_ble_eq_true rfl) _ rfl (fun q15 s16 => ?_)
      refine sm_if_eq C 89 dX12_read_78 (by decide) ?_ ?_
      · refine sm_bipush C (-10 : Int32) dX12_read_89 bp_m10 ?_
        refine sm_aload_n C 0 dX12_read_91 rfl ?_
        refine sm_getI C (ci := 12) (R := RX12) (T := TX12) (N := 21) (j := 15) (G_M G).2 (G_M G).1 rfl gX12 (by decide) kw_879 dX12_read_92 (fun _ _ => rfl) (fun v17 => ?_)
        refine sm_isub C dX12_read_95 ?_
        exact sm_iret C dX12_read_96
      · refine sm_aload_n C 0 dX12_read_81 rfl ?_
        refine sm_getI C (ci := 12) (R := RX12) (T := TX12) (N := 21) (j := 17) (G_M G).2 (G_M G).1 rfl gX12 (by decide) kw_881 dX12_read_82 (fun _ _ => rfl) (fun v18 => ?_)
        refine sm_iconst C (3 : Int32) dX12_read_85 ic_3 ?_
        refine sm_icmp_eq C 97 dX12_read_86 (by decide) ?_ ?_
        · refine sm_aload_n C 0 dX12_read_97 rfl ?_
          refine r_callVU C (R := RX12) (T := TX12) (N := 21) [] (G_M G) rfl (fun qq ss hh => ct_X12_goBehind G s16 qq ss hh) kw_1189 kw_1191 kw_41 kw_64 kw_1192 dX12_read_98 rfl dd_X12_goBehind ⟨rfl, rfl⟩ ⟨by decide, by decide⟩ (Nat.le_of_ble_eq_true rfl) _ rfl (fun q19 s20 => ?_)
          refine sm_iinc C 1 (y1 + (1 : Int32)) [(1, .int (y1 + (1 : Int32))), (0, .ref (wad w 82))] dX12_read_101 rfl (ii_1 _) (by decide) rfl ?_
          refine sm_goto C 67 dX12_read_104 (by decide) ?_
          exact sm_sub [1, 0] rfl (ih (y1 + (1 : Int32)) s20)
        · refine sm_bipush C (-10 : Int32) dX12_read_89 bp_m10 ?_
          refine sm_aload_n C 0 dX12_read_91 rfl ?_
          refine sm_getI C (ci := 12) (R := RX12) (T := TX12) (N := 21) (j := 15) (G_M G).2 (G_M G).1 rfl gX12 (by decide) kw_879 dX12_read_92 (fun _ _ => rfl) (fun v21 => ?_)
          refine sm_isub C dX12_read_95 ?_
          exact sm_iret C dX12_read_96
set_option maxRecDepth 100000 in
set_option maxHeartbeats 4000000 in
theorem ct_X12_read {l : Launch} {w : Wco} (G : GW w) (s0 : Sta) (qq : Int32) (ss : Sta) (hh : X12_read s0 = some (qq, ss)) : Ct l w yX12_read (Cond.code yX12_read cX12_read 3 (some .int) :: GT) { frames := 7, cells := 0, slots := 0, locals := 152 } [.ref (wad w 82)] s0 (oI qq) ss := by
  refine ct_of [(0, .ref (wad w 82))] (by decide +kernel) (Nat.le_of_ble_eq_true rfl) rfl hh (fun M _ C => ?_)
  unfold X12_read
  refine sm_aload_n C 0 dX12_read_0 rfl ?_
  refine sm_iconst C (0 : Int32) dX12_read_1 ic_0 ?_
  refine r_callVU C (R := RX12) (T := TX12) (N := 21) [.int (0 : Int32)] (G_M G) rfl (fun qq ss hh => ct_X12_lookAt G (0 : Int32) s0 qq ss hh) kw_1171 kw_1173 kw_39 kw_64 kw_1174 dX12_read_2 rfl dd_X12_lookAt ⟨rfl, rfl⟩ ⟨by decide, by decide⟩ (Nat.le_of_ble_eq_true rfl) _ rfl (fun q1 s2 => ?_)
  refine sm_aload_n C 0 dX12_read_5 rfl ?_
  refine sm_bipush C (6 : Int32) dX12_read_6 bp_6 ?_
  refine sm_bipush C (118 : Int32) dX12_read_8 bp_118 ?_
  refine sm_bipush C (97 : Int32) dX12_read_10 bp_97 ?_
  refine sm_bipush C (108 : Int32) dX12_read_12 bp_108 ?_
  refine sm_bipush C (108 : Int32) dX12_read_14 bp_108 ?_
  refine sm_bipush C (101 : Int32) dX12_read_16 bp_101 ?_
  refine sm_bipush C (121 : Int32) dX12_read_18 bp_121 ?_
  refine r_callVI C (R := RX12) (T := TX12) (N := 21) [.int (6 : Int32), .int (118 : Int32), .int (97 : Int32), .int (108 : Int32), .int (108 : Int32), .int (101 : Int32), .int (121 : Int32)] (G_M G) rfl (fun qq ss hh => ct_X12_spells G (6 : Int32) (118 : Int32) (97 : Int32) (108 : Int32) (108 : Int32) (101 : Int32) (121 : Int32) s2 qq ss hh) kw_1185 kw_1187 kw_40 kw_64 kw_1188 dX12_read_20 rfl dd_X12_spells ⟨rfl, rfl⟩ ⟨by decide, by decide⟩ (Nat.le_of_ble_eq_true rfl) _ rfl (fun q3 s4 => ?_)
  refine sm_if_ne C 34 dX12_read_23 (by decide) ?_ ?_
  · refine sm_aload_n C 0 dX12_read_34 rfl ?_
    refine r_callVU C (R := RX12) (T := TX12) (N := 21) [] (G_M G) rfl (fun qq ss hh => ct_X12_goBehind G s4 qq ss hh) kw_1189 kw_1191 kw_41 kw_64 kw_1192 dX12_read_35 rfl dd_X12_goBehind ⟨rfl, rfl⟩ ⟨by decide, by decide⟩ (Nat.le_of_ble_eq_true rfl) _ rfl (fun q5 s6 => ?_)
    refine sm_aload_n C 0 dX12_read_38 rfl ?_
    refine sm_getI C (ci := 12) (R := RX12) (T := TX12) (N := 21) (j := 17) (G_M G).2 (G_M G).1 rfl gX12 (by decide) kw_881 dX12_read_39 (fun _ _ => rfl) (fun v7 => ?_)
    refine sm_iconst C (3 : Int32) dX12_read_42 ic_3 ?_
    refine sm_icmp_eq C 54 dX12_read_43 (by decide) ?_ ?_
    · refine sm_aload_n C 0 dX12_read_54 rfl ?_
      refine r_callVU C (R := RX12) (T := TX12) (N := 21) [] (G_M G) rfl (fun qq ss hh => ct_X12_goBehind G s6 qq ss hh) kw_1189 kw_1191 kw_41 kw_64 kw_1192 dX12_read_55 rfl dd_X12_goBehind ⟨rfl, rfl⟩ ⟨by decide, by decide⟩ (Nat.le_of_ble_eq_true rfl) _ rfl (fun q8 s9 => ?_)
      refine sm_aload_n C 0 dX12_read_58 rfl ?_
      refine sm_getR C (ci := 12) (R := RX12) (T := TX12) (N := 21) (j := 19) (G_M G).2 (G_M G).1 rfl gX12 (by decide) kw_883 dX12_read_59 (fun _ _ => rfl) ?_
      refine r_callSU C [.ref (wad w 95)] (fun qq ss hh => ct_X12_begin 105 95 (G_m95 G) s9 qq ss hh) kw_861 kw_862 kw_64 kw_863 dX12_read_62 rfl dd_X12_begin ⟨rfl, rfl⟩ ⟨by decide, by decide⟩ (Nat.le_of_ble_eq_true rfl) _ rfl (fun q10 s11 => ?_)
      refine sm_iconst C (1 : Int32) dX12_read_65 ic_1 ?_
      refine sm_istore_n C [(1, .int (1 : Int32)), (0, .ref (wad w 82))] dX12_read_66 (by decide) rfl ?_
      exact sm_sub [1, 0] rfl (sl_X12_read_L67 C G FU (1 : Int32) s11)
    · refine sm_bipush C (-10 : Int32) dX12_read_46 bp_m10 ?_
      refine sm_aload_n C 0 dX12_read_48 rfl ?_
      refine sm_getI C (ci := 12) (R := RX12) (T := TX12) (N := 21) (j := 15) (G_M G).2 (G_M G).1 rfl gX12 (by decide) kw_879 dX12_read_49 (fun _ _ => rfl) (fun v12 => ?_)
      refine sm_isub C dX12_read_52 ?_
      exact sm_iret C dX12_read_53
  · refine sm_bipush C (-10 : Int32) dX12_read_26 bp_m10 ?_
    refine sm_aload_n C 0 dX12_read_28 rfl ?_
    refine sm_getI C (ci := 12) (R := RX12) (T := TX12) (N := 21) (j := 15) (G_M G).2 (G_M G).1 rfl gX12 (by decide) kw_879 dX12_read_29 (fun _ _ => rfl) (fun v13 => ?_)
    refine sm_isub C dX12_read_32 ?_
    exact sm_iret C dX12_read_33
theorem dd_X12_part : yX12_part.cls = RX12 ∧ yX12_part.cls ≠ "java/lang/invoke/MethodHandle" ∧ yX12_part.cls ≠ "java/lang/invoke/VarHandle" ∧ (parseMethodDescriptor yX12_part.desc).map (fun d => d.parameters.length) = some 1 := by decide +kernel
set_option maxRecDepth 100000 in
set_option maxHeartbeats 4000000 in
theorem ct_X12_part {l : Launch} {w : Wco} (G : GW w) (x1 : Int32) (s0 : Sta) (qq : Int64) (ss : Sta) (hh : X12_part x1 s0 = some (qq, ss)) : Ct l w yX12_part (Cond.code yX12_part cX12_part 2 (some .long) :: GT) { frames := 1, cells := 0, slots := 0, locals := 21 } [.ref (wad w 82), .int x1] s0 (oL qq) ss := by
  refine ct_of [(0, .ref (wad w 82)), (1, .int x1)] (by decide +kernel) (Nat.le_of_ble_eq_true rfl) rfl hh (fun M _ C => ?_)
  unfold X12_part
  refine sm_iload_n C 1 dX12_part_0 rfl ?_
  refine sm_if_ne C 11 dX12_part_1 (by decide) ?_ ?_
  · refine sm_iload_n C 1 dX12_part_11 rfl ?_
    refine sm_iconst C (1 : Int32) dX12_part_12 ic_1 ?_
    refine sm_icmp_ne C 23 dX12_part_13 (by decide) ?_ ?_
    · refine sm_aload_n C 0 dX12_part_23 rfl ?_
      refine sm_bipush C (-2 : Int32) dX12_part_24 bp_m2 ?_
      refine r_callVI C (R := RX12) (T := TX12) (N := 21) [.int (-2 : Int32)] (G_M G) rfl (fun qq ss hh => ct_X12_bad G (-2 : Int32) s0 qq ss hh) kw_952 kw_954 kw_18 kw_64 kw_955 dX12_part_26 rfl dd_X12_bad ⟨rfl, rfl⟩ ⟨by decide, by decide⟩ (Nat.le_of_ble_eq_true rfl) _ rfl (fun q1 s2 => ?_)
      refine sm_i2l C dX12_part_29 ?_
      exact sm_lret C dX12_part_30
    · refine sm_aload_n C 0 dX12_part_16 rfl ?_
      refine sm_getL C (ci := 12) (R := RX12) (T := TX12) (N := 21) (j := 5) (G_M G).2 (G_M G).1 rfl gX12 (by decide) kw_869 dX12_part_17 (fun _ _ => rfl) (fun v3 => ?_)
      refine sm_goto C 30 dX12_part_20 (by decide) ?_
      exact sm_lret C dX12_part_30
  · refine sm_aload_n C 0 dX12_part_4 rfl ?_
    refine sm_getL C (ci := 12) (R := RX12) (T := TX12) (N := 21) (j := 4) (G_M G).2 (G_M G).1 rfl gX12 (by decide) kw_868 dX12_part_5 (fun _ _ => rfl) (fun v4 => ?_)
    refine sm_goto C 30 dX12_part_8 (by decide) ?_
    exact sm_lret C dX12_part_30
theorem dd_X12_image : yX12_image.cls = RX12 ∧ yX12_image.cls ≠ "java/lang/invoke/MethodHandle" ∧ yX12_image.cls ≠ "java/lang/invoke/VarHandle" ∧ (parseMethodDescriptor yX12_image.desc).map (fun d => d.parameters.length) = some 1 := by decide +kernel
set_option maxRecDepth 100000 in
set_option maxHeartbeats 4000000 in
theorem sl_X12_image_L19 {M : Mco} {w : Wco} (C : Cx M w cX12_image 3 yX12_image.cls (Cond.code yX12_image cX12_image 3 (some .int)) (some .int) { frames := 1, cells := 0, slots := 0, locals := 25 }) (G : GW w) : ∀ (n : Nat) (y1 : Int32) (y2 : Int32) (s0 : Sta), Sm M w 3 oI 19 [(0, .ref (wad w 82)), (1, .int y1), (2, .int y2)] [] s0 (X12_image_L19 n y1 y2 s0) := by
  intro n
  induction n with
  | zero => intros; exact sm_none
  | succ n ih =>
    intro y1 y2 s0
    rw [X12_image_L19.eq_2]
    refine sm_iload_n C 2 dX12_image_19 rfl ?_
    refine sm_sipush C (209 : Int32) dX12_image_20 sp_209 ?_
    refine sm_icmp_ge C 50 dX12_image_23 (by decide) ?_ ?_
    · refine sm_aload_n C 0 dX12_image_50 rfl ?_
      refine sm_getR C (ci := 12) (R := RX12) (T := TX12) (N := 21) (j := 2) (G_M G).2 (G_M G).1 rfl gX12 (by decide) kw_866 dX12_image_51 (fun _ _ => rfl) ?_
      refine sm_iload_n C 1 dX12_image_54 rfl ?_
      refine sm_iconst C (1 : Int32) dX12_image_55 ic_1 ?_
      refine r_zast C (G_m85 G) dX12_image_56 (fun s5 => ?_)
      refine sm_iconst C (1 : Int32) dX12_image_57 ic_1 ?_
      exact sm_iret C dX12_image_58
    · refine sm_aload_n C 0 dX12_image_26 rfl ?_
      refine sm_getR C (ci := 12) (R := RX12) (T := TX12) (N := 21) (j := 1) (G_M G).2 (G_M G).1 rfl gX12 (by decide) kw_865 dX12_image_27 (fun _ _ => rfl) ?_
      refine sm_sipush C (209 : Int32) dX12_image_30 sp_209 ?_
      refine sm_iload_n C 1 dX12_image_33 rfl ?_
      refine sm_imul C dX12_image_34 ?_
      refine sm_iload_n C 2 dX12_image_35 rfl ?_
      refine sm_iadd C dX12_image_36 ?_
      refine sm_aload_n C 0 dX12_image_37 rfl ?_
      refine sm_getR C (ci := 12) (R := RX12) (T := TX12) (N := 21) (j := 0) (G_M G).2 (G_M G).1 rfl gX12 (by decide) kw_864 dX12_image_38 (fun _ _ => rfl) ?_
      refine sm_iload_n C 2 dX12_image_41 rfl ?_
      refine r_iald C (G_m83 G) dX12_image_42 (fun v6 => ?_)
      refine r_iast C (G_m84 G) dX12_image_43 (fun s7 => ?_)
      refine sm_iinc C 2 (y2 + (1 : Int32)) [(2, .int (y2 + (1 : Int32))), (0, .ref (wad w 82)), (1, .int y1)] dX12_image_44 rfl (ii_1 _) (by decide) rfl ?_
      refine sm_goto C 19 dX12_image_47 (by decide) ?_
      exact sm_sub [1, 2, 0] rfl (ih y1 (y2 + (1 : Int32)) s7)
set_option maxRecDepth 100000 in
set_option maxHeartbeats 4000000 in
theorem ct_X12_image {l : Launch} {w : Wco} (G : GW w) (x1 : Int32) (s0 : Sta) (qq : Int32) (ss : Sta) (hh : X12_image x1 s0 = some (qq, ss)) : Ct l w yX12_image (Cond.code yX12_image cX12_image 3 (some .int) :: GT) { frames := 1, cells := 0, slots := 0, locals := 25 } [.ref (wad w 82), .int x1] s0 (oI qq) ss := by
  refine ct_of [(0, .ref (wad w 82)), (1, .int x1)] (by decide +kernel) (Nat.le_of_ble_eq_true rfl) rfl hh (fun M _ C => ?_)
  unfold X12_image
  refine sm_iload_n C 1 dX12_image_0 rfl ?_
  refine sm_i2l C dX12_image_1 ?_
  refine sm_lconst C (0 : Int64) dX12_image_2 lc_0 ?_
  refine sm_lconst C (1 : Int64) dX12_image_3 lc_1 ?_
  refine r_callSI C [.long x1.toInt64, .long (0 : Int64), .long (1 : Int64)] (fun qq ss hh => ct_X12_in x1.toInt64 (0 : Int64) (1 : Int64) s0 qq ss hh) kw_944 kw_945 kw_64 kw_946 dX12_image_4 rfl dd_X12_in ⟨rfl, rfl⟩ ⟨by decide, by decide⟩ (Nat.le_of_ble_eq_true rfl) _ rfl (fun q1 s2 => ?_)
  refine sm_if_ne C 17 dX12_image_7 (by decide) ?_ ?_
  · refine sm_iconst C (0 : Int32) dX12_image_17 ic_0 ?_
    refine sm_istore_n C [(2, .int (0 : Int32)), (0, .ref (wad w 82)), (1, .int x1)] dX12_image_18 (by decide) rfl ?_
    exact sm_sub [1, 2, 0] rfl (sl_X12_image_L19 C G FU x1 (0 : Int32) s2)
  · refine sm_aload_n C 0 dX12_image_10 rfl ?_
    refine sm_bipush C (-2 : Int32) dX12_image_11 bp_m2 ?_
    refine r_callVI C (R := RX12) (T := TX12) (N := 21) [.int (-2 : Int32)] (G_M G) rfl (fun qq ss hh => ct_X12_bad G (-2 : Int32) s2 qq ss hh) kw_952 kw_954 kw_18 kw_64 kw_955 dX12_image_13 rfl dd_X12_bad ⟨rfl, rfl⟩ ⟨by decide, by decide⟩ (Nat.le_of_ble_eq_true rfl) _ rfl (fun q3 s4 => ?_)
    exact sm_iret C dX12_image_16
theorem dd_X12_from : yX12_from.cls = RX12 ∧ yX12_from.cls ≠ "java/lang/invoke/MethodHandle" ∧ yX12_from.cls ≠ "java/lang/invoke/VarHandle" ∧ (parseMethodDescriptor yX12_from.desc).map (fun d => d.parameters.length) = some 1 := by decide +kernel
set_option maxRecDepth 100000 in
set_option maxHeartbeats 4000000 in
theorem sl_X12_from_L33 {M : Mco} {w : Wco} (C : Cx M w cX12_from 3 yX12_from.cls (Cond.code yX12_from cX12_from 3 (some .int)) (some .int) { frames := 1, cells := 0, slots := 0, locals := 25 }) (G : GW w) : ∀ (n : Nat) (y1 : Int32) (y2 : Int32) (s0 : Sta), Sm M w 3 oI 33 [(0, .ref (wad w 82)), (1, .int y1), (2, .int y2)] [] s0 (X12_from_L33 n y1 y2 s0) := by
  intro n
  induction n with
  | zero => intros; exact sm_none
  | succ n ih =>
    intro y1 y2 s0
    rw [X12_from_L33.eq_2]
    refine sm_iload_n C 2 dX12_from_33 rfl ?_
    refine sm_sipush C (209 : Int32) dX12_from_34 sp_209 ?_
    refine sm_icmp_ge C 64 dX12_from_37 (by decide) ?_ ?_
    · refine sm_iconst C (1 : Int32) dX12_from_64 ic_1 ?_
      exact sm_iret C dX12_from_65
    · refine sm_aload_n C 0 dX12_from_40 rfl ?_
      refine sm_getR C (ci := 12) (R := RX12) (T := TX12) (N := 21) (j := 0) (G_M G).2 (G_M G).1 rfl gX12 (by decide) kw_864 dX12_from_41 (fun _ _ => rfl) ?_
      refine sm_iload_n C 2 dX12_from_44 rfl ?_
      refine sm_aload_n C 0 dX12_from_45 rfl ?_
      refine sm_getR C (ci := 12) (R := RX12) (T := TX12) (N := 21) (j := 1) (G_M G).2 (G_M G).1 rfl gX12 (by decide) kw_865 dX12_from_46 (fun _ _ => rfl) ?_
      refine sm_sipush C (209 : Int32) dX12_from_49 sp_209 ?_
      refine sm_iload_n C 1 dX12_from_52 rfl ?_
      refine sm_imul C dX12_from_53 ?_
      refine sm_iload_n C 2 dX12_from_54 rfl ?_
      refine sm_iadd C dX12_from_55 ?_
      refine r_iald C (G_m84 G) dX12_from_56 (fun v8 => ?_)
      refine r_iast C (G_m83 G) dX12_from_57 (fun s9 => ?_)
      refine sm_iinc C 2 (y2 + (1 : Int32)) [(2, .int (y2 + (1 : Int32))), (0, .ref (wad w 82)), (1, .int y1)] dX12_from_58 rfl (ii_1 _) (by decide) rfl ?_
      refine sm_goto C 33 dX12_from_61 (by decide) ?_
      exact sm_sub [1, 2, 0] rfl (ih y1 (y2 + (1 : Int32)) s9)
set_option maxRecDepth 100000 in
set_option maxHeartbeats 4000000 in
theorem ct_X12_from {l : Launch} {w : Wco} (G : GW w) (x1 : Int32) (s0 : Sta) (qq : Int32) (ss : Sta) (hh : X12_from x1 s0 = some (qq, ss)) : Ct l w yX12_from (Cond.code yX12_from cX12_from 3 (some .int) :: GT) { frames := 1, cells := 0, slots := 0, locals := 25 } [.ref (wad w 82), .int x1] s0 (oI qq) ss := by
  refine ct_of [(0, .ref (wad w 82)), (1, .int x1)] (by decide +kernel) (Nat.le_of_ble_eq_true rfl) rfl hh (fun M _ C => ?_)
  unfold X12_from
  refine sm_iload_n C 1 dX12_from_0 rfl ?_
  refine sm_i2l C dX12_from_1 ?_
  refine sm_lconst C (0 : Int64) dX12_from_2 lc_0 ?_
  refine sm_lconst C (1 : Int64) dX12_from_3 lc_1 ?_
  refine r_callSI C [.long x1.toInt64, .long (0 : Int64), .long (1 : Int64)] (fun qq ss hh => ct_X12_in x1.toInt64 (0 : Int64) (1 : Int64) s0 qq ss hh) kw_944 kw_945 kw_64 kw_946 dX12_from_4 rfl dd_X12_in ⟨rfl, rfl⟩ ⟨by decide, by decide⟩ (Nat.le_of_ble_eq_true rfl) _ rfl (fun q1 s2 => ?_)
  refine sm_if_ne C 17 dX12_from_7 (by decide) ?_ ?_
  · refine sm_aload_n C 0 dX12_from_17 rfl ?_
    refine sm_getR C (ci := 12) (R := RX12) (T := TX12) (N := 21) (j := 2) (G_M G).2 (G_M G).1 rfl gX12 (by decide) kw_866 dX12_from_18 (fun _ _ => rfl) ?_
    refine sm_iload_n C 1 dX12_from_21 rfl ?_
    refine r_zald C (G_m85 G) dX12_from_22 (fun v3 => ?_)
    refine sm_if_ne C 31 dX12_from_23 (by decide) ?_ ?_
    · refine sm_iconst C (0 : Int32) dX12_from_31 ic_0 ?_
      refine sm_istore_n C [(2, .int (0 : Int32)), (0, .ref (wad w 82)), (1, .int x1)] dX12_from_32 (by decide) rfl ?_
      exact sm_sub [1, 2, 0] rfl (sl_X12_from_L33 C G FU x1 (0 : Int32) s2)
    · refine sm_aload_n C 0 dX12_from_26 rfl ?_
      refine r_callVI C (R := RX12) (T := TX12) (N := 21) [] (G_M G) rfl (fun qq ss hh => ct_X12_no G s2 qq ss hh) kw_973 kw_975 kw_20 kw_64 kw_976 dX12_from_27 rfl dd_X12_no ⟨rfl, rfl⟩ ⟨by decide, by decide⟩ (Nat.le_of_ble_eq_true rfl) _ rfl (fun q4 s5 => ?_)
      exact sm_iret C dX12_from_30
  · refine sm_aload_n C 0 dX12_from_10 rfl ?_
    refine sm_bipush C (-2 : Int32) dX12_from_11 bp_m2 ?_
    refine r_callVI C (R := RX12) (T := TX12) (N := 21) [.int (-2 : Int32)] (G_M G) rfl (fun qq ss hh => ct_X12_bad G (-2 : Int32) s2 qq ss hh) kw_952 kw_954 kw_18 kw_64 kw_955 dX12_from_13 rfl dd_X12_bad ⟨rfl, rfl⟩ ⟨by decide, by decide⟩ (Nat.le_of_ble_eq_true rfl) _ rfl (fun q6 s7 => ?_)
    exact sm_iret C dX12_from_16
theorem dd_X12_status : yX12_status.cls = RX12 ∧ yX12_status.cls ≠ "java/lang/invoke/MethodHandle" ∧ yX12_status.cls ≠ "java/lang/invoke/VarHandle" ∧ (parseMethodDescriptor yX12_status.desc).map (fun d => d.parameters.length) = some 1 := by decide +kernel
set_option maxRecDepth 100000 in
set_option maxHeartbeats 4000000 in
theorem ct_X12_status {l : Launch} {w : Wco} (G : GW w) (x1 : Int32) (s0 : Sta) (qq : Int32) (ss : Sta) (hh : X12_status x1 s0 = some (qq, ss)) : Ct l w yX12_status (Cond.code yX12_status cX12_status 2 (some .int) :: GT) { frames := 1, cells := 0, slots := 0, locals := 25 } [.ref (wad w 82), .int x1] s0 (oI qq) ss := by
  refine ct_of [(0, .ref (wad w 82)), (1, .int x1)] (by decide +kernel) (Nat.le_of_ble_eq_true rfl) rfl hh (fun M _ C => ?_)
  unfold X12_status
  refine sm_iload_n C 1 dX12_status_0 rfl ?_
  refine sm_i2l C dX12_status_1 ?_
  refine sm_lconst C (0 : Int64) dX12_status_2 lc_0 ?_
  refine sm_ldc2 C kw_950 dX12_status_3 ?_
  refine r_callSI C [.long x1.toInt64, .long (0 : Int64), .long (2 : Int64)] (fun qq ss hh => ct_X12_in x1.toInt64 (0 : Int64) (2 : Int64) s0 qq ss hh) kw_944 kw_945 kw_64 kw_946 dX12_status_6 rfl dd_X12_in ⟨rfl, rfl⟩ ⟨by decide, by decide⟩ (Nat.le_of_ble_eq_true rfl) _ rfl (fun q1 s2 => ?_)
  refine sm_if_eq C 21 dX12_status_9 (by decide) ?_ ?_
  · refine sm_aload_n C 0 dX12_status_21 rfl ?_
    refine sm_iconst C (-1 : Int32) dX12_status_22 ic_m1 ?_
    refine r_callVI C (R := RX12) (T := TX12) (N := 21) [.int (-1 : Int32)] (G_M G) rfl (fun qq ss hh => ct_X12_bad G (-1 : Int32) s2 qq ss hh) kw_952 kw_954 kw_18 kw_64 kw_955 dX12_status_23 rfl dd_X12_bad ⟨rfl, rfl⟩ ⟨by decide, by decide⟩ (Nat.le_of_ble_eq_true rfl) _ rfl (fun q3 s4 => ?_)
    exact sm_iret C dX12_status_26
  · refine sm_aload_n C 0 dX12_status_12 rfl ?_
    refine sm_getR C (ci := 12) (R := RX12) (T := TX12) (N := 21) (j := 3) (G_M G).2 (G_M G).1 rfl gX12 (by decide) kw_867 dX12_status_13 (fun _ _ => rfl) ?_
    refine sm_iload_n C 1 dX12_status_16 rfl ?_
    refine r_iald C (G_m86 G) dX12_status_17 (fun v5 => ?_)
    refine sm_goto C 26 dX12_status_18 (by decide) ?_
    exact sm_iret C dX12_status_26
theorem dd_X12_manyPrizes : yX12_manyPrizes.cls = RX12 ∧ yX12_manyPrizes.cls ≠ "java/lang/invoke/MethodHandle" ∧ yX12_manyPrizes.cls ≠ "java/lang/invoke/VarHandle" ∧ (parseMethodDescriptor yX12_manyPrizes.desc).map (fun d => d.parameters.length) = some 0 := by decide +kernel
set_option maxRecDepth 100000 in
set_option maxHeartbeats 4000000 in
theorem sl_X12_manyPrizes_L4 {M : Mco} {w : Wco} (C : Cx M w cX12_manyPrizes 3 yX12_manyPrizes.cls (Cond.code yX12_manyPrizes cX12_manyPrizes 3 (some .int)) (some .int) { frames := 0, cells := 0, slots := 0, locals := 0 }) (G : GW w) : ∀ (n : Nat) (y1 : Int32) (y2 : Int32) (s0 : Sta), Sm M w 3 oI 4 [(0, .ref (wad w 82)), (1, .int y1), (2, .int y2)] [] s0 (X12_manyPrizes_L4 n y1 y2 s0) := by
  intro n
  induction n with
  | zero => intros; exact sm_none
  | succ n ih =>
    intro y1 y2 s0
    rw [X12_manyPrizes_L4.eq_2]
    refine sm_iload_n C 2 dX12_manyPrizes_4 rfl ?_
    refine sm_bipush C (8 : Int32) dX12_manyPrizes_5 bp_8 ?_
    refine sm_icmp_ge C 37 dX12_manyPrizes_7 (by decide) ?_ ?_
    · refine sm_iload_n C 1 dX12_manyPrizes_37 rfl ?_
      exact sm_iret C dX12_manyPrizes_38
    · refine sm_iload_n C 1 dX12_manyPrizes_10 rfl ?_
      refine sm_aload_n C 0 dX12_manyPrizes_11 rfl ?_
      refine sm_getR C (ci := 12) (R := RX12) (T := TX12) (N := 21) (j := 0) (G_M G).2 (G_M G).1 rfl gX12 (by decide) kw_864 dX12_manyPrizes_12 (fun _ _ => rfl) ?_
      refine sm_bipush C (41 : Int32) dX12_manyPrizes_15 bp_41 ?_
      refine sm_iload_n C 2 dX12_manyPrizes_17 rfl ?_
      refine sm_iadd C dX12_manyPrizes_18 ?_
      refine r_iald C (G_m83 G) dX12_manyPrizes_19 (fun v1 => ?_)
      refine sm_iconst C (-1 : Int32) dX12_manyPrizes_20 ic_m1 ?_
      refine sm_icmp_ne C 28 dX12_manyPrizes_21 (by decide) ?_ ?_
      · refine sm_iconst C (1 : Int32) dX12_manyPrizes_28 ic_1 ?_
        refine sm_iadd C dX12_manyPrizes_29 ?_
        refine sm_istore_n C [(1, .int (y1 + (1 : Int32))), (0, .ref (wad w 82)), (2, .int y2)] dX12_manyPrizes_30 (by decide) rfl ?_
        refine sm_iinc C 2 (y2 + (1 : Int32)) [(2, .int (y2 + (1 : Int32))), (1, .int (y1 + (1 : Int32))), (0, .ref (wad w 82))] dX12_manyPrizes_31 rfl (ii_1 _) (by decide) rfl ?_
        refine sm_goto C 4 dX12_manyPrizes_34 (by decide) ?_
        exact sm_sub [2, 1, 0] rfl (ih (y1 + (1 : Int32)) (y2 + (1 : Int32)) s0)
      · refine sm_iconst C (0 : Int32) dX12_manyPrizes_24 ic_0 ?_
        refine sm_goto C 29 dX12_manyPrizes_25 (by decide) ?_
        refine sm_iadd C dX12_manyPrizes_29 ?_
        refine sm_istore_n C [(1, .int (y1 + (0 : Int32))), (0, .ref (wad w 82)), (2, .int y2)] dX12_manyPrizes_30 (by decide) rfl ?_
        refine sm_iinc C 2 (y2 + (1 : Int32)) [(2, .int (y2 + (1 : Int32))), (1, .int (y1 + (0 : Int32))), (0, .ref (wad w 82))] dX12_manyPrizes_31 rfl (ii_1 _) (by decide) rfl ?_
        refine sm_goto C 4 dX12_manyPrizes_34 (by decide) ?_
        exact sm_sub [2, 1, 0] rfl (ih (y1 + (0 : Int32)) (y2 + (1 : Int32)) s0)
set_option maxRecDepth 100000 in
set_option maxHeartbeats 4000000 in
theorem ct_X12_manyPrizes {l : Launch} {w : Wco} (G : GW w) (s0 : Sta) (qq : Int32) (ss : Sta) (hh : X12_manyPrizes s0 = some (qq, ss)) : Ct l w yX12_manyPrizes (Cond.code yX12_manyPrizes cX12_manyPrizes 3 (some .int) :: GT) { frames := 0, cells := 0, slots := 0, locals := 0 } [.ref (wad w 82)] s0 (oI qq) ss := by
  refine ct_of [(0, .ref (wad w 82))] (by decide +kernel) (Nat.le_of_ble_eq_true rfl) rfl hh (fun M _ C => ?_)
  unfold X12_manyPrizes
  refine sm_iconst C (0 : Int32) dX12_manyPrizes_0 ic_0 ?_
  refine sm_istore_n C [(1, .int (0 : Int32)), (0, .ref (wad w 82))] dX12_manyPrizes_1 (by decide) rfl ?_
  refine sm_iconst C (0 : Int32) dX12_manyPrizes_2 ic_0 ?_
  refine sm_istore_n C [(2, .int (0 : Int32)), (1, .int (0 : Int32)), (0, .ref (wad w 82))] dX12_manyPrizes_3 (by decide) rfl ?_
  exact sm_sub [2, 1, 0] rfl (sl_X12_manyPrizes_L4 C G FU (0 : Int32) (0 : Int32) s0)
theorem dd_X12_manyWins : yX12_manyWins.cls = RX12 ∧ yX12_manyWins.cls ≠ "java/lang/invoke/MethodHandle" ∧ yX12_manyWins.cls ≠ "java/lang/invoke/VarHandle" ∧ (parseMethodDescriptor yX12_manyWins.desc).map (fun d => d.parameters.length) = some 0 := by decide +kernel
set_option maxRecDepth 100000 in
set_option maxHeartbeats 4000000 in
theorem sl_X12_manyWins_L4 {M : Mco} {w : Wco} (C : Cx M w cX12_manyWins 3 yX12_manyWins.cls (Cond.code yX12_manyWins cX12_manyWins 3 (some .int)) (some .int) { frames := 1, cells := 0, slots := 0, locals := 22 }) (G : GW w) : ∀ (n : Nat) (y1 : Int32) (y2 : Int32) (s0 : Sta), Sm M w 3 oI 4 [(0, .ref (wad w 82)), (1, .int y1), (2, .int y2)] [] s0 (X12_manyWins_L4 n y1 y2 s0) := by
  intro n
  induction n with
  | zero => intros; exact sm_none
  | succ n ih =>
    intro y1 y2 s0
    rw [X12_manyWins_L4.eq_2]
    refine sm_iload_n C 2 dX12_manyWins_4 rfl ?_
    refine sm_aload_n C 0 dX12_manyWins_5 rfl ?_
    refine r_callVI C (R := RX12) (T := TX12) (N := 21) [] (G_M G) rfl (fun qq ss hh => ct_X12_many G s0 qq ss hh) kw_932 kw_934 kw_17 kw_64 kw_935 dX12_manyWins_6 rfl dd_X12_many ⟨rfl, rfl⟩ ⟨by decide, by decide⟩ (Nat.le_of_ble_eq_true rfl) _ rfl (fun q1 s2 => ?_)
    refine sm_icmp_ge C 32 dX12_manyWins_9 (by decide) ?_ ?_
    · refine sm_iload_n C 1 dX12_manyWins_32 rfl ?_
      exact sm_iret C dX12_manyWins_33
    · refine sm_iload_n C 1 dX12_manyWins_12 rfl ?_
      refine sm_aload_n C 0 dX12_manyWins_13 rfl ?_
      refine sm_getR C (ci := 12) (R := RX12) (T := TX12) (N := 21) (j := 0) (G_M G).2 (G_M G).1 rfl gX12 (by decide) kw_864 dX12_manyWins_14 (fun _ _ => rfl) ?_
      refine sm_iconst C (5 : Int32) dX12_manyWins_17 ic_5 ?_
      refine sm_iload_n C 2 dX12_manyWins_18 rfl ?_
      refine sm_iadd C dX12_manyWins_19 ?_
      refine r_iald C (G_m83 G) dX12_manyWins_20 (fun v3 => ?_)
      refine r_callSI C [.int v3] (fun qq ss hh => ct_X12_bits v3 s2 qq ss hh) kw_1001 kw_1002 kw_64 kw_1003 dX12_manyWins_21 rfl dd_X12_bits ⟨rfl, rfl⟩ ⟨by decide, by decide⟩ (Nat.le_of_ble_eq_true rfl) _ rfl (fun q4 s5 => ?_)
      refine sm_iadd C dX12_manyWins_24 ?_
      refine sm_istore_n C [(1, .int (y1 + q4)), (0, .ref (wad w 82)), (2, .int y2)] dX12_manyWins_25 (by decide) rfl ?_
      refine sm_iinc C 2 (y2 + (1 : Int32)) [(2, .int (y2 + (1 : Int32))), (1, .int (y1 + q4)), (0, .ref (wad w 82))] dX12_manyWins_26 rfl (ii_1 _) (by decide) rfl ?_
      refine sm_goto C 4 dX12_manyWins_29 (by decide) ?_
      exact sm_sub [2, 1, 0] rfl (ih (y1 + q4) (y2 + (1 : Int32)) s5)
set_option maxRecDepth 100000 in
set_option maxHeartbeats 4000000 in
theorem ct_X12_manyWins {l : Launch} {w : Wco} (G : GW w) (s0 : Sta) (qq : Int32) (ss : Sta) (hh : X12_manyWins s0 = some (qq, ss)) : Ct l w yX12_manyWins (Cond.code yX12_manyWins cX12_manyWins 3 (some .int) :: GT) { frames := 1, cells := 0, slots := 0, locals := 22 } [.ref (wad w 82)] s0 (oI qq) ss := by
  refine ct_of [(0, .ref (wad w 82))] (by decide +kernel) (Nat.le_of_ble_eq_true rfl) rfl hh (fun M _ C => ?_)
  unfold X12_manyWins
  refine sm_iconst C (0 : Int32) dX12_manyWins_0 ic_0 ?_
  refine sm_istore_n C [(1, .int (0 : Int32)), (0, .ref (wad w 82))] dX12_manyWins_1 (by decide) rfl ?_
  refine sm_iconst C (0 : Int32) dX12_manyWins_2 ic_0 ?_
  refine sm_istore_n C [(2, .int (0 : Int32)), (1, .int (0 : Int32)), (0, .ref (wad w 82))] dX12_manyWins_3 (by decide) rfl ?_
  exact sm_sub [2, 1, 0] rfl (sl_X12_manyWins_L4 C G FU (0 : Int32) (0 : Int32) s0)
theorem dd_X12_counted : yX12_counted.cls = RX12 ∧ yX12_counted.cls ≠ "java/lang/invoke/MethodHandle" ∧ yX12_counted.cls ≠ "java/lang/invoke/VarHandle" ∧ (parseMethodDescriptor yX12_counted.desc).map (fun d => d.parameters.length) = some 1 := by decide +kernel
set_option maxRecDepth 100000 in
set_option maxHeartbeats 4000000 in
theorem ct_X12_counted {l : Launch} {w : Wco} (G : GW w) (x1 : Int32) (s0 : Sta) (qq : Int32) (ss : Sta) (hh : X12_counted x1 s0 = some (qq, ss)) : Ct l w yX12_counted (Cond.code yX12_counted cX12_counted 2 (some .int) :: GT) { frames := 2, cells := 0, slots := 0, locals := 44 } [.ref (wad w 82), .int x1] s0 (oI qq) ss := by
  refine ct_of [(0, .ref (wad w 82)), (1, .int x1)] (by decide +kernel) (Nat.le_of_ble_eq_true rfl) rfl hh (fun M _ C => ?_)
  unfold X12_counted
  refine sm_iload_n C 1 dX12_counted_0 rfl ?_
  refine r_table C 87 dX12_counted_1 rfl (by decide) ⟨⟨(show (0 : Int32).toInt = (0 : Int) + ((0 : Nat) : Int) from by decide), 43, 44, rfl, by decide, ?_⟩, ⟨⟨(show (1 : Int32).toInt = (0 : Int) + ((1 : Nat) : Int) from by decide), 48, 49, rfl, by decide, ?_⟩, ⟨⟨(show (2 : Int32).toInt = (0 : Int) + ((2 : Nat) : Int) from by decide), 55, 56, rfl, by decide, ?_⟩, ⟨⟨(show (3 : Int32).toInt = (0 : Int) + ((3 : Nat) : Int) from by decide), 60, 61, rfl, by decide, ?_⟩, ⟨⟨(show (4 : Int32).toInt = (0 : Int) + ((4 : Nat) : Int) from by decide), 65, 66, rfl, by decide, ?_⟩, ⟨⟨(show (5 : Int32).toInt = (0 : Int) + ((5 : Nat) : Int) from by decide), 72, 73, rfl, by decide, ?_⟩, ⟨⟨(show (6 : Int32).toInt = (0 : Int) + ((6 : Nat) : Int) from by decide), 79, 80, rfl, by decide, ?_⟩, trivial⟩⟩⟩⟩⟩⟩⟩ ?_
  · dsimp only
    refine sm_aload_n C 0 dX12_counted_44 rfl ?_
    refine r_callVI C (R := RX12) (T := TX12) (N := 21) [] (G_M G) rfl (fun qq ss hh => ct_X12_many G s0 qq ss hh) kw_932 kw_934 kw_17 kw_64 kw_935 dX12_counted_45 rfl dd_X12_many ⟨rfl, rfl⟩ ⟨by decide, by decide⟩ (Nat.le_of_ble_eq_true rfl) _ rfl (fun q2 s3 => ?_)
    exact sm_iret C dX12_counted_48
  · dsimp only
    refine sm_aload_n C 0 dX12_counted_49 rfl ?_
    refine sm_getR C (ci := 12) (R := RX12) (T := TX12) (N := 21) (j := 0) (G_M G).2 (G_M G).1 rfl gX12 (by decide) kw_864 dX12_counted_50 (fun _ _ => rfl) ?_
    refine sm_iconst C (4 : Int32) dX12_counted_53 ic_4 ?_
    refine r_iald C (G_m83 G) dX12_counted_54 (fun v4 => ?_)
    exact sm_iret C dX12_counted_55
  · dsimp only
    refine sm_aload_n C 0 dX12_counted_56 rfl ?_
    refine r_callVI C (R := RX12) (T := TX12) (N := 21) [] (G_M G) rfl (fun qq ss hh => ct_X12_manyPrizes G s0 qq ss hh) kw_1233 kw_1235 kw_47 kw_64 kw_1236 dX12_counted_57 rfl dd_X12_manyPrizes ⟨rfl, rfl⟩ ⟨by decide, by decide⟩ (Nat.le_of_ble_eq_true rfl) _ rfl (fun q5 s6 => ?_)
    exact sm_iret C dX12_counted_60
  · dsimp only
    refine sm_aload_n C 0 dX12_counted_61 rfl ?_
    refine r_callVI C (R := RX12) (T := TX12) (N := 21) [] (G_M G) rfl (fun qq ss hh => ct_X12_manyWins G s0 qq ss hh) kw_1237 kw_1239 kw_48 kw_64 kw_1240 dX12_counted_62 rfl dd_X12_manyWins ⟨rfl, rfl⟩ ⟨by decide, by decide⟩ (Nat.le_of_ble_eq_true rfl) _ rfl (fun q7 s8 => ?_)
    exact sm_iret C dX12_counted_65
  · dsimp only
    refine sm_aload_n C 0 dX12_counted_66 rfl ?_
    refine sm_getR C (ci := 12) (R := RX12) (T := TX12) (N := 21) (j := 0) (G_M G).2 (G_M G).1 rfl gX12 (by decide) kw_864 dX12_counted_67 (fun _ _ => rfl) ?_
    refine sm_iconst C (1 : Int32) dX12_counted_70 ic_1 ?_
    refine r_iald C (G_m83 G) dX12_counted_71 (fun v9 => ?_)
    exact sm_iret C dX12_counted_72
  · dsimp only
    refine sm_aload_n C 0 dX12_counted_73 rfl ?_
    refine sm_getR C (ci := 12) (R := RX12) (T := TX12) (N := 21) (j := 0) (G_M G).2 (G_M G).1 rfl gX12 (by decide) kw_864 dX12_counted_74 (fun _ _ => rfl) ?_
    refine sm_iconst C (2 : Int32) dX12_counted_77 ic_2 ?_
    refine r_iald C (G_m83 G) dX12_counted_78 (fun v10 => ?_)
    exact sm_iret C dX12_counted_79
  · dsimp only
    refine sm_aload_n C 0 dX12_counted_80 rfl ?_
    refine sm_getR C (ci := 12) (R := RX12) (T := TX12) (N := 21) (j := 0) (G_M G).2 (G_M G).1 rfl gX12 (by decide) kw_864 dX12_counted_81 (fun _ _ => rfl) ?_
    refine sm_iconst C (3 : Int32) dX12_counted_84 ic_3 ?_
    refine r_iald C (G_m83 G) dX12_counted_85 (fun v11 => ?_)
    exact sm_iret C dX12_counted_86
  · refine sm_aload_n C 0 dX12_counted_87 rfl ?_
    refine sm_getI C (ci := 12) (R := RX12) (T := TX12) (N := 21) (j := 14) (G_M G).2 (G_M G).1 rfl gX12 (by decide) kw_878 dX12_counted_88 (fun _ _ => rfl) (fun v1 => ?_)
    exact sm_iret C dX12_counted_91
theorem dd_X12_count : yX12_count.cls = RX12 ∧ yX12_count.cls ≠ "java/lang/invoke/MethodHandle" ∧ yX12_count.cls ≠ "java/lang/invoke/VarHandle" ∧ (parseMethodDescriptor yX12_count.desc).map (fun d => d.parameters.length) = some 1 := by decide +kernel
set_option maxRecDepth 100000 in
set_option maxHeartbeats 4000000 in
theorem ct_X12_count {l : Launch} {w : Wco} (G : GW w) (x1 : Int32) (s0 : Sta) (qq : Int32) (ss : Sta) (hh : X12_count x1 s0 = some (qq, ss)) : Ct l w yX12_count (Cond.code yX12_count cX12_count 2 (some .int) :: GT) { frames := 3, cells := 0, slots := 0, locals := 65 } [.ref (wad w 82), .int x1] s0 (oI qq) ss := by
  refine ct_of [(0, .ref (wad w 82)), (1, .int x1)] (by decide +kernel) (Nat.le_of_ble_eq_true rfl) rfl hh (fun M _ C => ?_)
  unfold X12_count
  refine sm_iload_n C 1 dX12_count_0 rfl ?_
  refine sm_i2l C dX12_count_1 ?_
  refine sm_lconst C (0 : Int64) dX12_count_2 lc_0 ?_
  refine sm_ldc2 C kw_943 dX12_count_3 ?_
  refine r_callSI C [.long x1.toInt64, .long (0 : Int64), .long (7 : Int64)] (fun qq ss hh => ct_X12_in x1.toInt64 (0 : Int64) (7 : Int64) s0 qq ss hh) kw_944 kw_945 kw_64 kw_946 dX12_count_6 rfl dd_X12_in ⟨rfl, rfl⟩ ⟨by decide, by decide⟩ (Nat.le_of_ble_eq_true rfl) _ rfl (fun q1 s2 => ?_)
  refine sm_if_eq C 20 dX12_count_9 (by decide) ?_ ?_
  · refine sm_aload_n C 0 dX12_count_20 rfl ?_
    refine sm_bipush C (-2 : Int32) dX12_count_21 bp_m2 ?_
    refine r_callVI C (R := RX12) (T := TX12) (N := 21) [.int (-2 : Int32)] (G_M G) rfl (fun qq ss hh => ct_X12_bad G (-2 : Int32) s2 qq ss hh) kw_952 kw_954 kw_18 kw_64 kw_955 dX12_count_23 rfl dd_X12_bad ⟨rfl, rfl⟩ ⟨by decide, by decide⟩ (Nat.le_of_ble_eq_true rfl) _ rfl (fun q3 s4 => ?_)
    exact sm_iret C dX12_count_26
  · refine sm_aload_n C 0 dX12_count_12 rfl ?_
    refine sm_iload_n C 1 dX12_count_13 rfl ?_
    refine r_callVI C (R := RX12) (T := TX12) (N := 21) [.int x1] (G_M G) rfl (fun qq ss hh => ct_X12_counted G x1 s2 qq ss hh) kw_1229 kw_1231 kw_46 kw_64 kw_1232 dX12_count_14 rfl dd_X12_counted ⟨rfl, rfl⟩ ⟨by decide, by decide⟩ (Nat.le_of_ble_eq_true rfl) _ rfl (fun q5 s6 => ?_)
    refine sm_goto C 26 dX12_count_17 (by decide) ?_
    exact sm_iret C dX12_count_26
theorem dd_X12_sums : yX12_sums.cls = RX12 ∧ yX12_sums.cls ≠ "java/lang/invoke/MethodHandle" ∧ yX12_sums.cls ≠ "java/lang/invoke/VarHandle" ∧ (parseMethodDescriptor yX12_sums.desc).map (fun d => d.parameters.length) = some 3 := by decide +kernel
set_option maxRecDepth 100000 in
set_option maxHeartbeats 4000000 in
theorem sl_X12_sums_L6 {M : Mco} {w : Wco} (C : Cx M w cX12_sums 8 yX12_sums.cls (Cond.code yX12_sums cX12_sums 8 (some .long)) (some .long) { frames := 0, cells := 0, slots := 0, locals := 0 }) (G : GW w) : ∀ (n : Nat) (y3 : Int32) (y4 : Int32) (y5 : Int64) (y7 : Int32) (s0 : Sta), Sm M w 8 oL 6 [(0, .ref (wad w 82)), (3, .int y3), (4, .int y4), (5, .long y5), (7, .int y7)] [] s0 (X12_sums_L6 n y3 y4 y5 y7 s0) := by
  intro n
  induction n with
  | zero => intros; exact sm_none
  | succ n ih =>
    intro y3 y4 y5 y7 s0
    rw [X12_sums_L6.eq_2]
    refine sm_iload C 4 dX12_sums_6 rfl ?_
    refine sm_iload C 2 dX12_sums_8 rfl ?_
    refine sm_icmp_ge C 38 dX12_sums_10 (by decide) ?_ ?_
    · refine sm_lload C 3 dX12_sums_38 rfl ?_
      exact sm_lret C dX12_sums_40
    · refine sm_ldc2 C kw_1246 dX12_sums_13 ?_
      refine sm_lload C 3 dX12_sums_16 rfl ?_
      refine sm_lmul C dX12_sums_18 ?_
      refine sm_aload_n C 0 dX12_sums_19 rfl ?_
      refine sm_getR C (ci := 12) (R := RX12) (T := TX12) (N := 21) (j := 0) (G_M G).2 (G_M G).1 rfl gX12 (by decide) kw_864 dX12_sums_20 (fun _ _ => rfl) ?_
      refine sm_iload_n C 1 dX12_sums_23 rfl ?_
      refine sm_iload C 4 dX12_sums_24 rfl ?_
      refine sm_iadd C dX12_sums_26 ?_
      refine r_iald C (G_m83 G) dX12_sums_27 (fun v1 => ?_)
      refine sm_i2l C dX12_sums_28 ?_
      refine sm_ladd C dX12_sums_29 ?_
      refine sm_lstore C [(5, .long (((31 : Int64) * y5) + v1.toInt64)), (0, .ref (wad w 82)), (3, .int y3), (4, .int y4), (7, .int y7)] dX12_sums_30 (by decide) rfl ?_
      refine sm_iinc C 4 (y7 + (1 : Int32)) [(7, .int (y7 + (1 : Int32))), (5, .long (((31 : Int64) * y5) + v1.toInt64)), (0, .ref (wad w 82)), (3, .int y3), (4, .int y4)] dX12_sums_32 rfl (ii_1 _) (by decide) rfl ?_
      refine sm_goto C 6 dX12_sums_35 (by decide) ?_
      exact sm_sub [2, 3, 4, 1, 0] rfl (ih y3 y4 (((31 : Int64) * y5) + v1.toInt64) (y7 + (1 : Int32)) s0)
set_option maxRecDepth 100000 in
set_option maxHeartbeats 4000000 in
theorem ct_X12_sums {l : Launch} {w : Wco} (G : GW w) (x1 : Int64) (x2 : Int32) (x3 : Int32) (s0 : Sta) (qq : Int64) (ss : Sta) (hh : X12_sums x1 x2 x3 s0 = some (qq, ss)) : Ct l w yX12_sums (Cond.code yX12_sums cX12_sums 8 (some .long) :: GT) { frames := 0, cells := 0, slots := 0, locals := 0 } [.ref (wad w 82), .long x1, .int x2, .int x3] s0 (oL qq) ss := by
  refine ct_of [(0, .ref (wad w 82)), (1, .long x1), (3, .int x2), (4, .int x3)] (by decide +kernel) (Nat.le_of_ble_eq_true rfl) rfl hh (fun M _ C => ?_)
  unfold X12_sums
  refine sm_lload_n C 1 dX12_sums_0 rfl ?_
  refine sm_lstore C [(5, .long x1), (0, .ref (wad w 82)), (1, .long x1), (3, .int x2), (4, .int x3)] dX12_sums_1 (by decide) rfl ?_
  refine sm_iconst C (0 : Int32) dX12_sums_3 ic_0 ?_
  refine sm_istore C [(7, .int (0 : Int32)), (5, .long x1), (0, .ref (wad w 82)), (1, .long x1), (3, .int x2), (4, .int x3)] dX12_sums_4 (by decide) rfl ?_
  exact sm_sub [2, 4, 5, 1, 0] rfl (sl_X12_sums_L6 C G FU x2 x3 x1 (0 : Int32) s0)
theorem dd_X12_digest : yX12_digest.cls = RX12 ∧ yX12_digest.cls ≠ "java/lang/invoke/MethodHandle" ∧ yX12_digest.cls ≠ "java/lang/invoke/VarHandle" ∧ (parseMethodDescriptor yX12_digest.desc).map (fun d => d.parameters.length) = some 0 := by decide +kernel
set_option maxRecDepth 100000 in
set_option maxHeartbeats 4000000 in
theorem sl_X12_digest_L79 {M : Mco} {w : Wco} (C : Cx M w cX12_digest 4 yX12_digest.cls (Cond.code yX12_digest cX12_digest 4 (some .long)) (some .long) { frames := 3, cells := 0, slots := 0, locals := 65 }) (G : GW w) : ∀ (n : Nat) (y1 : Int64) (y3 : Int32) (s0 : Sta), Sm M w 4 oL 79 [(0, .ref (wad w 82)), (1, .long y1), (3, .int y3)] [] s0 (X12_digest_L79 n y1 y3 s0) := by
  intro n
  induction n with
  | zero => intros; exact sm_none
  | succ n ih =>
    intro y1 y3 s0
    rw [X12_digest_L79.eq_2]
    refine sm_iload_n C 2 dX12_digest_79 rfl ?_
    refine sm_aload_n C 0 dX12_digest_80 rfl ?_
    refine r_callVI C (R := RX12) (T := TX12) (N := 21) [] (G_M G) rfl (fun qq ss hh => ct_X12_many G s0 qq ss hh) kw_932 kw_934 kw_17 kw_64 kw_935 dX12_digest_81 rfl dd_X12_many ⟨rfl, rfl⟩ ⟨by decide, by decide⟩ (Nat.le_of_ble_eq_true rfl) _ rfl (fun q5 s6 => ?_)
    refine sm_icmp_ge C 152 dX12_digest_84 (by decide) ?_ ?_
    · refine sm_aload_n C 0 dX12_digest_152 rfl ?_
      refine sm_lload_n C 1 dX12_digest_153 rfl ?_
      refine sm_bipush C (57 : Int32) dX12_digest_154 bp_57 ?_
      refine sm_iconst C (4 : Int32) dX12_digest_156 ic_4 ?_
      refine sm_aload_n C 0 dX12_digest_157 rfl ?_
      refine sm_getR C (ci := 12) (R := RX12) (T := TX12) (N := 21) (j := 0) (G_M G).2 (G_M G).1 rfl gX12 (by decide) kw_864 dX12_digest_158 (fun _ _ => rfl) ?_
      refine sm_iconst C (1 : Int32) dX12_digest_161 ic_1 ?_
      refine r_iald C (G_m83 G) dX12_digest_162 (fun v7 => ?_)
      refine sm_imul C dX12_digest_163 ?_
      refine r_callVL C (R := RX12) (T := TX12) (N := 21) [.long y1, .int (57 : Int32), .int ((4 : Int32) * v7)] (G_M G) rfl (fun qq ss hh => ct_X12_sums G y1 (57 : Int32) ((4 : Int32) * v7) s6 qq ss hh) kw_1247 kw_1249 kw_49 kw_64 kw_1250 dX12_digest_164 rfl dd_X12_sums ⟨rfl, rfl⟩ ⟨by decide, by decide⟩ (Nat.le_of_ble_eq_true rfl) _ rfl (fun q8 s9 => ?_)
      refine sm_lstore_n C [(1, .long q8), (0, .ref (wad w 82)), (3, .int y3)] dX12_digest_167 (by decide) rfl ?_
      refine sm_aload_n C 1 dX12_digest_168 rfl ?_
      refine sm_lload_n C 0 dX12_digest_169 rfl ?_
      refine sm_bipush C (81 : Int32) dX12_digest_170 bp_81 ?_
      refine sm_iconst C (4 : Int32) dX12_digest_172 ic_4 ?_
      refine sm_aload_n C 1 dX12_digest_173 rfl ?_
      refine sm_getR C (ci := 12) (R := RX12) (T := TX12) (N := 21) (j := 0) (G_M G).2 (G_M G).1 rfl gX12 (by decide) kw_864 dX12_digest_174 (fun _ _ => rfl) ?_
      refine sm_iconst C (2 : Int32) dX12_digest_177 ic_2 ?_
      refine r_iald C (G_m83 G) dX12_digest_178 (fun v10 => ?_)
      refine sm_imul C dX12_digest_179 ?_
      refine r_callVL C (R := RX12) (T := TX12) (N := 21) [.long q8, .int (81 : Int32), .int ((4 : Int32) * v10)] (G_M G) rfl (fun qq ss hh => ct_X12_sums G q8 (81 : Int32) ((4 : Int32) * v10) s9 qq ss hh) kw_1247 kw_1249 kw_49 kw_64 kw_1250 dX12_digest_180 rfl dd_X12_sums ⟨rfl, rfl⟩ ⟨by decide, by decide⟩ (Nat.le_of_ble_eq_true rfl) _ rfl (fun q11 s12 => ?_)
      refine sm_lstore_n C [(1, .long q11), (0, .ref (wad w 82)), (3, .int y3)] dX12_digest_183 (by decide) rfl ?_
      refine sm_ldc2 C kw_1246 dX12_digest_184 ?_
      refine sm_ldc2 C kw_1246 dX12_digest_187 ?_
      refine sm_lload_n C 0 dX12_digest_190 rfl ?_
      refine sm_lmul C dX12_digest_191 ?_
      refine sm_aload_n C 1 dX12_digest_192 rfl ?_
      refine sm_getL C (ci := 12) (R := RX12) (T := TX12) (N := 21) (j := 4) (G_M G).2 (G_M G).1 rfl gX12 (by decide) kw_868 dX12_digest_193 (fun _ _ => rfl) (fun v13 => ?_)
      refine sm_ladd C dX12_digest_196 ?_
      refine sm_lmul C dX12_digest_197 ?_
      refine sm_aload_n C 1 dX12_digest_198 rfl ?_
      refine sm_getL C (ci := 12) (R := RX12) (T := TX12) (N := 21) (j := 5) (G_M G).2 (G_M G).1 rfl gX12 (by decide) kw_869 dX12_digest_199 (fun _ _ => rfl) (fun v14 => ?_)
      refine sm_ladd C dX12_digest_202 ?_
      exact sm_lret C dX12_digest_203
    · refine sm_aload_n C 0 dX12_digest_87 rfl ?_
      refine sm_ldc2 C kw_1246 dX12_digest_88 ?_
      refine sm_lload_n C 1 dX12_digest_91 rfl ?_
      refine sm_lmul C dX12_digest_92 ?_
      refine sm_aload_n C 0 dX12_digest_93 rfl ?_
      refine sm_getR C (ci := 12) (R := RX12) (T := TX12) (N := 21) (j := 0) (G_M G).2 (G_M G).1 rfl gX12 (by decide) kw_864 dX12_digest_94 (fun _ _ => rfl) ?_
      refine sm_bipush C (17 : Int32) dX12_digest_97 bp_17 ?_
      refine sm_iload_n C 2 dX12_digest_99 rfl ?_
      refine sm_iadd C dX12_digest_100 ?_
      refine r_iald C (G_m83 G) dX12_digest_101 (fun v15 => ?_)
      refine sm_i2l C dX12_digest_102 ?_
      refine sm_ladd C dX12_digest_103 ?_
      refine sm_bipush C (23 : Int32) dX12_digest_104 bp_23 ?_
      refine sm_iconst C (3 : Int32) dX12_digest_106 ic_3 ?_
      refine sm_iload_n C 2 dX12_digest_107 rfl ?_
      refine sm_imul C dX12_digest_108 ?_
      refine sm_iadd C dX12_digest_109 ?_
      refine sm_iconst C (3 : Int32) dX12_digest_110 ic_3 ?_
      refine r_callVL C (R := RX12) (T := TX12) (N := 21) [.long (((31 : Int64) * y1) + v15.toInt64), .int ((23 : Int32) + ((3 : Int32) * y3)), .int (3 : Int32)] (G_M G) rfl (fun qq ss hh => ct_X12_sums G (((31 : Int64) * y1) + v15.toInt64) ((23 : Int32) + ((3 : Int32) * y3)) (3 : Int32) s6 qq ss hh) kw_1247 kw_1249 kw_49 kw_64 kw_1250 dX12_digest_111 rfl dd_X12_sums ⟨rfl, rfl⟩ ⟨by decide, by decide⟩ (Nat.le_of_ble_eq_true rfl) _ rfl (fun q16 s17 => ?_)
      refine sm_lstore_n C [(1, .long q16), (0, .ref (wad w 82)), (3, .int y3)] dX12_digest_114 (by decide) rfl ?_
      refine sm_ldc2 C kw_1246 dX12_digest_115 ?_
      refine sm_ldc2 C kw_1246 dX12_digest_118 ?_
      refine sm_lload_n C 0 dX12_digest_121 rfl ?_
      refine sm_lmul C dX12_digest_122 ?_
      refine sm_aload_n C 1 dX12_digest_123 rfl ?_
      refine sm_getR C (ci := 12) (R := RX12) (T := TX12) (N := 21) (j := 0) (G_M G).2 (G_M G).1 rfl gX12 (by decide) kw_864 dX12_digest_124 (fun _ _ => rfl) ?_
      refine sm_iconst C (5 : Int32) dX12_digest_127 ic_5 ?_
      refine sm_iload_n C 2 dX12_digest_128 rfl ?_
      refine sm_iadd C dX12_digest_129 ?_
      refine r_iald C (G_m83 G) dX12_digest_130 (fun v18 => ?_)
      refine sm_i2l C dX12_digest_131 ?_
      refine sm_ladd C dX12_digest_132 ?_
      refine sm_lmul C dX12_digest_133 ?_
      refine sm_aload_n C 1 dX12_digest_134 rfl ?_
      refine sm_getR C (ci := 12) (R := RX12) (T := TX12) (N := 21) (j := 0) (G_M G).2 (G_M G).1 rfl gX12 (by decide) kw_864 dX12_digest_135 (fun _ _ => rfl) ?_
      refine sm_bipush C (11 : Int32) dX12_digest_138 bp_11 ?_
      refine sm_iload_n C 2 dX12_digest_140 rfl ?_
      refine sm_iadd C dX12_digest_141 ?_
      refine r_iald C (G_m83 G) dX12_digest_142 (fun v19 => ?_)
      refine sm_i2l C dX12_digest_143 ?_
      refine sm_ladd C dX12_digest_144 ?_
      refine sm_lstore_n C [(1, .long (((31 : Int64) * (((31 : Int64) * q16) + v18.toInt64)) + v19.toInt64)), (0, .ref (wad w 82)), (3, .int y3)] dX12_digest_145 (by decide) rfl ?_
      refine sm_iinc C 2 (y3 + (1 : Int32)) [(3, .int (y3 + (1 : Int32))), (1, .long (((31 : Int64) * (((31 : Int64) * q16) + v18.toInt64)) + v19.toInt64)), (0, .ref (wad w 82))] dX12_digest_146 rfl (ii_1 _) (by decide) rfl ?_
      refine sm_goto C 79 dX12_digest_149 (by decide) ?_
      exact sm_sub [2, 1, 0] rfl (ih (((31 : Int64) * (((31 : Int64) * q16) + v18.toInt64)) + v19.toInt64) (y3 + (1 : Int32)) s17)
set_option maxRecDepth 100000 in
set_option maxHeartbeats 4000000 in
theorem sl_X12_digest_L33 {M : Mco} {w : Wco} (C : Cx M w cX12_digest 4 yX12_digest.cls (Cond.code yX12_digest cX12_digest 4 (some .long)) (some .long) { frames := 3, cells := 0, slots := 0, locals := 65 }) (G : GW w) : ∀ (n : Nat) (y1 : Int64) (y3 : Int32) (s0 : Sta), Sm M w 4 oL 33 [(0, .ref (wad w 82)), (1, .long y1), (3, .int y3)] [] s0 (X12_digest_L33 n y1 y3 s0) := by
  intro n
  induction n with
  | zero => intros; exact sm_none
  | succ n ih =>
    intro y1 y3 s0
    rw [X12_digest_L33.eq_2]
    refine sm_iload_n C 2 dX12_digest_33 rfl ?_
    refine sm_bipush C (8 : Int32) dX12_digest_34 bp_8 ?_
    refine sm_icmp_ge C 77 dX12_digest_36 (by decide) ?_ ?_
    · refine sm_iconst C (0 : Int32) dX12_digest_77 ic_0 ?_
      refine sm_istore_n C [(3, .int (0 : Int32)), (0, .ref (wad w 82)), (1, .long y1)] dX12_digest_78 (by decide) rfl ?_
      exact sm_sub [1, 2, 0] rfl (sl_X12_digest_L79 C G FU y1 (0 : Int32) s0)
    · refine sm_ldc2 C kw_1246 dX12_digest_39 ?_
      refine sm_ldc2 C kw_1246 dX12_digest_42 ?_
      refine sm_lload_n C 1 dX12_digest_45 rfl ?_
      refine sm_lmul C dX12_digest_46 ?_
      refine sm_aload_n C 0 dX12_digest_47 rfl ?_
      refine sm_getR C (ci := 12) (R := RX12) (T := TX12) (N := 21) (j := 0) (G_M G).2 (G_M G).1 rfl gX12 (by decide) kw_864 dX12_digest_48 (fun _ _ => rfl) ?_
      refine sm_bipush C (41 : Int32) dX12_digest_51 bp_41 ?_
      refine sm_iload_n C 2 dX12_digest_53 rfl ?_
      refine sm_iadd C dX12_digest_54 ?_
      refine r_iald C (G_m83 G) dX12_digest_55 (fun v3 => ?_)
      refine sm_i2l C dX12_digest_56 ?_
      refine sm_ladd C dX12_digest_57 ?_
      refine sm_lmul C dX12_digest_58 ?_
      refine sm_aload_n C 0 dX12_digest_59 rfl ?_
      refine sm_getR C (ci := 12) (R := RX12) (T := TX12) (N := 21) (j := 0) (G_M G).2 (G_M G).1 rfl gX12 (by decide) kw_864 dX12_digest_60 (fun _ _ => rfl) ?_
      refine sm_bipush C (49 : Int32) dX12_digest_63 bp_49 ?_
      refine sm_iload_n C 2 dX12_digest_65 rfl ?_
      refine sm_iadd C dX12_digest_66 ?_
      refine r_iald C (G_m83 G) dX12_digest_67 (fun v4 => ?_)
      refine sm_i2l C dX12_digest_68 ?_
      refine sm_ladd C dX12_digest_69 ?_
      refine sm_lstore_n C [(1, .long (((31 : Int64) * (((31 : Int64) * y1) + v3.toInt64)) + v4.toInt64)), (0, .ref (wad w 82)), (3, .int y3)] dX12_digest_70 (by decide) rfl ?_
      refine sm_iinc C 2 (y3 + (1 : Int32)) [(3, .int (y3 + (1 : Int32))), (1, .long (((31 : Int64) * (((31 : Int64) * y1) + v3.toInt64)) + v4.toInt64)), (0, .ref (wad w 82))] dX12_digest_71 rfl (ii_1 _) (by decide) rfl ?_
      refine sm_goto C 33 dX12_digest_74 (by decide) ?_
      exact sm_sub [2, 1, 0] rfl (ih (((31 : Int64) * (((31 : Int64) * y1) + v3.toInt64)) + v4.toInt64) (y3 + (1 : Int32)) s0)
set_option maxRecDepth 100000 in
set_option maxHeartbeats 4000000 in
theorem sl_X12_digest_L6 {M : Mco} {w : Wco} (C : Cx M w cX12_digest 4 yX12_digest.cls (Cond.code yX12_digest cX12_digest 4 (some .long)) (some .long) { frames := 3, cells := 0, slots := 0, locals := 65 }) (G : GW w) : ∀ (n : Nat) (y1 : Int64) (y3 : Int32) (s0 : Sta), Sm M w 4 oL 6 [(0, .ref (wad w 82)), (1, .long y1), (3, .int y3)] [] s0 (X12_digest_L6 n y1 y3 s0) := by
  intro n
  induction n with
  | zero => intros; exact sm_none
  | succ n ih =>
    intro y1 y3 s0
    rw [X12_digest_L6.eq_2]
    refine sm_iload_n C 2 dX12_digest_6 rfl ?_
    refine sm_bipush C (8 : Int32) dX12_digest_7 bp_8 ?_
    refine sm_icmp_ge C 31 dX12_digest_9 (by decide) ?_ ?_
    · refine sm_iconst C (0 : Int32) dX12_digest_31 ic_0 ?_
      refine sm_istore_n C [(3, .int (0 : Int32)), (0, .ref (wad w 82)), (1, .long y1)] dX12_digest_32 (by decide) rfl ?_
      exact sm_sub [1, 2, 0] rfl (sl_X12_digest_L33 C G FU y1 (0 : Int32) s0)
    · refine sm_ldc2 C kw_1246 dX12_digest_12 ?_
      refine sm_lload_n C 1 dX12_digest_15 rfl ?_
      refine sm_lmul C dX12_digest_16 ?_
      refine sm_aload_n C 0 dX12_digest_17 rfl ?_
      refine sm_iload_n C 2 dX12_digest_18 rfl ?_
      refine r_callVI C (R := RX12) (T := TX12) (N := 21) [.int y3] (G_M G) rfl (fun qq ss hh => ct_X12_counted G y3 s0 qq ss hh) kw_1229 kw_1231 kw_46 kw_64 kw_1232 dX12_digest_19 rfl dd_X12_counted ⟨rfl, rfl⟩ ⟨by decide, by decide⟩ (Nat.le_of_ble_eq_true rfl) _ rfl (fun q1 s2 => ?_)
      refine sm_i2l C dX12_digest_22 ?_
      refine sm_ladd C dX12_digest_23 ?_
      refine sm_lstore_n C [(1, .long (((31 : Int64) * y1) + q1.toInt64)), (0, .ref (wad w 82)), (3, .int y3)] dX12_digest_24 (by decide) rfl ?_
      refine sm_iinc C 2 (y3 + (1 : Int32)) [(3, .int (y3 + (1 : Int32))), (1, .long (((31 : Int64) * y1) + q1.toInt64)), (0, .ref (wad w 82))] dX12_digest_25 rfl (ii_1 _) (by decide) rfl ?_
      refine sm_goto C 6 dX12_digest_28 (by decide) ?_
      exact sm_sub [2, 1, 0] rfl (ih (((31 : Int64) * y1) + q1.toInt64) (y3 + (1 : Int32)) s2)
set_option maxRecDepth 100000 in
set_option maxHeartbeats 4000000 in
theorem ct_X12_digest {l : Launch} {w : Wco} (G : GW w) (s0 : Sta) (qq : Int64) (ss : Sta) (hh : X12_digest s0 = some (qq, ss)) : Ct l w yX12_digest (Cond.code yX12_digest cX12_digest 4 (some .long) :: GT) { frames := 3, cells := 0, slots := 0, locals := 65 } [.ref (wad w 82)] s0 (oL qq) ss := by
  refine ct_of [(0, .ref (wad w 82))] (by decide +kernel) (Nat.le_of_ble_eq_true rfl) rfl hh (fun M _ C => ?_)
  unfold X12_digest
  refine sm_ldc2 C kw_1245 dX12_digest_0 ?_
  refine sm_lstore_n C [(1, .long (1303 : Int64)), (0, .ref (wad w 82))] dX12_digest_3 (by decide) rfl ?_
  refine sm_iconst C (0 : Int32) dX12_digest_4 ic_0 ?_
  refine sm_istore_n C [(3, .int (0 : Int32)), (1, .long (1303 : Int64)), (0, .ref (wad w 82))] dX12_digest_5 (by decide) rfl ?_
  exact sm_sub [2, 1, 0] rfl (sl_X12_digest_L6 C G FU (1303 : Int64) (0 : Int32) s0)
