theorem dd_X12_goodAs : yX12_goodAs.cls ≠ "java/lang/invoke/MethodHandle" ∧ yX12_goodAs.cls ≠ "java/lang/invoke/VarHandle" ∧ (parseMethodDescriptor yX12_goodAs.desc).map (fun d => d.parameters.length) = some 3 := by decide +kernel
set_option maxRecDepth 100000 in
set_option maxHeartbeats 4000000 in
theorem ct_X12_goodAs {l : Launch} {w : Wco} (x1 : Int32) (x2 : Int32) (x3 : Int32) (s0 : Sta) (qq : Int32) (ss : Sta) (hh : X12_goodAs x1 x2 x3 s0 = some (qq, ss)) : Ct l w yX12_goodAs (Cond.code yX12_goodAs cX12_goodAs 3 (some .int) :: GT) { frames := 0, cells := 0, slots := 0, locals := 0 } [.int x1, .int x2, .int x3] s0 (oI qq) ss := by
  refine ct_of [(0, .int x1), (1, .int x2), (2, .int x3)] (by decide +kernel) (Nat.le_of_ble_eq_true rfl) rfl hh (fun M _ C => ?_)
  unfold X12_goodAs
  refine sm_iload_n C 0 dX12_goodAs_0 rfl ?_
  refine r_table C 64 dX12_goodAs_1 rfl (by decide) ⟨⟨(show (3 : Int32).toInt = (3 : Int) + ((0 : Nat) : Int) from by decide), 27, 28, rfl, by decide, ?_⟩, ⟨⟨(show (4 : Int32).toInt = (3 : Int) + ((1 : Nat) : Int) from by decide), 31, 32, rfl, by decide, ?_⟩, ⟨⟨(show (5 : Int32).toInt = (3 : Int) + ((2 : Nat) : Int) from by decide), 46, 47, rfl, by decide, ?_⟩, trivial⟩⟩⟩ ?_
  · dsimp only
    refine sm_iload_n C 1 dX12_goodAs_28 rfl ?_
    refine sm_iconst C (1 : Int32) dX12_goodAs_29 ic_1 ?_
    refine sm_iadd C dX12_goodAs_30 ?_
    exact sm_iret C dX12_goodAs_31
  · dsimp only
    refine sm_iload_n C 2 dX12_goodAs_32 rfl ?_
    refine sm_iconst C (2 : Int32) dX12_goodAs_33 ic_2 ?_
    refine sm_irem C dX12_goodAs_34 (by decide) ?_
    refine sm_iconst C (1 : Int32) dX12_goodAs_35 ic_1 ?_
    refine sm_icmp_ne C 45 dX12_goodAs_36 (by decide) ?_ ?_
    · refine sm_iconst C (0 : Int32) dX12_goodAs_45 ic_0 ?_
      exact sm_iret C dX12_goodAs_46
    · refine sm_iconst C (2 : Int32) dX12_goodAs_39 ic_2 ?_
      refine sm_iload_n C 1 dX12_goodAs_40 rfl ?_
      refine sm_imul C dX12_goodAs_41 ?_
      refine sm_goto C 46 dX12_goodAs_42 (by decide) ?_
      exact sm_iret C dX12_goodAs_46
  · dsimp only
    refine sm_iload_n C 1 dX12_goodAs_47 rfl ?_
    refine sm_iload_n C 2 dX12_goodAs_48 rfl ?_
    refine sm_iconst C (2 : Int32) dX12_goodAs_49 ic_2 ?_
    refine sm_idiv C dX12_goodAs_50 (by decide) ?_
    refine sm_icmp_le C 62 dX12_goodAs_51 (by decide) ?_ ?_
    · refine sm_iconst C (0 : Int32) dX12_goodAs_62 ic_0 ?_
      exact sm_iret C dX12_goodAs_63
    · refine sm_iload_n C 1 dX12_goodAs_54 rfl ?_
      refine sm_iload_n C 2 dX12_goodAs_55 rfl ?_
      refine sm_iconst C (2 : Int32) dX12_goodAs_56 ic_2 ?_
      refine sm_idiv C dX12_goodAs_57 (by decide) ?_
      refine sm_isub C dX12_goodAs_58 ?_
      refine sm_goto C 63 dX12_goodAs_59 (by decide) ?_
      exact sm_iret C dX12_goodAs_63
  · refine sm_iload_n C 1 dX12_goodAs_64 rfl ?_
    exact sm_iret C dX12_goodAs_65
theorem dd_X12_isBarredBy : yX12_isBarredBy.cls ≠ "java/lang/invoke/MethodHandle" ∧ yX12_isBarredBy.cls ≠ "java/lang/invoke/VarHandle" ∧ (parseMethodDescriptor yX12_isBarredBy.desc).map (fun d => d.parameters.length) = some 2 := by decide +kernel
set_option maxRecDepth 100000 in
set_option maxHeartbeats 4000000 in
theorem sl_X12_isBarredBy_L11 {M : Mco} {w : Wco} (C : Cx M w cX12_isBarredBy 2 yX12_isBarredBy.cls (Cond.code yX12_isBarredBy cX12_isBarredBy 2 (some .boolean)) (some .boolean) { frames := 0, cells := 0, slots := 0, locals := 0 }) : ∀ (z0 : Int32) (z1 : Int32) (s0 : Sta), Sm M w 2 oI 11 [] [.int z0, .int z1] s0 (X12_isBarredBy_L11 z0 z1 s0) := by
  intro z0 z1 s0
  unfold X12_isBarredBy_L11
  refine sm_icmp_lt C 18 dX12_isBarredBy_11 (by decide) ?_ ?_
  · refine sm_iconst C (0 : Int32) dX12_isBarredBy_18 ic_0 ?_
    exact sm_zret C dX12_isBarredBy_19
  · refine sm_iconst C (1 : Int32) dX12_isBarredBy_14 ic_1 ?_
    refine sm_goto C 19 dX12_isBarredBy_15 (by decide) ?_
    exact sm_zret C dX12_isBarredBy_19
set_option maxRecDepth 100000 in
set_option maxHeartbeats 4000000 in
theorem ct_X12_isBarredBy {l : Launch} {w : Wco} (x1 : Int32) (x2 : Int32) (s0 : Sta) (qq : Int32) (ss : Sta) (hh : X12_isBarredBy x1 x2 s0 = some (qq, ss)) : Ct l w yX12_isBarredBy (Cond.code yX12_isBarredBy cX12_isBarredBy 2 (some .boolean) :: GT) { frames := 0, cells := 0, slots := 0, locals := 0 } [.int x1, .int x2] s0 (oI qq) ss := by
  refine ct_of [(0, .int x1), (1, .int x2)] (by decide +kernel) (Nat.le_of_ble_eq_true rfl) rfl hh (fun M _ C => ?_)
  unfold X12_isBarredBy
  refine sm_iload_n C 1 dX12_isBarredBy_0 rfl ?_
  refine sm_iload_n C 0 dX12_isBarredBy_1 rfl ?_
  refine sm_iconst C (2 : Int32) dX12_isBarredBy_2 ic_2 ?_
  refine sm_icmp_ne C 10 dX12_isBarredBy_3 (by decide) ?_ ?_
  · refine sm_iconst C (1 : Int32) dX12_isBarredBy_10 ic_1 ?_
    exact sm_sub [] rfl (sl_X12_isBarredBy_L11 C (1 : Int32) x2 s0)
  · refine sm_iconst C (2 : Int32) dX12_isBarredBy_6 ic_2 ?_
    refine sm_goto C 11 dX12_isBarredBy_7 (by decide) ?_
    exact sm_sub [] rfl (sl_X12_isBarredBy_L11 C (2 : Int32) x2 s0)
theorem dd_X12_goodOf : yX12_goodOf.cls = RX12 ∧ yX12_goodOf.cls ≠ "java/lang/invoke/MethodHandle" ∧ yX12_goodOf.cls ≠ "java/lang/invoke/VarHandle" ∧ (parseMethodDescriptor yX12_goodOf.desc).map (fun d => d.parameters.length) = some 3 := by decide +kernel
set_option maxRecDepth 100000 in
set_option maxHeartbeats 4000000 in
theorem ct_X12_goodOf {l : Launch} {w : Wco} (G : GW w) (x1 : Int32) (x2 : Int32) (x3 : Int32) (s0 : Sta) (qq : Int32) (ss : Sta) (hh : X12_goodOf x1 x2 x3 s0 = some (qq, ss)) : Ct l w yX12_goodOf (Cond.code yX12_goodOf cX12_goodOf 4 (some .int) :: GT) { frames := 1, cells := 0, slots := 0, locals := 22 } [.ref (wad w 82), .int x1, .int x2, .int x3] s0 (oI qq) ss := by
  refine ct_of [(0, .ref (wad w 82)), (1, .int x1), (2, .int x2), (3, .int x3)] (by decide +kernel) (Nat.le_of_ble_eq_true rfl) rfl hh (fun M _ C => ?_)
  unfold X12_goodOf
  refine sm_aload_n C 0 dX12_goodOf_0 rfl ?_
  refine sm_getR C (ci := 12) (R := RX12) (T := TX12) (N := 21) (j := 0) (G_M G).2 (G_M G).1 rfl gX12 (by decide) kw_864 dX12_goodOf_1 (fun _ _ => rfl) ?_
  refine sm_bipush C (17 : Int32) dX12_goodOf_4 bp_17 ?_
  refine sm_iload_n C 1 dX12_goodOf_6 rfl ?_
  refine sm_iadd C dX12_goodOf_7 ?_
  refine r_iald C (G_m83 G) dX12_goodOf_8 (fun v1 => ?_)
  refine sm_aload_n C 0 dX12_goodOf_9 rfl ?_
  refine sm_getR C (ci := 12) (R := RX12) (T := TX12) (N := 21) (j := 0) (G_M G).2 (G_M G).1 rfl gX12 (by decide) kw_864 dX12_goodOf_10 (fun _ _ => rfl) ?_
  refine sm_bipush C (23 : Int32) dX12_goodOf_13 bp_23 ?_
  refine sm_iconst C (3 : Int32) dX12_goodOf_15 ic_3 ?_
  refine sm_iload_n C 1 dX12_goodOf_16 rfl ?_
  refine sm_imul C dX12_goodOf_17 ?_
  refine sm_iadd C dX12_goodOf_18 ?_
  refine sm_iload_n C 2 dX12_goodOf_19 rfl ?_
  refine sm_iadd C dX12_goodOf_20 ?_
  refine r_iald C (G_m83 G) dX12_goodOf_21 (fun v2 => ?_)
  refine sm_iload_n C 3 dX12_goodOf_22 rfl ?_
  refine r_callSI C [.int v1, .int v2, .int x3] (fun qq ss hh => ct_X12_goodAs v1 v2 x3 s0 qq ss hh) kw_1018 kw_1019 kw_64 kw_1020 dX12_goodOf_23 rfl dd_X12_goodAs ⟨rfl, rfl⟩ ⟨by decide, by decide⟩ (Nat.le_of_ble_eq_true rfl) _ rfl (fun q3 s4 => ?_)
  exact sm_iret C dX12_goodOf_26
theorem dd_X12_layHand : yX12_layHand.cls = RX12 ∧ yX12_layHand.cls ≠ "java/lang/invoke/MethodHandle" ∧ yX12_layHand.cls ≠ "java/lang/invoke/VarHandle" ∧ (parseMethodDescriptor yX12_layHand.desc).map (fun d => d.parameters.length) = some 0 := by decide +kernel
set_option maxRecDepth 100000 in
set_option maxHeartbeats 4000000 in
theorem sl_X12_layHand_L55 {M : Mco} {w : Wco} (C : Cx M w cX12_layHand 2 yX12_layHand.cls (Cond.code yX12_layHand cX12_layHand 2 none) none { frames := 1, cells := 0, slots := 0, locals := 20 }) (G : GW w) : ∀ (n : Nat) (y1 : Int32) (s0 : Sta), Sm M w 2 oV 55 [(0, .ref (wad w 82)), (1, .int y1)] [] s0 (X12_layHand_L55 n y1 s0) := by
  intro n
  induction n with
  | zero => intros; exact sm_none
  | succ n ih =>
    intro y1 s0
    rw [X12_layHand_L55.eq_2]
    refine sm_iload_n C 1 dX12_layHand_55 rfl ?_
    refine sm_bipush C (8 : Int32) dX12_layHand_56 bp_8 ?_
    refine sm_icmp_ge C 97 dX12_layHand_58 (by decide) ?_ ?_
    · exact sm_vret C dX12_layHand_97
    · refine sm_aload_n C 0 dX12_layHand_61 rfl ?_
      refine sm_getR C (ci := 12) (R := RX12) (T := TX12) (N := 21) (j := 8) (G_M G).2 (G_M G).1 rfl gX12 (by decide) kw_872 dX12_layHand_62 (fun _ _ => rfl) ?_
      refine sm_iload_n C 1 dX12_layHand_65 rfl ?_
      refine sm_aload_n C 0 dX12_layHand_66 rfl ?_
      refine sm_getR C (ci := 12) (R := RX12) (T := TX12) (N := 21) (j := 0) (G_M G).2 (G_M G).1 rfl gX12 (by decide) kw_864 dX12_layHand_67 (fun _ _ => rfl) ?_
      refine sm_bipush C (41 : Int32) dX12_layHand_70 bp_41 ?_
      refine sm_iload_n C 1 dX12_layHand_72 rfl ?_
      refine sm_iadd C dX12_layHand_73 ?_
      refine r_iald C (G_m83 G) dX12_layHand_74 (fun v8 => ?_)
      refine r_iast C (G_m89 G) dX12_layHand_75 (fun s9 => ?_)
      refine sm_aload_n C 0 dX12_layHand_76 rfl ?_
      refine sm_getR C (ci := 12) (R := RX12) (T := TX12) (N := 21) (j := 9) (G_M G).2 (G_M G).1 rfl gX12 (by decide) kw_873 dX12_layHand_77 (fun _ _ => rfl) ?_
      refine sm_iload_n C 1 dX12_layHand_80 rfl ?_
      refine sm_aload_n C 0 dX12_layHand_81 rfl ?_
      refine sm_getR C (ci := 12) (R := RX12) (T := TX12) (N := 21) (j := 0) (G_M G).2 (G_M G).1 rfl gX12 (by decide) kw_864 dX12_layHand_82 (fun _ _ => rfl) ?_
      refine sm_bipush C (49 : Int32) dX12_layHand_85 bp_49 ?_
      refine sm_iload_n C 1 dX12_layHand_87 rfl ?_
      refine sm_iadd C dX12_layHand_88 ?_
      refine r_iald C (G_m83 G) dX12_layHand_89 (fun v10 => ?_)
      refine r_iast C (G_m90 G) dX12_layHand_90 (fun s11 => ?_)
      refine sm_iinc C 1 (y1 + (1 : Int32)) [(1, .int (y1 + (1 : Int32))), (0, .ref (wad w 82))] dX12_layHand_91 rfl (ii_1 _) (by decide) rfl ?_
      refine sm_goto C 55 dX12_layHand_94 (by decide) ?_
      exact sm_sub [1, 0] rfl (ih (y1 + (1 : Int32)) s11)
set_option maxRecDepth 100000 in
set_option maxHeartbeats 4000000 in
theorem sl_X12_layHand_L2 {M : Mco} {w : Wco} (C : Cx M w cX12_layHand 2 yX12_layHand.cls (Cond.code yX12_layHand cX12_layHand 2 none) none { frames := 1, cells := 0, slots := 0, locals := 20 }) (G : GW w) : ∀ (n : Nat) (y1 : Int32) (s0 : Sta), Sm M w 2 oV 2 [(0, .ref (wad w 82)), (1, .int y1)] [] s0 (X12_layHand_L2 n y1 s0) := by
  intro n
  induction n with
  | zero => intros; exact sm_none
  | succ n ih =>
    intro y1 s0
    rw [X12_layHand_L2.eq_2]
    refine sm_iload_n C 1 dX12_layHand_2 rfl ?_
    refine sm_aload_n C 0 dX12_layHand_3 rfl ?_
    refine r_callVI C (R := RX12) (T := TX12) (N := 21) [] (G_M G) rfl (fun qq ss hh => ct_X12_many G s0 qq ss hh) kw_932 kw_934 kw_17 kw_64 kw_935 dX12_layHand_4 rfl dd_X12_many ⟨rfl, rfl⟩ ⟨by decide, by decide⟩ (Nat.le_of_ble_eq_true rfl) _ rfl (fun q1 s2 => ?_)
    refine sm_icmp_ge C 53 dX12_layHand_7 (by decide) ?_ ?_
    · refine sm_iconst C (0 : Int32) dX12_layHand_53 ic_0 ?_
      refine sm_istore_n C [(1, .int (0 : Int32)), (0, .ref (wad w 82))] dX12_layHand_54 (by decide) rfl ?_
      exact sm_sub [1, 0] rfl (sl_X12_layHand_L55 C G FU (0 : Int32) s2)
    · refine sm_aload_n C 0 dX12_layHand_10 rfl ?_
      refine sm_getR C (ci := 12) (R := RX12) (T := TX12) (N := 21) (j := 6) (G_M G).2 (G_M G).1 rfl gX12 (by decide) kw_870 dX12_layHand_11 (fun _ _ => rfl) ?_
      refine sm_iload_n C 1 dX12_layHand_14 rfl ?_
      refine sm_aload_n C 0 dX12_layHand_15 rfl ?_
      refine sm_getR C (ci := 12) (R := RX12) (T := TX12) (N := 21) (j := 0) (G_M G).2 (G_M G).1 rfl gX12 (by decide) kw_864 dX12_layHand_16 (fun _ _ => rfl) ?_
      refine sm_iconst C (5 : Int32) dX12_layHand_19 ic_5 ?_
      refine sm_iload_n C 1 dX12_layHand_20 rfl ?_
      refine sm_iadd C dX12_layHand_21 ?_
      refine r_iald C (G_m83 G) dX12_layHand_22 (fun v3 => ?_)
      refine r_iast C (G_m87 G) dX12_layHand_23 (fun s4 => ?_)
      refine sm_aload_n C 0 dX12_layHand_24 rfl ?_
      refine sm_getR C (ci := 12) (R := RX12) (T := TX12) (N := 21) (j := 7) (G_M G).2 (G_M G).1 rfl gX12 (by decide) kw_871 dX12_layHand_25 (fun _ _ => rfl) ?_
      refine sm_iload_n C 1 dX12_layHand_28 rfl ?_
      refine sm_aload_n C 0 dX12_layHand_29 rfl ?_
      refine sm_getR C (ci := 12) (R := RX12) (T := TX12) (N := 21) (j := 0) (G_M G).2 (G_M G).1 rfl gX12 (by decide) kw_864 dX12_layHand_30 (fun _ _ => rfl) ?_
      refine sm_bipush C (11 : Int32) dX12_layHand_33 bp_11 ?_
      refine sm_iload_n C 1 dX12_layHand_35 rfl ?_
      refine sm_iadd C dX12_layHand_36 ?_
      refine r_iald C (G_m83 G) dX12_layHand_37 (fun v5 => ?_)
      refine r_iast C (G_m88 G) dX12_layHand_38 (fun s6 => ?_)
      refine sm_aload_n C 0 dX12_layHand_39 rfl ?_
      refine sm_getR C (ci := 12) (R := RX12) (T := TX12) (N := 21) (j := 10) (G_M G).2 (G_M G).1 rfl gX12 (by decide) kw_874 dX12_layHand_40 (fun _ _ => rfl) ?_
      refine sm_iload_n C 1 dX12_layHand_43 rfl ?_
      refine sm_bipush C (-2 : Int32) dX12_layHand_44 bp_m2 ?_
      refine r_iast C (G_m91 G) dX12_layHand_46 (fun s7 => ?_)
      refine sm_iinc C 1 (y1 + (1 : Int32)) [(1, .int (y1 + (1 : Int32))), (0, .ref (wad w 82))] dX12_layHand_47 rfl (ii_1 _) (by decide) rfl ?_
      refine sm_goto C 2 dX12_layHand_50 (by decide) ?_
      exact sm_sub [1, 0] rfl (ih (y1 + (1 : Int32)) s7)
set_option maxRecDepth 100000 in
set_option maxHeartbeats 4000000 in
theorem ct_X12_layHand {l : Launch} {w : Wco} (G : GW w) (s0 : Sta) (qq : Unit) (ss : Sta) (hh : X12_layHand s0 = some (qq, ss)) : Ct l w yX12_layHand (Cond.code yX12_layHand cX12_layHand 2 none :: GT) { frames := 1, cells := 0, slots := 0, locals := 20 } [.ref (wad w 82)] s0 (oV qq) ss := by
  refine ct_of [(0, .ref (wad w 82))] (by decide +kernel) (Nat.le_of_ble_eq_true rfl) rfl hh (fun M _ C => ?_)
  unfold X12_layHand
  refine sm_iconst C (0 : Int32) dX12_layHand_0 ic_0 ?_
  refine sm_istore_n C [(1, .int (0 : Int32)), (0, .ref (wad w 82))] dX12_layHand_1 (by decide) rfl ?_
  exact sm_sub [1, 0] rfl (sl_X12_layHand_L2 C G FU (0 : Int32) s0)
theorem dd_X12_tries : yX12_tries.cls = RX12 ∧ yX12_tries.cls ≠ "java/lang/invoke/MethodHandle" ∧ yX12_tries.cls ≠ "java/lang/invoke/VarHandle" ∧ (parseMethodDescriptor yX12_tries.desc).map (fun d => d.parameters.length) = some 2 := by decide +kernel
set_option maxRecDepth 100000 in
set_option maxHeartbeats 4000000 in
theorem ct_X12_tries {l : Launch} {w : Wco} (G : GW w) (x1 : Int32) (x2 : Int32) (s0 : Sta) (qq : Int32) (ss : Sta) (hh : X12_tries x1 x2 s0 = some (qq, ss)) : Ct l w yX12_tries (Cond.code yX12_tries cX12_tries 3 (some .boolean) :: GT) { frames := 1, cells := 0, slots := 0, locals := 23 } [.ref (wad w 82), .int x1, .int x2] s0 (oI qq) ss := by
  refine ct_of [(0, .ref (wad w 82)), (1, .int x1), (2, .int x2)] (by decide +kernel) (Nat.le_of_ble_eq_true rfl) rfl hh (fun M _ C => ?_)
  unfold X12_tries
  refine sm_aload_n C 0 dX12_tries_0 rfl ?_
  refine sm_getR C (ci := 12) (R := RX12) (T := TX12) (N := 21) (j := 10) (G_M G).2 (G_M G).1 rfl gX12 (by decide) kw_874 dX12_tries_1 (fun _ _ => rfl) ?_
  refine sm_iload_n C 1 dX12_tries_4 rfl ?_
  refine r_iald C (G_m91 G) dX12_tries_5 (fun v1 => ?_)
  refine sm_bipush C (-2 : Int32) dX12_tries_6 bp_m2 ?_
  refine sm_icmp_ne C 36 dX12_tries_8 (by decide) ?_ ?_
  · refine sm_aload_n C 0 dX12_tries_36 rfl ?_
    refine sm_getR C (ci := 12) (R := RX12) (T := TX12) (N := 21) (j := 10) (G_M G).2 (G_M G).1 rfl gX12 (by decide) kw_874 dX12_tries_37 (fun _ _ => rfl) ?_
    refine sm_iload_n C 1 dX12_tries_40 rfl ?_
    refine r_iald C (G_m91 G) dX12_tries_41 (fun v2 => ?_)
    refine sm_iload_n C 2 dX12_tries_42 rfl ?_
    refine sm_icmp_ne C 50 dX12_tries_43 (by decide) ?_ ?_
    · refine sm_iconst C (0 : Int32) dX12_tries_50 ic_0 ?_
      exact sm_zret C dX12_tries_51
    · refine sm_iconst C (1 : Int32) dX12_tries_46 ic_1 ?_
      refine sm_goto C 51 dX12_tries_47 (by decide) ?_
      exact sm_zret C dX12_tries_51
  · refine sm_aload_n C 0 dX12_tries_11 rfl ?_
    refine sm_getR C (ci := 12) (R := RX12) (T := TX12) (N := 21) (j := 0) (G_M G).2 (G_M G).1 rfl gX12 (by decide) kw_864 dX12_tries_12 (fun _ _ => rfl) ?_
    refine sm_bipush C (17 : Int32) dX12_tries_15 bp_17 ?_
    refine sm_iload_n C 1 dX12_tries_17 rfl ?_
    refine sm_iadd C dX12_tries_18 ?_
    refine r_iald C (G_m83 G) dX12_tries_19 (fun v3 => ?_)
    refine sm_aload_n C 0 dX12_tries_20 rfl ?_
    refine sm_getR C (ci := 12) (R := RX12) (T := TX12) (N := 21) (j := 9) (G_M G).2 (G_M G).1 rfl gX12 (by decide) kw_873 dX12_tries_21 (fun _ _ => rfl) ?_
    refine sm_iload_n C 2 dX12_tries_24 rfl ?_
    refine r_iald C (G_m90 G) dX12_tries_25 (fun v4 => ?_)
    refine sm_bipush C (7 : Int32) dX12_tries_26 bp_7 ?_
    refine sm_iload_n C 2 dX12_tries_28 rfl ?_
    refine sm_isub C dX12_tries_29 ?_
    refine r_callSI C [.int v3, .int v4, .int ((7 : Int32) - x2)] (fun qq ss hh => ct_X12_triesAs v3 v4 ((7 : Int32) - x2) s0 qq ss hh) kw_1011 kw_1012 kw_64 kw_1013 dX12_tries_30 rfl dd_X12_triesAs ⟨rfl, rfl⟩ ⟨by decide, by decide⟩ (Nat.le_of_ble_eq_true rfl) _ rfl (fun q5 s6 => ?_)
    refine sm_goto C 51 dX12_tries_33 (by decide) ?_
    exact sm_zret C dX12_tries_51
theorem dd_X12_isBarred : yX12_isBarred.cls = RX12 ∧ yX12_isBarred.cls ≠ "java/lang/invoke/MethodHandle" ∧ yX12_isBarred.cls ≠ "java/lang/invoke/VarHandle" ∧ (parseMethodDescriptor yX12_isBarred.desc).map (fun d => d.parameters.length) = some 1 := by decide +kernel
set_option maxRecDepth 100000 in
set_option maxHeartbeats 4000000 in
theorem ct_X12_isBarred {l : Launch} {w : Wco} (G : GW w) (x1 : Int32) (s0 : Sta) (qq : Int32) (ss : Sta) (hh : X12_isBarred x1 s0 = some (qq, ss)) : Ct l w yX12_isBarred (Cond.code yX12_isBarred cX12_isBarred 2 (some .boolean) :: GT) { frames := 1, cells := 0, slots := 0, locals := 22 } [.ref (wad w 82), .int x1] s0 (oI qq) ss := by
  refine ct_of [(0, .ref (wad w 82)), (1, .int x1)] (by decide +kernel) (Nat.le_of_ble_eq_true rfl) rfl hh (fun M _ C => ?_)
  unfold X12_isBarred
  refine sm_aload_n C 0 dX12_isBarred_0 rfl ?_
  refine sm_getR C (ci := 12) (R := RX12) (T := TX12) (N := 21) (j := 0) (G_M G).2 (G_M G).1 rfl gX12 (by decide) kw_864 dX12_isBarred_1 (fun _ _ => rfl) ?_
  refine sm_bipush C (17 : Int32) dX12_isBarred_4 bp_17 ?_
  refine sm_iload_n C 1 dX12_isBarred_6 rfl ?_
  refine sm_iadd C dX12_isBarred_7 ?_
  refine r_iald C (G_m83 G) dX12_isBarred_8 (fun v1 => ?_)
  refine sm_aload_n C 0 dX12_isBarred_9 rfl ?_
  refine sm_getR C (ci := 12) (R := RX12) (T := TX12) (N := 21) (j := 6) (G_M G).2 (G_M G).1 rfl gX12 (by decide) kw_870 dX12_isBarred_10 (fun _ _ => rfl) ?_
  refine sm_iload_n C 1 dX12_isBarred_13 rfl ?_
  refine r_iald C (G_m87 G) dX12_isBarred_14 (fun v2 => ?_)
  refine r_callSI C [.int v2] (fun qq ss hh => ct_X12_bits v2 s0 qq ss hh) kw_1001 kw_1002 kw_64 kw_1003 dX12_isBarred_15 rfl dd_X12_bits ⟨rfl, rfl⟩ ⟨by decide, by decide⟩ (Nat.le_of_ble_eq_true rfl) _ rfl (fun q3 s4 => ?_)
  refine r_callSI C [.int v1, .int q3] (fun qq ss hh => ct_X12_isBarredBy v1 q3 s4 qq ss hh) kw_1004 kw_1005 kw_64 kw_1006 dX12_isBarred_18 rfl dd_X12_isBarredBy ⟨rfl, rfl⟩ ⟨by decide, by decide⟩ (Nat.le_of_ble_eq_true rfl) _ rfl (fun q5 s6 => ?_)
  exact sm_zret C dX12_isBarred_21
theorem dd_X12_enters : yX12_enters.cls = RX12 ∧ yX12_enters.cls ≠ "java/lang/invoke/MethodHandle" ∧ yX12_enters.cls ≠ "java/lang/invoke/VarHandle" ∧ (parseMethodDescriptor yX12_enters.desc).map (fun d => d.parameters.length) = some 2 := by decide +kernel
set_option maxRecDepth 100000 in
set_option maxHeartbeats 4000000 in
theorem ct_X12_enters {l : Launch} {w : Wco} (G : GW w) (x1 : Int32) (x2 : Int32) (s0 : Sta) (qq : Int32) (ss : Sta) (hh : X12_enters x1 x2 s0 = some (qq, ss)) : Ct l w yX12_enters (Cond.code yX12_enters cX12_enters 3 (some .boolean) :: GT) { frames := 2, cells := 0, slots := 0, locals := 45 } [.ref (wad w 82), .int x1, .int x2] s0 (oI qq) ss := by
  refine ct_of [(0, .ref (wad w 82)), (1, .int x1), (2, .int x2)] (by decide +kernel) (Nat.le_of_ble_eq_true rfl) rfl hh (fun M _ C => ?_)
  unfold X12_enters
  refine sm_aload_n C 0 dX12_enters_0 rfl ?_
  refine sm_getR C (ci := 12) (R := RX12) (T := TX12) (N := 21) (j := 8) (G_M G).2 (G_M G).1 rfl gX12 (by decide) kw_872 dX12_enters_1 (fun _ _ => rfl) ?_
  refine sm_iload_n C 2 dX12_enters_4 rfl ?_
  refine r_iald C (G_m89 G) dX12_enters_5 (fun v1 => ?_)
  refine sm_iconst C (-1 : Int32) dX12_enters_6 ic_m1 ?_
  refine sm_icmp_eq C 47 dX12_enters_7 (by decide) ?_ ?_
  · refine sm_iconst C (0 : Int32) dX12_enters_47 ic_0 ?_
    exact sm_zret C dX12_enters_48
  · refine sm_aload_n C 0 dX12_enters_10 rfl ?_
    refine sm_iload_n C 1 dX12_enters_11 rfl ?_
    refine r_callVI C (R := RX12) (T := TX12) (N := 21) [.int x1] (G_M G) rfl (fun qq ss hh => ct_X12_isBarred G x1 s0 qq ss hh) kw_997 kw_999 kw_26 kw_64 kw_1000 dX12_enters_12 rfl dd_X12_isBarred ⟨rfl, rfl⟩ ⟨by decide, by decide⟩ (Nat.le_of_ble_eq_true rfl) _ rfl (fun q2 s3 => ?_)
    refine sm_if_ne C 47 dX12_enters_15 (by decide) ?_ ?_
    · refine sm_iconst C (0 : Int32) dX12_enters_47 ic_0 ?_
      exact sm_zret C dX12_enters_48
    · refine sm_aload_n C 0 dX12_enters_18 rfl ?_
      refine sm_iload_n C 1 dX12_enters_19 rfl ?_
      refine sm_iload_n C 2 dX12_enters_20 rfl ?_
      refine r_callVI C (R := RX12) (T := TX12) (N := 21) [.int x1, .int x2] (G_M G) rfl (fun qq ss hh => ct_X12_tries G x1 x2 s3 qq ss hh) kw_1007 kw_1009 kw_27 kw_64 kw_1010 dX12_enters_21 rfl dd_X12_tries ⟨rfl, rfl⟩ ⟨by decide, by decide⟩ (Nat.le_of_ble_eq_true rfl) _ rfl (fun q4 s5 => ?_)
      refine sm_if_eq C 47 dX12_enters_24 (by decide) ?_ ?_
      · refine sm_iconst C (0 : Int32) dX12_enters_47 ic_0 ?_
        exact sm_zret C dX12_enters_48
      · refine sm_aload_n C 0 dX12_enters_27 rfl ?_
        refine sm_iload_n C 1 dX12_enters_28 rfl ?_
        refine sm_aload_n C 0 dX12_enters_29 rfl ?_
        refine sm_getR C (ci := 12) (R := RX12) (T := TX12) (N := 21) (j := 8) (G_M G).2 (G_M G).1 rfl gX12 (by decide) kw_872 dX12_enters_30 (fun _ _ => rfl) ?_
        refine sm_iload_n C 2 dX12_enters_33 rfl ?_
        refine r_iald C (G_m89 G) dX12_enters_34 (fun v6 => ?_)
        refine sm_iload_n C 2 dX12_enters_35 rfl ?_
        refine r_callVI C (R := RX12) (T := TX12) (N := 21) [.int x1, .int v6, .int x2] (G_M G) rfl (fun qq ss hh => ct_X12_goodOf G x1 v6 x2 s5 qq ss hh) kw_1014 kw_1016 kw_28 kw_64 kw_1017 dX12_enters_36 rfl dd_X12_goodOf ⟨rfl, rfl⟩ ⟨by decide, by decide⟩ (Nat.le_of_ble_eq_true rfl) _ rfl (fun q7 s8 => ?_)
        refine sm_iconst C (1 : Int32) dX12_enters_39 ic_1 ?_
        refine sm_icmp_lt C 47 dX12_enters_40 (by decide) ?_ ?_
        · refine sm_iconst C (0 : Int32) dX12_enters_47 ic_0 ?_
          exact sm_zret C dX12_enters_48
        · refine sm_iconst C (1 : Int32) dX12_enters_43 ic_1 ?_
          refine sm_goto C 48 dX12_enters_44 (by decide) ?_
          exact sm_zret C dX12_enters_48
theorem dd_X12_bestIn : yX12_bestIn.cls = RX12 ∧ yX12_bestIn.cls ≠ "java/lang/invoke/MethodHandle" ∧ yX12_bestIn.cls ≠ "java/lang/invoke/VarHandle" ∧ (parseMethodDescriptor yX12_bestIn.desc).map (fun d => d.parameters.length) = some 2 := by decide +kernel
set_option maxRecDepth 100000 in
set_option maxHeartbeats 4000000 in
theorem sl_X12_bestIn_L8 {M : Mco} {w : Wco} (C : Cx M w cX12_bestIn 6 yX12_bestIn.cls (Cond.code yX12_bestIn cX12_bestIn 6 (some .int)) (some .int) { frames := 3, cells := 0, slots := 0, locals := 67 }) (G : GW w) : ∀ (n : Nat) (y1 : Int32) (y2 : Int32) (y3 : Int32) (y4 : Int32) (y5 : Int32) (s0 : Sta), Sm M w 6 oI 8 [(0, .ref (wad w 82)), (1, .int y1), (2, .int y2), (3, .int y3), (4, .int y4), (5, .int y5)] [] s0 (X12_bestIn_L8 n y1 y2 y3 y4 y5 s0) := by
  intro n
  induction n with
  | zero => intros; exact sm_none
  | succ n ih =>
    intro y1 y2 y3 y4 y5 s0
    rw [X12_bestIn_L8.eq_2]
    refine sm_iload C 5 dX12_bestIn_8 rfl ?_
    refine sm_aload_n C 0 dX12_bestIn_10 rfl ?_
    refine r_callVI C (R := RX12) (T := TX12) (N := 21) [] (G_M G) rfl (fun qq ss hh => ct_X12_many G s0 qq ss hh) kw_932 kw_934 kw_17 kw_64 kw_935 dX12_bestIn_11 rfl dd_X12_many ⟨rfl, rfl⟩ ⟨by decide, by decide⟩ (Nat.le_of_ble_eq_true rfl) _ rfl (fun q1 s2 => ?_)
    refine sm_icmp_ge C 75 dX12_bestIn_14 (by decide) ?_ ?_
    · refine sm_iload_n C 3 dX12_bestIn_75 rfl ?_
      exact sm_iret C dX12_bestIn_76
    · refine sm_iload C 5 dX12_bestIn_17 rfl ?_
      refine sm_iload_n C 2 dX12_bestIn_19 rfl ?_
      refine sm_icmp_eq C 69 dX12_bestIn_20 (by decide) ?_ ?_
      · refine sm_iinc C 5 (y5 + (1 : Int32)) [(5, .int (y5 + (1 : Int32))), (0, .ref (wad w 82)), (1, .int y1), (2, .int y2), (3, .int y3), (4, .int y4)] dX12_bestIn_69 rfl (ii_1 _) (by decide) rfl ?_
        refine sm_goto C 8 dX12_bestIn_72 (by decide) ?_
        exact sm_sub [1, 2, 3, 4, 5, 0] rfl (ih y1 y2 y3 y4 (y5 + (1 : Int32)) s2)
      · refine sm_aload_n C 0 dX12_bestIn_23 rfl ?_
        refine sm_iload C 5 dX12_bestIn_24 rfl ?_
        refine sm_iload_n C 1 dX12_bestIn_26 rfl ?_
        refine r_callVI C (R := RX12) (T := TX12) (N := 21) [.int y5, .int y1] (G_M G) rfl (fun qq ss hh => ct_X12_enters G y5 y1 s2 qq ss hh) kw_993 kw_995 kw_25 kw_64 kw_996 dX12_bestIn_27 rfl dd_X12_enters ⟨rfl, rfl⟩ ⟨by decide, by decide⟩ (Nat.le_of_ble_eq_true rfl) _ rfl (fun q3 s4 => ?_)
        refine sm_if_eq C 69 dX12_bestIn_30 (by decide) ?_ ?_
        · refine sm_iinc C 5 (y5 + (1 : Int32)) [(5, .int (y5 + (1 : Int32))), (0, .ref (wad w 82)), (1, .int y1), (2, .int y2), (3, .int y3), (4, .int y4)] dX12_bestIn_69 rfl (ii_1 _) (by decide) rfl ?_
          refine sm_goto C 8 dX12_bestIn_72 (by decide) ?_
          exact sm_sub [1, 2, 3, 4, 5, 0] rfl (ih y1 y2 y3 y4 (y5 + (1 : Int32)) s4)
        · refine sm_aload_n C 0 dX12_bestIn_33 rfl ?_
          refine sm_iload C 5 dX12_bestIn_34 rfl ?_
          refine sm_aload_n C 0 dX12_bestIn_36 rfl ?_
          refine sm_getR C (ci := 12) (R := RX12) (T := TX12) (N := 21) (j := 8) (G_M G).2 (G_M G).1 rfl gX12 (by decide) kw_872 dX12_bestIn_37 (fun _ _ => rfl) ?_
          refine sm_iload_n C 1 dX12_bestIn_40 rfl ?_
          refine r_iald C (G_m89 G) dX12_bestIn_41 (fun v5 => ?_)
          refine sm_iload_n C 1 dX12_bestIn_42 rfl ?_
          refine r_callVI C (R := RX12) (T := TX12) (N := 21) [.int y5, .int v5, .int y1] (G_M G) rfl (fun qq ss hh => ct_X12_goodOf G y5 v5 y1 s4 qq ss hh) kw_1014 kw_1016 kw_28 kw_64 kw_1017 dX12_bestIn_43 rfl dd_X12_goodOf ⟨rfl, rfl⟩ ⟨by decide, by decide⟩ (Nat.le_of_ble_eq_true rfl) _ rfl (fun q6 s7 => ?_)
          refine sm_iload C 4 dX12_bestIn_46 rfl ?_
          refine sm_icmp_le C 69 dX12_bestIn_48 (by decide) ?_ ?_
          · refine sm_iinc C 5 (y5 + (1 : Int32)) [(5, .int (y5 + (1 : Int32))), (0, .ref (wad w 82)), (1, .int y1), (2, .int y2), (3, .int y3), (4, .int y4)] dX12_bestIn_69 rfl (ii_1 _) (by decide) rfl ?_
            refine sm_goto C 8 dX12_bestIn_72 (by decide) ?_
            exact sm_sub [1, 2, 3, 4, 5, 0] rfl (ih y1 y2 y3 y4 (y5 + (1 : Int32)) s7)
          · refine sm_iload C 5 dX12_bestIn_51 rfl ?_
            refine sm_istore_n C [(3, .int y5), (0, .ref (wad w 82)), (1, .int y1), (2, .int y2), (4, .int y4), (5, .int y5)] dX12_bestIn_53 (by decide) rfl ?_
            refine sm_aload_n C 1 dX12_bestIn_54 rfl ?_
            refine sm_iload C 5 dX12_bestIn_55 rfl ?_
            refine sm_aload_n C 1 dX12_bestIn_57 rfl ?_
            refine sm_getR C (ci := 12) (R := RX12) (T := TX12) (N := 21) (j := 8) (G_M G).2 (G_M G).1 rfl gX12 (by decide) kw_872 dX12_bestIn_58 (fun _ _ => rfl) ?_
            refine sm_iload_n C 2 dX12_bestIn_61 rfl ?_
            refine r_iald C (G_m89 G) dX12_bestIn_62 (fun v8 => ?_)
            refine sm_iload_n C 2 dX12_bestIn_63 rfl ?_
            refine r_callVI C (R := RX12) (T := TX12) (N := 21) [.int y5, .int v8, .int y1] (G_M G) rfl (fun qq ss hh => ct_X12_goodOf G y5 v8 y1 s7 qq ss hh) kw_1014 kw_1016 kw_28 kw_64 kw_1017 dX12_bestIn_64 rfl dd_X12_goodOf ⟨rfl, rfl⟩ ⟨by decide, by decide⟩ (Nat.le_of_ble_eq_true rfl) _ rfl (fun q9 s10 => ?_)
            refine sm_istore C [(4, .int q9), (3, .int y5), (0, .ref (wad w 82)), (1, .int y1), (2, .int y2), (5, .int y5)] dX12_bestIn_67 (by decide) rfl ?_
            refine sm_iinc C 5 (y5 + (1 : Int32)) [(5, .int (y5 + (1 : Int32))), (4, .int q9), (3, .int y5), (0, .ref (wad w 82)), (1, .int y1), (2, .int y2)] dX12_bestIn_69 rfl (ii_1 _) (by decide) rfl ?_
            refine sm_goto C 8 dX12_bestIn_72 (by decide) ?_
            exact sm_sub [3, 4, 5, 2, 1, 0] rfl (ih y1 y2 y5 q9 (y5 + (1 : Int32)) s10)
set_option maxRecDepth 100000 in
set_option maxHeartbeats 4000000 in
theorem ct_X12_bestIn {l : Launch} {w : Wco} (G : GW w) (x1 : Int32) (x2 : Int32) (s0 : Sta) (qq : Int32) (ss : Sta) (hh : X12_bestIn x1 x2 s0 = some (qq, ss)) : Ct l w yX12_bestIn (Cond.code yX12_bestIn cX12_bestIn 6 (some .int) :: GT) { frames := 3, cells := 0, slots := 0, locals := 67 } [.ref (wad w 82), .int x1, .int x2] s0 (oI qq) ss := by
  refine ct_of [(0, .ref (wad w 82)), (1, .int x1), (2, .int x2)] (by decide +kernel) (Nat.le_of_ble_eq_true rfl) rfl hh (fun M _ C => ?_)
  unfold X12_bestIn
  refine sm_iconst C (-1 : Int32) dX12_bestIn_0 ic_m1 ?_
  refine sm_istore_n C [(3, .int (-1 : Int32)), (0, .ref (wad w 82)), (1, .int x1), (2, .int x2)] dX12_bestIn_1 (by decide) rfl ?_
  refine sm_iconst C (0 : Int32) dX12_bestIn_2 ic_0 ?_
  refine sm_istore C [(4, .int (0 : Int32)), (3, .int (-1 : Int32)), (0, .ref (wad w 82)), (1, .int x1), (2, .int x2)] dX12_bestIn_3 (by decide) rfl ?_
  refine sm_iconst C (0 : Int32) dX12_bestIn_5 ic_0 ?_
  refine sm_istore C [(5, .int (0 : Int32)), (4, .int (0 : Int32)), (3, .int (-1 : Int32)), (0, .ref (wad w 82)), (1, .int x1), (2, .int x2)] dX12_bestIn_6 (by decide) rfl ?_
  exact sm_sub [3, 4, 5, 2, 1, 0] rfl (sl_X12_bestIn_L8 C G FU x1 x2 (-1 : Int32) (0 : Int32) (0 : Int32) s0)
theorem dd_X12_goYear : yX12_goYear.cls = RX12 ∧ yX12_goYear.cls ≠ "java/lang/invoke/MethodHandle" ∧ yX12_goYear.cls ≠ "java/lang/invoke/VarHandle" ∧ (parseMethodDescriptor yX12_goYear.desc).map (fun d => d.parameters.length) = some 1 := by decide +kernel
set_option maxRecDepth 100000 in
set_option maxHeartbeats 4000000 in
theorem sl_X12_goYear_L40 {M : Mco} {w : Wco} (C : Cx M w cX12_goYear 4 yX12_goYear.cls (Cond.code yX12_goYear cX12_goYear 4 (some .int)) (some .int) { frames := 4, cells := 0, slots := 0, locals := 92 }) (G : GW w) : ∀ (y2 : Int32) (y3 : Int32) (s0 : Sta), Sm M w 4 oI 40 [(0, .ref (wad w 82)), (2, .int y2), (3, .int y3)] [] s0 (X12_goYear_L40 y2 y3 s0) := by
  intro y2 y3 s0
  unfold X12_goYear_L40
  refine sm_iload_n C 2 dX12_goYear_40 rfl ?_
  refine sm_iconst C (-1 : Int32) dX12_goYear_41 ic_m1 ?_
  refine sm_icmp_eq C 55 dX12_goYear_42 (by decide) ?_ ?_
  · refine sm_iload_n C 1 dX12_goYear_55 rfl ?_
    exact sm_iret C dX12_goYear_56
  · refine sm_aload_n C 0 dX12_goYear_45 rfl ?_
    refine sm_getR C (ci := 12) (R := RX12) (T := TX12) (N := 21) (j := 7) (G_M G).2 (G_M G).1 rfl gX12 (by decide) kw_871 dX12_goYear_46 (fun _ _ => rfl) ?_
    refine sm_iload_n C 2 dX12_goYear_49 rfl ?_
    refine sm_dup2 C dX12_goYear_50 rfl rfl ?_
    refine r_iald C (G_m88 G) dX12_goYear_51 (fun v7 => ?_)
    refine sm_iconst C (1 : Int32) dX12_goYear_52 ic_1 ?_
    refine sm_iadd C dX12_goYear_53 ?_
    refine r_iast C (G_m88 G) dX12_goYear_54 (fun s8 => ?_)
    refine sm_iload_n C 1 dX12_goYear_55 rfl ?_
    exact sm_iret C dX12_goYear_56
set_option maxRecDepth 100000 in
set_option maxHeartbeats 4000000 in
theorem sl_X12_goYear_L22 {M : Mco} {w : Wco} (C : Cx M w cX12_goYear 4 yX12_goYear.cls (Cond.code yX12_goYear cX12_goYear 4 (some .int)) (some .int) { frames := 4, cells := 0, slots := 0, locals := 92 }) (G : GW w) : ∀ (y1 : Int32) (y2 : Int32) (z0 : Int32) (s0 : Sta), Sm M w 4 oI 22 [(0, .ref (wad w 82)), (1, .int y1), (2, .int y2)] [.int z0] s0 (X12_goYear_L22 y1 y2 z0 s0) := by
  intro y1 y2 z0 s0
  unfold X12_goYear_L22
  refine sm_istore_n C [(3, .int z0), (0, .ref (wad w 82)), (1, .int y1), (2, .int y2)] dX12_goYear_22 (by decide) rfl ?_
  refine sm_iload_n C 3 dX12_goYear_23 rfl ?_
  refine sm_iconst C (-1 : Int32) dX12_goYear_24 ic_m1 ?_
  refine sm_icmp_eq C 40 dX12_goYear_25 (by decide) ?_ ?_
  · exact sm_sub [1, 3, 0] rfl (sl_X12_goYear_L40 C G y2 z0 s0)
  · refine sm_aload_n C 1 dX12_goYear_28 rfl ?_
    refine sm_getR C (ci := 12) (R := RX12) (T := TX12) (N := 21) (j := 6) (G_M G).2 (G_M G).1 rfl gX12 (by decide) kw_870 dX12_goYear_29 (fun _ _ => rfl) ?_
    refine sm_iload_n C 3 dX12_goYear_32 rfl ?_
    refine sm_dup2 C dX12_goYear_33 rfl rfl ?_
    refine r_iald C (G_m87 G) dX12_goYear_34 (fun v5 => ?_)
    refine sm_iconst C (1 : Int32) dX12_goYear_35 ic_1 ?_
    refine sm_iload_n C 2 dX12_goYear_36 rfl ?_
    refine sm_ishl C dX12_goYear_37 ?_
    refine sm_ior C dX12_goYear_38 ?_
    refine r_iast C (G_m87 G) dX12_goYear_39 (fun s6 => ?_)
    exact sm_sub [1, 3, 0] rfl (sl_X12_goYear_L40 C G y2 z0 s6)
set_option maxRecDepth 100000 in
set_option maxHeartbeats 4000000 in
theorem ct_X12_goYear {l : Launch} {w : Wco} (G : GW w) (x1 : Int32) (s0 : Sta) (qq : Int32) (ss : Sta) (hh : X12_goYear x1 s0 = some (qq, ss)) : Ct l w yX12_goYear (Cond.code yX12_goYear cX12_goYear 4 (some .int) :: GT) { frames := 4, cells := 0, slots := 0, locals := 92 } [.ref (wad w 82), .int x1] s0 (oI qq) ss := by
  refine ct_of [(0, .ref (wad w 82)), (1, .int x1)] (by decide +kernel) (Nat.le_of_ble_eq_true rfl) rfl hh (fun M _ C => ?_)
  unfold X12_goYear
  refine sm_aload_n C 0 dX12_goYear_0 rfl ?_
  refine sm_iload_n C 1 dX12_goYear_1 rfl ?_
  refine sm_iconst C (-1 : Int32) dX12_goYear_2 ic_m1 ?_
  refine r_callVI C (R := RX12) (T := TX12) (N := 21) [.int x1, .int (-1 : Int32)] (G_M G) rfl (fun qq ss hh => ct_X12_bestIn G x1 (-1 : Int32) s0 qq ss hh) kw_989 kw_991 kw_24 kw_64 kw_992 dX12_goYear_3 rfl dd_X12_bestIn ⟨rfl, rfl⟩ ⟨by decide, by decide⟩ (Nat.le_of_ble_eq_true rfl) _ rfl (fun q1 s2 => ?_)
  refine sm_istore_n C [(2, .int q1), (0, .ref (wad w 82)), (1, .int x1)] dX12_goYear_6 (by decide) rfl ?_
  refine sm_iload_n C 0 dX12_goYear_7 rfl ?_
  refine sm_iconst C (-1 : Int32) dX12_goYear_8 ic_m1 ?_
  refine sm_icmp_ne C 16 dX12_goYear_9 (by decide) ?_ ?_
  · refine sm_aload_n C 1 dX12_goYear_16 rfl ?_
    refine sm_iload_n C 2 dX12_goYear_17 rfl ?_
    refine sm_iload_n C 0 dX12_goYear_18 rfl ?_
    refine r_callVI C (R := RX12) (T := TX12) (N := 21) [.int x1, .int q1] (G_M G) rfl (fun qq ss hh => ct_X12_bestIn G x1 q1 s2 qq ss hh) kw_989 kw_991 kw_24 kw_64 kw_992 dX12_goYear_19 rfl dd_X12_bestIn ⟨rfl, rfl⟩ ⟨by decide, by decide⟩ (Nat.le_of_ble_eq_true rfl) _ rfl (fun q3 s4 => ?_)
    exact sm_sub [1, 2, 0] rfl (sl_X12_goYear_L22 C G x1 q1 q3 s4)
  · refine sm_iconst C (-1 : Int32) dX12_goYear_12 ic_m1 ?_
    refine sm_goto C 22 dX12_goYear_13 (by decide) ?_
    exact sm_sub [1, 2, 0] rfl (sl_X12_goYear_L22 C G x1 q1 (-1 : Int32) s2)
theorem dd_X12_goTill : yX12_goTill.cls = RX12 ∧ yX12_goTill.cls ≠ "java/lang/invoke/MethodHandle" ∧ yX12_goTill.cls ≠ "java/lang/invoke/VarHandle" ∧ (parseMethodDescriptor yX12_goTill.desc).map (fun d => d.parameters.length) = some 1 := by decide +kernel
set_option maxRecDepth 100000 in
set_option maxHeartbeats 4000000 in
theorem sl_X12_goTill_L7 {M : Mco} {w : Wco} (C : Cx M w cX12_goTill 4 yX12_goTill.cls (Cond.code yX12_goTill cX12_goTill 4 none) none { frames := 5, cells := 0, slots := 0, locals := 115 }) (G : GW w) : ∀ (n : Nat) (y1 : Int32) (y2 : Int32) (s0 : Sta), Sm M w 4 oV 7 [(0, .ref (wad w 82)), (1, .int y1), (2, .int y2)] [] s0 (X12_goTill_L7 n y1 y2 s0) := by
  intro n
  induction n with
  | zero => intros; exact sm_none
  | succ n ih =>
    intro y1 y2 s0
    rw [X12_goTill_L7.eq_2]
    refine sm_iload_n C 2 dX12_goTill_7 rfl ?_
    refine sm_iload_n C 1 dX12_goTill_8 rfl ?_
    refine sm_icmp_ge C 24 dX12_goTill_9 (by decide) ?_ ?_
    · exact sm_vret C dX12_goTill_24
    · refine sm_aload_n C 0 dX12_goTill_12 rfl ?_
      refine sm_iload_n C 2 dX12_goTill_13 rfl ?_
      refine r_callVI C (R := RX12) (T := TX12) (N := 21) [.int y2] (G_M G) rfl (fun qq ss hh => ct_X12_goYear G y2 s0 qq ss hh) kw_985 kw_987 kw_23 kw_64 kw_988 dX12_goTill_14 rfl dd_X12_goYear ⟨rfl, rfl⟩ ⟨by decide, by decide⟩ (Nat.le_of_ble_eq_true rfl) _ rfl (fun q2 s3 => ?_)
      refine sm_istore_n C [(3, .int q2), (0, .ref (wad w 82)), (1, .int y1), (2, .int y2)] dX12_goTill_17 (by decide) rfl ?_
      refine sm_iinc C 3 (y2 + (1 : Int32)) [(2, .int (y2 + (1 : Int32))), (3, .int q2), (0, .ref (wad w 82)), (1, .int y1)] dX12_goTill_18 rfl (ii_1 _) (by decide) rfl ?_
      refine sm_goto C 7 dX12_goTill_21 (by decide) ?_
      exact sm_sub [2, 3, 0] rfl (ih y1 (y2 + (1 : Int32)) s3)
set_option maxRecDepth 100000 in
set_option maxHeartbeats 4000000 in
theorem ct_X12_goTill {l : Launch} {w : Wco} (G : GW w) (x1 : Int32) (s0 : Sta) (qq : Unit) (ss : Sta) (hh : X12_goTill x1 s0 = some (qq, ss)) : Ct l w yX12_goTill (Cond.code yX12_goTill cX12_goTill 4 none :: GT) { frames := 5, cells := 0, slots := 0, locals := 115 } [.ref (wad w 82), .int x1] s0 (oV qq) ss := by
  refine ct_of [(0, .ref (wad w 82)), (1, .int x1)] (by decide +kernel) (Nat.le_of_ble_eq_true rfl) rfl hh (fun M _ C => ?_)
  unfold X12_goTill
  refine sm_aload_n C 0 dX12_goTill_0 rfl ?_
  refine sm_getR C (ci := 12) (R := RX12) (T := TX12) (N := 21) (j := 0) (G_M G).2 (G_M G).1 rfl gX12 (by decide) kw_864 dX12_goTill_1 (fun _ _ => rfl) ?_
  refine sm_iconst C (4 : Int32) dX12_goTill_4 ic_4 ?_
  refine r_iald C (G_m83 G) dX12_goTill_5 (fun v1 => ?_)
  refine sm_istore_n C [(2, .int v1), (0, .ref (wad w 82)), (1, .int x1)] dX12_goTill_6 (by decide) rfl ?_
  exact sm_sub [1, 2, 0] rfl (sl_X12_goTill_L7 C G FU x1 v1 s0)
theorem dd_X12_worthOf : yX12_worthOf.cls = RX12 ∧ yX12_worthOf.cls ≠ "java/lang/invoke/MethodHandle" ∧ yX12_worthOf.cls ≠ "java/lang/invoke/VarHandle" ∧ (parseMethodDescriptor yX12_worthOf.desc).map (fun d => d.parameters.length) = some 1 := by decide +kernel
set_option maxRecDepth 100000 in
set_option maxHeartbeats 4000000 in
theorem sl_X12_worthOf_L4 {M : Mco} {w : Wco} (C : Cx M w cX12_worthOf 4 yX12_worthOf.cls (Cond.code yX12_worthOf cX12_worthOf 4 (some .int)) (some .int) { frames := 1, cells := 0, slots := 0, locals := 21 }) (G : GW w) : ∀ (n : Nat) (y1 : Int32) (y2 : Int32) (y3 : Int32) (s0 : Sta), Sm M w 4 oI 4 [(0, .ref (wad w 82)), (1, .int y1), (2, .int y2), (3, .int y3)] [] s0 (X12_worthOf_L4 n y1 y2 y3 s0) := by
  intro n
  induction n with
  | zero => intros; exact sm_none
  | succ n ih =>
    intro y1 y2 y3 s0
    rw [X12_worthOf_L4.eq_2]
    refine sm_iload_n C 3 dX12_worthOf_4 rfl ?_
    refine sm_bipush C (8 : Int32) dX12_worthOf_5 bp_8 ?_
    refine sm_icmp_ge C 42 dX12_worthOf_7 (by decide) ?_ ?_
    · refine sm_iload_n C 2 dX12_worthOf_42 rfl ?_
      exact sm_iret C dX12_worthOf_43
    · refine sm_iload_n C 2 dX12_worthOf_10 rfl ?_
      refine sm_aload_n C 0 dX12_worthOf_11 rfl ?_
      refine sm_getR C (ci := 12) (R := RX12) (T := TX12) (N := 21) (j := 6) (G_M G).2 (G_M G).1 rfl gX12 (by decide) kw_870 dX12_worthOf_12 (fun _ _ => rfl) ?_
      refine sm_iload_n C 1 dX12_worthOf_15 rfl ?_
      refine r_iald C (G_m87 G) dX12_worthOf_16 (fun v1 => ?_)
      refine sm_iload_n C 3 dX12_worthOf_17 rfl ?_
      refine r_callSI C [.int v1, .int y3] (fun qq ss hh => ct_X12_has v1 y3 s0 qq ss hh) kw_1066 kw_1067 kw_64 kw_1068 dX12_worthOf_18 rfl dd_X12_has ⟨rfl, rfl⟩ ⟨by decide, by decide⟩ (Nat.le_of_ble_eq_true rfl) _ rfl (fun q2 s3 => ?_)
      refine sm_if_eq C 33 dX12_worthOf_21 (by decide) ?_ ?_
      · refine sm_iconst C (0 : Int32) dX12_worthOf_33 ic_0 ?_
        refine sm_iadd C dX12_worthOf_34 ?_
        refine sm_istore_n C [(2, .int (y2 + (0 : Int32))), (0, .ref (wad w 82)), (1, .int y1), (3, .int y3)] dX12_worthOf_35 (by decide) rfl ?_
        refine sm_iinc C 3 (y3 + (1 : Int32)) [(3, .int (y3 + (1 : Int32))), (2, .int (y2 + (0 : Int32))), (0, .ref (wad w 82)), (1, .int y1)] dX12_worthOf_36 rfl (ii_1 _) (by decide) rfl ?_
        refine sm_goto C 4 dX12_worthOf_39 (by decide) ?_
        exact sm_sub [2, 3, 1, 0] rfl (ih y1 (y2 + (0 : Int32)) (y3 + (1 : Int32)) s3)
      · refine sm_aload_n C 0 dX12_worthOf_24 rfl ?_
        refine sm_getR C (ci := 12) (R := RX12) (T := TX12) (N := 21) (j := 9) (G_M G).2 (G_M G).1 rfl gX12 (by decide) kw_873 dX12_worthOf_25 (fun _ _ => rfl) ?_
        refine sm_iload_n C 3 dX12_worthOf_28 rfl ?_
        refine r_iald C (G_m90 G) dX12_worthOf_29 (fun v4 => ?_)
        refine sm_goto C 34 dX12_worthOf_30 (by decide) ?_
        refine sm_iadd C dX12_worthOf_34 ?_
        refine sm_istore_n C [(2, .int (y2 + v4)), (0, .ref (wad w 82)), (1, .int y1), (3, .int y3)] dX12_worthOf_35 (by decide) rfl ?_
        refine sm_iinc C 3 (y3 + (1 : Int32)) [(3, .int (y3 + (1 : Int32))), (2, .int (y2 + v4)), (0, .ref (wad w 82)), (1, .int y1)] dX12_worthOf_36 rfl (ii_1 _) (by decide) rfl ?_
        refine sm_goto C 4 dX12_worthOf_39 (by decide) ?_
        exact sm_sub [2, 3, 1, 0] rfl (ih y1 (y2 + v4) (y3 + (1 : Int32)) s3)
set_option maxRecDepth 100000 in
set_option maxHeartbeats 4000000 in
theorem ct_X12_worthOf {l : Launch} {w : Wco} (G : GW w) (x1 : Int32) (s0 : Sta) (qq : Int32) (ss : Sta) (hh : X12_worthOf x1 s0 = some (qq, ss)) : Ct l w yX12_worthOf (Cond.code yX12_worthOf cX12_worthOf 4 (some .int) :: GT) { frames := 1, cells := 0, slots := 0, locals := 21 } [.ref (wad w 82), .int x1] s0 (oI qq) ss := by
  refine ct_of [(0, .ref (wad w 82)), (1, .int x1)] (by decide +kernel) (Nat.le_of_ble_eq_true rfl) rfl hh (fun M _ C => ?_)
  unfold X12_worthOf
  refine sm_iconst C (0 : Int32) dX12_worthOf_0 ic_0 ?_
  refine sm_istore_n C [(2, .int (0 : Int32)), (0, .ref (wad w 82)), (1, .int x1)] dX12_worthOf_1 (by decide) rfl ?_
  refine sm_iconst C (0 : Int32) dX12_worthOf_2 ic_0 ?_
  refine sm_istore_n C [(3, .int (0 : Int32)), (2, .int (0 : Int32)), (0, .ref (wad w 82)), (1, .int x1)] dX12_worthOf_3 (by decide) rfl ?_
  exact sm_sub [2, 3, 1, 0] rfl (sl_X12_worthOf_L4 C G FU x1 (0 : Int32) (0 : Int32) s0)
theorem dd_X12_keep : yX12_keep.cls = RX12 ∧ yX12_keep.cls ≠ "java/lang/invoke/MethodHandle" ∧ yX12_keep.cls ≠ "java/lang/invoke/VarHandle" ∧ (parseMethodDescriptor yX12_keep.desc).map (fun d => d.parameters.length) = some 0 := by decide +kernel
set_option maxRecDepth 100000 in
set_option maxHeartbeats 4000000 in
theorem sl_X12_keep_L53 {M : Mco} {w : Wco} (C : Cx M w cX12_keep 2 yX12_keep.cls (Cond.code yX12_keep cX12_keep 2 none) none { frames := 0, cells := 0, slots := 0, locals := 0 }) (G : GW w) : ∀ (n : Nat) (y1 : Int32) (s0 : Sta), Sm M w 2 oV 53 [(0, .ref (wad w 82)), (1, .int y1)] [] s0 (X12_keep_L53 n y1 s0) := by
  intro n
  induction n with
  | zero => intros; exact sm_none
  | succ n ih =>
    intro y1 s0
    rw [X12_keep_L53.eq_2]
    refine sm_iload_n C 1 dX12_keep_53 rfl ?_
    refine sm_bipush C (13 : Int32) dX12_keep_54 bp_13 ?_
    refine sm_icmp_ge C 92 dX12_keep_56 (by decide) ?_ ?_
    · refine sm_aload_n C 0 dX12_keep_92 rfl ?_
      refine sm_getR C (ci := 12) (R := RX12) (T := TX12) (N := 21) (j := 0) (G_M G).2 (G_M G).1 rfl gX12 (by decide) kw_864 dX12_keep_93 (fun _ _ => rfl) ?_
      refine sm_iconst C (3 : Int32) dX12_keep_96 ic_3 ?_
      refine sm_dup2 C dX12_keep_97 rfl rfl ?_
      refine r_iald C (G_m83 G) dX12_keep_98 (fun v5 => ?_)
      refine sm_iconst C (1 : Int32) dX12_keep_99 ic_1 ?_
      refine sm_iadd C dX12_keep_100 ?_
      refine r_iast C (G_m83 G) dX12_keep_101 (fun s6 => ?_)
      exact sm_vret C dX12_keep_102
    · refine sm_aload_n C 0 dX12_keep_59 rfl ?_
      refine sm_getR C (ci := 12) (R := RX12) (T := TX12) (N := 21) (j := 0) (G_M G).2 (G_M G).1 rfl gX12 (by decide) kw_864 dX12_keep_60 (fun _ _ => rfl) ?_
      refine sm_bipush C (105 : Int32) dX12_keep_63 bp_105 ?_
      refine sm_bipush C (13 : Int32) dX12_keep_65 bp_13 ?_
      refine sm_aload_n C 0 dX12_keep_67 rfl ?_
      refine sm_getR C (ci := 12) (R := RX12) (T := TX12) (N := 21) (j := 0) (G_M G).2 (G_M G).1 rfl gX12 (by decide) kw_864 dX12_keep_68 (fun _ _ => rfl) ?_
      refine sm_iconst C (3 : Int32) dX12_keep_71 ic_3 ?_
      refine r_iald C (G_m83 G) dX12_keep_72 (fun v7 => ?_)
      refine sm_imul C dX12_keep_73 ?_
      refine sm_iadd C dX12_keep_74 ?_
      refine sm_iload_n C 1 dX12_keep_75 rfl ?_
      refine sm_iadd C dX12_keep_76 ?_
      refine sm_aload_n C 0 dX12_keep_77 rfl ?_
      refine sm_getR C (ci := 12) (R := RX12) (T := TX12) (N := 21) (j := 0) (G_M G).2 (G_M G).1 rfl gX12 (by decide) kw_864 dX12_keep_78 (fun _ _ => rfl) ?_
      refine sm_iconst C (4 : Int32) dX12_keep_81 ic_4 ?_
      refine sm_iload_n C 1 dX12_keep_82 rfl ?_
      refine sm_iadd C dX12_keep_83 ?_
      refine r_iald C (G_m83 G) dX12_keep_84 (fun v8 => ?_)
      refine r_iast C (G_m83 G) dX12_keep_85 (fun s9 => ?_)
      refine sm_iinc C 1 (y1 + (1 : Int32)) [(1, .int (y1 + (1 : Int32))), (0, .ref (wad w 82))] dX12_keep_86 rfl (ii_1 _) (by decide) rfl ?_
      refine sm_goto C 53 dX12_keep_89 (by decide) ?_
      exact sm_sub [1, 0] rfl (ih (y1 + (1 : Int32)) s9)
set_option maxRecDepth 100000 in
set_option maxHeartbeats 4000000 in
theorem sl_X12_keep_L13 {M : Mco} {w : Wco} (C : Cx M w cX12_keep 2 yX12_keep.cls (Cond.code yX12_keep cX12_keep 2 none) none { frames := 0, cells := 0, slots := 0, locals := 0 }) (G : GW w) : ∀ (n : Nat) (y1 : Int32) (s0 : Sta), Sm M w 2 oV 13 [(0, .ref (wad w 82)), (1, .int y1)] [] s0 (X12_keep_L13 n y1 s0) := by
  intro n
  induction n with
  | zero => intros; exact sm_none
  | succ n ih =>
    intro y1 s0
    rw [X12_keep_L13.eq_2]
    refine sm_iload_n C 1 dX12_keep_13 rfl ?_
    refine sm_bipush C (91 : Int32) dX12_keep_14 bp_91 ?_
    refine sm_icmp_ge C 43 dX12_keep_16 (by decide) ?_ ?_
    · refine sm_aload_n C 0 dX12_keep_43 rfl ?_
      refine sm_getR C (ci := 12) (R := RX12) (T := TX12) (N := 21) (j := 0) (G_M G).2 (G_M G).1 rfl gX12 (by decide) kw_864 dX12_keep_44 (fun _ _ => rfl) ?_
      refine sm_iconst C (3 : Int32) dX12_keep_47 ic_3 ?_
      refine sm_bipush C (7 : Int32) dX12_keep_48 bp_7 ?_
      refine r_iast C (G_m83 G) dX12_keep_50 (fun s2 => ?_)
      refine sm_iconst C (0 : Int32) dX12_keep_51 ic_0 ?_
      refine sm_istore_n C [(1, .int (0 : Int32)), (0, .ref (wad w 82))] dX12_keep_52 (by decide) rfl ?_
      exact sm_sub [1, 0] rfl (sl_X12_keep_L53 C G FU (0 : Int32) s2)
    · refine sm_aload_n C 0 dX12_keep_19 rfl ?_
      refine sm_getR C (ci := 12) (R := RX12) (T := TX12) (N := 21) (j := 0) (G_M G).2 (G_M G).1 rfl gX12 (by decide) kw_864 dX12_keep_20 (fun _ _ => rfl) ?_
      refine sm_bipush C (105 : Int32) dX12_keep_23 bp_105 ?_
      refine sm_iload_n C 1 dX12_keep_25 rfl ?_
      refine sm_iadd C dX12_keep_26 ?_
      refine sm_aload_n C 0 dX12_keep_27 rfl ?_
      refine sm_getR C (ci := 12) (R := RX12) (T := TX12) (N := 21) (j := 0) (G_M G).2 (G_M G).1 rfl gX12 (by decide) kw_864 dX12_keep_28 (fun _ _ => rfl) ?_
      refine sm_bipush C (118 : Int32) dX12_keep_31 bp_118 ?_
      refine sm_iload_n C 1 dX12_keep_33 rfl ?_
      refine sm_iadd C dX12_keep_34 ?_
      refine r_iald C (G_m83 G) dX12_keep_35 (fun v3 => ?_)
      refine r_iast C (G_m83 G) dX12_keep_36 (fun s4 => ?_)
      refine sm_iinc C 1 (y1 + (1 : Int32)) [(1, .int (y1 + (1 : Int32))), (0, .ref (wad w 82))] dX12_keep_37 rfl (ii_1 _) (by decide) rfl ?_
      refine sm_goto C 13 dX12_keep_40 (by decide) ?_
      exact sm_sub [1, 0] rfl (ih (y1 + (1 : Int32)) s4)
set_option maxRecDepth 100000 in
set_option maxHeartbeats 4000000 in
theorem ct_X12_keep {l : Launch} {w : Wco} (G : GW w) (s0 : Sta) (qq : Unit) (ss : Sta) (hh : X12_keep s0 = some (qq, ss)) : Ct l w yX12_keep (Cond.code yX12_keep cX12_keep 2 none :: GT) { frames := 0, cells := 0, slots := 0, locals := 0 } [.ref (wad w 82)] s0 (oV qq) ss := by
  refine ct_of [(0, .ref (wad w 82))] (by decide +kernel) (Nat.le_of_ble_eq_true rfl) rfl hh (fun M _ C => ?_)
  unfold X12_keep
  refine sm_aload_n C 0 dX12_keep_0 rfl ?_
  refine sm_getR C (ci := 12) (R := RX12) (T := TX12) (N := 21) (j := 0) (G_M G).2 (G_M G).1 rfl gX12 (by decide) kw_864 dX12_keep_1 (fun _ _ => rfl) ?_
  refine sm_iconst C (3 : Int32) dX12_keep_4 ic_3 ?_
  refine r_iald C (G_m83 G) dX12_keep_5 (fun v1 => ?_)
  refine sm_bipush C (8 : Int32) dX12_keep_6 bp_8 ?_
  refine sm_icmp_ne C 51 dX12_keep_8 (by decide) ?_ ?_
  · refine sm_iconst C (0 : Int32) dX12_keep_51 ic_0 ?_
    refine sm_istore_n C [(1, .int (0 : Int32)), (0, .ref (wad w 82))] dX12_keep_52 (by decide) rfl ?_
    exact sm_sub [1, 0] rfl (sl_X12_keep_L53 C G FU (0 : Int32) s0)
  · refine sm_iconst C (0 : Int32) dX12_keep_11 ic_0 ?_
    refine sm_istore_n C [(1, .int (0 : Int32)), (0, .ref (wad w 82))] dX12_keep_12 (by decide) rfl ?_
    exact sm_sub [1, 0] rfl (sl_X12_keep_L13 C G FU (0 : Int32) s0)
theorem dd_X12_year : yX12_year.cls = RX12 ∧ yX12_year.cls ≠ "java/lang/invoke/MethodHandle" ∧ yX12_year.cls ≠ "java/lang/invoke/VarHandle" ∧ (parseMethodDescriptor yX12_year.desc).map (fun d => d.parameters.length) = some 0 := by decide +kernel
set_option maxRecDepth 100000 in
set_option maxHeartbeats 4000000 in
theorem sl_X12_year_L37 {M : Mco} {w : Wco} (C : Cx M w cX12_year 3 yX12_year.cls (Cond.code yX12_year cX12_year 3 (some .int)) (some .int) { frames := 5, cells := 0, slots := 0, locals := 115 }) (G : GW w) : ∀ (n : Nat) (y1 : Int32) (y2 : Int32) (s0 : Sta), Sm M w 3 oI 37 [(0, .ref (wad w 82)), (1, .int y1), (2, .int y2)] [] s0 (X12_year_L37 n y1 y2 s0) := by
  intro n
  induction n with
  | zero => intros; exact sm_none
  | succ n ih =>
    intro y1 y2 s0
    rw [X12_year_L37.eq_2]
    refine sm_iload_n C 2 dX12_year_37 rfl ?_
    refine sm_aload_n C 0 dX12_year_38 rfl ?_
    refine r_callVI C (R := RX12) (T := TX12) (N := 21) [] (G_M G) rfl (fun qq ss hh => ct_X12_many G s0 qq ss hh) kw_932 kw_934 kw_17 kw_64 kw_935 dX12_year_39 rfl dd_X12_many ⟨rfl, rfl⟩ ⟨by decide, by decide⟩ (Nat.le_of_ble_eq_true rfl) _ rfl (fun q11 s12 => ?_)
    refine sm_icmp_ge C 80 dX12_year_42 (by decide) ?_ ?_
    · refine sm_aload_n C 0 dX12_year_80 rfl ?_
      refine sm_getR C (ci := 12) (R := RX12) (T := TX12) (N := 21) (j := 0) (G_M G).2 (G_M G).1 rfl gX12 (by decide) kw_864 dX12_year_81 (fun _ _ => rfl) ?_
      refine sm_iconst C (4 : Int32) dX12_year_84 ic_4 ?_
      refine sm_dup2 C dX12_year_85 rfl rfl ?_
      refine r_iald C (G_m83 G) dX12_year_86 (fun v13 => ?_)
      refine sm_iconst C (1 : Int32) dX12_year_87 ic_1 ?_
      refine sm_iadd C dX12_year_88 ?_
      refine r_iast C (G_m83 G) dX12_year_89 (fun s14 => ?_)
      refine sm_iload_n C 1 dX12_year_90 rfl ?_
      exact sm_iret C dX12_year_91
    · refine sm_aload_n C 0 dX12_year_45 rfl ?_
      refine sm_getR C (ci := 12) (R := RX12) (T := TX12) (N := 21) (j := 0) (G_M G).2 (G_M G).1 rfl gX12 (by decide) kw_864 dX12_year_46 (fun _ _ => rfl) ?_
      refine sm_iconst C (5 : Int32) dX12_year_49 ic_5 ?_
      refine sm_iload_n C 2 dX12_year_50 rfl ?_
      refine sm_iadd C dX12_year_51 ?_
      refine sm_aload_n C 0 dX12_year_52 rfl ?_
      refine sm_getR C (ci := 12) (R := RX12) (T := TX12) (N := 21) (j := 6) (G_M G).2 (G_M G).1 rfl gX12 (by decide) kw_870 dX12_year_53 (fun _ _ => rfl) ?_
      refine sm_iload_n C 2 dX12_year_56 rfl ?_
      refine r_iald C (G_m87 G) dX12_year_57 (fun v15 => ?_)
      refine r_iast C (G_m83 G) dX12_year_58 (fun s16 => ?_)
      refine sm_aload_n C 0 dX12_year_59 rfl ?_
      refine sm_getR C (ci := 12) (R := RX12) (T := TX12) (N := 21) (j := 0) (G_M G).2 (G_M G).1 rfl gX12 (by decide) kw_864 dX12_year_60 (fun _ _ => rfl) ?_
      refine sm_bipush C (11 : Int32) dX12_year_63 bp_11 ?_
      refine sm_iload_n C 2 dX12_year_65 rfl ?_
      refine sm_iadd C dX12_year_66 ?_
      refine sm_aload_n C 0 dX12_year_67 rfl ?_
      refine sm_getR C (ci := 12) (R := RX12) (T := TX12) (N := 21) (j := 7) (G_M G).2 (G_M G).1 rfl gX12 (by decide) kw_871 dX12_year_68 (fun _ _ => rfl) ?_
      refine sm_iload_n C 2 dX12_year_71 rfl ?_
      refine r_iald C (G_m88 G) dX12_year_72 (fun v17 => ?_)
      refine r_iast C (G_m83 G) dX12_year_73 (fun s18 => ?_)
      refine sm_iinc C 2 (y2 + (1 : Int32)) [(2, .int (y2 + (1 : Int32))), (0, .ref (wad w 82)), (1, .int y1)] dX12_year_74 rfl (ii_1 _) (by decide) rfl ?_
      refine sm_goto C 37 dX12_year_77 (by decide) ?_
      exact sm_sub [1, 2, 0] rfl (ih y1 (y2 + (1 : Int32)) s18)
set_option maxRecDepth 100000 in
set_option maxHeartbeats 4000000 in
theorem ct_X12_year {l : Launch} {w : Wco} (G : GW w) (s0 : Sta) (qq : Int32) (ss : Sta) (hh : X12_year s0 = some (qq, ss)) : Ct l w yX12_year (Cond.code yX12_year cX12_year 3 (some .int) :: GT) { frames := 5, cells := 0, slots := 0, locals := 115 } [.ref (wad w 82)] s0 (oI qq) ss := by
  refine ct_of [(0, .ref (wad w 82))] (by decide +kernel) (Nat.le_of_ble_eq_true rfl) rfl hh (fun M _ C => ?_)
  unfold X12_year
  refine sm_aload_n C 0 dX12_year_0 rfl ?_
  refine sm_getR C (ci := 12) (R := RX12) (T := TX12) (N := 21) (j := 0) (G_M G).2 (G_M G).1 rfl gX12 (by decide) kw_864 dX12_year_1 (fun _ _ => rfl) ?_
  refine sm_iconst C (4 : Int32) dX12_year_4 ic_4 ?_
  refine r_iald C (G_m83 G) dX12_year_5 (fun v1 => ?_)
  refine sm_bipush C (8 : Int32) dX12_year_6 bp_8 ?_
  refine sm_icmp_ne C 16 dX12_year_8 (by decide) ?_ ?_
  · refine sm_aload_n C 0 dX12_year_16 rfl ?_
    refine r_callVU C (R := RX12) (T := TX12) (N := 21) [] (G_M G) rfl (fun qq ss hh => ct_X12_keep G s0 qq ss hh) kw_977 kw_979 kw_21 kw_64 kw_980 dX12_year_17 rfl dd_X12_keep ⟨rfl, rfl⟩ ⟨by decide, by decide⟩ (Nat.le_of_ble_eq_true rfl) _ rfl (fun q2 s3 => ?_)
    refine sm_aload_n C 0 dX12_year_20 rfl ?_
    refine r_callVU C (R := RX12) (T := TX12) (N := 21) [] (G_M G) rfl (fun qq ss hh => ct_X12_layHand G s3 qq ss hh) kw_981 kw_983 kw_22 kw_64 kw_984 dX12_year_21 rfl dd_X12_layHand ⟨rfl, rfl⟩ ⟨by decide, by decide⟩ (Nat.le_of_ble_eq_true rfl) _ rfl (fun q4 s5 => ?_)
    refine sm_aload_n C 0 dX12_year_24 rfl ?_
    refine sm_aload_n C 0 dX12_year_25 rfl ?_
    refine sm_getR C (ci := 12) (R := RX12) (T := TX12) (N := 21) (j := 0) (G_M G).2 (G_M G).1 rfl gX12 (by decide) kw_864 dX12_year_26 (fun _ _ => rfl) ?_
    refine sm_iconst C (4 : Int32) dX12_year_29 ic_4 ?_
    refine r_iald C (G_m83 G) dX12_year_30 (fun v6 => ?_)
    refine r_callVI C (R := RX12) (T := TX12) (N := 21) [.int v6] (G_M G) rfl (fun qq ss hh => ct_X12_goYear G v6 s5 qq ss hh) kw_985 kw_987 kw_23 kw_64 kw_988 dX12_year_31 rfl dd_X12_goYear ⟨rfl, rfl⟩ ⟨by decide, by decide⟩ (Nat.le_of_ble_eq_true rfl) _ rfl (fun q7 s8 => ?_)
    refine sm_istore_n C [(1, .int q7), (0, .ref (wad w 82))] dX12_year_34 (by decide) rfl ?_
    refine sm_iconst C (0 : Int32) dX12_year_35 ic_0 ?_
    refine sm_istore_n C [(2, .int (0 : Int32)), (1, .int q7), (0, .ref (wad w 82))] dX12_year_36 (by decide) rfl ?_
    exact sm_sub [2, 1, 0] rfl (sl_X12_year_L37 C G FU q7 (0 : Int32) s8)
  · refine sm_aload_n C 0 dX12_year_11 rfl ?_
    refine r_callVI C (R := RX12) (T := TX12) (N := 21) [] (G_M G) rfl (fun qq ss hh => ct_X12_no G s0 qq ss hh) kw_973 kw_975 kw_20 kw_64 kw_976 dX12_year_12 rfl dd_X12_no ⟨rfl, rfl⟩ ⟨by decide, by decide⟩ (Nat.le_of_ble_eq_true rfl) _ rfl (fun q9 s10 => ?_)
    exact sm_iret C dX12_year_15
theorem dd_X12_undo : yX12_undo.cls = RX12 ∧ yX12_undo.cls ≠ "java/lang/invoke/MethodHandle" ∧ yX12_undo.cls ≠ "java/lang/invoke/VarHandle" ∧ (parseMethodDescriptor yX12_undo.desc).map (fun d => d.parameters.length) = some 0 := by decide +kernel
set_option maxRecDepth 100000 in
set_option maxHeartbeats 4000000 in
theorem sl_X12_undo_L26 {M : Mco} {w : Wco} (C : Cx M w cX12_undo 2 yX12_undo.cls (Cond.code yX12_undo cX12_undo 2 (some .int)) (some .int) { frames := 1, cells := 0, slots := 0, locals := 20 }) (G : GW w) : ∀ (n : Nat) (y1 : Int32) (s0 : Sta), Sm M w 2 oI 26 [(0, .ref (wad w 82)), (1, .int y1)] [] s0 (X12_undo_L26 n y1 s0) := by
  intro n
  induction n with
  | zero => intros; exact sm_none
  | succ n ih =>
    intro y1 s0
    rw [X12_undo_L26.eq_2]
    refine sm_iload_n C 1 dX12_undo_26 rfl ?_
    refine sm_bipush C (13 : Int32) dX12_undo_27 bp_13 ?_
    refine sm_icmp_ge C 65 dX12_undo_29 (by decide) ?_ ?_
    · refine sm_aload_n C 0 dX12_undo_65 rfl ?_
      refine sm_getR C (ci := 12) (R := RX12) (T := TX12) (N := 21) (j := 0) (G_M G).2 (G_M G).1 rfl gX12 (by decide) kw_864 dX12_undo_66 (fun _ _ => rfl) ?_
      refine sm_iconst C (4 : Int32) dX12_undo_69 ic_4 ?_
      refine r_iald C (G_m83 G) dX12_undo_70 (fun v6 => ?_)
      exact sm_iret C dX12_undo_71
    · refine sm_aload_n C 0 dX12_undo_32 rfl ?_
      refine sm_getR C (ci := 12) (R := RX12) (T := TX12) (N := 21) (j := 0) (G_M G).2 (G_M G).1 rfl gX12 (by decide) kw_864 dX12_undo_33 (fun _ _ => rfl) ?_
      refine sm_iconst C (4 : Int32) dX12_undo_36 ic_4 ?_
      refine sm_iload_n C 1 dX12_undo_37 rfl ?_
      refine sm_iadd C dX12_undo_38 ?_
      refine sm_aload_n C 0 dX12_undo_39 rfl ?_
      refine sm_getR C (ci := 12) (R := RX12) (T := TX12) (N := 21) (j := 0) (G_M G).2 (G_M G).1 rfl gX12 (by decide) kw_864 dX12_undo_40 (fun _ _ => rfl) ?_
      refine sm_bipush C (105 : Int32) dX12_undo_43 bp_105 ?_
      refine sm_bipush C (13 : Int32) dX12_undo_45 bp_13 ?_
      refine sm_aload_n C 0 dX12_undo_47 rfl ?_
      refine sm_getR C (ci := 12) (R := RX12) (T := TX12) (N := 21) (j := 0) (G_M G).2 (G_M G).1 rfl gX12 (by decide) kw_864 dX12_undo_48 (fun _ _ => rfl) ?_
      refine sm_iconst C (3 : Int32) dX12_undo_51 ic_3 ?_
      refine r_iald C (G_m83 G) dX12_undo_52 (fun v7 => ?_)
      refine sm_imul C dX12_undo_53 ?_
      refine sm_iadd C dX12_undo_54 ?_
      refine sm_iload_n C 1 dX12_undo_55 rfl ?_
      refine sm_iadd C dX12_undo_56 ?_
      refine r_iald C (G_m83 G) dX12_undo_57 (fun v8 => ?_)
      refine r_iast C (G_m83 G) dX12_undo_58 (fun s9 => ?_)
      refine sm_iinc C 1 (y1 + (1 : Int32)) [(1, .int (y1 + (1 : Int32))), (0, .ref (wad w 82))] dX12_undo_59 rfl (ii_1 _) (by decide) rfl ?_
      refine sm_goto C 26 dX12_undo_62 (by decide) ?_
      exact sm_sub [1, 0] rfl (ih (y1 + (1 : Int32)) s9)
set_option maxRecDepth 100000 in
set_option maxHeartbeats 4000000 in
theorem ct_X12_undo {l : Launch} {w : Wco} (G : GW w) (s0 : Sta) (qq : Int32) (ss : Sta) (hh : X12_undo s0 = some (qq, ss)) : Ct l w yX12_undo (Cond.code yX12_undo cX12_undo 2 (some .int) :: GT) { frames := 1, cells := 0, slots := 0, locals := 20 } [.ref (wad w 82)] s0 (oI qq) ss := by
  refine ct_of [(0, .ref (wad w 82))] (by decide +kernel) (Nat.le_of_ble_eq_true rfl) rfl hh (fun M _ C => ?_)
  unfold X12_undo
  refine sm_aload_n C 0 dX12_undo_0 rfl ?_
  refine sm_getR C (ci := 12) (R := RX12) (T := TX12) (N := 21) (j := 0) (G_M G).2 (G_M G).1 rfl gX12 (by decide) kw_864 dX12_undo_1 (fun _ _ => rfl) ?_
  refine sm_iconst C (3 : Int32) dX12_undo_4 ic_3 ?_
  refine r_iald C (G_m83 G) dX12_undo_5 (fun v1 => ?_)
  refine sm_if_ne C 14 dX12_undo_6 (by decide) ?_ ?_
  · refine sm_aload_n C 0 dX12_undo_14 rfl ?_
    refine sm_getR C (ci := 12) (R := RX12) (T := TX12) (N := 21) (j := 0) (G_M G).2 (G_M G).1 rfl gX12 (by decide) kw_864 dX12_undo_15 (fun _ _ => rfl) ?_
    refine sm_iconst C (3 : Int32) dX12_undo_18 ic_3 ?_
    refine sm_dup2 C dX12_undo_19 rfl rfl ?_
    refine r_iald C (G_m83 G) dX12_undo_20 (fun v2 => ?_)
    refine sm_iconst C (1 : Int32) dX12_undo_21 ic_1 ?_
    refine sm_isub C dX12_undo_22 ?_
    refine r_iast C (G_m83 G) dX12_undo_23 (fun s3 => ?_)
    refine sm_iconst C (0 : Int32) dX12_undo_24 ic_0 ?_
    refine sm_istore_n C [(1, .int (0 : Int32)), (0, .ref (wad w 82))] dX12_undo_25 (by decide) rfl ?_
    exact sm_sub [1, 0] rfl (sl_X12_undo_L26 C G FU (0 : Int32) s3)
  · refine sm_aload_n C 0 dX12_undo_9 rfl ?_
    refine r_callVI C (R := RX12) (T := TX12) (N := 21) [] (G_M G) rfl (fun qq ss hh => ct_X12_no G s0 qq ss hh) kw_973 kw_975 kw_20 kw_64 kw_976 dX12_undo_10 rfl dd_X12_no ⟨rfl, rfl⟩ ⟨by decide, by decide⟩ (Nat.le_of_ble_eq_true rfl) _ rfl (fun q4 s5 => ?_)
    exact sm_iret C dX12_undo_13
theorem dd_X12_of : yX12_of.cls = RX12 ∧ yX12_of.cls ≠ "java/lang/invoke/MethodHandle" ∧ yX12_of.cls ≠ "java/lang/invoke/VarHandle" ∧ (parseMethodDescriptor yX12_of.desc).map (fun d => d.parameters.length) = some 2 := by decide +kernel
set_option maxRecDepth 100000 in
set_option maxHeartbeats 4000000 in
theorem sl_X12_of_L114 {M : Mco} {w : Wco} (C : Cx M w cX12_of 3 yX12_of.cls (Cond.code yX12_of cX12_of 3 (some .int)) (some .int) { frames := 2, cells := 0, slots := 0, locals := 46 }) (G : GW w) : ∀ (y1 : Int32) (y2 : Int32) (s0 : Sta), Sm M w 3 oI 114 [(0, .ref (wad w 82)), (1, .int y1), (2, .int y2)] [] s0 (X12_of_L114 y1 y2 s0) := by
  intro y1 y2 s0
  unfold X12_of_L114
  refine sm_aload_n C 0 dX12_of_114 rfl ?_
  refine sm_getR C (ci := 12) (R := RX12) (T := TX12) (N := 21) (j := 0) (G_M G).2 (G_M G).1 rfl gX12 (by decide) kw_864 dX12_of_115 (fun _ _ => rfl) ?_
  refine sm_bipush C (23 : Int32) dX12_of_118 bp_23 ?_
  refine sm_iconst C (3 : Int32) dX12_of_120 ic_3 ?_
  refine sm_iload_n C 1 dX12_of_121 rfl ?_
  refine sm_imul C dX12_of_122 ?_
  refine sm_iadd C dX12_of_123 ?_
  refine sm_iload_n C 2 dX12_of_124 rfl ?_
  refine sm_iadd C dX12_of_125 ?_
  refine sm_iconst C (1 : Int32) dX12_of_126 ic_1 ?_
  refine sm_isub C dX12_of_127 ?_
  refine r_iald C (G_m83 G) dX12_of_128 (fun v16 => ?_)
  exact sm_iret C dX12_of_129
set_option maxRecDepth 100000 in
set_option maxHeartbeats 4000000 in
theorem ct_X12_of {l : Launch} {w : Wco} (G : GW w) (x1 : Int32) (x2 : Int32) (s0 : Sta) (qq : Int32) (ss : Sta) (hh : X12_of x1 x2 s0 = some (qq, ss)) : Ct l w yX12_of (Cond.code yX12_of cX12_of 3 (some .int) :: GT) { frames := 2, cells := 0, slots := 0, locals := 46 } [.ref (wad w 82), .int x1, .int x2] s0 (oI qq) ss := by
  refine ct_of [(0, .ref (wad w 82)), (1, .int x1), (2, .int x2)] (by decide +kernel) (Nat.le_of_ble_eq_true rfl) rfl hh (fun M _ C => ?_)
  unfold X12_of
  refine sm_aload_n C 0 dX12_of_0 rfl ?_
  refine sm_iload_n C 1 dX12_of_1 rfl ?_
  refine r_callVI C (R := RX12) (T := TX12) (N := 21) [.int x1] (G_M G) rfl (fun qq ss hh => ct_X12_isOne G x1 s0 qq ss hh) kw_1029 kw_1031 kw_29 kw_64 kw_1032 dX12_of_2 rfl dd_X12_isOne ⟨rfl, rfl⟩ ⟨by decide, by decide⟩ (Nat.le_of_ble_eq_true rfl) _ rfl (fun q1 s2 => ?_)
  refine sm_if_eq C 20 dX12_of_5 (by decide) ?_ ?_
  · refine sm_aload_n C 0 dX12_of_20 rfl ?_
    refine sm_bipush C (-2 : Int32) dX12_of_21 bp_m2 ?_
    refine r_callVI C (R := RX12) (T := TX12) (N := 21) [.int (-2 : Int32)] (G_M G) rfl (fun qq ss hh => ct_X12_bad G (-2 : Int32) s2 qq ss hh) kw_952 kw_954 kw_18 kw_64 kw_955 dX12_of_23 rfl dd_X12_bad ⟨rfl, rfl⟩ ⟨by decide, by decide⟩ (Nat.le_of_ble_eq_true rfl) _ rfl (fun q3 s4 => ?_)
    exact sm_iret C dX12_of_26
  · refine sm_iload_n C 2 dX12_of_8 rfl ?_
    refine sm_i2l C dX12_of_9 ?_
    refine sm_lconst C (0 : Int64) dX12_of_10 lc_0 ?_
    refine sm_ldc2 C kw_1033 dX12_of_11 ?_
    refine r_callSI C [.long x2.toInt64, .long (0 : Int64), .long (6 : Int64)] (fun qq ss hh => ct_X12_in x2.toInt64 (0 : Int64) (6 : Int64) s2 qq ss hh) kw_944 kw_945 kw_64 kw_946 dX12_of_14 rfl dd_X12_in ⟨rfl, rfl⟩ ⟨by decide, by decide⟩ (Nat.le_of_ble_eq_true rfl) _ rfl (fun q5 s6 => ?_)
    refine sm_if_ne C 27 dX12_of_17 (by decide) ?_ ?_
    · refine sm_aload_n C 0 dX12_of_27 rfl ?_
      refine r_callVU C (R := RX12) (T := TX12) (N := 21) [] (G_M G) rfl (fun qq ss hh => ct_X12_layHand G s6 qq ss hh) kw_981 kw_983 kw_22 kw_64 kw_984 dX12_of_28 rfl dd_X12_layHand ⟨rfl, rfl⟩ ⟨by decide, by decide⟩ (Nat.le_of_ble_eq_true rfl) _ rfl (fun q7 s8 => ?_)
      refine sm_iload_n C 2 dX12_of_31 rfl ?_
      refine r_table C 114 dX12_of_32 rfl (by decide) ⟨⟨(show (0 : Int32).toInt = (0 : Int) + ((0 : Nat) : Int) from by decide), 44, 76, rfl, by decide, ?_⟩, ⟨⟨(show (1 : Int32).toInt = (0 : Int) + ((1 : Nat) : Int) from by decide), 82, 114, rfl, by decide, ?_⟩, ⟨⟨(show (2 : Int32).toInt = (0 : Int) + ((2 : Nat) : Int) from by decide), 82, 114, rfl, by decide, ?_⟩, ⟨⟨(show (3 : Int32).toInt = (0 : Int) + ((3 : Nat) : Int) from by decide), 82, 114, rfl, by decide, ?_⟩, ⟨⟨(show (4 : Int32).toInt = (0 : Int) + ((4 : Nat) : Int) from by decide), 54, 86, rfl, by decide, ?_⟩, ⟨⟨(show (5 : Int32).toInt = (0 : Int) + ((5 : Nat) : Int) from by decide), 61, 93, rfl, by decide, ?_⟩, ⟨⟨(show (6 : Int32).toInt = (0 : Int) + ((6 : Nat) : Int) from by decide), 68, 100, rfl, by decide, ?_⟩, trivial⟩⟩⟩⟩⟩⟩⟩ ?_
      · dsimp only
        refine sm_aload_n C 0 dX12_of_76 rfl ?_
        refine sm_getR C (ci := 12) (R := RX12) (T := TX12) (N := 21) (j := 0) (G_M G).2 (G_M G).1 rfl gX12 (by decide) kw_864 dX12_of_77 (fun _ _ => rfl) ?_
        refine sm_bipush C (17 : Int32) dX12_of_80 bp_17 ?_
        refine sm_iload_n C 1 dX12_of_82 rfl ?_
        refine sm_iadd C dX12_of_83 ?_
        refine r_iald C (G_m83 G) dX12_of_84 (fun v9 => ?_)
        exact sm_iret C dX12_of_85
      · dsimp only
        exact sm_sub [0, 1, 2] rfl (sl_X12_of_L114 C G x1 x2 s8)
      · dsimp only
        exact sm_sub [0, 1, 2] rfl (sl_X12_of_L114 C G x1 x2 s8)
      · dsimp only
        exact sm_sub [0, 1, 2] rfl (sl_X12_of_L114 C G x1 x2 s8)
      · dsimp only
        refine sm_aload_n C 0 dX12_of_86 rfl ?_
        refine sm_getR C (ci := 12) (R := RX12) (T := TX12) (N := 21) (j := 6) (G_M G).2 (G_M G).1 rfl gX12 (by decide) kw_870 dX12_of_87 (fun _ _ => rfl) ?_
        refine sm_iload_n C 1 dX12_of_90 rfl ?_
        refine r_iald C (G_m87 G) dX12_of_91 (fun v10 => ?_)
        exact sm_iret C dX12_of_92
      · dsimp only
        refine sm_aload_n C 0 dX12_of_93 rfl ?_
        refine sm_getR C (ci := 12) (R := RX12) (T := TX12) (N := 21) (j := 7) (G_M G).2 (G_M G).1 rfl gX12 (by decide) kw_871 dX12_of_94 (fun _ _ => rfl) ?_
        refine sm_iload_n C 1 dX12_of_97 rfl ?_
        refine r_iald C (G_m88 G) dX12_of_98 (fun v11 => ?_)
        exact sm_iret C dX12_of_99
      · dsimp only
        refine sm_aload_n C 0 dX12_of_100 rfl ?_
        refine sm_iload_n C 1 dX12_of_101 rfl ?_
        refine r_callVI C (R := RX12) (T := TX12) (N := 21) [.int x1] (G_M G) rfl (fun qq ss hh => ct_X12_isBarred G x1 s8 qq ss hh) kw_997 kw_999 kw_26 kw_64 kw_1000 dX12_of_102 rfl dd_X12_isBarred ⟨rfl, rfl⟩ ⟨by decide, by decide⟩ (Nat.le_of_ble_eq_true rfl) _ rfl (fun q12 s13 => ?_)
        refine sm_if_eq C 112 dX12_of_105 (by decide) ?_ ?_
        · refine sm_iconst C (0 : Int32) dX12_of_112 ic_0 ?_
          exact sm_iret C dX12_of_113
        · refine sm_iconst C (1 : Int32) dX12_of_108 ic_1 ?_
          refine sm_goto C 113 dX12_of_109 (by decide) ?_
          exact sm_iret C dX12_of_113
      · exact sm_sub [0, 1, 2] rfl (sl_X12_of_L114 C G x1 x2 s8)
    · refine sm_aload_n C 0 dX12_of_20 rfl ?_
      refine sm_bipush C (-2 : Int32) dX12_of_21 bp_m2 ?_
      refine r_callVI C (R := RX12) (T := TX12) (N := 21) [.int (-2 : Int32)] (G_M G) rfl (fun qq ss hh => ct_X12_bad G (-2 : Int32) s6 qq ss hh) kw_952 kw_954 kw_18 kw_64 kw_955 dX12_of_23 rfl dd_X12_bad ⟨rfl, rfl⟩ ⟨by decide, by decide⟩ (Nat.le_of_ble_eq_true rfl) _ rfl (fun q14 s15 => ?_)
      exact sm_iret C dX12_of_26
theorem dd_X12_about : yX12_about.cls = RX12 ∧ yX12_about.cls ≠ "java/lang/invoke/MethodHandle" ∧ yX12_about.cls ≠ "java/lang/invoke/VarHandle" ∧ (parseMethodDescriptor yX12_about.desc).map (fun d => d.parameters.length) = some 2 := by decide +kernel
set_option maxRecDepth 100000 in
set_option maxHeartbeats 4000000 in
theorem ct_X12_about {l : Launch} {w : Wco} (G : GW w) (x1 : Int32) (x2 : Int32) (s0 : Sta) (qq : Int32) (ss : Sta) (hh : X12_about x1 x2 s0 = some (qq, ss)) : Ct l w yX12_about (Cond.code yX12_about cX12_about 3 (some .int) :: GT) { frames := 2, cells := 0, slots := 0, locals := 45 } [.ref (wad w 82), .int x1, .int x2] s0 (oI qq) ss := by
  refine ct_of [(0, .ref (wad w 82)), (1, .int x1), (2, .int x2)] (by decide +kernel) (Nat.le_of_ble_eq_true rfl) rfl hh (fun M _ C => ?_)
  unfold X12_about
  refine sm_iload_n C 1 dX12_about_0 rfl ?_
  refine r_callSI C [.int x1] (fun qq ss hh => ct_X12_isYear x1 s0 qq ss hh) kw_940 kw_941 kw_64 kw_942 dX12_about_1 rfl dd_X12_isYear ⟨rfl, rfl⟩ ⟨by decide, by decide⟩ (Nat.le_of_ble_eq_true rfl) _ rfl (fun q1 s2 => ?_)
  refine sm_if_eq C 38 dX12_about_4 (by decide) ?_ ?_
  · refine sm_aload_n C 0 dX12_about_38 rfl ?_
    refine sm_bipush C (-10 : Int32) dX12_about_39 bp_m10 ?_
    refine r_callVI C (R := RX12) (T := TX12) (N := 21) [.int (-10 : Int32)] (G_M G) rfl (fun qq ss hh => ct_X12_bad G (-10 : Int32) s2 qq ss hh) kw_952 kw_954 kw_18 kw_64 kw_955 dX12_about_41 rfl dd_X12_bad ⟨rfl, rfl⟩ ⟨by decide, by decide⟩ (Nat.le_of_ble_eq_true rfl) _ rfl (fun q3 s4 => ?_)
    exact sm_iret C dX12_about_44
  · refine sm_iload_n C 2 dX12_about_7 rfl ?_
    refine sm_i2l C dX12_about_8 ?_
    refine sm_lconst C (0 : Int64) dX12_about_9 lc_0 ?_
    refine sm_lconst C (1 : Int64) dX12_about_10 lc_1 ?_
    refine r_callSI C [.long x2.toInt64, .long (0 : Int64), .long (1 : Int64)] (fun qq ss hh => ct_X12_in x2.toInt64 (0 : Int64) (1 : Int64) s2 qq ss hh) kw_944 kw_945 kw_64 kw_946 dX12_about_11 rfl dd_X12_in ⟨rfl, rfl⟩ ⟨by decide, by decide⟩ (Nat.le_of_ble_eq_true rfl) _ rfl (fun q5 s6 => ?_)
    refine sm_if_eq C 38 dX12_about_14 (by decide) ?_ ?_
    · refine sm_aload_n C 0 dX12_about_38 rfl ?_
      refine sm_bipush C (-10 : Int32) dX12_about_39 bp_m10 ?_
      refine r_callVI C (R := RX12) (T := TX12) (N := 21) [.int (-10 : Int32)] (G_M G) rfl (fun qq ss hh => ct_X12_bad G (-10 : Int32) s6 qq ss hh) kw_952 kw_954 kw_18 kw_64 kw_955 dX12_about_41 rfl dd_X12_bad ⟨rfl, rfl⟩ ⟨by decide, by decide⟩ (Nat.le_of_ble_eq_true rfl) _ rfl (fun q7 s8 => ?_)
      exact sm_iret C dX12_about_44
    · refine sm_aload_n C 0 dX12_about_17 rfl ?_
      refine sm_getR C (ci := 12) (R := RX12) (T := TX12) (N := 21) (j := 0) (G_M G).2 (G_M G).1 rfl gX12 (by decide) kw_864 dX12_about_18 (fun _ _ => rfl) ?_
      refine sm_iload_n C 2 dX12_about_21 rfl ?_
      refine sm_if_ne C 30 dX12_about_22 (by decide) ?_ ?_
      · refine sm_bipush C (49 : Int32) dX12_about_30 bp_49 ?_
        refine sm_iload_n C 1 dX12_about_32 rfl ?_
        refine sm_iadd C dX12_about_33 ?_
        refine r_iald C (G_m83 G) dX12_about_34 (fun v9 => ?_)
        refine sm_goto C 44 dX12_about_35 (by decide) ?_
        exact sm_iret C dX12_about_44
      · refine sm_bipush C (41 : Int32) dX12_about_25 bp_41 ?_
        refine sm_goto C 32 dX12_about_27 (by decide) ?_
        refine sm_iload_n C 1 dX12_about_32 rfl ?_
        refine sm_iadd C dX12_about_33 ?_
        refine r_iald C (G_m83 G) dX12_about_34 (fun v10 => ?_)
        refine sm_goto C 44 dX12_about_35 (by decide) ?_
        exact sm_iret C dX12_about_44
theorem dd_X12_good : yX12_good.cls = RX12 ∧ yX12_good.cls ≠ "java/lang/invoke/MethodHandle" ∧ yX12_good.cls ≠ "java/lang/invoke/VarHandle" ∧ (parseMethodDescriptor yX12_good.desc).map (fun d => d.parameters.length) = some 3 := by decide +kernel
set_option maxRecDepth 100000 in
set_option maxHeartbeats 4000000 in
theorem ct_X12_good {l : Launch} {w : Wco} (G : GW w) (x1 : Int32) (x2 : Int32) (x3 : Int32) (s0 : Sta) (qq : Int32) (ss : Sta) (hh : X12_good x1 x2 x3 s0 = some (qq, ss)) : Ct l w yX12_good (Cond.code yX12_good cX12_good 4 (some .int) :: GT) { frames := 2, cells := 0, slots := 0, locals := 46 } [.ref (wad w 82), .int x1, .int x2, .int x3] s0 (oI qq) ss := by
  refine ct_of [(0, .ref (wad w 82)), (1, .int x1), (2, .int x2), (3, .int x3)] (by decide +kernel) (Nat.le_of_ble_eq_true rfl) rfl hh (fun M _ C => ?_)
  unfold X12_good
  refine sm_aload_n C 0 dX12_good_0 rfl ?_
  refine sm_iload_n C 1 dX12_good_1 rfl ?_
  refine r_callVI C (R := RX12) (T := TX12) (N := 21) [.int x1] (G_M G) rfl (fun qq ss hh => ct_X12_isOne G x1 s0 qq ss hh) kw_1029 kw_1031 kw_29 kw_64 kw_1032 dX12_good_2 rfl dd_X12_isOne ⟨rfl, rfl⟩ ⟨by decide, by decide⟩ (Nat.le_of_ble_eq_true rfl) _ rfl (fun q1 s2 => ?_)
  refine sm_if_eq C 32 dX12_good_5 (by decide) ?_ ?_
  · refine sm_aload_n C 0 dX12_good_32 rfl ?_
    refine sm_bipush C (-2 : Int32) dX12_good_33 bp_m2 ?_
    refine r_callVI C (R := RX12) (T := TX12) (N := 21) [.int (-2 : Int32)] (G_M G) rfl (fun qq ss hh => ct_X12_bad G (-2 : Int32) s2 qq ss hh) kw_952 kw_954 kw_18 kw_64 kw_955 dX12_good_35 rfl dd_X12_bad ⟨rfl, rfl⟩ ⟨by decide, by decide⟩ (Nat.le_of_ble_eq_true rfl) _ rfl (fun q3 s4 => ?_)
    exact sm_iret C dX12_good_38
  · refine sm_iload_n C 2 dX12_good_8 rfl ?_
    refine r_callSI C [.int x2] (fun qq ss hh => ct_X12_isSort x2 s2 qq ss hh) kw_947 kw_948 kw_64 kw_949 dX12_good_9 rfl dd_X12_isSort ⟨rfl, rfl⟩ ⟨by decide, by decide⟩ (Nat.le_of_ble_eq_true rfl) _ rfl (fun q5 s6 => ?_)
    refine sm_if_eq C 32 dX12_good_12 (by decide) ?_ ?_
    · refine sm_aload_n C 0 dX12_good_32 rfl ?_
      refine sm_bipush C (-2 : Int32) dX12_good_33 bp_m2 ?_
      refine r_callVI C (R := RX12) (T := TX12) (N := 21) [.int (-2 : Int32)] (G_M G) rfl (fun qq ss hh => ct_X12_bad G (-2 : Int32) s6 qq ss hh) kw_952 kw_954 kw_18 kw_64 kw_955 dX12_good_35 rfl dd_X12_bad ⟨rfl, rfl⟩ ⟨by decide, by decide⟩ (Nat.le_of_ble_eq_true rfl) _ rfl (fun q7 s8 => ?_)
      exact sm_iret C dX12_good_38
    · refine sm_iload_n C 3 dX12_good_15 rfl ?_
      refine r_callSI C [.int x3] (fun qq ss hh => ct_X12_isYear x3 s6 qq ss hh) kw_940 kw_941 kw_64 kw_942 dX12_good_16 rfl dd_X12_isYear ⟨rfl, rfl⟩ ⟨by decide, by decide⟩ (Nat.le_of_ble_eq_true rfl) _ rfl (fun q9 s10 => ?_)
      refine sm_if_eq C 32 dX12_good_19 (by decide) ?_ ?_
      · refine sm_aload_n C 0 dX12_good_32 rfl ?_
        refine sm_bipush C (-2 : Int32) dX12_good_33 bp_m2 ?_
        refine r_callVI C (R := RX12) (T := TX12) (N := 21) [.int (-2 : Int32)] (G_M G) rfl (fun qq ss hh => ct_X12_bad G (-2 : Int32) s10 qq ss hh) kw_952 kw_954 kw_18 kw_64 kw_955 dX12_good_35 rfl dd_X12_bad ⟨rfl, rfl⟩ ⟨by decide, by decide⟩ (Nat.le_of_ble_eq_true rfl) _ rfl (fun q11 s12 => ?_)
        exact sm_iret C dX12_good_38
      · refine sm_aload_n C 0 dX12_good_22 rfl ?_
        refine sm_iload_n C 1 dX12_good_23 rfl ?_
        refine sm_iload_n C 2 dX12_good_24 rfl ?_
        refine sm_iload_n C 3 dX12_good_25 rfl ?_
        refine r_callVI C (R := RX12) (T := TX12) (N := 21) [.int x1, .int x2, .int x3] (G_M G) rfl (fun qq ss hh => ct_X12_goodOf G x1 x2 x3 s10 qq ss hh) kw_1014 kw_1016 kw_28 kw_64 kw_1017 dX12_good_26 rfl dd_X12_goodOf ⟨rfl, rfl⟩ ⟨by decide, by decide⟩ (Nat.le_of_ble_eq_true rfl) _ rfl (fun q13 s14 => ?_)
        refine sm_goto C 38 dX12_good_29 (by decide) ?_
        exact sm_iret C dX12_good_38
theorem dd_X12_enter : yX12_enter.cls = RX12 ∧ yX12_enter.cls ≠ "java/lang/invoke/MethodHandle" ∧ yX12_enter.cls ≠ "java/lang/invoke/VarHandle" ∧ (parseMethodDescriptor yX12_enter.desc).map (fun d => d.parameters.length) = some 1 := by decide +kernel
set_option maxRecDepth 100000 in
set_option maxHeartbeats 4000000 in
theorem sl_X12_enter_L28 {M : Mco} {w : Wco} (C : Cx M w cX12_enter 4 yX12_enter.cls (Cond.code yX12_enter cX12_enter 4 (some .int)) (some .int) { frames := 6, cells := 0, slots := 0, locals := 138 }) (G : GW w) : ∀ (n : Nat) (y1 : Int32) (y2 : Int32) (y3 : Int32) (s0 : Sta), Sm M w 4 oI 28 [(0, .ref (wad w 82)), (1, .int y1), (2, .int y2), (3, .int y3)] [] s0 (X12_enter_L28 n y1 y2 y3 s0) := by
  intro n
  induction n with
  | zero => intros; exact sm_none
  | succ n ih =>
    intro y1 y2 y3 s0
    rw [X12_enter_L28.eq_2]
    refine sm_iload_n C 3 dX12_enter_28 rfl ?_
    refine sm_aload_n C 0 dX12_enter_29 rfl ?_
    refine r_callVI C (R := RX12) (T := TX12) (N := 21) [] (G_M G) rfl (fun qq ss hh => ct_X12_many G s0 qq ss hh) kw_932 kw_934 kw_17 kw_64 kw_935 dX12_enter_30 rfl dd_X12_many ⟨rfl, rfl⟩ ⟨by decide, by decide⟩ (Nat.le_of_ble_eq_true rfl) _ rfl (fun q9 s10 => ?_)
    refine sm_icmp_ge C 61 dX12_enter_33 (by decide) ?_ ?_
    · refine sm_iload_n C 2 dX12_enter_61 rfl ?_
      exact sm_iret C dX12_enter_62
    · refine sm_iload_n C 2 dX12_enter_36 rfl ?_
      refine sm_aload_n C 0 dX12_enter_37 rfl ?_
      refine sm_iload_n C 3 dX12_enter_38 rfl ?_
      refine sm_iload_n C 1 dX12_enter_39 rfl ?_
      refine r_callVI C (R := RX12) (T := TX12) (N := 21) [.int y3, .int y1] (G_M G) rfl (fun qq ss hh => ct_X12_enters G y3 y1 s10 qq ss hh) kw_993 kw_995 kw_25 kw_64 kw_996 dX12_enter_40 rfl dd_X12_enters ⟨rfl, rfl⟩ ⟨by decide, by decide⟩ (Nat.le_of_ble_eq_true rfl) _ rfl (fun q11 s12 => ?_)
      refine sm_if_eq C 52 dX12_enter_43 (by decide) ?_ ?_
      · refine sm_iconst C (0 : Int32) dX12_enter_52 ic_0 ?_
        refine sm_ior C dX12_enter_53 ?_
        refine sm_istore_n C [(2, .int (y2 ||| (0 : Int32))), (0, .ref (wad w 82)), (1, .int y1), (3, .int y3)] dX12_enter_54 (by decide) rfl ?_
        refine sm_iinc C 3 (y3 + (1 : Int32)) [(3, .int (y3 + (1 : Int32))), (2, .int (y2 ||| (0 : Int32))), (0, .ref (wad w 82)), (1, .int y1)] dX12_enter_55 rfl (ii_1 _) (by decide) rfl ?_
        refine sm_goto C 28 dX12_enter_58 (by decide) ?_
        exact sm_sub [2, 3, 1, 0] rfl (ih y1 (y2 ||| (0 : Int32)) (y3 + (1 : Int32)) s12)
      · refine sm_iconst C (1 : Int32) dX12_enter_46 ic_1 ?_
        refine sm_iload_n C 3 dX12_enter_47 rfl ?_
        refine sm_ishl C dX12_enter_48 ?_
        refine sm_goto C 53 dX12_enter_49 (by decide) ?_
        refine sm_ior C dX12_enter_53 ?_
        refine sm_istore_n C [(2, .int (y2 ||| ((1 : Int32) <<< (y3 &&& 31)))), (0, .ref (wad w 82)), (1, .int y1), (3, .int y3)] dX12_enter_54 (by decide) rfl ?_
        refine sm_iinc C 3 (y3 + (1 : Int32)) [(3, .int (y3 + (1 : Int32))), (2, .int (y2 ||| ((1 : Int32) <<< (y3 &&& 31)))), (0, .ref (wad w 82)), (1, .int y1)] dX12_enter_55 rfl (ii_1 _) (by decide) rfl ?_
        refine sm_goto C 28 dX12_enter_58 (by decide) ?_
        exact sm_sub [2, 3, 1, 0] rfl (ih y1 (y2 ||| ((1 : Int32) <<< (y3 &&& 31))) (y3 + (1 : Int32)) s12)
set_option maxRecDepth 100000 in
set_option maxHeartbeats 4000000 in
theorem ct_X12_enter {l : Launch} {w : Wco} (G : GW w) (x1 : Int32) (s0 : Sta) (qq : Int32) (ss : Sta) (hh : X12_enter x1 s0 = some (qq, ss)) : Ct l w yX12_enter (Cond.code yX12_enter cX12_enter 4 (some .int) :: GT) { frames := 6, cells := 0, slots := 0, locals := 138 } [.ref (wad w 82), .int x1] s0 (oI qq) ss := by
  refine ct_of [(0, .ref (wad w 82)), (1, .int x1)] (by decide +kernel) (Nat.le_of_ble_eq_true rfl) rfl hh (fun M _ C => ?_)
  unfold X12_enter
  refine sm_aload_n C 0 dX12_enter_0 rfl ?_
  refine sm_iload_n C 1 dX12_enter_1 rfl ?_
  refine r_callVI C (R := RX12) (T := TX12) (N := 21) [.int x1] (G_M G) rfl (fun qq ss hh => ct_X12_isToCome G x1 s0 qq ss hh) kw_1046 kw_1048 kw_30 kw_64 kw_1049 dX12_enter_2 rfl dd_X12_isToCome ⟨rfl, rfl⟩ ⟨by decide, by decide⟩ (Nat.le_of_ble_eq_true rfl) _ rfl (fun q1 s2 => ?_)
  refine sm_if_ne C 15 dX12_enter_5 (by decide) ?_ ?_
  · refine sm_iconst C (0 : Int32) dX12_enter_15 ic_0 ?_
    refine sm_istore_n C [(2, .int (0 : Int32)), (0, .ref (wad w 82)), (1, .int x1)] dX12_enter_16 (by decide) rfl ?_
    refine sm_aload_n C 1 dX12_enter_17 rfl ?_
    refine r_callVU C (R := RX12) (T := TX12) (N := 21) [] (G_M G) rfl (fun qq ss hh => ct_X12_layHand G s2 qq ss hh) kw_981 kw_983 kw_22 kw_64 kw_984 dX12_enter_18 rfl dd_X12_layHand ⟨rfl, rfl⟩ ⟨by decide, by decide⟩ (Nat.le_of_ble_eq_true rfl) _ rfl (fun q3 s4 => ?_)
    refine sm_aload_n C 1 dX12_enter_21 rfl ?_
    refine sm_iload_n C 2 dX12_enter_22 rfl ?_
    refine r_callVU C (R := RX12) (T := TX12) (N := 21) [.int x1] (G_M G) rfl (fun qq ss hh => ct_X12_goTill G x1 s4 qq ss hh) kw_1050 kw_1052 kw_31 kw_64 kw_1053 dX12_enter_23 rfl dd_X12_goTill ⟨rfl, rfl⟩ ⟨by decide, by decide⟩ (Nat.le_of_ble_eq_true rfl) _ rfl (fun q5 s6 => ?_)
    refine sm_iconst C (0 : Int32) dX12_enter_26 ic_0 ?_
    refine sm_istore_n C [(3, .int (0 : Int32)), (2, .int (0 : Int32)), (0, .ref (wad w 82)), (1, .int x1)] dX12_enter_27 (by decide) rfl ?_
    exact sm_sub [2, 3, 1, 0] rfl (sl_X12_enter_L28 C G FU x1 (0 : Int32) (0 : Int32) s6)
  · refine sm_aload_n C 0 dX12_enter_8 rfl ?_
    refine sm_bipush C (-2 : Int32) dX12_enter_9 bp_m2 ?_
    refine r_callVI C (R := RX12) (T := TX12) (N := 21) [.int (-2 : Int32)] (G_M G) rfl (fun qq ss hh => ct_X12_bad G (-2 : Int32) s2 qq ss hh) kw_952 kw_954 kw_18 kw_64 kw_955 dX12_enter_11 rfl dd_X12_bad ⟨rfl, rfl⟩ ⟨by decide, by decide⟩ (Nat.le_of_ble_eq_true rfl) _ rfl (fun q7 s8 => ?_)
    exact sm_iret C dX12_enter_14
theorem dd_X12_winner : yX12_winner.cls = RX12 ∧ yX12_winner.cls ≠ "java/lang/invoke/MethodHandle" ∧ yX12_winner.cls ≠ "java/lang/invoke/VarHandle" ∧ (parseMethodDescriptor yX12_winner.desc).map (fun d => d.parameters.length) = some 2 := by decide +kernel
set_option maxRecDepth 100000 in
set_option maxHeartbeats 4000000 in
theorem ct_X12_winner {l : Launch} {w : Wco} (G : GW w) (x1 : Int32) (x2 : Int32) (s0 : Sta) (qq : Int32) (ss : Sta) (hh : X12_winner x1 x2 s0 = some (qq, ss)) : Ct l w yX12_winner (Cond.code yX12_winner cX12_winner 4 (some .int) :: GT) { frames := 6, cells := 0, slots := 0, locals := 138 } [.ref (wad w 82), .int x1, .int x2] s0 (oI qq) ss := by
  refine ct_of [(0, .ref (wad w 82)), (1, .int x1), (2, .int x2)] (by decide +kernel) (Nat.le_of_ble_eq_true rfl) rfl hh (fun M _ C => ?_)
  unfold X12_winner
  refine sm_aload_n C 0 dX12_winner_0 rfl ?_
  refine sm_iload_n C 1 dX12_winner_1 rfl ?_
  refine r_callVI C (R := RX12) (T := TX12) (N := 21) [.int x1] (G_M G) rfl (fun qq ss hh => ct_X12_isToCome G x1 s0 qq ss hh) kw_1046 kw_1048 kw_30 kw_64 kw_1049 dX12_winner_2 rfl dd_X12_isToCome ⟨rfl, rfl⟩ ⟨by decide, by decide⟩ (Nat.le_of_ble_eq_true rfl) _ rfl (fun q1 s2 => ?_)
  refine sm_if_eq C 18 dX12_winner_5 (by decide) ?_ ?_
  · refine sm_aload_n C 0 dX12_winner_18 rfl ?_
    refine sm_bipush C (-2 : Int32) dX12_winner_19 bp_m2 ?_
    refine r_callVI C (R := RX12) (T := TX12) (N := 21) [.int (-2 : Int32)] (G_M G) rfl (fun qq ss hh => ct_X12_bad G (-2 : Int32) s2 qq ss hh) kw_952 kw_954 kw_18 kw_64 kw_955 dX12_winner_21 rfl dd_X12_bad ⟨rfl, rfl⟩ ⟨by decide, by decide⟩ (Nat.le_of_ble_eq_true rfl) _ rfl (fun q3 s4 => ?_)
    exact sm_iret C dX12_winner_24
  · refine sm_iload_n C 2 dX12_winner_8 rfl ?_
    refine sm_i2l C dX12_winner_9 ?_
    refine sm_lconst C (0 : Int64) dX12_winner_10 lc_0 ?_
    refine sm_lconst C (1 : Int64) dX12_winner_11 lc_1 ?_
    refine r_callSI C [.long x2.toInt64, .long (0 : Int64), .long (1 : Int64)] (fun qq ss hh => ct_X12_in x2.toInt64 (0 : Int64) (1 : Int64) s2 qq ss hh) kw_944 kw_945 kw_64 kw_946 dX12_winner_12 rfl dd_X12_in ⟨rfl, rfl⟩ ⟨by decide, by decide⟩ (Nat.le_of_ble_eq_true rfl) _ rfl (fun q5 s6 => ?_)
    refine sm_if_ne C 25 dX12_winner_15 (by decide) ?_ ?_
    · refine sm_aload_n C 0 dX12_winner_25 rfl ?_
      refine r_callVU C (R := RX12) (T := TX12) (N := 21) [] (G_M G) rfl (fun qq ss hh => ct_X12_layHand G s6 qq ss hh) kw_981 kw_983 kw_22 kw_64 kw_984 dX12_winner_26 rfl dd_X12_layHand ⟨rfl, rfl⟩ ⟨by decide, by decide⟩ (Nat.le_of_ble_eq_true rfl) _ rfl (fun q7 s8 => ?_)
      refine sm_aload_n C 0 dX12_winner_29 rfl ?_
      refine sm_iload_n C 1 dX12_winner_30 rfl ?_
      refine r_callVU C (R := RX12) (T := TX12) (N := 21) [.int x1] (G_M G) rfl (fun qq ss hh => ct_X12_goTill G x1 s8 qq ss hh) kw_1050 kw_1052 kw_31 kw_64 kw_1053 dX12_winner_31 rfl dd_X12_goTill ⟨rfl, rfl⟩ ⟨by decide, by decide⟩ (Nat.le_of_ble_eq_true rfl) _ rfl (fun q9 s10 => ?_)
      refine sm_aload_n C 0 dX12_winner_34 rfl ?_
      refine sm_iload_n C 1 dX12_winner_35 rfl ?_
      refine sm_iconst C (-1 : Int32) dX12_winner_36 ic_m1 ?_
      refine r_callVI C (R := RX12) (T := TX12) (N := 21) [.int x1, .int (-1 : Int32)] (G_M G) rfl (fun qq ss hh => ct_X12_bestIn G x1 (-1 : Int32) s10 qq ss hh) kw_989 kw_991 kw_24 kw_64 kw_992 dX12_winner_37 rfl dd_X12_bestIn ⟨rfl, rfl⟩ ⟨by decide, by decide⟩ (Nat.le_of_ble_eq_true rfl) _ rfl (fun q11 s12 => ?_)
      refine sm_istore_n C [(3, .int q11), (0, .ref (wad w 82)), (1, .int x1), (2, .int x2)] dX12_winner_40 (by decide) rfl ?_
      refine sm_iload_n C 3 dX12_winner_41 rfl ?_
      refine sm_if_eq C 50 dX12_winner_42 (by decide) ?_ ?_
      · refine sm_iload_n C 0 dX12_winner_50 rfl ?_
        refine sm_goto C 60 dX12_winner_51 (by decide) ?_
        exact sm_iret C dX12_winner_60
      · refine sm_iload_n C 0 dX12_winner_45 rfl ?_
        refine sm_iconst C (-1 : Int32) dX12_winner_46 ic_m1 ?_
        refine sm_icmp_ne C 54 dX12_winner_47 (by decide) ?_ ?_
        · refine sm_aload_n C 1 dX12_winner_54 rfl ?_
          refine sm_iload_n C 2 dX12_winner_55 rfl ?_
          refine sm_iload_n C 0 dX12_winner_56 rfl ?_
          refine r_callVI C (R := RX12) (T := TX12) (N := 21) [.int x1, .int q11] (G_M G) rfl (fun qq ss hh => ct_X12_bestIn G x1 q11 s12 qq ss hh) kw_989 kw_991 kw_24 kw_64 kw_992 dX12_winner_57 rfl dd_X12_bestIn ⟨rfl, rfl⟩ ⟨by decide, by decide⟩ (Nat.le_of_ble_eq_true rfl) _ rfl (fun q13 s14 => ?_)
          exact sm_iret C dX12_winner_60
        · refine sm_iload_n C 0 dX12_winner_50 rfl ?_
          refine sm_goto C 60 dX12_winner_51 (by decide) ?_
          exact sm_iret C dX12_winner_60
    · refine sm_aload_n C 0 dX12_winner_18 rfl ?_
      refine sm_bipush C (-2 : Int32) dX12_winner_19 bp_m2 ?_
      refine r_callVI C (R := RX12) (T := TX12) (N := 21) [.int (-2 : Int32)] (G_M G) rfl (fun qq ss hh => ct_X12_bad G (-2 : Int32) s6 qq ss hh) kw_952 kw_954 kw_18 kw_64 kw_955 dX12_winner_21 rfl dd_X12_bad ⟨rfl, rfl⟩ ⟨by decide, by decide⟩ (Nat.le_of_ble_eq_true rfl) _ rfl (fun q15 s16 => ?_)
      exact sm_iret C dX12_winner_24
