theorem dd_X8_isWord : yX8_isWord.cls = RX8 ∧ yX8_isWord.cls ≠ "java/lang/invoke/MethodHandle" ∧ yX8_isWord.cls ≠ "java/lang/invoke/VarHandle" ∧ (parseMethodDescriptor yX8_isWord.desc).map (fun d => d.parameters.length) = some 1 := by decide +kernel
def X8_isWord_L28 (tv : Nat) : Nat → Int32 → Sta → Option (Int32 × Sta)
  | 0, _, _ => none
  | n + 1, y2, s0 => cA (J_length tv s0) (fun q6 s7 => if y2 < q6 then (fI s7 80 2 (fun v8 => aI s7 81 150 (v8 + y2) (fun v9 => cA (J_charAt tv y2 s7) (fun q10 s11 => if v9 = q10 then (X8_isWord_L28 tv n (y2 + (1 : Int32)) s11) else (rZ (0 : Int32) s11))))) else (rZ (1 : Int32) s7))
def X8_isWord (tv : Nat) (s0 : Sta) : Option (Int32 × Sta) := fI s0 80 4 (fun v1 => if v1 = (1 : Int32) then (fI s0 80 3 (fun v2 => fI s0 80 2 (fun v3 => cA (J_length tv s0) (fun q4 s5 => if (v2 - v3) = q4 then (X8_isWord_L28 tv FU (0 : Int32) s5) else (rZ (0 : Int32) s5))))) else (rZ (0 : Int32) s0))
set_option maxRecDepth 100000 in
set_option maxHeartbeats 4000000 in
theorem sl_X8_isWord_L28 {M : Mco} {w : Wco} (C : Cx M w cX8_isWord 3 yX8_isWord.cls (Cond.code yX8_isWord cX8_isWord 3 (some .boolean)) (some .boolean) { frames := 4, cells := 0, slots := 0, locals := 85 }) {tv : Nat} (G : GW w) (htv : tv < 3) : ∀ (n : Nat) (y2 : Int32) (s0 : Sta), Sm M w 3 oI 28 [(0, .ref (wad w 80)), (1, .ref (wtK w tv)), (2, .int y2)] [] s0 (X8_isWord_L28 tv n y2 s0) := by
  intro n
  induction n with
  | zero => intros; exact sm_none
  | succ n ih =>
    intro y2 s0
    rw [X8_isWord_L28.eq_2]
    refine sm_iload_n C 2 dX8_isWord_28 rfl ?_
    refine sm_aload_n C 1 dX8_isWord_29 rfl ?_
    refine tx_call C [] htv (fun qq ss hh => ct_J0_length_8abf5 tv htv s0 qq ss hh) kw_412 kw_413 kw_414 kw_65 kw_415 dX8_isWord_30 rfl dd_J0_length_8abf5 ⟨rfl, rfl⟩ ⟨by decide, by decide⟩ (Nat.le_of_ble_eq_true rfl) _ rfl (fun q6 s7 => ?_)
    refine sm_icmp_ge C 63 dX8_isWord_33 (by decide) ?_ ?_
    · refine sm_iconst C (1 : Int32) dX8_isWord_63 ic_1 ?_
      exact sm_zret C dX8_isWord_64
    · refine sm_aload_n C 0 dX8_isWord_36 rfl ?_
      refine sm_getR C (ci := 8) (R := RX8) (T := TX8) (N := 6) (j := 0) (G_S G).2 (G_S G).1 rfl gX8 (by decide) kw_280 dX8_isWord_37 (fun _ _ => rfl) ?_
      refine sm_aload_n C 0 dX8_isWord_40 rfl ?_
      refine sm_getI C (ci := 8) (R := RX8) (T := TX8) (N := 6) (j := 2) (G_S G).2 (G_S G).1 rfl gX8 (by decide) kw_283 dX8_isWord_41 (fun _ _ => rfl) (fun v8 => ?_)
      refine sm_iload_n C 2 dX8_isWord_44 rfl ?_
      refine sm_iadd C dX8_isWord_45 ?_
      refine r_iald C (G_by G) dX8_isWord_46 (fun v9 => ?_)
      refine sm_aload_n C 1 dX8_isWord_47 rfl ?_
      refine sm_iload_n C 2 dX8_isWord_48 rfl ?_
      refine tx_call C [.int y2] htv (fun qq ss hh => ct_J0_charAt_5068e tv htv y2 s7 qq ss hh) kw_422 kw_423 kw_424 kw_65 kw_425 dX8_isWord_49 rfl dd_J0_charAt_5068e ⟨rfl, rfl⟩ ⟨by decide, by decide⟩ (Nat.le_of_ble_eq_true rfl) _ rfl (fun q10 s11 => ?_)
      refine sm_icmp_eq C 57 dX8_isWord_52 (by decide) ?_ ?_
      · refine sm_iinc C 2 (y2 + (1 : Int32)) [(2, .int (y2 + (1 : Int32))), (0, .ref (wad w 80)), (1, .ref (wtK w tv))] dX8_isWord_57 rfl (ii_1 _) (by decide) rfl ?_
        refine sm_goto C 28 dX8_isWord_60 (by decide) ?_
        exact sm_sub [1, 2, 0] rfl (ih (y2 + (1 : Int32)) s11)
      · refine sm_iconst C (0 : Int32) dX8_isWord_55 ic_0 ?_
        exact sm_zret C dX8_isWord_56
set_option maxRecDepth 100000 in
set_option maxHeartbeats 4000000 in
theorem ct_X8_isWord {l : Launch} {w : Wco} (tv : Nat) (G : GW w) (htv : tv < 3) (s0 : Sta) (qq : Int32) (ss : Sta) (hh : X8_isWord tv s0 = some (qq, ss)) : Ct l w yX8_isWord (Cond.code yX8_isWord cX8_isWord 3 (some .boolean) :: GT) { frames := 4, cells := 0, slots := 0, locals := 85 } [.ref (wad w 80), .ref (wtK w tv)] s0 (oI qq) ss := by
  refine ct_of [(0, .ref (wad w 80)), (1, .ref (wtK w tv))] (by decide +kernel) (Nat.le_of_ble_eq_true rfl) rfl hh (fun M _ C => ?_)
  unfold X8_isWord
  refine sm_aload_n C 0 dX8_isWord_0 rfl ?_
  refine sm_getI C (ci := 8) (R := RX8) (T := TX8) (N := 6) (j := 4) (G_S G).2 (G_S G).1 rfl gX8 (by decide) kw_285 dX8_isWord_1 (fun _ _ => rfl) (fun v1 => ?_)
  refine sm_iconst C (1 : Int32) dX8_isWord_4 ic_1 ?_
  refine sm_icmp_ne C 24 dX8_isWord_5 (by decide) ?_ ?_
  · refine sm_iconst C (0 : Int32) dX8_isWord_24 ic_0 ?_
    exact sm_zret C dX8_isWord_25
  · refine sm_aload_n C 0 dX8_isWord_8 rfl ?_
    refine sm_getI C (ci := 8) (R := RX8) (T := TX8) (N := 6) (j := 3) (G_S G).2 (G_S G).1 rfl gX8 (by decide) kw_284 dX8_isWord_9 (fun _ _ => rfl) (fun v2 => ?_)
    refine sm_aload_n C 0 dX8_isWord_12 rfl ?_
    refine sm_getI C (ci := 8) (R := RX8) (T := TX8) (N := 6) (j := 2) (G_S G).2 (G_S G).1 rfl gX8 (by decide) kw_283 dX8_isWord_13 (fun _ _ => rfl) (fun v3 => ?_)
    refine sm_isub C dX8_isWord_16 ?_
    refine sm_aload_n C 1 dX8_isWord_17 rfl ?_
    refine tx_call C [] htv (fun qq ss hh => ct_J0_length_8abf5 tv htv s0 qq ss hh) kw_412 kw_413 kw_414 kw_65 kw_415 dX8_isWord_18 rfl dd_J0_length_8abf5 ⟨rfl, rfl⟩ ⟨by decide, by decide⟩ (Nat.le_of_ble_eq_true rfl) _ rfl (fun q4 s5 => ?_)
    refine sm_icmp_eq C 26 dX8_isWord_21 (by decide) ?_ ?_
    · refine sm_iconst C (0 : Int32) dX8_isWord_26 ic_0 ?_
      refine sm_istore_n C [(2, .int (0 : Int32)), (0, .ref (wad w 80)), (1, .ref (wtK w tv))] dX8_isWord_27 (by decide) rfl ?_
      exact sm_sub [1, 2, 0] rfl (sl_X8_isWord_L28 C G htv FU (0 : Int32) s5)
    · refine sm_iconst C (0 : Int32) dX8_isWord_24 ic_0 ?_
      exact sm_zret C dX8_isWord_25
theorem dd_X8_tellInto : yX8_tellInto.cls = RX8 ∧ yX8_tellInto.cls ≠ "java/lang/invoke/MethodHandle" ∧ yX8_tellInto.cls ≠ "java/lang/invoke/VarHandle" ∧ (parseMethodDescriptor yX8_tellInto.desc).map (fun d => d.parameters.length) = some 1 := by decide +kernel
def X8_tellInto_L100 (rv : Nat) (k41 : Int32 → Int32 → Sta → Option (Int32 × Sta)) (y2 : Int32) (y3 : Int32) (z0 : Int32) (s0 : Sta) : Option (Int32 × Sta) := if z0 = 0 then (fI s0 80 2 (fun v23 => some (((-10 : Int32) - v23), s0))) else (cA (X8_endsItem  s0) (fun q24 s25 => if q24 = 0 then (fI s25 80 2 (fun v26 => some (((-10 : Int32) - v26), s25))) else (k41 (y2 + (1 : Int32)) (y3 + (1 : Int32)) s25)))
def X8_tellInto_L41 (rv : Nat) : Nat → Int32 → Int32 → Sta → Option (Int32 × Sta)
  | 0, _, _, _ => none
  | n + 1, y2, y3, s0 => if y3 < (150 : Int32) then (cA (X8_advance  s0) (fun q12 s13 => fI s13 80 4 (fun v14 => if v14 = 0 then (some (y2, s13)) else (cA (X8_isWord 1 s13) (fun q15 s16 => if q15 = 0 then (cA (X8_isWord 2 s16) (fun q17 s18 => if q17 = 0 then (X8_tellInto_L100 rv (X8_tellInto_L41 rv n) y2 y3 (0 : Int32) s18) else (cA (X8_tellOne rv s18) (fun q19 s20 => if q19 = 0 then (X8_tellInto_L100 rv (X8_tellInto_L41 rv n) y2 y3 (0 : Int32) s20) else (X8_tellInto_L100 rv (X8_tellInto_L41 rv n) y2 y3 (1 : Int32) s20))))) else (cA (X8_tellPrize rv s16) (fun q21 s22 => X8_tellInto_L100 rv (X8_tellInto_L41 rv n) y2 y3 q21 s22))))))) else (some (y2, s0))
def X8_tellInto (rv : Nat) (s0 : Sta) : Option (Int32 × Sta) := cA (X10_empty rv s0) (fun q1 s2 => pI s2 80 3 (0 : Int32) (fun s3 => cA (X8_advance  s3) (fun q4 s5 => cA (X8_isWord 0 s5) (fun q6 s7 => if q6 = 0 then (fI s7 80 2 (fun v8 => some (((-10 : Int32) - v8), s7))) else (cA (X8_endsItem  s7) (fun q9 s10 => if q9 = 0 then (fI s10 80 2 (fun v11 => some (((-10 : Int32) - v11), s10))) else (X8_tellInto_L41 rv FU (1 : Int32) (0 : Int32) s10)))))))
set_option maxRecDepth 100000 in
set_option maxHeartbeats 4000000 in
theorem sl_X8_tellInto_L100 {M : Mco} {w : Wco} (C : Cx M w cX8_tellInto 5 yX8_tellInto.cls (Cond.code yX8_tellInto cX8_tellInto 5 (some .int)) (some .int) { frames := 5, cells := 0, slots := 0, locals := 107 }) {rv : Nat} (G : GW w) (hrv : isV w rv) {k41 : Int32 → Int32 → Sta → Option (Int32 × Sta)} (H41 : ∀ (y2 : Int32) (y3 : Int32) (s0 : Sta), Sm M w 5 oI 41 [(0, .ref (wad w 80)), (1, .ref (wad w rv)), (2, .int y2), (3, .int y3)] [] s0 (k41 y2 y3 s0)) : ∀ (y2 : Int32) (y3 : Int32) (z0 : Int32) (s0 : Sta), Sm M w 5 oI 100 [(0, .ref (wad w 80)), (1, .ref (wad w rv)), (2, .int y2), (3, .int y3)] [.int z0] s0 (X8_tellInto_L100 rv k41 y2 y3 z0 s0) := by
  intro y2 y3 z0 s0
  unfold X8_tellInto_L100
  refine sm_istore C [(4, .int z0), (0, .ref (wad w 80)), (1, .ref (wad w rv)), (2, .int y2), (3, .int y3)] dX8_tellInto_100 (by decide) rfl ?_
  refine sm_iload C 0 dX8_tellInto_102 rfl ?_
  refine sm_if_eq C 114 dX8_tellInto_104 (by decide) ?_ ?_
  · refine sm_bipush C (-10 : Int32) dX8_tellInto_114 bp_m10 ?_
    refine sm_aload_n C 1 dX8_tellInto_116 rfl ?_
    refine sm_getI C (ci := 8) (R := RX8) (T := TX8) (N := 6) (j := 2) (G_S G).2 (G_S G).1 rfl gX8 (by decide) kw_283 dX8_tellInto_117 (fun _ _ => rfl) (fun v23 => ?_)
    refine sm_isub C dX8_tellInto_120 ?_
    exact sm_iret C dX8_tellInto_121
  · refine sm_aload_n C 1 dX8_tellInto_107 rfl ?_
    refine r_callVI C (R := RX8) (T := TX8) (N := 6) [] (G_S G) rfl (fun qq ss hh => ct_X8_endsItem G s0 qq ss hh) kw_460 kw_462 kw_5 kw_63 kw_463 dX8_tellInto_108 rfl dd_X8_endsItem ⟨rfl, rfl⟩ ⟨by decide, by decide⟩ (Nat.le_of_ble_eq_true rfl) _ rfl (fun q24 s25 => ?_)
    refine sm_if_ne C 122 dX8_tellInto_111 (by decide) ?_ ?_
    · refine sm_iinc C 3 (y2 + (1 : Int32)) [(2, .int (y2 + (1 : Int32))), (4, .int z0), (0, .ref (wad w 80)), (1, .ref (wad w rv)), (3, .int y3)] dX8_tellInto_122 rfl (ii_1 _) (by decide) rfl ?_
      refine sm_iinc C 4 (y3 + (1 : Int32)) [(3, .int (y3 + (1 : Int32))), (2, .int (y2 + (1 : Int32))), (4, .int z0), (0, .ref (wad w 80)), (1, .ref (wad w rv))] dX8_tellInto_125 rfl (ii_1 _) (by decide) rfl ?_
      refine sm_goto C 41 dX8_tellInto_128 (by decide) ?_
      exact sm_sub [3, 4, 1, 0] rfl (H41 (y2 + (1 : Int32)) (y3 + (1 : Int32)) s25)
    · refine sm_bipush C (-10 : Int32) dX8_tellInto_114 bp_m10 ?_
      refine sm_aload_n C 1 dX8_tellInto_116 rfl ?_
      refine sm_getI C (ci := 8) (R := RX8) (T := TX8) (N := 6) (j := 2) (G_S G).2 (G_S G).1 rfl gX8 (by decide) kw_283 dX8_tellInto_117 (fun _ _ => rfl) (fun v26 => ?_)
      refine sm_isub C dX8_tellInto_120 ?_
      exact sm_iret C dX8_tellInto_121
set_option maxRecDepth 100000 in
set_option maxHeartbeats 4000000 in
theorem sl_X8_tellInto_L41 {M : Mco} {w : Wco} (C : Cx M w cX8_tellInto 5 yX8_tellInto.cls (Cond.code yX8_tellInto cX8_tellInto 5 (some .int)) (some .int) { frames := 5, cells := 0, slots := 0, locals := 107 }) {rv : Nat} (G : GW w) (hrv : isV w rv) : ∀ (n : Nat) (y2 : Int32) (y3 : Int32) (s0 : Sta), Sm M w 5 oI 41 [(0, .ref (wad w 80)), (1, .ref (wad w rv)), (2, .int y2), (3, .int y3)] [] s0 (X8_tellInto_L41 rv n y2 y3 s0) := by
  intro n
  induction n with
  | zero => intros; exact sm_none
  | succ n ih =>
    intro y2 y3 s0
    rw [X8_tellInto_L41.eq_2]
    refine sm_iload_n C 3 dX8_tellInto_41 rfl ?_
    refine sm_sipush C (150 : Int32) dX8_tellInto_42 sp_150 ?_
    refine sm_icmp_ge C 131 dX8_tellInto_45 (by decide) ?_ ?_
    · refine sm_iload_n C 2 dX8_tellInto_131 rfl ?_
      exact sm_iret C dX8_tellInto_132
    · refine sm_aload_n C 0 dX8_tellInto_48 rfl ?_
      refine r_callVU C (R := RX8) (T := TX8) (N := 6) [] (G_S G) rfl (fun qq ss hh => ct_X8_advance G s0 qq ss hh) kw_393 kw_395 kw_2 kw_63 kw_396 dX8_tellInto_49 rfl dd_X8_advance ⟨rfl, rfl⟩ ⟨by decide, by decide⟩ (Nat.le_of_ble_eq_true rfl) _ rfl (fun q12 s13 => ?_)
      refine sm_aload_n C 0 dX8_tellInto_52 rfl ?_
      refine sm_getI C (ci := 8) (R := RX8) (T := TX8) (N := 6) (j := 4) (G_S G).2 (G_S G).1 rfl gX8 (by decide) kw_285 dX8_tellInto_53 (fun _ _ => rfl) (fun v14 => ?_)
      refine sm_if_ne C 61 dX8_tellInto_56 (by decide) ?_ ?_
      · refine sm_aload_n C 0 dX8_tellInto_61 rfl ?_
        refine tx_ldc C C.2.2.2.2.2.1.2.2.2.2.1 dX8_tellInto_62 ?_
        refine r_callVI C (R := RX8) (T := TX8) (N := 6) [.ref (wtK w 1)] (G_S G) rfl (fun qq ss hh => ct_X8_isWord 1 G (by decide) s13 qq ss hh) kw_408 kw_410 kw_4 kw_63 kw_411 dX8_tellInto_64 rfl dd_X8_isWord ⟨rfl, rfl⟩ ⟨by decide, by decide⟩ (Nat.le_of_ble_eq_true rfl) _ rfl (fun q15 s16 => ?_)
        refine sm_if_eq C 78 dX8_tellInto_67 (by decide) ?_ ?_
        · refine sm_aload_n C 0 dX8_tellInto_78 rfl ?_
          refine tx_ldc C C.2.2.2.2.2.1.2.2.2.2.2 dX8_tellInto_79 ?_
          refine r_callVI C (R := RX8) (T := TX8) (N := 6) [.ref (wtK w 2)] (G_S G) rfl (fun qq ss hh => ct_X8_isWord 2 G (by decide) s16 qq ss hh) kw_408 kw_410 kw_4 kw_63 kw_411 dX8_tellInto_81 rfl dd_X8_isWord ⟨rfl, rfl⟩ ⟨by decide, by decide⟩ (Nat.le_of_ble_eq_true rfl) _ rfl (fun q17 s18 => ?_)
          refine sm_if_eq C 99 dX8_tellInto_84 (by decide) ?_ ?_
          · refine sm_iconst C (0 : Int32) dX8_tellInto_99 ic_0 ?_
            exact sm_sub [0, 1, 2, 3] rfl (sl_X8_tellInto_L100 C G hrv ih y2 y3 (0 : Int32) s18)
          · refine sm_aload_n C 0 dX8_tellInto_87 rfl ?_
            refine sm_aload_n C 1 dX8_tellInto_88 rfl ?_
            refine r_callVI C (R := RX8) (T := TX8) (N := 6) [.ref (wad w rv)] (G_S G) rfl (fun qq ss hh => ct_X8_tellOne rv G hrv s18 qq ss hh) kw_476 kw_478 kw_8 kw_63 kw_479 dX8_tellInto_89 rfl dd_X8_tellOne ⟨rfl, rfl⟩ ⟨by decide, by decide⟩ (Nat.le_of_ble_eq_true rfl) _ rfl (fun q19 s20 => ?_)
            refine sm_if_eq C 99 dX8_tellInto_92 (by decide) ?_ ?_
            · refine sm_iconst C (0 : Int32) dX8_tellInto_99 ic_0 ?_
              exact sm_sub [0, 1, 2, 3] rfl (sl_X8_tellInto_L100 C G hrv ih y2 y3 (0 : Int32) s20)
            · refine sm_iconst C (1 : Int32) dX8_tellInto_95 ic_1 ?_
              refine sm_goto C 100 dX8_tellInto_96 (by decide) ?_
              exact sm_sub [0, 1, 2, 3] rfl (sl_X8_tellInto_L100 C G hrv ih y2 y3 (1 : Int32) s20)
        · refine sm_aload_n C 0 dX8_tellInto_70 rfl ?_
          refine sm_aload_n C 1 dX8_tellInto_71 rfl ?_
          refine r_callVI C (R := RX8) (T := TX8) (N := 6) [.ref (wad w rv)] (G_S G) rfl (fun qq ss hh => ct_X8_tellPrize rv G hrv s16 qq ss hh) kw_465 kw_467 kw_6 kw_63 kw_468 dX8_tellInto_72 rfl dd_X8_tellPrize ⟨rfl, rfl⟩ ⟨by decide, by decide⟩ (Nat.le_of_ble_eq_true rfl) _ rfl (fun q21 s22 => ?_)
          refine sm_goto C 100 dX8_tellInto_75 (by decide) ?_
          exact sm_sub [0, 1, 2, 3] rfl (sl_X8_tellInto_L100 C G hrv ih y2 y3 q21 s22)
      · refine sm_iload_n C 2 dX8_tellInto_59 rfl ?_
        exact sm_iret C dX8_tellInto_60
set_option maxRecDepth 100000 in
set_option maxHeartbeats 4000000 in
theorem ct_X8_tellInto {l : Launch} {w : Wco} (rv : Nat) (G : GW w) (hrv : isV w rv) (s0 : Sta) (qq : Int32) (ss : Sta) (hh : X8_tellInto rv s0 = some (qq, ss)) : Ct l w yX8_tellInto (Cond.code yX8_tellInto cX8_tellInto 5 (some .int) :: GT) { frames := 5, cells := 0, slots := 0, locals := 107 } [.ref (wad w 80), .ref (wad w rv)] s0 (oI qq) ss := by
  refine ct_of [(0, .ref (wad w 80)), (1, .ref (wad w rv))] (by decide +kernel) (Nat.le_of_ble_eq_true rfl) rfl hh (fun M _ C => ?_)
  unfold X8_tellInto
  refine sm_aload_n C 1 dX8_tellInto_0 rfl ?_
  refine r_callVU C (R := RX10) (T := TX10) (N := 13) [] (V_O hrv) rfl (fun qq ss hh => ct_X10_empty rv hrv s0 qq ss hh) kw_392 kw_104 kw_105 kw_52 kw_106 dX8_tellInto_1 rfl dd_X10_empty ⟨rfl, rfl⟩ ⟨by decide, by decide⟩ (Nat.le_of_ble_eq_true rfl) _ rfl (fun q1 s2 => ?_)
  refine sm_aload_n C 0 dX8_tellInto_4 rfl ?_
  refine sm_iconst C (0 : Int32) dX8_tellInto_5 ic_0 ?_
  refine sm_putI C (ci := 8) (R := RX8) (T := TX8) (N := 6) (j := 3) (G_S G).2 (G_S G).1 rfl gX8 tyX8 tyX8_ok nmX8 (by decide) kw_284 rfl (by decide +kernel) dX8_tellInto_6 (fun _ _ => Nat.le_of_ble_eq_true rfl) (set_fsS_3 w) (fun s3 => ?_)
  refine sm_aload_n C 0 dX8_tellInto_9 rfl ?_
  refine r_callVU C (R := RX8) (T := TX8) (N := 6) [] (G_S G) rfl (fun qq ss hh => ct_X8_advance G s3 qq ss hh) kw_393 kw_395 kw_2 kw_63 kw_396 dX8_tellInto_10 rfl dd_X8_advance ⟨rfl, rfl⟩ ⟨by decide, by decide⟩ (Nat.le_of_ble_eq_true rfl) _ rfl (fun q4 s5 => ?_)
  refine sm_aload_n C 0 dX8_tellInto_13 rfl ?_
  refine tx_ldc C C.2.2.2.2.2.1.2.2.2.1 dX8_tellInto_14 ?_
  refine r_callVI C (R := RX8) (T := TX8) (N := 6) [.ref (wtK w 0)] (G_S G) rfl (fun qq ss hh => ct_X8_isWord 0 G (by decide) s5 qq ss hh) kw_408 kw_410 kw_4 kw_63 kw_411 dX8_tellInto_16 rfl dd_X8_isWord ⟨rfl, rfl⟩ ⟨by decide, by decide⟩ (Nat.le_of_ble_eq_true rfl) _ rfl (fun q6 s7 => ?_)
  refine sm_if_eq C 29 dX8_tellInto_19 (by decide) ?_ ?_
  · refine sm_bipush C (-10 : Int32) dX8_tellInto_29 bp_m10 ?_
    refine sm_aload_n C 0 dX8_tellInto_31 rfl ?_
    refine sm_getI C (ci := 8) (R := RX8) (T := TX8) (N := 6) (j := 2) (G_S G).2 (G_S G).1 rfl gX8 (by decide) kw_283 dX8_tellInto_32 (fun _ _ => rfl) (fun v8 => ?_)
    refine sm_isub C dX8_tellInto_35 ?_
    exact sm_iret C dX8_tellInto_36
  · refine sm_aload_n C 0 dX8_tellInto_22 rfl ?_
    refine r_callVI C (R := RX8) (T := TX8) (N := 6) [] (G_S G) rfl (fun qq ss hh => ct_X8_endsItem G s7 qq ss hh) kw_460 kw_462 kw_5 kw_63 kw_463 dX8_tellInto_23 rfl dd_X8_endsItem ⟨rfl, rfl⟩ ⟨by decide, by decide⟩ (Nat.le_of_ble_eq_true rfl) _ rfl (fun q9 s10 => ?_)
    refine sm_if_ne C 37 dX8_tellInto_26 (by decide) ?_ ?_
    · refine sm_iconst C (1 : Int32) dX8_tellInto_37 ic_1 ?_
      refine sm_istore_n C [(2, .int (1 : Int32)), (0, .ref (wad w 80)), (1, .ref (wad w rv))] dX8_tellInto_38 (by decide) rfl ?_
      refine sm_iconst C (0 : Int32) dX8_tellInto_39 ic_0 ?_
      refine sm_istore_n C [(3, .int (0 : Int32)), (2, .int (1 : Int32)), (0, .ref (wad w 80)), (1, .ref (wad w rv))] dX8_tellInto_40 (by decide) rfl ?_
      exact sm_sub [2, 3, 1, 0] rfl (sl_X8_tellInto_L41 C G hrv FU (1 : Int32) (0 : Int32) s10)
    · refine sm_bipush C (-10 : Int32) dX8_tellInto_29 bp_m10 ?_
      refine sm_aload_n C 0 dX8_tellInto_31 rfl ?_
      refine sm_getI C (ci := 8) (R := RX8) (T := TX8) (N := 6) (j := 2) (G_S G).2 (G_S G).1 rfl gX8 (by decide) kw_283 dX8_tellInto_32 (fun _ _ => rfl) (fun v11 => ?_)
      refine sm_isub C dX8_tellInto_35 ?_
      exact sm_iret C dX8_tellInto_36
theorem dd_X11_read : yX11_read.cls = RX11 ∧ yX11_read.cls ≠ "java/lang/invoke/MethodHandle" ∧ yX11_read.cls ≠ "java/lang/invoke/VarHandle" ∧ (parseMethodDescriptor yX11_read.desc).map (fun d => d.parameters.length) = some 0 := by decide +kernel
def X11_read (s0 : Sta) : Option (Int32 × Sta) := cA (X8_tellInto 14 s0) (fun q1 s2 => if q1 < 0 then (some (q1, s2)) else (cA (X10_take 1 14 s2) (fun q3 s4 => some (q1, s4))))
set_option maxRecDepth 100000 in
set_option maxHeartbeats 4000000 in
theorem ct_X11_read {l : Launch} {w : Wco} (G : GW w) (s0 : Sta) (qq : Int32) (ss : Sta) (hh : X11_read s0 = some (qq, ss)) : Ct l w yX11_read (Cond.code yX11_read cX11_read 2 (some .int) :: GT) { frames := 6, cells := 0, slots := 0, locals := 131 } [.ref (wad w 0)] s0 (oI qq) ss := by
  refine ct_of [(0, .ref (wad w 0))] (by decide +kernel) (Nat.le_of_ble_eq_true rfl) rfl hh (fun M _ C => ?_)
  unfold X11_read
  refine sm_aload_n C 0 dX11_read_0 rfl ?_
  refine sm_getR C (ci := 11) (R := RX11) (T := TX11) (N := 12) (j := 6) (G_N G).2 (G_N G).1 rfl gX11 (by decide) kw_306 dX11_read_1 (fun _ _ => rfl) ?_
  refine sm_aload_n C 0 dX11_read_4 rfl ?_
  refine sm_getR C (ci := 11) (R := RX11) (T := TX11) (N := 12) (j := 1) (G_N G).2 (G_N G).1 rfl gX11 (by decide) kw_301 dX11_read_5 (fun _ _ => rfl) ?_
  refine r_callVI C (R := RX8) (T := TX8) (N := 6) [.ref (wad w 14)] (G_S G) rfl (fun qq ss hh => ct_X8_tellInto 14 G (G_draft G) s0 qq ss hh) kw_388 kw_389 kw_390 kw_63 kw_391 dX11_read_8 rfl dd_X8_tellInto ⟨rfl, rfl⟩ ⟨by decide, by decide⟩ (Nat.le_of_ble_eq_true rfl) _ rfl (fun q1 s2 => ?_)
  refine sm_istore_n C [(1, .int q1), (0, .ref (wad w 0))] dX11_read_11 (by decide) rfl ?_
  refine sm_iload_n C 0 dX11_read_12 rfl ?_
  refine sm_if_lt C 27 dX11_read_13 (by decide) ?_ ?_
  · refine sm_iload_n C 0 dX11_read_27 rfl ?_
    exact sm_iret C dX11_read_28
  · refine sm_aload_n C 1 dX11_read_16 rfl ?_
    refine sm_getR C (ci := 11) (R := RX11) (T := TX11) (N := 12) (j := 0) (G_N G).2 (G_N G).1 rfl gX11 (by decide) kw_300 dX11_read_17 (fun _ _ => rfl) ?_
    refine sm_aload_n C 1 dX11_read_20 rfl ?_
    refine sm_getR C (ci := 11) (R := RX11) (T := TX11) (N := 12) (j := 1) (G_N G).2 (G_N G).1 rfl gX11 (by decide) kw_301 dX11_read_21 (fun _ _ => rfl) ?_
    refine r_callVU C (R := RX10) (T := TX10) (N := 13) [.ref (wad w 14)] (V_O (G_now G)) rfl (fun qq ss hh => ct_X10_take 1 14 (G_now G) (G_draft G) s2 qq ss hh) kw_481 kw_482 kw_483 kw_52 kw_484 dX11_read_24 rfl dd_X10_take ⟨rfl, rfl⟩ ⟨by decide, by decide⟩ (Nat.le_of_ble_eq_true rfl) _ rfl (fun q3 s4 => ?_)
    refine sm_iload_n C 0 dX11_read_27 rfl ?_
    exact sm_iret C dX11_read_28
