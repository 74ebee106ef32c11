/-! pictures of the JDK's own members over the three texts -/
def J_coder (s : Sta) : Option (Int32 × Sta) := some (0, s)
def J_isLatin1 (s : Sta) : Option (Int32 × Sta) := some (1, s)
def J_length (tv : Nat) (s : Sta) : Option (Int32 × Sta) := cA (J_coder s) (fun q t => some (nI (txL.getD tv 0) >>> (q &&& 31), t))
def J_pre (i n : Int32) (s : Sta) : Option (Int32 × Sta) := if i < 0 then none else if i < n then some (i, s) else none
def J_chk (i n : Int32) (s : Sta) : Option (Unit × Sta) := cA (J_pre i n s) (fun _ t => some ((), t))
def J_lat (tv : Nat) (i : Int32) (s : Sta) : Option (Int32 × Sta) := cA (J_chk i (nI (txL.getD tv 0)) s) (fun _ t => if i < 0 ∨ txL.getD tv 0 ≤ i.toNatClampNeg then none else some ((txB.getD tv []).getD i.toNatClampNeg 0 &&& 255, t))
def rC (v : Int32) (s : Sta) : Option (Int32 × Sta) := if v < 0 ∨ 65535 < v then none else some (v, s)
def J_charAt (tv : Nat) (i : Int32) (s : Sta) : Option (Int32 × Sta) := cA (J_isLatin1 s) (fun q t => if q = 0 then none else cA (J_lat tv i t) (fun q t => rC q t))
section TEXT
variable {M : Mco} {w : Wco} {cc : ByteArray} {nL : Nat} {own : String} {c0 : Cond} {ret : Option FieldType} {rm : Room} {ρ : Type} {ov : ρ → Option Value} {pc : Nat} {lv : List (Nat × Value)} {st : List Value} {σ : Sta} {F F2 : Option (ρ × Sta)}
theorem tx_ldc (C : Cx M w cc nL own c0 ret rm) {index q : Nat} {tx : String} (hZ : vk_R own index tx q (mS M)) (hd : decode cc pc = .ok (.ldc index, 2)) (k : Sm M w nL ov (pc + 2) lv (.ref q :: st) σ F) : Sm M w nL ov pc lv st σ F :=
  fun r σ' e H locs ls hW hS hl => va_ldcS C.1 C.2.1 C.2.2.2.1 hZ hd (k r σ' e H locs ls hW hS hl)
theorem tx_gets (C : Cx M w cc nL own c0 ret rm) {cn n d : String} {v : Value} {index : Nat} (hZ : va_Z cn n d v (wA w) (mS M) (mS M).heap) (hlink : Cond.fieldLink own index cn n d ∈ GT) (hd : decode cc pc = .ok (.getstatic index, 3)) (k : Sm M w nL ov (pc + 3) lv (v :: st) σ F) : Sm M w nL ov pc lv st σ F :=
  fun r σ' e H locs ls hW hS hl => va_gets C.1 C.2.1 hZ hS C.2.2.2.1 (C.2.2.2.2.1 _ (gtM hlink)) (fun _ h => h) hd (k r σ' e H locs ls hW hS hl)
theorem tx_getf (C : Cx M w cc nL own c0 ret rm) {o n d : String} {v : Value} {q index : Nat} (hE : va_OF o n d v q (wA w) (mS M) (mS M).heap) (hlink : Cond.fieldLink own index o n d ∈ GT) (hd : decode cc pc = .ok (.getfield index, 3)) (k : Sm M w nL ov (pc + 3) lv (v :: st) σ F) : Sm M w nL ov pc lv (.ref q :: st) σ F :=
  fun r σ' e H locs ls hW hS hl => vk_getf C.1 C.2.1 hE hS C.2.2.2.1 (C.2.2.2.2.1 _ (gtM hlink)) (fun _ h => h) hd (k r σ' e H locs ls hW hS hl)
theorem tx_len (C : Cx M w cc nL own c0 ret rm) {t N : Nat} {f : Nat → Value} {ty : FieldType} (hT : va_T ty t N f (wA w) (mS M) (mS M).heap) (hd : decode cc pc = .ok (.arraylength, 1)) (k : Sm M w nL ov (pc + 1) lv (.int (nI N) :: st) σ F) : Sm M w nL ov pc lv (.ref t :: st) σ F :=
  fun r σ' e H locs ls hW hS hl => va_tlen C.1 C.2.1 hT hS rfl hd (k r σ' e H locs ls hW hS hl)
theorem tx_byte (C : Cx M w cc nL own c0 ret rm) {t N : Nat} {f : Nat → Int32} {i : Int32} {K : Int32 → Option (ρ × Sta)} (hT : va_T .byte t N (fun j => .int (f j)) (wA w) (mS M) (mS M).heap) (hd : decode cc pc = .ok (.baload, 1)) (k : Sm M w nL ov (pc + 1) lv (.int (f i.toNatClampNeg) :: st) σ F) : Sm M w nL ov pc lv (.int i :: .ref t :: st) σ (if i < 0 ∨ N ≤ i.toNatClampNeg then none else F) := by
  intro r σ' e H locs ls hW hS hl
  by_cases hi : i < 0 ∨ N ≤ i.toNatClampNeg
  · rw [if_pos hi] at e
    cases e
  · rw [if_neg hi] at e
    exact va_tb C.1 C.2.1 hT hS hi rfl hd (k r σ' e H locs ls hW hS hl)
theorem tx_i2c (C : Cx M w cc nL own c0 ret rm) {x : Int32} (v : Int32) (hv : (x.toUInt32 % 65536).toInt32 = v) (hd : decode cc pc = .ok (.i2c, 1)) (k : Sm M w nL ov (pc + 1) lv (.int v :: st) σ F) : Sm M w nL ov pc lv (.int x :: st) σ F :=
  fun r σ' e H locs ls hW hS hl => lv_i2c C.1 C.2.1 hd hv (k r σ' e H locs ls hW hS hl)
theorem tx_ret {ty : FieldType} (C : Cx M w cc nL own c0 (some ty) rm) {x : Int32} (hn : narrow ty (.int x) = .int x) (hd : decode cc pc = .ok (.ireturn, 1)) : Sm M w nL oI pc lv [.int x] σ (some (x, σ)) := by
  intro r σ' e H locs ls hW hS hl
  cases e
  exact W.zret (ty := ty) C.1 C.2.1 C.2.2.2.2.2.2.2.1 hn (fun t ht _ => sm_fin C hW hS t ht) hS.2.2 hd C.2.2.2.2.2.2.1
theorem tx_cret (C : Cx M w cc nL own c0 (some .char) rm) {x : Int32} (hd : decode cc pc = .ok (.ireturn, 1)) : Sm M w nL oI pc lv [.int x] σ (rC x σ) := by
  by_cases hx : x < 0 ∨ 65535 < x
  · rw [rC, if_pos hx]
    exact sm_none
  · rw [rC, if_neg hx]
    obtain ⟨j, hj, e⟩ := nI_of (x := x) (fun h => hx (Or.inl h))
    refine tx_ret C ?_ hd
    have h2 : ¬ (65535 : Int32) < x := fun h => hx (Or.inr h)
    rw [e] at h2 ⊢
    have h3 : j < 65536 := by
      rcases Nat.lt_or_ge j 65536 with h | h
      · exact h
      · exact absurd (nI_lt (a := 65535) (b := j) (by omega) hj) h2
    exact (pk_charN h3).1
theorem tx_ifT (C : Cx M w cc nL own c0 ret rm) {x : Int32} {off : Int} (hd : decode cc pc = .ok (.ifCond .eq off, 3)) (tgt : Nat) (ht : (pc : Int) + off = (tgt : Int)) (hx : ¬ x = 0) (k : Sm M w nL ov (pc + 3) lv st σ F) : Sm M w nL ov pc lv (.int x :: st) σ F :=
  fun r σ' e H locs ls hW hS hl => lv_if_eq C.1 C.2.1 hd ht (fun c => absurd c hx) (fun _ => k r σ' e H locs ls hW hS hl)
theorem tx_ifF (C : Cx M w cc nL own c0 ret rm) {x : Int32} {off : Int} (hd : decode cc pc = .ok (.ifCond .ne off, 3)) (tgt : Nat) (ht : (pc : Int) + off = (tgt : Int)) (hx : x = 0) (k : Sm M w nL ov (pc + 3) lv st σ F) : Sm M w nL ov pc lv (.int x :: st) σ F :=
  fun r σ' e H locs ls hW hS hl => lv_if_ne C.1 C.2.1 hd ht (fun c => absurd hx c) (fun _ => k r σ' e H locs ls hW hS hl)
/-- a call on one of the texts -/
theorem tx_call {f : Option (Int32 × Sta)} {K : Int32 → Sta → Option (ρ × Sta)} (C : Cx M w cc nL own c0 ret rm) {index tv mx n : Nat} {y : MethodName} {b : ByteArray} {rt : Option FieldType} {rmc : Room} (As : List Value) (htv : tv < 3)
    (hM : ∀ q σ1, f = some (q, σ1) → Ct (mL M) w y (Cond.code y b mx rt :: GT) rmc (.ref (wtK w tv) :: As) σ (oI q) σ1) (h1 : Cond.methodLink own index y ∈ GT) (h2 : Cond.instanceMethod y ∈ GT) (h3 : Cond.selects "java/lang/String" y y ∈ GT) (h4 : Cond.initialized "java/lang/String" ∈ GT) (h5 : Cond.code y b mx rt ∈ GT) (hd : decode cc pc = .ok (.invokevirtual index, 3))
    (hn : As.length = n) (hdd : y.cls = "java/lang/String" ∧ y.cls ≠ "java/lang/invoke/MethodHandle" ∧ y.cls ≠ "java/lang/invoke/VarHandle" ∧ (parseMethodDescriptor y.desc).map (fun d => d.parameters.length) = some n) (hrc : rmc.cells = 0 ∧ rmc.slots = 0) (hR : rmc.frames + 1 ≤ rm.frames ∧ 8 + (mx + 11) + rmc.locals ≤ rm.locals) (hst : (st.map fun v => v.category).sum ≤ 8)
    (st0 : List Value) (hst0 : st0 = As.reverse ++ .ref (wtK w tv) :: st) (k : ∀ (q : Int32) (σ1 : Sta), Sm M w nL ov (pc + 3) lv (.int q :: st) σ1 (K q σ1)) : Sm M w nL ov pc lv st0 σ (cA f K) :=
  sm_after (ov2 := oI) (a := (Value.ref (wtK w tv) :: As).toArray) C (fun q σ1 hq H locs ls hW hS hl => va_runV (As := As) (rest := st) ⟨C.1, C.2.1, C.2.2.1, C.2.2.2.1, C.2.2.2.2.1⟩ (hM q σ1 hq) (cwV n C.2.2.2.2.1 (gV h1 h2 h3 h4 h5) rfl hrc.1 hrc.2 hdd (by rw [C.2.2.2.2.2.2.2.2]; exact hR)) ⟨sm_blind, vk_recv C.2.2.2.2.2.1.2.2.1.1 htv hS, sm_pre C hW hS⟩ rfl hn hl.1 hst0 (lv_room hst) hd ⟨Nat.zero_le _, Nat.zero_le _⟩) k
end TEXT
theorem dd_J0_coder_7d493 : yJ0_coder_7d493.cls = "java/lang/String" ∧ yJ0_coder_7d493.cls ≠ "java/lang/invoke/MethodHandle" ∧ yJ0_coder_7d493.cls ≠ "java/lang/invoke/VarHandle" ∧ (parseMethodDescriptor yJ0_coder_7d493.desc).map (fun d => d.parameters.length) = some 0 := by decide +kernel
theorem dd_J0_isLatin1_aae02 : yJ0_isLatin1_aae02.cls = "java/lang/String" ∧ yJ0_isLatin1_aae02.cls ≠ "java/lang/invoke/MethodHandle" ∧ yJ0_isLatin1_aae02.cls ≠ "java/lang/invoke/VarHandle" ∧ (parseMethodDescriptor yJ0_isLatin1_aae02.desc).map (fun d => d.parameters.length) = some 0 := by decide +kernel
theorem dd_J0_length_8abf5 : yJ0_length_8abf5.cls = "java/lang/String" ∧ yJ0_length_8abf5.cls ≠ "java/lang/invoke/MethodHandle" ∧ yJ0_length_8abf5.cls ≠ "java/lang/invoke/VarHandle" ∧ (parseMethodDescriptor yJ0_length_8abf5.desc).map (fun d => d.parameters.length) = some 0 := by decide +kernel
theorem dd_J0_charAt_5068e : yJ0_charAt_5068e.cls = "java/lang/String" ∧ yJ0_charAt_5068e.cls ≠ "java/lang/invoke/MethodHandle" ∧ yJ0_charAt_5068e.cls ≠ "java/lang/invoke/VarHandle" ∧ (parseMethodDescriptor yJ0_charAt_5068e.desc).map (fun d => d.parameters.length) = some 1 := by decide +kernel
theorem dd_J0_checkIndex_df160 : yJ0_checkIndex_df160.cls ≠ "java/lang/invoke/MethodHandle" ∧ yJ0_checkIndex_df160.cls ≠ "java/lang/invoke/VarHandle" ∧ (parseMethodDescriptor yJ0_checkIndex_df160.desc).map (fun d => d.parameters.length) = some 2 := by decide +kernel
theorem dd_J1_charAt_3b067 : yJ1_charAt_3b067.cls ≠ "java/lang/invoke/MethodHandle" ∧ yJ1_charAt_3b067.cls ≠ "java/lang/invoke/VarHandle" ∧ (parseMethodDescriptor yJ1_charAt_3b067.desc).map (fun d => d.parameters.length) = some 2 := by decide +kernel
theorem dd_J3_checkIndex_8e157 : yJ3_checkIndex_8e157.cls ≠ "java/lang/invoke/MethodHandle" ∧ yJ3_checkIndex_8e157.cls ≠ "java/lang/invoke/VarHandle" ∧ (parseMethodDescriptor yJ3_checkIndex_8e157.desc).map (fun d => d.parameters.length) = some 3 := by decide +kernel
theorem ct_J_coder {l : Launch} {w : Wco} (tv : Nat) (htv : tv < 3) (s0 : Sta) (qq : Int32) (ss : Sta) (hh : J_coder s0 = some (qq, ss)) : Ct l w yJ0_coder_7d493 (Cond.code yJ0_coder_7d493 cJ0_coder_7d493 1 (some .byte) :: GT) { frames := 0, cells := 0, slots := 0, locals := 0 } [.ref (wtK w tv)] s0 (oI qq) ss := by
  refine ct_of [(0, .ref (wtK w tv))] (by decide +kernel) (Nat.le_of_ble_eq_true rfl) rfl hh (fun M _ C => ?_)
  unfold J_coder
  have KT := C.2.2.2.2.2.1.2.2.1
  refine tx_gets C KT.2.1 kw_420 dJ0_coder_7d493_0 ?_
  refine tx_ifT C dJ0_coder_7d493_3 13 (by decide) (by decide) ?_
  refine sm_aload_n C 0 dJ0_coder_7d493_6 rfl ?_
  refine tx_getf C (KT.1.1 tv htv).2.1 kw_1258 dJ0_coder_7d493_7 ?_
  refine sm_goto C 14 dJ0_coder_7d493_10 (by decide) ?_
  exact tx_ret C rfl dJ0_coder_7d493_14
theorem ct_J_isLatin1 {l : Launch} {w : Wco} (tv : Nat) (htv : tv < 3) (s0 : Sta) (qq : Int32) (ss : Sta) (hh : J_isLatin1 s0 = some (qq, ss)) : Ct l w yJ0_isLatin1_aae02 (Cond.code yJ0_isLatin1_aae02 cJ0_isLatin1_aae02 1 (some .boolean) :: GT) { frames := 0, cells := 0, slots := 0, locals := 0 } [.ref (wtK w tv)] s0 (oI qq) ss := by
  refine ct_of [(0, .ref (wtK w tv))] (by decide +kernel) (Nat.le_of_ble_eq_true rfl) rfl hh (fun M _ C => ?_)
  unfold J_isLatin1
  have KT := C.2.2.2.2.2.1.2.2.1
  refine tx_gets C KT.2.1 kw_420 dJ0_isLatin1_aae02_0 ?_
  refine tx_ifT C dJ0_isLatin1_aae02_3 17 (by decide) (by decide) ?_
  refine sm_aload_n C 0 dJ0_isLatin1_aae02_6 rfl ?_
  refine tx_getf C (KT.1.1 tv htv).2.1 kw_1258 dJ0_isLatin1_aae02_7 ?_
  refine tx_ifF C dJ0_isLatin1_aae02_10 17 (by decide) rfl ?_
  refine sm_iconst C (1 : Int32) dJ0_isLatin1_aae02_13 ic_1 ?_
  refine sm_goto C 18 dJ0_isLatin1_aae02_14 (by decide) ?_
  exact tx_ret C rfl dJ0_isLatin1_aae02_18
theorem ct_J0_length_8abf5 {l : Launch} {w : Wco} (tv : Nat) (htv : tv < 3) (s0 : Sta) (qq : Int32) (ss : Sta) (hh : J_length tv s0 = some (qq, ss)) : Ct l w yJ0_length_8abf5 (Cond.code yJ0_length_8abf5 cJ0_length_8abf5 1 (some .int) :: GT) { frames := 1, cells := 0, slots := 0, locals := 20 } [.ref (wtK w tv)] s0 (oI qq) ss := by
  refine ct_of [(0, .ref (wtK w tv))] (by decide +kernel) (Nat.le_of_ble_eq_true rfl) rfl hh (fun M _ C => ?_)
  unfold J_length
  have KT := C.2.2.2.2.2.1.2.2.1
  refine sm_aload_n C 0 dJ0_length_8abf5_0 rfl ?_
  refine tx_getf C (KT.1.1 tv htv).2.2.1 kw_1257 dJ0_length_8abf5_1 ?_
  refine tx_len C (KT.1.1 tv htv).2.2.2 dJ0_length_8abf5_4 ?_
  refine sm_aload_n C 0 dJ0_length_8abf5_5 rfl ?_
  refine tx_call C [] htv (fun qq ss hh => ct_J_coder tv htv s0 qq ss hh) kw_416 kw_417 kw_418 kw_65 kw_419 dJ0_length_8abf5_6 rfl dd_J0_coder_7d493 ⟨rfl, rfl⟩ ⟨by decide, by decide⟩ (Nat.le_of_ble_eq_true rfl) _ rfl (fun q1 s1 => ?_)
  refine sm_ishr C dJ0_length_8abf5_9 ?_
  exact sm_iret C dJ0_length_8abf5_10
theorem ct_J_preN {l : Launch} {w : Wco} (x1 x2 : Int32) (s0 : Sta) (qq : Int32) (ss : Sta) (hh : J_pre x1 x2 s0 = some (qq, ss)) : Ct l w yJ3_checkIndex_8e157 (Cond.code yJ3_checkIndex_8e157 cJ3_checkIndex_8e157 3 (some .int) :: GT) { frames := 0, cells := 0, slots := 0, locals := 0 } [.int x1, .int x2, .null] s0 (oI qq) ss := by
  refine ct_of [(0, .int x1), (1, .int x2), (2, .null)] (by decide +kernel) (Nat.le_of_ble_eq_true rfl) rfl hh (fun M _ C => ?_)
  unfold J_pre
  have KT := C.2.2.2.2.2.1.2.2.1
  refine sm_iload_n C 0 dJ3_checkIndex_8e157_0 rfl ?_
  refine sm_if_lt C 9 dJ3_checkIndex_8e157_1 (by decide) ?_ ?_
  · exact sm_none
  refine sm_iload_n C 0 dJ3_checkIndex_8e157_4 rfl ?_
  refine sm_iload_n C 1 dJ3_checkIndex_8e157_5 rfl ?_
  refine sm_icmp_lt C 16 dJ3_checkIndex_8e157_6 (by decide) ?_ ?_
  · refine sm_iload_n C 0 dJ3_checkIndex_8e157_16 rfl ?_
    exact sm_iret C dJ3_checkIndex_8e157_17
  · exact sm_none
theorem ct_J_preR {l : Launch} {w : Wco} (x1 x2 : Int32) (tz : Nat) (s0 : Sta) (qq : Int32) (ss : Sta) (hh : J_pre x1 x2 s0 = some (qq, ss)) : Ct l w yJ3_checkIndex_8e157 (Cond.code yJ3_checkIndex_8e157 cJ3_checkIndex_8e157 3 (some .int) :: GT) { frames := 0, cells := 0, slots := 0, locals := 0 } [.int x1, .int x2, .ref tz] s0 (oI qq) ss := by
  refine ct_of [(0, .int x1), (1, .int x2), (2, .ref tz)] (by decide +kernel) (Nat.le_of_ble_eq_true rfl) rfl hh (fun M _ C => ?_)
  unfold J_pre
  have KT := C.2.2.2.2.2.1.2.2.1
  refine sm_iload_n C 0 dJ3_checkIndex_8e157_0 rfl ?_
  refine sm_if_lt C 9 dJ3_checkIndex_8e157_1 (by decide) ?_ ?_
  · exact sm_none
  refine sm_iload_n C 0 dJ3_checkIndex_8e157_4 rfl ?_
  refine sm_iload_n C 1 dJ3_checkIndex_8e157_5 rfl ?_
  refine sm_icmp_lt C 16 dJ3_checkIndex_8e157_6 (by decide) ?_ ?_
  · refine sm_iload_n C 0 dJ3_checkIndex_8e157_16 rfl ?_
    exact sm_iret C dJ3_checkIndex_8e157_17
  · exact sm_none
theorem ct_J_chk {l : Launch} {w : Wco} (x1 x2 : Int32) (s0 : Sta) (qq : Unit) (ss : Sta) (hh : J_chk x1 x2 s0 = some (qq, ss)) : Ct l w yJ0_checkIndex_df160 (Cond.code yJ0_checkIndex_df160 cJ0_checkIndex_df160 2 none :: GT) { frames := 1, cells := 0, slots := 0, locals := 22 } [.int x1, .int x2] s0 (oV qq) ss := by
  refine ct_of [(0, .int x1), (1, .int x2)] (by decide +kernel) (Nat.le_of_ble_eq_true rfl) rfl hh (fun M _ C => ?_)
  unfold J_chk
  have KT := C.2.2.2.2.2.1.2.2.1
  refine sm_iload_n C 0 dJ0_checkIndex_df160_0 rfl ?_
  refine sm_iload_n C 1 dJ0_checkIndex_df160_1 rfl ?_
  rcases KT.2.2 with hz | ⟨tz, hz⟩
  · refine tx_gets C hz kw_436 dJ0_checkIndex_df160_2 ?_
    refine r_callSI C [.int x1, .int x2, .null] (fun qq ss hh => ct_J_preN x1 x2 s0 qq ss hh) kw_438 kw_439 kw_67 kw_440 dJ0_checkIndex_df160_5 rfl dd_J3_checkIndex_8e157 ⟨rfl, rfl⟩ ⟨by decide, by decide⟩ (Nat.le_of_ble_eq_true rfl) _ rfl (fun q1 s1 => ?_)
    refine sm_pop C dJ0_checkIndex_df160_8 rfl ?_
    exact sm_vret C dJ0_checkIndex_df160_9
  · refine tx_gets C hz kw_436 dJ0_checkIndex_df160_2 ?_
    refine r_callSI C [.int x1, .int x2, .ref tz] (fun qq ss hh => ct_J_preR x1 x2 tz s0 qq ss hh) kw_438 kw_439 kw_67 kw_440 dJ0_checkIndex_df160_5 rfl dd_J3_checkIndex_8e157 ⟨rfl, rfl⟩ ⟨by decide, by decide⟩ (Nat.le_of_ble_eq_true rfl) _ rfl (fun q1 s1 => ?_)
    refine sm_pop C dJ0_checkIndex_df160_8 rfl ?_
    exact sm_vret C dJ0_checkIndex_df160_9
theorem ct_J_lat {l : Launch} {w : Wco} (tv : Nat) (htv : tv < 3) (x1 : Int32) (s0 : Sta) (qq : Int32) (ss : Sta) (hh : J_lat tv x1 s0 = some (qq, ss)) : Ct l w yJ1_charAt_3b067 (Cond.code yJ1_charAt_3b067 cJ1_charAt_3b067 2 (some .char) :: GT) { frames := 2, cells := 0, slots := 0, locals := 43 } [.ref (wtV w tv), .int x1] s0 (oI qq) ss := by
  refine ct_of [(0, .ref (wtV w tv)), (1, .int x1)] (by decide +kernel) (Nat.le_of_ble_eq_true rfl) rfl hh (fun M _ C => ?_)
  unfold J_lat
  have KT := C.2.2.2.2.2.1.2.2.1
  refine sm_iload_n C 1 dJ1_charAt_3b067_0 rfl ?_
  refine sm_aload_n C 0 dJ1_charAt_3b067_1 rfl ?_
  refine tx_len C (KT.1.1 tv htv).2.2.2 dJ1_charAt_3b067_2 ?_
  refine r_callSU C [.int x1, .int (nI (txL.getD tv 0))] (fun qq ss hh => ct_J_chk x1 _ s0 qq ss hh) kw_433 kw_434 kw_65 kw_435 dJ1_charAt_3b067_3 rfl dd_J0_checkIndex_df160 ⟨rfl, rfl⟩ ⟨by decide, by decide⟩ (Nat.le_of_ble_eq_true rfl) _ rfl (fun q1 s1 => ?_)
  refine sm_aload_n C 0 dJ1_charAt_3b067_6 rfl ?_
  refine sm_iload_n C 1 dJ1_charAt_3b067_7 rfl ?_
  refine tx_byte (K := fun _ => none) C (KT.1.1 tv htv).2.2.2 dJ1_charAt_3b067_8 ?_
  refine sm_sipush C (255 : Int32) dJ1_charAt_3b067_9 sp_255 ?_
  refine sm_iand C dJ1_charAt_3b067_12 ?_
  refine tx_i2c C _ (sc_c2 _) dJ1_charAt_3b067_13 ?_
  exact tx_ret C (sc_nar _) dJ1_charAt_3b067_14
theorem ct_J0_charAt_5068e {l : Launch} {w : Wco} (tv : Nat) (htv : tv < 3) (x1 : Int32) (s0 : Sta) (qq : Int32) (ss : Sta) (hh : J_charAt tv x1 s0 = some (qq, ss)) : Ct l w yJ0_charAt_5068e (Cond.code yJ0_charAt_5068e cJ0_charAt_5068e 2 (some .char) :: GT) { frames := 3, cells := 0, slots := 0, locals := 64 } [.ref (wtK w tv), .int x1] s0 (oI qq) ss := by
  refine ct_of [(0, .ref (wtK w tv)), (1, .int x1)] (by decide +kernel) (Nat.le_of_ble_eq_true rfl) rfl hh (fun M _ C => ?_)
  unfold J_charAt
  have KT := C.2.2.2.2.2.1.2.2.1
  refine sm_aload_n C 0 dJ0_charAt_5068e_0 rfl ?_
  refine tx_call C [] htv (fun qq ss hh => ct_J_isLatin1 tv htv s0 qq ss hh) kw_426 kw_427 kw_428 kw_65 kw_429 dJ0_charAt_5068e_1 rfl dd_J0_isLatin1_aae02 ⟨rfl, rfl⟩ ⟨by decide, by decide⟩ (Nat.le_of_ble_eq_true rfl) _ rfl (fun q1 s1 => ?_)
  refine sm_if_eq C 16 dJ0_charAt_5068e_4 (by decide) ?_ ?_
  · exact sm_none
  refine sm_aload_n C 0 dJ0_charAt_5068e_7 rfl ?_
  refine tx_getf C (KT.1.1 tv htv).2.2.1 kw_1257 dJ0_charAt_5068e_8 ?_
  refine sm_iload_n C 1 dJ0_charAt_5068e_11 rfl ?_
  refine r_callSI C [.ref (wtV w tv), .int x1] (fun qq ss hh => ct_J_lat tv htv x1 s1 qq ss hh) kw_430 kw_431 kw_66 kw_432 dJ0_charAt_5068e_12 rfl dd_J1_charAt_3b067 ⟨rfl, rfl⟩ ⟨by decide, by decide⟩ (Nat.le_of_ble_eq_true rfl) _ rfl (fun q2 s2 => ?_)
  exact tx_cret C dJ0_charAt_5068e_15
