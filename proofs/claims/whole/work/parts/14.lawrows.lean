/-! THE LAW'S WALK behind its two constructors. The script: bs its address, L its length, xs its ints -/
def aX {β : Type} (xs : Nat → Int32) (L : Nat) (i : Int32) (K : Int32 → Option β) : Option β := if i < 0 ∨ L ≤ i.toNatClampNeg then none else K (xs i.toNatClampNeg)
def Cl (M : Mco) (w : Wco) (cc : ByteArray) (nL : Nat) (own : String) (c0 : Cond) (rm : Room) (bs L : Nat) (xs : Nat → Int32) : Prop :=
  (mP M).tables.exec = Jvm.exec ∧ (mC M).code = cc ∧ (mC M).maxLocals = nL ∧ (mS M).vm.findClass own = some (mI M).cls ∧ (∀ x ∈ c0 :: GT, x.before (mA M) (mS M) = true) ∧ KK w (mS M) (mS M).heap ∧ (mM M).locks = false ∧ mR M = rm ∧ va_X bs L xs (mS M) (mS M).heap ∧ bs < (mS M).heap.size ∧ (∀ k, k < wnn w → (mS M).heap.size ≤ wad w k)
def Sl (M : Mco) (w : Wco) (nL : Nat) (Q : State → Prop) (pc : Nat) (lv : List (Nat × Value)) (st : List Value) (σ : Sta) (F : Option (Int32 × Sta)) : Prop :=
  ∀ (σ' : Sta), F = some (1, σ') → ∀ (H : Heap) (locs : List Loc) (ls : Array Slot), Wd w σ H → va_S (fun q => (mS M).heap.size ≤ q) (mS M).heap H locs → lv_has ls nL lv →
    W (mP M) (mL M) (mE M) (mR M) (mS M) (mI M) (mA M) (mB M) (mM M) (mC M) H locs 600000 7302250 Q (F0 (mI M) pc ls st)
theorem KK.kept' {w : Wco} {U s : State} {H : Heap} (h : KK w U s.heap) (hA : ∀ x, wA w x → s.heap.size ≤ x) (hq : ∀ a : Nat, a < s.heap.size → ¬ s.heap.size ≤ a → H[a]? = s.heap[a]?) : KK w U H := h.kept (fun a h1 _ => hq a h1 (Nat.not_le.mpr h1))
section LAWROWS
variable {M : Mco} {w : Wco} {cc : ByteArray} {nL : Nat} {own : String} {c0 : Cond} {rm : Room} {bs L : Nat} {xs : Nat → Int32} {Q : State → Prop} {pc : Nat} {lv : List (Nat × Value)} {st : List Value} {σ : Sta} {F F2 : Option (Int32 × Sta)}
theorem sl_none : Sl M w nL Q pc lv st σ none := fun _ h => by cases h
theorem sl_sub (ks : List Nat) {lv' : List (Nat × Value)} (h : lv_pick lv ks = lv') (k : Sl M w nL Q pc lv' st σ F) : Sl M w nL Q pc lv st σ F :=
  fun σ' e H locs ls hW hS hl => k σ' e H locs ls hW hS (lv_sub hl ks h)
theorem sl_iconst (C : Cl M w cc nL own c0 rm bs L xs) {n : Int} (v : Int32) (hd : decode cc pc = .ok (.iconst n, 1)) (hv : Int32.ofInt n = v) (k : Sl M w nL Q (pc + 1) lv (.int v :: st) σ F) : Sl M w nL Q pc lv st σ F :=
  fun σ' e H locs ls hW hS hl => lv_iconst C.1 C.2.1 hd hv (k σ' e H locs ls hW hS hl)
theorem sl_bipush (C : Cl M w cc nL own c0 rm bs L xs) {n : Int} (v : Int32) (hd : decode cc pc = .ok (.bipush n, 2)) (hv : (Int8.ofInt n).toInt32 = v) (k : Sl M w nL Q (pc + 2) lv (.int v :: st) σ F) : Sl M w nL Q pc lv st σ F :=
  fun σ' e H locs ls hW hS hl => lv_bipush C.1 C.2.1 hd hv (k σ' e H locs ls hW hS hl)
theorem sl_iload_n (C : Cl M w cc nL own c0 rm bs L xs) (j : Nat) {k : Fin 4} {x : Int32} (hd : decode cc pc = .ok (.iload_n k, 1)) (hj : lv[j]? = some ((k : Nat), .int x)) (kk : Sl M w nL Q (pc + 1) lv (.int x :: st) σ F) : Sl M w nL Q pc lv st σ F :=
  fun σ' e H locs ls hW hS hl => lv_iload_n C.1 C.2.1 hd rfl (lv_at hl j hj) (kk σ' e H locs ls hW hS hl)
theorem sl_aload_n (C : Cl M w cc nL own c0 rm bs L xs) (j : Nat) {k : Fin 4} {x : Nat} (hd : decode cc pc = .ok (.aload_n k, 1)) (hj : lv[j]? = some ((k : Nat), .ref x)) (kk : Sl M w nL Q (pc + 1) lv (.ref x :: st) σ F) : Sl M w nL Q pc lv st σ F :=
  fun σ' e H locs ls hW hS hl => lv_aload_n C.1 C.2.1 hd rfl (lv_at hl j hj) (kk σ' e H locs ls hW hS hl)
theorem sl_istore_n (C : Cl M w cc nL own c0 rm bs L xs) (lv' : List (Nat × Value)) {k : Fin 4} {x : Int32} (hd : decode cc pc = .ok (.istore_n k, 1)) (hn : (k : Nat) < nL) (hl' : ((k : Nat), Value.int x) :: lv.filter (fun q => !(q.1 == (k : Nat)) && !(q.1 + 1 == (k : Nat) && q.2.category == 2)) = lv') (kk : Sl M w nL Q (pc + 1) lv' st σ F) : Sl M w nL Q pc lv (.int x :: st) σ F :=
  fun σ' e H locs ls hW hS hl => lv_istore_n C.1 C.2.1 hd rfl hl hn hl' (fun ls hl => kk σ' e H locs ls hW hS hl)
theorem sl_iinc (C : Cl M w cc nL own c0 rm bs L xs) (j : Nat) (v : Int32) (lv' : List (Nat × Value)) {i : Nat} {n : Int} {x : Int32} (hd : decode cc pc = .ok (.iinc i n, 3)) (hj : lv[j]? = some (i, .int x)) (hv : x + Int32.ofInt n = v) (hn : i < nL) (hl' : (i, Value.int v) :: lv.filter (fun q => !(q.1 == i) && !(q.1 + 1 == i && q.2.category == 2)) = lv') (kk : Sl M w nL Q (pc + 3) lv' st σ F) : Sl M w nL Q pc lv st σ F :=
  fun σ' e H locs ls hW hS hl => lv_iinc C.1 C.2.1 hd hl hj hv hn hl' (fun ls hl => kk σ' e H locs ls hW hS hl)
theorem sl_iadd (C : Cl M w cc nL own c0 rm bs L xs) {x y : Int32} (hd : decode cc pc = .ok (.iadd, 1)) (k : Sl M w nL Q (pc + 1) lv (.int (x + y) :: st) σ F) : Sl M w nL Q pc lv (.int y :: .int x :: st) σ F :=
  fun σ' e H locs ls hW hS hl => lv_iadd C.1 C.2.1 hd (k σ' e H locs ls hW hS hl)
theorem sl_isub (C : Cl M w cc nL own c0 rm bs L xs) {x y : Int32} (hd : decode cc pc = .ok (.isub, 1)) (k : Sl M w nL Q (pc + 1) lv (.int (x - y) :: st) σ F) : Sl M w nL Q pc lv (.int y :: .int x :: st) σ F :=
  fun σ' e H locs ls hW hS hl => lv_isub C.1 C.2.1 hd (k σ' e H locs ls hW hS hl)
theorem sl_iand (C : Cl M w cc nL own c0 rm bs L xs) {x y : Int32} (hd : decode cc pc = .ok (.iand, 1)) (k : Sl M w nL Q (pc + 1) lv (.int (x &&& y) :: st) σ F) : Sl M w nL Q pc lv (.int y :: .int x :: st) σ F :=
  fun σ' e H locs ls hW hS hl => lv_iand C.1 C.2.1 hd (k σ' e H locs ls hW hS hl)
theorem sl_lcmp (C : Cl M w cc nL own c0 rm bs L xs) {x y : Int64} (hd : decode cc pc = .ok (.lcmp, 1)) (k : Sl M w nL Q (pc + 1) lv (.int (lg_cmp x y) :: st) σ F) : Sl M w nL Q pc lv (.long y :: .long x :: st) σ F :=
  fun σ' e H locs ls hW hS hl => W.lcmp C.1 C.2.1 hd (k σ' e H locs ls hW hS hl)
theorem sl_goto (C : Cl M w cc nL own c0 rm bs L xs) {off : Int} (tgt : Nat) (hd : decode cc pc = .ok (.goto off, 3)) (ht : (pc : Int) + off = (tgt : Int)) (k : Sl M w nL Q tgt lv st σ F) : Sl M w nL Q pc lv st σ F :=
  fun σ' e H locs ls hW hS hl => lv_goto C.1 C.2.1 hd ht (k σ' e H locs ls hW hS hl)
theorem sl_slen (C : Cl M w cc nL own c0 rm bs L xs) (hd : decode cc pc = .ok (.arraylength, 1)) (k : Sl M w nL Q (pc + 1) lv (.int (Int32.ofNat L) :: st) σ F) : Sl M w nL Q pc lv (.ref bs :: st) σ F :=
  fun σ' e H locs ls hW hS hl => va_slen C.1 C.2.1 C.2.2.2.2.2.2.2.2.1 C.2.2.2.2.2.2.2.2.2.1 (Nat.not_le.mpr C.2.2.2.2.2.2.2.2.2.1) hS hd (k σ' e H locs ls hW hS hl)
theorem sl_sald (C : Cl M w cc nL own c0 rm bs L xs) {i : Int32} {K : Int32 → Option (Int32 × Sta)} (hd : decode cc pc = .ok (.iaload, 1)) (k : ∀ v, Sl M w nL Q (pc + 1) lv (.int v :: st) σ (K v)) : Sl M w nL Q pc lv (.int i :: .ref bs :: st) σ (aX xs L i K) := by
  intro σ' e H locs ls hW hS hl
  by_cases hi : i < 0 ∨ L ≤ i.toNatClampNeg
  · rw [aX, if_pos hi] at e
    cases e
  · rw [aX, if_neg hi] at e
    exact va_sld C.1 C.2.1 C.2.2.2.2.2.2.2.2.1 C.2.2.2.2.2.2.2.2.2.1 (Nat.not_le.mpr C.2.2.2.2.2.2.2.2.2.1) hS hi hd (k _ σ' e H locs ls hW hS hl)
theorem sl_icmp_eq (C : Cl M w cc nL own c0 rm bs L xs) {x y : Int32} {off : Int} (tgt : Nat) (hd : decode cc pc = .ok (.if_icmp .eq off, 3)) (ht : (pc : Int) + off = (tgt : Int)) (kt : Sl M w nL Q tgt lv st σ F) (kf : Sl M w nL Q (pc + 3) lv st σ F2) : Sl M w nL Q pc lv (.int y :: .int x :: st) σ (if x = y then F else F2) := by
  intro σ' e H locs ls hW hS hl
  refine lv_icmp_eq C.1 C.2.1 hd ht (fun c => kt σ' ?_ H locs ls hW hS hl) (fun c => kf σ' ?_ H locs ls hW hS hl)
  · rw [if_pos c] at e; exact e
  · rw [if_neg c] at e; exact e
theorem sl_if_eq (C : Cl M w cc nL own c0 rm bs L xs) {x : Int32} {off : Int} (tgt : Nat) (hd : decode cc pc = .ok (.ifCond .eq off, 3)) (ht : (pc : Int) + off = (tgt : Int)) (kt : Sl M w nL Q tgt lv st σ F) (kf : Sl M w nL Q (pc + 3) lv st σ F2) : Sl M w nL Q pc lv (.int x :: st) σ (if x = 0 then F else F2) := by
  intro σ' e H locs ls hW hS hl
  refine lv_if_eq C.1 C.2.1 hd ht (fun c => kt σ' ?_ H locs ls hW hS hl) (fun c => kf σ' ?_ H locs ls hW hS hl)
  · rw [if_pos c] at e; exact e
  · rw [if_neg c] at e; exact e
theorem sl_icmp_gt (C : Cl M w cc nL own c0 rm bs L xs) {x y : Int32} {off : Int} (tgt : Nat) (hd : decode cc pc = .ok (.if_icmp .gt off, 3)) (ht : (pc : Int) + off = (tgt : Int)) (kt : Sl M w nL Q tgt lv st σ F) (kf : Sl M w nL Q (pc + 3) lv st σ F2) : Sl M w nL Q pc lv (.int y :: .int x :: st) σ (if y < x then F else F2) := by
  intro σ' e H locs ls hW hS hl
  refine lv_icmp_gt C.1 C.2.1 hd ht (fun c => kt σ' ?_ H locs ls hW hS hl) (fun c => kf σ' ?_ H locs ls hW hS hl)
  · rw [if_pos c] at e; exact e
  · rw [if_neg c] at e; exact e
theorem sl_if_gt (C : Cl M w cc nL own c0 rm bs L xs) {x : Int32} {off : Int} (tgt : Nat) (hd : decode cc pc = .ok (.ifCond .gt off, 3)) (ht : (pc : Int) + off = (tgt : Int)) (kt : Sl M w nL Q tgt lv st σ F) (kf : Sl M w nL Q (pc + 3) lv st σ F2) : Sl M w nL Q pc lv (.int x :: st) σ (if 0 < x then F else F2) := by
  intro σ' e H locs ls hW hS hl
  refine lv_if_gt C.1 C.2.1 hd ht (fun c => kt σ' ?_ H locs ls hW hS hl) (fun c => kf σ' ?_ H locs ls hW hS hl)
  · rw [if_pos c] at e; exact e
  · rw [if_neg c] at e; exact e
theorem sl_ret0 : Sl M w nL Q pc lv st σ (some (0, σ)) := fun σ' e => by
  have h : (0 : Int32) = 1 := congrArg Prod.fst (Option.some.inj e)
  exact absurd h (by decide)
def TlOk (M : Mco) (w : Wco) (nL : Nat) (Q : State → Prop) (pc : Nat) (lv : List (Nat × Value)) (st : List Value) (σ : Sta) (offs : Array Int) : Nat → List (Int32 × Option (Int32 × Sta)) → Prop
  | _, [] => True
  | j, q :: r => (q.1.toInt = j ∧ ∃ (off : Int) (tg : Nat), offs[j]? = some off ∧ (pc : Int) + off = (tg : Int) ∧ Sl M w nL Q tg lv st σ q.2) ∧ TlOk M w nL Q pc lv st σ offs (j + 1) r
theorem tl_out {offs : Array Int} {x : Int32} {d : Option (Int32 × Sta)} : ∀ (Fs : List (Int32 × Option (Int32 × Sta))) (j : Nat), TlOk M w nL Q pc lv st σ offs j Fs → (x.toInt < j ∨ (j : Int) + Fs.length ≤ x.toInt) → tsw' x Fs d = d
  | [], _, _, _ => rfl
  | q :: r, j, h, hx => by
    have h1 : ¬ x = q.1 := by
      intro e
      rw [e, h.1.1] at hx
      simp at hx
      omega
    rw [tsw', if_neg h1]
    refine tl_out r (j + 1) h.2 ?_
    simp at hx ⊢
    omega
theorem tl_in {offs : Array Int} {x : Int32} {d : Option (Int32 × Sta)} : ∀ (Fs : List (Int32 × Option (Int32 × Sta))) (j : Nat), TlOk M w nL Q pc lv st σ offs j Fs → (j : Int) ≤ x.toInt → x.toInt < (j : Int) + Fs.length → ∃ (off : Int) (tg : Nat), offs[x.toInt.toNat]? = some off ∧ (pc : Int) + off = (tg : Int) ∧ Sl M w nL Q tg lv st σ (tsw' x Fs d)
  | [], j, _, h1, h2 => by simp at h2; omega
  | q :: r, j, h, h1, h2 => by
    by_cases e : x = q.1
    · obtain ⟨⟨g1, off, tg, g2, g3, g4⟩, -⟩ := h
      refine ⟨off, tg, ?_, g3, ?_⟩
      · rw [e, g1, show ((j : Int)).toNat = j by omega]
        exact g2
      · rw [tsw', if_pos e]
        exact g4
    · rw [tsw', if_neg e]
      have ne : x.toInt ≠ j := fun z => e (Int32.toInt_inj.mp (z.trans h.1.1.symm))
      refine tl_in r (j + 1) h.2 ?_ ?_
      · omega
      · simp at h2 ⊢
        omega
theorem sl_table (C : Cl M w cc nL own c0 rm bs L xs) {dflt hi : Int} {offs : Array Int} {len : Nat} {x : Int32} (tgt : Nat) {Fs : List (Int32 × Option (Int32 × Sta))} (hd : decode cc pc = .ok (.tableswitch dflt 0 hi offs, len)) (hlen : (Fs.length : Int) = hi + 1) (ht : (pc : Int) + dflt = (tgt : Int)) (ks : TlOk M w nL Q pc lv st σ offs 0 Fs) (kd : Sl M w nL Q tgt lv st σ F) : Sl M w nL Q pc lv (.int x :: st) σ (tsw' x Fs F) := by
  intro σ' e H locs ls hW hS hl
  by_cases hx : x.toInt < 0 ∨ hi < x.toInt
  · rw [tl_out Fs 0 ks (by simp; omega)] at e
    exact lv_tableOut C.1 C.2.1 hd hx ht (kd σ' e H locs ls hW hS hl)
  · obtain ⟨off, tg, h1, h2, h3⟩ := tl_in (x := x) (d := F) Fs 0 ks (by simp; omega) (by simp; omega)
    exact lv_tableIn C.1 C.2.1 hd (by omega) (by omega) (off := off) (tgt := tg) (by rw [Int.sub_zero]; exact h1) h2 (h3 σ' e H locs ls hW hS hl)
theorem sl_call {ρ2 : Type} {ov2 : ρ2 → Option Value} {f : Option (ρ2 × Sta)} {K : ρ2 → Sta → Option (Int32 × Sta)} (C : Cl M w cc nL own c0 rm bs L xs) {R : String} {T : u_T} {N ci index kk mx n : Nat} {fs : (Nat → Int32) → (Nat → Int64) → List Value} {y : MethodName} {b : ByteArray} {rt : Option FieldType} {rmc : Room} (As : List Value) (hO : isO w kk ci fs) (hc : cls[ci]? = some (R, T, N))
    (hM : ∀ q σ1, f = some (q, σ1) → Ct (mL M) w y (Cond.code y b mx rt :: GT) rmc (.ref (wad w kk) :: As) σ (ov2 q) σ1) (h1 : Cond.methodLink own index y ∈ GT) (h2 : Cond.instanceMethod y ∈ GT) (h3 : Cond.selects R y y ∈ GT) (h4 : Cond.initialized R ∈ GT) (h5 : Cond.code y b mx rt ∈ GT) (hd : decode cc pc = .ok (.invokevirtual index, 3))
    (hn : As.length = n) (hdd : y.cls = R ∧ y.cls ≠ "java/lang/invoke/MethodHandle" ∧ y.cls ≠ "java/lang/invoke/VarHandle" ∧ (parseMethodDescriptor y.desc).map (fun d => d.parameters.length) = some n) (hrc : rmc.cells = 0 ∧ rmc.slots = 0) (hR : rmc.frames + 1 ≤ rm.frames ∧ 8 + (mx + 11) + rmc.locals ≤ rm.locals) (hst : (st.map fun v => v.category).sum ≤ 8) (hrm : 600000 ≤ rm.cells ∧ 7302250 ≤ rm.slots)
    (st0 : List Value) (hst0 : st0 = As.reverse ++ .ref (wad w kk) :: st) (k : ∀ (q : ρ2) (σ1 : Sta), Sl M w nL Q (pc + 3) lv ((ov2 q).toList ++ st) σ1 (K q σ1)) : Sl M w nL Q pc lv st0 σ (cA f K) := by
  intro σ' e H locs ls hW hS hl
  obtain ⟨q, σ1, g1, g2⟩ := cA_some e
  have hA : ∀ x, wA w x → (mS M).heap.size ≤ x := by
    rintro x ⟨i, hi, rfl⟩
    exact C.2.2.2.2.2.2.2.2.2.2 i hi
  have hts := C.2.2.2.2.1
  have hkk : ∀ U : State, U.heap = H → (mS M).WarmedH U.vm → va_Pc (.ref (wad w kk) :: As) (fun U => Wd w σ U.heap ∧ KK w U U.heap) (Value.ref (wad w kk) :: As).toArray U := fun U hU hW9 => ⟨rfl, by rw [hU]; exact hW, by
    rw [hU]
    exact KK.kept' (C.2.2.2.2.2.1.warm hW9) hA hS.2.1⟩
  have run := va_runV (As := As) (rest := st) (nL := nL) (g := F0 (mI M) pc ls st0) (H := H) (locs := locs) (cells := 600000) (slots := 7302250) (below := mB M) (meth := mM M) (e := mE M) ⟨C.1, C.2.1, C.2.2.1, C.2.2.2.1, hts⟩ (hM q σ1 g1) (cwV (R := mR M) n hts (gV h1 h2 h3 h4 h5) rfl hrc.1 hrc.2 hdd (by rw [C.2.2.2.2.2.2.2.1]; exact hR)) ⟨sm_blind, va_recv C.2.2.2.2.2.1.1 hW.1 (ci := ci) (q0 := kk) hc (fs := fs (σ.1 kk) (σ.2 kk)) (by rw [wl_at hO.1, hO.2]), hkk⟩ rfl hn hl.1 hst0 (lv_room hst) hd (by rw [C.2.2.2.2.2.2.2.1]; exact hrm)
  intro T hT X
  obtain ⟨v, st₀, t, T', LL, g0, X', hL, e1, e2, ⟨⟨hv, hw1⟩, hz, hk⟩, go⟩ := run T hT X
  cases hv
  rw [g0] at hz hk
  obtain ⟨t2, a1, b1⟩ := k q σ1 σ' g2 T'.heap (locs ++ LL) ls (by rw [e1]; exact hw1) ⟨Nat.le_trans hS.1 (by rw [e1]; exact hz), fun x q1 q2 => by
      rw [e1, hk x (Nat.lt_of_lt_of_le q1 hS.1) (fun h => q2 (hA x h))]
      exact hS.2.1 x q1 q2, fun x hx => by
      rcases List.mem_append.mp hx with h | h
      · exact hS.2.2 x h
      · exact hA _ (hL x h)⟩ hl T' rfl X'
  exact ⟨t2, go t2 a1, b1⟩
end LAWROWS
theorem sl_callVI {M : Mco} {w : Wco} {cc : ByteArray} {nL : Nat} {own : String} {c0 : Cond} {rm : Room} {bs L : Nat} {xs : Nat → Int32} {Q : State → Prop} {pc : Nat} {lv : List (Nat × Value)} {st : List Value} {σ : Sta} {f : Option (Int32 × Sta)} {K : Int32 → Sta → Option (Int32 × Sta)} (C : Cl M w cc nL own c0 rm bs L xs) {R : String} {T : u_T} {N ci index kk mx n : Nat} {fs : (Nat → Int32) → (Nat → Int64) → List Value} {y : MethodName} {b : ByteArray} {rt : Option FieldType} {rmc : Room} (As : List Value) (hO : isO w kk ci fs) (hc : cls[ci]? = some (R, T, N))
    (hM : ∀ q σ1, f = some (q, σ1) → Ct (mL M) w y (Cond.code y b mx rt :: GT) rmc (.ref (wad w kk) :: As) σ (oI q) σ1) (h1 : Cond.methodLink own index y ∈ GT) (h2 : Cond.instanceMethod y ∈ GT) (h3 : Cond.selects R y y ∈ GT) (h4 : Cond.initialized R ∈ GT) (h5 : Cond.code y b mx rt ∈ GT) (hd : decode cc pc = .ok (.invokevirtual index, 3))
    (hn : As.length = n) (hdd : y.cls = R ∧ y.cls ≠ "java/lang/invoke/MethodHandle" ∧ y.cls ≠ "java/lang/invoke/VarHandle" ∧ (parseMethodDescriptor y.desc).map (fun d => d.parameters.length) = some n) (hrc : rmc.cells = 0 ∧ rmc.slots = 0) (hR : rmc.frames + 1 ≤ rm.frames ∧ 8 + (mx + 11) + rmc.locals ≤ rm.locals) (hst : (st.map fun v => v.category).sum ≤ 8) (hrm : 600000 ≤ rm.cells ∧ 7302250 ≤ rm.slots)
    (st0 : List Value) (hst0 : st0 = As.reverse ++ .ref (wad w kk) :: st) (k : ∀ (q : Int32) (σ1 : Sta), Sl M w nL Q (pc + 3) lv (.int q :: st) σ1 (K q σ1)) : Sl M w nL Q pc lv st0 σ (cA f K) :=
  sl_call (ov2 := oI) C As hO hc hM h1 h2 h3 h4 h5 hd hn hdd hrc hR hst hrm st0 hst0 k
theorem sl_callVL {M : Mco} {w : Wco} {cc : ByteArray} {nL : Nat} {own : String} {c0 : Cond} {rm : Room} {bs L : Nat} {xs : Nat → Int32} {Q : State → Prop} {pc : Nat} {lv : List (Nat × Value)} {st : List Value} {σ : Sta} {f : Option (Int64 × Sta)} {K : Int64 → Sta → Option (Int32 × Sta)} (C : Cl M w cc nL own c0 rm bs L xs) {R : String} {T : u_T} {N ci index kk mx n : Nat} {fs : (Nat → Int32) → (Nat → Int64) → List Value} {y : MethodName} {b : ByteArray} {rt : Option FieldType} {rmc : Room} (As : List Value) (hO : isO w kk ci fs) (hc : cls[ci]? = some (R, T, N))
    (hM : ∀ q σ1, f = some (q, σ1) → Ct (mL M) w y (Cond.code y b mx rt :: GT) rmc (.ref (wad w kk) :: As) σ (oL q) σ1) (h1 : Cond.methodLink own index y ∈ GT) (h2 : Cond.instanceMethod y ∈ GT) (h3 : Cond.selects R y y ∈ GT) (h4 : Cond.initialized R ∈ GT) (h5 : Cond.code y b mx rt ∈ GT) (hd : decode cc pc = .ok (.invokevirtual index, 3))
    (hn : As.length = n) (hdd : y.cls = R ∧ y.cls ≠ "java/lang/invoke/MethodHandle" ∧ y.cls ≠ "java/lang/invoke/VarHandle" ∧ (parseMethodDescriptor y.desc).map (fun d => d.parameters.length) = some n) (hrc : rmc.cells = 0 ∧ rmc.slots = 0) (hR : rmc.frames + 1 ≤ rm.frames ∧ 8 + (mx + 11) + rmc.locals ≤ rm.locals) (hst : (st.map fun v => v.category).sum ≤ 8) (hrm : 600000 ≤ rm.cells ∧ 7302250 ≤ rm.slots)
    (st0 : List Value) (hst0 : st0 = As.reverse ++ .ref (wad w kk) :: st) (k : ∀ (q : Int64) (σ1 : Sta), Sl M w nL Q (pc + 3) lv (.long q :: st) σ1 (K q σ1)) : Sl M w nL Q pc lv st0 σ (cA f K) :=
  sl_call (ov2 := oL) C As hO hc hM h1 h2 h3 h4 h5 hd hn hdd hrc hR hst hrm st0 hst0 k
