/-! GROWING WORLDS: what a constructor makes lies from its base on, cell behind cell -/
def zl : Nat → List va_E → va_W
  | _, [] => []
  | b, e :: r => (b, e) :: zl (b + 1) r
theorem zl_get : ∀ (cs : List va_E) (b i : Nat), (zl b cs)[i]? = (cs[i]?).map (fun e => (b + i, e))
  | [], b, i => by simp [zl]
  | e :: r, b, 0 => by simp [zl]
  | e :: r, b, i + 1 => by
    simp only [zl, List.getElem?_cons_succ]
    rw [zl_get r (b + 1) i, show b + 1 + i = b + (i + 1) by omega]
theorem zl_app : ∀ (cs ds : List va_E) (b : Nat), zl b (cs ++ ds) = zl b cs ++ zl (b + cs.length) ds
  | [], ds, b => by simp [zl]
  | e :: r, ds, b => by
    simp only [List.cons_append, zl, List.length_cons]
    rw [zl_app r ds (b + 1), show b + 1 + r.length = b + (r.length + 1) by omega]
theorem zl_set {b i : Nat} {cs : List va_E} {e : va_E} : (zl b cs).set i (b + i, e) = zl b (cs.set i e) := by
  apply List.ext_getElem?
  intro j
  by_cases hj : j = i
  · subst hj
    by_cases hl : j < cs.length
    · rw [List.getElem?_set_self (by
        have h1 := zl_get cs b j
        rw [List.getElem?_eq_getElem hl] at h1
        exact (List.getElem?_eq_some_iff.mp h1).1), zl_get, List.getElem?_set_self hl]
      rfl
    · have h1 : (zl b cs)[j]? = none := by rw [zl_get, List.getElem?_eq_none (by omega)]; rfl
      have h2 : ((zl b cs).set j (b + j, e))[j]? = none := by
        rw [List.getElem?_eq_none_iff] at h1 ⊢
        simpa using h1
      rw [h2, zl_get, List.getElem?_eq_none (by simp; omega)]
      rfl
  · rw [List.getElem?_set_ne (fun h => hj h.symm), zl_get, zl_get, List.getElem?_set_ne (fun h => hj h.symm)]
theorem zl_D {b : Nat} {cs : List va_E} : va_D (fun q => b ≤ q) (zl b cs) := by
  refine ⟨fun i j p q hi hj hpq => ?_, fun k q hk => ?_⟩
  · rw [zl_get] at hi hj
    obtain ⟨x, -, rfl⟩ := Option.map_eq_some_iff.mp hi
    obtain ⟨y, -, rfl⟩ := Option.map_eq_some_iff.mp hj
    have h : b + i = b + j := hpq
    omega
  · rw [zl_get] at hk
    obtain ⟨x, -, rfl⟩ := Option.map_eq_some_iff.mp hk
    exact Nat.le_add_right b k
/-- what the tables hold: classes and slots; the classes of int[], boolean[], Plain[], Valley[]; where the texts lie -/
abbrev Gco : Type := va_G × ClassId × ClassId × ClassId × ClassId × (Nat → Nat) × (Nat → Nat)
def gD (G : Gco) : va_G := G.1
def gI (G : Gco) : ClassId := G.2.1
def gZ (G : Gco) : ClassId := G.2.2.1
def gP (G : Gco) : ClassId := G.2.2.2.1
def gY (G : Gco) : ClassId := G.2.2.2.2.1
def gT (G : Gco) : List (ClassId × FieldType) := [(gI G, .int), (gZ G, .boolean), (gP G, .object "NobodyTwice$Plain"), (gY G, .object "NobodyTwice$Valley")]
def gW (G : Gco) (b : Nat) (S : Shp) (N : Nat) : Wco := (gD G, fun k => b + k, S, N, gT G, G.2.2.2.2.2.1, G.2.2.2.2.2.2)
def castL : List String := ["NobodyTwice$Saver", "NobodyTwice$Hider", "NobodyTwice$Proud", "NobodyTwice$Dog", "NobodyTwice$Old"]
def KG (G : Gco) (A : Nat → Prop) (U : State) (H : Heap) : Prop := va_K (gD G) cls (gT G) U ∧ KN U ∧ (vk_S 3 txL txB G.2.2.2.2.2.1 G.2.2.2.2.2.2 A U H ∧ va_Z "java/lang/String" "COMPACT_STRINGS" "Z" (.int 1) A U H ∧ va_Zq "jdk/internal/util/Preconditions" "SIOOBE_FORMATTER" "Ljava/util/function/BiFunction;" A U H) ∧ (vk_R "NobodyTwice$Script" 30 "valley" (G.2.2.2.2.2.1 0) U ∧ vk_R "NobodyTwice$Script" 46 "prize" (G.2.2.2.2.2.1 1) U ∧ vk_R "NobodyTwice$Script" 52 "one" (G.2.2.2.2.2.1 2) U) ∧ va_AO "NobodyTwice$Plain" U ∧ va_AO "NobodyTwice$Valley" U ∧ ∀ x ∈ castL, va_Nw (.castable x "NobodyTwice$Plain") U
theorem KG.warm {G : Gco} {A : Nat → Prop} {s U : State} {H : Heap} (hW : s.WarmedH U.vm) (h : KG G A s H) : KG G A U H :=
  ⟨va_K.moved hW.alike h.1, h.2.1.warm hW, ⟨vk_S.moved hW.alike h.2.2.1.1, va_Z.moved hW.alike h.2.2.1.2.1, va_Zq.moved hW.alike h.2.2.1.2.2⟩, ⟨vk_R.warm hW h.2.2.2.1.1, vk_R.warm hW h.2.2.2.1.2.1, vk_R.warm hW h.2.2.2.1.2.2⟩, va_AO.moved hW.alike h.2.2.2.2.1, va_AO.moved hW.alike h.2.2.2.2.2.1, fun x hx => va_Nw.warmC hW (h.2.2.2.2.2.2 x hx)⟩
theorem KG.calling {G : Gco} {A : Nat → Prop} {U : State} {H : Heap} {g : JFrame} {mk : MethodId} {a : Array Value} (h : KG G A U H) : KG G A (U.calling g mk a) H :=
  ⟨va_K.moved (u := U) (U := U.calling g mk a) (Vm.Alike.refl U.vm) h.1, h.2.1.same rfl, ⟨vk_S.moved (u := U) (U := U.calling g mk a) (Vm.Alike.refl U.vm) h.2.2.1.1, va_Z.moved (u := U) (U := U.calling g mk a) (Vm.Alike.refl U.vm) h.2.2.1.2.1, va_Zq.moved (u := U) (U := U.calling g mk a) (Vm.Alike.refl U.vm) h.2.2.1.2.2⟩, ⟨vk_R.same rfl h.2.2.2.1.1, vk_R.same rfl h.2.2.2.1.2.1, vk_R.same rfl h.2.2.2.1.2.2⟩, va_AO.moved (u := U) (U := U.calling g mk a) (Vm.Alike.refl U.vm) h.2.2.2.2.1, va_AO.moved (u := U) (U := U.calling g mk a) (Vm.Alike.refl U.vm) h.2.2.2.2.2.1, fun x hx => va_Nw.same rfl rfl (h.2.2.2.2.2.2 x hx)⟩
theorem KG.kept {G : Gco} {A : Nat → Prop} {U : State} {H H1 : Heap} (h : KG G A U H) (hq : ∀ a : Nat, a < H.size → ¬ A a → H1[a]? = H[a]?) : KG G A U H1 :=
  ⟨h.1, h.2.1, ⟨vk_S.kept h.2.2.1.1 hq, va_Z.kept h.2.2.1.2.1 hq, va_Zq.kept h.2.2.1.2.2 hq⟩, h.2.2.2⟩
theorem KG.narrow {G : Gco} {A B : Nat → Prop} {U : State} {H : Heap} (h : KG G A U H) (hB : ∀ q, B q → A q) : KG G B U H :=
  ⟨h.1, h.2.1, ⟨vk_S.narrow h.2.2.1.1 hB, va_Z.narrow h.2.2.1.2.1 hB, va_Zq.narrow h.2.2.1.2.2 hB⟩, h.2.2.2⟩
theorem KG.KK {G : Gco} {A : Nat → Prop} {U : State} {H : Heap} {b N : Nat} {S : Shp} (h : KG G A U H) (hB : ∀ q, wA (gW G b S N) q → A q) : KK (gW G b S N) U H :=
  ⟨h.1, h.2.1, ⟨vk_S.narrow h.2.2.1.1 hB, va_Z.narrow h.2.2.1.2.1 hB, va_Zq.narrow h.2.2.1.2.2 hB⟩, h.2.2.2.1⟩
/-- cells of a shape with contents -/
def shl (S : Shp) (N : Nat) (σ : Sta) : List va_E := (List.range N).map fun k => S k (σ.1 k) (σ.2 k)
theorem shl_get {S : Shp} {N : Nat} {σ : Sta} {i : Nat} : (shl S N σ)[i]? = if i < N then some (S i (σ.1 i) (σ.2 i)) else none := by
  by_cases h : i < N
  · simp [shl, h]
  · simp [shl, h]
theorem shl_len {S : Shp} {N : Nat} {σ : Sta} : (shl S N σ).length = N := by simp [shl]
theorem zl_shl {G : Gco} {b N : Nat} {S : Shp} {σ : Sta} : zl b (shl S N σ) = wl (gW G b S N) σ := by
  apply List.ext_getElem?
  intro i
  rw [zl_get, shl_get]
  by_cases h : i < N
  · rw [if_pos h, wl_at (w := gW G b S N) h]
    rfl
  · rw [if_neg h]
    have h2 : (wl (gW G b S N) σ)[i]? = none := by
      have e : wnn (gW G b S N) = N := rfl
      simp only [wl, e]
      simp
      omega
    rw [h2]
    rfl
def Cg (M : Mco) (G : Gco) (cc : ByteArray) (nL : Nat) (own : String) (c0 : Cond) (ret : Option FieldType) (rm : Room) (b n0 : Nat) : Prop :=
  (mP M).tables.exec = Jvm.exec ∧ (mC M).code = cc ∧ (mC M).maxLocals = nL ∧ (mS M).vm.findClass own = some (mI M).cls ∧ (∀ x ∈ c0 :: GT, x.before (mA M) (mS M) = true) ∧ KG G (fun q => b ≤ q) (mS M) (mS M).heap ∧ (mM M).locks = false ∧ (mM M).sig.returnType = ret ∧ mR M = rm ∧ (mS M).heap.size = b + n0
def Sg (M : Mco) (G : Gco) (Q : State → Prop) (nL b nc ns pc : Nat) (lv : List (Nat × Value)) (st : List Value) (cs : List va_E) : Prop :=
  ∀ (H : Heap) (locs : List Loc) (ls : Array Slot), va_P (gD G) cls (zl b cs) H → va_S (fun q => b ≤ q) (mS M).heap H locs → lv_has ls nL lv →
    W (mP M) (mL M) (mE M) (mR M) (mS M) (mI M) (mA M) (mB M) (mM M) (mC M) H locs nc ns Q (F0 (mI M) pc ls st)
/-- a constructor's end, and its contract -/
def Qn (G : Gco) (b : Nat) (post : List va_E) : Array Value → State → Outcome → State → Prop := fun _ st oc t => (oc = .returned none ∧ va_P (gD G) cls (zl b post) t.heap) ∧ va_F (fun q => b ≤ q) st t
def Cn (l : Launch) (G : Gco) (y : MethodName) (ws : List Cond) (rm : Room) (b : Nat) (av : List Value) (pre post : List va_E) : Prop :=
  Met l y ws rm (va_Pc av (fun U => va_P (gD G) cls (zl b pre) U.heap ∧ U.heap.size = b + pre.length ∧ KG G (fun q => b ≤ q) U U.heap)) (Qn G b post) rm.cells rm.slots (fun q => b ≤ q)
section GROW
variable {M : Mco} {G : Gco} {Q : State → Prop} {cc : ByteArray} {nL : Nat} {own : String} {c0 : Cond} {ret : Option FieldType} {rm : Room} {b n0 nc ns pc : Nat} {lv : List (Nat × Value)} {st : List Value} {cs : List va_E}
theorem sg_size (C : Cg M G cc nL own c0 ret rm b n0) (hn : nc + n0 = cs.length) {H : Heap} {locs : List Loc} {T : State} (hP : va_P (gD G) cls (zl b cs) H) (hS : va_S (fun q => b ≤ q) (mS M).heap H locs) (hT : T.heap = H) (X : Stand (mP M) (mL M) (mE M) (mR M) (mS M) (mI M) (mA M) (mB M) (mM M) (mC M) T locs nc ns) : H.size = b + cs.length := by
  have h1 := X.heapSize
  rw [hT, C.2.2.2.2.2.2.2.2.2] at h1
  have h2 := hS.1
  rw [C.2.2.2.2.2.2.2.2.2] at h2
  cases hc : cs with
  | nil =>
    rw [hc] at hn
    simp at hn ⊢
    omega
  | cons e r =>
    have h3 : (zl b cs)[r.length]? = some (b + r.length, (cs.getD r.length e)) := by
      rw [zl_get, hc]
      simp
    have h4 := (hP _ _ h3).lt
    have h5 : b + r.length < H.size := h4
    rw [hc] at hn
    simp at hn ⊢
    omega
theorem sg_sub (ks : List Nat) {lv' : List (Nat × Value)} (h : lv_pick lv ks = lv') (k : Sg M G Q nL b nc ns pc lv' st cs) : Sg M G Q nL b nc ns pc lv st cs :=
  fun H locs ls hP hS hl => k H locs ls hP hS (lv_sub hl ks h)
theorem sg_aload (C : Cg M G cc nL own c0 ret rm b n0) (j : Nat) {k : Fin 4} {x : Nat} (hd : decode cc pc = .ok (.aload_n k, 1)) (hj : lv[j]? = some ((k : Nat), .ref x)) (kk : Sg M G Q nL b nc ns (pc + 1) lv (.ref x :: st) cs) : Sg M G Q nL b nc ns pc lv st cs :=
  fun H locs ls hP hS hl => lv_aload_n C.1 C.2.1 hd rfl (lv_at hl j hj) (kk H locs ls hP hS hl)
theorem sg_iload (C : Cg M G cc nL own c0 ret rm b n0) (j : Nat) {k : Fin 4} {x : Int32} (hd : decode cc pc = .ok (.iload_n k, 1)) (hj : lv[j]? = some ((k : Nat), .int x)) (kk : Sg M G Q nL b nc ns (pc + 1) lv (.int x :: st) cs) : Sg M G Q nL b nc ns pc lv st cs :=
  fun H locs ls hP hS hl => lv_iload_n C.1 C.2.1 hd rfl (lv_at hl j hj) (kk H locs ls hP hS hl)
theorem sg_iconst (C : Cg M G cc nL own c0 ret rm b n0) {n : Int} (v : Int32) (hd : decode cc pc = .ok (.iconst n, 1)) (hv : Int32.ofInt n = v) (k : Sg M G Q nL b nc ns (pc + 1) lv (.int v :: st) cs) : Sg M G Q nL b nc ns pc lv st cs :=
  fun H locs ls hP hS hl => lv_iconst C.1 C.2.1 hd hv (k H locs ls hP hS hl)
theorem sg_bipush (C : Cg M G cc nL own c0 ret rm b n0) {n : Int} (v : Int32) (hd : decode cc pc = .ok (.bipush n, 2)) (hv : (Int8.ofInt n).toInt32 = v) (k : Sg M G Q nL b nc ns (pc + 2) lv (.int v :: st) cs) : Sg M G Q nL b nc ns pc lv st cs :=
  fun H locs ls hP hS hl => lv_bipush C.1 C.2.1 hd hv (k H locs ls hP hS hl)
theorem sg_sipush (C : Cg M G cc nL own c0 ret rm b n0) {n : Int} (v : Int32) (hd : decode cc pc = .ok (.sipush n, 3)) (hv : (Int16.ofInt n).toInt32 = v) (k : Sg M G Q nL b nc ns (pc + 3) lv (.int v :: st) cs) : Sg M G Q nL b nc ns pc lv st cs :=
  fun H locs ls hP hS hl => lv_sipush C.1 C.2.1 hd hv (k H locs ls hP hS hl)
theorem sg_lconst (C : Cg M G cc nL own c0 ret rm b n0) {n : Fin 2} (v : Int64) (hd : decode cc pc = .ok (.lconst n, 1)) (hv : Int64.ofNat (n : Nat) = v) (k : Sg M G Q nL b nc ns (pc + 1) lv (.long v :: st) cs) : Sg M G Q nL b nc ns pc lv st cs :=
  fun H locs ls hP hS hl => lv_lconst C.1 C.2.1 hd hv (k H locs ls hP hS hl)
theorem sg_dup (C : Cg M G cc nL own c0 ret rm b n0) {v : Value} (hd : decode cc pc = .ok (.dup, 1)) (hc : v.category = 1) (k : Sg M G Q nL b nc ns (pc + 1) lv (v :: v :: st) cs) : Sg M G Q nL b nc ns pc lv (v :: st) cs :=
  fun H locs ls hP hS hl => lv_dup C.1 C.2.1 hd hc (k H locs ls hP hS hl)
theorem sg_istore (C : Cg M G cc nL own c0 ret rm b n0) (lv' : List (Nat × Value)) {k : Fin 4} {x : Int32} (hd : decode cc pc = .ok (.istore_n k, 1)) (hn : (k : Nat) < nL) (hl' : ((k : Nat), Value.int x) :: lv.filter (fun q => !(q.1 == (k : Nat)) && !(q.1 + 1 == (k : Nat) && q.2.category == 2)) = lv') (kk : Sg M G Q nL b nc ns (pc + 1) lv' st cs) : Sg M G Q nL b nc ns pc lv (.int x :: st) cs :=
  fun H locs ls hP hS hl => lv_istore_n C.1 C.2.1 hd rfl hl hn hl' (fun ls hl => kk H locs ls hP hS hl)
theorem sg_astore (C : Cg M G cc nL own c0 ret rm b n0) (lv' : List (Nat × Value)) {k : Fin 4} {x : Nat} (hd : decode cc pc = .ok (.astore_n k, 1)) (hn : (k : Nat) < nL) (hl' : ((k : Nat), Value.ref x) :: lv.filter (fun q => !(q.1 == (k : Nat)) && !(q.1 + 1 == (k : Nat) && q.2.category == 2)) = lv') (kk : Sg M G Q nL b nc ns (pc + 1) lv' st cs) : Sg M G Q nL b nc ns pc lv (.ref x :: st) cs :=
  fun H locs ls hP hS hl => lv_astore_n C.1 C.2.1 hd rfl hl hn hl' (fun ls hl => kk H locs ls hP hS hl)
theorem sg_iinc (C : Cg M G cc nL own c0 ret rm b n0) (j : Nat) (v : Int32) (lv' : List (Nat × Value)) {i : Nat} {n : Int} {x : Int32} (hd : decode cc pc = .ok (.iinc i n, 3)) (hj : lv[j]? = some (i, .int x)) (hv : x + Int32.ofInt n = v) (hn : i < nL) (hl' : (i, Value.int v) :: lv.filter (fun q => !(q.1 == i) && !(q.1 + 1 == i && q.2.category == 2)) = lv') (kk : Sg M G Q nL b nc ns (pc + 3) lv' st cs) : Sg M G Q nL b nc ns pc lv st cs :=
  fun H locs ls hP hS hl => lv_iinc C.1 C.2.1 hd hl hj hv hn hl' (fun ls hl => kk H locs ls hP hS hl)
theorem sg_goto (C : Cg M G cc nL own c0 ret rm b n0) {off : Int} (tgt : Nat) (hd : decode cc pc = .ok (.goto off, 3)) (ht : (pc : Int) + off = (tgt : Int)) (k : Sg M G Q nL b nc ns tgt lv st cs) : Sg M G Q nL b nc ns pc lv st cs :=
  fun H locs ls hP hS hl => lv_goto C.1 C.2.1 hd ht (k H locs ls hP hS hl)
theorem sg_geT (C : Cg M G cc nL own c0 ret rm b n0) {x y : Int32} {off : Int} (tgt : Nat) (hd : decode cc pc = .ok (.if_icmp .ge off, 3)) (ht : (pc : Int) + off = (tgt : Int)) (h : y ≤ x) (k : Sg M G Q nL b nc ns tgt lv st cs) : Sg M G Q nL b nc ns pc lv (.int y :: .int x :: st) cs :=
  fun H locs ls hP hS hl => lv_icmp_ge C.1 C.2.1 hd ht (fun _ => k H locs ls hP hS hl) (fun c => absurd h c)
theorem sg_geF (C : Cg M G cc nL own c0 ret rm b n0) {x y : Int32} {off : Int} (tgt : Nat) (hd : decode cc pc = .ok (.if_icmp .ge off, 3)) (ht : (pc : Int) + off = (tgt : Int)) (h : ¬ y ≤ x) (k : Sg M G Q nL b nc ns (pc + 3) lv st cs) : Sg M G Q nL b nc ns pc lv (.int y :: .int x :: st) cs :=
  fun H locs ls hP hS hl => lv_icmp_ge C.1 C.2.1 hd ht (fun c => absurd c h) (fun _ => k H locs ls hP hS hl)
theorem sg_objInit (C : Cg M G cc nL own c0 ret rm b n0) {index : Nat} {x : Nat} (h1 : Cond.methodLink own index objectInit ∈ GT) (h2 : Cond.instanceMethod objectInit ∈ GT) (h3 : Cond.code objectInit ⟨#[0xb1]⟩ 1 none ∈ GT) (hd : decode cc pc = .ok (.invokespecial index, 3)) (hfr : 1 ≤ rm.frames) (hlo : (st.map fun v => v.category).sum + 12 ≤ rm.locals) (k : Sg M G Q nL b nc ns (pc + 3) lv st cs) : Sg M G Q nL b nc ns pc lv (.ref x :: st) cs := by
  intro H locs ls hP hS hl
  refine W.objInit C.1 C.2.1 C.2.2.2.1 (C.2.2.2.2.1 _ (gtM h1)) (C.2.2.2.2.1 _ (gtM h2)) (C.2.2.2.2.1 _ (gtM h3)) rfl (by rw [C.2.2.1]; exact hl.1) rfl hd (by rw [C.2.2.2.2.2.2.2.2.1]; exact hfr) (by rw [C.2.2.2.2.2.2.2.2.1]; show 2 * 0 + _ + 12 ≤ _; omega) ?_
  exact k H locs ls hP hS hl
/-- a new cell behind the last one -/
theorem sg_push (C : Cg M G cc nL own c0 ret rm b n0) (hn : nc + n0 = cs.length) {H H1 : Heap} {locs : List Loc} {e : va_E} (hP : va_P (gD G) cls (zl b cs) H) (hS : va_S (fun q => b ≤ q) (mS M).heap H locs) (z1 : H1.size = H.size + 1) (o1 : ∀ q, q < H.size → H1[q]? = H[q]?) (hsz : H.size = b + cs.length) (he : va_at (gD G) cls (b + cs.length, e) H1) : va_P (gD G) cls (zl b (cs ++ [e])) H1 ∧ va_S (fun q => b ≤ q) (mS M).heap H1 locs := by
  refine ⟨?_, Nat.le_trans hS.1 (by omega), fun q h1 h2 => (o1 q (Nat.lt_of_lt_of_le h1 hS.1)).trans (hS.2.1 q h1 h2), hS.2.2⟩
  rw [zl_app]
  refine va_P.app (hP.kept fun k q hq => o1 q.1 (hP k q hq).lt) ?_
  intro k q hq
  rw [zl_get] at hq
  cases k with
  | zero =>
    simp at hq
    rw [← hq]
    exact he
  | succ k => simp at hq
theorem sg_new (C : Cg M G cc nL own c0 ret rm b n0) {R : String} {T : u_T} {N ci index : Nat} (k0 : Nat) (fs : List Value) (hn : nc + n0 = cs.length) (hk0 : cs.length = k0) (hc : cls[ci]? = some (R, T, N)) (hg : ∀ x ∈ u_ws R T N, x ∈ GT) (ty : Nat → FieldType) (hty : ∀ k, k < N → parseFieldDescriptor (T k).2.2.1 = some (ty k)) (h1 : Cond.classLink own index R ∈ GT) (h2 : Cond.instantiable R N ∈ GT) (h3 : Cond.initialized R ∈ GT) (hfs : ∀ j, j < N → defaultValue (ty j) = vp_V fs j) (hd : decode cc pc = .ok (.new index, 3)) (hcells : nc + 1 ≤ rm.cells) (hslots : ns + N ≤ rm.slots)
    (k : Sg M G Q nL b (nc + 1) (ns + N) (pc + 3) lv (.ref (b + k0) :: st) (cs ++ [.inr (ci, fs)])) : Sg M G Q nL b nc ns pc lv st cs := by
  subst hk0
  intro H locs ls hP hS hl
  have hKn := C.2.2.2.2.2.1.1.1 ci _ hc
  have hts := C.2.2.2.2.1
  have key : H.size = b + cs.length → W (mP M) (mL M) (mE M) (mR M) (mS M) (mI M) (mA M) (mB M) (mM M) (mC M) H locs nc ns Q (F0 (mI M) pc ls st) := by
    intro hsz
    refine W.newcK (h := b + cs.length) C.1 C.2.1 C.2.2.2.1 (hts _ (gtM h1)) (hts _ (gtM h2)) (hts _ (gtM h3)) rfl hd (by rw [C.2.2.2.2.2.2.2.2.1]; exact hcells) (by rw [C.2.2.2.2.2.2.2.2.1]; exact hslots) hKn.2.1 hsz (fun H1 kC hkC e1 z1 o1 => ?_)
    obtain ⟨g1, g2⟩ := sg_push C hn (e := .inr (ci, fs)) hP hS (z1.trans (by rw [hsz])) (fun q hq => o1 q (by rw [← hsz]; exact hq)) hsz ⟨_, hc, (u_born ty hts (fun x hx => gtM (hg x hx)) hKn hkC e1 hty).to hfs⟩
    exact k H1 locs ls g1 g2 hl
  exact fun T0 hT X => key (sg_size C hn hP hS hT X) T0 hT X
theorem sg_newA (C : Cg M G cc nL own c0 ret rm b n0) {atype : ArrayType} {ty : FieldType} {cA : ClassId} {n : Int32} (k0 N' ti : Nat) (a0 : vp_A) (hn : nc + n0 = cs.length) (hk0 : cs.length = k0) (harr : Cond.arrayClass (newarray.typeOf atype) ∈ GT) (hty : newarray.typeOf atype = ty) (ht : (gT G)[ti]? = some (cA, ty)) (hra : ∀ U c, va_RA U c ty → U.vm.findClass ("[" ++ ty.toString) = some c) (ha : ∀ c : ClassId, vp_cell c a0 = arrV c N' (fun _ => defaultValue ty)) (hnn : ¬ n < 0) (hN : n.toNatClampNeg = N') (hbytes : N' * componentBytes ty ≤ 536870912) (hd : decode cc pc = .ok (.newarray atype, 2)) (hcells : nc + 1 ≤ rm.cells) (hslots : ns + N' ≤ rm.slots)
    (k : Sg M G Q nL b (nc + 1) (ns + N') (pc + 2) lv (.ref (b + k0) :: st) (cs ++ [.inl (cA, a0)])) : Sg M G Q nL b nc ns pc lv (.int n :: st) cs := by
  subst hk0
  subst hty
  intro H locs ls hP hS hl
  have hts := C.2.2.2.2.1
  have key : H.size = b + cs.length → W (mP M) (mL M) (mE M) (mR M) (mS M) (mI M) (mA M) (mB M) (mM M) (mC M) H locs nc ns Q (F0 (mI M) pc ls (.int n :: st)) := by
    intro hsz
    refine va_newaK (h := b + cs.length) C.1 C.2.1 (hts _ (gtM harr)) rfl hd rfl hnn hN hbytes (by rw [C.2.2.2.2.2.2.2.2.1]; exact hcells) (by rw [C.2.2.2.2.2.2.2.2.1]; exact hslots) hsz (fun H1 c1 e1 z1 o1 hAr hNm => ?_)
    have hc1 : c1 = cA := Option.some.inj (hNm.symm.trans (hra _ _ (C.2.2.2.2.2.1.1.2 ti _ ht).2))
    subst hc1
    obtain ⟨g1, g2⟩ := sg_push C hn (e := .inl (c1, a0)) hP hS (z1.trans (by rw [hsz])) (fun q hq => o1 q (by rw [← hsz]; exact hq)) hsz (show H1[b + cs.length]? = some (vp_cell _ _) by rw [ha]; exact e1)
    exact k H1 locs ls g1 g2 hl
  exact fun T0 hT X => key (sg_size C hn hP hS hT X) T0 hT X
theorem sg_newR (C : Cg M G cc nL own c0 ret rm b n0) {E : String} {cA : ClassId} {index : Nat} {n : Int32} (k0 N' ti : Nat) (hn : nc + n0 = cs.length) (hk0 : cs.length = k0) (h1 : Cond.classLink own index E ∈ GT) (hAO : va_AO E (mS M)) (ht : (gT G)[ti]? = some (cA, .object E)) (hnn : ¬ n < 0) (hN : n.toNatClampNeg = N') (hbytes : N' * 4 ≤ 536870912) (hd : decode cc pc = .ok (.anewarray index, 3)) (hcells : nc + 1 ≤ rm.cells) (hslots : ns + N' ≤ rm.slots)
    (k : Sg M G Q nL b (nc + 1) (ns + N') (pc + 3) lv (.ref (b + k0) :: st) (cs ++ [.inl (cA, N', .inr (.inr (.inr (.inr (fun _ => none)))))])) : Sg M G Q nL b nc ns pc lv (.int n :: st) cs := by
  subst hk0
  subst hN
  intro H locs ls hP hS hl
  have hts := C.2.2.2.2.1
  have key : H.size = b + cs.length → W (mP M) (mL M) (mE M) (mR M) (mS M) (mI M) (mA M) (mB M) (mM M) (mC M) H locs nc ns Q (F0 (mI M) pc ls (.int n :: st)) := by
    intro hsz
    refine W.anew C.1 C.2.1 C.2.2.2.1 (hts _ (gtM h1)) (va_AO.use hAO) rfl hd rfl hnn hbytes (by rw [C.2.2.2.2.2.2.2.2.1]; exact hcells) (by rw [C.2.2.2.2.2.2.2.2.1]; exact hslots) (fun c1 kA comp f1 f2 f3 f4 => ?_)
    obtain ⟨kA', comp', p1, p2, p3, p4⟩ := (C.2.2.2.2.2.1.1.2 ti _ ht).2
    have hc1 : c1 = cA := Option.some.inj (f1.symm.trans p4)
    subst hc1
    obtain ⟨g1, g2⟩ := sg_push C hn (H1 := H.push { cls := c1, slots := Array.replicate n.toNatClampNeg .null, vm := .none }) (e := .inl (c1, n.toNatClampNeg, .inr (.inr (.inr (.inr (fun _ => none)))))) hP hS (by rw [Array.size_push]) (fun q hq => by rw [Array.getElem?_push, if_neg (Nat.ne_of_lt hq)]) hsz (show (H.push _)[b + cs.length]? = some (vp_cell _ _) by
      rw [vp_cell_q, ← hsz, Array.getElem?_push_size, arrV_new]
      rfl)
    have g3 := k _ locs ls g1 g2 hl
    rw [← hsz] at g3
    exact g3
  exact fun T0 hT X => key (sg_size C hn hP hS hT X) T0 hT X
theorem sg_put (C : Cg M G cc nL own c0 ret rm b n0) {R : String} {T : u_T} {N ci index : Nat} (i j : Nat) {fs : List Value} (v : Value) (ty : FieldType) (cs' : List va_E) (he : cs[i]? = some (.inr (ci, fs))) (hcs : cs.set i (.inr (ci, fs.set j v)) = cs') (hc : cls[ci]? = some (R, T, N)) (hg : ∀ x ∈ u_ws R T N, x ∈ GT) (ty0 : Nat → FieldType) (hty : ∀ k, k < N → parseFieldDescriptor (T k).2.2.1 = some (ty0 k)) (hnm : ∀ a, a < N → ∀ b, b < N → a ≠ b → (T a).2.1 ≠ (T b).2.1) (hj : j < N) (hlink : Cond.fieldLink own index (T j).1 (T j).2.1 (T j).2.2.1 ∈ GT) (hfin : (T j).2.2.2 = true) (hin : (mM M).name = "<init>") (hown : (T j).1 = own) (hdesc : parseFieldDescriptor (T j).2.2.1 = some ty) (hnar : narrow ty v = v) (hfit : fits ty v = true) (hl0 : j < fs.length) (hd : decode cc pc = .ok (.putfield index, 3)) (k : Sg M G Q nL b nc ns (pc + 3) lv st cs') : Sg M G Q nL b nc ns pc lv (v :: .ref (b + i) :: st) cs := by
  subst hcs
  intro H locs ls hP hS hl
  refine va_putF (C := R) (T := T) (N := N) (ci := ci) (v := v) (ty := ty) C.1 C.2.1 C.2.2.2.2.1 (fun x hx => gtM (hg x hx)) ty0 hty hnm C.2.2.2.1 C.2.2.2.2.2.1.1 hP zl_D hS i (fs := fs) (by rw [zl_get, he]; rfl) hc j hj (C.2.2.2.2.1 _ (gtM hlink)) (fun _ h9 => h9) hfin hin hown hdesc hnar hfit hl0 hd (fun H1 locs1 hP1 hD1 hS1 => k H1 locs1 ls ?_ hS1 hl)
  rw [zl_set] at hP1
  exact hP1
theorem sg_putN (C : Cg M G cc nL own c0 ret rm b n0) {R : String} {T : u_T} {N ci index : Nat} (i j : Nat) {fs : List Value} (v : Value) (ty : FieldType) (cs' : List va_E) (he : cs[i]? = some (.inr (ci, fs))) (hcs : cs.set i (.inr (ci, fs.set j v)) = cs') (hc : cls[ci]? = some (R, T, N)) (hg : ∀ x ∈ u_ws R T N, x ∈ GT) (ty0 : Nat → FieldType) (hty : ∀ k, k < N → parseFieldDescriptor (T k).2.2.1 = some (ty0 k)) (hnm : ∀ a, a < N → ∀ b, b < N → a ≠ b → (T a).2.1 ≠ (T b).2.1) (hj : j < N) (hlink : Cond.fieldLink own index (T j).1 (T j).2.1 (T j).2.2.1 ∈ GT) (hfin : (T j).2.2.2 = false) (hdesc : parseFieldDescriptor (T j).2.2.1 = some ty) (hnar : narrow ty v = v) (hfit : fits ty v = true) (hl0 : j < fs.length) (hd : decode cc pc = .ok (.putfield index, 3)) (k : Sg M G Q nL b nc ns (pc + 3) lv st cs') : Sg M G Q nL b nc ns pc lv (v :: .ref (b + i) :: st) cs := by
  subst hcs
  intro H locs ls hP hS hl
  refine va_put (C := R) (T := T) (N := N) (ci := ci) (v := v) (ty := ty) C.1 C.2.1 C.2.2.2.2.1 (fun x hx => gtM (hg x hx)) ty0 hty hnm C.2.2.2.1 C.2.2.2.2.2.1.1 hP zl_D hS i (fs := fs) (by rw [zl_get, he]; rfl) hc j hj (C.2.2.2.2.1 _ (gtM hlink)) (fun _ h9 => h9) hfin hdesc hnar hfit hl0 hd (fun H1 locs1 hP1 hD1 hS1 => k H1 locs1 ls ?_ hS1 hl)
  rw [zl_set] at hP1
  exact hP1
theorem sg_get (C : Cg M G cc nL own c0 ret rm b n0) {R : String} {T : u_T} {N ci index : Nat} (i j : Nat) {fs : List Value} (v : Value) (he : cs[i]? = some (.inr (ci, fs))) (hv : fs[j]? = some v) (hc : cls[ci]? = some (R, T, N)) (hg : ∀ x ∈ u_ws R T N, x ∈ GT) (hj : j < N) (hlink : Cond.fieldLink own index (T j).1 (T j).2.1 (T j).2.2.1 ∈ GT) (hd : decode cc pc = .ok (.getfield index, 3)) (k : Sg M G Q nL b nc ns (pc + 3) lv (v :: st) cs) : Sg M G Q nL b nc ns pc lv (.ref (b + i) :: st) cs :=
  fun H locs ls hP hS hl => va_get (C := R) (T := T) (N := N) (ci := ci) (v := v) C.1 C.2.1 C.2.2.2.2.1 (fun x hx => gtM (hg x hx)) C.2.2.2.1 C.2.2.2.2.2.1.1 hP i (fs := fs) (by rw [zl_get, he]; rfl) hc j hj (C.2.2.2.2.1 _ (gtM hlink)) (fun _ h9 => h9) hv hd (k H locs ls hP hS hl)
theorem sg_aast (C : Cg M G cc nL own c0 ret rm b n0) {E : String} {cA : ClassId} {ci n : Nat} {vs : List Value} {r : vw_C} {f : Nat → Option Nat} {x : Int32} (i i2 ti : Nat) (cs' : List va_E) (ha : cs[i]? = some (.inl (cA, n, .inr (.inr (.inr (.inr f)))))) (ht : (gT G)[ti]? = some (cA, .object E)) (hca : r.1 = E ∨ va_Nw (.castable r.1 E) (mS M)) (hv : cs[i2]? = some (.inr (ci, vs))) (hc : cls[ci]? = some r) (hin : vp_in x n) (hcs : cs.set i (.inl (cA, n, .inr (.inr (.inr (.inr (va_up f x.toNatClampNeg (some (b + i2)))))))) = cs') (hd : decode cc pc = .ok (.aastore, 1)) (k : Sg M G Q nL b nc ns (pc + 1) lv st cs') : Sg M G Q nL b nc ns pc lv (.ref (b + i2) :: .int x :: .ref (b + i) :: st) cs := by
  subst hcs
  intro H locs ls hP hS hl
  rcases hca with h | h
  · refine va_astq C.1 C.2.1 C.2.2.2.2.2.1.1 hP zl_D hS i ti i2 ci (n := n) (f := f) (r := r) (vs := vs) (by rw [zl_get, ha]; rfl) (by rw [h]; exact ht) (by rw [zl_get, hv]; rfl) hc hin hd (fun H1 locs1 hP1 hD1 hS1 => k H1 locs1 ls ?_ hS1 hl)
    rw [zl_set] at hP1
    exact hP1
  · refine va_astqO C.1 C.2.1 C.2.2.2.2.2.1.1 hP zl_D hS i ti i2 ci (n := n) (f := f) (r := r) (vs := vs) (E := E) (by rw [zl_get, ha]; rfl) ht h (by rw [zl_get, hv]; rfl) hc hin hd (fun H1 locs1 hP1 hD1 hS1 => k H1 locs1 ls ?_ hS1 hl)
    rw [zl_set] at hP1
    exact hP1
/-- the same row of references, told by another function that agrees within it -/
theorem sg_conv {cA : ClassId} {n : Nat} {f f' : Nat → Option Nat} (i : Nat) (cs' : List va_E) (ha : cs[i]? = some (.inl (cA, n, .inr (.inr (.inr (.inr f)))))) (hf : ∀ j, j < n → f j = f' j) (hcs : cs.set i (.inl (cA, n, .inr (.inr (.inr (.inr f'))))) = cs') (k : Sg M G Q nL b nc ns pc lv st cs') : Sg M G Q nL b nc ns pc lv st cs := by
  subst hcs
  intro H locs ls hP hS hl
  refine k H locs ls ?_ hS hl
  rw [← zl_set]
  have h1 : (zl b cs)[i]? = some (b + i, .inl (cA, n, .inr (.inr (.inr (.inr f))))) := by rw [zl_get, ha]; rfl
  refine va_P.set hP (zl_D (cs := cs)) h1 ?_ (fun _ _ => rfl)
  have h2 : H[b + i]? = some (vp_cell cA (n, .inr (.inr (.inr (.inr f))))) := hP i _ h1
  show H[b + i]? = some (vp_cell cA (n, .inr (.inr (.inr (.inr f')))))
  rw [h2, vp_cell_q, vp_cell_q]
  congr 1
  unfold arrV
  congr 1
  apply Array.ext
  · simp
  · intro j hj1 hj2
    simp only [Array.getElem_ofFn]
    rw [hf j (by simpa using hj1)]
theorem sg_vret (C : Cg M G cc nL own c0 none rm b n0) (hd : decode cc pc = .ok (.return_, 1)) : Sg M G (MQ (mB M) (Qn G b cs) (mA M) (mS M) nc ns (fun q => b ≤ q)) nL b nc ns pc lv [] cs := by
  intro H locs ls hP hS hl
  exact W.vret C.1 C.2.1 C.2.2.2.2.2.2.2.1 (fun t ht _ => ⟨⟨rfl, by rw [ht]; exact hP⟩, hS.F ht⟩) hS.2.2 hd C.2.2.2.2.2.2.1
theorem sg_blind {b : Nat} {av : List Value} {pre : List va_E} : FrameBlind (va_Pc av (fun U => va_P (gD G) cls (zl b pre) U.heap ∧ U.heap.size = b + pre.length ∧ KG G (fun q => b ≤ q) U U.heap)) := fun _ _ _ _ h => ⟨h.1, h.2.1, h.2.2.1, h.2.2.2.calling⟩
/-- behind a constructor's call on the last cell -/
theorem sg_after (C : Cg M G cc nL own c0 ret rm b n0) {e : va_E} {post : List va_E} {st0 : List Value} {a : Array Value} {mc ms : Nat} (k0 : Nat) (hn : nc + n0 = (cs ++ [e]).length) (hk0 : cs.length = k0)
    (run : ∀ (H : Heap) (locs : List Loc) (ls : Array Slot), va_P (gD G) cls (zl (b + k0) [e]) H → H.size = b + k0 + 1 → KG G (fun q => b + k0 ≤ q) (mS M) H → lv_has ls nL lv → va_Run (mP M) (mL M) (mE M) (mR M) (mS M) (mI M) (mA M) (mB M) (mM M) (mC M) H locs nc ns mc ms (F0 (mI M) pc ls st0) st (Qn G (b + k0) post a) (fun q => b + k0 ≤ q))
    (k : Sg M G Q nL b (nc + mc) (ns + ms) (pc + 3) lv st (cs ++ post)) : Sg M G Q nL b nc ns pc lv st0 (cs ++ [e]) := by
  subst hk0
  intro H locs ls hP hS hl T hT X
  have hsz := sg_size C hn hP hS hT X
  rw [List.length_append] at hsz
  have hsz2 : H.size = b + cs.length + 1 := by simp at hsz; omega
  have hP0 : va_P (gD G) cls (zl b cs) H := fun i q hq => hP i q (by rw [zl_app]; rw [List.getElem?_append_left ((List.getElem?_eq_some_iff.mp hq).1)]; exact hq)
  have hPe : va_P (gD G) cls (zl (b + cs.length) [e]) H := fun i q hq => hP ((zl b cs).length + i) q (by rw [zl_app, List.getElem?_append_right (Nat.le_add_right _ _), Nat.add_sub_cancel_left]; exact hq)
  have hKc : KG G (fun q => b + cs.length ≤ q) (mS M) H := (C.2.2.2.2.2.1.kept hS.2.1).narrow (fun q h => Nat.le_trans (Nat.le_add_right _ _) h)
  obtain ⟨v, st₀, t, T', L, g0, X', hL, e1, e2, ⟨⟨hv, hw1⟩, hz, hk⟩, go⟩ := run H locs ls hPe hsz2 hKc hl T hT X
  cases hv
  rw [g0] at hz hk
  have hPn : va_P (gD G) cls (zl b (cs ++ post)) T'.heap := by
    rw [zl_app]
    refine va_P.app (hP0.kept fun i q hq => ?_) (by rw [e1]; exact hw1)
    have hlt := (hP0 i q hq).lt
    have hb : q.1 < b + cs.length := by
      rw [zl_get] at hq
      obtain ⟨x, hx, rfl⟩ := Option.map_eq_some_iff.mp hq
      have := (List.getElem?_eq_some_iff.mp hx).1
      show b + i < b + cs.length
      omega
    rw [e1]
    exact hk q.1 hlt (Nat.not_le.mpr hb)
  obtain ⟨t2, a1, b1⟩ := k T'.heap (locs ++ L) ls hPn ⟨Nat.le_trans hS.1 (by rw [e1]; exact hz), fun x g1 g2 => by
      rw [e1, hk x (Nat.lt_of_lt_of_le g1 hS.1) (fun h => g2 (Nat.le_trans (Nat.le_add_right _ _) h))]
      exact hS.2.1 x g1 g2, fun x hx => by
      rcases List.mem_append.mp hx with h | h
      · exact hS.2.2 x h
      · exact Nat.le_trans (Nat.le_add_right _ _) (hL x h)⟩ hl T' rfl X'
  exact ⟨t2, go t2 a1, b1⟩
theorem sg_callI (C : Cg M G cc nL own c0 ret rm b n0) {e : va_E} {post : List va_E} {y : MethodName} {bb : ByteArray} {mx n index : Nat} {rmc : Room} (k0 : Nat) (As : List Value) (nc' ns' : Nat) (hn : nc + n0 = (cs ++ [e]).length) (hk0 : cs.length = k0) (hM : Cn (mL M) G y (Cond.code y bb mx none :: GT) rmc (b + k0) (.ref (b + k0) :: As) [e] post) (h1 : Cond.methodLink own index y ∈ GT ∨ ∃ host, (own, index, y, host) ∈ nwM) (h2 : Cond.instanceMethod y ∈ GT) (h4 : Cond.initialized y.cls ∈ GT) (h5 : Cond.code y bb mx none ∈ GT) (hy : y.name = "<init>") (hd : decode cc pc = .ok (.invokespecial index, 3)) (hn2 : As.length = n) (hdd : y.cls ≠ "java/lang/invoke/MethodHandle" ∧ y.cls ≠ "java/lang/invoke/VarHandle" ∧ (parseMethodDescriptor y.desc).map (fun d => d.parameters.length) = some n) (hR : rmc.frames + 1 ≤ rm.frames ∧ 8 + (mx + 11) + rmc.locals ≤ rm.locals) (hst : (st.map fun v => v.category).sum ≤ 8) (hroom : nc + rmc.cells ≤ rm.cells ∧ ns + rmc.slots ≤ rm.slots) (hnc : nc + rmc.cells = nc') (hns : ns + rmc.slots = ns')
    (st0 : List Value) (hst0 : st0 = As.reverse ++ .ref (b + k0) :: st) (k : Sg M G Q nL b nc' ns' (pc + 3) lv st (cs ++ post)) : Sg M G Q nL b nc ns pc lv st0 (cs ++ [e]) := by
  subst hnc
  subst hns
  have hts := C.2.2.2.2.1
  refine sg_after (a := (Value.ref (b + k0) :: As).toArray) C k0 hn hk0 (fun H locs ls hP hsz hK hl => ?_) k
  have hp : PreS (mS M) H (va_Pc (.ref (b + k0) :: As) (fun U => va_P (gD G) cls (zl (b + k0) [e]) U.heap ∧ U.heap.size = b + k0 + [e].length ∧ KG G (fun q => b + k0 ≤ q) U U.heap)) (.ref (b + k0) :: As) := ⟨sg_blind, fun U hU hW9 => ⟨rfl, by rw [hU]; exact hP, by rw [hU]; exact hsz, by rw [hU]; exact hK.warm hW9⟩⟩
  rcases h1 with h1 | ⟨host, h1⟩
  · exact va_runI (As := As) (rest := st) (nL := nL) ⟨C.1, C.2.1, C.2.2.1, C.2.2.2.1, hts⟩ hM (cwI n hts (gC h5) rfl rfl rfl (hts _ (gtM h4)) (hts _ (gtM h1)) (hts _ (gtM h2)) hy hdd (by rw [C.2.2.2.2.2.2.2.2.1]; exact hR)) hp rfl hn2 hl.1 hst0 (lv_room hst) hd (by rw [C.2.2.2.2.2.2.2.2.1]; exact hroom)
  · exact va_runIN (As := As) (rest := st) (nL := nL) ⟨C.1, C.2.1, C.2.2.1, C.2.2.2.1, hts⟩ hM ⟨va_cnB (host := host) n hts (gC h5) rfl rfl rfl (C.2.2.2.2.2.1.2.1.2 _ h1) (hts _ (gtM h4)) hdd (by rw [C.2.2.2.2.2.2.2.2.1]; exact hR), hy, hts _ (gtM h2)⟩ hp rfl hn2 hl.1 hst0 (lv_room hst) hd (by rw [C.2.2.2.2.2.2.2.2.1]; exact hroom)
/-- a call of a method over the world that has grown so far -/
theorem sg_callW (C : Cg M G cc nL own c0 ret rm b n0) {S : Shp} {N : Nat} {σ σ' : Sta} {st0 : List Value} {a : Array Value} (hcs : cs = shl S N σ)
    (run : ∀ (H : Heap) (locs : List Loc) (ls : Array Slot), Wd (gW G b S N) σ H → KK (gW G b S N) (mS M) H → lv_has ls nL lv → va_Run (mP M) (mL M) (mE M) (mR M) (mS M) (mI M) (mA M) (mB M) (mM M) (mC M) H locs nc ns 0 0 (F0 (mI M) pc ls st0) st (Rt (gW G b S N) none σ' a) (wA (gW G b S N)))
    (k : Sg M G Q nL b nc ns (pc + 3) lv st (shl S N σ')) : Sg M G Q nL b nc ns pc lv st0 cs := by
  subst hcs
  intro H locs ls hP hS hl T hT X
  have hA : ∀ q, wA (gW G b S N) q → b ≤ q := by
    rintro q ⟨i, -, rfl⟩
    exact Nat.le_add_right b i
  have hD0 : va_D (fun q => b ≤ q) (zl b (shl S N σ)) := zl_D
  rw [zl_shl (G := G)] at hP hD0
  have hD : va_D (wA (gW G b S N)) (wl (gW G b S N) σ) := ⟨hD0.1, fun i q hq => by
    have hi : i < N := by
      have h := (List.getElem?_eq_some_iff.mp hq).1
      have e : wnn (gW G b S N) = N := rfl
      simpa [wl, e] using h
    have hq2 := hq
    rw [wl_at (w := gW G b S N) hi] at hq2
    cases hq2
    exact ⟨i, hi, rfl⟩⟩
  obtain ⟨v, st₀, t, T', L, g0, X', hL, e1, e2, ⟨⟨hv, hw1⟩, hz, hk⟩, go⟩ := run H locs ls ⟨hP, hD⟩ ((C.2.2.2.2.2.1.kept hS.2.1).KK hA) hl T hT X
  cases hv
  rw [g0] at hz hk
  obtain ⟨t2, a1, b1⟩ := k T'.heap (locs ++ L) ls (by rw [zl_shl (G := G), e1]; exact hw1.1) ⟨Nat.le_trans hS.1 (by rw [e1]; exact hz), fun x g1 g2 => by
      rw [e1, hk x (Nat.lt_of_lt_of_le g1 hS.1) (fun h => g2 (hA x h))]
      exact hS.2.1 x g1 g2, fun x hx => by
      rcases List.mem_append.mp hx with h | h
      · exact hS.2.2 x h
      · exact hA _ (hL x h)⟩ hl T' rfl X'
  exact ⟨t2, go t2 a1, b1⟩
theorem sg_callWV (C : Cg M G cc nL own c0 ret rm b n0) {S : Shp} {N ci kk : Nat} {σ σ' : Sta} {R : String} {T : u_T} {NN index mx n : Nat} {fs : (Nat → Int32) → (Nat → Int64) → List Value} {y : MethodName} {bb : ByteArray} {rmc : Room} (As : List Value) (hcs : cs = shl S N σ) (hO : isO (gW G b S N) kk ci fs) (hc : cls[ci]? = some (R, T, NN)) (hM : Ct (mL M) (gW G b S N) y (Cond.code y bb mx none :: GT) rmc (.ref (b + kk) :: As) σ none σ') (h1 : Cond.methodLink own index y ∈ GT) (h2 : Cond.instanceMethod y ∈ GT) (h3 : Cond.selects R y y ∈ GT) (h4 : Cond.initialized R ∈ GT) (h5 : Cond.code y bb mx none ∈ GT) (hd : decode cc pc = .ok (.invokevirtual index, 3)) (hn2 : As.length = n) (hdd : y.cls = R ∧ y.cls ≠ "java/lang/invoke/MethodHandle" ∧ y.cls ≠ "java/lang/invoke/VarHandle" ∧ (parseMethodDescriptor y.desc).map (fun d => d.parameters.length) = some n) (hrc : rmc.cells = 0 ∧ rmc.slots = 0) (hR : rmc.frames + 1 ≤ rm.frames ∧ 8 + (mx + 11) + rmc.locals ≤ rm.locals) (hst : (st.map fun v => v.category).sum ≤ 8) (hroom : nc ≤ rm.cells ∧ ns ≤ rm.slots)
    (st0 : List Value) (hst0 : st0 = As.reverse ++ .ref (b + kk) :: st) (k : Sg M G Q nL b nc ns (pc + 3) lv st (shl S N σ')) : Sg M G Q nL b nc ns pc lv st0 cs := by
  have hts := C.2.2.2.2.1
  exact sg_callW (a := (Value.ref (b + kk) :: As).toArray) C hcs (fun H locs ls hW hK hl => va_runV (As := As) (rest := st) (nL := nL) ⟨C.1, C.2.1, C.2.2.1, C.2.2.2.1, hts⟩ hM (cwV n hts (gV h1 h2 h3 h4 h5) rfl hrc.1 hrc.2 hdd (by rw [C.2.2.2.2.2.2.2.2.1]; exact hR)) ⟨sm_blind, va_recv hK.1 hW.1 (ci := ci) (q0 := kk) hc (fs := fs (σ.1 kk) (σ.2 kk)) (by rw [wl_at hO.1, hO.2]; rfl), fun U hU hW9 => ⟨rfl, by rw [hU]; exact hW, by rw [hU]; exact hK.warm hW9⟩⟩ rfl hn2 hl.1 hst0 (lv_room hst) hd (by rw [C.2.2.2.2.2.2.2.2.1]; exact hroom)) k
theorem sg_callWS (C : Cg M G cc nL own c0 ret rm b n0) {S : Shp} {N : Nat} {σ σ' : Sta} {index mx n : Nat} {y : MethodName} {bb : ByteArray} {rmc : Room} (As : List Value) (hcs : cs = shl S N σ) (hM : Ct (mL M) (gW G b S N) y (Cond.code y bb mx none :: GT) rmc As σ none σ') (h1 : Cond.methodLink own index y ∈ GT) (h2 : Cond.static y ∈ GT) (h4 : Cond.initialized y.cls ∈ GT) (h5 : Cond.code y bb mx none ∈ GT) (hd : decode cc pc = .ok (.invokestatic index, 3)) (hn2 : As.length = n) (hdd : y.cls ≠ "java/lang/invoke/MethodHandle" ∧ y.cls ≠ "java/lang/invoke/VarHandle" ∧ (parseMethodDescriptor y.desc).map (fun d => d.parameters.length) = some n) (hrc : rmc.cells = 0 ∧ rmc.slots = 0) (hR : rmc.frames + 1 ≤ rm.frames ∧ 8 + (mx + 11) + rmc.locals ≤ rm.locals) (hst : (st.map fun v => v.category).sum ≤ 8) (hroom : nc ≤ rm.cells ∧ ns ≤ rm.slots)
    (st0 : List Value) (hst0 : st0 = As.reverse ++ st) (k : Sg M G Q nL b nc ns (pc + 3) lv st (shl S N σ')) : Sg M G Q nL b nc ns pc lv st0 cs := by
  have hts := C.2.2.2.2.1
  exact sg_callW (a := As.toArray) C hcs (fun H locs ls hW hK hl => va_runS (As := As) (rest := st) (nL := nL) ⟨C.1, C.2.1, C.2.2.1, C.2.2.2.1, hts⟩ hM (va_cwS n hts (gS h1 h2 h4 h5) rfl hrc.1 hrc.2 hdd (by rw [C.2.2.2.2.2.2.2.2.1]; exact hR)) ⟨sm_blind, fun U hU hW9 => ⟨rfl, by rw [hU]; exact hW, by rw [hU]; exact hK.warm hW9⟩⟩ rfl hn2 hl.1 hst0 (lv_room hst) hd (by rw [C.2.2.2.2.2.2.2.2.1]; exact hroom)) k
end GROW
theorem cn_of {l : Launch} {G : Gco} {y : MethodName} {cc : ByteArray} {nL : Nat} {rm : Room} {b : Nat} {av : List Value} {pre post : List va_E} (lv : List (Nat × Value)) (hy : plainName y.cls = true) (hlen : (lg_sl av).length ≤ nL) (hlv : lv_args 0 av = lv)
    (walk : ∀ M : Mco, mL M = l → (mM M).name = y.name → Cg M G cc nL y.cls (Cond.code y cc nL none) none rm b pre.length → Sg M G (MQ (mB M) (Qn G b post) (mA M) (mS M) rm.cells rm.slots (fun q => b ≤ q)) nL b 0 0 0 lv [] pre) : Cn l G y (Cond.code y cc nL none :: GT) rm b av pre post := by
  refine Met.ofW (cc := cc) (maxL := nL) (ret := none) hy rfl ?_
  intro p e s m args below meth c s₁ B hml hv
  obtain ⟨rfl, hP, hz, hK⟩ := hv
  have hts := atoms_spec (ws := Cond.code y cc nL none :: GT) B.pre
  have hown : s.vm.findClass y.cls = some m.cls := findClass_of_methodNamed B.named
  have hl := lv_entry av (n := nL) hlen
  rw [lg_entry_eq]
  rw [hlv] at hl
  exact walk (p, l, e, (headSpec (Cond.code y cc nL none :: GT) rm).room, s, m, av.toArray, below, meth, c) rfl (name_of_methodNamed B.named B.method).1 ⟨B.exec, B.bytes, hml, hown, hts, hK, B.notSynchronized, B.returns, rfl, hz⟩ s.heap [] _ hP va_S.rf hl
