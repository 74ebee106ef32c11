/-! THE FRAME OF ALL WALKS. A world: a fixed number of cells at fixed addresses, of fixed shape; its contents are numbers: St. -/
abbrev Sta : Type := (Nat → Nat → Int32) × (Nat → Nat → Int64)
abbrev Shp : Type := Nat → (Nat → Int32) → (Nat → Int64) → va_E
/-- constants of a world: class numbers and slots; addresses; shape; how many cells; array classes; where the three texts and their bytes lie -/
abbrev Wco : Type := va_G × (Nat → Nat) × Shp × Nat × List (ClassId × FieldType) × (Nat → Nat) × (Nat → Nat)
def wG (w : Wco) : va_G := w.1
def wad (w : Wco) : Nat → Nat := w.2.1
def wsh (w : Wco) : Shp := w.2.2.1
def wnn (w : Wco) : Nat := w.2.2.2.1
def wty (w : Wco) : List (ClassId × FieldType) := w.2.2.2.2.1
def wtK (w : Wco) : Nat → Nat := w.2.2.2.2.2.1
def wtV (w : Wco) : Nat → Nat := w.2.2.2.2.2.2
def wl (w : Wco) (σ : Sta) : va_W := (List.range (wnn w)).map fun k => (wad w k, wsh w k (σ.1 k) (σ.2 k))
def wA (w : Wco) : Nat → Prop := fun q => ∃ k, k < wnn w ∧ q = wad w k
def Wd (w : Wco) (σ : Sta) (H : Heap) : Prop := va_P (wG w) cls (wl w σ) H ∧ va_D (wA w) (wl w σ)
theorem wl_at {w : Wco} {σ : Sta} {k : Nat} (h : k < wnn w) : (wl w σ)[k]? = some (wad w k, wsh w k (σ.1 k) (σ.2 k)) := by
  simp [wl, h]
def up1 (σ : Sta) (k : Nat) (f : Nat → Int32) : Sta := (va_up σ.1 k f, σ.2)
def up2 (σ : Sta) (k : Nat) (f : Nat → Int64) : Sta := (σ.1, va_up σ.2 k f)
theorem wl_set1 {w : Wco} {σ : Sta} {k : Nat} {f : Nat → Int32} : (wl w σ).set k (wad w k, wsh w k f (σ.2 k)) = wl w (up1 σ k f) := by
  apply List.ext_getElem?
  intro i
  by_cases hi : i = k
  · subst hi
    by_cases hn : i < wnn w
    · rw [List.getElem?_set_self (by simpa [wl] using hn), wl_at hn]
      simp [up1, va_up]
    · have h1 : ((wl w σ).set i (wad w i, wsh w i f (σ.2 i)))[i]? = none := by simp [wl]; omega
      have h2 : (wl w (up1 σ i f))[i]? = none := by simp [wl]; omega
      rw [h1, h2]
  · rw [List.getElem?_set_ne (fun h => hi h.symm)]
    by_cases hn : i < wnn w
    · rw [wl_at hn, wl_at hn]
      simp [up1, va_up, hi]
    · have h1 : (wl w σ)[i]? = none := by simp [wl]; omega
      have h2 : (wl w (up1 σ k f))[i]? = none := by simp [wl]; omega
      rw [h1, h2]
theorem wl_set2 {w : Wco} {σ : Sta} {k : Nat} {f : Nat → Int64} : (wl w σ).set k (wad w k, wsh w k (σ.1 k) f) = wl w (up2 σ k f) := by
  apply List.ext_getElem?
  intro i
  by_cases hi : i = k
  · subst hi
    by_cases hn : i < wnn w
    · rw [List.getElem?_set_self (by simpa [wl] using hn), wl_at hn]
      simp [up2, va_up]
    · have h1 : ((wl w σ).set i (wad w i, wsh w i (σ.1 i) f))[i]? = none := by simp [wl]; omega
      have h2 : (wl w (up2 σ i f))[i]? = none := by simp [wl]; omega
      rw [h1, h2]
  · rw [List.getElem?_set_ne (fun h => hi h.symm)]
    by_cases hn : i < wnn w
    · rw [wl_at hn, wl_at hn]
      simp [up2, va_up, hi]
    · have h1 : (wl w σ)[i]? = none := by simp [wl]; omega
      have h2 : (wl w (up2 σ k f))[i]? = none := by simp [wl]; omega
      rw [h1, h2]
/-- what the tables say, and the constant texts: bystanders of every walk -/
def KN (U : State) : Prop := (∀ q ∈ nwF, va_Nw (.fieldLinkNest q.1 q.2.1 q.2.2.1 q.2.2.2.1 q.2.2.2.2.1 q.2.2.2.2.2) U) ∧ (∀ q ∈ nwM, va_Nw (.methodLinkNest q.1 q.2.1 q.2.2.1 q.2.2.2) U)
theorem KN.warm {s U : State} (hW : s.WarmedH U.vm) (h : KN s) : KN U := ⟨fun q hq => va_Nw.warmF hW (h.1 q hq), fun q hq => va_Nw.warmM hW (h.2 q hq)⟩
theorem KN.same {s U : State} (hv : s.vm = U.vm) (h : KN s) : KN U := ⟨fun q hq => va_Nw.same rfl hv (h.1 q hq), fun q hq => va_Nw.same rfl hv (h.2 q hq)⟩
def txL : List Nat := [6, 5, 3]
def txB : List (List Int32) := [[118, 97, 108, 108, 101, 121], [112, 114, 105, 122, 101], [111, 110, 101]]
def KS (w : Wco) (U : State) (H : Heap) : Prop := vk_S 3 txL txB (wtK w) (wtV w) (wA w) U H ∧ va_Z "java/lang/String" "COMPACT_STRINGS" "Z" (.int 1) (wA w) U H ∧ va_Zq "jdk/internal/util/Preconditions" "SIOOBE_FORMATTER" "Ljava/util/function/BiFunction;" (wA w) U H
def KR (w : Wco) (U : State) : Prop := vk_R "NobodyTwice$Script" 30 "valley" (wtK w 0) U ∧ vk_R "NobodyTwice$Script" 46 "prize" (wtK w 1) U ∧ vk_R "NobodyTwice$Script" 52 "one" (wtK w 2) U
def KK (w : Wco) (U : State) (H : Heap) : Prop := va_K (wG w) cls (wty w) U ∧ KN U ∧ KS w U H ∧ KR w U
theorem KK.warm {w : Wco} {s U : State} {H : Heap} (hW : s.WarmedH U.vm) (h : KK w s H) : KK w U H :=
  ⟨va_K.moved hW.alike h.1, h.2.1.warm hW, ⟨vk_S.moved hW.alike h.2.2.1.1, va_Z.moved hW.alike h.2.2.1.2.1, va_Zq.moved hW.alike h.2.2.1.2.2⟩, ⟨vk_R.warm hW h.2.2.2.1, vk_R.warm hW h.2.2.2.2.1, vk_R.warm hW h.2.2.2.2.2⟩⟩
theorem KK.calling {w : Wco} {U : State} {H : Heap} {g : JFrame} {mk : MethodId} {a : Array Value} (h : KK w U H) : KK w (U.calling g mk a) H :=
  ⟨va_K.moved (u := U) (U := U.calling g mk a) (Vm.Alike.refl U.vm) h.1, h.2.1.same rfl, ⟨vk_S.moved (u := U) (U := U.calling g mk a) (Vm.Alike.refl U.vm) h.2.2.1.1, va_Z.moved (u := U) (U := U.calling g mk a) (Vm.Alike.refl U.vm) h.2.2.1.2.1, va_Zq.moved (u := U) (U := U.calling g mk a) (Vm.Alike.refl U.vm) h.2.2.1.2.2⟩, ⟨vk_R.same rfl h.2.2.2.1, vk_R.same rfl h.2.2.2.2.1, vk_R.same rfl h.2.2.2.2.2⟩⟩
theorem KK.kept {w : Wco} {U : State} {H H1 : Heap} (h : KK w U H) (hq : ∀ a : Nat, a < H.size → ¬ wA w a → H1[a]? = H[a]?) : KK w U H1 :=
  ⟨h.1, h.2.1, ⟨vk_S.kept h.2.2.1.1 hq, va_Z.kept h.2.2.1.2.1 hq, va_Zq.kept h.2.2.1.2.2 hq⟩, h.2.2.2⟩
/-- a method's end: the answer, the new contents, nothing else changed -/
def Rt (w : Wco) (o : Option Value) (σ' : Sta) : Array Value → State → Outcome → State → Prop := fun _ st oc t => (oc = .returned o ∧ Wd w σ' t.heap) ∧ va_F (wA w) st t
/-- a contract: from contents σ with the arguments av it answers o and leaves σ' -/
def Ct (l : Launch) (w : Wco) (y : MethodName) (ws : List Cond) (rm : Room) (av : List Value) (σ : Sta) (o : Option Value) (σ' : Sta) : Prop :=
  Met l y ws rm (va_Pc av (fun U => Wd w σ U.heap ∧ KK w U U.heap)) (Rt w o σ') 0 0 (wA w)
/-- the machine's own bystanders in a walk -/
abbrev Mco : Type := Program × Launch × Env × Room × State × MethodId × Array Value × List Frame × Method × Code
def mP (M : Mco) : Program := M.1
def mL (M : Mco) : Launch := M.2.1
def mE (M : Mco) : Env := M.2.2.1
def mR (M : Mco) : Room := M.2.2.2.1
def mS (M : Mco) : State := M.2.2.2.2.1
def mI (M : Mco) : MethodId := M.2.2.2.2.2.1
def mA (M : Mco) : Array Value := M.2.2.2.2.2.2.1
def mB (M : Mco) : List Frame := M.2.2.2.2.2.2.2.1
def mM (M : Mco) : Method := M.2.2.2.2.2.2.2.2.1
def mC (M : Mco) : Code := M.2.2.2.2.2.2.2.2.2
def Cx (M : Mco) (w : Wco) (cc : ByteArray) (nL : Nat) (own : String) (c0 : Cond) (ret : Option FieldType) (rm : Room) : Prop :=
  (mP M).tables.exec = Jvm.exec ∧ (mC M).code = cc ∧ (mC M).maxLocals = nL ∧ (mS M).vm.findClass own = some (mI M).cls ∧ (∀ x ∈ c0 :: GT, x.before (mA M) (mS M) = true) ∧ KK w (mS M) (mS M).heap ∧ (mM M).locks = false ∧ (mM M).sig.returnType = ret ∧ mR M = rm
def Sm (M : Mco) (w : Wco) (nL : Nat) {ρ : Type} (ov : ρ → Option Value) (pc : Nat) (lv : List (Nat × Value)) (st : List Value) (σ : Sta) (F : Option (ρ × Sta)) : Prop :=
  ∀ (r : ρ) (σ' : Sta), F = some (r, σ') → ∀ (H : Heap) (locs : List Loc) (ls : Array Slot), Wd w σ H → va_S (wA w) (mS M).heap H locs → lv_has ls nL lv →
    W (mP M) (mL M) (mE M) (mR M) (mS M) (mI M) (mA M) (mB M) (mM M) (mC M) H locs 0 0 (MQ (mB M) (Rt w (ov r) σ') (mA M) (mS M) 0 0 (wA w)) (F0 (mI M) pc ls st)
def oI (x : Int32) : Option Value := some (.int x)
def oL (x : Int64) : Option Value := some (.long x)
def oV (_ : Unit) : Option Value := none
/-! the words of the pictures -/
def fI {β : Type} (σ : Sta) (k i : Nat) (K : Int32 → Option β) : Option β := K (σ.1 k i)
def fL {β : Type} (σ : Sta) (k i : Nat) (K : Int64 → Option β) : Option β := K (σ.2 k i)
def pI {β : Type} (σ : Sta) (k i : Nat) (v : Int32) (K : Sta → Option β) : Option β := K (up1 σ k (upd (σ.1 k) i v))
def pL {β : Type} (σ : Sta) (k i : Nat) (v : Int64) (K : Sta → Option β) : Option β := K (up2 σ k (vp_updL (σ.2 k) i v))
def aI {β : Type} (σ : Sta) (k n : Nat) (i : Int32) (K : Int32 → Option β) : Option β := if i < 0 ∨ n ≤ i.toNatClampNeg then none else K (σ.1 k i.toNatClampNeg)
def sI {β : Type} (σ : Sta) (k n : Nat) (i v : Int32) (K : Sta → Option β) : Option β := if i < 0 ∨ n ≤ i.toNatClampNeg then none else K (up1 σ k (upd (σ.1 k) i.toNatClampNeg v))
def sZ {β : Type} (σ : Sta) (k n : Nat) (i v : Int32) (K : Sta → Option β) : Option β := if i < 0 ∨ n ≤ i.toNatClampNeg then none else K (up1 σ k (upd (σ.1 k) i.toNatClampNeg (vp_nar .boolean v)))
def aR {β : Type} (n : Nat) (i : Int32) (K : Nat → Option β) : Option β := if i < 0 ∨ n ≤ i.toNatClampNeg then none else K i.toNatClampNeg
def cA {α β : Type} (f : Option (α × Sta)) (K : α → Sta → Option β) : Option β := match f with
  | some q => K q.1 q.2
  | none => none
def cpI {β : Type} (σ : Sta) (k0 k1 n : Nat) (K : Sta → Option β) : Option β := K (up1 σ k1 (va_cpy (σ.1 k0) (σ.1 k1) 0 0 n))
def dvL {β : Type} (y : Int64) (F : Option β) : Option β := if y = 0 then none else F
def rZ (v : Int32) (σ : Sta) : Option (Int32 × Sta) := if v = 0 ∨ v = 1 then some (v, σ) else none
def tsw {β : Type} (x : Int32) (Fs : List (Option β)) (Fd : Option β) : Option β := if x.toInt < 0 ∨ (Fs.length : Int) ≤ x.toInt then Fd else Fs.getD x.toInt.toNat none
theorem cA_some {α β : Type} {f : Option (α × Sta)} {K : α → Sta → Option β} {r : β} (h : cA f K = some r) : ∃ a t, f = some (a, t) ∧ K a t = some r := by
  cases f with
  | none => cases h
  | some q => exact ⟨q.1, q.2, rfl, h⟩
section ROWS
variable {M : Mco} {w : Wco} {cc : ByteArray} {nL : Nat} {own : String} {c0 : Cond} {ret : Option FieldType} {rm : Room} {ρ : Type} {ov : ρ → Option Value} {pc : Nat} {lv : List (Nat × Value)} {st : List Value} {σ : Sta} {F F2 : Option (ρ × Sta)}
theorem sm_none : Sm M w nL ov pc lv st σ none := fun _ _ h => by cases h
theorem sm_sub (ks : List Nat) {lv' : List (Nat × Value)} (h : lv_pick lv ks = lv') (k : Sm M w nL ov pc lv' st σ F) : Sm M w nL ov pc lv st σ F :=
  fun r σ' e H locs ls hW hS hl => k r σ' e H locs ls hW hS (lv_sub hl ks h)
theorem sm_iconst (C : Cx M w cc nL own c0 ret rm) {n : Int} (v : Int32) (hd : decode cc pc = .ok (.iconst n, 1)) (hv : Int32.ofInt n = v) (k : Sm M w nL ov (pc + 1) lv (.int v :: st) σ F) : Sm M w nL ov pc lv st σ F :=
  fun r σ' e H locs ls hW hS hl => lv_iconst C.1 C.2.1 hd hv (k r σ' e H locs ls hW hS hl)
theorem sm_bipush (C : Cx M w cc nL own c0 ret rm) {n : Int} (v : Int32) (hd : decode cc pc = .ok (.bipush n, 2)) (hv : (Int8.ofInt n).toInt32 = v) (k : Sm M w nL ov (pc + 2) lv (.int v :: st) σ F) : Sm M w nL ov pc lv st σ F :=
  fun r σ' e H locs ls hW hS hl => lv_bipush C.1 C.2.1 hd hv (k r σ' e H locs ls hW hS hl)
theorem sm_sipush (C : Cx M w cc nL own c0 ret rm) {n : Int} (v : Int32) (hd : decode cc pc = .ok (.sipush n, 3)) (hv : (Int16.ofInt n).toInt32 = v) (k : Sm M w nL ov (pc + 3) lv (.int v :: st) σ F) : Sm M w nL ov pc lv st σ F :=
  fun r σ' e H locs ls hW hS hl => lv_sipush C.1 C.2.1 hd hv (k r σ' e H locs ls hW hS hl)
theorem sm_lconst (C : Cx M w cc nL own c0 ret rm) {n : Fin 2} (v : Int64) (hd : decode cc pc = .ok (.lconst n, 1)) (hv : Int64.ofNat (n : Nat) = v) (k : Sm M w nL ov (pc + 1) lv (.long v :: st) σ F) : Sm M w nL ov pc lv st σ F :=
  fun r σ' e H locs ls hW hS hl => lv_lconst C.1 C.2.1 hd hv (k r σ' e H locs ls hW hS hl)
theorem sm_ldc (C : Cx M w cc nL own c0 ret rm) {index : Nat} {v : Int32} (hk : Cond.constant own index v ∈ GT) (hd : decode cc pc = .ok (.ldc index, 2)) (k : Sm M w nL ov (pc + 2) lv (.int v :: st) σ F) : Sm M w nL ov pc lv st σ F :=
  fun r σ' e H locs ls hW hS hl => lv_ldc C.1 C.2.1 C.2.2.2.1 (C.2.2.2.2.1 _ (gtM hk)) hd (k r σ' e H locs ls hW hS hl)
theorem sm_ldcw (C : Cx M w cc nL own c0 ret rm) {index : Nat} {v : Int32} (hk : Cond.constant own index v ∈ GT) (hd : decode cc pc = .ok (.ldc_w index, 3)) (k : Sm M w nL ov (pc + 3) lv (.int v :: st) σ F) : Sm M w nL ov pc lv st σ F :=
  fun r σ' e H locs ls hW hS hl => lv_ldcw C.1 C.2.1 C.2.2.2.1 (C.2.2.2.2.1 _ (gtM hk)) hd (k r σ' e H locs ls hW hS hl)
theorem sm_ldc2 (C : Cx M w cc nL own c0 ret rm) {index : Nat} {v : Int64} (hk : Cond.constantLong own index v ∈ GT) (hd : decode cc pc = .ok (.ldc2_w index, 3)) (k : Sm M w nL ov (pc + 3) lv (.long v :: st) σ F) : Sm M w nL ov pc lv st σ F :=
  fun r σ' e H locs ls hW hS hl => lv_ldc2 C.1 C.2.1 C.2.2.2.1 (C.2.2.2.2.1 _ (gtM hk)) hd (k r σ' e H locs ls hW hS hl)
theorem sm_iload_n (C : Cx M w cc nL own c0 ret rm) (j : Nat) {k : Fin 4} {x : Int32} (hd : decode cc pc = .ok (.iload_n k, 1)) (hj : lv[j]? = some ((k : Nat), .int x)) (kk : Sm M w nL ov (pc + 1) lv (.int x :: st) σ F) : Sm M w nL ov pc lv st σ F :=
  fun r σ' e H locs ls hW hS hl => lv_iload_n C.1 C.2.1 hd rfl (lv_at hl j hj) (kk r σ' e H locs ls hW hS hl)
theorem sm_iload (C : Cx M w cc nL own c0 ret rm) (j : Nat) {i : Nat} {x : Int32} (hd : decode cc pc = .ok (.iload i, 2)) (hj : lv[j]? = some (i, .int x)) (kk : Sm M w nL ov (pc + 2) lv (.int x :: st) σ F) : Sm M w nL ov pc lv st σ F :=
  fun r σ' e H locs ls hW hS hl => lv_iload C.1 C.2.1 hd (lv_at hl j hj) (kk r σ' e H locs ls hW hS hl)
theorem sm_lload_n (C : Cx M w cc nL own c0 ret rm) (j : Nat) {k : Fin 4} {x : Int64} (hd : decode cc pc = .ok (.lload_n k, 1)) (hj : lv[j]? = some ((k : Nat), .long x)) (kk : Sm M w nL ov (pc + 1) lv (.long x :: st) σ F) : Sm M w nL ov pc lv st σ F :=
  fun r σ' e H locs ls hW hS hl => lv_lload_n C.1 C.2.1 hd rfl (lv_at hl j hj) (kk r σ' e H locs ls hW hS hl)
theorem sm_lload (C : Cx M w cc nL own c0 ret rm) (j : Nat) {i : Nat} {x : Int64} (hd : decode cc pc = .ok (.lload i, 2)) (hj : lv[j]? = some (i, .long x)) (kk : Sm M w nL ov (pc + 2) lv (.long x :: st) σ F) : Sm M w nL ov pc lv st σ F :=
  fun r σ' e H locs ls hW hS hl => lv_lload C.1 C.2.1 hd (lv_at hl j hj) (kk r σ' e H locs ls hW hS hl)
theorem sm_aload_n (C : Cx M w cc nL own c0 ret rm) (j : Nat) {k : Fin 4} {x : Nat} (hd : decode cc pc = .ok (.aload_n k, 1)) (hj : lv[j]? = some ((k : Nat), .ref x)) (kk : Sm M w nL ov (pc + 1) lv (.ref x :: st) σ F) : Sm M w nL ov pc lv st σ F :=
  fun r σ' e H locs ls hW hS hl => lv_aload_n C.1 C.2.1 hd rfl (lv_at hl j hj) (kk r σ' e H locs ls hW hS hl)
theorem sm_aload (C : Cx M w cc nL own c0 ret rm) (j : Nat) {i : Nat} {x : Nat} (hd : decode cc pc = .ok (.aload i, 2)) (hj : lv[j]? = some (i, .ref x)) (kk : Sm M w nL ov (pc + 2) lv (.ref x :: st) σ F) : Sm M w nL ov pc lv st σ F :=
  fun r σ' e H locs ls hW hS hl => lv_aload C.1 C.2.1 hd (lv_at hl j hj) (kk r σ' e H locs ls hW hS hl)
theorem sm_istore_n (C : Cx M w cc nL own c0 ret rm) (lv' : List (Nat × Value)) {k : Fin 4} {x : Int32} (hd : decode cc pc = .ok (.istore_n k, 1)) (hn : (k : Nat) < nL) (hl' : ((k : Nat), Value.int x) :: lv.filter (fun q => !(q.1 == (k : Nat)) && !(q.1 + 1 == (k : Nat) && q.2.category == 2)) = lv') (kk : Sm M w nL ov (pc + 1) lv' st σ F) : Sm M w nL ov pc lv (.int x :: st) σ F :=
  fun r σ' e H locs ls hW hS hl => lv_istore_n C.1 C.2.1 hd rfl hl hn hl' (fun ls hl => kk r σ' e H locs ls hW hS hl)
theorem sm_istore (C : Cx M w cc nL own c0 ret rm) (lv' : List (Nat × Value)) {i : Nat} {x : Int32} (hd : decode cc pc = .ok (.istore i, 2)) (hn : i < nL) (hl' : (i, Value.int x) :: lv.filter (fun q => !(q.1 == i) && !(q.1 + 1 == i && q.2.category == 2)) = lv') (kk : Sm M w nL ov (pc + 2) lv' st σ F) : Sm M w nL ov pc lv (.int x :: st) σ F :=
  fun r σ' e H locs ls hW hS hl => lv_istore C.1 C.2.1 hd hl hn hl' (fun ls hl => kk r σ' e H locs ls hW hS hl)
theorem sm_lstore_n (C : Cx M w cc nL own c0 ret rm) (lv' : List (Nat × Value)) {k : Fin 4} {x : Int64} (hd : decode cc pc = .ok (.lstore_n k, 1)) (hn : (k : Nat) + 1 < nL) (hl' : ((k : Nat), Value.long x) :: lv.filter (fun q => !(q.1 == (k : Nat)) && (!(q.1 == (k : Nat) + 1) && !(q.1 + 1 == (k : Nat) && q.2.category == 2))) = lv') (kk : Sm M w nL ov (pc + 1) lv' st σ F) : Sm M w nL ov pc lv (.long x :: st) σ F :=
  fun r σ' e H locs ls hW hS hl => lv_lstore_n C.1 C.2.1 hd rfl hl hn hl' (fun ls hl => kk r σ' e H locs ls hW hS hl)
theorem sm_lstore (C : Cx M w cc nL own c0 ret rm) (lv' : List (Nat × Value)) {i : Nat} {x : Int64} (hd : decode cc pc = .ok (.lstore i, 2)) (hn : i + 1 < nL) (hl' : (i, Value.long x) :: lv.filter (fun q => !(q.1 == i) && (!(q.1 == i + 1) && !(q.1 + 1 == i && q.2.category == 2))) = lv') (kk : Sm M w nL ov (pc + 2) lv' st σ F) : Sm M w nL ov pc lv (.long x :: st) σ F :=
  fun r σ' e H locs ls hW hS hl => lv_lstore C.1 C.2.1 hd hl hn hl' (fun ls hl => kk r σ' e H locs ls hW hS hl)
theorem sm_astore_n (C : Cx M w cc nL own c0 ret rm) (lv' : List (Nat × Value)) {k : Fin 4} {x : Nat} (hd : decode cc pc = .ok (.astore_n k, 1)) (hn : (k : Nat) < nL) (hl' : ((k : Nat), Value.ref x) :: lv.filter (fun q => !(q.1 == (k : Nat)) && !(q.1 + 1 == (k : Nat) && q.2.category == 2)) = lv') (kk : Sm M w nL ov (pc + 1) lv' st σ F) : Sm M w nL ov pc lv (.ref x :: st) σ F :=
  fun r σ' e H locs ls hW hS hl => lv_astore_n C.1 C.2.1 hd rfl hl hn hl' (fun ls hl => kk r σ' e H locs ls hW hS hl)
theorem sm_astore (C : Cx M w cc nL own c0 ret rm) (lv' : List (Nat × Value)) {i : Nat} {x : Nat} (hd : decode cc pc = .ok (.astore i, 2)) (hn : i < nL) (hl' : (i, Value.ref x) :: lv.filter (fun q => !(q.1 == i) && !(q.1 + 1 == i && q.2.category == 2)) = lv') (kk : Sm M w nL ov (pc + 2) lv' st σ F) : Sm M w nL ov pc lv (.ref x :: st) σ F :=
  fun r σ' e H locs ls hW hS hl => lv_astore C.1 C.2.1 hd hl hn hl' (fun ls hl => kk r σ' e H locs ls hW hS hl)
theorem sm_iinc (C : Cx M w cc nL own c0 ret rm) (j : Nat) (v : Int32) (lv' : List (Nat × Value)) {i : Nat} {n : Int} {x : Int32} (hd : decode cc pc = .ok (.iinc i n, 3)) (hj : lv[j]? = some (i, .int x)) (hv : x + Int32.ofInt n = v) (hn : i < nL) (hl' : (i, Value.int v) :: lv.filter (fun q => !(q.1 == i) && !(q.1 + 1 == i && q.2.category == 2)) = lv') (kk : Sm M w nL ov (pc + 3) lv' st σ F) : Sm M w nL ov pc lv st σ F :=
  fun r σ' e H locs ls hW hS hl => lv_iinc C.1 C.2.1 hd hl hj hv hn hl' (fun ls hl => kk r σ' e H locs ls hW hS hl)
-- ==GEN==
theorem sm_iadd (C : Cx M w cc nL own c0 ret rm) {x y : Int32} (hd : decode cc pc = .ok (.iadd, 1)) (k : Sm M w nL ov (pc + 1) lv (.int (x + y) :: st) σ F) : Sm M w nL ov pc lv (.int y :: .int x :: st) σ F :=
  fun r σ' e H locs ls hW hS hl => lv_iadd C.1 C.2.1 hd (k r σ' e H locs ls hW hS hl)
theorem sm_isub (C : Cx M w cc nL own c0 ret rm) {x y : Int32} (hd : decode cc pc = .ok (.isub, 1)) (k : Sm M w nL ov (pc + 1) lv (.int (x - y) :: st) σ F) : Sm M w nL ov pc lv (.int y :: .int x :: st) σ F :=
  fun r σ' e H locs ls hW hS hl => lv_isub C.1 C.2.1 hd (k r σ' e H locs ls hW hS hl)
theorem sm_imul (C : Cx M w cc nL own c0 ret rm) {x y : Int32} (hd : decode cc pc = .ok (.imul, 1)) (k : Sm M w nL ov (pc + 1) lv (.int (x * y) :: st) σ F) : Sm M w nL ov pc lv (.int y :: .int x :: st) σ F :=
  fun r σ' e H locs ls hW hS hl => lv_imul C.1 C.2.1 hd (k r σ' e H locs ls hW hS hl)
theorem sm_iand (C : Cx M w cc nL own c0 ret rm) {x y : Int32} (hd : decode cc pc = .ok (.iand, 1)) (k : Sm M w nL ov (pc + 1) lv (.int (x &&& y) :: st) σ F) : Sm M w nL ov pc lv (.int y :: .int x :: st) σ F :=
  fun r σ' e H locs ls hW hS hl => lv_iand C.1 C.2.1 hd (k r σ' e H locs ls hW hS hl)
theorem sm_ior (C : Cx M w cc nL own c0 ret rm) {x y : Int32} (hd : decode cc pc = .ok (.ior, 1)) (k : Sm M w nL ov (pc + 1) lv (.int (x ||| y) :: st) σ F) : Sm M w nL ov pc lv (.int y :: .int x :: st) σ F :=
  fun r σ' e H locs ls hW hS hl => lv_ior C.1 C.2.1 hd (k r σ' e H locs ls hW hS hl)
theorem sm_ixor (C : Cx M w cc nL own c0 ret rm) {x y : Int32} (hd : decode cc pc = .ok (.ixor, 1)) (k : Sm M w nL ov (pc + 1) lv (.int (x ^^^ y) :: st) σ F) : Sm M w nL ov pc lv (.int y :: .int x :: st) σ F :=
  fun r σ' e H locs ls hW hS hl => lv_ixor C.1 C.2.1 hd (k r σ' e H locs ls hW hS hl)
theorem sm_ishl (C : Cx M w cc nL own c0 ret rm) {x y : Int32} (hd : decode cc pc = .ok (.ishl, 1)) (k : Sm M w nL ov (pc + 1) lv (.int (x <<< (y &&& 31)) :: st) σ F) : Sm M w nL ov pc lv (.int y :: .int x :: st) σ F :=
  fun r σ' e H locs ls hW hS hl => lv_ishl C.1 C.2.1 hd (k r σ' e H locs ls hW hS hl)
theorem sm_ishr (C : Cx M w cc nL own c0 ret rm) {x y : Int32} (hd : decode cc pc = .ok (.ishr, 1)) (k : Sm M w nL ov (pc + 1) lv (.int (x >>> (y &&& 31)) :: st) σ F) : Sm M w nL ov pc lv (.int y :: .int x :: st) σ F :=
  fun r σ' e H locs ls hW hS hl => lv_ishr C.1 C.2.1 hd (k r σ' e H locs ls hW hS hl)
theorem sm_idiv (C : Cx M w cc nL own c0 ret rm) {x y : Int32} (hd : decode cc pc = .ok (.idiv, 1)) (hne : ¬ y = 0) (k : Sm M w nL ov (pc + 1) lv (.int (x / y) :: st) σ F) : Sm M w nL ov pc lv (.int y :: .int x :: st) σ F :=
  fun r σ' e H locs ls hW hS hl => lv_idiv C.1 C.2.1 hd hne (k r σ' e H locs ls hW hS hl)
theorem sm_irem (C : Cx M w cc nL own c0 ret rm) {x y : Int32} (hd : decode cc pc = .ok (.irem, 1)) (hne : ¬ y = 0) (k : Sm M w nL ov (pc + 1) lv (.int (x - x / y * y) :: st) σ F) : Sm M w nL ov pc lv (.int y :: .int x :: st) σ F :=
  fun r σ' e H locs ls hW hS hl => lv_irem C.1 C.2.1 hd hne (k r σ' e H locs ls hW hS hl)
theorem sm_ineg (C : Cx M w cc nL own c0 ret rm) {x : Int32} (hd : decode cc pc = .ok (.ineg, 1)) (k : Sm M w nL ov (pc + 1) lv (.int (-x) :: st) σ F) : Sm M w nL ov pc lv (.int x :: st) σ F :=
  fun r σ' e H locs ls hW hS hl => lv_ineg C.1 C.2.1 hd (k r σ' e H locs ls hW hS hl)
theorem sm_iushr (C : Cx M w cc nL own c0 ret rm) {x y : Int32} (hd : decode cc pc = .ok (.iushr, 1)) (k : Sm M w nL ov (pc + 1) lv (.int ((x.toUInt32 >>> (y.toUInt32 &&& Int32.toUInt32 31)).toInt32) :: st) σ F) : Sm M w nL ov pc lv (.int y :: .int x :: st) σ F :=
  fun r σ' e H locs ls hW hS hl => lv_iushr C.1 C.2.1 hd rfl (k r σ' e H locs ls hW hS hl)
theorem sm_ladd (C : Cx M w cc nL own c0 ret rm) {x y : Int64} (hd : decode cc pc = .ok (.ladd, 1)) (k : Sm M w nL ov (pc + 1) lv (.long (x + y) :: st) σ F) : Sm M w nL ov pc lv (.long y :: .long x :: st) σ F :=
  fun r σ' e H locs ls hW hS hl => lv_ladd C.1 C.2.1 hd (k r σ' e H locs ls hW hS hl)
theorem sm_lmul (C : Cx M w cc nL own c0 ret rm) {x y : Int64} (hd : decode cc pc = .ok (.lmul, 1)) (k : Sm M w nL ov (pc + 1) lv (.long (x * y) :: st) σ F) : Sm M w nL ov pc lv (.long y :: .long x :: st) σ F :=
  fun r σ' e H locs ls hW hS hl => lv_lmul C.1 C.2.1 hd (k r σ' e H locs ls hW hS hl)
theorem sm_ldiv (C : Cx M w cc nL own c0 ret rm) {x y : Int64} (hd : decode cc pc = .ok (.ldiv, 1)) (hne : ¬ y = 0) (k : Sm M w nL ov (pc + 1) lv (.long (x / y) :: st) σ F) : Sm M w nL ov pc lv (.long y :: .long x :: st) σ F :=
  fun r σ' e H locs ls hW hS hl => lv_ldiv C.1 C.2.1 hd hne (k r σ' e H locs ls hW hS hl)
theorem sm_ldivG (C : Cx M w cc nL own c0 ret rm) {x y : Int64} (hd : decode cc pc = .ok (.ldiv, 1)) (k : Sm M w nL ov (pc + 1) lv (.long (x / y) :: st) σ F) : Sm M w nL ov pc lv (.long y :: .long x :: st) σ (dvL y F) := by
  intro r σ' e H locs ls hW hS hl
  by_cases hy : y = 0
  · rw [dvL, if_pos hy] at e
    cases e
  · rw [dvL, if_neg hy] at e
    exact lv_ldiv C.1 C.2.1 hd hy (k r σ' e H locs ls hW hS hl)
theorem sm_lrem (C : Cx M w cc nL own c0 ret rm) {x y : Int64} (hd : decode cc pc = .ok (.lrem, 1)) (hne : ¬ y = 0) (k : Sm M w nL ov (pc + 1) lv (.long (x - x / y * y) :: st) σ F) : Sm M w nL ov pc lv (.long y :: .long x :: st) σ F :=
  fun r σ' e H locs ls hW hS hl => lv_lrem C.1 C.2.1 hd hne (k r σ' e H locs ls hW hS hl)
theorem sm_lremG (C : Cx M w cc nL own c0 ret rm) {x y : Int64} (hd : decode cc pc = .ok (.lrem, 1)) (k : Sm M w nL ov (pc + 1) lv (.long (x - x / y * y) :: st) σ F) : Sm M w nL ov pc lv (.long y :: .long x :: st) σ (dvL y F) := by
  intro r σ' e H locs ls hW hS hl
  by_cases hy : y = 0
  · rw [dvL, if_pos hy] at e
    cases e
  · rw [dvL, if_neg hy] at e
    exact lv_lrem C.1 C.2.1 hd hy (k r σ' e H locs ls hW hS hl)
theorem sm_i2l (C : Cx M w cc nL own c0 ret rm) {x : Int32} (hd : decode cc pc = .ok (.i2l, 1)) (k : Sm M w nL ov (pc + 1) lv (.long x.toInt64 :: st) σ F) : Sm M w nL ov pc lv (.int x :: st) σ F :=
  fun r σ' e H locs ls hW hS hl => lv_i2l C.1 C.2.1 hd rfl (k r σ' e H locs ls hW hS hl)
theorem sm_l2i (C : Cx M w cc nL own c0 ret rm) {x : Int64} (hd : decode cc pc = .ok (.l2i, 1)) (k : Sm M w nL ov (pc + 1) lv (.int x.toInt32 :: st) σ F) : Sm M w nL ov pc lv (.long x :: st) σ F :=
  fun r σ' e H locs ls hW hS hl => lv_l2i C.1 C.2.1 hd rfl (k r σ' e H locs ls hW hS hl)
theorem sm_lcmp (C : Cx M w cc nL own c0 ret rm) {x y : Int64} (hd : decode cc pc = .ok (.lcmp, 1)) (k : Sm M w nL ov (pc + 1) lv (.int (lg_cmp x y) :: st) σ F) : Sm M w nL ov pc lv (.long y :: .long x :: st) σ F :=
  fun r σ' e H locs ls hW hS hl => W.lcmp C.1 C.2.1 hd (k r σ' e H locs ls hW hS hl)
theorem sm_dup (C : Cx M w cc nL own c0 ret rm) {v : Value} (hd : decode cc pc = .ok (.dup, 1)) (hc : v.category = 1) (k : Sm M w nL ov (pc + 1) lv (v :: v :: st) σ F) : Sm M w nL ov pc lv (v :: st) σ F :=
  fun r σ' e H locs ls hW hS hl => lv_dup C.1 C.2.1 hd hc (k r σ' e H locs ls hW hS hl)
theorem sm_pop (C : Cx M w cc nL own c0 ret rm) {v : Value} (hd : decode cc pc = .ok (.pop, 1)) (hc : v.category = 1) (k : Sm M w nL ov (pc + 1) lv (st) σ F) : Sm M w nL ov pc lv (v :: st) σ F :=
  fun r σ' e H locs ls hW hS hl => lv_pop C.1 C.2.1 hd hc (k r σ' e H locs ls hW hS hl)
theorem sm_dup2 (C : Cx M w cc nL own c0 ret rm) {v u : Value} (hd : decode cc pc = .ok (.dup2, 1)) (hc : v.category = 1) (hu : u.category = 1) (k : Sm M w nL ov (pc + 1) lv (v :: u :: v :: u :: st) σ F) : Sm M w nL ov pc lv (v :: u :: st) σ F :=
  fun r σ' e H locs ls hW hS hl => lv_dup2_11 C.1 C.2.1 hd hc hu (k r σ' e H locs ls hW hS hl)
theorem sm_goto (C : Cx M w cc nL own c0 ret rm) {off : Int} (tgt : Nat) (hd : decode cc pc = .ok (.goto off, 3)) (ht : (pc : Int) + off = (tgt : Int)) (k : Sm M w nL ov tgt lv st σ F) : Sm M w nL ov pc lv st σ F :=
  fun r σ' e H locs ls hW hS hl => lv_goto C.1 C.2.1 hd ht (k r σ' e H locs ls hW hS hl)
theorem sm_icmp_eq (C : Cx M w cc nL own c0 ret rm) {x y : Int32} {off : Int} (tgt : Nat) (hd : decode cc pc = .ok (.if_icmp .eq off, 3)) (ht : (pc : Int) + off = (tgt : Int)) (kt : Sm M w nL ov tgt lv st σ F) (kf : Sm M w nL ov (pc + 3) lv st σ F2) : Sm M w nL ov pc lv (.int y :: .int x :: st) σ (if x = y then F else F2) := by
  intro r σ' e H locs ls hW hS hl
  refine lv_icmp_eq C.1 C.2.1 hd ht (fun c => kt r σ' ?_ H locs ls hW hS hl) (fun c => kf r σ' ?_ H locs ls hW hS hl)
  · rw [if_pos c] at e; exact e
  · rw [if_neg c] at e; exact e
theorem sm_if_eq (C : Cx M w cc nL own c0 ret rm) {x : Int32} {off : Int} (tgt : Nat) (hd : decode cc pc = .ok (.ifCond .eq off, 3)) (ht : (pc : Int) + off = (tgt : Int)) (kt : Sm M w nL ov tgt lv st σ F) (kf : Sm M w nL ov (pc + 3) lv st σ F2) : Sm M w nL ov pc lv (.int x :: st) σ (if x = 0 then F else F2) := by
  intro r σ' e H locs ls hW hS hl
  refine lv_if_eq C.1 C.2.1 hd ht (fun c => kt r σ' ?_ H locs ls hW hS hl) (fun c => kf r σ' ?_ H locs ls hW hS hl)
  · rw [if_pos c] at e; exact e
  · rw [if_neg c] at e; exact e
theorem sm_icmp_ne (C : Cx M w cc nL own c0 ret rm) {x y : Int32} {off : Int} (tgt : Nat) (hd : decode cc pc = .ok (.if_icmp .ne off, 3)) (ht : (pc : Int) + off = (tgt : Int)) (kt : Sm M w nL ov tgt lv st σ F) (kf : Sm M w nL ov (pc + 3) lv st σ F2) : Sm M w nL ov pc lv (.int y :: .int x :: st) σ (if x = y then F2 else F) := by
  intro r σ' e H locs ls hW hS hl
  refine lv_icmp_ne C.1 C.2.1 hd ht (fun c => kt r σ' ?_ H locs ls hW hS hl) (fun c => kf r σ' ?_ H locs ls hW hS hl)
  · rw [if_neg c] at e; exact e
  · rw [if_pos c] at e; exact e
theorem sm_if_ne (C : Cx M w cc nL own c0 ret rm) {x : Int32} {off : Int} (tgt : Nat) (hd : decode cc pc = .ok (.ifCond .ne off, 3)) (ht : (pc : Int) + off = (tgt : Int)) (kt : Sm M w nL ov tgt lv st σ F) (kf : Sm M w nL ov (pc + 3) lv st σ F2) : Sm M w nL ov pc lv (.int x :: st) σ (if x = 0 then F2 else F) := by
  intro r σ' e H locs ls hW hS hl
  refine lv_if_ne C.1 C.2.1 hd ht (fun c => kt r σ' ?_ H locs ls hW hS hl) (fun c => kf r σ' ?_ H locs ls hW hS hl)
  · rw [if_neg c] at e; exact e
  · rw [if_pos c] at e; exact e
theorem sm_icmp_lt (C : Cx M w cc nL own c0 ret rm) {x y : Int32} {off : Int} (tgt : Nat) (hd : decode cc pc = .ok (.if_icmp .lt off, 3)) (ht : (pc : Int) + off = (tgt : Int)) (kt : Sm M w nL ov tgt lv st σ F) (kf : Sm M w nL ov (pc + 3) lv st σ F2) : Sm M w nL ov pc lv (.int y :: .int x :: st) σ (if x < y then F else F2) := by
  intro r σ' e H locs ls hW hS hl
  refine lv_icmp_lt C.1 C.2.1 hd ht (fun c => kt r σ' ?_ H locs ls hW hS hl) (fun c => kf r σ' ?_ H locs ls hW hS hl)
  · rw [if_pos c] at e; exact e
  · rw [if_neg c] at e; exact e
theorem sm_if_lt (C : Cx M w cc nL own c0 ret rm) {x : Int32} {off : Int} (tgt : Nat) (hd : decode cc pc = .ok (.ifCond .lt off, 3)) (ht : (pc : Int) + off = (tgt : Int)) (kt : Sm M w nL ov tgt lv st σ F) (kf : Sm M w nL ov (pc + 3) lv st σ F2) : Sm M w nL ov pc lv (.int x :: st) σ (if x < 0 then F else F2) := by
  intro r σ' e H locs ls hW hS hl
  refine lv_if_lt C.1 C.2.1 hd ht (fun c => kt r σ' ?_ H locs ls hW hS hl) (fun c => kf r σ' ?_ H locs ls hW hS hl)
  · rw [if_pos c] at e; exact e
  · rw [if_neg c] at e; exact e
theorem sm_icmp_ge (C : Cx M w cc nL own c0 ret rm) {x y : Int32} {off : Int} (tgt : Nat) (hd : decode cc pc = .ok (.if_icmp .ge off, 3)) (ht : (pc : Int) + off = (tgt : Int)) (kt : Sm M w nL ov tgt lv st σ F) (kf : Sm M w nL ov (pc + 3) lv st σ F2) : Sm M w nL ov pc lv (.int y :: .int x :: st) σ (if x < y then F2 else F) := by
  intro r σ' e H locs ls hW hS hl
  refine lv_icmp_ge C.1 C.2.1 hd ht (fun c => kt r σ' ?_ H locs ls hW hS hl) (fun c => kf r σ' ?_ H locs ls hW hS hl)
  · rw [if_neg (Int32.not_lt.mpr c)] at e; exact e
  · rw [if_pos (Int32.not_le.mp c)] at e; exact e
theorem sm_if_ge (C : Cx M w cc nL own c0 ret rm) {x : Int32} {off : Int} (tgt : Nat) (hd : decode cc pc = .ok (.ifCond .ge off, 3)) (ht : (pc : Int) + off = (tgt : Int)) (kt : Sm M w nL ov tgt lv st σ F) (kf : Sm M w nL ov (pc + 3) lv st σ F2) : Sm M w nL ov pc lv (.int x :: st) σ (if x < 0 then F2 else F) := by
  intro r σ' e H locs ls hW hS hl
  refine lv_if_ge C.1 C.2.1 hd ht (fun c => kt r σ' ?_ H locs ls hW hS hl) (fun c => kf r σ' ?_ H locs ls hW hS hl)
  · rw [if_neg (Int32.not_lt.mpr c)] at e; exact e
  · rw [if_pos (Int32.not_le.mp c)] at e; exact e
theorem sm_icmp_gt (C : Cx M w cc nL own c0 ret rm) {x y : Int32} {off : Int} (tgt : Nat) (hd : decode cc pc = .ok (.if_icmp .gt off, 3)) (ht : (pc : Int) + off = (tgt : Int)) (kt : Sm M w nL ov tgt lv st σ F) (kf : Sm M w nL ov (pc + 3) lv st σ F2) : Sm M w nL ov pc lv (.int y :: .int x :: st) σ (if y < x then F else F2) := by
  intro r σ' e H locs ls hW hS hl
  refine lv_icmp_gt C.1 C.2.1 hd ht (fun c => kt r σ' ?_ H locs ls hW hS hl) (fun c => kf r σ' ?_ H locs ls hW hS hl)
  · rw [if_pos c] at e; exact e
  · rw [if_neg c] at e; exact e
theorem sm_if_gt (C : Cx M w cc nL own c0 ret rm) {x : Int32} {off : Int} (tgt : Nat) (hd : decode cc pc = .ok (.ifCond .gt off, 3)) (ht : (pc : Int) + off = (tgt : Int)) (kt : Sm M w nL ov tgt lv st σ F) (kf : Sm M w nL ov (pc + 3) lv st σ F2) : Sm M w nL ov pc lv (.int x :: st) σ (if 0 < x then F else F2) := by
  intro r σ' e H locs ls hW hS hl
  refine lv_if_gt C.1 C.2.1 hd ht (fun c => kt r σ' ?_ H locs ls hW hS hl) (fun c => kf r σ' ?_ H locs ls hW hS hl)
  · rw [if_pos c] at e; exact e
  · rw [if_neg c] at e; exact e
theorem sm_icmp_le (C : Cx M w cc nL own c0 ret rm) {x y : Int32} {off : Int} (tgt : Nat) (hd : decode cc pc = .ok (.if_icmp .le off, 3)) (ht : (pc : Int) + off = (tgt : Int)) (kt : Sm M w nL ov tgt lv st σ F) (kf : Sm M w nL ov (pc + 3) lv st σ F2) : Sm M w nL ov pc lv (.int y :: .int x :: st) σ (if y < x then F2 else F) := by
  intro r σ' e H locs ls hW hS hl
  refine lv_icmp_le C.1 C.2.1 hd ht (fun c => kt r σ' ?_ H locs ls hW hS hl) (fun c => kf r σ' ?_ H locs ls hW hS hl)
  · rw [if_neg (Int32.not_lt.mpr c)] at e; exact e
  · rw [if_pos (Int32.not_le.mp c)] at e; exact e
theorem sm_if_le (C : Cx M w cc nL own c0 ret rm) {x : Int32} {off : Int} (tgt : Nat) (hd : decode cc pc = .ok (.ifCond .le off, 3)) (ht : (pc : Int) + off = (tgt : Int)) (kt : Sm M w nL ov tgt lv st σ F) (kf : Sm M w nL ov (pc + 3) lv st σ F2) : Sm M w nL ov pc lv (.int x :: st) σ (if 0 < x then F2 else F) := by
  intro r σ' e H locs ls hW hS hl
  refine lv_if_le C.1 C.2.1 hd ht (fun c => kt r σ' ?_ H locs ls hW hS hl) (fun c => kf r σ' ?_ H locs ls hW hS hl)
  · rw [if_neg (Int32.not_lt.mpr c)] at e; exact e
  · rw [if_pos (Int32.not_le.mp c)] at e; exact e
theorem sm_table (C : Cx M w cc nL own c0 ret rm) {dflt hi : Int} {offs : Array Int} {len : Nat} {x : Int32} (tgt : Nat) {Fs : List (Option (ρ × Sta))} (hd : decode cc pc = .ok (.tableswitch dflt 0 hi offs, len)) (hlen : (Fs.length : Int) = hi + 1) (ht : (pc : Int) + dflt = (tgt : Int))
    (ks : ∀ j, j < Fs.length → ∃ (off : Int) (tg : Nat), offs[j]? = some off ∧ (pc : Int) + off = (tg : Int) ∧ Sm M w nL ov tg lv st σ (Fs.getD j none)) (kd : Sm M w nL ov tgt lv st σ F) : Sm M w nL ov pc lv (.int x :: st) σ (tsw x Fs F) := by
  intro r σ' e H locs ls hW hS hl
  by_cases hx : x.toInt < 0 ∨ (Fs.length : Int) ≤ x.toInt
  · rw [tsw, if_pos hx] at e
    exact lv_tableOut C.1 C.2.1 hd (by omega) ht (kd r σ' e H locs ls hW hS hl)
  · rw [tsw, if_neg hx] at e
    obtain ⟨off, tg, h1, h2, h3⟩ := ks x.toInt.toNat (by omega)
    exact lv_tableIn C.1 C.2.1 hd (by omega) (by omega) (off := off) (tgt := tg) (by rw [Int.sub_zero]; exact h1) h2 (h3 r σ' e H locs ls hW hS hl)
theorem sm_fin {H : Heap} {locs : List Loc} {o : Option Value} (C : Cx M w cc nL own c0 ret rm) (hW : Wd w σ H) (hS : va_S (wA w) (mS M).heap H locs) (t : State) (ht : t.heap = H) : Rt w o σ (mA M) (mS M) (.returned o) t := ⟨⟨rfl, by rw [ht]; exact hW⟩, hS.F ht⟩
theorem sm_iret (C : Cx M w cc nL own c0 (some .int) rm) {x : Int32} (hd : decode cc pc = .ok (.ireturn, 1)) : Sm M w nL oI pc lv [.int x] σ (some (x, σ)) := by
  intro r σ' e H locs ls hW hS hl
  cases e
  exact W.iret C.1 C.2.1 C.2.2.2.2.2.2.2.1 (fun t ht _ => sm_fin C hW hS t ht) hS.2.2 hd C.2.2.2.2.2.2.1
theorem sm_zret (C : Cx M w cc nL own c0 (some .boolean) rm) {x : Int32} (hd : decode cc pc = .ok (.ireturn, 1)) : Sm M w nL oI pc lv [.int x] σ (rZ x σ) := by
  intro r σ' e H locs ls hW hS hl
  by_cases hx : x = 0 ∨ x = 1
  · rw [rZ, if_pos hx] at e
    cases e
    exact W.zret (ty := .boolean) C.1 C.2.1 C.2.2.2.2.2.2.2.1 (by rcases hx with rfl | rfl <;> decide) (fun t ht _ => sm_fin C hW hS t ht) hS.2.2 hd C.2.2.2.2.2.2.1
  · rw [rZ, if_neg hx] at e
    cases e
theorem sm_lret (C : Cx M w cc nL own c0 (some .long) rm) {x : Int64} (hd : decode cc pc = .ok (.lreturn, 1)) : Sm M w nL oL pc lv [.long x] σ (some (x, σ)) := by
  intro r σ' e H locs ls hW hS hl
  cases e
  exact W.lret C.1 C.2.1 C.2.2.2.2.2.2.2.1 (fun t ht _ => sm_fin C hW hS t ht) hS.2.2 hd C.2.2.2.2.2.2.1
theorem sm_vret (C : Cx M w cc nL own c0 none rm) (hd : decode cc pc = .ok (.return_, 1)) : Sm M w nL oV pc lv [] σ (some ((), σ)) := by
  intro r σ' e H locs ls hW hS hl
  cases e
  exact W.vret C.1 C.2.1 C.2.2.2.2.2.2.2.1 (fun t ht _ => sm_fin C hW hS t ht) hS.2.2 hd C.2.2.2.2.2.2.1
theorem sm_getI (C : Cx M w cc nL own c0 ret rm) {R : String} {T : u_T} {N ci index j kk : Nat} {fs : (Nat → Int32) → (Nat → Int64) → List Value} {K : Int32 → Option (ρ × Sta)} (hs : ∀ f g, wsh w kk f g = .inr (ci, fs f g)) (hk : kk < wnn w) (hc : cls[ci]? = some (R, T, N)) (hg : ∀ x ∈ u_ws R T N, x ∈ GT) (hj : j < N) (hlink : Cond.fieldLink own index (T j).1 (T j).2.1 (T j).2.2.1 ∈ GT) (hd : decode cc pc = .ok (.getfield index, 3)) (hf : ∀ f g, (fs f g)[j]? = some (.int (f j))) (k : ∀ v, Sm M w nL ov (pc + 3) lv (.int v :: st) σ (K v)) : Sm M w nL ov pc lv (.ref (wad w kk) :: st) σ (fI σ kk j K) := by
  intro r σ' e H locs ls hW hS hl
  exact va_get (C := R) (T := T) (N := N) (ci := ci) (v := .int (σ.1 kk j)) C.1 C.2.1 C.2.2.2.2.1 (fun x hx => gtM (hg x hx)) C.2.2.2.1 C.2.2.2.2.2.1.1 hW.1 kk (fs := fs (σ.1 kk) (σ.2 kk)) (by rw [wl_at hk, hs]) hc j hj (C.2.2.2.2.1 _ (gtM hlink)) (fun _ h9 => h9) (hf _ _) hd (k _ r σ' e H locs ls hW hS hl)
theorem sm_getL (C : Cx M w cc nL own c0 ret rm) {R : String} {T : u_T} {N ci index j kk : Nat} {fs : (Nat → Int32) → (Nat → Int64) → List Value} {K : Int64 → Option (ρ × Sta)} (hs : ∀ f g, wsh w kk f g = .inr (ci, fs f g)) (hk : kk < wnn w) (hc : cls[ci]? = some (R, T, N)) (hg : ∀ x ∈ u_ws R T N, x ∈ GT) (hj : j < N) (hlink : Cond.fieldLink own index (T j).1 (T j).2.1 (T j).2.2.1 ∈ GT) (hd : decode cc pc = .ok (.getfield index, 3)) (hf : ∀ f g, (fs f g)[j]? = some (.long (g j))) (k : ∀ v, Sm M w nL ov (pc + 3) lv (.long v :: st) σ (K v)) : Sm M w nL ov pc lv (.ref (wad w kk) :: st) σ (fL σ kk j K) := by
  intro r σ' e H locs ls hW hS hl
  exact va_get (C := R) (T := T) (N := N) (ci := ci) (v := .long (σ.2 kk j)) C.1 C.2.1 C.2.2.2.2.1 (fun x hx => gtM (hg x hx)) C.2.2.2.1 C.2.2.2.2.2.1.1 hW.1 kk (fs := fs (σ.1 kk) (σ.2 kk)) (by rw [wl_at hk, hs]) hc j hj (C.2.2.2.2.1 _ (gtM hlink)) (fun _ h9 => h9) (hf _ _) hd (k _ r σ' e H locs ls hW hS hl)
theorem sm_getR (C : Cx M w cc nL own c0 ret rm) {R : String} {T : u_T} {N ci index j kk d : Nat} {fs : (Nat → Int32) → (Nat → Int64) → List Value} (hs : ∀ f g, wsh w kk f g = .inr (ci, fs f g)) (hk : kk < wnn w) (hc : cls[ci]? = some (R, T, N)) (hg : ∀ x ∈ u_ws R T N, x ∈ GT) (hj : j < N) (hlink : Cond.fieldLink own index (T j).1 (T j).2.1 (T j).2.2.1 ∈ GT) (hd : decode cc pc = .ok (.getfield index, 3)) (hf : ∀ f g, (fs f g)[j]? = some (.ref (wad w d))) (k : Sm M w nL ov (pc + 3) lv (.ref (wad w d) :: st) σ F) : Sm M w nL ov pc lv (.ref (wad w kk) :: st) σ F := by
  intro r σ' e H locs ls hW hS hl
  exact va_get (C := R) (T := T) (N := N) (ci := ci) (v := .ref (wad w d)) C.1 C.2.1 C.2.2.2.2.1 (fun x hx => gtM (hg x hx)) C.2.2.2.1 C.2.2.2.2.2.1.1 hW.1 kk (fs := fs (σ.1 kk) (σ.2 kk)) (by rw [wl_at hk, hs]) hc j hj (C.2.2.2.2.1 _ (gtM hlink)) (fun _ h9 => h9) (hf _ _) hd (k r σ' e H locs ls hW hS hl)
theorem sm_putI (C : Cx M w cc nL own c0 ret rm) {R : String} {T : u_T} {N ci index j kk : Nat} {fs : (Nat → Int32) → (Nat → Int64) → List Value} {v : Int32} {K : Sta → Option (ρ × Sta)} (hs : ∀ f g, wsh w kk f g = .inr (ci, fs f g)) (hk : kk < wnn w) (hc : cls[ci]? = some (R, T, N)) (hg : ∀ x ∈ u_ws R T N, x ∈ GT) (ty0 : Nat → FieldType) (hty : ∀ k, k < N → parseFieldDescriptor (T k).2.2.1 = some (ty0 k)) (hnm : ∀ a, a < N → ∀ b, b < N → a ≠ b → (T a).2.1 ≠ (T b).2.1) (hj : j < N) (hlink : Cond.fieldLink own index (T j).1 (T j).2.1 (T j).2.2.1 ∈ GT) (hfin : (T j).2.2.2 = false) (hdesc : parseFieldDescriptor (T j).2.2.1 = some .int) (hd : decode cc pc = .ok (.putfield index, 3)) (hl0 : ∀ f g, j < (fs f g).length) (hset : ∀ f g v, (fs f g).set j (.int v) = fs (upd f j v) g) (k : ∀ σ1, Sm M w nL ov (pc + 3) lv st σ1 (K σ1)) : Sm M w nL ov pc lv (.int v :: .ref (wad w kk) :: st) σ (pI σ kk j v K) := by
  intro r σ' e H locs ls hW hS hl
  refine va_put (C := R) (T := T) (N := N) (ci := ci) (v := .int v) (ty := .int) C.1 C.2.1 C.2.2.2.2.1 (fun x hx => gtM (hg x hx)) ty0 hty hnm C.2.2.2.1 C.2.2.2.2.2.1.1 hW.1 hW.2 hS kk (fs := fs (σ.1 kk) (σ.2 kk)) (by rw [wl_at hk, hs]) hc j hj (C.2.2.2.2.1 _ (gtM hlink)) (fun _ h9 => h9) hfin hdesc rfl rfl (hl0 _ _) hd (fun H1 locs1 hP1 hD1 hS1 => k _ r σ' e H1 locs1 ls ?_ hS1 hl)
  have e2 : (wl w σ).set kk (wad w kk, .inr (ci, (fs (σ.1 kk) (σ.2 kk)).set j (.int v))) = wl w (up1 σ kk (upd (σ.1 kk) j v)) := by
    rw [hset, ← hs, ← wl_set1]
  rw [e2] at hP1 hD1
  exact ⟨hP1, hD1⟩
theorem sm_putL (C : Cx M w cc nL own c0 ret rm) {R : String} {T : u_T} {N ci index j kk : Nat} {fs : (Nat → Int32) → (Nat → Int64) → List Value} {v : Int64} {K : Sta → Option (ρ × Sta)} (hs : ∀ f g, wsh w kk f g = .inr (ci, fs f g)) (hk : kk < wnn w) (hc : cls[ci]? = some (R, T, N)) (hg : ∀ x ∈ u_ws R T N, x ∈ GT) (ty0 : Nat → FieldType) (hty : ∀ k, k < N → parseFieldDescriptor (T k).2.2.1 = some (ty0 k)) (hnm : ∀ a, a < N → ∀ b, b < N → a ≠ b → (T a).2.1 ≠ (T b).2.1) (hj : j < N) (hlink : Cond.fieldLink own index (T j).1 (T j).2.1 (T j).2.2.1 ∈ GT) (hfin : (T j).2.2.2 = false) (hdesc : parseFieldDescriptor (T j).2.2.1 = some .long) (hd : decode cc pc = .ok (.putfield index, 3)) (hl0 : ∀ f g, j < (fs f g).length) (hset : ∀ f g v, (fs f g).set j (.long v) = fs f (vp_updL g j v)) (k : ∀ σ1, Sm M w nL ov (pc + 3) lv st σ1 (K σ1)) : Sm M w nL ov pc lv (.long v :: .ref (wad w kk) :: st) σ (pL σ kk j v K) := by
  intro r σ' e H locs ls hW hS hl
  refine va_put (C := R) (T := T) (N := N) (ci := ci) (v := .long v) (ty := .long) C.1 C.2.1 C.2.2.2.2.1 (fun x hx => gtM (hg x hx)) ty0 hty hnm C.2.2.2.1 C.2.2.2.2.2.1.1 hW.1 hW.2 hS kk (fs := fs (σ.1 kk) (σ.2 kk)) (by rw [wl_at hk, hs]) hc j hj (C.2.2.2.2.1 _ (gtM hlink)) (fun _ h9 => h9) hfin hdesc rfl rfl (hl0 _ _) hd (fun H1 locs1 hP1 hD1 hS1 => k _ r σ' e H1 locs1 ls ?_ hS1 hl)
  have e2 : (wl w σ).set kk (wad w kk, .inr (ci, (fs (σ.1 kk) (σ.2 kk)).set j (.long v))) = wl w (up2 σ kk (vp_updL (σ.2 kk) j v)) := by
    rw [hset, ← hs, ← wl_set2]
  rw [e2] at hP1 hD1
  exact ⟨hP1, hD1⟩
theorem sm_getIN (C : Cx M w cc nL own c0 ret rm) {host : String} {R : String} {T : u_T} {N ci index j kk : Nat} {fs : (Nat → Int32) → (Nat → Int64) → List Value} {K : Int32 → Option (ρ × Sta)} (hs : ∀ f g, wsh w kk f g = .inr (ci, fs f g)) (hk : kk < wnn w) (hc : cls[ci]? = some (R, T, N)) (hg : ∀ x ∈ u_ws R T N, x ∈ GT) (hj : j < N) (hlink : (own, index, (T j).1, (T j).2.1, (T j).2.2.1, host) ∈ nwF) (hd : decode cc pc = .ok (.getfield index, 3)) (hf : ∀ f g, (fs f g)[j]? = some (.int (f j))) (k : ∀ v, Sm M w nL ov (pc + 3) lv (.int v :: st) σ (K v)) : Sm M w nL ov pc lv (.ref (wad w kk) :: st) σ (fI σ kk j K) := by
  intro r σ' e H locs ls hW hS hl
  exact va_getN (C := R) (T := T) (N := N) (ci := ci) (v := .int (σ.1 kk j)) C.1 C.2.1 C.2.2.2.2.1 (fun x hx => gtM (hg x hx)) C.2.2.2.1 C.2.2.2.2.2.1.1 hW.1 kk (fs := fs (σ.1 kk) (σ.2 kk)) (by rw [wl_at hk, hs]) hc j hj (va_Nw.use rfl (C.2.2.2.2.2.1.2.1.1 _ hlink)) (fun _ h9 => h9) (hf _ _) hd (k _ r σ' e H locs ls hW hS hl)
theorem sm_getLN (C : Cx M w cc nL own c0 ret rm) {host : String} {R : String} {T : u_T} {N ci index j kk : Nat} {fs : (Nat → Int32) → (Nat → Int64) → List Value} {K : Int64 → Option (ρ × Sta)} (hs : ∀ f g, wsh w kk f g = .inr (ci, fs f g)) (hk : kk < wnn w) (hc : cls[ci]? = some (R, T, N)) (hg : ∀ x ∈ u_ws R T N, x ∈ GT) (hj : j < N) (hlink : (own, index, (T j).1, (T j).2.1, (T j).2.2.1, host) ∈ nwF) (hd : decode cc pc = .ok (.getfield index, 3)) (hf : ∀ f g, (fs f g)[j]? = some (.long (g j))) (k : ∀ v, Sm M w nL ov (pc + 3) lv (.long v :: st) σ (K v)) : Sm M w nL ov pc lv (.ref (wad w kk) :: st) σ (fL σ kk j K) := by
  intro r σ' e H locs ls hW hS hl
  exact va_getN (C := R) (T := T) (N := N) (ci := ci) (v := .long (σ.2 kk j)) C.1 C.2.1 C.2.2.2.2.1 (fun x hx => gtM (hg x hx)) C.2.2.2.1 C.2.2.2.2.2.1.1 hW.1 kk (fs := fs (σ.1 kk) (σ.2 kk)) (by rw [wl_at hk, hs]) hc j hj (va_Nw.use rfl (C.2.2.2.2.2.1.2.1.1 _ hlink)) (fun _ h9 => h9) (hf _ _) hd (k _ r σ' e H locs ls hW hS hl)
theorem sm_getRN (C : Cx M w cc nL own c0 ret rm) {host : String} {R : String} {T : u_T} {N ci index j kk d : Nat} {fs : (Nat → Int32) → (Nat → Int64) → List Value} (hs : ∀ f g, wsh w kk f g = .inr (ci, fs f g)) (hk : kk < wnn w) (hc : cls[ci]? = some (R, T, N)) (hg : ∀ x ∈ u_ws R T N, x ∈ GT) (hj : j < N) (hlink : (own, index, (T j).1, (T j).2.1, (T j).2.2.1, host) ∈ nwF) (hd : decode cc pc = .ok (.getfield index, 3)) (hf : ∀ f g, (fs f g)[j]? = some (.ref (wad w d))) (k : Sm M w nL ov (pc + 3) lv (.ref (wad w d) :: st) σ F) : Sm M w nL ov pc lv (.ref (wad w kk) :: st) σ F := by
  intro r σ' e H locs ls hW hS hl
  exact va_getN (C := R) (T := T) (N := N) (ci := ci) (v := .ref (wad w d)) C.1 C.2.1 C.2.2.2.2.1 (fun x hx => gtM (hg x hx)) C.2.2.2.1 C.2.2.2.2.2.1.1 hW.1 kk (fs := fs (σ.1 kk) (σ.2 kk)) (by rw [wl_at hk, hs]) hc j hj (va_Nw.use rfl (C.2.2.2.2.2.1.2.1.1 _ hlink)) (fun _ h9 => h9) (hf _ _) hd (k r σ' e H locs ls hW hS hl)
theorem sm_putIN (C : Cx M w cc nL own c0 ret rm) {host : String} {R : String} {T : u_T} {N ci index j kk : Nat} {fs : (Nat → Int32) → (Nat → Int64) → List Value} {v : Int32} {K : Sta → Option (ρ × Sta)} (hs : ∀ f g, wsh w kk f g = .inr (ci, fs f g)) (hk : kk < wnn w) (hc : cls[ci]? = some (R, T, N)) (hg : ∀ x ∈ u_ws R T N, x ∈ GT) (ty0 : Nat → FieldType) (hty : ∀ k, k < N → parseFieldDescriptor (T k).2.2.1 = some (ty0 k)) (hnm : ∀ a, a < N → ∀ b, b < N → a ≠ b → (T a).2.1 ≠ (T b).2.1) (hj : j < N) (hlink : (own, index, (T j).1, (T j).2.1, (T j).2.2.1, host) ∈ nwF) (hfin : (T j).2.2.2 = false) (hdesc : parseFieldDescriptor (T j).2.2.1 = some .int) (hd : decode cc pc = .ok (.putfield index, 3)) (hl0 : ∀ f g, j < (fs f g).length) (hset : ∀ f g v, (fs f g).set j (.int v) = fs (upd f j v) g) (k : ∀ σ1, Sm M w nL ov (pc + 3) lv st σ1 (K σ1)) : Sm M w nL ov pc lv (.int v :: .ref (wad w kk) :: st) σ (pI σ kk j v K) := by
  intro r σ' e H locs ls hW hS hl
  refine va_putN (C := R) (T := T) (N := N) (ci := ci) (v := .int v) (ty := .int) C.1 C.2.1 C.2.2.2.2.1 (fun x hx => gtM (hg x hx)) ty0 hty hnm C.2.2.2.1 C.2.2.2.2.2.1.1 hW.1 hW.2 hS kk (fs := fs (σ.1 kk) (σ.2 kk)) (by rw [wl_at hk, hs]) hc j hj (va_Nw.use rfl (C.2.2.2.2.2.1.2.1.1 _ hlink)) (fun _ h9 => h9) hfin hdesc rfl rfl (hl0 _ _) hd (fun H1 locs1 hP1 hD1 hS1 => k _ r σ' e H1 locs1 ls ?_ hS1 hl)
  have e2 : (wl w σ).set kk (wad w kk, .inr (ci, (fs (σ.1 kk) (σ.2 kk)).set j (.int v))) = wl w (up1 σ kk (upd (σ.1 kk) j v)) := by
    rw [hset, ← hs, ← wl_set1]
  rw [e2] at hP1 hD1
  exact ⟨hP1, hD1⟩
theorem sm_putLN (C : Cx M w cc nL own c0 ret rm) {host : String} {R : String} {T : u_T} {N ci index j kk : Nat} {fs : (Nat → Int32) → (Nat → Int64) → List Value} {v : Int64} {K : Sta → Option (ρ × Sta)} (hs : ∀ f g, wsh w kk f g = .inr (ci, fs f g)) (hk : kk < wnn w) (hc : cls[ci]? = some (R, T, N)) (hg : ∀ x ∈ u_ws R T N, x ∈ GT) (ty0 : Nat → FieldType) (hty : ∀ k, k < N → parseFieldDescriptor (T k).2.2.1 = some (ty0 k)) (hnm : ∀ a, a < N → ∀ b, b < N → a ≠ b → (T a).2.1 ≠ (T b).2.1) (hj : j < N) (hlink : (own, index, (T j).1, (T j).2.1, (T j).2.2.1, host) ∈ nwF) (hfin : (T j).2.2.2 = false) (hdesc : parseFieldDescriptor (T j).2.2.1 = some .long) (hd : decode cc pc = .ok (.putfield index, 3)) (hl0 : ∀ f g, j < (fs f g).length) (hset : ∀ f g v, (fs f g).set j (.long v) = fs f (vp_updL g j v)) (k : ∀ σ1, Sm M w nL ov (pc + 3) lv st σ1 (K σ1)) : Sm M w nL ov pc lv (.long v :: .ref (wad w kk) :: st) σ (pL σ kk j v K) := by
  intro r σ' e H locs ls hW hS hl
  refine va_putN (C := R) (T := T) (N := N) (ci := ci) (v := .long v) (ty := .long) C.1 C.2.1 C.2.2.2.2.1 (fun x hx => gtM (hg x hx)) ty0 hty hnm C.2.2.2.1 C.2.2.2.2.2.1.1 hW.1 hW.2 hS kk (fs := fs (σ.1 kk) (σ.2 kk)) (by rw [wl_at hk, hs]) hc j hj (va_Nw.use rfl (C.2.2.2.2.2.1.2.1.1 _ hlink)) (fun _ h9 => h9) hfin hdesc rfl rfl (hl0 _ _) hd (fun H1 locs1 hP1 hD1 hS1 => k _ r σ' e H1 locs1 ls ?_ hS1 hl)
  have e2 : (wl w σ).set kk (wad w kk, .inr (ci, (fs (σ.1 kk) (σ.2 kk)).set j (.long v))) = wl w (up2 σ kk (vp_updL (σ.2 kk) j v)) := by
    rw [hset, ← hs, ← wl_set2]
  rw [e2] at hP1 hD1
  exact ⟨hP1, hD1⟩
theorem sm_iald (C : Cx M w cc nL own c0 ret rm) {cI : ClassId} {n kk : Nat} {i : Int32} {K : Int32 → Option (ρ × Sta)} (hs : ∀ f g, wsh w kk f g = .inl (cI, n, .inl f)) (hk : kk < wnn w) (ht : (wty w)[0]? = some (cI, .int)) (hd : decode cc pc = .ok (.iaload, 1)) (k : ∀ v, Sm M w nL ov (pc + 1) lv (.int v :: st) σ (K v)) : Sm M w nL ov pc lv (.int i :: .ref (wad w kk) :: st) σ (aI σ kk n i K) := by
  intro r σ' e H locs ls hW hS hl
  by_cases hi : i < 0 ∨ n ≤ i.toNatClampNeg
  · rw [aI, if_pos hi] at e
    cases e
  · rw [aI, if_neg hi] at e
    exact va_iald C.1 C.2.1 C.2.2.2.2.2.1.1 hW.1 kk 0 (n := n) (f := σ.1 kk) (by rw [wl_at hk, hs]) ht hi hd (k _ r σ' e H locs ls hW hS hl)
theorem sm_zald (C : Cx M w cc nL own c0 ret rm) {cZ : ClassId} {n kk : Nat} {i : Int32} {K : Int32 → Option (ρ × Sta)} (hs : ∀ f g, wsh w kk f g = .inl (cZ, n, .inl f)) (hk : kk < wnn w) (ht : (wty w)[1]? = some (cZ, .boolean)) (hd : decode cc pc = .ok (.baload, 1)) (k : ∀ v, Sm M w nL ov (pc + 1) lv (.int v :: st) σ (K v)) : Sm M w nL ov pc lv (.int i :: .ref (wad w kk) :: st) σ (aI σ kk n i K) := by
  intro r σ' e H locs ls hW hS hl
  by_cases hi : i < 0 ∨ n ≤ i.toNatClampNeg
  · rw [aI, if_pos hi] at e
    cases e
  · rw [aI, if_neg hi] at e
    exact va_zald C.1 C.2.1 C.2.2.2.2.2.1.1 hW.1 kk 1 (n := n) (f := σ.1 kk) (by rw [wl_at hk, hs]) ht hi hd (k _ r σ' e H locs ls hW hS hl)
theorem sm_iast (C : Cx M w cc nL own c0 ret rm) {cI : ClassId} {n kk : Nat} {i v : Int32} {K : Sta → Option (ρ × Sta)} (hs : ∀ f g, wsh w kk f g = .inl (cI, n, .inl f)) (hk : kk < wnn w) (ht : (wty w)[0]? = some (cI, .int)) (hd : decode cc pc = .ok (.iastore, 1)) (k : ∀ σ1, Sm M w nL ov (pc + 1) lv st σ1 (K σ1)) : Sm M w nL ov pc lv (.int v :: .int i :: .ref (wad w kk) :: st) σ (sI σ kk n i v K) := by
  intro r σ' e H locs ls hW hS hl
  by_cases hi : i < 0 ∨ n ≤ i.toNatClampNeg
  · rw [sI, if_pos hi] at e
    cases e
  · rw [sI, if_neg hi] at e
    refine va_iast C.1 C.2.1 C.2.2.2.2.2.1.1 hW.1 hW.2 hS kk 0 (n := n) (f := σ.1 kk) (by rw [wl_at hk, hs]) ht hi hd (fun H1 locs1 hP1 hD1 hS1 => k _ r σ' e H1 locs1 ls ?_ hS1 hl)
    have e2 : (wl w σ).set kk (wad w kk, .inl (cI, n, .inl (upd (σ.1 kk) i.toNatClampNeg v))) = wl w (up1 σ kk (upd (σ.1 kk) i.toNatClampNeg v)) := by
      rw [← wl_set1, hs]
    rw [e2] at hP1 hD1
    exact ⟨hP1, hD1⟩
theorem sm_zast (C : Cx M w cc nL own c0 ret rm) {cZ : ClassId} {n kk : Nat} {i v : Int32} {K : Sta → Option (ρ × Sta)} (hs : ∀ f g, wsh w kk f g = .inl (cZ, n, .inl f)) (hk : kk < wnn w) (ht : (wty w)[1]? = some (cZ, .boolean)) (hd : decode cc pc = .ok (.bastore, 1)) (k : ∀ σ1, Sm M w nL ov (pc + 1) lv st σ1 (K σ1)) : Sm M w nL ov pc lv (.int v :: .int i :: .ref (wad w kk) :: st) σ (sZ σ kk n i v K) := by
  intro r σ' e H locs ls hW hS hl
  by_cases hi : i < 0 ∨ n ≤ i.toNatClampNeg
  · rw [sZ, if_pos hi] at e
    cases e
  · rw [sZ, if_neg hi] at e
    refine va_zast C.1 C.2.1 C.2.2.2.2.2.1.1 hW.1 hW.2 hS kk 1 (n := n) (f := σ.1 kk) (by rw [wl_at hk, hs]) ht hi hd (fun H1 locs1 hP1 hD1 hS1 => k _ r σ' e H1 locs1 ls ?_ hS1 hl)
    have e2 : (wl w σ).set kk (wad w kk, .inl (cZ, n, .inl (upd (σ.1 kk) i.toNatClampNeg (vp_nar .boolean v)))) = wl w (up1 σ kk (upd (σ.1 kk) i.toNatClampNeg (vp_nar .boolean v))) := by
      rw [← wl_set1, hs]
    rw [e2] at hP1 hD1
    exact ⟨hP1, hD1⟩
theorem sm_aald (C : Cx M w cc nL own c0 ret rm) {cR : ClassId} {E : String} {n kk b t ti : Nat} {i : Int32} {K : Nat → Option (ρ × Sta)} (hs : ∀ f g, wsh w kk f g = .inl (cR, n, .inr (.inr (.inr (.inr (fun j => some (wad w (b + t * j)))))))) (hk : kk < wnn w) (ht : (wty w)[ti]? = some (cR, .object E)) (hd : decode cc pc = .ok (.aaload, 1)) (k : ∀ j, j < n → Sm M w nL ov (pc + 1) lv (.ref (wad w (b + t * j)) :: st) σ (K j)) : Sm M w nL ov pc lv (.int i :: .ref (wad w kk) :: st) σ (aR n i K) := by
  intro r σ' e H locs ls hW hS hl
  by_cases hi : i < 0 ∨ n ≤ i.toNatClampNeg
  · rw [aR, if_pos hi] at e
    cases e
  · rw [aR, if_neg hi] at e
    exact va_aldq C.1 C.2.1 C.2.2.2.2.2.1.1 hW.1 kk ti (n := n) (f := fun j => some (wad w (b + t * j))) (by rw [wl_at hk, hs]) ht hi hd (k _ (by omega) r σ' e H locs ls hW hS hl)
theorem sm_alen (C : Cx M w cc nL own c0 ret rm) {cI : ClassId} {n kk : Nat} (v : Int32) (hs : ∀ f g, wsh w kk f g = .inl (cI, n, .inl f)) (hk : kk < wnn w) (ht : (wty w)[0]? = some (cI, .int)) (hv : Int32.ofNat n = v) (hd : decode cc pc = .ok (.arraylength, 1)) (k : Sm M w nL ov (pc + 1) lv (.int v :: st) σ F) : Sm M w nL ov pc lv (.ref (wad w kk) :: st) σ F :=
  fun r σ' e H locs ls hW hS hl => va_alen C.1 C.2.1 C.2.2.2.2.2.1.1 hW.1 kk 0 (x := (n, .inl (σ.1 kk))) (by rw [wl_at hk, hs]) ht hv hd (k r σ' e H locs ls hW hS hl)
theorem sm_copy (C : Cx M w cc nL own c0 ret rm) {cI : ClassId} {n0 n1 k0 k1 m index : Nat} {z : Int32} {K : Sta → Option (ρ × Sta)} (hs0 : ∀ f g, wsh w k0 f g = .inl (cI, n0, .inl f)) (hk0 : k0 < wnn w) (hs1 : ∀ f g, wsh w k1 f g = .inl (cI, n1, .inl f)) (hk1 : k1 < wnn w) (ht : (wty w)[0]? = some (cI, .int)) (hlink : Cond.methodLink own index arraycopyName ∈ GT) (hnat : Cond.native arraycopyName ∈ GT) (hstat : Cond.static arraycopyName ∈ GT) (hini : Cond.initialized "java/lang/System" ∈ GT) (hz : z = nI m) (hm0 : m ≤ n0) (hm1 : m ≤ n1) (hm : m < 2 ^ 31) (hfr : 1 ≤ rm.frames) (hlo : (st.map fun v => v.category).sum + (nativeFrameWords "java/lang/System" "arraycopy" 5 + 11) ≤ rm.locals) (hd : decode cc pc = .ok (.invokestatic index, 3)) (k : ∀ σ1, Sm M w nL ov (pc + 3) lv st σ1 (K σ1)) : Sm M w nL ov pc lv (.int z :: .int 0 :: .ref (wad w k1) :: .int 0 :: .ref (wad w k0) :: st) σ (cpI σ k0 k1 m K) := by
  intro r σ' e H locs ls hW hS hl
  have hzc : z.toNatClampNeg = m := by rw [hz]; exact nI_clamp hm
  refine va_copyi C.1 C.2.1 (C.2.2.1.trans hl.1.symm) C.2.2.2.1 (C.2.2.2.2.1 _ (gtM hlink)) (C.2.2.2.2.1 _ (gtM hnat)) (C.2.2.2.2.1 _ (gtM hstat)) (C.2.2.2.2.1 _ (gtM hini)) C.2.2.2.2.2.1.1 hW.1 hW.2 hS k0 k1 0 0 (f := σ.1 k0) (g := σ.1 k1) (n0 := n0) (n1 := n1) (ty := .int) (by rw [wl_at hk0, hs0]) (by rw [wl_at hk1, hs1]) ht ht rfl (by decide) (by decide) (by rw [hz]; exact nI_pos hm) (by rw [hzc]; show 0 + m ≤ n0; omega) (by rw [hzc]; show 0 + m ≤ n1; omega) (fun _ _ => rfl) (by rw [C.2.2.2.2.2.2.2.2]; exact hfr) (by rw [C.2.2.2.2.2.2.2.2]; exact hlo) hd (fun H1 locs1 hP1 hD1 hS1 => k _ r σ' e H1 locs1 ls ?_ hS1 hl)
  have e2 : (wl w σ).set k1 (wad w k1, .inl (cI, n1, .inl (va_cpy (σ.1 k0) (σ.1 k1) (0 : Int32).toNatClampNeg (0 : Int32).toNatClampNeg z.toNatClampNeg))) = wl w (up1 σ k1 (va_cpy (σ.1 k0) (σ.1 k1) 0 0 m)) := by
    rw [← wl_set1, hs1, hzc]
    rfl
  rw [e2] at hP1 hD1
  exact ⟨hP1, hD1⟩
theorem sm_max (C : Cx M w cc nL own c0 ret rm) {index : Nat} {x y : Int32} (hlink : Cond.methodLink own index Lib.Math.max.name ∈ GT) (hstat : Cond.static Lib.Math.max.name ∈ GT) (hini : Cond.initialized "java/lang/Math" ∈ GT) (hcode : Cond.code Lib.Math.max.name Lib.Math.max.code 2 (some .int) ∈ GT) (hfr : 1 ≤ rm.frames) (hlo : (st.map fun v => v.category).sum + 13 ≤ rm.locals) (hd : decode cc pc = .ok (.invokestatic index, 3)) (k : Sm M w nL ov (pc + 3) lv (.int (if x < y then y else x) :: st) σ F) : Sm M w nL ov pc lv (.int y :: .int x :: st) σ F := by
  intro r σ' e H locs ls hW hS hl
  exact va_mmax C.1 C.2.1 (C.2.2.1.trans hl.1.symm) C.2.2.2.1 (C.2.2.2.2.1 _ (gtM hlink)) (C.2.2.2.2.1 _ (gtM hstat)) (C.2.2.2.2.1 _ (gtM hini)) (C.2.2.2.2.1 _ (gtM hcode)) (by rw [C.2.2.2.2.2.2.2.2]; exact hfr) (by rw [C.2.2.2.2.2.2.2.2]; exact hlo) (Nat.zero_le _) (Nat.zero_le _) hd (k r σ' e H locs ls hW hS hl)
/-- behind a call -/
theorem sm_after {ρ2 : Type} {ov2 : ρ2 → Option Value} {f : Option (ρ2 × Sta)} {K : ρ2 → Sta → Option (ρ × Sta)} {st0 : List Value} {a : Array Value} (C : Cx M w cc nL own c0 ret rm)
    (run : ∀ (q : ρ2) (σ1 : Sta), f = some (q, σ1) → ∀ (H : Heap) (locs : List Loc) (ls : Array Slot), Wd w σ H → va_S (wA w) (mS M).heap H locs → lv_has ls nL lv → va_Run (mP M) (mL M) (mE M) (mR M) (mS M) (mI M) (mA M) (mB M) (mM M) (mC M) H locs 0 0 0 0 (F0 (mI M) pc ls st0) st (Rt w (ov2 q) σ1 a) (wA w))
    (k : ∀ (q : ρ2) (σ1 : Sta), Sm M w nL ov (pc + 3) lv ((ov2 q).toList ++ st) σ1 (K q σ1)) : Sm M w nL ov pc lv st0 σ (cA f K) := by
  intro r σ' e H locs ls hW hS hl
  obtain ⟨q, σ1, h1, h2⟩ := cA_some e
  intro T hT X
  obtain ⟨v, st₀, t, T', L, g0, X', hL, e1, e2, ⟨⟨hv, hw1⟩, hz, hk⟩, go⟩ := run q σ1 h1 H locs ls hW hS hl T hT X
  cases hv
  rw [g0] at hz hk
  obtain ⟨t2, a1, b1⟩ := k q σ1 r σ' h2 T'.heap (locs ++ L) ls (by rw [e1]; exact hw1) ⟨Nat.le_trans hS.1 (by rw [e1]; exact hz), fun x g1 g2 => by rw [e1, hk x (Nat.lt_of_lt_of_le g1 hS.1) g2]; exact hS.2.1 x g1 g2, fun x hx => by
      rcases List.mem_append.mp hx with h | h
      · exact hS.2.2 x h
      · exact hL x h⟩ hl T' rfl X'
  exact ⟨t2, go t2 a1, b1⟩
theorem sm_blind {av : List Value} : FrameBlind (va_Pc av (fun U => Wd w σ U.heap ∧ KK w U U.heap)) := fun _ _ _ _ h => ⟨h.1, h.2.1, h.2.2.calling⟩
theorem sm_pre {H : Heap} {locs : List Loc} {av : List Value} (C : Cx M w cc nL own c0 ret rm) (hW : Wd w σ H) (hS : va_S (wA w) (mS M).heap H locs) : ∀ U : State, U.heap = H → (mS M).WarmedH U.vm → va_Pc av (fun U => Wd w σ U.heap ∧ KK w U U.heap) av.toArray U := fun U hU hW9 => ⟨rfl, by rw [hU]; exact hW, by rw [hU]; exact (C.2.2.2.2.2.1.warm hW9).kept hS.2.1⟩
theorem gV {c1 : Cond} {own R : String} {index : Nat} {y : MethodName} {b : ByteArray} {mx : Nat} {rt : Option FieldType} (h1 : Cond.methodLink own index y ∈ GT) (h2 : Cond.instanceMethod y ∈ GT) (h3 : Cond.selects R y y ∈ GT) (h4 : Cond.initialized R ∈ GT) (h5 : Cond.code y b mx rt ∈ GT) : GoodIn (c1 :: GT) (wsV own index R y (Cond.code y b mx rt :: GT)) := by
  intro x hx
  simp only [wsV, List.cons_append, List.nil_append, List.mem_cons] at hx
  rcases hx with rfl | rfl | rfl | rfl | rfl | hx
  · exact gtOne h1
  · exact gtOne h2
  · exact gtOne h3
  · exact gtOne h4
  · exact gtOne h5
  · exact gtOne hx
theorem gS {c1 : Cond} {own : String} {index : Nat} {y : MethodName} {b : ByteArray} {mx : Nat} {rt : Option FieldType} (h1 : Cond.methodLink own index y ∈ GT) (h2 : Cond.static y ∈ GT) (h4 : Cond.initialized y.cls ∈ GT) (h5 : Cond.code y b mx rt ∈ GT) : GoodIn (c1 :: GT) (va_wsS own index y (Cond.code y b mx rt :: GT)) := by
  intro x hx
  simp only [va_wsS, List.cons_append, List.nil_append, List.mem_cons] at hx
  rcases hx with rfl | rfl | rfl | rfl | hx
  · exact gtOne h1
  · exact gtOne h2
  · exact gtOne h4
  · exact gtOne h5
  · exact gtOne hx
theorem gC {c1 : Cond} {y : MethodName} {b : ByteArray} {mx : Nat} {rt : Option FieldType} (h5 : Cond.code y b mx rt ∈ GT) : GoodIn (c1 :: GT) (Cond.code y b mx rt :: GT) := by
  intro x hx
  rcases List.mem_cons.mp hx with rfl | hx
  · exact gtOne h5
  · exact gtOne hx
/-- a virtual call whose method is the receiver's own -/
theorem sm_callV {ρ2 : Type} {ov2 : ρ2 → Option Value} {f : Option (ρ2 × Sta)} {K : ρ2 → Sta → Option (ρ × Sta)} (C : Cx M w cc nL own c0 ret rm) {R : String} {T : u_T} {N ci index kk mx n : Nat} {fs : (Nat → Int32) → (Nat → Int64) → List Value} {y : MethodName} {b : ByteArray} {rt : Option FieldType} {rmc : Room} (As : List Value) (hs : ∀ f g, wsh w kk f g = .inr (ci, fs f g)) (hk : kk < wnn w) (hc : cls[ci]? = some (R, T, N))
    (hM : ∀ q σ1, f = some (q, σ1) → Ct (mL M) w y (Cond.code y b mx rt :: GT) rmc (.ref (wad w kk) :: As) σ (ov2 q) σ1) (h1 : Cond.methodLink own index y ∈ GT) (h2 : Cond.instanceMethod y ∈ GT) (h3 : Cond.selects R y y ∈ GT) (h4 : Cond.initialized R ∈ GT) (h5 : Cond.code y b mx rt ∈ GT) (hd : decode cc pc = .ok (.invokevirtual index, 3))
    (hn : As.length = n) (hrc : rmc.cells = 0) (hrs : rmc.slots = 0) (hdd : y.cls = R ∧ y.cls ≠ "java/lang/invoke/MethodHandle" ∧ y.cls ≠ "java/lang/invoke/VarHandle" ∧ (parseMethodDescriptor y.desc).map (fun d => d.parameters.length) = some n) (hR : rmc.frames + 1 ≤ rm.frames ∧ 8 + (mx + 11) + rmc.locals ≤ rm.locals) (hst : (st.map fun v => v.category).sum ≤ 8)
    (st0 : List Value) (hst0 : st0 = As.reverse ++ .ref (wad w kk) :: st) (k : ∀ (q : ρ2) (σ1 : Sta), Sm M w nL ov (pc + 3) lv ((ov2 q).toList ++ st) σ1 (K q σ1)) : Sm M w nL ov pc lv st0 σ (cA f K) :=
  sm_after (a := (Value.ref (wad w kk) :: As).toArray) C (fun q σ1 hq H locs ls hW hS hl => va_runV (As := As) (rest := st) ⟨C.1, C.2.1, C.2.2.1, C.2.2.2.1, C.2.2.2.2.1⟩ (hM q σ1 hq) (cwV n C.2.2.2.2.1 (gV h1 h2 h3 h4 h5) rfl hrc hrs hdd (by rw [C.2.2.2.2.2.2.2.2]; exact hR)) ⟨sm_blind, va_recv C.2.2.2.2.2.1.1 hW.1 (ci := ci) (q0 := kk) hc (fs := fs (σ.1 kk) (σ.2 kk)) (by rw [wl_at hk, hs]), sm_pre C hW hS⟩ rfl hn hl.1 hst0 (lv_room hst) hd ⟨Nat.zero_le _, Nat.zero_le _⟩) k
/-- a static call -/
theorem sm_callS {ρ2 : Type} {ov2 : ρ2 → Option Value} {f : Option (ρ2 × Sta)} {K : ρ2 → Sta → Option (ρ × Sta)} (C : Cx M w cc nL own c0 ret rm) {index mx n : Nat} {y : MethodName} {b : ByteArray} {rt : Option FieldType} {rmc : Room} (As : List Value)
    (hM : ∀ q σ1, f = some (q, σ1) → Ct (mL M) w y (Cond.code y b mx rt :: GT) rmc As σ (ov2 q) σ1) (h1 : Cond.methodLink own index y ∈ GT) (h2 : Cond.static y ∈ GT) (h4 : Cond.initialized y.cls ∈ GT) (h5 : Cond.code y b mx rt ∈ GT) (hd : decode cc pc = .ok (.invokestatic index, 3))
    (hn : As.length = n) (hrc : rmc.cells = 0) (hrs : rmc.slots = 0) (hdd : y.cls ≠ "java/lang/invoke/MethodHandle" ∧ y.cls ≠ "java/lang/invoke/VarHandle" ∧ (parseMethodDescriptor y.desc).map (fun d => d.parameters.length) = some n) (hR : rmc.frames + 1 ≤ rm.frames ∧ 8 + (mx + 11) + rmc.locals ≤ rm.locals) (hst : (st.map fun v => v.category).sum ≤ 8)
    (st0 : List Value) (hst0 : st0 = As.reverse ++ st) (k : ∀ (q : ρ2) (σ1 : Sta), Sm M w nL ov (pc + 3) lv ((ov2 q).toList ++ st) σ1 (K q σ1)) : Sm M w nL ov pc lv st0 σ (cA f K) :=
  sm_after (a := As.toArray) C (fun q σ1 hq H locs ls hW hS hl => va_runS (As := As) (rest := st) ⟨C.1, C.2.1, C.2.2.1, C.2.2.2.1, C.2.2.2.2.1⟩ (hM q σ1 hq) (va_cwS n C.2.2.2.2.1 (gS h1 h2 h4 h5) rfl hrc hrs hdd (by rw [C.2.2.2.2.2.2.2.2]; exact hR)) ⟨sm_blind, sm_pre C hW hS⟩ rfl hn hl.1 hst0 (lv_room hst) hd ⟨Nat.zero_le _, Nat.zero_le _⟩) k
/-- a static call of a nest mate's private method -/
theorem sm_callSN {ρ2 : Type} {ov2 : ρ2 → Option Value} {f : Option (ρ2 × Sta)} {K : ρ2 → Sta → Option (ρ × Sta)} (C : Cx M w cc nL own c0 ret rm) {index mx n : Nat} {host : String} {y : MethodName} {b : ByteArray} {rt : Option FieldType} {rmc : Room} (As : List Value)
    (hM : ∀ q σ1, f = some (q, σ1) → Ct (mL M) w y (Cond.code y b mx rt :: GT) rmc As σ (ov2 q) σ1) (h1 : (own, index, y, host) ∈ nwM) (h2 : Cond.static y ∈ GT) (h4 : Cond.initialized y.cls ∈ GT) (h5 : Cond.code y b mx rt ∈ GT) (hd : decode cc pc = .ok (.invokestatic index, 3))
    (hn : As.length = n) (hrc : rmc.cells = 0) (hrs : rmc.slots = 0) (hdd : y.cls ≠ "java/lang/invoke/MethodHandle" ∧ y.cls ≠ "java/lang/invoke/VarHandle" ∧ (parseMethodDescriptor y.desc).map (fun d => d.parameters.length) = some n) (hR : rmc.frames + 1 ≤ rm.frames ∧ 8 + (mx + 11) + rmc.locals ≤ rm.locals) (hst : (st.map fun v => v.category).sum ≤ 8)
    (st0 : List Value) (hst0 : st0 = As.reverse ++ st) (k : ∀ (q : ρ2) (σ1 : Sta), Sm M w nL ov (pc + 3) lv ((ov2 q).toList ++ st) σ1 (K q σ1)) : Sm M w nL ov pc lv st0 σ (cA f K) :=
  sm_after (a := As.toArray) C (fun q σ1 hq H locs ls hW hS hl => va_runSN (As := As) (rest := st) ⟨C.1, C.2.1, C.2.2.1, C.2.2.2.1, C.2.2.2.2.1⟩ (hM q σ1 hq) ⟨va_cnB (host := host) n C.2.2.2.2.1 (gC h5) rfl hrc hrs (C.2.2.2.2.2.1.2.1.2 _ h1) (C.2.2.2.2.1 _ (gtM h4)) hdd (by rw [C.2.2.2.2.2.2.2.2]; exact hR), C.2.2.2.2.1 _ (gtM h2), trivial⟩ ⟨sm_blind, sm_pre C hW hS⟩ rfl hn hl.1 hst0 (lv_room hst) hd ⟨Nat.zero_le _, Nat.zero_le _⟩) k
end ROWS
/-- a contract out of a walk from the entry -/
theorem ct_of {l : Launch} {w : Wco} {y : MethodName} {cc : ByteArray} {nL : Nat} {rt : Option FieldType} {rm : Room} {av : List Value} {σ σ' : Sta} {ρ : Type} {ov : ρ → Option Value} {r : ρ} {F : Option (ρ × Sta)} (lv : List (Nat × Value)) (hy : plainName y.cls = true) (hlen : (lg_sl av).length ≤ nL) (hlv : lv_args 0 av = lv) (h : F = some (r, σ'))
    (walk : ∀ M : Mco, mL M = l → Cx M w cc nL y.cls (Cond.code y cc nL rt) rt rm → Sm M w nL ov 0 lv [] σ F) : Ct l w y (Cond.code y cc nL rt :: GT) rm av σ (ov r) σ' := by
  refine Met.ofW (cc := cc) (maxL := nL) (ret := rt) hy rfl ?_
  intro p e s m args below meth c s₁ B hml hv
  obtain ⟨rfl, hW, hK⟩ := hv
  have hts := atoms_spec (ws := Cond.code y cc nL rt :: GT) B.pre
  have hown : s.vm.findClass y.cls = some m.cls := findClass_of_methodNamed B.named
  have hl := lv_entry av (n := nL) hlen
  rw [lg_entry_eq]
  rw [hlv] at hl
  exact walk (p, l, e, (headSpec (Cond.code y cc nL rt :: GT) rm).room, s, m, av.toArray, below, meth, c) rfl ⟨B.exec, B.bytes, hml, hown, hts, hK, B.notSynchronized, B.returns, rfl⟩ r σ' h s.heap [] _ hW va_S.rf hl
