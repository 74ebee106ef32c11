/-! SHAPES. isI: a row of ints; isO: an object; isV: a valley and all that hangs on it; GW: the whole world behind both constructors -/
def isI (w : Wco) (k n : Nat) : Prop := k < wnn w ∧ ∃ cI, (wty w)[0]? = some (cI, .int) ∧ ∀ f g, wsh w k f g = .inl (cI, n, .inl f)
def isZ (w : Wco) (k n : Nat) : Prop := k < wnn w ∧ ∃ cZ, (wty w)[1]? = some (cZ, .boolean) ∧ ∀ f g, wsh w k f g = .inl (cZ, n, .inl f)
def isR (w : Wco) (k n b t ti : Nat) (E : String) : Prop := k < wnn w ∧ ∃ cR, (wty w)[ti]? = some (cR, .object E) ∧ ∀ f g, wsh w k f g = .inl (cR, n, .inr (.inr (.inr (.inr (fun j => some (wad w (b + t * j)))))))
def isO (w : Wco) (k ci : Nat) (fs : (Nat → Int32) → (Nat → Int64) → List Value) : Prop := k < wnn w ∧ ∀ f g, wsh w k f g = .inr (ci, fs f g)
abbrev fs0 : (Nat → Int32) → (Nat → Int64) → List Value := fun _ _ => []
abbrev fsT (w : Wco) (r : Nat) : (Nat → Int32) → (Nat → Int64) → List Value := fun f _ => [.ref (wad w (r + 1)), .int (f 1)]
abbrev fsV (w : Wco) (r : Nat) : (Nat → Int32) → (Nat → Int64) → List Value := fun f _ => [.ref (wad w (r + 1)), .ref (wad w (r + 2)), .ref (wad w (r + 3)), .ref (wad w (r + 4)), .ref (wad w (r + 5)), .ref (wad w (r + 6)), .ref (wad w (r + 7)), .ref (wad w (r + 8)), .ref (wad w (r + 9)), .ref (wad w (r + 11)), .int (f 10), .int (f 11), .int (f 12)]
abbrev fsC (w : Wco) (c : Nat) : (Nat → Int32) → (Nat → Int64) → List Value := fun f _ => [.ref (wad w (c + 1)), .ref (wad w (c + 2)), .int (f 2), .int (f 3), .int (f 4)]
abbrev fsF (w : Wco) : (Nat → Int32) → (Nat → Int64) → List Value := fun _ _ => [.ref (wad w 55), .ref (wad w 65), .ref (wad w 78), .ref (wad w 79)]
abbrev fsS (w : Wco) : (Nat → Int32) → (Nat → Int64) → List Value := fun f _ => [.ref (wad w 81), .int (f 1), .int (f 2), .int (f 3), .int (f 4), .int (f 5)]
abbrev fsN (w : Wco) : (Nat → Int32) → (Nat → Int64) → List Value := fun f g => [.ref (wad w 1), .ref (wad w 14), .ref (wad w 27), .ref (wad w 28), .ref (wad w 55), .ref (wad w 64), .ref (wad w 80), .long (g 7), .long (g 8), .int (f 9), .int (f 10), .int (f 11)]
abbrev fsM (w : Wco) : (Nat → Int32) → (Nat → Int64) → List Value := fun f g => [.ref (wad w 83), .ref (wad w 84), .ref (wad w 85), .ref (wad w 86), .long (g 4), .long (g 5), .ref (wad w 87), .ref (wad w 88), .ref (wad w 89), .ref (wad w 90), .ref (wad w 91), .ref (wad w 92), .ref (wad w 93), .ref (wad w 94), .int (f 14), .int (f 15), .int (f 16), .int (f 17), .int (f 18), .ref (wad w 95), .ref (wad w 96)]
def isT (w : Wco) (r : Nat) : Prop := isO w r 9 (fsT w r) ∧ isI w (r + 1) 24
def isV (w : Wco) (r : Nat) : Prop := isO w r 10 (fsV w r) ∧ isI w (r + 1) 8 ∧ isI w (r + 2) 8 ∧ isI w (r + 3) 6 ∧ isI w (r + 4) 18 ∧ isI w (r + 5) 6 ∧ isI w (r + 6) 6 ∧ isI w (r + 7) 8 ∧ isI w (r + 8) 8 ∧ isT w (r + 9) ∧ isT w (r + 11)
def isCc (w : Wco) (c : Nat) : Prop := isO w c 0 (fsC w c) ∧ isI w (c + 2) 6
def isC (w : Wco) (c : Nat) : Prop := isCc w c ∧ isR w (c + 1) 6 (c + 3) 1 2 "NobodyTwice$Plain" ∧ isO w (c + 3) 5 fs0 ∧ isO w (c + 4) 7 fs0 ∧ isO w (c + 5) 3 fs0 ∧ isO w (c + 6) 6 fs0 ∧ isO w (c + 7) 1 fs0 ∧ isO w (c + 8) 4 fs0

def GW (w : Wco) : Prop := isO w 0 11 (fsN w) ∧ isV w 1 ∧ isV w 14 ∧ isR w 27 2 29 13 3 "NobodyTwice$Valley" ∧ isZ w 28 2 ∧ isV w 29 ∧ isV w 42 ∧ isC w 55 ∧ isO w 64 2 (fsF w) ∧ isV w 65 ∧ isI w 78 64 ∧ isI w 79 64 ∧ isO w 80 8 (fsS w) ∧ isI w 81 150 ∧ isO w 82 12 (fsM w) ∧ isI w 83 209 ∧ isI w 84 418 ∧ isZ w 85 2 ∧ isI w 86 3 ∧ isI w 87 6 ∧ isI w 88 6 ∧ isI w 89 8 ∧ isI w 90 8 ∧ isI w 91 6 ∧ isI w 92 64 ∧ isI w 93 64 ∧ isI w 94 150 ∧ isI w 95 105 ∧ isI w 96 4
theorem G_N {w : Wco} (h : GW w) : isO w 0 11 (fsN w) := h.1
theorem G_now {w : Wco} (h : GW w) : isV w 1 := h.2.1
theorem G_draft {w : Wco} (h : GW w) : isV w 14 := h.2.2.1
theorem G_images {w : Wco} (h : GW w) : isR w 27 2 29 13 3 "NobodyTwice$Valley" := h.2.2.2.1
theorem G_kept {w : Wco} (h : GW w) : isZ w 28 2 := h.2.2.2.2.1
theorem G_im0 {w : Wco} (h : GW w) : isV w 29 := h.2.2.2.2.2.1
theorem G_im1 {w : Wco} (h : GW w) : isV w 42 := h.2.2.2.2.2.2.1
theorem G_con {w : Wco} (h : GW w) : isC w 55 := h.2.2.2.2.2.2.2.1
theorem G_F {w : Wco} (h : GW w) : isO w 64 2 (fsF w) := h.2.2.2.2.2.2.2.2.1
theorem G_trial {w : Wco} (h : GW w) : isV w 65 := h.2.2.2.2.2.2.2.2.2.1
theorem G_wA {w : Wco} (h : GW w) : isI w 78 64 := h.2.2.2.2.2.2.2.2.2.2.1
theorem G_wB {w : Wco} (h : GW w) : isI w 79 64 := h.2.2.2.2.2.2.2.2.2.2.2.1
theorem G_S {w : Wco} (h : GW w) : isO w 80 8 (fsS w) := h.2.2.2.2.2.2.2.2.2.2.2.2.1
theorem G_by {w : Wco} (h : GW w) : isI w 81 150 := h.2.2.2.2.2.2.2.2.2.2.2.2.2.1
theorem G_M {w : Wco} (h : GW w) : isO w 82 12 (fsM w) := h.2.2.2.2.2.2.2.2.2.2.2.2.2.2.1
theorem G_m83 {w : Wco} (h : GW w) : isI w 83 209 := h.2.2.2.2.2.2.2.2.2.2.2.2.2.2.2.1
theorem G_m84 {w : Wco} (h : GW w) : isI w 84 418 := h.2.2.2.2.2.2.2.2.2.2.2.2.2.2.2.2.1
theorem G_m85 {w : Wco} (h : GW w) : isZ w 85 2 := h.2.2.2.2.2.2.2.2.2.2.2.2.2.2.2.2.2.1
theorem G_m86 {w : Wco} (h : GW w) : isI w 86 3 := h.2.2.2.2.2.2.2.2.2.2.2.2.2.2.2.2.2.2.1
theorem G_m87 {w : Wco} (h : GW w) : isI w 87 6 := h.2.2.2.2.2.2.2.2.2.2.2.2.2.2.2.2.2.2.2.1
theorem G_m88 {w : Wco} (h : GW w) : isI w 88 6 := h.2.2.2.2.2.2.2.2.2.2.2.2.2.2.2.2.2.2.2.2.1
theorem G_m89 {w : Wco} (h : GW w) : isI w 89 8 := h.2.2.2.2.2.2.2.2.2.2.2.2.2.2.2.2.2.2.2.2.2.1
theorem G_m90 {w : Wco} (h : GW w) : isI w 90 8 := h.2.2.2.2.2.2.2.2.2.2.2.2.2.2.2.2.2.2.2.2.2.2.1
theorem G_m91 {w : Wco} (h : GW w) : isI w 91 6 := h.2.2.2.2.2.2.2.2.2.2.2.2.2.2.2.2.2.2.2.2.2.2.2.1
theorem G_m92 {w : Wco} (h : GW w) : isI w 92 64 := h.2.2.2.2.2.2.2.2.2.2.2.2.2.2.2.2.2.2.2.2.2.2.2.2.1
theorem G_m93 {w : Wco} (h : GW w) : isI w 93 64 := h.2.2.2.2.2.2.2.2.2.2.2.2.2.2.2.2.2.2.2.2.2.2.2.2.2.1
theorem G_m94 {w : Wco} (h : GW w) : isI w 94 150 := h.2.2.2.2.2.2.2.2.2.2.2.2.2.2.2.2.2.2.2.2.2.2.2.2.2.2.1
theorem G_m95 {w : Wco} (h : GW w) : isI w 95 105 := h.2.2.2.2.2.2.2.2.2.2.2.2.2.2.2.2.2.2.2.2.2.2.2.2.2.2.2.1
theorem G_m96 {w : Wco} (h : GW w) : isI w 96 4 := h.2.2.2.2.2.2.2.2.2.2.2.2.2.2.2.2.2.2.2.2.2.2.2.2.2.2.2.2
theorem V_O {w : Wco} {r : Nat} (h : isV w r) : isO w r 10 (fsV w r) := h.1
theorem V_sorts {w : Wco} {r : Nat} (h : isV w r) : isI w (r + 1) 8 := h.2.1
theorem V_worths {w : Wco} {r : Nat} (h : isV w r) : isI w (r + 2) 8 := h.2.2.1
theorem V_kinds {w : Wco} {r : Nat} (h : isV w r) : isI w (r + 3) 6 := h.2.2.2.1
theorem V_arts {w : Wco} {r : Nat} (h : isV w r) : isI w (r + 4) 18 := h.2.2.2.2.1
theorem V_wins {w : Wco} {r : Nat} (h : isV w r) : isI w (r + 5) 6 := h.2.2.2.2.2.1
theorem V_seconds {w : Wco} {r : Nat} (h : isV w r) : isI w (r + 6) 6 := h.2.2.2.2.2.2.1
theorem V_firstOf {w : Wco} {r : Nat} (h : isV w r) : isI w (r + 7) 8 := h.2.2.2.2.2.2.2.1
theorem V_secondOf {w : Wco} {r : Nat} (h : isV w r) : isI w (r + 8) 8 := h.2.2.2.2.2.2.2.2.1
theorem V_notes {w : Wco} {r : Nat} (h : isV w r) : isT w (r + 9) := h.2.2.2.2.2.2.2.2.2.1
theorem V_beatings {w : Wco} {r : Nat} (h : isV w r) : isT w (r + 11) := h.2.2.2.2.2.2.2.2.2.2
theorem T_O {w : Wco} {r : Nat} (h : isT w r) : isO w r 9 (fsT w r) := h.1
theorem T_cells {w : Wco} {r : Nat} (h : isT w r) : isI w (r + 1) 24 := h.2
theorem C_O {w : Wco} {c : Nat} (h : isC w c) : isO w c 0 (fsC w c) := h.1.1
theorem C_chosen {w : Wco} {c : Nat} (h : isC w c) : isI w (c + 2) 6 := h.1.2
theorem C_ways {w : Wco} {c : Nat} (h : isC w c) : isR w (c + 1) 6 (c + 3) 1 2 "NobodyTwice$Plain" := h.2.1
theorem C_w0 {w : Wco} {c : Nat} (h : isC w c) : isO w (c + 3) 5 fs0 := h.2.2.1
theorem C_w1 {w : Wco} {c : Nat} (h : isC w c) : isO w (c + 4) 7 fs0 := h.2.2.2.1
theorem C_w2 {w : Wco} {c : Nat} (h : isC w c) : isO w (c + 5) 3 fs0 := h.2.2.2.2.1
theorem C_w3 {w : Wco} {c : Nat} (h : isC w c) : isO w (c + 6) 6 fs0 := h.2.2.2.2.2.1
theorem C_w4 {w : Wco} {c : Nat} (h : isC w c) : isO w (c + 7) 1 fs0 := h.2.2.2.2.2.2.1
theorem C_w5 {w : Wco} {c : Nat} (h : isC w c) : isO w (c + 8) 4 fs0 := h.2.2.2.2.2.2.2
theorem G_im {w : Wco} (h : GW w) {j : Nat} (hj : j < 2) : isV w (29 + 13 * j) := by
  rcases (show j = 0 ∨ j = 1 by omega) with rfl | rfl
  · exact G_im0 h
  · exact G_im1 h
theorem nf_0 : ("NobodyTwice$Valley", 65, "NobodyTwice$Table", "rows", "I", "NobodyTwice") ∈ nwF := List.mem_of_getElem? (i := 0) rfl
theorem nf_1 : ("NobodyTwice$Contest", 122, "NobodyTwice$Table", "rows", "I", "NobodyTwice") ∈ nwF := List.mem_of_getElem? (i := 1) rfl
theorem nf_2 : ("NobodyTwice", 208, "NobodyTwice$Table", "rows", "I", "NobodyTwice") ∈ nwF := List.mem_of_getElem? (i := 2) rfl
theorem nf_3 : ("NobodyTwice$Foresight", 69, "NobodyTwice$Valley", "sorts", "[I", "NobodyTwice") ∈ nwF := List.mem_of_getElem? (i := 3) rfl
theorem nf_4 : ("NobodyTwice$Contest", 76, "NobodyTwice$Valley", "sorts", "[I", "NobodyTwice") ∈ nwF := List.mem_of_getElem? (i := 4) rfl
theorem nf_5 : ("NobodyTwice", 154, "NobodyTwice$Valley", "sorts", "[I", "NobodyTwice") ∈ nwF := List.mem_of_getElem? (i := 5) rfl
theorem nf_6 : ("NobodyTwice", 72, "NobodyTwice$Valley", "worths", "[I", "NobodyTwice") ∈ nwF := List.mem_of_getElem? (i := 6) rfl
theorem nf_7 : ("NobodyTwice$Contest", 83, "NobodyTwice$Valley", "worths", "[I", "NobodyTwice") ∈ nwF := List.mem_of_getElem? (i := 7) rfl
theorem nf_8 : ("NobodyTwice$Foresight", 113, "NobodyTwice$Valley", "worths", "[I", "NobodyTwice") ∈ nwF := List.mem_of_getElem? (i := 8) rfl
theorem nf_9 : ("NobodyTwice$Contest", 54, "NobodyTwice$Valley", "kinds", "[I", "NobodyTwice") ∈ nwF := List.mem_of_getElem? (i := 9) rfl
theorem nf_10 : ("NobodyTwice", 138, "NobodyTwice$Valley", "kinds", "[I", "NobodyTwice") ∈ nwF := List.mem_of_getElem? (i := 10) rfl
theorem nf_11 : ("NobodyTwice$Contest", 90, "NobodyTwice$Valley", "arts", "[I", "NobodyTwice") ∈ nwF := List.mem_of_getElem? (i := 11) rfl
theorem nf_12 : ("NobodyTwice", 151, "NobodyTwice$Valley", "arts", "[I", "NobodyTwice") ∈ nwF := List.mem_of_getElem? (i := 12) rfl
theorem nf_13 : ("NobodyTwice$Contest", 59, "NobodyTwice$Valley", "wins", "[I", "NobodyTwice") ∈ nwF := List.mem_of_getElem? (i := 13) rfl
theorem nf_14 : ("NobodyTwice$Foresight", 66, "NobodyTwice$Valley", "wins", "[I", "NobodyTwice") ∈ nwF := List.mem_of_getElem? (i := 14) rfl
theorem nf_15 : ("NobodyTwice", 141, "NobodyTwice$Valley", "wins", "[I", "NobodyTwice") ∈ nwF := List.mem_of_getElem? (i := 15) rfl
theorem nf_16 : ("NobodyTwice", 144, "NobodyTwice$Valley", "seconds", "[I", "NobodyTwice") ∈ nwF := List.mem_of_getElem? (i := 16) rfl
theorem nf_17 : ("NobodyTwice", 204, "NobodyTwice$Valley", "notes", "LNobodyTwice$Table;", "NobodyTwice") ∈ nwF := List.mem_of_getElem? (i := 17) rfl
theorem nf_18 : ("NobodyTwice$Contest", 134, "NobodyTwice$Valley", "beatings", "LNobodyTwice$Table;", "NobodyTwice") ∈ nwF := List.mem_of_getElem? (i := 18) rfl
theorem nf_19 : ("NobodyTwice", 216, "NobodyTwice$Valley", "beatings", "LNobodyTwice$Table;", "NobodyTwice") ∈ nwF := List.mem_of_getElem? (i := 19) rfl
theorem nf_20 : ("NobodyTwice", 57, "NobodyTwice$Valley", "people", "I", "NobodyTwice") ∈ nwF := List.mem_of_getElem? (i := 20) rfl
theorem nf_21 : ("NobodyTwice$Script", 68, "NobodyTwice$Valley", "people", "I", "NobodyTwice") ∈ nwF := List.mem_of_getElem? (i := 21) rfl
theorem nf_22 : ("NobodyTwice$Foresight", 63, "NobodyTwice$Valley", "people", "I", "NobodyTwice") ∈ nwF := List.mem_of_getElem? (i := 22) rfl
theorem nf_23 : ("NobodyTwice$Contest", 72, "NobodyTwice$Valley", "people", "I", "NobodyTwice") ∈ nwF := List.mem_of_getElem? (i := 23) rfl
theorem nf_24 : ("NobodyTwice$Foresight", 38, "NobodyTwice$Valley", "year", "I", "NobodyTwice") ∈ nwF := List.mem_of_getElem? (i := 24) rfl
theorem nf_25 : ("NobodyTwice", 109, "NobodyTwice$Valley", "year", "I", "NobodyTwice") ∈ nwF := List.mem_of_getElem? (i := 25) rfl
theorem nf_26 : ("NobodyTwice$Contest", 106, "NobodyTwice$Valley", "year", "I", "NobodyTwice") ∈ nwF := List.mem_of_getElem? (i := 26) rfl
theorem nf_27 : ("NobodyTwice", 80, "NobodyTwice$Valley", "undoable", "I", "NobodyTwice") ∈ nwF := List.mem_of_getElem? (i := 27) rfl
theorem nf_28 : ("NobodyTwice", 167, "NobodyTwice$Contest", "entrants", "I", "NobodyTwice") ∈ nwF := List.mem_of_getElem? (i := 28) rfl
theorem nf_29 : ("NobodyTwice$Foresight", 46, "NobodyTwice$Contest", "first", "I", "NobodyTwice") ∈ nwF := List.mem_of_getElem? (i := 29) rfl
theorem nf_30 : ("NobodyTwice", 122, "NobodyTwice$Contest", "first", "I", "NobodyTwice") ∈ nwF := List.mem_of_getElem? (i := 30) rfl
theorem nf_31 : ("NobodyTwice$Foresight", 49, "NobodyTwice$Contest", "second", "I", "NobodyTwice") ∈ nwF := List.mem_of_getElem? (i := 31) rfl
theorem nf_32 : ("NobodyTwice", 125, "NobodyTwice$Contest", "second", "I", "NobodyTwice") ∈ nwF := List.mem_of_getElem? (i := 32) rfl
theorem nf_33 : ("NobodyTwice", 176, "NobodyTwice$Foresight", "trial", "LNobodyTwice$Valley;", "NobodyTwice") ∈ nwF := List.mem_of_getElem? (i := 33) rfl
theorem nf_34 : ("NobodyTwice", 94, "NobodyTwice$Script", "length", "I", "NobodyTwice") ∈ nwF := List.mem_of_getElem? (i := 34) rfl
theorem nm_0 : ("NobodyTwice$Valley", 38, (⟨"NobodyTwice$Table", "<init>", "()V"⟩ : MethodName), "NobodyTwice") ∈ nwM := List.mem_of_getElem? (i := 0) rfl
theorem nm_1 : ("NobodyTwice$Contest", 21, (⟨"NobodyTwice$Plain", "<init>", "()V"⟩ : MethodName), "NobodyTwice") ∈ nwM := List.mem_of_getElem? (i := 1) rfl
theorem nm_2 : ("NobodyTwice$Contest", 24, (⟨"NobodyTwice$Saver", "<init>", "()V"⟩ : MethodName), "NobodyTwice") ∈ nwM := List.mem_of_getElem? (i := 2) rfl
theorem nm_3 : ("NobodyTwice$Saver", 1, (⟨"NobodyTwice$Plain", "<init>", "()V"⟩ : MethodName), "NobodyTwice") ∈ nwM := List.mem_of_getElem? (i := 3) rfl
theorem nm_4 : ("NobodyTwice$Contest", 27, (⟨"NobodyTwice$Hider", "<init>", "()V"⟩ : MethodName), "NobodyTwice") ∈ nwM := List.mem_of_getElem? (i := 4) rfl
theorem nm_5 : ("NobodyTwice$Hider", 1, (⟨"NobodyTwice$Plain", "<init>", "()V"⟩ : MethodName), "NobodyTwice") ∈ nwM := List.mem_of_getElem? (i := 5) rfl
theorem nm_6 : ("NobodyTwice$Contest", 30, (⟨"NobodyTwice$Proud", "<init>", "()V"⟩ : MethodName), "NobodyTwice") ∈ nwM := List.mem_of_getElem? (i := 6) rfl
theorem nm_7 : ("NobodyTwice$Proud", 1, (⟨"NobodyTwice$Saver", "<init>", "()V"⟩ : MethodName), "NobodyTwice") ∈ nwM := List.mem_of_getElem? (i := 7) rfl
theorem nm_8 : ("NobodyTwice$Contest", 33, (⟨"NobodyTwice$Dog", "<init>", "()V"⟩ : MethodName), "NobodyTwice") ∈ nwM := List.mem_of_getElem? (i := 8) rfl
theorem nm_9 : ("NobodyTwice$Dog", 1, (⟨"NobodyTwice$Plain", "<init>", "()V"⟩ : MethodName), "NobodyTwice") ∈ nwM := List.mem_of_getElem? (i := 9) rfl
theorem nm_10 : ("NobodyTwice$Contest", 36, (⟨"NobodyTwice$Old", "<init>", "()V"⟩ : MethodName), "NobodyTwice") ∈ nwM := List.mem_of_getElem? (i := 10) rfl
theorem nm_11 : ("NobodyTwice$Old", 1, (⟨"NobodyTwice$Saver", "<init>", "()V"⟩ : MethodName), "NobodyTwice") ∈ nwM := List.mem_of_getElem? (i := 11) rfl
theorem nm_12 : ("NobodyTwice", 45, (⟨"NobodyTwice$Script", "<init>", "()V"⟩ : MethodName), "NobodyTwice") ∈ nwM := List.mem_of_getElem? (i := 12) rfl
theorem nm_13 : ("NobodyTwice$Script", 75, (⟨"NobodyTwice", "within", "(III)Z"⟩ : MethodName), "NobodyTwice") ∈ nwM := List.mem_of_getElem? (i := 13) rfl
theorem nm_14 : ("NobodyTwice$Contest", 46, (⟨"NobodyTwice", "within", "(III)Z"⟩ : MethodName), "NobodyTwice") ∈ nwM := List.mem_of_getElem? (i := 14) rfl
theorem nm_15 : ("NobodyTwice$Valley", 82, (⟨"NobodyTwice", "within", "(III)Z"⟩ : MethodName), "NobodyTwice") ∈ nwM := List.mem_of_getElem? (i := 15) rfl
section ROWS5
variable {M : Mco} {w : Wco} {cc : ByteArray} {nL : Nat} {own : String} {c0 : Cond} {ret : Option FieldType} {rm : Room} {ρ : Type} {ov : ρ → Option Value} {pc : Nat} {lv : List (Nat × Value)} {st : List Value} {σ : Sta} {F F2 : Option (ρ × Sta)}
theorem r_iald (C : Cx M w cc nL own c0 ret rm) {n kk : Nat} {i : Int32} {K : Int32 → Option (ρ × Sta)} (h : isI w kk n) (hd : decode cc pc = .ok (.iaload, 1)) (k : ∀ v, Sm M w nL ov (pc + 1) lv (.int v :: st) σ (K v)) : Sm M w nL ov pc lv (.int i :: .ref (wad w kk) :: st) σ (aI σ kk n i K) := by
  obtain ⟨h1, cI, h2, h3⟩ := h
  exact sm_iald C h3 h1 h2 hd k
theorem r_iast (C : Cx M w cc nL own c0 ret rm) {n kk : Nat} {i v : Int32} {K : Sta → Option (ρ × Sta)} (h : isI w kk n) (hd : decode cc pc = .ok (.iastore, 1)) (k : ∀ σ1, Sm M w nL ov (pc + 1) lv st σ1 (K σ1)) : Sm M w nL ov pc lv (.int v :: .int i :: .ref (wad w kk) :: st) σ (sI σ kk n i v K) := by
  obtain ⟨h1, cI, h2, h3⟩ := h
  exact sm_iast C h3 h1 h2 hd k
theorem r_zald (C : Cx M w cc nL own c0 ret rm) {n kk : Nat} {i : Int32} {K : Int32 → Option (ρ × Sta)} (h : isZ w kk n) (hd : decode cc pc = .ok (.baload, 1)) (k : ∀ v, Sm M w nL ov (pc + 1) lv (.int v :: st) σ (K v)) : Sm M w nL ov pc lv (.int i :: .ref (wad w kk) :: st) σ (aI σ kk n i K) := by
  obtain ⟨h1, cI, h2, h3⟩ := h
  exact sm_zald C h3 h1 h2 hd k
theorem r_zast (C : Cx M w cc nL own c0 ret rm) {n kk : Nat} {i v : Int32} {K : Sta → Option (ρ × Sta)} (h : isZ w kk n) (hd : decode cc pc = .ok (.bastore, 1)) (k : ∀ σ1, Sm M w nL ov (pc + 1) lv st σ1 (K σ1)) : Sm M w nL ov pc lv (.int v :: .int i :: .ref (wad w kk) :: st) σ (sZ σ kk n i v K) := by
  obtain ⟨h1, cI, h2, h3⟩ := h
  exact sm_zast C h3 h1 h2 hd k
theorem r_aald (C : Cx M w cc nL own c0 ret rm) {E : String} {n kk b t ti : Nat} {i : Int32} {K : Nat → Option (ρ × Sta)} (h : isR w kk n b t ti E) (hd : decode cc pc = .ok (.aaload, 1)) (k : ∀ j, j < n → Sm M w nL ov (pc + 1) lv (.ref (wad w (b + t * j)) :: st) σ (K j)) : Sm M w nL ov pc lv (.int i :: .ref (wad w kk) :: st) σ (aR n i K) := by
  obtain ⟨h1, cI, h2, h3⟩ := h
  exact sm_aald C h3 h1 h2 hd k
theorem r_alen (C : Cx M w cc nL own c0 ret rm) {n kk : Nat} (v : Int32) (h : isI w kk n) (hv : Int32.ofNat n = v) (hd : decode cc pc = .ok (.arraylength, 1)) (k : Sm M w nL ov (pc + 1) lv (.int v :: st) σ F) : Sm M w nL ov pc lv (.ref (wad w kk) :: st) σ F := by
  obtain ⟨h1, cI, h2, h3⟩ := h
  exact sm_alen C v h3 h1 h2 hv hd k
theorem r_copy (C : Cx M w cc nL own c0 ret rm) {n0 n1 k0 k1 index : Nat} {z : Int32} (m : Nat) {K : Sta → Option (ρ × Sta)} (h0 : isI w k0 n0) (h1 : isI w k1 n1) (hlink : Cond.methodLink own index arraycopyName ∈ GT) (hz : z = nI m) (hm0 : m ≤ n0) (hm1 : m ≤ n1) (hm : m < 2 ^ 31) (hfr : 1 ≤ rm.frames) (hlo : (st.map fun v => v.category).sum + (nativeFrameWords "java/lang/System" "arraycopy" 5 + 11) ≤ rm.locals) (hd : decode cc pc = .ok (.invokestatic index, 3)) (k : ∀ σ1, Sm M w nL ov (pc + 3) lv st σ1 (K σ1)) : Sm M w nL ov pc lv (.int z :: .int 0 :: .ref (wad w k1) :: .int 0 :: .ref (wad w k0) :: st) σ (cpI σ k0 k1 m K) := by
  obtain ⟨a1, cI, a2, a3⟩ := h0
  obtain ⟨b1, cI', b2, b3⟩ := h1
  rw [a2] at b2
  cases b2
  exact sm_copy C a3 a1 b3 b1 a2 hlink kw_491 kw_490 kw_69 hz hm0 hm1 hm hfr hlo hd k
theorem r_max (C : Cx M w cc nL own c0 ret rm) {index : Nat} {x y : Int32} (hlink : Cond.methodLink own index Lib.Math.max.name ∈ GT) (hfr : 1 ≤ rm.frames) (hlo : (st.map fun v => v.category).sum + 13 ≤ rm.locals) (hd : decode cc pc = .ok (.invokestatic index, 3)) (k : Sm M w nL ov (pc + 3) lv (.int (if x < y then y else x) :: st) σ F) : Sm M w nL ov pc lv (.int y :: .int x :: st) σ F := sm_max C hlink kw_569 kw_71 kw_570 hfr hlo hd k
theorem r_callVI {f : Option (Int32 × Sta)} {K : Int32 → Sta → Option (ρ × Sta)} (C : Cx M w cc nL own c0 ret rm) {R : String} {T : u_T} {N ci index kk mx n : Nat} {fs : (Nat → Int32) → (Nat → Int64) → List Value} {y : MethodName} {b : ByteArray} {rt : Option FieldType} {rmc : Room} (As : List Value) (hO : isO w kk ci fs) (hc : cls[ci]? = some (R, T, N)) (hM : ∀ q σ1, f = some (q, σ1) → Ct (mL M) w y (Cond.code y b mx rt :: GT) rmc (.ref (wad w kk) :: As) σ (oI q) σ1) (h1 : Cond.methodLink own index y ∈ GT) (h2 : Cond.instanceMethod y ∈ GT) (h3 : Cond.selects R y y ∈ GT) (h4 : Cond.initialized R ∈ GT) (h5 : Cond.code y b mx rt ∈ GT) (hd : decode cc pc = .ok (.invokevirtual index, 3)) (hn : As.length = n) (hdd : y.cls = R ∧ y.cls ≠ "java/lang/invoke/MethodHandle" ∧ y.cls ≠ "java/lang/invoke/VarHandle" ∧ (parseMethodDescriptor y.desc).map (fun d => d.parameters.length) = some n) (hrc : rmc.cells = 0 ∧ rmc.slots = 0) (hR : rmc.frames + 1 ≤ rm.frames ∧ 8 + (mx + 11) + rmc.locals ≤ rm.locals) (hst : (st.map fun v => v.category).sum ≤ 8) (st0 : List Value) (hst0 : st0 = As.reverse ++ .ref (wad w kk) :: st) (k : ∀ (q : Int32) (σ1 : Sta), Sm M w nL ov (pc + 3) lv (.int q :: st) σ1 (K q σ1)) : Sm M w nL ov pc lv st0 σ (cA f K) :=
  sm_callV (ov2 := oI) C As hO.2 hO.1 hc hM h1 h2 h3 h4 h5 hd hn hrc.1 hrc.2 hdd hR hst st0 hst0 k
theorem r_callVL {f : Option (Int64 × Sta)} {K : Int64 → Sta → Option (ρ × Sta)} (C : Cx M w cc nL own c0 ret rm) {R : String} {T : u_T} {N ci index kk mx n : Nat} {fs : (Nat → Int32) → (Nat → Int64) → List Value} {y : MethodName} {b : ByteArray} {rt : Option FieldType} {rmc : Room} (As : List Value) (hO : isO w kk ci fs) (hc : cls[ci]? = some (R, T, N)) (hM : ∀ q σ1, f = some (q, σ1) → Ct (mL M) w y (Cond.code y b mx rt :: GT) rmc (.ref (wad w kk) :: As) σ (oL q) σ1) (h1 : Cond.methodLink own index y ∈ GT) (h2 : Cond.instanceMethod y ∈ GT) (h3 : Cond.selects R y y ∈ GT) (h4 : Cond.initialized R ∈ GT) (h5 : Cond.code y b mx rt ∈ GT) (hd : decode cc pc = .ok (.invokevirtual index, 3)) (hn : As.length = n) (hdd : y.cls = R ∧ y.cls ≠ "java/lang/invoke/MethodHandle" ∧ y.cls ≠ "java/lang/invoke/VarHandle" ∧ (parseMethodDescriptor y.desc).map (fun d => d.parameters.length) = some n) (hrc : rmc.cells = 0 ∧ rmc.slots = 0) (hR : rmc.frames + 1 ≤ rm.frames ∧ 8 + (mx + 11) + rmc.locals ≤ rm.locals) (hst : (st.map fun v => v.category).sum ≤ 8) (st0 : List Value) (hst0 : st0 = As.reverse ++ .ref (wad w kk) :: st) (k : ∀ (q : Int64) (σ1 : Sta), Sm M w nL ov (pc + 3) lv (.long q :: st) σ1 (K q σ1)) : Sm M w nL ov pc lv st0 σ (cA f K) :=
  sm_callV (ov2 := oL) C As hO.2 hO.1 hc hM h1 h2 h3 h4 h5 hd hn hrc.1 hrc.2 hdd hR hst st0 hst0 k
theorem r_callVU {f : Option (Unit × Sta)} {K : Unit → Sta → Option (ρ × Sta)} (C : Cx M w cc nL own c0 ret rm) {R : String} {T : u_T} {N ci index kk mx n : Nat} {fs : (Nat → Int32) → (Nat → Int64) → List Value} {y : MethodName} {b : ByteArray} {rt : Option FieldType} {rmc : Room} (As : List Value) (hO : isO w kk ci fs) (hc : cls[ci]? = some (R, T, N)) (hM : ∀ q σ1, f = some (q, σ1) → Ct (mL M) w y (Cond.code y b mx rt :: GT) rmc (.ref (wad w kk) :: As) σ (oV q) σ1) (h1 : Cond.methodLink own index y ∈ GT) (h2 : Cond.instanceMethod y ∈ GT) (h3 : Cond.selects R y y ∈ GT) (h4 : Cond.initialized R ∈ GT) (h5 : Cond.code y b mx rt ∈ GT) (hd : decode cc pc = .ok (.invokevirtual index, 3)) (hn : As.length = n) (hdd : y.cls = R ∧ y.cls ≠ "java/lang/invoke/MethodHandle" ∧ y.cls ≠ "java/lang/invoke/VarHandle" ∧ (parseMethodDescriptor y.desc).map (fun d => d.parameters.length) = some n) (hrc : rmc.cells = 0 ∧ rmc.slots = 0) (hR : rmc.frames + 1 ≤ rm.frames ∧ 8 + (mx + 11) + rmc.locals ≤ rm.locals) (hst : (st.map fun v => v.category).sum ≤ 8) (st0 : List Value) (hst0 : st0 = As.reverse ++ .ref (wad w kk) :: st) (k : ∀ (q : Unit) (σ1 : Sta), Sm M w nL ov (pc + 3) lv (st) σ1 (K q σ1)) : Sm M w nL ov pc lv st0 σ (cA f K) :=
  sm_callV (ov2 := oV) C As hO.2 hO.1 hc hM h1 h2 h3 h4 h5 hd hn hrc.1 hrc.2 hdd hR hst st0 hst0 k
theorem r_callSI {f : Option (Int32 × Sta)} {K : Int32 → Sta → Option (ρ × Sta)} (C : Cx M w cc nL own c0 ret rm) {index mx n : Nat} {y : MethodName} {b : ByteArray} {rt : Option FieldType} {rmc : Room} (As : List Value) (hM : ∀ q σ1, f = some (q, σ1) → Ct (mL M) w y (Cond.code y b mx rt :: GT) rmc As σ (oI q) σ1) (h1 : Cond.methodLink own index y ∈ GT) (h2 : Cond.static y ∈ GT) (h4 : Cond.initialized y.cls ∈ GT) (h5 : Cond.code y b mx rt ∈ GT) (hd : decode cc pc = .ok (.invokestatic index, 3)) (hn : As.length = n) (hdd : y.cls ≠ "java/lang/invoke/MethodHandle" ∧ y.cls ≠ "java/lang/invoke/VarHandle" ∧ (parseMethodDescriptor y.desc).map (fun d => d.parameters.length) = some n) (hrc : rmc.cells = 0 ∧ rmc.slots = 0) (hR : rmc.frames + 1 ≤ rm.frames ∧ 8 + (mx + 11) + rmc.locals ≤ rm.locals) (hst : (st.map fun v => v.category).sum ≤ 8) (st0 : List Value) (hst0 : st0 = As.reverse ++ st) (k : ∀ (q : Int32) (σ1 : Sta), Sm M w nL ov (pc + 3) lv (.int q :: st) σ1 (K q σ1)) : Sm M w nL ov pc lv st0 σ (cA f K) :=
  sm_callS (ov2 := oI) C As hM h1 h2 h4 h5 hd hn hrc.1 hrc.2 hdd hR hst st0 hst0 k
theorem r_callSL {f : Option (Int64 × Sta)} {K : Int64 → Sta → Option (ρ × Sta)} (C : Cx M w cc nL own c0 ret rm) {index mx n : Nat} {y : MethodName} {b : ByteArray} {rt : Option FieldType} {rmc : Room} (As : List Value) (hM : ∀ q σ1, f = some (q, σ1) → Ct (mL M) w y (Cond.code y b mx rt :: GT) rmc As σ (oL q) σ1) (h1 : Cond.methodLink own index y ∈ GT) (h2 : Cond.static y ∈ GT) (h4 : Cond.initialized y.cls ∈ GT) (h5 : Cond.code y b mx rt ∈ GT) (hd : decode cc pc = .ok (.invokestatic index, 3)) (hn : As.length = n) (hdd : y.cls ≠ "java/lang/invoke/MethodHandle" ∧ y.cls ≠ "java/lang/invoke/VarHandle" ∧ (parseMethodDescriptor y.desc).map (fun d => d.parameters.length) = some n) (hrc : rmc.cells = 0 ∧ rmc.slots = 0) (hR : rmc.frames + 1 ≤ rm.frames ∧ 8 + (mx + 11) + rmc.locals ≤ rm.locals) (hst : (st.map fun v => v.category).sum ≤ 8) (st0 : List Value) (hst0 : st0 = As.reverse ++ st) (k : ∀ (q : Int64) (σ1 : Sta), Sm M w nL ov (pc + 3) lv (.long q :: st) σ1 (K q σ1)) : Sm M w nL ov pc lv st0 σ (cA f K) :=
  sm_callS (ov2 := oL) C As hM h1 h2 h4 h5 hd hn hrc.1 hrc.2 hdd hR hst st0 hst0 k
theorem r_callSU {f : Option (Unit × Sta)} {K : Unit → Sta → Option (ρ × Sta)} (C : Cx M w cc nL own c0 ret rm) {index mx n : Nat} {y : MethodName} {b : ByteArray} {rt : Option FieldType} {rmc : Room} (As : List Value) (hM : ∀ q σ1, f = some (q, σ1) → Ct (mL M) w y (Cond.code y b mx rt :: GT) rmc As σ (oV q) σ1) (h1 : Cond.methodLink own index y ∈ GT) (h2 : Cond.static y ∈ GT) (h4 : Cond.initialized y.cls ∈ GT) (h5 : Cond.code y b mx rt ∈ GT) (hd : decode cc pc = .ok (.invokestatic index, 3)) (hn : As.length = n) (hdd : y.cls ≠ "java/lang/invoke/MethodHandle" ∧ y.cls ≠ "java/lang/invoke/VarHandle" ∧ (parseMethodDescriptor y.desc).map (fun d => d.parameters.length) = some n) (hrc : rmc.cells = 0 ∧ rmc.slots = 0) (hR : rmc.frames + 1 ≤ rm.frames ∧ 8 + (mx + 11) + rmc.locals ≤ rm.locals) (hst : (st.map fun v => v.category).sum ≤ 8) (st0 : List Value) (hst0 : st0 = As.reverse ++ st) (k : ∀ (q : Unit) (σ1 : Sta), Sm M w nL ov (pc + 3) lv (st) σ1 (K q σ1)) : Sm M w nL ov pc lv st0 σ (cA f K) :=
  sm_callS (ov2 := oV) C As hM h1 h2 h4 h5 hd hn hrc.1 hrc.2 hdd hR hst st0 hst0 k
theorem r_callSNI {f : Option (Int32 × Sta)} {K : Int32 → Sta → Option (ρ × Sta)} (C : Cx M w cc nL own c0 ret rm) {index mx n : Nat} {host : String} {y : MethodName} {b : ByteArray} {rt : Option FieldType} {rmc : Room} (As : List Value) (hM : ∀ q σ1, f = some (q, σ1) → Ct (mL M) w y (Cond.code y b mx rt :: GT) rmc As σ (oI q) σ1) (h1 : (own, index, y, host) ∈ nwM) (h2 : Cond.static y ∈ GT) (h4 : Cond.initialized y.cls ∈ GT) (h5 : Cond.code y b mx rt ∈ GT) (hd : decode cc pc = .ok (.invokestatic index, 3)) (hn : As.length = n) (hdd : y.cls ≠ "java/lang/invoke/MethodHandle" ∧ y.cls ≠ "java/lang/invoke/VarHandle" ∧ (parseMethodDescriptor y.desc).map (fun d => d.parameters.length) = some n) (hrc : rmc.cells = 0 ∧ rmc.slots = 0) (hR : rmc.frames + 1 ≤ rm.frames ∧ 8 + (mx + 11) + rmc.locals ≤ rm.locals) (hst : (st.map fun v => v.category).sum ≤ 8) (st0 : List Value) (hst0 : st0 = As.reverse ++ st) (k : ∀ (q : Int32) (σ1 : Sta), Sm M w nL ov (pc + 3) lv (.int q :: st) σ1 (K q σ1)) : Sm M w nL ov pc lv st0 σ (cA f K) :=
  sm_callSN (ov2 := oI) C As hM h1 h2 h4 h5 hd hn hrc.1 hrc.2 hdd hR hst st0 hst0 k
theorem r_callSNL {f : Option (Int64 × Sta)} {K : Int64 → Sta → Option (ρ × Sta)} (C : Cx M w cc nL own c0 ret rm) {index mx n : Nat} {host : String} {y : MethodName} {b : ByteArray} {rt : Option FieldType} {rmc : Room} (As : List Value) (hM : ∀ q σ1, f = some (q, σ1) → Ct (mL M) w y (Cond.code y b mx rt :: GT) rmc As σ (oL q) σ1) (h1 : (own, index, y, host) ∈ nwM) (h2 : Cond.static y ∈ GT) (h4 : Cond.initialized y.cls ∈ GT) (h5 : Cond.code y b mx rt ∈ GT) (hd : decode cc pc = .ok (.invokestatic index, 3)) (hn : As.length = n) (hdd : y.cls ≠ "java/lang/invoke/MethodHandle" ∧ y.cls ≠ "java/lang/invoke/VarHandle" ∧ (parseMethodDescriptor y.desc).map (fun d => d.parameters.length) = some n) (hrc : rmc.cells = 0 ∧ rmc.slots = 0) (hR : rmc.frames + 1 ≤ rm.frames ∧ 8 + (mx + 11) + rmc.locals ≤ rm.locals) (hst : (st.map fun v => v.category).sum ≤ 8) (st0 : List Value) (hst0 : st0 = As.reverse ++ st) (k : ∀ (q : Int64) (σ1 : Sta), Sm M w nL ov (pc + 3) lv (.long q :: st) σ1 (K q σ1)) : Sm M w nL ov pc lv st0 σ (cA f K) :=
  sm_callSN (ov2 := oL) C As hM h1 h2 h4 h5 hd hn hrc.1 hrc.2 hdd hR hst st0 hst0 k
theorem r_callSNU {f : Option (Unit × Sta)} {K : Unit → Sta → Option (ρ × Sta)} (C : Cx M w cc nL own c0 ret rm) {index mx n : Nat} {host : String} {y : MethodName} {b : ByteArray} {rt : Option FieldType} {rmc : Room} (As : List Value) (hM : ∀ q σ1, f = some (q, σ1) → Ct (mL M) w y (Cond.code y b mx rt :: GT) rmc As σ (oV q) σ1) (h1 : (own, index, y, host) ∈ nwM) (h2 : Cond.static y ∈ GT) (h4 : Cond.initialized y.cls ∈ GT) (h5 : Cond.code y b mx rt ∈ GT) (hd : decode cc pc = .ok (.invokestatic index, 3)) (hn : As.length = n) (hdd : y.cls ≠ "java/lang/invoke/MethodHandle" ∧ y.cls ≠ "java/lang/invoke/VarHandle" ∧ (parseMethodDescriptor y.desc).map (fun d => d.parameters.length) = some n) (hrc : rmc.cells = 0 ∧ rmc.slots = 0) (hR : rmc.frames + 1 ≤ rm.frames ∧ 8 + (mx + 11) + rmc.locals ≤ rm.locals) (hst : (st.map fun v => v.category).sum ≤ 8) (st0 : List Value) (hst0 : st0 = As.reverse ++ st) (k : ∀ (q : Unit) (σ1 : Sta), Sm M w nL ov (pc + 3) lv (st) σ1 (K q σ1)) : Sm M w nL ov pc lv st0 σ (cA f K) :=
  sm_callSN (ov2 := oV) C As hM h1 h2 h4 h5 hd hn hrc.1 hrc.2 hdd hR hst st0 hst0 k
/-- a switch: the ways one by one -/
def tsw' {β : Type} (x : Int32) : List (Int32 × Option β) → Option β → Option β
  | [], d => d
  | q :: r, d => if x = q.1 then q.2 else tsw' x r d
def TsOk (M : Mco) (w : Wco) (nL : Nat) (ov : ρ → Option Value) (pc : Nat) (lv : List (Nat × Value)) (st : List Value) (σ : Sta) (offs : Array Int) (lo : Int) : Nat → List (Int32 × Option (ρ × Sta)) → Prop
  | _, [] => True
  | j, q :: r => (q.1.toInt = lo + j ∧ ∃ (off : Int) (tg : Nat), offs[j]? = some off ∧ (pc : Int) + off = (tg : Int) ∧ Sm M w nL ov tg lv st σ q.2) ∧ TsOk M w nL ov pc lv st σ offs lo (j + 1) r
theorem tsw_out {β : Type} {M : Mco} {w : Wco} {nL : Nat} {ov : ρ → Option Value} {pc : Nat} {lv : List (Nat × Value)} {st : List Value} {σ : Sta} {offs : Array Int} {lo : Int} {x : Int32} {d : Option (ρ × Sta)} : ∀ (Fs : List (Int32 × Option (ρ × Sta))) (j : Nat), TsOk M w nL ov pc lv st σ offs lo j Fs → (x.toInt < lo + j ∨ lo + j + Fs.length ≤ x.toInt) → tsw' x Fs d = d
  | [], _, _, _ => rfl
  | q :: r, j, h, hx => by
    have h1 : ¬ x = q.1 := by
      intro e
      rw [e, h.1.1] at hx
      simp at hx
      omega
    rw [tsw', if_neg h1]
    refine tsw_out (β := β) r (j + 1) h.2 ?_
    simp at hx ⊢
    omega
theorem tsw_in {β : Type} {M : Mco} {w : Wco} {nL : Nat} {ov : ρ → Option Value} {pc : Nat} {lv : List (Nat × Value)} {st : List Value} {σ : Sta} {offs : Array Int} {lo : Int} {x : Int32} {d : Option (ρ × Sta)} : ∀ (Fs : List (Int32 × Option (ρ × Sta))) (j : Nat), TsOk M w nL ov pc lv st σ offs lo j Fs → lo + j ≤ x.toInt → x.toInt < lo + j + Fs.length → ∃ (off : Int) (tg : Nat), offs[(x.toInt - lo).toNat]? = some off ∧ (pc : Int) + off = (tg : Int) ∧ Sm M w nL ov tg lv st σ (tsw' x Fs d)
  | [], j, _, h1, h2 => by simp at h2; omega
  | q :: r, j, h, h1, h2 => by
    by_cases e : x = q.1
    · obtain ⟨⟨g1, off, tg, g2, g3, g4⟩, -⟩ := h
      refine ⟨off, tg, ?_, g3, ?_⟩
      · rw [e, g1, show (lo + (j : Int) - lo).toNat = j by omega]
        exact g2
      · rw [tsw', if_pos e]
        exact g4
    · rw [tsw', if_neg e]
      have ne : x.toInt ≠ lo + j := fun z => e (Int32.toInt_inj.mp (z.trans h.1.1.symm))
      refine tsw_in (β := β) r (j + 1) h.2 ?_ ?_
      · omega
      · simp at h2 ⊢
        omega
theorem r_table (C : Cx M w cc nL own c0 ret rm) {dflt lo hi : Int} {offs : Array Int} {len : Nat} {x : Int32} (tgt : Nat) {Fs : List (Int32 × Option (ρ × Sta))} (hd : decode cc pc = .ok (.tableswitch dflt lo hi offs, len)) (hlen : lo + (Fs.length : Int) = hi + 1) (ht : (pc : Int) + dflt = (tgt : Int)) (ks : TsOk M w nL ov pc lv st σ offs lo 0 Fs) (kd : Sm M w nL ov tgt lv st σ F) : Sm M w nL ov pc lv (.int x :: st) σ (tsw' x Fs F) := by
  intro r σ' e H locs ls hW hS hl
  by_cases hx : x.toInt < lo ∨ hi < x.toInt
  · rw [tsw_out (β := ρ) Fs 0 ks (by simp; omega)] at e
    exact lv_tableOut C.1 C.2.1 hd hx ht (kd r σ' e H locs ls hW hS hl)
  · obtain ⟨off, tg, h1, h2, h3⟩ := tsw_in (β := ρ) (x := x) (d := F) Fs 0 ks (by simp; omega) (by simp; omega)
    exact lv_tableIn C.1 C.2.1 hd (by omega) (by omega) (off := off) (tgt := tg) h1 h2 (h3 r σ' e H locs ls hW hS hl)
end ROWS5
theorem ic_m1 : Int32.ofInt (-1) = (-1 : Int32) := by decide
theorem ic_0 : Int32.ofInt (0) = (0 : Int32) := by decide
theorem ic_1 : Int32.ofInt (1) = (1 : Int32) := by decide
theorem ic_2 : Int32.ofInt (2) = (2 : Int32) := by decide
theorem ic_3 : Int32.ofInt (3) = (3 : Int32) := by decide
theorem ic_4 : Int32.ofInt (4) = (4 : Int32) := by decide
theorem ic_5 : Int32.ofInt (5) = (5 : Int32) := by decide
theorem bp_m10 : (Int8.ofInt (-10)).toInt32 = (-10 : Int32) := by decide
theorem bp_m5 : (Int8.ofInt (-5)).toInt32 = (-5 : Int32) := by decide
theorem bp_m4 : (Int8.ofInt (-4)).toInt32 = (-4 : Int32) := by decide
theorem bp_m3 : (Int8.ofInt (-3)).toInt32 = (-3 : Int32) := by decide
theorem bp_m2 : (Int8.ofInt (-2)).toInt32 = (-2 : Int32) := by decide
theorem bp_6 : (Int8.ofInt (6)).toInt32 = (6 : Int32) := by decide
theorem bp_7 : (Int8.ofInt (7)).toInt32 = (7 : Int32) := by decide
theorem bp_8 : (Int8.ofInt (8)).toInt32 = (8 : Int32) := by decide
theorem bp_9 : (Int8.ofInt (9)).toInt32 = (9 : Int32) := by decide
theorem bp_10 : (Int8.ofInt (10)).toInt32 = (10 : Int32) := by decide
theorem bp_11 : (Int8.ofInt (11)).toInt32 = (11 : Int32) := by decide
theorem bp_13 : (Int8.ofInt (13)).toInt32 = (13 : Int32) := by decide
theorem bp_15 : (Int8.ofInt (15)).toInt32 = (15 : Int32) := by decide
theorem bp_16 : (Int8.ofInt (16)).toInt32 = (16 : Int32) := by decide
theorem bp_17 : (Int8.ofInt (17)).toInt32 = (17 : Int32) := by decide
theorem bp_18 : (Int8.ofInt (18)).toInt32 = (18 : Int32) := by decide
theorem bp_23 : (Int8.ofInt (23)).toInt32 = (23 : Int32) := by decide
theorem bp_24 : (Int8.ofInt (24)).toInt32 = (24 : Int32) := by decide
theorem bp_30 : (Int8.ofInt (30)).toInt32 = (30 : Int32) := by decide
theorem bp_32 : (Int8.ofInt (32)).toInt32 = (32 : Int32) := by decide
theorem bp_41 : (Int8.ofInt (41)).toInt32 = (41 : Int32) := by decide
theorem bp_48 : (Int8.ofInt (48)).toInt32 = (48 : Int32) := by decide
theorem bp_49 : (Int8.ofInt (49)).toInt32 = (49 : Int32) := by decide
theorem bp_57 : (Int8.ofInt (57)).toInt32 = (57 : Int32) := by decide
theorem bp_59 : (Int8.ofInt (59)).toInt32 = (59 : Int32) := by decide
theorem bp_60 : (Int8.ofInt (60)).toInt32 = (60 : Int32) := by decide
theorem bp_63 : (Int8.ofInt (63)).toInt32 = (63 : Int32) := by decide
theorem bp_64 : (Int8.ofInt (64)).toInt32 = (64 : Int32) := by decide
theorem bp_81 : (Int8.ofInt (81)).toInt32 = (81 : Int32) := by decide
theorem bp_91 : (Int8.ofInt (91)).toInt32 = (91 : Int32) := by decide
theorem bp_97 : (Int8.ofInt (97)).toInt32 = (97 : Int32) := by decide
theorem bp_101 : (Int8.ofInt (101)).toInt32 = (101 : Int32) := by decide
theorem bp_105 : (Int8.ofInt (105)).toInt32 = (105 : Int32) := by decide
theorem bp_108 : (Int8.ofInt (108)).toInt32 = (108 : Int32) := by decide
theorem bp_110 : (Int8.ofInt (110)).toInt32 = (110 : Int32) := by decide
theorem bp_111 : (Int8.ofInt (111)).toInt32 = (111 : Int32) := by decide
theorem bp_112 : (Int8.ofInt (112)).toInt32 = (112 : Int32) := by decide
theorem bp_114 : (Int8.ofInt (114)).toInt32 = (114 : Int32) := by decide
theorem bp_118 : (Int8.ofInt (118)).toInt32 = (118 : Int32) := by decide
theorem bp_121 : (Int8.ofInt (121)).toInt32 = (121 : Int32) := by decide
theorem bp_122 : (Int8.ofInt (122)).toInt32 = (122 : Int32) := by decide
theorem bp_127 : (Int8.ofInt (127)).toInt32 = (127 : Int32) := by decide
theorem sp_150 : (Int16.ofInt (150)).toInt32 = (150 : Int32) := by decide
theorem sp_209 : (Int16.ofInt (209)).toInt32 = (209 : Int32) := by decide
theorem sp_255 : (Int16.ofInt (255)).toInt32 = (255 : Int32) := by decide
theorem sp_418 : (Int16.ofInt (418)).toInt32 = (418 : Int32) := by decide
theorem ii_1 (x : Int32) : x + Int32.ofInt (1) = x + (1 : Int32) := rfl
theorem ii_5 (x : Int32) : x + Int32.ofInt (5) = x + (5 : Int32) := rfl
theorem lc_0 : Int64.ofNat ((0 : Fin 2) : Nat) = (0 : Int64) := by decide
theorem lc_1 : Int64.ofNat ((1 : Fin 2) : Nat) = (1 : Int64) := by decide
theorem set_fsT_1 (w : Wco) (r : Nat) (f : Nat → Int32) (g : Nat → Int64) (v : Int32) : (fsT w r f g).set 1 (.int v) = fsT w r (upd f 1 v) g := rfl
theorem set_fsV_10 (w : Wco) (r : Nat) (f : Nat → Int32) (g : Nat → Int64) (v : Int32) : (fsV w r f g).set 10 (.int v) = fsV w r (upd f 10 v) g := rfl
theorem set_fsV_11 (w : Wco) (r : Nat) (f : Nat → Int32) (g : Nat → Int64) (v : Int32) : (fsV w r f g).set 11 (.int v) = fsV w r (upd f 11 v) g := rfl
theorem set_fsV_12 (w : Wco) (r : Nat) (f : Nat → Int32) (g : Nat → Int64) (v : Int32) : (fsV w r f g).set 12 (.int v) = fsV w r (upd f 12 v) g := rfl
theorem set_fsC_2 (w : Wco) (c : Nat) (f : Nat → Int32) (g : Nat → Int64) (v : Int32) : (fsC w c f g).set 2 (.int v) = fsC w c (upd f 2 v) g := rfl
theorem set_fsC_3 (w : Wco) (c : Nat) (f : Nat → Int32) (g : Nat → Int64) (v : Int32) : (fsC w c f g).set 3 (.int v) = fsC w c (upd f 3 v) g := rfl
theorem set_fsC_4 (w : Wco) (c : Nat) (f : Nat → Int32) (g : Nat → Int64) (v : Int32) : (fsC w c f g).set 4 (.int v) = fsC w c (upd f 4 v) g := rfl
theorem set_fsS_1 (w : Wco) (f : Nat → Int32) (g : Nat → Int64) (v : Int32) : (fsS w  f g).set 1 (.int v) = fsS w  (upd f 1 v) g := rfl
theorem set_fsS_2 (w : Wco) (f : Nat → Int32) (g : Nat → Int64) (v : Int32) : (fsS w  f g).set 2 (.int v) = fsS w  (upd f 2 v) g := rfl
theorem set_fsS_3 (w : Wco) (f : Nat → Int32) (g : Nat → Int64) (v : Int32) : (fsS w  f g).set 3 (.int v) = fsS w  (upd f 3 v) g := rfl
theorem set_fsS_4 (w : Wco) (f : Nat → Int32) (g : Nat → Int64) (v : Int32) : (fsS w  f g).set 4 (.int v) = fsS w  (upd f 4 v) g := rfl
theorem set_fsS_5 (w : Wco) (f : Nat → Int32) (g : Nat → Int64) (v : Int32) : (fsS w  f g).set 5 (.int v) = fsS w  (upd f 5 v) g := rfl
theorem set_fsN_9 (w : Wco) (f : Nat → Int32) (g : Nat → Int64) (v : Int32) : (fsN w  f g).set 9 (.int v) = fsN w  (upd f 9 v) g := rfl
theorem set_fsN_10 (w : Wco) (f : Nat → Int32) (g : Nat → Int64) (v : Int32) : (fsN w  f g).set 10 (.int v) = fsN w  (upd f 10 v) g := rfl
theorem set_fsN_11 (w : Wco) (f : Nat → Int32) (g : Nat → Int64) (v : Int32) : (fsN w  f g).set 11 (.int v) = fsN w  (upd f 11 v) g := rfl
theorem set_fsM_14 (w : Wco) (f : Nat → Int32) (g : Nat → Int64) (v : Int32) : (fsM w  f g).set 14 (.int v) = fsM w  (upd f 14 v) g := rfl
theorem set_fsM_15 (w : Wco) (f : Nat → Int32) (g : Nat → Int64) (v : Int32) : (fsM w  f g).set 15 (.int v) = fsM w  (upd f 15 v) g := rfl
theorem set_fsM_16 (w : Wco) (f : Nat → Int32) (g : Nat → Int64) (v : Int32) : (fsM w  f g).set 16 (.int v) = fsM w  (upd f 16 v) g := rfl
theorem set_fsM_17 (w : Wco) (f : Nat → Int32) (g : Nat → Int64) (v : Int32) : (fsM w  f g).set 17 (.int v) = fsM w  (upd f 17 v) g := rfl
theorem set_fsM_18 (w : Wco) (f : Nat → Int32) (g : Nat → Int64) (v : Int32) : (fsM w  f g).set 18 (.int v) = fsM w  (upd f 18 v) g := rfl
theorem set_fsN_7 (w : Wco) (f : Nat → Int32) (g : Nat → Int64) (v : Int64) : (fsN w f g).set 7 (.long v) = fsN w f (vp_updL g 7 v) := rfl
theorem set_fsN_8 (w : Wco) (f : Nat → Int32) (g : Nat → Int64) (v : Int64) : (fsN w f g).set 8 (.long v) = fsN w f (vp_updL g 8 v) := rfl
theorem set_fsM_4 (w : Wco) (f : Nat → Int32) (g : Nat → Int64) (v : Int64) : (fsM w f g).set 4 (.long v) = fsM w f (vp_updL g 4 v) := rfl
theorem set_fsM_5 (w : Wco) (f : Nat → Int32) (g : Nat → Int64) (v : Int64) : (fsM w f g).set 5 (.long v) = fsM w f (vp_updL g 5 v) := rfl
def FU : Nat := 300
