/-! PURE HALF 17: rivals -/
theorem m8 (i j : Nat) : nI i * 8 + nI j = nI (8 * i + j) := by
  have h : (8 : Int32) = nI 8 := rfl
  rw [h, pk_mul, nI_add, Nat.mul_comm]
theorem m8l (i j : Nat) : (8 : Int32) * nI i + nI j = nI (8 * i + j) := by
  have h : (8 : Int32) = nI 8 := rfl
  rw [h, pk_mul, nI_add]
abbrev rCh (a b i j : Nat) : Nat → Int32 := upd (upd ch0 a (nI i)) b (nI j)
abbrev rA (N : Nat → Int32) (n yr a b i j : Nat) : Int32 := wwi (rN N n (rCh a b i j) (soN N) (woN N) (max i j + 1 - yr) yr (qN N)).1 (woN N) a i
abbrev rB (N : Nat → Int32) (n yr a b i j : Nat) : Int32 := wwi (rN N n (rCh a b i j) (soN N) (woN N) (max i j + 1 - yr) yr (qN N)).1 (woN N) b j
theorem maxN {i j : Nat} (hi : i < 8) (hj : j < 8) : (if nI i < nI j then nI j else nI i) = nI (max i j) := by
  by_cases c : i < j
  · rw [if_pos (nI_lt c (by omega)), Nat.max_eq_right (by omega)]
  · rw [if_neg (nI_nlt (by omega) (by omega)), Nat.max_eq_left (by omega)]
theorem C_weighI {N : Nat → Int32} {n yr u nn nb a b i : Nat} {K : Int32 → Int32 → Int32 → Sta → Option (Unit × Sta)} (ha : a < n) (hb : b < n) (hi : i < 8) (hyi : yr ≤ i) : ∀ (d j fu : Nat) (σ : Sta), j + d = 8 → d < fu → yr ≤ j → VR σ.1 1 N n yr u nn nb → ∃ τ, X2_weighRivals_L19 1 K fu (nI a) (nI b) (nI i) (nI j) σ = K (nI a) (nI b) (nI (i + 1)) τ ∧ FrQ σ τ ∧ (∀ z, j ≤ z → z < 8 → τ.1 78 (8 * i + z) = rA N n yr a b i z ∧ τ.1 79 (8 * i + z) = rB N n yr a b i z) ∧ (∀ k, k < 8 * i + j ∨ 8 * i + 8 ≤ k → τ.1 78 k = σ.1 78 k ∧ τ.1 79 k = σ.1 79 k)
  | d, j, 0, σ, _, h, _, _ => by omega
  | 0, j, fu + 1, σ, hj, _, _, hv => by
    have e : j = 8 := by omega
    subst e
    exact ⟨σ, by rw [X2_weighRivals_L19, if_neg nlt8, nI_1], FrQ.rf σ, fun z z1 z2 => by omega, fun k _ => ⟨rfl, rfl⟩⟩
  | d + 1, j, fu + 1, σ, hj, hf, hyj, hv => by
    have hn := hv.n6
    obtain ⟨τ1, e1, e2, e3⟩ := hv.begin
    obtain ⟨τ2, f1, f2, f3⟩ := TC_choose e2 (p := a) (by omega) (nI i)
    obtain ⟨τ3, g1, g2, g3⟩ := TC_choose f2 (p := b) (by omega) (nI j)
    obtain ⟨τ4, h1, h2, h3⟩ := TC_run (e := max i j + 1) g2 hv.wf (by omega) (by omega)
    have fr : FrB σ τ4 := ((e3.tr f3).tr g3).tr h3.b
    have w1 := TC_wi h2 (p := a) (z := i) hn ha hi
    have w2 := TC_wi (TC_up h2 (k := 78) (f := upd (τ4.1 78) (8 * i + j) (rA N n yr a b i j)) (by omega)) (p := b) (z := j) hn hb (by omega)
    have q78 : τ4.1 78 = σ.1 78 := fr.1 78 (by unfold isB; omega)
    have q79 : τ4.1 79 = σ.1 79 := fr.1 79 (by unfold isB; omega)
    have fr2 : FrQ σ (up1 (up1 τ4 78 (upd (τ4.1 78) (8 * i + j) (rA N n yr a b i j))) 79 (upd (τ4.1 79) (8 * i + j) (rB N n yr a b i j))) := fr.q.tr ((FrQ.up (by unfold isQ; omega)).tr (FrQ.up (by unfold isQ; omega)))
    obtain ⟨τ, t1, t2, t3, t4⟩ := C_weighI (K := K) ha hb hi hyi d (j + 1) fu (up1 (up1 τ4 78 (upd (τ4.1 78) (8 * i + j) (rA N n yr a b i j))) 79 (upd (τ4.1 79) (8 * i + j) (rB N n yr a b i j))) (by omega) (by omega) (by omega) (hv.q fr2)
    refine ⟨τ, ?_, fr2.tr t2, fun z z1 z2 => ?_, fun k hk => ?_⟩
    · rw [X2_weighRivals_L19, if_pos (lt8 (by omega)), cA_of e1, cA_of f1, cA_of g1, maxN hi (by omega), nI_1, cA_of h1, cA_of w1, m8, sI_n (8 * i + j) (by omega), cA_of w2, sI_n (8 * i + j) (by omega), up1_n (show 79 ≠ 78 by decide), nI_1]
      exact t1
    · by_cases c : z = j
      · subst c
        obtain ⟨x1, x2⟩ := t4 (8 * i + z) (by omega)
        rw [x1, x2, up1_n (show 78 ≠ 79 by decide), up1_s, up1_s, updS, updS]
        exact ⟨rfl, rfl⟩
      · exact t3 z (by omega) z2
    · obtain ⟨x1, x2⟩ := t4 k (by omega)
      rw [x1, x2, up1_n (show 78 ≠ 79 by decide), up1_s, up1_s, updN (by omega), updN (by omega), q78, q79]
      exact ⟨rfl, rfl⟩
theorem C_weighO {N : Nat → Int32} {n yr u nn nb a b : Nat} (ha : a < n) (hb : b < n) : ∀ (d i fu : Nat) (σ : Sta), i + d = 8 → d < fu → yr ≤ i → VR σ.1 1 N n yr u nn nb → ∃ τ, X2_weighRivals_L6 1 fu (nI a) (nI b) (nI i) σ = some ((), τ) ∧ FrQ σ τ ∧ (∀ y z, i ≤ y → y < 8 → yr ≤ z → z < 8 → τ.1 78 (8 * y + z) = rA N n yr a b y z ∧ τ.1 79 (8 * y + z) = rB N n yr a b y z) ∧ (∀ k, k < 8 * i → τ.1 78 k = σ.1 78 k ∧ τ.1 79 k = σ.1 79 k)
  | d, i, 0, σ, _, h, _, _ => by omega
  | 0, i, fu + 1, σ, hi, _, _, hv => by
    have e : i = 8 := by omega
    subst e
    exact ⟨σ, by rw [X2_weighRivals_L6, if_neg nlt8], FrQ.rf σ, fun y z z1 z2 => by omega, fun k _ => ⟨rfl, rfl⟩⟩
  | d + 1, i, fu + 1, σ, hi, hf, hyi, hv => by
    have hy8 := hv.y8
    obtain ⟨τ1, e1, e2, e3, e4⟩ := C_weighI (K := X2_weighRivals_L6 1 fu) ha hb (show i < 8 by omega) hyi (8 - yr) yr FU σ (by omega) (by show _ < 300; omega) (Nat.le_refl _) hv
    obtain ⟨τ, t1, t2, t3, t4⟩ := C_weighO ha hb d (i + 1) fu τ1 (by omega) (by omega) (by omega) (hv.q e2)
    refine ⟨τ, ?_, e2.tr t2, fun y z z1 z2 z3 z4 => ?_, fun k hk => ?_⟩
    · rw [X2_weighRivals_L6, if_pos (lt8 (by omega)), fI_e, hv.s11, e1]
      exact t1
    · by_cases c : y = i
      · subst c
        obtain ⟨x1, x2⟩ := t4 (8 * y + z) (by omega)
        rw [x1, x2]
        exact e3 z z3 z4
      · exact t3 y z (by omega) z2 z3 z4
    · obtain ⟨x1, x2⟩ := t4 k (by omega)
      obtain ⟨x3, x4⟩ := e4 k (by omega)
      rw [x1, x2, x3, x4]
      exact ⟨rfl, rfl⟩
theorem negadd (a b : Int32) : -a + (a + b) = b := by rw [← Int32.add_assoc, Int32.add_left_neg, Int32.zero_add]
theorem HM_up {N : Nat → Int32} {n : Nat} {ch so wo : Nat → Int32} {q : Cq} {σ : Sta} (h : HM N n ch so wo q σ) {k : Nat} {f : Nat → Int32} (hk : k = 92 ∨ k = 93) : HM N n ch so wo q (up1 σ k f) := by
  obtain ⟨h1, h2, h3, h4⟩ := h
  refine ⟨by rw [up1_n (by omega)]; exact h1, h2, fun p hp => ?_, fun y hy => ?_⟩
  · rw [up1_n (by omega), up1_n (by omega), up1_n (by omega)]; exact h3 p hp
  · rw [up1_n (by omega), up1_n (by omega)]; exact h4 y hy
theorem M_weighI {N : Nat → Int32} {S : Nat → Nat → Int32} {r n yr u nn nb a b i : Nat} {x3 : Int32} {K : Int32 → Int32 → Int32 → Int32 → Sta → Option (Int32 × Sta)} (hv : VR S r N n yr u nn nb) (ha : a < n) (hb : b < n) (hab : a ≠ b) (hi : i < 8) (hyi : yr ≤ i) : ∀ (d j fu : Nat) (σ : Sta), j + d = 8 → d < fu → yr ≤ j → σ.1 83 = N → ∃ τ, X12_rivals_L56 K fu (nI a) (nI b) x3 (nI i) (nI j) σ = K (nI a) (nI b) x3 (nI (i + 1)) τ ∧ FrQ σ τ ∧ (∀ z, j ≤ z → z < 8 → τ.1 92 (8 * i + z) = rA N n yr a b i z ∧ τ.1 93 (8 * i + z) = rB N n yr a b i z) ∧ (∀ k, k < 8 * i + j ∨ 8 * i + 8 ≤ k → τ.1 92 k = σ.1 92 k ∧ τ.1 93 k = σ.1 93 k)
  | d, j, 0, σ, _, h, _, _ => by omega
  | 0, j, fu + 1, σ, hj, _, _, h83 => by
    have e : j = 8 := by omega
    subst e
    exact ⟨σ, by rw [X12_rivals_L56, if_neg nlt8, nI_1], FrQ.rf σ, fun z z1 z2 => by omega, fun k _ => ⟨rfl, rfl⟩⟩
  | d + 1, j, fu + 1, σ, hj, hf, hyj, h83 => by
    have hn := hv.n6
    have hy8 := hv.y8
    have hv' : VR S r (σ.1 83) n yr u nn nb := by rw [h83]; exact hv
    obtain ⟨τ1, e1, e2, e3⟩ := hv'.lay
    rw [h83] at e2
    have w0 := HM_ws e2 hv.wf ha
    have H1 := HM_up e2 (k := 92) (f := upd (τ1.1 92) (8 * i + j) (-(wsm (qN N).1 (woN N) a 8))) (Or.inl rfl)
    have w1 := HM_ws H1 hv.wf hb
    have H2 := HM_up H1 (k := 93) (f := upd (τ1.1 93) (8 * i + j) (-(wsm (qN N).1 (woN N) b 8))) (Or.inr rfl)
    have H3 := HM_ch (HM_ch H2 (p := a) (z := i) hi) (p := b) (z := j) (show j < 8 by omega)
    obtain ⟨τ2, f1, f2, f3⟩ := HM_till (e := 8) H3 hv.wf hv.N4 hy8 (Nat.le_refl 8)
    have hw8 : Wf N n (soN N) (woN N) (rN N n (rCh a b i j) (soN N) (woN N) (8 - yr) yr (qN N)) := WF_rn _ _ _ hv.wf (by omega)
    have w2 := HM_ws f2 hw8 ha
    obtain ⟨wa, xa1, xa2⟩ := hv.wi a ha
    obtain ⟨wb, xb1, xb2⟩ := hv.wi b hb
    have ta := try_ws (ch := rCh a b i j) (y := i) (e := max i j + 1) hv.wf ha (by unfold rCh; rw [updN hab, updS]) hyi hi (by omega) (by omega) xa2 xa1
    have tb := try_ws (ch := rCh a b i j) (y := j) (e := max i j + 1) hv.wf hb (by unfold rCh; rw [updS]) hyj (by omega) (by omega) (by omega) xb2 xb1
    have q92 : τ1.1 92 = σ.1 92 := e3.1 92 (by unfold isL; omega)
    have q93 : τ1.1 93 = σ.1 93 := e3.1 93 (by unfold isL; omega)
    have r92 : τ2.1 92 = upd (σ.1 92) (8 * i + j) (-(wsm (qN N).1 (woN N) a 8)) := by rw [f3.1 92 (by omega) (by omega), up1_n (by decide), up1_n (by decide), up1_n (by decide), up1_s, q92]
    have r93 : τ2.1 93 = upd (σ.1 93) (8 * i + j) (-(wsm (qN N).1 (woN N) b 8)) := by rw [f3.1 93 (by omega) (by omega), up1_n (by decide), up1_n (by decide), up1_s, q93]
    have va : τ2.1 92 (8 * i + j) + wsm (rN N n (rCh a b i j) (soN N) (woN N) (8 - yr) yr (qN N)).1 (woN N) a 8 = rA N n yr a b i j := by rw [r92, updS, ta, negadd]
    have vb : τ2.1 93 (8 * i + j) + wsm (rN N n (rCh a b i j) (soN N) (woN N) (8 - yr) yr (qN N)).1 (woN N) b 8 = rB N n yr a b i j := by rw [r93, updS, tb, negadd]
    have H4 := HM_up f2 (k := 92) (f := upd (τ2.1 92) (8 * i + j) (rA N n yr a b i j)) (Or.inl rfl)
    have w3 := HM_ws H4 hw8 hb
    have f1' : X12_goTill (8 : Int32) (up1 (up1 (up1 (up1 τ1 92 (upd (τ1.1 92) (8 * i + j) (-(wsm (qN N).1 (woN N) a 8)))) 93 (upd (τ1.1 93) (8 * i + j) (-(wsm (qN N).1 (woN N) b 8)))) 91 (upd (τ1.1 91) a (nI i))) 91 (upd (upd (τ1.1 91) a (nI i)) b (nI j))) = some ((), τ2) := by
      rw [up1_s, up1_n (show 91 ≠ 93 by decide), up1_n (show 91 ≠ 92 by decide)] at f1
      exact f1
    have s83 : (up1 (up1 τ2 92 (upd (τ2.1 92) (8 * i + j) (rA N n yr a b i j))) 93 (upd (τ2.1 93) (8 * i + j) (rB N n yr a b i j))).1 83 = N := by rw [up1_n (by decide), up1_n (by decide)]; exact f2.1
    have fr2 : FrQ σ (up1 (up1 τ2 92 (upd (τ2.1 92) (8 * i + j) (rA N n yr a b i j))) 93 (upd (τ2.1 93) (8 * i + j) (rB N n yr a b i j))) := ((e3.q.tr (((FrQ.up (by unfold isQ; omega)).tr (FrQ.up (by unfold isQ; omega))).tr ((FrQ.up (by unfold isQ; omega)).tr (FrQ.up (by unfold isQ; omega))))).tr f3.q).tr ((FrQ.up (by unfold isQ; omega)).tr (FrQ.up (by unfold isQ; omega)))
    obtain ⟨τ, t1, t2, t3, t4⟩ := M_weighI (K := K) (x3 := x3) hv ha hb hab hi hyi d (j + 1) fu (up1 (up1 τ2 92 (upd (τ2.1 92) (8 * i + j) (rA N n yr a b i j))) 93 (upd (τ2.1 93) (8 * i + j) (rB N n yr a b i j))) (by omega) (by omega) (by omega) s83
    refine ⟨τ, ?_, fr2.tr t2, fun z z1 z2 => ?_, fun k hk => ?_⟩
    · rw [X12_rivals_L56, if_pos (lt8 (by omega)), cA_of e1, cA_of w0, m8l, sI_n (8 * i + j) (by omega), cA_of w1, sI_n (8 * i + j) (by omega), up1_n (show 93 ≠ 92 by decide), sI_n a (by omega), up1_n (show 91 ≠ 93 by decide), up1_n (show 91 ≠ 92 by decide), sI_n b (by omega), up1_s, cA_of f1', aI_n (8 * i + j) (by omega), cA_of w2, sI_n (8 * i + j) (by omega), va, aI_n (8 * i + j) (by omega), cA_of w3, sI_n (8 * i + j) (by omega), up1_n (show 93 ≠ 92 by decide), vb, nI_1]
      exact t1
    · by_cases c : z = j
      · subst c
        obtain ⟨x1, x2⟩ := t4 (8 * i + z) (by omega)
        rw [x1, x2, up1_n (show 92 ≠ 93 by decide), up1_s, up1_s, updS, updS]
        exact ⟨rfl, rfl⟩
      · exact t3 z (by omega) z2
    · obtain ⟨x1, x2⟩ := t4 k (by omega)
      rw [x1, x2, up1_n (show 92 ≠ 93 by decide), up1_s, up1_s, updN (by omega), updN (by omega), r92, r93, updN (by omega), updN (by omega)]
      exact ⟨rfl, rfl⟩
theorem M_weighO {N : Nat → Int32} {S : Nat → Nat → Int32} {r n yr u nn nb a b : Nat} {x3 : Int32} (hv : VR S r N n yr u nn nb) (ha : a < n) (hb : b < n) (hab : a ≠ b) : ∀ (d i fu : Nat) (σ : Sta), i + d = 8 → d < fu → yr ≤ i → σ.1 83 = N → ∃ τ, X12_rivals_L41 fu (nI a) (nI b) x3 (nI i) σ = X12_rivals_L196 FU x3 0 (-5) (nI yr) τ ∧ FrQ σ τ ∧ (∀ y z, i ≤ y → y < 8 → yr ≤ z → z < 8 → τ.1 92 (8 * y + z) = rA N n yr a b y z ∧ τ.1 93 (8 * y + z) = rB N n yr a b y z) ∧ (∀ k, k < 8 * i → τ.1 92 k = σ.1 92 k ∧ τ.1 93 k = σ.1 93 k)
  | d, i, 0, σ, _, h, _, _ => by omega
  | 0, i, fu + 1, σ, hi, _, _, h83 => by
    have e : i = 8 := by omega
    subst e
    exact ⟨σ, by rw [X12_rivals_L41, if_neg nlt8, aI4, h83, hv.N4], FrQ.rf σ, fun y z z1 z2 => by omega, fun k _ => ⟨rfl, rfl⟩⟩
  | d + 1, i, fu + 1, σ, hi, hf, hyi, h83 => by
    have hy8 := hv.y8
    obtain ⟨τ1, e1, e2, e3, e4⟩ := M_weighI (K := X12_rivals_L41 fu) (x3 := x3) hv ha hb hab (show i < 8 by omega) hyi (8 - yr) yr FU σ (by omega) (by show _ < 300; omega) (Nat.le_refl _) h83
    obtain ⟨τ, t1, t2, t3, t4⟩ := M_weighO (x3 := x3) hv ha hb hab d (i + 1) fu τ1 (by omega) (by omega) (by omega) (by rw [e2.at (by unfold isQ; omega)]; exact h83)
    refine ⟨τ, ?_, e2.tr t2, fun y z z1 z2 z3 z4 => ?_, fun k hk => ?_⟩
    · rw [X12_rivals_L41, if_pos (lt8 (by omega)), aI4, h83, hv.N4, e1]
      exact t1
    · by_cases c : y = i
      · subst c
        obtain ⟨x1, x2⟩ := t4 (8 * y + z) (by omega)
        rw [x1, x2]
        exact e3 z z3 z4
      · exact t3 y z (by omega) z2 z3 z4
    · obtain ⟨x1, x2⟩ := t4 k (by omega)
      obtain ⟨x3, x4⟩ := e4 k (by omega)
      rw [x1, x2, x3, x4]
      exact ⟨rfl, rfl⟩
-- what rests
def rst (A B : Nat → Nat → Int32) (i j : Nat) : Nat → Nat → Bool
  | 0, _ => true
  | d + 1, y => if A i j < A y j then false else if B i j < B i y then false else rst A B i j d (y + 1)
def Tab (σ : Sta) (k : Nat) (yr : Nat) (A : Nat → Nat → Int32) : Prop := ∀ y z, yr ≤ y → y < 8 → yr ≤ z → z < 8 → σ.1 k (8 * y + z) = A y z
theorem C_restsL {σ : Sta} {A B : Nat → Nat → Int32} {yr i j : Nat} (hA : Tab σ 78 yr A) (hB : Tab σ 79 yr B) (h1 : yr ≤ i) (h2 : i < 8) (h3 : yr ≤ j) (h4 : j < 8) : ∀ (d y fu : Nat), y + d = 8 → d < fu → yr ≤ y → X2_rests_L11 fu (nI i) (nI j) (nI (8 * i + j)) (nI y) σ = some (bi (rst A B i j d y), σ)
  | d, y, 0, _, h, _ => by omega
  | 0, y, fu + 1, hy, _, _ => by
    have e : y = 8 := by omega
    subst e
    rw [X2_rests_L11, if_neg nlt8]
    rfl
  | d + 1, y, fu + 1, hy, hf, hyy => by
    rw [X2_rests_L11, if_pos (lt8 (by omega)), m8, aI_n (8 * y + j) (by omega), aI_n (8 * i + j) (by omega), hA y j hyy (by omega) h3 h4, hA i j h1 h2 h3 h4, rst]
    by_cases c1 : A i j < A y j
    · rw [if_pos c1, if_pos c1]; rfl
    · rw [if_neg c1, if_neg c1, m8, aI_n (8 * i + y) (by omega), aI_n (8 * i + j) (by omega), hB i y h1 h2 hyy (by omega), hB i j h1 h2 h3 h4]
      by_cases c2 : B i j < B i y
      · rw [if_pos c2, if_pos c2]; rfl
      · rw [if_neg c2, if_neg c2, nI_1]
        exact C_restsL hA hB h1 h2 h3 h4 d (y + 1) fu (by omega) (by omega) (by omega)
theorem M_rests0 {σ : Sta} {x1 x2 : Int32} : ∀ (d y fu : Nat), y + d = 8 → d < fu → X12_rests_L10 fu x1 x2 0 (nI y) σ = some (0, σ)
  | d, y, 0, _, h => by omega
  | 0, y, fu + 1, hy, _ => by
    have e : y = 8 := by omega
    subst e
    rw [X12_rests_L10, if_neg nlt8]
    rfl
  | d + 1, y, fu + 1, hy, hf => by
    rw [X12_rests_L10, if_pos (lt8 (by omega)), if_pos rfl, nI_1]
    exact M_rests0 d (y + 1) fu (by omega) (by omega)
theorem M_restsL {σ : Sta} {A B : Nat → Nat → Int32} {yr i j : Nat} (hA : Tab σ 92 yr A) (hB : Tab σ 93 yr B) (h1 : yr ≤ i) (h2 : i < 8) (h3 : yr ≤ j) (h4 : j < 8) : ∀ (d y fu : Nat), y + d = 8 → d < fu → yr ≤ y → X12_rests_L10 fu (nI i) (nI j) 1 (nI y) σ = some (bi (rst A B i j d y), σ)
  | d, y, 0, _, h, _ => by omega
  | 0, y, fu + 1, hy, _, _ => by
    have e : y = 8 := by omega
    subst e
    rw [X12_rests_L10, if_neg nlt8]
    rfl
  | d + 1, y, fu + 1, hy, hf, hyy => by
    rw [X12_rests_L10, if_pos (lt8 (by omega)), if_neg n10, m8l, aI_n (8 * y + j) (by omega), m8l, aI_n (8 * i + j) (by omega), hA y j hyy (by omega) h3 h4, hA i j h1 h2 h3 h4, rst]
    by_cases c1 : A i j < A y j
    · rw [if_pos c1, if_pos c1, nI_1, M_rests0 d (y + 1) fu (by omega) (by omega)]; rfl
    · rw [if_neg c1, if_neg c1, m8l, aI_n (8 * i + y) (by omega), aI_n (8 * i + j) (by omega), hB i y h1 h2 hyy (by omega), hB i j h1 h2 h3 h4]
      by_cases c2 : B i j < B i y
      · rw [if_pos c2, if_pos c2, nI_1, M_rests0 d (y + 1) fu (by omega) (by omega)]; rfl
      · rw [if_neg c2, if_neg c2, nI_1]
        exact M_restsL hA hB h1 h2 h3 h4 d (y + 1) fu (by omega) (by omega) (by omega)
-- the k-th
def cIn (R : Nat → Nat → Bool) (k : Int32) (i : Nat) : Nat → Nat → Nat → Option Int32 × Nat
  | 0, _, c => (none, c)
  | d + 1, j, c => if R i j then (if nI c = k then (some (nI (8 * i + j)), c) else cIn R k i d (j + 1) (c + 1)) else cIn R k i d (j + 1) c
def cOu (R : Nat → Nat → Bool) (k : Int32) (yr : Nat) : Nat → Nat → Nat → Int32
  | 0, _, c => if k = -1 then nI c else -5
  | d + 1, i, c => match (cIn R k i (8 - yr) yr c).1 with
    | some v => v
    | none => cOu R k yr d (i + 1) (cIn R k i (8 - yr) yr c).2
def rIn (R : Nat → Nat → Bool) (k : Int32) (i : Nat) : Nat → Nat → Nat → Int32 → Nat × Int32
  | 0, _, c, t => (c, t)
  | d + 1, j, c, t => if R i j then rIn R k i d (j + 1) (c + 1) (if nI c = k then nI (8 * i + j) else t) else rIn R k i d (j + 1) c t
def rOu (R : Nat → Nat → Bool) (k : Int32) (yr : Nat) : Nat → Nat → Nat → Int32 → Int32
  | 0, _, c, t => if k = -1 then nI c else t
  | d + 1, i, c, t => rOu R k yr d (i + 1) (rIn R k i (8 - yr) yr c t).1 (rIn R k i (8 - yr) yr c t).2
theorem rIn_le {R : Nat → Nat → Bool} {k : Int32} {i : Nat} : ∀ (d j c : Nat) (t : Int32), (rIn R k i d j c t).1 ≤ c + d ∧ c ≤ (rIn R k i d j c t).1
  | 0, j, c, t => ⟨Nat.le_refl _, Nat.le_refl _⟩
  | d + 1, j, c, t => by
    rw [rIn]
    split
    · have := rIn_le (R := R) (k := k) (i := i) d (j + 1) (c + 1) (if nI c = k then nI (8 * i + j) else t)
      omega
    · have := rIn_le (R := R) (k := k) (i := i) d (j + 1) c t
      omega
/-- once told, it stays told -/
theorem rIn_af {R : Nat → Nat → Bool} {kk i : Nat} (hk : kk < 2 ^ 31) : ∀ (d j c : Nat) (t : Int32), kk < c → c + d < 2 ^ 31 → (rIn R (nI kk) i d j c t).2 = t
  | 0, j, c, t, _, _ => rfl
  | d + 1, j, c, t, h, hc => by
    rw [rIn]
    split
    · rw [if_neg (fun e => by have := (nI_eq (by omega) hk).mp e; omega)]
      exact rIn_af hk d (j + 1) (c + 1) t (by omega) (by omega)
    · exact rIn_af hk d (j + 1) c t h (by omega)
theorem rOu_af {R : Nat → Nat → Bool} {kk yr : Nat} (hk : kk < 2 ^ 31) : ∀ (d i c : Nat) (t : Int32), kk < c → c + 8 * d < 2 ^ 31 → rOu R (nI kk) yr d i c t = t
  | 0, i, c, t, _, _ => by rw [rOu, if_neg (nm1 hk)]
  | d + 1, i, c, t, h, hc => by
    have l := rIn_le (R := R) (k := nI kk) (i := i) (8 - yr) yr c t
    rw [rOu, rIn_af hk (8 - yr) yr c t h (by omega)]
    exact rOu_af hk d (i + 1) _ t (by omega) (by omega)
theorem cIn_is {R : Nat → Nat → Bool} {k : Int32} {i : Nat} : ∀ (d j c : Nat) (t : Int32), c + d < 2 ^ 31 → ((cIn R k i d j c).1 = none ∧ rIn R k i d j c t = ((cIn R k i d j c).2, t)) ∨ (∃ v kk, kk < 2 ^ 31 ∧ k = nI kk ∧ (cIn R k i d j c).1 = some v ∧ (rIn R k i d j c t).2 = v ∧ kk < (rIn R k i d j c t).1)
  | 0, j, c, t, _ => Or.inl ⟨rfl, rfl⟩
  | d + 1, j, c, t, hc => by
    rw [cIn, rIn]
    split
    · by_cases e : nI c = k
      · rw [if_pos e, if_pos e]
        subst e
        refine Or.inr ⟨_, c, by omega, rfl, rfl, rIn_af (by omega) d (j + 1) (c + 1) _ (by omega) (by omega), ?_⟩
        have l := rIn_le (R := R) (k := nI c) (i := i) d (j + 1) (c + 1) (nI (8 * i + j))
        omega
      · rw [if_neg e, if_neg e]
        exact cIn_is d (j + 1) (c + 1) t (by omega)
    · exact cIn_is d (j + 1) c t (by omega)
theorem cOu_is {R : Nat → Nat → Bool} {k : Int32} {yr : Nat} : ∀ (d i c : Nat), c + 8 * d < 2 ^ 31 → cOu R k yr d i c = rOu R k yr d i c (-5)
  | 0, i, c, _ => rfl
  | d + 1, i, c, hc => by
    have l := rIn_le (R := R) (k := k) (i := i) (8 - yr) yr c (-5)
    rw [cOu, rOu]
    rcases cIn_is (R := R) (k := k) (i := i) (8 - yr) yr c (-5) (by omega) with ⟨e1, e2⟩ | ⟨v, kk, k1, k2, e1, e2, e3⟩
    · rw [e1, e2]
      rw [e2] at l
      exact cOu_is d (i + 1) _ (by omega)
    · rw [e1, e2]
      subst k2
      exact (rOu_af k1 d (i + 1) _ v e3 (by omega)).symm
theorem C_restI {σ : Sta} {A B : Nat → Nat → Int32} {yr i : Nat} {k : Int32} {K : Int32 → Int32 → Int32 → Int32 → Sta → Option (Int32 × Sta)} (hA : Tab σ 78 yr A) (hB : Tab σ 79 yr B) (hyr : yr ≤ 8) (h1 : yr ≤ i) (h2 : i < 8) : ∀ (d j fu c : Nat), j + d = 8 → d < fu → yr ≤ j → X2_resting_L15 K fu (nI yr) k (nI c) (nI i) (nI j) σ = match (cIn (fun i j => rst A B i j (8 - yr) yr) k i d j c).1 with
    | some v => some (v, σ)
    | none => K (nI yr) k (nI (cIn (fun i j => rst A B i j (8 - yr) yr) k i d j c).2) (nI (i + 1)) σ
  | d, j, 0, c, _, h, _ => by omega
  | 0, j, fu + 1, c, hj, _, _ => by
    have e : j = 8 := by omega
    subst e
    rw [X2_resting_L15, if_neg nlt8, nI_1]
    rfl
  | d + 1, j, fu + 1, c, hj, hf, hyj => by
    have hr : X2_rests (nI yr) (nI i) (nI j) σ = some (bi (rst A B i j (8 - yr) yr), σ) := by
      rw [X2_rests, m8]
      exact C_restsL hA hB h1 h2 hyj (by omega) (8 - yr) yr FU (by omega) (by show _ < 300; omega) (Nat.le_refl _)
    rw [X2_resting_L15, if_pos (lt8 (by omega)), cA_of hr, bi_if, nI_1, nI_1, m8, cIn]
    by_cases c1 : rst A B i j (8 - yr) yr = true
    · rw [if_pos c1, if_pos c1]
      by_cases c2 : nI c = k
      · rw [if_pos c2, if_pos c2]
      · rw [if_neg c2, if_neg c2]
        exact C_restI hA hB hyr h1 h2 d (j + 1) fu (c + 1) (by omega) (by omega) (by omega)
    · rw [if_neg c1, if_neg c1]
      exact C_restI hA hB hyr h1 h2 d (j + 1) fu c (by omega) (by omega) (by omega)
theorem C_restO {σ : Sta} {A B : Nat → Nat → Int32} {yr : Nat} {k : Int32} (hA : Tab σ 78 yr A) (hB : Tab σ 79 yr B) (hyr : yr ≤ 8) : ∀ (d i fu c : Nat), i + d = 8 → d < fu → yr ≤ i → X2_resting_L5 fu (nI yr) k (nI c) (nI i) σ = some (cOu (fun i j => rst A B i j (8 - yr) yr) k yr d i c, σ)
  | d, i, 0, c, _, h, _ => by omega
  | 0, i, fu + 1, c, hi, _, _ => by
    have e : i = 8 := by omega
    subst e
    rw [X2_resting_L5, if_neg nlt8, cOu]
    by_cases c1 : k = -1
    · rw [if_pos c1, if_pos c1]
    · rw [if_neg c1, if_neg c1]
  | d + 1, i, fu + 1, c, hi, hf, hyi => by
    rw [X2_resting_L5, if_pos (lt8 (by omega)), C_restI hA hB hyr hyi (by omega) (8 - yr) yr FU c (by omega) (by show _ < 300; omega) (Nat.le_refl _), cOu]
    cases (cIn (fun i j => rst A B i j (8 - yr) yr) k i (8 - yr) yr c).1 with
    | some v => rfl
    | none => exact C_restO hA hB hyr d (i + 1) fu _ (by omega) (by omega) (by omega)
theorem M_restI {σ : Sta} {A B : Nat → Nat → Int32} {yr i : Nat} {k : Int32} {K : Int32 → Int32 → Int32 → Int32 → Sta → Option (Int32 × Sta)} (hA : Tab σ 92 yr A) (hB : Tab σ 93 yr B) (h4 : σ.1 83 4 = nI yr) (hyr : yr ≤ 8) (h1 : yr ≤ i) (h2 : i < 8) : ∀ (d j fu c : Nat) (t : Int32), j + d = 8 → d < fu → yr ≤ j → X12_rivals_L211 K fu k (nI c) t (nI i) (nI j) σ = K k (nI (rIn (fun i j => rst A B i j (8 - yr) yr) k i d j c t).1) (rIn (fun i j => rst A B i j (8 - yr) yr) k i d j c t).2 (nI (i + 1)) σ
  | d, j, 0, c, t, _, h, _ => by omega
  | 0, j, fu + 1, c, t, hj, _, _ => by
    have e : j = 8 := by omega
    subst e
    rw [X12_rivals_L211, if_neg nlt8, nI_1]
    rfl
  | d + 1, j, fu + 1, c, t, hj, hf, hyj => by
    have hr : X12_rests (nI i) (nI j) σ = some (bi (rst A B i j (8 - yr) yr), σ) := by
      rw [X12_rests, aI4, h4]
      exact M_restsL hA hB h1 h2 hyj (by omega) (8 - yr) yr FU (by omega) (by show _ < 300; omega) (Nat.le_refl _)
    rw [X12_rivals_L211, if_pos (lt8 (by omega)), cA_of hr, bi_if, nI_1, nI_1, m8l, rIn]
    by_cases c1 : rst A B i j (8 - yr) yr = true
    · rw [if_pos c1, if_pos c1]
      by_cases c2 : nI c = k
      · rw [if_pos c2, if_pos c2]
        exact M_restI hA hB h4 hyr h1 h2 d (j + 1) fu (c + 1) _ (by omega) (by omega) (by omega)
      · rw [if_neg c2, if_neg c2]
        exact M_restI hA hB h4 hyr h1 h2 d (j + 1) fu (c + 1) t (by omega) (by omega) (by omega)
    · rw [if_neg c1, if_neg c1]
      exact M_restI hA hB h4 hyr h1 h2 d (j + 1) fu c t (by omega) (by omega) (by omega)
theorem M_restO {σ : Sta} {A B : Nat → Nat → Int32} {yr : Nat} {k : Int32} (hA : Tab σ 92 yr A) (hB : Tab σ 93 yr B) (h4 : σ.1 83 4 = nI yr) (hyr : yr ≤ 8) : ∀ (d i fu c : Nat) (t : Int32), i + d = 8 → d < fu → yr ≤ i → X12_rivals_L196 fu k (nI c) t (nI i) σ = some (rOu (fun i j => rst A B i j (8 - yr) yr) k yr d i c t, σ)
  | d, i, 0, c, t, _, h, _ => by omega
  | 0, i, fu + 1, c, t, hi, _, _ => by
    have e : i = 8 := by omega
    subst e
    rw [X12_rivals_L196, if_neg nlt8, rOu]
    by_cases c1 : k = -1
    · rw [if_pos c1, if_pos c1]
    · rw [if_neg c1, if_neg c1]
  | d + 1, i, fu + 1, c, t, hi, hf, hyi => by
    rw [X12_rivals_L196, if_pos (lt8 (by omega)), aI4, h4, M_restI hA hB h4 hyr hyi (by omega) (8 - yr) yr FU c t (by omega) (by show _ < 300; omega) (Nat.le_refl _), rOu]
    exact M_restO hA hB h4 hyr d (i + 1) fu _ _ (by omega) (by omega) (by omega)

theorem P_rivals {σ : Sta} (h : Inv σ) (x1 x2 x3 : Int32) : Pair (X11_rivals x1 x2 x3) (X12_rivals x1 x2 x3) σ := by
  obtain ⟨n, yr, u, nn, nb, hv⟩ := h.1
  have b0 : (badC σ).1 83 0 = nI n := by rw [badC_83]; exact hv.N0
  have b4 : (badC σ).1 83 4 = nI yr := by rw [badC_83]; exact hv.N4
  by_cases e0 : inB x1 0 (nI n - 1) = true
  rotate_left
  · rw [Bool.not_eq_true] at e0; exact pair_bad (a := -10) h (by simp only [X11_rivals, C_isOne_b hv.s10, e0, cA_e, bi_if, within_b, C_isArt_b, C_bad, Bool.false_eq_true, ite_false, ite_true, if_true, if_false]) (by simp only [X12_rivals, M_isOne_b b0, e0, cA_e, bi_if, M_isYear_b, M_isSort_b, in_01, in_02, in_05, in_06, in_07, in_09, in_30, in_60, in_99, in_12, M_bad, Bool.false_eq_true, ite_false, ite_true, if_true, if_false])
  by_cases e1 : inB x2 0 (nI n - 1) = true
  rotate_left
  · rw [Bool.not_eq_true] at e1; exact pair_bad (a := -10) h (by simp only [X11_rivals, C_isOne_b hv.s10, e0, e1, cA_e, bi_if, within_b, C_isArt_b, C_bad, Bool.false_eq_true, ite_false, ite_true, if_true, if_false]) (by simp only [X12_rivals, M_isOne_b b0, e0, e1, cA_e, bi_if, M_isYear_b, M_isSort_b, in_01, in_02, in_05, in_06, in_07, in_09, in_30, in_60, in_99, in_12, M_bad, Bool.false_eq_true, ite_false, ite_true, if_true, if_false])
  by_cases e2 : x1 = x2
  · exact pair_bad (a := -10) h (by simp only [X11_rivals, C_isOne_b hv.s10, e0, e1, e2, cA_e, bi_if, within_b, C_isArt_b, C_bad, Bool.false_eq_true, ite_false, ite_true, if_true, if_false]) (by simp only [X12_rivals, M_isOne_b b0, e0, e1, e2, cA_e, bi_if, M_isYear_b, M_isSort_b, in_01, in_02, in_05, in_06, in_07, in_09, in_30, in_60, in_99, in_12, M_bad, Bool.false_eq_true, ite_false, ite_true, if_true, if_false])
  by_cases e3 : x3 < -1
  · exact pair_bad (a := -10) h (by simp only [X11_rivals, C_isOne_b hv.s10, e0, e1, e2, e3, cA_e, bi_if, within_b, C_isArt_b, C_bad, Bool.false_eq_true, ite_false, ite_true, if_true, if_false]) (by simp only [X12_rivals, M_isOne_b b0, e0, e1, e2, e3, cA_e, bi_if, M_isYear_b, M_isSort_b, in_01, in_02, in_05, in_06, in_07, in_09, in_30, in_60, in_99, in_12, M_bad, Bool.false_eq_true, ite_false, ite_true, if_true, if_false])
  obtain ⟨j0, hj0, rfl⟩ := inB_1 hv.n6 e0
  obtain ⟨j1, hj1, rfl⟩ := inB_1 hv.n6 e1
  refine pair_q h (a := cOu (fun i j => rst (rA (σ.1 83) n yr j0 j1) (rB (σ.1 83) n yr j0 j1) i j (8 - yr) yr) x3 yr (8 - yr) yr 0) ?_ (fun τ hτ => ?_)
  · simp only [X11_rivals, C_isOne_b hv.s10, e0, e1, e2, e3, cA_e, bi_if, within_b, C_isArt_b, C_bad, Bool.false_eq_true, ite_false, ite_true, if_true, if_false]
    have hy8 := hv.y8
    obtain ⟨τ, t1, t2, t3, t4⟩ := C_weighO (N := σ.1 83) (u := u) (nn := nn) (nb := nb) hj0 hj1 (8 - yr) yr FU σ (by omega) (by show _ < 300; omega) (Nat.le_refl _) hv
    have hw : X2_weighRivals 1 (nI j0) (nI j1) σ = some ((), τ) := by rw [X2_weighRivals, fI_e, hv.s11]; exact t1
    have hv2 := hv.q t2
    have hr := C_restO (σ := τ) (A := rA (σ.1 83) n yr j0 j1) (B := rB (σ.1 83) n yr j0 j1) (k := x3) (fun y z a b c d => (t3 y z a b c d).1) (fun y z a b c d => (t3 y z a b c d).2) hy8 (8 - yr) yr FU 0 (by omega) (by show _ < 300; omega) (Nat.le_refl _)
    have hr' : X2_resting (nI yr) x3 τ = some (cOu (fun i j => rst (rA (σ.1 83) n yr j0 j1) (rB (σ.1 83) n yr j0 j1) i j (8 - yr) yr) x3 yr (8 - yr) yr 0, τ) := hr
    rw [cA_of hw, fI_e, hv2.s11, cA_of hr']
    exact ⟨τ, rfl, t2⟩
  · have t83 : τ.1 83 = σ.1 83 := hτ.at (by unfold isQ; omega)
    have t0 : τ.1 83 0 = nI n := by rw [t83]; exact hv.N0
    have t4 : τ.1 83 4 = nI yr := by rw [t83]; exact hv.N4
    have tv : VR σ.1 1 (τ.1 83) n yr u nn nb := by rw [t83]; exact hv
    simp only [X12_rivals, M_isOne_b t0, e0, e1, e2, e3, cA_e, bi_if, M_isYear_b, M_isSort_b, in_01, in_02, in_05, in_06, in_07, in_09, in_30, in_60, in_99, in_12, M_bad, Bool.false_eq_true, ite_false, ite_true, if_true, if_false]
    have hy8 := hv.y8
    have hab : j0 ≠ j1 := fun e => e2 (by rw [e])
    obtain ⟨τ2, t1, t2, t3, t4'⟩ := M_weighO (x3 := x3) tv hj0 hj1 hab (8 - yr) yr FU τ (by omega) (by show _ < 300; omega) (Nat.le_refl _) rfl
    have h4' : τ2.1 83 4 = nI yr := by rw [t2.at (by unfold isQ; omega)]; exact t4
    have hr := M_restO (σ := τ2) (A := rA (τ.1 83) n yr j0 j1) (B := rB (τ.1 83) n yr j0 j1) (k := x3) (fun y z a b c d => (t3 y z a b c d).1) (fun y z a b c d => (t3 y z a b c d).2) h4' hy8 (8 - yr) yr FU 0 (-5) (by omega) (by show _ < 300; omega) (Nat.le_refl _)
    have hr' : X12_rivals_L196 FU x3 0 (-5) (nI yr) τ2 = some (rOu (fun i j => rst (rA (τ.1 83) n yr j0 j1) (rB (τ.1 83) n yr j0 j1) i j (8 - yr) yr) x3 yr (8 - yr) yr 0 (-5), τ2) := hr
    rw [aI4, t4, t1, hr', ← cOu_is (8 - yr) yr 0 (by omega), t83]
    exact ⟨τ2, rfl, t2⟩
