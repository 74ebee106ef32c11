/-! PURE HALF 14: what changes the valley -/
def isN (k : Nat) : Prop := (1 ≤ k ∧ k ≤ 13) ∨ k = 83 ∨ isQ k
def FrN (σ τ : Sta) : Prop := (∀ k, ¬ isN k → τ.1 k = σ.1 k) ∧ τ.2 = σ.2
theorem FrN.rf (σ : Sta) : FrN σ σ := ⟨fun _ _ => rfl, rfl⟩
theorem FrN.tr {a b c : Sta} (h1 : FrN a b) (h2 : FrN b c) : FrN a c := ⟨fun k q => (h2.1 k q).trans (h1.1 k q), h2.2.trans h1.2⟩
theorem FrN.up {σ : Sta} {k : Nat} {f : Nat → Int32} (h : isN k) : FrN σ (up1 σ k f) := ⟨fun j q => up1_n (fun e => q (by rw [e]; exact h)), rfl⟩
theorem FrQ.nn {a b : Sta} (h : FrQ a b) : FrN a b := ⟨fun k q => h.1 k (fun e => q (Or.inr (Or.inr e))), h.2⟩
theorem Inv.n {σ τ : Sta} (h : Inv σ) (e : FrN σ τ) (hv : Vnow τ.1) : Inv τ := by
  obtain ⟨h1, h2, h3, h4, h5⟩ := h
  have q : ∀ k, k = 0 ∨ (14 ≤ k ∧ k ≤ 54) ∨ (80 ≤ k ∧ k ≤ 82) ∨ (84 ≤ k ∧ k ≤ 86) ∨ (94 ≤ k ∧ k ≤ 96) → τ.1 k = σ.1 k := fun k hk => e.1 k (by unfold isN isQ; omega)
  refine ⟨hv, fun i hi => (h2 i hi).c hi (fun k a b => q k (by omega)) (q 84 (by omega)) (q 85 (by omega)), ?_, ?_, h5.c (by rw [q 80 (by omega)]) (q 81 (by omega)) (by rw [q 82 (by omega)]) (q 94 (by omega))⟩
  · intro i hi
    rw [q 0 (by omega), q 86 (by omega)]
    exact h3 i hi
  · rw [e.2]
    exact h4
def isX (k : Nat) : Prop := (14 ≤ k ∧ k ≤ 26) ∨ (80 ≤ k ∧ k ≤ 82) ∨ (94 ≤ k ∧ k ≤ 96)
def FrX (σ τ : Sta) : Prop := (∀ k, ¬ isX k → τ.1 k = σ.1 k) ∧ τ.2 = σ.2
theorem FrX.rf (σ : Sta) : FrX σ σ := ⟨fun _ _ => rfl, rfl⟩
theorem FrX.tr {a b c : Sta} (h1 : FrX a b) (h2 : FrX b c) : FrX a c := ⟨fun k q => (h2.1 k q).trans (h1.1 k q), h2.2.trans h1.2⟩
theorem FrX.up {σ : Sta} {k : Nat} {f : Nat → Int32} (h : isX k) : FrX σ (up1 σ k f) := ⟨fun j q => up1_n (fun e => q (by rw [e]; exact h)), rfl⟩
theorem Inv.x {σ τ : Sta} (h : Inv σ) (e : FrX σ τ) (ht : Txt τ.1) : Inv τ := by
  obtain ⟨h1, h2, h3, h4, h5⟩ := h
  have q : ∀ k, k ≤ 13 ∨ (27 ≤ k ∧ k ≤ 79) ∨ (83 ≤ k ∧ k ≤ 93) → τ.1 k = σ.1 k := fun k hk => e.1 k (by unfold isX; omega)
  refine ⟨h1.c (fun k a b => q k (by omega)) (q 83 (by omega)), fun i hi => (h2 i hi).c hi (fun k a b => q k (by omega)) (q 84 (by omega)) (q 85 (by omega)), ?_, ?_, ht⟩
  · intro i hi
    rw [q 0 (by omega), q 86 (by omega)]
    exact h3 i hi
  · rw [e.2]
    exact h4
-- the relation in groups
def gPe (S : Nat → Nat → Int32) (r : Nat) (N : Nat → Int32) (n yr : Nat) : Prop := (∀ p, p < n → S (r + 3) p = N (17 + p) ∧ S (r + 5) p = N (5 + p) ∧ S (r + 6) p = N (11 + p) ∧ ∀ t, t < 3 → S (r + 4) (3 * p + t) = N (23 + (3 * p + t))) ∧ (∀ p, p < n → ∃ k, k < 6 ∧ N (17 + p) = nI k) ∧ (∀ p, p < n → ∀ t, t < 3 → ∃ a, a < 10 ∧ N (23 + (3 * p + t)) = nI a) ∧ (∀ p, p < n → ∃ w, w < 2 ^ yr ∧ N (5 + p) = nI w)
def gYe (S : Nat → Nat → Int32) (r : Nat) (N : Nat → Int32) : Prop := (∀ y, y < 8 → S (r + 1) y = N (41 + y) ∧ S (r + 2) y = N (49 + y)) ∧ (∀ y, y < 8 → N (41 + y) = -1 ∨ ∃ t, t < 3 ∧ N (41 + y) = nI t) ∧ (∀ y, y < 8 → ∃ w, w ≤ 30 ∧ N (49 + y) = nI w)
def gNo (S : Nat → Nat → Int32) (r : Nat) (N : Nat → Int32) (nn : Nat) : Prop := ∀ j, j < 4 * nn → S (r + 10) j = N (57 + j)
def gBe (S : Nat → Nat → Int32) (r : Nat) (N : Nat → Int32) (n nb : Nat) : Prop := (∀ j, j < 4 * nb → S (r + 12) j = N (81 + j)) ∧ (∀ k, k < nb → ∃ i j t y, i < n ∧ j < n ∧ t < 3 ∧ y < 8 ∧ N (81 + 4 * k) = nI i ∧ N (81 + (4 * k + 1)) = nI j ∧ N (81 + (4 * k + 2)) = nI t ∧ N (81 + (4 * k + 3)) = nI y)
theorem VR.gpe {S : Nat → Nat → Int32} {r : Nat} {N : Nat → Int32} {n yr u nn nb : Nat} (h : VR S r N n yr u nn nb) : gPe S r N n yr := ⟨h.pe, h.kd, h.ar, h.wi⟩
theorem VR.gye {S : Nat → Nat → Int32} {r : Nat} {N : Nat → Int32} {n yr u nn nb : Nat} (h : VR S r N n yr u nn nb) : gYe S r N := ⟨h.ye, h.so, h.wo⟩
theorem VR.gno {S : Nat → Nat → Int32} {r : Nat} {N : Nat → Int32} {n yr u nn nb : Nat} (h : VR S r N n yr u nn nb) : gNo S r N nn := h.no
theorem VR.gbe {S : Nat → Nat → Int32} {r : Nat} {N : Nat → Int32} {n yr u nn nb : Nat} (h : VR S r N n yr u nn nb) : gBe S r N n nb := ⟨h.be, h.bb⟩
theorem VR.mk {S : Nat → Nat → Int32} {r : Nat} {N : Nat → Int32} {n yr u nn nb : Nat} (c : n ≤ 6 ∧ yr ≤ 8 ∧ u ≤ yr ∧ nn ≤ 6 ∧ nb ≤ 6) (s : S r 10 = nI n ∧ S r 11 = nI yr ∧ S r 12 = nI u ∧ S (r + 9) 1 = nI nn ∧ S (r + 11) 1 = nI nb) (m : N 0 = nI n ∧ N 1 = nI nn ∧ N 2 = nI nb ∧ N 3 = nI u ∧ N 4 = nI yr) (a : gPe S r N n yr) (b : gYe S r N) (d : gNo S r N nn) (e : gBe S r N n nb) (f : Hist N (S (r + 7)) (S (r + 8)) n u yr 4) : VR S r N n yr u nn nb :=
  ⟨c.1, c.2.1, c.2.2.1, c.2.2.2.1, c.2.2.2.2, s.1, s.2.1, s.2.2.1, s.2.2.2.1, s.2.2.2.2, m.1, m.2.1, m.2.2.1, m.2.2.2.1, m.2.2.2.2, a.1, b.1, d, e.1, a.2.1, a.2.2.1, a.2.2.2, b.2.1, b.2.2, e.2, f⟩
theorem gPe.c {S S' : Nat → Nat → Int32} {r n yr : Nat} {N N' : Nat → Int32} (h : gPe S r N n yr) (hn : n ≤ 6) (a3 : S' (r + 3) = S (r + 3)) (a4 : S' (r + 4) = S (r + 4)) (a5 : S' (r + 5) = S (r + 5)) (a6 : S' (r + 6) = S (r + 6)) (hN : ∀ k, 5 ≤ k → k < 41 → N' k = N k) : gPe S' r N' n yr := by
  obtain ⟨h1, h2, h3, h4⟩ := h
  refine ⟨fun p hp => ?_, fun p hp => ?_, fun p hp t ht => ?_, fun p hp => ?_⟩
  · rw [a3, a4, a5, a6, hN _ (by omega) (by omega), hN _ (by omega) (by omega), hN _ (by omega) (by omega)]
    exact ⟨(h1 p hp).1, (h1 p hp).2.1, (h1 p hp).2.2.1, fun t ht => by rw [hN _ (by omega) (by omega)]; exact (h1 p hp).2.2.2 t ht⟩
  · rw [hN _ (by omega) (by omega)]; exact h2 p hp
  · rw [hN _ (by omega) (by omega)]; exact h3 p hp t ht
  · rw [hN _ (by omega) (by omega)]; exact h4 p hp
theorem gYe.c {S S' : Nat → Nat → Int32} {r : Nat} {N N' : Nat → Int32} (h : gYe S r N) (a1 : S' (r + 1) = S (r + 1)) (a2 : S' (r + 2) = S (r + 2)) (hN : ∀ k, 41 ≤ k → k < 57 → N' k = N k) : gYe S' r N' := by
  obtain ⟨h1, h2, h3⟩ := h
  refine ⟨fun y hy => ?_, fun y hy => ?_, fun y hy => ?_⟩
  · rw [a1, a2, hN _ (by omega) (by omega), hN _ (by omega) (by omega)]; exact h1 y hy
  · rw [hN _ (by omega) (by omega)]; exact h2 y hy
  · rw [hN _ (by omega) (by omega)]; exact h3 y hy
theorem gNo.c {S S' : Nat → Nat → Int32} {r nn : Nat} {N N' : Nat → Int32} (h : gNo S r N nn) (hn : nn ≤ 6) (a : S' (r + 10) = S (r + 10)) (hN : ∀ k, 57 ≤ k → k < 81 → N' k = N k) : gNo S' r N' nn := by
  intro j hj
  rw [a, hN _ (by omega) (by omega)]
  exact h j hj
theorem gBe.c {S S' : Nat → Nat → Int32} {r n nb n' : Nat} {N N' : Nat → Int32} (h : gBe S r N n nb) (hn : nb ≤ 6) (hnn : n ≤ n') (a : S' (r + 12) = S (r + 12)) (hN : ∀ k, 81 ≤ k → k < 105 → N' k = N k) : gBe S' r N' n' nb := by
  refine ⟨fun j hj => ?_, fun k hk => ?_⟩
  · rw [a, hN _ (by omega) (by omega)]; exact h.1 j hj
  · rw [hN _ (by omega) (by omega), hN _ (by omega) (by omega), hN _ (by omega) (by omega), hN _ (by omega) (by omega)]
    obtain ⟨i, j, t, y, b1, b2, b3⟩ := h.2 k hk
    exact ⟨i, j, t, y, by omega, by omega, b3⟩
-- an empty valley
theorem VR.zero {S : Nat → Nat → Int32} {r : Nat} {N : Nat → Int32} (s : S r 10 = 0 ∧ S r 11 = 0 ∧ S r 12 = 0 ∧ S (r + 9) 1 = 0 ∧ S (r + 11) 1 = 0) (m : N 0 = 0 ∧ N 1 = 0 ∧ N 2 = 0 ∧ N 3 = 0 ∧ N 4 = 0) (a : ∀ y, y < 8 → S (r + 1) y = -1 ∧ S (r + 2) y = 0) (b : ∀ y, y < 8 → N (41 + y) = -1 ∧ N (49 + y) = 0) : VR S r N 0 0 0 0 0 :=
  VR.mk (by omega) s m ⟨fun p hp => by omega, fun p hp => by omega, fun p hp => by omega, fun p hp => by omega⟩ ⟨fun y hy => by rw [(a y hy).1, (a y hy).2, (b y hy).1, (b y hy).2]; exact ⟨rfl, rfl⟩, fun y hy => Or.inl (b y hy).1, fun y hy => ⟨0, by omega, (b y hy).2⟩⟩ (fun j hj => by omega) ⟨fun j hj => by omega, fun k hk => by omega⟩ trivial
theorem C_empty (r : Nat) (σ : Sta) : ∃ τ, X10_empty r σ = some ((), τ) ∧ (τ.1 r 10 = 0 ∧ τ.1 r 11 = 0 ∧ τ.1 r 12 = 0 ∧ τ.1 (r + 9) 1 = 0 ∧ τ.1 (r + 11) 1 = 0) ∧ (∀ y, y < 8 → τ.1 (r + 1) y = -1 ∧ τ.1 (r + 2) y = 0) ∧ (∀ k, k < r ∨ r + 11 < k → τ.1 k = σ.1 k) ∧ τ.2 = σ.2 := by
  rw [X10_empty, cA_of (fill_e (by decide)), cA_of (fill_e (by decide)), pI_e, pI_e, pI_e, pI_e, pI_e]
  refine ⟨_, rfl, ⟨?_, ?_, ?_, ?_, ?_⟩, fun y hy => ⟨?_, ?_⟩, fun k hk => ?_, rfl⟩
  · rw [up1_n (by omega), up1_n (by omega), up1_s, up1_s, up1_s, updN (by decide), updN (by decide), updS]
  · rw [up1_n (by omega), up1_n (by omega), up1_s, up1_s, updN (by decide), updS]
  · rw [up1_n (by omega), up1_n (by omega), up1_s, updS]
  · rw [up1_n (by omega), up1_s, updS]
  · rw [up1_s, updS]
  · rw [up1_n (by omega), up1_n (by omega), up1_n (by omega), up1_n (by omega), up1_n (by omega), up1_n (by omega), up1_s, if_pos hy]
  · rw [up1_n (by omega), up1_n (by omega), up1_n (by omega), up1_n (by omega), up1_n (by omega), up1_s, if_pos hy]
  · rw [up1_n (by omega), up1_n (by omega), up1_n (by omega), up1_n (by omega), up1_n (by omega), up1_n (by omega), up1_n (by omega)]
theorem lt105 {i : Nat} (h : i < 105) : nI i < (105 : Int32) := nI_lt (b := 105) h (by decide)
theorem M_begin2 {nav kav : Nat} (hv : 105 ≤ nav) (hv2 : nav < 2 ^ 31) {σ : Sta} : ∀ (d y fu : Nat) (f : Nat → Int32), y + d = 8 → d < fu → X12_begin_L20 nav kav fu (nI y) (up1 σ kav f) = some ((), up1 σ kav (fun j => if 41 + y ≤ j ∧ j < 49 then -1 else f j))
  | d, y, 0, f, _, h => by omega
  | 0, y, fu + 1, f, hy, _ => by
    have e : y = 8 := by omega
    subst e
    rw [X12_begin_L20, if_neg nlt8]
    congr 3
    funext j
    rw [if_neg (by omega)]
  | d + 1, y, fu + 1, f, hy, hf => by
    rw [X12_begin_L20, if_pos (lt8 (by omega)), a41, sI_n (41 + y) (by omega) hv2, up1_s, up1_u, nI_1, M_begin2 hv hv2 d (y + 1) fu _ (by omega) (by omega)]
    congr 3
    funext j
    by_cases h : j = 41 + y
    · subst h
      rw [updS, if_neg (by omega), if_pos (by omega)]
    · rw [updN h]
      by_cases h2 : 41 + (y + 1) ≤ j ∧ j < 49
      · rw [if_pos h2, if_pos (by omega)]
      · rw [if_neg h2, if_neg (by omega)]
theorem M_begin1 {nav kav : Nat} (hv : 105 ≤ nav) (hv2 : nav < 2 ^ 31) {σ : Sta} : ∀ (d i fu : Nat) (f : Nat → Int32), i + d = 105 → d < fu → X12_begin_L2 nav kav fu (nI i) (up1 σ kav f) = some ((), up1 σ kav (fun j => if 41 ≤ j ∧ j < 49 then -1 else if i ≤ j ∧ j < 105 then 0 else f j))
  | d, y, 0, f, _, h => by omega
  | 0, i, fu + 1, f, hi, _ => by
    have e : i = 105 := by omega
    subst e
    rw [X12_begin_L2, if_neg (by decide), show (0 : Int32) = nI 0 from rfl, M_begin2 hv hv2 8 0 FU f rfl (by decide)]
    congr 3
    funext j
    by_cases h2 : 41 ≤ j ∧ j < 49
    · rw [if_pos h2, if_pos (by omega)]
    · rw [if_neg h2, if_neg (by omega), if_neg (by omega)]
  | d + 1, i, fu + 1, f, hi, hf => by
    rw [X12_begin_L2, if_pos (lt105 (by omega)), sI_n i (by omega) hv2, up1_s, up1_u, nI_1, M_begin1 hv hv2 d (i + 1) fu _ (by omega) (by omega)]
    congr 3
    funext j
    by_cases h2 : 41 ≤ j ∧ j < 49
    · rw [if_pos h2, if_pos h2]
    · rw [if_neg h2, if_neg h2]
      by_cases h : j = i
      · subst h
        rw [updS, if_neg (by omega), if_pos (by omega)]
      · rw [updN h]
        by_cases h3 : i + 1 ≤ j ∧ j < 105
        · rw [if_pos h3, if_pos (by omega)]
        · rw [if_neg h3, if_neg (by omega)]
def beg (f : Nat → Int32) : Nat → Int32 := fun j => if 41 ≤ j ∧ j < 49 then -1 else if j < 105 then 0 else f j
theorem M_begin {nav kav : Nat} (hv : 105 ≤ nav) (hv2 : nav < 2 ^ 31) (σ : Sta) : X12_begin nav kav σ = some ((), up1 σ kav (beg (σ.1 kav))) := by
  have h := M_begin1 (kav := kav) hv hv2 (σ := σ) 105 0 FU (σ.1 kav) rfl (by decide)
  rw [up1_id] at h
  rw [X12_begin]
  refine h.trans ?_
  congr 3
  funext j
  unfold beg
  by_cases h2 : 41 ≤ j ∧ j < 49
  · rw [if_pos h2, if_pos h2]
  · rw [if_neg h2, if_neg h2]
    by_cases h3 : j < 105
    · rw [if_pos h3, if_pos (by omega)]
    · rw [if_neg h3, if_neg (by omega)]
theorem beg0 (f : Nat → Int32) : (beg f 0 = 0 ∧ beg f 1 = 0 ∧ beg f 2 = 0 ∧ beg f 3 = 0 ∧ beg f 4 = 0) ∧ ∀ y, y < 8 → beg f (41 + y) = -1 ∧ beg f (49 + y) = 0 := by
  refine ⟨⟨rfl, rfl, rfl, rfl, rfl⟩, fun y hy => ?_⟩
  unfold beg
  rw [if_pos (by omega), if_neg (by omega), if_pos (by omega)]
  exact ⟨rfl, rfl⟩
theorem P_valley {σ : Sta} (h : Inv σ) : Pair X11_valley X12_valley σ := by
  obtain ⟨n, yr, u, nn, nb, hv⟩ := h.1
  obtain ⟨τ, c1, c2, c3, c4, c5⟩ := C_empty 1 σ
  have t83 : τ.1 83 = σ.1 83 := c4 83 (by omega)
  refine ⟨nI n, τ, up1 τ 83 (beg (τ.1 83)), ?_, ?_, ?_⟩
  · rw [X11_valley, fI_e, hv.s10, cA_of c1]
  · rw [X12_valley, cA_of (M_many τ), cA_of (M_begin (by decide) (by decide) τ), t83, hv.N0]
  · refine h.n (FrN.tr (b := τ) ⟨fun k hk => c4 k (by unfold isN at hk; omega), c5⟩ (FrN.up (by unfold isN; omega))) ⟨0, 0, 0, 0, 0, ?_⟩
    rw [up1_s]
    refine VR.zero ?_ (beg0 _).1 ?_ (beg0 _).2
    · rw [up1_n (by decide), up1_n (by decide), up1_n (by decide)]; exact c2
    · intro y hy
      rw [up1_n (by decide), up1_n (by decide)]
      exact c3 y hy
-- a prize
theorem C_setPrize (r : Nat) {y : Nat} (hy : y < 8) (s w : Int32) (σ : Sta) : X10_setPrize r (nI y) s w σ = some ((), up1 (up1 σ (r + 1) (upd (σ.1 (r + 1)) y s)) (r + 2) (upd (σ.1 (r + 2)) y w)) := by
  rw [X10_setPrize, sI_n y hy, sI_n y hy, up1_n (by omega)]
def prz (N : Nat → Int32) (y : Nat) (s w : Int32) : Nat → Int32 := upd (upd N (41 + y) s) (49 + y) w
theorem VR.prize {S S' : Nat → Nat → Int32} {r : Nat} {N N' : Nat → Int32} {n yr u nn nb : Nat} (h : VR S r N n yr u nn nb) {y t w : Nat} (hy : y < 8) (ht : t < 3) (hw : w ≤ 30) (e0 : S' r 10 = S r 10 ∧ S' r 11 = S r 11 ∧ S' r 12 = 0) (e1 : S' (r + 1) = upd (S (r + 1)) y (nI t)) (e2 : S' (r + 2) = upd (S (r + 2)) y (nI w)) (e3 : ∀ i, 3 ≤ i → i < 13 → S' (r + i) = S (r + i)) (hN3 : N' 3 = 0) (hN : ∀ k, k ≠ 3 → N' k = prz N y (nI t) (nI w) k) : VR S' r N' n yr 0 nn nb := by
  have o : ∀ k, k ≠ 3 → k ≠ 41 + y → k ≠ 49 + y → N' k = N k := fun k k1 k2 k3 => by rw [hN k k1, prz, updN k3, updN k2]
  refine VR.mk ⟨h.n6, h.y8, by omega, h.nn6, h.nb6⟩ ⟨e0.1.trans h.s10, e0.2.1.trans h.s11, e0.2.2, by rw [e3 9 (by omega) (by omega)]; exact h.sn, by rw [e3 11 (by omega) (by omega)]; exact h.sb⟩ ⟨by rw [o 0 (by omega) (by omega) (by omega)]; exact h.N0, by rw [o 1 (by omega) (by omega) (by omega)]; exact h.N1, by rw [o 2 (by omega) (by omega) (by omega)]; exact h.N2, hN3, by rw [o 4 (by omega) (by omega) (by omega)]; exact h.N4⟩
    (h.gpe.c h.n6 (e3 3 (by omega) (by omega)) (e3 4 (by omega) (by omega)) (e3 5 (by omega) (by omega)) (e3 6 (by omega) (by omega)) (fun k k1 k2 => o k (by omega) (by omega) (by omega))) ?_
    (h.gno.c h.nn6 (e3 10 (by omega) (by omega)) (fun k k1 k2 => o k (by omega) (by omega) (by omega))) (h.gbe.c h.nb6 (Nat.le_refl _) (e3 12 (by omega) (by omega)) (fun k k1 k2 => o k (by omega) (by omega) (by omega))) trivial
  have v41 : N' (41 + y) = nI t := by rw [hN _ (by omega), prz, updN (by omega), updS]
  have v49 : N' (49 + y) = nI w := by rw [hN _ (by omega), prz, updS]
  refine ⟨fun z hz => ?_, fun z hz => ?_, fun z hz => ?_⟩
  · rw [e1, e2]
    by_cases e : z = y
    · subst e
      rw [v41, v49, updS, updS]
      exact ⟨rfl, rfl⟩
    · rw [updN e, updN e, o _ (by omega) (by omega) (by omega), o _ (by omega) (by omega) (by omega)]
      exact h.ye z hz
  · by_cases e : z = y
    · subst e
      exact Or.inr ⟨t, ht, v41⟩
    · rw [o _ (by omega) (by omega) (by omega)]
      exact h.so z hz
  · by_cases e : z = y
    · subst e
      exact ⟨w, hw, v49⟩
    · rw [o _ (by omega) (by omega) (by omega)]
      exact h.wo z hz
theorem sI3 {β : Type} {σ : Sta} {v : Int32} {K : Sta → Option β} : sI σ 83 209 (3 : Int32) v K = K (up1 σ 83 (upd (σ.1 83) 3 v)) := sI_n 3 (by decide)
theorem sI4 {β : Type} {σ : Sta} {v : Int32} {K : Sta → Option β} : sI σ 83 209 (4 : Int32) v K = K (up1 σ 83 (upd (σ.1 83) 4 v)) := sI_n 4 (by decide)
theorem sI1 {β : Type} {σ : Sta} {v : Int32} {K : Sta → Option β} : sI σ 83 209 (1 : Int32) v K = K (up1 σ 83 (upd (σ.1 83) 1 v)) := sI_n 1 (by decide)
theorem sI2 {β : Type} {σ : Sta} {v : Int32} {K : Sta → Option β} : sI σ 83 209 (2 : Int32) v K = K (up1 σ 83 (upd (σ.1 83) 2 v)) := sI_n 2 (by decide)
theorem sI0 {β : Type} {σ : Sta} {k n : Nat} {v : Int32} {K : Sta → Option β} (h : 0 < n) (hn : n < 2 ^ 31) : sI σ k n (0 : Int32) v K = K (up1 σ k (upd (σ.1 k) 0 v)) := sI_n 0 h hn

theorem P_prize {σ : Sta} (h : Inv σ) (x1 x2 x3 : Int32) : Pair (X11_prize x1 x2 x3) (X12_prize x1 x2 x3) σ := by
  obtain ⟨n, yr, u, nn, nb, hv⟩ := h.1
  have b0 : (badC σ).1 83 0 = nI n := by rw [badC_83]; exact hv.N0
  have b4 : (badC σ).1 83 4 = nI yr := by rw [badC_83]; exact hv.N4
  by_cases e0 : inB x1 0 7 = true
  rotate_left
  · rw [Bool.not_eq_true] at e0; exact pair_bad (a := -2) h (by simp only [X11_prize, e0, cA_e, bi_if, within_b, C_isArt_b, C_bad, Bool.false_eq_true, ite_false, ite_true, if_true, if_false]) (by simp only [X12_prize, e0, cA_e, bi_if, M_isYear_b, M_isSort_b, in_01, in_02, in_05, in_06, in_07, in_09, in_30, in_60, in_99, in_12, M_bad, Bool.false_eq_true, ite_false, ite_true, if_true, if_false])
  by_cases e1 : inB x2 0 2 = true
  rotate_left
  · rw [Bool.not_eq_true] at e1; exact pair_bad (a := -2) h (by simp only [X11_prize, e0, e1, cA_e, bi_if, within_b, C_isArt_b, C_bad, Bool.false_eq_true, ite_false, ite_true, if_true, if_false]) (by simp only [X12_prize, e0, e1, cA_e, bi_if, M_isYear_b, M_isSort_b, in_01, in_02, in_05, in_06, in_07, in_09, in_30, in_60, in_99, in_12, M_bad, Bool.false_eq_true, ite_false, ite_true, if_true, if_false])
  by_cases e2 : inB x3 1 30 = true
  rotate_left
  · rw [Bool.not_eq_true] at e2; exact pair_bad (a := -2) h (by simp only [X11_prize, e0, e1, e2, cA_e, bi_if, within_b, C_isArt_b, C_bad, Bool.false_eq_true, ite_false, ite_true, if_true, if_false]) (by simp only [X12_prize, e0, e1, e2, cA_e, bi_if, M_isYear_b, M_isSort_b, in_01, in_02, in_05, in_06, in_07, in_09, in_30, in_60, in_99, in_12, M_bad, Bool.false_eq_true, ite_false, ite_true, if_true, if_false])
  obtain ⟨j0, hj0, rfl⟩ := inB_n (m := 7) (by decide) e0
  obtain ⟨j1, hj1, rfl⟩ := inB_n (m := 2) (by decide) e1
  obtain ⟨j2, hj2a, hj2, rfl⟩ := inB_30 e2
  have hj0' : j0 < 8 := by omega
  refine ⟨σ.1 3 j0, up1 (up1 (up1 σ 2 (upd (σ.1 2) j0 (nI j1))) 3 (upd (σ.1 3) j0 (nI j2))) 1 (upd (σ.1 1) 12 0), up1 (up1 (up1 (up1 σ 2 (upd (σ.1 2) j0 (nI j1))) 3 (upd (σ.1 3) j0 (nI j2))) 1 (upd (σ.1 1) 12 0)) 83 (upd (upd (upd (σ.1 83) (41 + j0) (nI j1)) (49 + j0) (nI j2)) 3 0), ?_, ?_, ?_⟩
  rotate_left
  · simp only [X12_prize, e0, e1, e2, cA_e, bi_if, M_isYear_b, M_isSort_b, in_01, in_02, in_05, in_06, in_07, in_09, in_30, in_60, in_99, in_12, M_bad, Bool.false_eq_true, ite_false, ite_true, if_true, if_false]
    rw [a49, aI_n (49 + j0) (by omega), a41, sI_n (41 + j0) (by omega), sI_n (49 + j0) (by omega), sI3, up1_s, up1_u, up1_s, up1_u, up1_n (show 83 ≠ 1 by decide), up1_n (show 83 ≠ 3 by decide), up1_n (show 83 ≠ 2 by decide), ← (hv.ye j0 hj0').2]
  · refine h.n (((FrN.up (by unfold isN; omega)).tr (FrN.up (by unfold isN; omega))).tr ((FrN.up (by unfold isN; omega)).tr (FrN.up (by unfold isN; omega)))) ⟨n, yr, 0, nn, nb, ?_⟩
    rw [up1_s]
    refine hv.prize (y := j0) (t := j1) (w := j2) (by omega) (by omega) (by omega) ?_ ?_ ?_ ?_ ?_ ?_
    · rw [up1_n (show 1 ≠ 83 by decide), up1_s, updN (by decide), updN (by decide), updS]; exact ⟨rfl, rfl, rfl⟩
    · rw [up1_n (show 1 + 1 ≠ 83 by decide), up1_n (show 1 + 1 ≠ 1 by decide), up1_n (show 1 + 1 ≠ 3 by decide)]; exact up1_s _ _ _
    · rw [up1_n (show 1 + 2 ≠ 83 by decide), up1_n (show 1 + 2 ≠ 1 by decide)]; exact up1_s _ _ _
    · intro i i1 i2
      rw [up1_n (by omega), up1_n (by omega), up1_n (by omega), up1_n (by omega)]
    · rw [updS]
    · intro k hk
      rw [updN hk]; rfl
  · simp only [X11_prize, e0, e1, e2, cA_e, bi_if, within_b, C_isArt_b, C_bad, Bool.false_eq_true, ite_false, ite_true, if_true, if_false]
    rw [aI_n j0 (by omega), cA_of (C_setPrize 1 (by omega) _ _ σ), pI_e, up1_n (show 1 ≠ 1 + 2 by decide), up1_n (show 1 ≠ 1 + 1 by decide)]

-- one comes
theorem m3a (p : Nat) : nI p * 3 = nI (3 * p) := by
  have h1 : (3 : Int32) = nI 3 := rfl
  rw [h1, pk_mul, Nat.mul_comm]
theorem m3b (p : Nat) : nI p * 3 + 1 = nI (3 * p + 1) := m3 p 1
theorem m3c (p : Nat) : nI p * 3 + 2 = nI (3 * p + 2) := m3 p 2
theorem m23a (p : Nat) : (23 : Int32) + (3 : Int32) * nI p = nI (23 + 3 * p) := by
  have h1 : (3 : Int32) = nI 3 := rfl
  have h2 : (23 : Int32) = nI 23 := rfl
  rw [h1, h2, pk_mul, nI_add]
def add1 (r n : Nat) (x1 x2 x3 x4 : Int32) (σ : Sta) : Sta := up1 (up1 (up1 (up1 (up1 σ (r + 3) (upd (σ.1 (r + 3)) n x1)) (r + 4) (upd (upd (upd (σ.1 (r + 4)) (3 * n) x2) (3 * n + 1) x3) (3 * n + 2) x4)) (r + 5) (upd (σ.1 (r + 5)) n 0)) (r + 6) (upd (σ.1 (r + 6)) n 0)) r (upd (σ.1 r) 10 (nI (n + 1)))
theorem C_addOne {r n : Nat} {σ : Sta} (h : σ.1 r 10 = nI n) (hn : n < 6) (x1 x2 x3 x4 : Int32) : X10_addOne r x1 x2 x3 x4 σ = some ((), add1 r n x1 x2 x3 x4 σ) := by
  have q3 : r ≠ r + 3 := by omega
  have q4 : r ≠ r + 4 := by omega
  have q5 : r ≠ r + 5 := by omega
  have q6 : r ≠ r + 6 := by omega
  have p1 : r + 4 ≠ r + 3 := by omega
  have p2 : r + 5 ≠ r + 3 := by omega
  have p3 : r + 5 ≠ r + 4 := by omega
  have p4 : r + 6 ≠ r + 3 := by omega
  have p5 : r + 6 ≠ r + 4 := by omega
  have p6 : r + 6 ≠ r + 5 := by omega
  rw [X10_addOne, fI_e, h, if_pos (lt6 hn), fI_e, h, sI_n n hn, fI_e, up1_n q3, h, m3a, sI_n (3 * n) (by omega), up1_n p1, fI_e, up1_n q4, up1_n q3, h, m3b, sI_n (3 * n + 1) (by omega), up1_s, up1_u, fI_e, up1_n q4, up1_n q3, h, m3c, sI_n (3 * n + 2) (by omega), up1_s, up1_u, fI_e, up1_n q4, up1_n q3, h, sI_n n hn, up1_n p3, up1_n p2, fI_e, up1_n q5, up1_n q4, up1_n q3, h, sI_n n hn, up1_n p6, up1_n p5, up1_n p4, fI_e, up1_n q6, up1_n q5, up1_n q4, up1_n q3, h, pI_e, up1_n q6, up1_n q5, up1_n q4, up1_n q3, nI_1]
  rfl
def lone (N : Nat → Int32) (n : Nat) (x1 x2 x3 x4 : Int32) : Nat → Int32 := upd (upd (upd (upd (upd (upd (upd N (17 + n) x1) (23 + 3 * n) x2) (23 + (3 * n + 1)) x3) (23 + (3 * n + 2)) x4) (5 + n) 0) (11 + n) 0) 0 (nI (n + 1))
theorem M_layOne {nav kav n : Nat} {σ : Sta} (h : σ.1 kav 0 = nI n) (hn : n < 6) (hv : 105 ≤ nav) (hv2 : nav < 2 ^ 31) (x1 x2 x3 x4 : Int32) : X12_layOne nav kav x1 x2 x3 x4 σ = some ((), up1 σ kav (lone (σ.1 kav) n x1 x2 x3 x4)) := by
  rw [X12_layOne, aI0 (by omega) hv2, h, a17, sI_n (17 + n) (by omega) hv2, m23a, sI_n (23 + 3 * n) (by omega) hv2, up1_s, up1_u, nI_1, sI_n (23 + 3 * n + 1) (by omega) hv2, up1_s, up1_u, show (2 : Int32) = nI 2 from rfl, nI_add, sI_n (23 + 3 * n + 2) (by omega) hv2, up1_s, up1_u, a5, sI_n (5 + n) (by omega) hv2, up1_s, up1_u, a11, sI_n (11 + n) (by omega) hv2, up1_s, up1_u, aI0 (by omega) hv2, sI0 (by omega) hv2, up1_s, up1_u, updN (by omega), updN (by omega), updN (by omega), updN (by omega), updN (by omega), updN (by omega), h, nI_1]
  rfl
theorem lone_17 {N : Nat → Int32} {n p : Nat} {x1 x2 x3 x4 : Int32} (hn : n < 6) (hp : p < 6) : lone N n x1 x2 x3 x4 (17 + p) = if p = n then x1 else N (17 + p) := by
  unfold lone upd
  (repeat' split) <;> first | rfl | (exfalso; omega)
theorem lone_5 {N : Nat → Int32} {n p : Nat} {x1 x2 x3 x4 : Int32} (hn : n < 6) (hp : p < 6) : lone N n x1 x2 x3 x4 (5 + p) = if p = n then 0 else N (5 + p) := by
  unfold lone upd
  (repeat' split) <;> first | rfl | (exfalso; omega)
theorem lone_11 {N : Nat → Int32} {n p : Nat} {x1 x2 x3 x4 : Int32} (hn : n < 6) (hp : p < 6) : lone N n x1 x2 x3 x4 (11 + p) = if p = n then 0 else N (11 + p) := by
  unfold lone upd
  (repeat' split) <;> first | rfl | (exfalso; omega)
theorem lone_23 {N : Nat → Int32} {n p t : Nat} {x1 x2 x3 x4 : Int32} (hn : n < 6) (hp : p < 6) (ht : t < 3) : lone N n x1 x2 x3 x4 (23 + (3 * p + t)) = if p = n then (if t = 0 then x2 else if t = 1 then x3 else x4) else N (23 + (3 * p + t)) := by
  unfold lone upd
  (repeat' split) <;> first | rfl | (exfalso; omega)
theorem lone_o {N : Nat → Int32} {n k : Nat} {x1 x2 x3 x4 : Int32} (hn : n < 6) (hk : k < 5 ∨ 41 ≤ k) (h0 : k ≠ 0) : lone N n x1 x2 x3 x4 k = N k := by
  unfold lone upd
  (repeat' split) <;> first | rfl | (exfalso; omega)
theorem add1_4 {f : Nat → Int32} {n p t : Nat} {x2 x3 x4 : Int32} (ht : t < 3) : upd (upd (upd f (3 * n) x2) (3 * n + 1) x3) (3 * n + 2) x4 (3 * p + t) = if p = n then (if t = 0 then x2 else if t = 1 then x3 else x4) else f (3 * p + t) := by
  unfold upd
  (repeat' split) <;> first | rfl | (exfalso; omega)
theorem VR.one {S S' : Nat → Nat → Int32} {r : Nat} {N N' : Nat → Int32} {n yr u nn nb : Nat} (h : VR S r N n yr u nn nb) {k a b c : Nat} (hn : n < 6) (hk : k < 6) (ha : a < 10) (hb : b < 10) (hc : c < 10) (e0 : S' r 10 = nI (n + 1) ∧ S' r 11 = S r 11 ∧ S' r 12 = 0) (e1 : S' (r + 1) = S (r + 1)) (e2 : S' (r + 2) = S (r + 2)) (e3 : S' (r + 3) = upd (S (r + 3)) n (nI k)) (e4 : S' (r + 4) = upd (upd (upd (S (r + 4)) (3 * n) (nI a)) (3 * n + 1) (nI b)) (3 * n + 2) (nI c)) (e5 : S' (r + 5) = upd (S (r + 5)) n 0) (e6 : S' (r + 6) = upd (S (r + 6)) n 0) (e7 : ∀ i, 7 ≤ i → i < 13 → S' (r + i) = S (r + i)) (hN3 : N' 3 = 0) (hN : ∀ j, j ≠ 3 → N' j = lone N n (nI k) (nI a) (nI b) (nI c) j) : VR S' r N' (n + 1) yr 0 nn nb := by
  have o : ∀ j, j ≠ 3 → j < 5 ∨ 41 ≤ j → j ≠ 0 → N' j = N j := fun j k1 k2 k3 => by rw [hN j k1, lone_o hn k2 k3]
  refine VR.mk ⟨by omega, h.y8, by omega, h.nn6, h.nb6⟩ ⟨e0.1, e0.2.1.trans h.s11, e0.2.2, by rw [e7 9 (by omega) (by omega)]; exact h.sn, by rw [e7 11 (by omega) (by omega)]; exact h.sb⟩ ⟨by rw [hN 0 (by omega)]; exact updS _ _ _, by rw [o 1 (by omega) (by omega) (by omega)]; exact h.N1, by rw [o 2 (by omega) (by omega) (by omega)]; exact h.N2, hN3, by rw [o 4 (by omega) (by omega) (by omega)]; exact h.N4⟩
    ?_ (h.gye.c e1 e2 (fun k k1 k2 => o k (by omega) (by omega) (by omega)))
    (h.gno.c h.nn6 (e7 10 (by omega) (by omega)) (fun k k1 k2 => o k (by omega) (by omega) (by omega))) (h.gbe.c h.nb6 (by omega) (e7 12 (by omega) (by omega)) (fun k k1 k2 => o k (by omega) (by omega) (by omega))) trivial
  have hm : ∀ t, t < 3 → ∃ x, x < 10 ∧ (if t = 0 then nI a else if t = 1 then nI b else nI c) = nI x := by
    intro t ht
    rcases (show t = 0 ∨ t = 1 ∨ t = 2 by omega) with rfl | rfl | rfl
    · exact ⟨a, ha, rfl⟩
    · exact ⟨b, hb, rfl⟩
    · exact ⟨c, hc, rfl⟩
  refine ⟨fun p hp => ?_, fun p hp => ?_, fun p hp t ht => ?_, fun p hp => ?_⟩
  · rw [e3, e4, e5, e6, hN _ (by omega), hN _ (by omega), hN _ (by omega), lone_17 hn (by omega), lone_5 hn (by omega), lone_11 hn (by omega)]
    refine ⟨?_, ?_, ?_, fun t ht => ?_⟩
    · by_cases e : p = n
      · rw [if_pos e, e, updS]
      · rw [if_neg e, updN e]; exact (h.pe p (by omega)).1
    · by_cases e : p = n
      · rw [if_pos e, e, updS]
      · rw [if_neg e, updN e]; exact (h.pe p (by omega)).2.1
    · by_cases e : p = n
      · rw [if_pos e, e, updS]
      · rw [if_neg e, updN e]; exact (h.pe p (by omega)).2.2.1
    · rw [hN _ (by omega), lone_23 hn (by omega) ht, add1_4 ht]
      by_cases e : p = n
      · rw [if_pos e, if_pos e]
      · rw [if_neg e, if_neg e]; exact (h.pe p (by omega)).2.2.2 t ht
  · rw [hN _ (by omega), lone_17 hn (by omega)]
    by_cases e : p = n
    · rw [if_pos e]; exact ⟨k, hk, rfl⟩
    · rw [if_neg e]; exact h.kd p (by omega)
  · rw [hN _ (by omega), lone_23 hn (by omega) ht]
    by_cases e : p = n
    · rw [if_pos e]; exact hm t ht
    · rw [if_neg e]; exact h.ar p (by omega) t ht
  · rw [hN _ (by omega), lone_5 hn (by omega)]
    by_cases e : p = n
    · rw [if_pos e]; exact ⟨0, Nat.two_pow_pos yr, rfl⟩
    · rw [if_neg e]; exact h.wi p (by omega)
theorem add1_at {r n : Nat} {x1 x2 x3 x4 : Int32} {σ : Sta} : (add1 r n x1 x2 x3 x4 σ).1 r = upd (σ.1 r) 10 (nI (n + 1)) ∧ (add1 r n x1 x2 x3 x4 σ).1 (r + 3) = upd (σ.1 (r + 3)) n x1 ∧ (add1 r n x1 x2 x3 x4 σ).1 (r + 4) = upd (upd (upd (σ.1 (r + 4)) (3 * n) x2) (3 * n + 1) x3) (3 * n + 2) x4 ∧ (add1 r n x1 x2 x3 x4 σ).1 (r + 5) = upd (σ.1 (r + 5)) n 0 ∧ (add1 r n x1 x2 x3 x4 σ).1 (r + 6) = upd (σ.1 (r + 6)) n 0 ∧ ∀ k, k ≠ r → k < r + 3 ∨ r + 6 < k → (add1 r n x1 x2 x3 x4 σ).1 k = σ.1 k := by
  unfold add1
  refine ⟨up1_s _ _ _, ?_, ?_, ?_, ?_, fun k k1 k2 => ?_⟩
  · rw [up1_n (by omega), up1_n (by omega), up1_n (by omega), up1_n (by omega), up1_s]
  · rw [up1_n (by omega), up1_n (by omega), up1_n (by omega), up1_s]
  · rw [up1_n (by omega), up1_n (by omega), up1_s]
  · rw [up1_n (by omega), up1_s]
  · rw [up1_n (by omega), up1_n (by omega), up1_n (by omega), up1_n (by omega), up1_n (by omega)]

theorem P_one {σ : Sta} (h : Inv σ) (x1 x2 x3 x4 : Int32) : Pair (X11_one x1 x2 x3 x4) (X12_one x1 x2 x3 x4) σ := by
  obtain ⟨n, yr, u, nn, nb, hv⟩ := h.1
  have b0 : (badC σ).1 83 0 = nI n := by rw [badC_83]; exact hv.N0
  have b4 : (badC σ).1 83 4 = nI yr := by rw [badC_83]; exact hv.N4
  by_cases e0 : inB x1 0 5 = true
  rotate_left
  · rw [Bool.not_eq_true] at e0; exact pair_bad (a := -2) h (by simp only [X11_one, e0, cA_e, bi_if, within_b, C_isArt_b, C_bad, Bool.false_eq_true, ite_false, ite_true, if_true, if_false]) (by simp only [X12_one, e0, cA_e, bi_if, M_isYear_b, M_isSort_b, in_01, in_02, in_05, in_06, in_07, in_09, in_30, in_60, in_99, in_12, M_bad, Bool.false_eq_true, ite_false, ite_true, if_true, if_false])
  by_cases e1 : inB x2 0 9 = true
  rotate_left
  · rw [Bool.not_eq_true] at e1; exact pair_bad (a := -2) h (by simp only [X11_one, e0, e1, cA_e, bi_if, within_b, C_isArt_b, C_bad, Bool.false_eq_true, ite_false, ite_true, if_true, if_false]) (by simp only [X12_one, e0, e1, cA_e, bi_if, M_isYear_b, M_isSort_b, in_01, in_02, in_05, in_06, in_07, in_09, in_30, in_60, in_99, in_12, M_bad, Bool.false_eq_true, ite_false, ite_true, if_true, if_false])
  by_cases e2 : inB x3 0 9 = true
  rotate_left
  · rw [Bool.not_eq_true] at e2; exact pair_bad (a := -2) h (by simp only [X11_one, e0, e1, e2, cA_e, bi_if, within_b, C_isArt_b, C_bad, Bool.false_eq_true, ite_false, ite_true, if_true, if_false]) (by simp only [X12_one, e0, e1, e2, cA_e, bi_if, M_isYear_b, M_isSort_b, in_01, in_02, in_05, in_06, in_07, in_09, in_30, in_60, in_99, in_12, M_bad, Bool.false_eq_true, ite_false, ite_true, if_true, if_false])
  by_cases e3 : inB x4 0 9 = true
  rotate_left
  · rw [Bool.not_eq_true] at e3; exact pair_bad (a := -2) h (by simp only [X11_one, e0, e1, e2, e3, cA_e, bi_if, within_b, C_isArt_b, C_bad, Bool.false_eq_true, ite_false, ite_true, if_true, if_false]) (by simp only [X12_one, e0, e1, e2, e3, cA_e, bi_if, M_isYear_b, M_isSort_b, in_01, in_02, in_05, in_06, in_07, in_09, in_30, in_60, in_99, in_12, M_bad, Bool.false_eq_true, ite_false, ite_true, if_true, if_false])
  obtain ⟨j0, hj0, rfl⟩ := inB_n (m := 5) (by decide) e0
  obtain ⟨j1, hj1, rfl⟩ := inB_n (m := 9) (by decide) e1
  obtain ⟨j2, hj2, rfl⟩ := inB_n (m := 9) (by decide) e2
  obtain ⟨j3, hj3, rfl⟩ := inB_n (m := 9) (by decide) e3
  have hn := hv.n6
  by_cases c6 : n = 6
  · subst c6
    refine pair_full h ?_ ?_
    · simp only [X11_one, e0, e1, e2, e3, cA_e, bi_if, within_b, C_isArt_b, C_bad, Bool.false_eq_true, ite_false, ite_true, if_true, if_false]
      rw [fI_e, hv.s10, if_neg (by decide), cA_of (C_full σ)]
    · have hq : (fullC σ).1 83 = σ.1 83 := up1_n (by decide)
      simp only [X12_one, e0, e1, e2, e3, cA_e, bi_if, M_isYear_b, M_isSort_b, in_01, in_02, in_05, in_06, in_07, in_09, in_30, in_60, in_99, in_12, M_bad, Bool.false_eq_true, ite_false, ite_true, if_true, if_false]
      rw [cA_of (M_many _), hq, hv.N0, if_pos (show nI 6 = (6 : Int32) from rfl), cA_of (M_full _)]
  have hn' : n < 6 := by omega
  obtain ⟨q0, q3, q4, q5, q6, qo⟩ := add1_at (r := 1) (n := n) (x1 := nI j0) (x2 := nI j1) (x3 := nI j2) (x4 := nI j3) (σ := σ)
  have hq2 : (add1 1 n (nI j0) (nI j1) (nI j2) (nI j3) σ).2 = σ.2 := rfl
  have hc : X11_one (nI j0) (nI j1) (nI j2) (nI j3) σ = some (nI n, up1 (add1 1 n (nI j0) (nI j1) (nI j2) (nI j3) σ) 1 (upd (upd (σ.1 1) 10 (nI (n + 1))) 12 0)) := by
    simp only [X11_one, e0, e1, e2, e3, cA_e, bi_if, within_b, C_isArt_b, C_bad, Bool.false_eq_true, ite_false, ite_true, if_true, if_false]
    rw [fI_e, hv.s10, if_pos (lt6 hn'), cA_of (C_addOne hv.s10 hn' _ _ _ _), pI_e, q0, fI_e, up1_s, updN (by decide), updS, nI_pred]
  generalize add1 1 n (nI j0) (nI j1) (nI j2) (nI j3) σ = τ at *
  have t83 : τ.1 83 = σ.1 83 := qo 83 (by omega) (by omega)
  have u83 : (up1 τ 1 (upd (upd (σ.1 1) 10 (nI (n + 1))) 12 0)).1 83 = σ.1 83 := by rw [up1_n (by decide)]; exact t83
  refine ⟨nI n, _, up1 (up1 τ 1 (upd (upd (σ.1 1) 10 (nI (n + 1))) 12 0)) 83 (upd (lone (σ.1 83) n (nI j0) (nI j1) (nI j2) (nI j3)) 3 0), hc, ?_, ?_⟩
  · simp only [X12_one, e0, e1, e2, e3, cA_e, bi_if, M_isYear_b, M_isSort_b, in_01, in_02, in_05, in_06, in_07, in_09, in_30, in_60, in_99, in_12, M_bad, Bool.false_eq_true, ite_false, ite_true, if_true, if_false]
    rw [cA_of (M_many _), u83, hv.N0, if_neg (show ¬ nI n = (6 : Int32) from fun e => c6 ((nI_eq (b := 6) (by omega) (by omega)).mp e)), cA_of (M_layOne (by rw [u83]; exact hv.N0) hn' (by decide) (by decide) _ _ _ _), u83, sI3, up1_s, up1_u, cA_of (M_many _), up1_s, updN (by decide), show lone (σ.1 83) n (nI j0) (nI j1) (nI j2) (nI j3) 0 = nI (n + 1) from updS _ _ _, nI_pred]
  · refine h.n (FrN.tr (b := τ) ⟨fun k hk => qo k (by unfold isN at hk; omega) (by unfold isN at hk; omega), hq2⟩ ((FrN.up (by unfold isN; omega)).tr (FrN.up (by unfold isN; omega)))) ⟨n + 1, yr, 0, nn, nb, ?_⟩
    rw [up1_s]
    refine hv.one (k := j0) (a := j1) (b := j2) (c := j3) hn' (by omega) (by omega) (by omega) (by omega) ?_ ?_ ?_ ?_ ?_ ?_ ?_ ?_ ?_ ?_
    · rw [up1_n (show 1 ≠ 83 by decide), up1_s, updN (by decide), updS, updN (by decide), updN (by decide), updS]; exact ⟨rfl, rfl, rfl⟩
    · rw [up1_n (by decide), up1_n (by decide)]; exact qo _ (by omega) (by omega)
    · rw [up1_n (by decide), up1_n (by decide)]; exact qo _ (by omega) (by omega)
    · rw [up1_n (by decide), up1_n (by decide)]; exact q3
    · rw [up1_n (by decide), up1_n (by decide)]; exact q4
    · rw [up1_n (by decide), up1_n (by decide)]; exact q5
    · rw [up1_n (by decide), up1_n (by decide)]; exact q6
    · intro i i1 i2
      rw [up1_n (by omega), up1_n (by omega)]; exact qo _ (by omega) (by omega)
    · rw [updS]
    · intro k hk
      rw [updN hk]

-- the text
theorem P_clear {σ : Sta} (h : Inv σ) : Pair X11_clear X12_clear σ := by
  obtain ⟨L, h1, h2, h3, h4⟩ := h.2.2.2.2
  refine ⟨nI L, up1 σ 80 (upd (σ.1 80) 1 0), up1 (up1 σ 80 (upd (σ.1 80) 1 0)) 82 (upd (σ.1 82) 14 0), ?_, ?_, ?_⟩
  · rw [X11_clear, fI_e, h2, pI_e]
  · rw [X12_clear, fI_e, up1_n (show 82 ≠ 80 by decide), h3, pI_e, up1_n (show 82 ≠ 80 by decide)]
  · refine h.x ((FrX.up (by unfold isX; omega)).tr (FrX.up (by unfold isX; omega))) ⟨0, by omega, ?_, ?_, fun j hj => by omega⟩
    · rw [up1_n (by decide), up1_s, updS]; rfl
    · rw [up1_s, updS]; rfl
theorem lt150 {i : Nat} (h : i < 150) : nI i < (150 : Int32) := nI_lt (b := 150) h (by decide)

theorem P_type {σ : Sta} (h : Inv σ) (x1 : Int32) : Pair (X11_type x1) (X12_type x1) σ := by
  obtain ⟨n, yr, u, nn, nb, hv⟩ := h.1
  have b0 : (badC σ).1 83 0 = nI n := by rw [badC_83]; exact hv.N0
  have b4 : (badC σ).1 83 4 = nI yr := by rw [badC_83]; exact hv.N4
  by_cases e0 : inB x1 0 127 = true
  rotate_left
  · rw [Bool.not_eq_true] at e0; exact pair_bad (a := -2) h (by simp only [X11_type, e0, cA_e, bi_if, within_b, C_isArt_b, C_bad, Bool.false_eq_true, ite_false, ite_true, if_true, if_false]) (by simp only [X12_type, e0, cA_e, bi_if, M_isYear_b, M_isSort_b, in_01, in_02, in_05, in_06, in_07, in_09, in_30, in_60, in_99, in_12, M_bad, Bool.false_eq_true, ite_false, ite_true, if_true, if_false])
  obtain ⟨j0, hj0, rfl⟩ := inB_n (m := 127) (by decide) e0
  obtain ⟨L, h1, h2, h3, h4⟩ := h.2.2.2.2
  by_cases c6 : L = 150
  · subst c6
    refine pair_full h ?_ ?_
    · simp only [X11_type, e0, cA_e, bi_if, within_b, C_isArt_b, C_bad, Bool.false_eq_true, ite_false, ite_true, if_true, if_false]
      rw [fI_e, h2, if_neg (by decide), cA_of (C_full σ)]
    · have hq : (fullC σ).1 82 = σ.1 82 := up1_n (by decide)
      simp only [X12_type, e0, cA_e, bi_if, M_isYear_b, M_isSort_b, in_01, in_02, in_05, in_06, in_07, in_09, in_30, in_60, in_99, in_12, M_bad, Bool.false_eq_true, ite_false, ite_true, if_true, if_false]
      rw [fI_e, hq, h3, if_pos (show nI 150 = (150 : Int32) from rfl), cA_of (M_full _)]
  have hL : L < 150 := by omega
  refine ⟨nI (L + 1), up1 (up1 σ 81 (upd (σ.1 81) L (nI j0))) 80 (upd (σ.1 80) 1 (nI (L + 1))), up1 (up1 (up1 (up1 σ 81 (upd (σ.1 81) L (nI j0))) 80 (upd (σ.1 80) 1 (nI (L + 1)))) 94 (upd (σ.1 94) L (nI j0))) 82 (upd (σ.1 82) 14 (nI (L + 1))), ?_, ?_, ?_⟩
  · simp only [X11_type, e0, cA_e, bi_if, within_b, C_isArt_b, C_bad, Bool.false_eq_true, ite_false, ite_true, if_true, if_false]
    have ha : X8_append (nI j0) σ = some ((), up1 (up1 σ 81 (upd (σ.1 81) L (nI j0))) 80 (upd (σ.1 80) 1 (nI (L + 1)))) := by
      rw [X8_append, fI_e, h2, if_pos (lt150 hL), fI_e, h2, sI_n L hL, fI_e, up1_n (show 80 ≠ 81 by decide), h2, pI_e, up1_n (show 80 ≠ 81 by decide), nI_1]
    rw [fI_e, h2, if_pos (lt150 hL), cA_of ha, fI_e, up1_s, updS]
  · simp only [X12_type, e0, cA_e, bi_if, M_isYear_b, M_isSort_b, in_01, in_02, in_05, in_06, in_07, in_09, in_30, in_60, in_99, in_12, M_bad, Bool.false_eq_true, ite_false, ite_true, if_true, if_false]
    rw [fI_e, up1_n (show 82 ≠ 80 by decide), up1_n (show 82 ≠ 81 by decide), h3, if_neg (show ¬ nI L = (150 : Int32) from fun e => c6 ((nI_eq (b := 150) (by omega) (by omega)).mp e)), fI_e, up1_n (show 82 ≠ 80 by decide), up1_n (show 82 ≠ 81 by decide), h3, sI_n L hL, fI_e, up1_n (show 82 ≠ 94 by decide), up1_n (show 82 ≠ 80 by decide), up1_n (show 82 ≠ 81 by decide), h3, pI_e, up1_n (show 82 ≠ 94 by decide), up1_n (show 82 ≠ 80 by decide), up1_n (show 82 ≠ 81 by decide), fI_e, up1_s, updS, nI_1, up1_n (show 94 ≠ 80 by decide), up1_n (show 94 ≠ 81 by decide)]
  · refine h.x (((FrX.up (by unfold isX; omega)).tr (FrX.up (by unfold isX; omega))).tr ((FrX.up (by unfold isX; omega)).tr (FrX.up (by unfold isX; omega)))) ⟨L + 1, by omega, ?_, ?_, fun j hj => ?_⟩
    · rw [up1_n (by decide), up1_n (by decide), up1_s, updS]
    · rw [up1_s, updS]
    · rw [up1_n (show 81 ≠ 82 by decide), up1_n (show 81 ≠ 94 by decide), up1_n (show 81 ≠ 80 by decide), up1_s, up1_n (show 94 ≠ 82 by decide), up1_s]
      by_cases e : j = L
      · rw [e, updS, updS]
      · rw [updN e, updN e]; exact h4 j (by omega)

-- rows of notes and beatings
theorem ok_if {β : Type} {b : Bool} {x y : β} (h : b = true) : (if bi b = 0 then x else y) = y := by rw [bi_if, if_pos h]
def row4 (f : Nat → Int32) (b : Nat) (x1 x2 x3 x4 : Int32) : Nat → Int32 := upd (upd (upd (upd f b x1) (b + 1) x2) (b + 2) x3) (b + 3) x4
theorem row4_sh {f g : Nat → Int32} {b c j : Nat} {x1 x2 x3 x4 : Int32} (h : j < b → f j = g (c + j)) (hj : j < b + 4) : row4 f b x1 x2 x3 x4 j = row4 g (c + b) x1 x2 x3 x4 (c + j) := by
  unfold row4 upd
  (repeat' split) <;> first | rfl | (exfalso; omega) | (exact h (by omega))
theorem row4_o {f : Nat → Int32} {b j : Nat} {x1 x2 x3 x4 : Int32} (h : j < b ∨ b + 4 ≤ j) : row4 f b x1 x2 x3 x4 j = f j := by
  unfold row4 upd
  (repeat' split) <;> first | rfl | (exfalso; omega)
theorem row4_in (f : Nat → Int32) (b : Nat) (x1 x2 x3 x4 : Int32) : row4 f b x1 x2 x3 x4 b = x1 ∧ row4 f b x1 x2 x3 x4 (b + 1) = x2 ∧ row4 f b x1 x2 x3 x4 (b + 2) = x3 ∧ row4 f b x1 x2 x3 x4 (b + 3) = x4 := by
  unfold row4
  refine ⟨?_, ?_, ?_, ?_⟩
  · rw [updN (by omega), updN (by omega), updN (by omega), updS]
  · rw [updN (by omega), updN (by omega), updS]
  · rw [updN (by omega), updS]
  · rw [updS]
theorem m4a (m : Nat) : nI m * 4 = nI (4 * m) := by
  have h : (4 : Int32) = nI 4 := rfl
  rw [h, pk_mul, Nat.mul_comm]
theorem m4l (m : Nat) : (4 : Int32) * nI m = nI (4 * m) := by
  have h : (4 : Int32) = nI 4 := rfl
  rw [h, pk_mul]
theorem nI_p2 (a : Nat) : nI a + 2 = nI (a + 2) := nI_add a 2
theorem nI_p3 (a : Nat) : nI a + 3 = nI (a + 3) := nI_add a 3
theorem a57 (p : Nat) : (57 : Int32) + nI p = nI (57 + p) := nI_add 57 p
theorem a81 (p : Nat) : (81 : Int32) + nI p = nI (81 + p) := nI_add 81 p
theorem C_add {r m : Nat} {σ : Sta} (h : σ.1 r 1 = nI m) (hm : m < 6) (x1 x2 x3 x4 : Int32) : X9_add r x1 x2 x3 x4 σ = some ((), up1 (up1 σ (r + 1) (row4 (σ.1 (r + 1)) (4 * m) x1 x2 x3 x4)) r (upd (σ.1 r) 1 (nI (m + 1)))) := by
  have q : r ≠ r + 1 := by omega
  rw [X9_add, fI_e, h, if_pos (lt6 hm), fI_e, h, m4a, sI_n (4 * m) (by omega), nI_1, sI_n (4 * m + 1) (by omega), up1_s, up1_u, nI_p2, sI_n (4 * m + 2) (by omega), up1_s, up1_u, nI_p3, sI_n (4 * m + 3) (by omega), up1_s, up1_u, fI_e, up1_n q, h, pI_e, up1_n q, nI_1]
  rfl
theorem VR.note {S S' : Nat → Nat → Int32} {r : Nat} {N N' : Nat → Int32} {n yr u nn nb : Nat} (h : VR S r N n yr u nn nb) (hn : nn < 6) {x1 x2 x3 x4 : Int32} (e9 : S' (r + 9) 1 = nI (nn + 1)) (e10 : S' (r + 10) = row4 (S (r + 10)) (4 * nn) x1 x2 x3 x4) (eo : ∀ i, i < 13 → i ≠ 9 → i ≠ 10 → S' (r + i) = S (r + i)) (hN : ∀ j, N' j = upd (row4 N (57 + 4 * nn) x1 x2 x3 x4) 1 (nI (nn + 1)) j) : VR S' r N' n yr u (nn + 1) nb := by
  have o : ∀ j, j ≠ 1 → j < 57 ∨ 81 ≤ j → N' j = N j := fun j k1 k2 => by rw [hN j, updN k1, row4_o (by omega)]
  have e0 : S' r = S r := eo 0 (by omega) (by omega) (by omega)
  have hn6 := h.n6
  refine VR.mk ⟨h.n6, h.y8, h.uy, by omega, h.nb6⟩ ⟨by rw [e0]; exact h.s10, by rw [e0]; exact h.s11, by rw [e0]; exact h.s12, e9, by rw [eo 11 (by omega) (by omega) (by omega)]; exact h.sb⟩ ⟨by rw [o 0 (by omega) (by omega)]; exact h.N0, by rw [hN 1, updS], by rw [o 2 (by omega) (by omega)]; exact h.N2, by rw [o 3 (by omega) (by omega)]; exact h.N3, by rw [o 4 (by omega) (by omega)]; exact h.N4⟩
    (h.gpe.c h.n6 (eo 3 (by omega) (by omega) (by omega)) (eo 4 (by omega) (by omega) (by omega)) (eo 5 (by omega) (by omega) (by omega)) (eo 6 (by omega) (by omega) (by omega)) (fun k k1 k2 => o k (by omega) (by omega)))
    (h.gye.c (eo 1 (by omega) (by omega) (by omega)) (eo 2 (by omega) (by omega) (by omega)) (fun k k1 k2 => o k (by omega) (by omega))) ?_ (h.gbe.c h.nb6 (Nat.le_refl _) (eo 12 (by omega) (by omega) (by omega)) (fun k k1 k2 => o k (by omega) (by omega))) ?_
  · intro j hj
    rw [e10, hN, updN (by omega)]
    exact row4_sh (fun hj2 => h.no j hj2) (by omega)
  · rw [eo 7 (by omega) (by omega) (by omega), eo 8 (by omega) (by omega) (by omega)]
    exact Hist_c hn6 u yr 4 4 h.hi (fun k k1 k2 => o k (by omega) (by omega)) (fun i hi => o _ (by omega) (by omega)) (fun y hy => ⟨rfl, rfl⟩)
theorem VR.beat {S S' : Nat → Nat → Int32} {r : Nat} {N N' : Nat → Int32} {n yr u nn nb : Nat} (h : VR S r N n yr u nn nb) (hn : nb < 6) {i1 i2 i3 i4 : Nat} (h1 : i1 < n) (h2 : i2 < n) (h3 : i3 < 3) (h4 : i4 < 8) (e9 : S' (r + 11) 1 = nI (nb + 1)) (e10 : S' (r + 12) = row4 (S (r + 12)) (4 * nb) (nI i1) (nI i2) (nI i3) (nI i4)) (eo : ∀ i, i < 13 → i ≠ 11 → i ≠ 12 → S' (r + i) = S (r + i)) (hN : ∀ j, N' j = upd (row4 N (81 + 4 * nb) (nI i1) (nI i2) (nI i3) (nI i4)) 2 (nI (nb + 1)) j) : VR S' r N' n yr u nn (nb + 1) := by
  have o : ∀ j, j ≠ 2 → j < 81 ∨ 105 ≤ j → N' j = N j := fun j k1 k2 => by rw [hN j, updN k1, row4_o (by omega)]
  have e0 : S' r = S r := eo 0 (by omega) (by omega) (by omega)
  have hn6 := h.n6
  refine VR.mk ⟨h.n6, h.y8, h.uy, h.nn6, by omega⟩ ⟨by rw [e0]; exact h.s10, by rw [e0]; exact h.s11, by rw [e0]; exact h.s12, by rw [eo 9 (by omega) (by omega) (by omega)]; exact h.sn, e9⟩ ⟨by rw [o 0 (by omega) (by omega)]; exact h.N0, by rw [o 1 (by omega) (by omega)]; exact h.N1, by rw [hN 2, updS], by rw [o 3 (by omega) (by omega)]; exact h.N3, by rw [o 4 (by omega) (by omega)]; exact h.N4⟩
    (h.gpe.c h.n6 (eo 3 (by omega) (by omega) (by omega)) (eo 4 (by omega) (by omega) (by omega)) (eo 5 (by omega) (by omega) (by omega)) (eo 6 (by omega) (by omega) (by omega)) (fun k k1 k2 => o k (by omega) (by omega)))
    (h.gye.c (eo 1 (by omega) (by omega) (by omega)) (eo 2 (by omega) (by omega) (by omega)) (fun k k1 k2 => o k (by omega) (by omega))) (h.gno.c h.nn6 (eo 10 (by omega) (by omega) (by omega)) (fun k k1 k2 => o k (by omega) (by omega))) ⟨?_, ?_⟩ ?_
  · intro j hj
    rw [e10, hN, updN (by omega)]
    exact row4_sh (fun hj2 => h.be j hj2) (by omega)
  · intro k hk
    rw [hN, hN, hN, hN, updN (by omega), updN (by omega), updN (by omega), updN (by omega)]
    by_cases e : k = nb
    · subst e
      obtain ⟨r1, r2, r3, r4⟩ := row4_in N (81 + 4 * k) (nI i1) (nI i2) (nI i3) (nI i4)
      exact ⟨i1, i2, i3, i4, h1, h2, h3, h4, r1, r2, r3, r4⟩
    · rw [row4_o (by omega), row4_o (by omega), row4_o (by omega), row4_o (by omega)]
      exact h.bb k (by omega)
  · rw [eo 7 (by omega) (by omega) (by omega), eo 8 (by omega) (by omega) (by omega)]
    exact Hist_c hn6 u yr 4 4 h.hi (fun k k1 k2 => o k (by omega) (by omega)) (fun i hi => o _ (by omega) (by omega)) (fun y hy => ⟨rfl, rfl⟩)

theorem P_note {σ : Sta} (h : Inv σ) (x1 x2 x3 x4 : Int32) : Pair (X11_note x1 x2 x3 x4) (X12_note x1 x2 x3 x4) σ := by
  obtain ⟨n, yr, u, nn, nb, hv⟩ := h.1
  have b0 : (badC σ).1 83 0 = nI n := by rw [badC_83]; exact hv.N0
  have b4 : (badC σ).1 83 4 = nI yr := by rw [badC_83]; exact hv.N4
  by_cases e0 : inB x1 0 (nI n - 1) = true
  rotate_left
  · rw [Bool.not_eq_true] at e0; exact pair_bad (a := -2) h (by simp only [X11_note, C_isOne_b hv.s10, e0, cA_e, bi_if, within_b, C_isArt_b, C_bad, Bool.false_eq_true, ite_false, ite_true, if_true, if_false]) (by simp only [X12_note, M_isOne_b b0, e0, cA_e, bi_if, M_isYear_b, M_isSort_b, in_01, in_02, in_05, in_06, in_07, in_09, in_30, in_60, in_99, in_12, M_bad, Bool.false_eq_true, ite_false, ite_true, if_true, if_false])
  by_cases e1 : inB x2 1 30 = true
  rotate_left
  · rw [Bool.not_eq_true] at e1; exact pair_bad (a := -2) h (by simp only [X11_note, C_isOne_b hv.s10, e0, e1, cA_e, bi_if, within_b, C_isArt_b, C_bad, Bool.false_eq_true, ite_false, ite_true, if_true, if_false]) (by simp only [X12_note, M_isOne_b b0, e0, e1, cA_e, bi_if, M_isYear_b, M_isSort_b, in_01, in_02, in_05, in_06, in_07, in_09, in_30, in_60, in_99, in_12, M_bad, Bool.false_eq_true, ite_false, ite_true, if_true, if_false])
  by_cases e2 : inB x3 0 7 = true
  rotate_left
  · rw [Bool.not_eq_true] at e2; exact pair_bad (a := -2) h (by simp only [X11_note, C_isOne_b hv.s10, e0, e1, e2, cA_e, bi_if, within_b, C_isArt_b, C_bad, Bool.false_eq_true, ite_false, ite_true, if_true, if_false]) (by simp only [X12_note, M_isOne_b b0, e0, e1, e2, cA_e, bi_if, M_isYear_b, M_isSort_b, in_01, in_02, in_05, in_06, in_07, in_09, in_30, in_60, in_99, in_12, M_bad, Bool.false_eq_true, ite_false, ite_true, if_true, if_false])
  by_cases e3 : inB x4 0 1 = true
  rotate_left
  · rw [Bool.not_eq_true] at e3; exact pair_bad (a := -2) h (by simp only [X11_note, C_isOne_b hv.s10, e0, e1, e2, e3, cA_e, bi_if, within_b, C_isArt_b, C_bad, Bool.false_eq_true, ite_false, ite_true, if_true, if_false]) (by simp only [X12_note, M_isOne_b b0, e0, e1, e2, e3, cA_e, bi_if, M_isYear_b, M_isSort_b, in_01, in_02, in_05, in_06, in_07, in_09, in_30, in_60, in_99, in_12, M_bad, Bool.false_eq_true, ite_false, ite_true, if_true, if_false])
  obtain ⟨j0, hj0, rfl⟩ := inB_1 hv.n6 e0
  obtain ⟨j1, hj1a, hj1, rfl⟩ := inB_30 e1
  obtain ⟨j2, hj2, rfl⟩ := inB_n (m := 7) (by decide) e2
  obtain ⟨j3, hj3, rfl⟩ := inB_n (m := 1) (by decide) e3
  have hn := hv.nn6
  by_cases c6 : nn = 6
  · subst c6
    refine pair_full h ?_ ?_
    · simp only [X11_note, C_isOne_b hv.s10, e0, e1, e2, e3, cA_e, bi_if, within_b, C_isArt_b, C_bad, Bool.false_eq_true, ite_false, ite_true, if_true, if_false]
      rw [fI_e, hv.sn, if_neg (by decide), cA_of (C_full σ)]
    · have hq : (fullC σ).1 83 = σ.1 83 := up1_n (by decide)
      have t0 : (fullC σ).1 83 0 = nI n := by rw [hq]; exact hv.N0
      generalize fullC σ = ρ at hq t0 ⊢
      rw [X12_note, M_isOne_b t0, cA_e, ok_if e0, in_30, cA_e, ok_if e1, in_07, cA_e, ok_if e2, in_01, cA_e, ok_if e3, aI1, hq, hv.N1, if_pos (show nI 6 = (6 : Int32) from rfl), cA_of (M_full _)]
  have hn' : nn < 6 := by omega
  have hc : X11_note (nI j0) (nI j1) (nI j2) (nI j3) σ = some (nI (nn + 1), up1 (up1 σ 11 (row4 (σ.1 11) (4 * nn) (nI j0) (nI j1) (nI j2) (nI j3))) 10 (upd (σ.1 10) 1 (nI (nn + 1)))) := by
    simp only [X11_note, C_isOne_b hv.s10, e0, e1, e2, e3, cA_e, bi_if, within_b, C_isArt_b, C_bad, Bool.false_eq_true, ite_false, ite_true, if_true, if_false]
    rw [fI_e, hv.sn, if_pos (lt6 hn'), cA_of (C_add hv.sn hn' _ _ _ _), fI_e, up1_s, updS]
  have u83 : (up1 (up1 σ 11 (row4 (σ.1 11) (4 * nn) (nI j0) (nI j1) (nI j2) (nI j3))) 10 (upd (σ.1 10) 1 (nI (nn + 1)))).1 83 = σ.1 83 := by rw [up1_n (by decide), up1_n (by decide)]
  have f1 : FrN σ (up1 (up1 σ 11 (row4 (σ.1 11) (4 * nn) (nI j0) (nI j1) (nI j2) (nI j3))) 10 (upd (σ.1 10) 1 (nI (nn + 1)))) := (FrN.up (by unfold isN; omega)).tr (FrN.up (by unfold isN; omega))
  have g9 : (up1 (up1 σ 11 (row4 (σ.1 11) (4 * nn) (nI j0) (nI j1) (nI j2) (nI j3))) 10 (upd (σ.1 10) 1 (nI (nn + 1)))).1 10 1 = nI (nn + 1) := by rw [up1_s, updS]
  have g10 : (up1 (up1 σ 11 (row4 (σ.1 11) (4 * nn) (nI j0) (nI j1) (nI j2) (nI j3))) 10 (upd (σ.1 10) 1 (nI (nn + 1)))).1 11 = row4 (σ.1 11) (4 * nn) (nI j0) (nI j1) (nI j2) (nI j3) := by rw [up1_n (by decide), up1_s]
  have go : ∀ k, k ≠ 10 → k ≠ 11 → (up1 (up1 σ 11 (row4 (σ.1 11) (4 * nn) (nI j0) (nI j1) (nI j2) (nI j3))) 10 (upd (σ.1 10) 1 (nI (nn + 1)))).1 k = σ.1 k := fun k k1 k2 => by rw [up1_n k1, up1_n k2]
  generalize up1 (up1 σ 11 (row4 (σ.1 11) (4 * nn) (nI j0) (nI j1) (nI j2) (nI j3))) 10 (upd (σ.1 10) 1 (nI (nn + 1))) = τ at *
  have t0 : τ.1 83 0 = nI n := by rw [u83]; exact hv.N0
  refine ⟨nI (nn + 1), τ, up1 τ 83 (upd (row4 (σ.1 83) (57 + 4 * nn) (nI j0) (nI j1) (nI j2) (nI j3)) 1 (nI (nn + 1))), hc, ?_, ?_⟩
  · unfold row4
    rw [X12_note, M_isOne_b t0, cA_e, ok_if e0, in_30, cA_e, ok_if e1, in_07, cA_e, ok_if e2, in_01, cA_e, ok_if e3, aI1, u83, hv.N1, if_neg (show ¬ nI nn = (6 : Int32) from fun e => c6 ((nI_eq (b := 6) (by omega) (by omega)).mp e)), aI1, u83, hv.N1, m4l, a57, sI_n (57 + 4 * nn) (by omega), nI_1, sI_n (57 + 4 * nn + 1) (by omega), up1_s, up1_u, nI_p2, sI_n (57 + 4 * nn + 2) (by omega), up1_s, up1_u, nI_p3, sI_n (57 + 4 * nn + 3) (by omega), up1_s, up1_u, aI1, sI1, up1_s, up1_u, aI1, up1_s, updS, updN (by omega), updN (by omega), updN (by omega), updN (by omega), u83, hv.N1, nI_1]
  · refine h.n (f1.tr (FrN.up (by unfold isN; omega))) ⟨n, yr, u, nn + 1, nb, ?_⟩
    rw [up1_s]
    refine hv.note hn' (x1 := nI j0) (x2 := nI j1) (x3 := nI j2) (x4 := nI j3) ?_ ?_ ?_ ?_
    · rw [up1_n (by decide)]; exact g9
    · rw [up1_n (by decide)]; exact g10
    · intro i i1 i2 i3
      rw [up1_n (by omega)]; exact go _ (by omega) (by omega)
    · intro j
      rfl
theorem P_beaten {σ : Sta} (h : Inv σ) (x1 x2 x3 x4 : Int32) : Pair (X11_beaten x1 x2 x3 x4) (X12_beaten x1 x2 x3 x4) σ := by
  obtain ⟨n, yr, u, nn, nb, hv⟩ := h.1
  have b0 : (badC σ).1 83 0 = nI n := by rw [badC_83]; exact hv.N0
  have b4 : (badC σ).1 83 4 = nI yr := by rw [badC_83]; exact hv.N4
  by_cases e0 : inB x1 0 (nI n - 1) = true
  rotate_left
  · rw [Bool.not_eq_true] at e0; exact pair_bad (a := -2) h (by simp only [X11_beaten, C_isOne_b hv.s10, e0, cA_e, bi_if, within_b, C_isArt_b, C_bad, Bool.false_eq_true, ite_false, ite_true, if_true, if_false]) (by simp only [X12_beaten, M_isOne_b b0, e0, cA_e, bi_if, M_isYear_b, M_isSort_b, in_01, in_02, in_05, in_06, in_07, in_09, in_30, in_60, in_99, in_12, M_bad, Bool.false_eq_true, ite_false, ite_true, if_true, if_false])
  by_cases e1 : inB x2 0 (nI n - 1) = true
  rotate_left
  · rw [Bool.not_eq_true] at e1; exact pair_bad (a := -2) h (by simp only [X11_beaten, C_isOne_b hv.s10, e0, e1, cA_e, bi_if, within_b, C_isArt_b, C_bad, Bool.false_eq_true, ite_false, ite_true, if_true, if_false]) (by simp only [X12_beaten, M_isOne_b b0, e0, e1, cA_e, bi_if, M_isYear_b, M_isSort_b, in_01, in_02, in_05, in_06, in_07, in_09, in_30, in_60, in_99, in_12, M_bad, Bool.false_eq_true, ite_false, ite_true, if_true, if_false])
  by_cases e2 : x1 = x2
  · exact pair_bad (a := -2) h (by simp only [X11_beaten, C_isOne_b hv.s10, e0, e1, e2, cA_e, bi_if, within_b, C_isArt_b, C_bad, Bool.false_eq_true, ite_false, ite_true, if_true, if_false]) (by simp only [X12_beaten, M_isOne_b b0, e0, e1, e2, cA_e, bi_if, M_isYear_b, M_isSort_b, in_01, in_02, in_05, in_06, in_07, in_09, in_30, in_60, in_99, in_12, M_bad, Bool.false_eq_true, ite_false, ite_true, if_true, if_false])
  by_cases e3 : inB x3 0 2 = true
  rotate_left
  · rw [Bool.not_eq_true] at e3; exact pair_bad (a := -2) h (by simp only [X11_beaten, C_isOne_b hv.s10, e0, e1, e2, e3, cA_e, bi_if, within_b, C_isArt_b, C_bad, Bool.false_eq_true, ite_false, ite_true, if_true, if_false]) (by simp only [X12_beaten, M_isOne_b b0, e0, e1, e2, e3, cA_e, bi_if, M_isYear_b, M_isSort_b, in_01, in_02, in_05, in_06, in_07, in_09, in_30, in_60, in_99, in_12, M_bad, Bool.false_eq_true, ite_false, ite_true, if_true, if_false])
  by_cases e4 : inB x4 0 7 = true
  rotate_left
  · rw [Bool.not_eq_true] at e4; exact pair_bad (a := -2) h (by simp only [X11_beaten, C_isOne_b hv.s10, e0, e1, e2, e3, e4, cA_e, bi_if, within_b, C_isArt_b, C_bad, Bool.false_eq_true, ite_false, ite_true, if_true, if_false]) (by simp only [X12_beaten, M_isOne_b b0, e0, e1, e2, e3, e4, cA_e, bi_if, M_isYear_b, M_isSort_b, in_01, in_02, in_05, in_06, in_07, in_09, in_30, in_60, in_99, in_12, M_bad, Bool.false_eq_true, ite_false, ite_true, if_true, if_false])
  obtain ⟨j0, hj0, rfl⟩ := inB_1 hv.n6 e0
  obtain ⟨j1, hj1, rfl⟩ := inB_1 hv.n6 e1
  obtain ⟨j3, hj3, rfl⟩ := inB_n (m := 2) (by decide) e3
  obtain ⟨j4, hj4, rfl⟩ := inB_n (m := 7) (by decide) e4
  have hn := hv.nb6
  by_cases c6 : nb = 6
  · subst c6
    refine pair_full h ?_ ?_
    · simp only [X11_beaten, C_isOne_b hv.s10, e0, e1, e2, e3, e4, cA_e, bi_if, within_b, C_isArt_b, C_bad, Bool.false_eq_true, ite_false, ite_true, if_true, if_false]
      rw [fI_e, hv.sb, if_neg (by decide), cA_of (C_full σ)]
    · have hq : (fullC σ).1 83 = σ.1 83 := up1_n (by decide)
      have t0 : (fullC σ).1 83 0 = nI n := by rw [hq]; exact hv.N0
      generalize fullC σ = ρ at hq t0 ⊢
      rw [X12_beaten, M_isOne_b t0, cA_e, ok_if e0, M_isOne_b t0, cA_e, ok_if e1, if_neg e2, M_isSort_b, cA_e, ok_if e3, M_isYear_b, cA_e, ok_if e4, aI2, hq, hv.N2, if_pos (show nI 6 = (6 : Int32) from rfl), cA_of (M_full _)]
  have hn' : nb < 6 := by omega
  have hc : X11_beaten (nI j0) (nI j1) (nI j3) (nI j4) σ = some (nI (nb + 1), up1 (up1 σ 13 (row4 (σ.1 13) (4 * nb) (nI j0) (nI j1) (nI j3) (nI j4))) 12 (upd (σ.1 12) 1 (nI (nb + 1)))) := by
    simp only [X11_beaten, C_isOne_b hv.s10, e0, e1, e2, e3, e4, cA_e, bi_if, within_b, C_isArt_b, C_bad, Bool.false_eq_true, ite_false, ite_true, if_true, if_false]
    rw [fI_e, hv.sb, if_pos (lt6 hn'), cA_of (C_add hv.sb hn' _ _ _ _), fI_e, up1_s, updS]
  have u83 : (up1 (up1 σ 13 (row4 (σ.1 13) (4 * nb) (nI j0) (nI j1) (nI j3) (nI j4))) 12 (upd (σ.1 12) 1 (nI (nb + 1)))).1 83 = σ.1 83 := by rw [up1_n (by decide), up1_n (by decide)]
  have f1 : FrN σ (up1 (up1 σ 13 (row4 (σ.1 13) (4 * nb) (nI j0) (nI j1) (nI j3) (nI j4))) 12 (upd (σ.1 12) 1 (nI (nb + 1)))) := (FrN.up (by unfold isN; omega)).tr (FrN.up (by unfold isN; omega))
  have g9 : (up1 (up1 σ 13 (row4 (σ.1 13) (4 * nb) (nI j0) (nI j1) (nI j3) (nI j4))) 12 (upd (σ.1 12) 1 (nI (nb + 1)))).1 12 1 = nI (nb + 1) := by rw [up1_s, updS]
  have g10 : (up1 (up1 σ 13 (row4 (σ.1 13) (4 * nb) (nI j0) (nI j1) (nI j3) (nI j4))) 12 (upd (σ.1 12) 1 (nI (nb + 1)))).1 13 = row4 (σ.1 13) (4 * nb) (nI j0) (nI j1) (nI j3) (nI j4) := by rw [up1_n (by decide), up1_s]
  have go : ∀ k, k ≠ 12 → k ≠ 13 → (up1 (up1 σ 13 (row4 (σ.1 13) (4 * nb) (nI j0) (nI j1) (nI j3) (nI j4))) 12 (upd (σ.1 12) 1 (nI (nb + 1)))).1 k = σ.1 k := fun k k1 k2 => by rw [up1_n k1, up1_n k2]
  generalize up1 (up1 σ 13 (row4 (σ.1 13) (4 * nb) (nI j0) (nI j1) (nI j3) (nI j4))) 12 (upd (σ.1 12) 1 (nI (nb + 1))) = τ at *
  have t0 : τ.1 83 0 = nI n := by rw [u83]; exact hv.N0
  refine ⟨nI (nb + 1), τ, up1 τ 83 (upd (row4 (σ.1 83) (81 + 4 * nb) (nI j0) (nI j1) (nI j3) (nI j4)) 2 (nI (nb + 1))), hc, ?_, ?_⟩
  · unfold row4
    rw [X12_beaten, M_isOne_b t0, cA_e, ok_if e0, M_isOne_b t0, cA_e, ok_if e1, if_neg e2, M_isSort_b, cA_e, ok_if e3, M_isYear_b, cA_e, ok_if e4, aI2, u83, hv.N2, if_neg (show ¬ nI nb = (6 : Int32) from fun e => c6 ((nI_eq (b := 6) (by omega) (by omega)).mp e)), aI2, u83, hv.N2, m4l, a81, sI_n (81 + 4 * nb) (by omega), nI_1, sI_n (81 + 4 * nb + 1) (by omega), up1_s, up1_u, nI_p2, sI_n (81 + 4 * nb + 2) (by omega), up1_s, up1_u, nI_p3, sI_n (81 + 4 * nb + 3) (by omega), up1_s, up1_u, aI2, sI2, up1_s, up1_u, aI2, up1_s, updS, updN (by omega), updN (by omega), updN (by omega), updN (by omega), u83, hv.N2, nI_1]
  · refine h.n (f1.tr (FrN.up (by unfold isN; omega))) ⟨n, yr, u, nn, nb + 1, ?_⟩
    rw [up1_s]
    refine hv.beat hn' (i1 := j0) (i2 := j1) (i3 := j3) (i4 := j4) hj0 hj1 (by omega) (by omega) ?_ ?_ ?_ ?_
    · rw [up1_n (by decide)]; exact g9
    · rw [up1_n (by decide)]; exact g10
    · intro i i1 i2 i3
      rw [up1_n (by omega)]; exact go _ (by omega) (by omega)
    · intro j
      rfl
theorem P_forget {σ : Sta} (h : Inv σ) (x1 : Int32) : Pair (X11_forget x1) (X12_forget x1) σ := by
  obtain ⟨n, yr, u, nn, nb, hv⟩ := h.1
  have b0 : (badC σ).1 83 0 = nI n := by rw [badC_83]; exact hv.N0
  have b4 : (badC σ).1 83 4 = nI yr := by rw [badC_83]; exact hv.N4
  by_cases e0 : inB x1 0 1 = true
  rotate_left
  · rw [Bool.not_eq_true] at e0; exact pair_bad (a := -2) h (by simp only [X11_forget, e0, cA_e, bi_if, within_b, C_isArt_b, C_bad, Bool.false_eq_true, ite_false, ite_true, if_true, if_false]) (by simp only [X12_forget, e0, cA_e, bi_if, M_isYear_b, M_isSort_b, in_01, in_02, in_05, in_06, in_07, in_09, in_30, in_60, in_99, in_12, M_bad, Bool.false_eq_true, ite_false, ite_true, if_true, if_false])
  obtain ⟨j0, hj0, rfl⟩ := inB_n (m := 1) (by decide) e0
  rcases (show j0 = 0 ∨ j0 = 1 by omega) with rfl | rfl
  · refine ⟨nI nn, up1 σ 10 (upd (σ.1 10) 1 0), up1 (up1 σ 10 (upd (σ.1 10) 1 0)) 83 (upd (σ.1 83) 1 0), ?_, ?_, ?_⟩
    · simp only [X11_forget, e0, cA_e, bi_if, within_b, C_isArt_b, C_bad, Bool.false_eq_true, ite_false, ite_true, if_true, if_false]
      rw [if_pos (show nI 0 = (0 : Int32) from rfl), fI_e, hv.sn, pI_e]
    · simp only [X12_forget, e0, cA_e, bi_if, M_isYear_b, M_isSort_b, in_01, in_02, in_05, in_06, in_07, in_09, in_30, in_60, in_99, in_12, M_bad, Bool.false_eq_true, ite_false, ite_true, if_true, if_false]
      rw [show (1 : Int32) + nI 0 = nI 1 from rfl, aI_n 1 (by decide), sI_n 1 (by decide), up1_n (show 83 ≠ 10 by decide), hv.N1]
    · refine h.n ((FrN.up (by unfold isN; omega)).tr (FrN.up (by unfold isN; omega))) ⟨n, yr, u, 0, nb, ?_⟩
      rw [up1_s]
      have o : ∀ j, j ≠ 1 → upd (σ.1 83) 1 0 j = σ.1 83 j := fun j hj => updN hj
      have e : ∀ k, k ≠ 10 → k ≠ 83 → (up1 (up1 σ 10 (upd (σ.1 10) 1 0)) 83 (upd (σ.1 83) 1 0)).1 k = σ.1 k := fun k k1 k2 => by rw [up1_n k2, up1_n k1]
      have e10 : (up1 (up1 σ 10 (upd (σ.1 10) 1 0)) 83 (upd (σ.1 83) 1 0)).1 10 1 = 0 := by rw [up1_n (by decide), up1_s, updS]
      generalize (up1 (up1 σ 10 (upd (σ.1 10) 1 0)) 83 (upd (σ.1 83) 1 0)).1 = S' at *
      refine VR.mk ⟨hv.n6, hv.y8, hv.uy, by omega, hv.nb6⟩ ⟨by rw [e 1 (by decide) (by decide)]; exact hv.s10, by rw [e 1 (by decide) (by decide)]; exact hv.s11, by rw [e 1 (by decide) (by decide)]; exact hv.s12, e10, by rw [e (1 + 11) (by decide) (by decide)]; exact hv.sb⟩ ⟨by rw [o 0 (by decide)]; exact hv.N0, by rw [updS]; rfl, by rw [o 2 (by decide)]; exact hv.N2, by rw [o 3 (by decide)]; exact hv.N3, by rw [o 4 (by decide)]; exact hv.N4⟩
        (hv.gpe.c hv.n6 (e _ (by decide) (by decide)) (e _ (by decide) (by decide)) (e _ (by decide) (by decide)) (e _ (by decide) (by decide)) (fun k k1 k2 => o k (by omega)))
        (hv.gye.c (e _ (by decide) (by decide)) (e _ (by decide) (by decide)) (fun k k1 k2 => o k (by omega))) (fun j hj => by omega) (hv.gbe.c hv.nb6 (Nat.le_refl _) (e _ (by decide) (by decide)) (fun k k1 k2 => o k (by omega))) ?_
      rw [e (1 + 7) (by decide) (by decide), e (1 + 8) (by decide) (by decide)]
      exact Hist_c hv.n6 u yr 4 4 hv.hi (fun k k1 k2 => o k (by omega)) (fun i hi => o _ (by omega)) (fun y hy => ⟨rfl, rfl⟩)
  · refine ⟨nI nb, up1 σ 12 (upd (σ.1 12) 1 0), up1 (up1 σ 12 (upd (σ.1 12) 1 0)) 83 (upd (σ.1 83) 2 0), ?_, ?_, ?_⟩
    · simp only [X11_forget, e0, cA_e, bi_if, within_b, C_isArt_b, C_bad, Bool.false_eq_true, ite_false, ite_true, if_true, if_false]
      rw [if_neg (show ¬ (nI 1 : Int32) = 0 by decide), fI_e, hv.sb, pI_e]
    · simp only [X12_forget, e0, cA_e, bi_if, M_isYear_b, M_isSort_b, in_01, in_02, in_05, in_06, in_07, in_09, in_30, in_60, in_99, in_12, M_bad, Bool.false_eq_true, ite_false, ite_true, if_true, if_false]
      rw [show (1 : Int32) + nI 1 = nI 2 from rfl, aI_n 2 (by decide), sI_n 2 (by decide), up1_n (show 83 ≠ 12 by decide), hv.N2]
    · refine h.n ((FrN.up (by unfold isN; omega)).tr (FrN.up (by unfold isN; omega))) ⟨n, yr, u, nn, 0, ?_⟩
      rw [up1_s]
      have o : ∀ j, j ≠ 2 → upd (σ.1 83) 2 0 j = σ.1 83 j := fun j hj => updN hj
      have e : ∀ k, k ≠ 12 → k ≠ 83 → (up1 (up1 σ 12 (upd (σ.1 12) 1 0)) 83 (upd (σ.1 83) 2 0)).1 k = σ.1 k := fun k k1 k2 => by rw [up1_n k2, up1_n k1]
      have e12 : (up1 (up1 σ 12 (upd (σ.1 12) 1 0)) 83 (upd (σ.1 83) 2 0)).1 12 1 = 0 := by rw [up1_n (by decide), up1_s, updS]
      generalize (up1 (up1 σ 12 (upd (σ.1 12) 1 0)) 83 (upd (σ.1 83) 2 0)).1 = S' at *
      refine VR.mk ⟨hv.n6, hv.y8, hv.uy, hv.nn6, by omega⟩ ⟨by rw [e 1 (by decide) (by decide)]; exact hv.s10, by rw [e 1 (by decide) (by decide)]; exact hv.s11, by rw [e 1 (by decide) (by decide)]; exact hv.s12, by rw [e (1 + 9) (by decide) (by decide)]; exact hv.sn, e12⟩ ⟨by rw [o 0 (by decide)]; exact hv.N0, by rw [o 1 (by decide)]; exact hv.N1, by rw [updS]; rfl, by rw [o 3 (by decide)]; exact hv.N3, by rw [o 4 (by decide)]; exact hv.N4⟩
        (hv.gpe.c hv.n6 (e _ (by decide) (by decide)) (e _ (by decide) (by decide)) (e _ (by decide) (by decide)) (e _ (by decide) (by decide)) (fun k k1 k2 => o k (by omega)))
        (hv.gye.c (e _ (by decide) (by decide)) (e _ (by decide) (by decide)) (fun k k1 k2 => o k (by omega))) (hv.gno.c hv.nn6 (e _ (by decide) (by decide)) (fun k k1 k2 => o k (by omega))) ⟨fun j hj => by omega, fun k hk => by omega⟩ ?_
      rw [e (1 + 7) (by decide) (by decide), e (1 + 8) (by decide) (by decide)]
      exact Hist_c hv.n6 u yr 4 4 hv.hi (fun k k1 k2 => o k (by omega)) (fun i hi => o _ (by omega)) (fun y hy => ⟨rfl, rfl⟩)
