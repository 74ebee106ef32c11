/-! PURE HALF 8: a valley of the class and one of the reference alike; the invariant -/
/-- the undoable years: entry u - 1 holds what stood before the last year -/
def Hist (N f s : Nat → Int32) (n : Nat) : Nat → Nat → Nat → Prop
  | 0, _, _ => True
  | u + 1, yr, b => ∃ y, yr = y + 1 ∧ N (105 + 13 * u) = nI y ∧ who n (f y) ∧ who n (s y) ∧ (∀ p, p < n → N (b + (1 + p)) = addW (fun p => N (105 + 13 * u + (1 + p))) (f y) y p ∧ N (b + (7 + p)) = addS (fun p => N (105 + 13 * u + (7 + p))) (s y) p ∧ ∃ w, w < 2 ^ y ∧ N (105 + 13 * u + (1 + p)) = nI w) ∧ Hist N f s n u y (105 + 13 * u)
theorem Hist_c {N N' f f' s s' : Nat → Int32} {n : Nat} (hn : n ≤ 6) : ∀ (u yr b b' : Nat), Hist N f s n u yr b → (∀ k, 105 ≤ k → k < 105 + 13 * u → N' k = N k) → (∀ i, i < 13 → N' (b' + i) = N (b + i)) → (∀ y, y < yr → f' y = f y ∧ s' y = s y) → Hist N' f' s' n u yr b'
  | 0, _, _, _, _, _, _, _ => trivial
  | u + 1, yr, b, b', h, hN, hb, hf => by
    obtain ⟨y, h1, h2, h3, h4, h5, h6⟩ := h
    have e : ∀ i, i < 13 → N' (105 + 13 * u + i) = N (105 + 13 * u + i) := fun i hi => hN _ (by omega) (by omega)
    refine ⟨y, h1, ?_, ?_, ?_, fun p hp => ?_, ?_⟩
    · rw [← h2]; exact e 0 (by decide)
    · rw [(hf y (by omega)).1]; exact h3
    · rw [(hf y (by omega)).2]; exact h4
    · obtain ⟨a1, a2, w, a3, a4⟩ := h5 p hp
      rw [(hf y (by omega)).1, (hf y (by omega)).2, hb (1 + p) (by omega), hb (7 + p) (by omega), a1, a2, e (1 + p) (by omega)]
      refine ⟨addW_ag (n := n) (fun p hp => (e (1 + p) (by omega)).symm) hn h3 hp, addS_ag (n := n) (fun p hp => (e (7 + p) (by omega)).symm) hn h4 hp, w, a3, a4⟩
    · exact Hist_c hn u y _ _ h6 (fun k k1 k2 => hN k k1 (by omega)) e (fun z hz => hf z (by omega))

def VR (S : Nat → Nat → Int32) (r : Nat) (N : Nat → Int32) (n yr u nn nb : Nat) : Prop := (n ≤ 6) ∧ (yr ≤ 8) ∧ (u ≤ yr) ∧ (nn ≤ 6) ∧ (nb ≤ 6) ∧ (S r 10 = nI n) ∧ (S r 11 = nI yr) ∧ (S r 12 = nI u) ∧ (S (r + 9) 1 = nI nn) ∧ (S (r + 11) 1 = nI nb) ∧ (N 0 = nI n) ∧ (N 1 = nI nn) ∧ (N 2 = nI nb) ∧ (N 3 = nI u) ∧ (N 4 = nI yr) ∧ (∀ p, p < n → S (r + 3) p = N (17 + p) ∧ S (r + 5) p = N (5 + p) ∧ S (r + 6) p = N (11 + p) ∧ ∀ t, t < 3 → S (r + 4) (3 * p + t) = N (23 + (3 * p + t))) ∧ (∀ y, y < 8 → S (r + 1) y = N (41 + y) ∧ S (r + 2) y = N (49 + y)) ∧ (∀ j, j < 4 * nn → S (r + 10) j = N (57 + j)) ∧ (∀ j, j < 4 * nb → S (r + 12) j = N (81 + j)) ∧ (∀ p, p < n → ∃ k, k < 6 ∧ N (17 + p) = nI k) ∧ (∀ p, p < n → ∀ t, t < 3 → ∃ a, a < 10 ∧ N (23 + (3 * p + t)) = nI a) ∧ (∀ p, p < n → ∃ w, w < 2 ^ yr ∧ N (5 + p) = nI w) ∧ (∀ y, y < 8 → N (41 + y) = -1 ∨ ∃ t, t < 3 ∧ N (41 + y) = nI t) ∧ (∀ y, y < 8 → ∃ w, w ≤ 30 ∧ N (49 + y) = nI w) ∧ (∀ k, k < nb → ∃ i j t y, i < n ∧ j < n ∧ t < 3 ∧ y < 8 ∧ N (81 + 4 * k) = nI i ∧ N (81 + (4 * k + 1)) = nI j ∧ N (81 + (4 * k + 2)) = nI t ∧ N (81 + (4 * k + 3)) = nI y) ∧ (Hist N (S (r + 7)) (S (r + 8)) n u yr 4)
theorem VR.n6 {S : Nat → Nat → Int32} {r : Nat} {N : Nat → Int32} {n yr u nn nb : Nat} (h : VR S r N n yr u nn nb) : n ≤ 6 := h.1
theorem VR.y8 {S : Nat → Nat → Int32} {r : Nat} {N : Nat → Int32} {n yr u nn nb : Nat} (h : VR S r N n yr u nn nb) : yr ≤ 8 := h.2.1
theorem VR.uy {S : Nat → Nat → Int32} {r : Nat} {N : Nat → Int32} {n yr u nn nb : Nat} (h : VR S r N n yr u nn nb) : u ≤ yr := h.2.2.1
theorem VR.nn6 {S : Nat → Nat → Int32} {r : Nat} {N : Nat → Int32} {n yr u nn nb : Nat} (h : VR S r N n yr u nn nb) : nn ≤ 6 := h.2.2.2.1
theorem VR.nb6 {S : Nat → Nat → Int32} {r : Nat} {N : Nat → Int32} {n yr u nn nb : Nat} (h : VR S r N n yr u nn nb) : nb ≤ 6 := h.2.2.2.2.1
theorem VR.s10 {S : Nat → Nat → Int32} {r : Nat} {N : Nat → Int32} {n yr u nn nb : Nat} (h : VR S r N n yr u nn nb) : S r 10 = nI n := h.2.2.2.2.2.1
theorem VR.s11 {S : Nat → Nat → Int32} {r : Nat} {N : Nat → Int32} {n yr u nn nb : Nat} (h : VR S r N n yr u nn nb) : S r 11 = nI yr := h.2.2.2.2.2.2.1
theorem VR.s12 {S : Nat → Nat → Int32} {r : Nat} {N : Nat → Int32} {n yr u nn nb : Nat} (h : VR S r N n yr u nn nb) : S r 12 = nI u := h.2.2.2.2.2.2.2.1
theorem VR.sn {S : Nat → Nat → Int32} {r : Nat} {N : Nat → Int32} {n yr u nn nb : Nat} (h : VR S r N n yr u nn nb) : S (r + 9) 1 = nI nn := h.2.2.2.2.2.2.2.2.1
theorem VR.sb {S : Nat → Nat → Int32} {r : Nat} {N : Nat → Int32} {n yr u nn nb : Nat} (h : VR S r N n yr u nn nb) : S (r + 11) 1 = nI nb := h.2.2.2.2.2.2.2.2.2.1
theorem VR.N0 {S : Nat → Nat → Int32} {r : Nat} {N : Nat → Int32} {n yr u nn nb : Nat} (h : VR S r N n yr u nn nb) : N 0 = nI n := h.2.2.2.2.2.2.2.2.2.2.1
theorem VR.N1 {S : Nat → Nat → Int32} {r : Nat} {N : Nat → Int32} {n yr u nn nb : Nat} (h : VR S r N n yr u nn nb) : N 1 = nI nn := h.2.2.2.2.2.2.2.2.2.2.2.1
theorem VR.N2 {S : Nat → Nat → Int32} {r : Nat} {N : Nat → Int32} {n yr u nn nb : Nat} (h : VR S r N n yr u nn nb) : N 2 = nI nb := h.2.2.2.2.2.2.2.2.2.2.2.2.1
theorem VR.N3 {S : Nat → Nat → Int32} {r : Nat} {N : Nat → Int32} {n yr u nn nb : Nat} (h : VR S r N n yr u nn nb) : N 3 = nI u := h.2.2.2.2.2.2.2.2.2.2.2.2.2.1
theorem VR.N4 {S : Nat → Nat → Int32} {r : Nat} {N : Nat → Int32} {n yr u nn nb : Nat} (h : VR S r N n yr u nn nb) : N 4 = nI yr := h.2.2.2.2.2.2.2.2.2.2.2.2.2.2.1
theorem VR.pe {S : Nat → Nat → Int32} {r : Nat} {N : Nat → Int32} {n yr u nn nb : Nat} (h : VR S r N n yr u nn nb) : ∀ p, p < n → S (r + 3) p = N (17 + p) ∧ S (r + 5) p = N (5 + p) ∧ S (r + 6) p = N (11 + p) ∧ ∀ t, t < 3 → S (r + 4) (3 * p + t) = N (23 + (3 * p + t)) := h.2.2.2.2.2.2.2.2.2.2.2.2.2.2.2.1
theorem VR.ye {S : Nat → Nat → Int32} {r : Nat} {N : Nat → Int32} {n yr u nn nb : Nat} (h : VR S r N n yr u nn nb) : ∀ y, y < 8 → S (r + 1) y = N (41 + y) ∧ S (r + 2) y = N (49 + y) := h.2.2.2.2.2.2.2.2.2.2.2.2.2.2.2.2.1
theorem VR.no {S : Nat → Nat → Int32} {r : Nat} {N : Nat → Int32} {n yr u nn nb : Nat} (h : VR S r N n yr u nn nb) : ∀ j, j < 4 * nn → S (r + 10) j = N (57 + j) := h.2.2.2.2.2.2.2.2.2.2.2.2.2.2.2.2.2.1
theorem VR.be {S : Nat → Nat → Int32} {r : Nat} {N : Nat → Int32} {n yr u nn nb : Nat} (h : VR S r N n yr u nn nb) : ∀ j, j < 4 * nb → S (r + 12) j = N (81 + j) := h.2.2.2.2.2.2.2.2.2.2.2.2.2.2.2.2.2.2.1
theorem VR.kd {S : Nat → Nat → Int32} {r : Nat} {N : Nat → Int32} {n yr u nn nb : Nat} (h : VR S r N n yr u nn nb) : ∀ p, p < n → ∃ k, k < 6 ∧ N (17 + p) = nI k := h.2.2.2.2.2.2.2.2.2.2.2.2.2.2.2.2.2.2.2.1
theorem VR.ar {S : Nat → Nat → Int32} {r : Nat} {N : Nat → Int32} {n yr u nn nb : Nat} (h : VR S r N n yr u nn nb) : ∀ p, p < n → ∀ t, t < 3 → ∃ a, a < 10 ∧ N (23 + (3 * p + t)) = nI a := h.2.2.2.2.2.2.2.2.2.2.2.2.2.2.2.2.2.2.2.2.1
theorem VR.wi {S : Nat → Nat → Int32} {r : Nat} {N : Nat → Int32} {n yr u nn nb : Nat} (h : VR S r N n yr u nn nb) : ∀ p, p < n → ∃ w, w < 2 ^ yr ∧ N (5 + p) = nI w := h.2.2.2.2.2.2.2.2.2.2.2.2.2.2.2.2.2.2.2.2.2.1
theorem VR.so {S : Nat → Nat → Int32} {r : Nat} {N : Nat → Int32} {n yr u nn nb : Nat} (h : VR S r N n yr u nn nb) : ∀ y, y < 8 → N (41 + y) = -1 ∨ ∃ t, t < 3 ∧ N (41 + y) = nI t := h.2.2.2.2.2.2.2.2.2.2.2.2.2.2.2.2.2.2.2.2.2.2.1
theorem VR.wo {S : Nat → Nat → Int32} {r : Nat} {N : Nat → Int32} {n yr u nn nb : Nat} (h : VR S r N n yr u nn nb) : ∀ y, y < 8 → ∃ w, w ≤ 30 ∧ N (49 + y) = nI w := h.2.2.2.2.2.2.2.2.2.2.2.2.2.2.2.2.2.2.2.2.2.2.2.1
theorem VR.bb {S : Nat → Nat → Int32} {r : Nat} {N : Nat → Int32} {n yr u nn nb : Nat} (h : VR S r N n yr u nn nb) : ∀ k, k < nb → ∃ i j t y, i < n ∧ j < n ∧ t < 3 ∧ y < 8 ∧ N (81 + 4 * k) = nI i ∧ N (81 + (4 * k + 1)) = nI j ∧ N (81 + (4 * k + 2)) = nI t ∧ N (81 + (4 * k + 3)) = nI y := h.2.2.2.2.2.2.2.2.2.2.2.2.2.2.2.2.2.2.2.2.2.2.2.2.1
theorem VR.hi {S : Nat → Nat → Int32} {r : Nat} {N : Nat → Int32} {n yr u nn nb : Nat} (h : VR S r N n yr u nn nb) : Hist N (S (r + 7)) (S (r + 8)) n u yr 4 := h.2.2.2.2.2.2.2.2.2.2.2.2.2.2.2.2.2.2.2.2.2.2.2.2.2
theorem VR.to {S S' : Nat → Nat → Int32} {r r' : Nat} {N N' : Nat → Int32} {n yr u nn nb : Nat} (h : VR S r N n yr u nn nb) (c : S' r' 10 = S r 10 ∧ S' r' 11 = S r 11 ∧ S' r' 12 = S r 12 ∧ S' (r' + 9) 1 = S (r + 9) 1 ∧ S' (r' + 11) 1 = S (r + 11) 1)
    (a1 : ∀ j, j < 8 → S' (r' + 1) j = S (r + 1) j) (a2 : ∀ j, j < 8 → S' (r' + 2) j = S (r + 2) j) (a3 : ∀ j, j < 6 → S' (r' + 3) j = S (r + 3) j) (a4 : ∀ j, j < 18 → S' (r' + 4) j = S (r + 4) j) (a5 : ∀ j, j < 6 → S' (r' + 5) j = S (r + 5) j) (a6 : ∀ j, j < 6 → S' (r' + 6) j = S (r + 6) j) (a7 : ∀ j, j < yr → S' (r' + 7) j = S (r + 7) j) (a8 : ∀ j, j < yr → S' (r' + 8) j = S (r + 8) j) (a10 : ∀ j, j < 24 → S' (r' + 10) j = S (r + 10) j) (a12 : ∀ j, j < 24 → S' (r' + 12) j = S (r + 12) j)
    (hN : ∀ k, k < 105 + 13 * u → N' k = N k) : VR S' r' N' n yr u nn nb := by
  have hn := h.n6
  have h1 := h.nn6
  have h2 := h.nb6
  obtain ⟨c1, c2, c3, c4, c5⟩ := c
  refine ⟨h.n6, h.y8, h.uy, h.nn6, h.nb6, c1.trans h.s10, c2.trans h.s11, c3.trans h.s12, c4.trans h.sn, c5.trans h.sb, ?_, ?_, ?_, ?_, ?_, ?_, ?_, ?_, ?_, ?_, ?_, ?_, ?_, ?_, ?_, ?_⟩
  · rw [hN _ (by omega)]; exact h.N0
  · rw [hN _ (by omega)]; exact h.N1
  · rw [hN _ (by omega)]; exact h.N2
  · rw [hN _ (by omega)]; exact h.N3
  · rw [hN _ (by omega)]; exact h.N4
  · intro p hp
    obtain ⟨b1, b2, b3, b4⟩ := h.pe p hp
    rw [a3 p (by omega), a5 p (by omega), a6 p (by omega), hN _ (by omega), hN _ (by omega), hN _ (by omega)]
    exact ⟨b1, b2, b3, fun t ht => by rw [a4 _ (by omega), hN _ (by omega)]; exact b4 t ht⟩
  · intro y hy
    rw [a1 y hy, a2 y hy, hN _ (by omega), hN _ (by omega)]
    exact h.ye y hy
  · intro j hj
    rw [a10 j (by omega), hN _ (by omega)]
    exact h.no j hj
  · intro j hj
    rw [a12 j (by omega), hN _ (by omega)]
    exact h.be j hj
  · intro p hp
    rw [hN _ (by omega)]
    exact h.kd p hp
  · intro p hp t ht
    rw [hN _ (by omega)]
    exact h.ar p hp t ht
  · intro p hp
    rw [hN _ (by omega)]
    exact h.wi p hp
  · intro y hy
    rw [hN _ (by omega)]
    exact h.so y hy
  · intro y hy
    rw [hN _ (by omega)]
    exact h.wo y hy
  · intro k hk
    rw [hN _ (by omega), hN _ (by omega), hN _ (by omega), hN _ (by omega)]
    exact h.bb k hk
  · exact Hist_c hn u yr 4 4 h.hi (fun k _ k2 => hN k k2) (fun i hi => hN _ (by omega)) (fun y hy => ⟨a7 y hy, a8 y hy⟩)
theorem VR.cell {S S' : Nat → Nat → Int32} {r : Nat} {N : Nat → Int32} {n yr u nn nb : Nat} (h : VR S r N n yr u nn nb) (e : ∀ i, i < 13 → S' (r + i) = S (r + i)) : VR S' r N n yr u nn nb := by
  have e0 := e 0 (by decide)
  rw [Nat.add_zero] at e0
  exact h.to ⟨by rw [e0], by rw [e0], by rw [e0], by rw [e 9 (by decide)], by rw [e 11 (by decide)]⟩ (fun j _ => by rw [e 1 (by decide)]) (fun j _ => by rw [e 2 (by decide)]) (fun j _ => by rw [e 3 (by decide)]) (fun j _ => by rw [e 4 (by decide)]) (fun j _ => by rw [e 5 (by decide)]) (fun j _ => by rw [e 6 (by decide)]) (fun j _ => by rw [e 7 (by decide)]) (fun j _ => by rw [e 8 (by decide)]) (fun j _ => by rw [e 10 (by decide)]) (fun j _ => by rw [e 12 (by decide)]) (fun k _ => rfl)
theorem VR.wf {S : Nat → Nat → Int32} {r : Nat} {N : Nat → Int32} {n yr u nn nb : Nat} (h : VR S r N n yr u nn nb) : Wf N n (soN N) (woN N) (qN N) :=
  ⟨h.n6, h.kd, h.ar, fun p hp => by
    obtain ⟨w, h1, h2⟩ := h.wi p hp
    exact ⟨w, Nat.lt_of_lt_of_le h1 (Nat.pow_le_pow_right (by decide) h.y8), h2⟩, h.so, h.wo⟩
def Txt (S : Nat → Nat → Int32) : Prop := ∃ L, L ≤ 150 ∧ S 80 1 = nI L ∧ S 82 14 = nI L ∧ ∀ j, j < L → S 81 j = S 94 j
def Img (S : Nat → Nat → Int32) (i : Nat) : Prop := (S 28 i = 0 ∧ S 85 i = 0) ∨ (S 28 i = 1 ∧ S 85 i = 1 ∧ ∃ n yr u nn nb, VR S (29 + 13 * i) (fun k => S 84 (209 * i + k)) n yr u nn nb)
def Vnow (S : Nat → Nat → Int32) : Prop := ∃ n yr u nn nb, VR S 1 (S 83) n yr u nn nb
def Inv (σ : Sta) : Prop := Vnow σ.1 ∧ (∀ i, i < 2 → Img σ.1 i) ∧ (∀ i, i < 3 → σ.1 0 (9 + i) = σ.1 86 i) ∧ (σ.2 0 7 = σ.2 82 4 ∧ σ.2 0 8 = σ.2 82 5) ∧ Txt σ.1
theorem Vnow.c {S S' : Nat → Nat → Int32} (h : Vnow S) (e : ∀ k, 1 ≤ k → k ≤ 13 → S' k = S k) (e2 : S' 83 = S 83) : Vnow S' := by
  obtain ⟨n, yr, u, nn, nb, h⟩ := h
  refine ⟨n, yr, u, nn, nb, ?_⟩
  rw [e2]
  exact h.cell (fun i hi => e _ (by omega) (by omega))
theorem Img.c {S S' : Nat → Nat → Int32} {i : Nat} (h : Img S i) (hi : i < 2) (e : ∀ k, 28 ≤ k → k ≤ 54 → S' k = S k) (e2 : S' 84 = S 84) (e3 : S' 85 = S 85) : Img S' i := by
  unfold Img
  rw [e 28 (by decide) (by decide), e2, e3]
  refine h.imp id (fun ⟨h1, h2, n, yr, u, nn, nb, h3⟩ => ⟨h1, h2, n, yr, u, nn, nb, h3.cell (fun j hj => e _ (by omega) (by omega))⟩)
theorem Txt.c {S S' : Nat → Nat → Int32} (h : Txt S) (e1 : S' 80 1 = S 80 1) (e2 : S' 81 = S 81) (e3 : S' 82 14 = S 82 14) (e4 : S' 94 = S 94) : Txt S' := by
  obtain ⟨L, h1, h2, h3, h4⟩ := h
  refine ⟨L, h1, e1.trans h2, e3.trans h3, ?_⟩
  rw [e2, e4]
  exact h4
theorem Inv.q {σ τ : Sta} (h : Inv σ) (e : FrQ σ τ) : Inv τ := by
  obtain ⟨h1, h2, h3, h4, h5⟩ := h
  have q : ∀ k, k ≤ 54 ∨ (80 ≤ k ∧ k ≤ 86) ∨ k = 94 → τ.1 k = σ.1 k := fun k hk => e.1 k (by unfold isQ; omega)
  refine ⟨h1.c (fun k a b => q k (by omega)) (q 83 (by omega)), fun i hi => (h2 i hi).c hi (fun k a b => q k (by omega)) (q 84 (by omega)) (q 85 (by omega)), ?_, ?_, h5.c (by rw [q 80 (by omega)]) (q 81 (by omega)) (by rw [q 82 (by omega)]) (q 94 (by omega))⟩
  · intro i hi
    rw [q 0 (by omega), q 86 (by omega)]
    exact h3 i hi
  · rw [e.2]
    exact h4
theorem VR.begin {σ : Sta} {N : Nat → Int32} {n yr u nn nb : Nat} (h : VR σ.1 1 N n yr u nn nb) : ∃ τ, X2_begin 1 σ = some ((), τ) ∧ TC N n yr ch0 (soN N) (woN N) (qN N) τ ∧ FrB σ τ := by
  obtain ⟨τ, e1, e2, e3⟩ := C_begin h.s10 h.s11
  have hn := h.n6
  refine ⟨τ, e1, ⟨_, _, _, _, _, _, e2, ⟨fun p hp => ⟨?_, ?_, fun t ht => ?_⟩, fun y hy => ⟨?_, ?_⟩⟩, fun p hp => ⟨?_, ?_⟩⟩, e3⟩
  · show (-1 : Int32) = if p < 6 then -1 else _
    rw [if_pos (by omega)]
  · rw [cpf_in (by omega)]; exact ((h.pe p hp).1).symm
  · rw [cpf_in (by omega)]; exact ((h.pe p hp).2.2.2 t ht).symm
  · rw [cpf_in hy]; exact ((h.ye y hy).1).symm
  · rw [cpf_in hy]; exact ((h.ye y hy).2).symm
  · show _ = cpf 6 _ _ p
    rw [cpf_in (by omega)]; exact ((h.pe p hp).2.1).symm
  · show _ = cpf 6 _ _ p
    rw [cpf_in (by omega)]; exact ((h.pe p hp).2.2.1).symm
theorem lay2 {N : Nat → Int32} : ∀ (d y fu : Nat) (σ : Sta), y + d = 8 → d < fu → σ.1 83 = N → (∀ z, z < y → soN N z = σ.1 89 z ∧ woN N z = σ.1 90 z) → ∃ τ, X12_layHand_L55 fu (nI y) σ = some ((), τ) ∧ (∀ z, z < 8 → soN N z = τ.1 89 z ∧ woN N z = τ.1 90 z) ∧ (∀ k, k ≠ 89 → k ≠ 90 → τ.1 k = σ.1 k) ∧ τ.2 = σ.2
  | d, y, 0, σ, _, h, _, _ => by omega
  | 0, y, fu + 1, σ, hy, _, h83, hz => by
    have e : y = 8 := by omega
    subst e
    refine ⟨σ, ?_, hz, fun _ _ _ => rfl, rfl⟩
    rw [X12_layHand_L55, if_neg nlt8]
  | d + 1, y, fu + 1, σ, hy, hf, h83, hz => by
    rw [X12_layHand_L55, if_pos (lt8 (by omega)), a41, aI_n (41 + y) (by omega), sI_n y (by omega), a49, aI_n (49 + y) (by omega), sI_n y (by omega), nI_1]
    obtain ⟨τ, e1, e2, e3, e4⟩ := lay2 (N := N) d (y + 1) fu (up1 (up1 σ 89 (upd (σ.1 89) y (σ.1 83 (41 + y)))) 90 (upd ((up1 σ 89 (upd (σ.1 89) y (σ.1 83 (41 + y)))).1 90) y ((up1 σ 89 (upd (σ.1 89) y (σ.1 83 (41 + y)))).1 83 (49 + y)))) (by omega) (by omega) (by rw [up1_n (by decide), up1_n (by decide)]; exact h83) (fun z hz2 => by
      rw [up1_n (show 89 ≠ 90 by decide), up1_s, up1_s, up1_n (show 90 ≠ 89 by decide), up1_n (show 83 ≠ 89 by decide), h83]
      by_cases e : z = y
      · subst e; rw [updS, updS]; exact ⟨rfl, rfl⟩
      · rw [updN e, updN e]; exact hz z (by omega))
    exact ⟨τ, e1, e2, fun k k1 k2 => by rw [e3 k k1 k2, up1_n k2, up1_n k1], e4⟩
theorem lay1 {N : Nat → Int32} {n : Nat} (hn : n ≤ 6) (h0 : N 0 = nI n) : ∀ (d p fu : Nat) (σ : Sta), p + d = n → d < fu → σ.1 83 = N → (∀ i, i < p → σ.1 91 i = -2 ∧ N (5 + i) = σ.1 87 i ∧ N (11 + i) = σ.1 88 i) → ∃ τ, X12_layHand_L2 fu (nI p) σ = some ((), τ) ∧ HM N n ch0 (soN N) (woN N) (qN N) τ ∧ FrL σ τ
  | d, p, 0, σ, _, h, _, _ => by omega
  | 0, p, fu + 1, σ, hp, _, h83, hz => by
    have e : p = n := by omega
    subst e
    obtain ⟨τ, e1, e2, e3, e4⟩ := lay2 (N := N) 8 0 FU σ rfl (by decide) h83 (fun z h => by omega)
    refine ⟨τ, ?_, ⟨by rw [e3 83 (by decide) (by decide)]; exact h83, h0, fun i hi => ?_, e2⟩, ⟨fun k hk => e3 k (fun e => hk (by unfold isL; omega)) (fun e => hk (by unfold isL; omega)), e4⟩⟩
    · rw [X12_layHand_L2, cA_of (M_many σ), h83, h0, if_neg (nI_nlt (Nat.le_refl _) (by omega))]
      exact e1
    · rw [e3 91 (by decide) (by decide), e3 87 (by decide) (by decide), e3 88 (by decide) (by decide)]
      obtain ⟨b1, b2, b3⟩ := hz i hi
      refine ⟨by rw [b1]; decide, ?_, b2, b3⟩
      show (-1 : Int32) = if σ.1 91 i = -2 then -1 else _
      rw [if_pos b1]
  | d + 1, p, fu + 1, σ, hp, hf, h83, hz => by
    rw [X12_layHand_L2, cA_of (M_many σ), h83, h0, if_pos (nI_lt (by omega) (by omega)), a5, aI_n (5 + p) (by omega), sI_n p (by omega), a11, aI_n (11 + p) (by omega), sI_n p (by omega), sI_n p (by omega), nI_1, h83]
    generalize hτ : up1 σ 87 (upd (σ.1 87) p (N (5 + p))) = s1
    have q1 : s1.1 83 = N := by rw [← hτ, up1_n (by decide)]; exact h83
    rw [q1]
    obtain ⟨τ, e1, e2, e3⟩ := lay1 hn h0 d (p + 1) fu (up1 (up1 s1 88 (upd (s1.1 88) p (N (11 + p)))) 91 (upd ((up1 s1 88 (upd (s1.1 88) p (N (11 + p)))).1 91) p (-2))) (by omega) (by omega) (by rw [up1_n (by decide), up1_n (by decide)]; exact q1) (fun i hi => by
      rw [up1_s, up1_n (show 87 ≠ 91 by decide), up1_n (show 87 ≠ 88 by decide), up1_n (show 88 ≠ 91 by decide), up1_s, up1_n (show 91 ≠ 88 by decide), ← hτ, up1_s, up1_n (show 91 ≠ 87 by decide), up1_n (show 88 ≠ 87 by decide)]
      by_cases e : i = p
      · subst e; rw [updS, updS, updS]; exact ⟨rfl, rfl, rfl⟩
      · rw [updN e, updN e, updN e]; exact hz i (by omega))
    refine ⟨τ, e1, e2, FrL.tr ?_ e3⟩
    rw [← hτ]
    exact ((FrL.up (by unfold isL; omega)).tr (FrL.up (by unfold isL; omega))).tr (FrL.up (by unfold isL; omega))
theorem VR.lay {σ : Sta} {S : Nat → Nat → Int32} {r n yr u nn nb : Nat} (h : VR S r (σ.1 83) n yr u nn nb) : ∃ τ, X12_layHand σ = some ((), τ) ∧ HM (σ.1 83) n ch0 (soN (σ.1 83)) (woN (σ.1 83)) (qN (σ.1 83)) τ ∧ FrL σ τ :=
  lay1 h.n6 h.N0 n 0 FU σ (by omega) (by have := h.n6; show n < 300; omega) rfl (fun i hi => by omega)
