/-! the reference's parser: a structure -/
/-- what the reference's tables hold of structure st -/
def rH (t : Int) (Y : Int → Int) (n st : Int) (T : yT) (s : zS) : Prop := rT t st T s ∧ rR t st (T 453 st) T s ∧ s.1 584 0 (6 * t + st) = T 452 st ∧ (0 ≤ T 452 st ∧ T 452 st ≤ 25) ∧ ∀ j, 0 ≤ j → j < T 453 st → rQ t Y n st j T s ∧ pRR st T j
/-- .. of a template so far -/
def rG (t : Int) (Y : Int → Int) (n : Int) (T : yT) (p : Int) (s : zS) : Prop := (s.1 582 0 t = T 449 0 ∧ 0 ≤ T 449 0 ∧ T 449 0 ≤ 6) ∧ (∀ c, 0 ≤ c → c ≤ 25 → s.1 583 0 (26 * t + c) = pa_sn T c) ∧ (∀ i, -48 ≤ s.1 589 0 i ∧ s.1 589 0 i ≤ 207) ∧ (∀ st, 0 ≤ st → st < T 449 0 → rH t Y n st T s) ∧ (∀ i, 0 ≤ i → i < T 451 0 → ∃ st j, (0 ≤ st ∧ st < T 449 0) ∧ (0 ≤ j ∧ j < T 453 st) ∧ pO st j i T) ∧ (0 ≤ T 450 0 ∧ 2 * T 450 0 ≤ p) ∧ 0 ≤ T 451 0 ∧ 2 * T 451 0 ≤ p
/-- what the parser of template t may change -/
def rkt (t : Int) (s u : zS) : Prop := (∀ (f n : Nat) (i : Int), ¬ (n = 0 ∧ (f = 605 ∨ f = 606 ∨ 586 ≤ f ∧ f ≤ 593 ∧ 48 * t ≤ i ∧ i < 48 * t + 48 ∨ (f = 584 ∨ f = 585) ∧ 6 * t ≤ i ∧ i < 6 * t + 6 ∨ f = 583 ∧ 26 * t ≤ i ∧ i < 26 * t + 26 ∨ f = 582 ∧ i = t)) → u.1 f n i = s.1 f n i) ∧ u.2 = s.2 ∧ ((∀ i, -48 ≤ s.1 589 0 i ∧ s.1 589 0 i ≤ 207) → ∀ i, -48 ≤ u.1 589 0 i ∧ u.1 589 0 i ≤ 207)
/-- U goes on from T with structure st -/
def pZ (st : Int) (T U : yT) : Prop := (∀ (g : Nat) (i : Int), ¬ (g = 449 ∨ g = 450 ∨ g = 451 ∨ g = 454 ∨ g = 455 ∨ g = 456 ∨ ((g = 452 ∨ g = 453) ∧ i = st) ∨ (457 ≤ g ∧ g ≤ 468 ∧ 8 * st ≤ i ∧ i < 8 * st + 8)) → U g i = T g i) ∧ (T 450 0 ≤ U 450 0 ∧ ∀ i, i < T 450 0 → U 454 i = T 454 i ∧ U 455 i = T 455 i) ∧ (T 451 0 ≤ U 451 0 ∧ ∀ i, i < T 451 0 → U 456 i = T 456 i)
section
variable {t st n N p b : Int} {X Y G : Int → Int} {T U : yT} {s u v : zS}
theorem pa_new_X {c : Int} : (∀ (g : Nat) (i : Int), g ≠ 449 → ¬ (g = 453 ∧ i = st) → ¬ (g = 452 ∧ i = st) → pa_new st c T g i = T g i) ∧ pa_new st c T 449 0 = T 449 0 + 1 ∧ pa_new st c T 453 st = 0 ∧ pa_new st c T 452 st = c := by
  refine ⟨fun g i h1 h2 h3 => ?_, pa_w_eq, (pa_w_nk (by decide)).trans pa_w_eq, (pa_w_nk (by decide)).trans ((pa_w_nk (by decide)).trans pa_w_eq)⟩
  exact (pa_w_nk h1).trans ((if_neg h2).trans (if_neg h3))
theorem pX.Z {c : Int} (a : pX st (pa_new st c T) U) : pZ st T U := by
  obtain ⟨n1, n2, n3, n4⟩ := pa_new_X (T := T) (st := st) (c := c)
  obtain ⟨a1, ⟨a2, a3⟩, a4, a5⟩ := a
  rw [n1 450 0 (by decide) (by omega) (by omega)] at a2 a3
  rw [n1 451 0 (by decide) (by omega) (by omega)] at a4 a5
  refine ⟨fun g i hn => ?_, ⟨a2, fun i h => ?_⟩, a4, fun i h => ?_⟩
  · rw [a1 g i (by omega), n1 g i (by omega) (by omega) (by omega)]
  · rw [(a3 i h).1, (a3 i h).2, n1 454 i (by decide) (by omega) (by omega), n1 455 i (by decide) (by omega) (by omega)]
    exact ⟨rfl, rfl⟩
  · rw [a5 i h, n1 456 i (by decide) (by omega) (by omega)]
theorem pZ.E {z K : Int} (h : pZ st T U) (c : z ≠ st) (hK : K ≤ 8) : pE z K T U := ⟨fun g i g1 g2 i1 i2 => h.1 g _ (by omega), h.2.1, h.2.2⟩
theorem rkt.rf : rkt t s s := ⟨fun _ _ _ _ => rfl, rfl, fun h => h⟩
theorem rkt.tr (a : rkt t s u) (c : rkt t u v) : rkt t s v := ⟨fun f n i h => (c.1 f n i h).trans (a.1 f n i h), c.2.1.trans a.2.1, fun h => c.2.2 (a.2.2 h)⟩
theorem rk.kt (a : rk s u) : rkt t s u := ⟨fun f n i h => a.1 f n i (by omega), a.2, fun h i => by
  rw [a.1 589 0 i (by omega)]
  exact h i⟩
theorem rkl.kt (a : rkl t st s u) (h : 0 ≤ st ∧ st ≤ 5) : rkt t s u := ⟨fun f n i hn => a.1 f n i (by omega), a.2.1, a.2.2⟩
theorem rH.go {z : Int} (h : rH t Y n z T s) (hz : z ≠ st) (a : pZ st T U) (c : ∀ (f : Nat) (i : Int), 586 ≤ f → f ≤ 593 → 48 * t + 8 * z ≤ i → i < 48 * t + 8 * z + 8 → u.1 f 0 i = s.1 f 0 i) (d : ∀ f : Nat, f = 584 ∨ f = 585 → u.1 f 0 (6 * t + z) = s.1 f 0 (6 * t + z)) : rH t Y n z U u := by
  obtain ⟨⟨h1, h2, h3, h4, h5⟩, hR, h6, h7, h8⟩ := h
  have e3 : U 453 z = T 453 z := a.1 453 z (by omega)
  have e2 : U 452 z = T 452 z := a.1 452 z (by omega)
  have e : ∀ (g : Nat) (j : Int), 457 ≤ g → g ≤ 468 → 0 ≤ j → j < T 453 z → U g (8 * z + j) = T g (8 * z + j) := fun g j g1 g2 j1 j2 => a.1 g _ (by omega)
  refine ⟨⟨h1, by rw [d 585 (Or.inr rfl), e3, h2], by rw [e3]; exact h3, fun k k1 k2 => ?_, fun i j i1 i2 j1 j2 q => ?_⟩, fun j j1 j2 => ?_, by rw [d 584 (Or.inl rfl), e2, h6], by rw [e2]; exact h7, fun j j1 j2 => ?_⟩
  · rw [e3] at k2
    rw [c 586 _ (by decide) (by decide) (by omega) (by omega), c 587 _ (by decide) (by decide) (by omega) (by omega), e 457 k (by decide) (by decide) k1 k2, e 458 k (by decide) (by decide) k1 k2]
    exact h4 k k1 k2
  · rw [e3] at i2 j2
    rw [e 457 i (by decide) (by decide) i1 i2, e 457 j (by decide) (by decide) j1 j2] at q
    exact h5 i j i1 i2 j1 j2 q
  · rw [e3] at j2
    rw [e3, c 592 _ (by decide) (by decide) (by omega) (by omega), c 593 _ (by decide) (by decide) (by omega) (by omega), c 590 _ (by decide) (by decide) (by omega) (by omega), e 467 j (by decide) (by decide) j1 j2, e 468 j (by decide) (by decide) j1 j2, e 458 j (by decide) (by decide) j1 j2]
    exact hR j j1 j2
  · rw [e3] at j2
    obtain ⟨q1, q2⟩ := h8 j j1 j2
    refine ⟨q1.E (a.E (K := T 453 z) hz h3.2) ⟨j1, j2⟩ fun i i1 i2 => c i _ (by omega) (by omega) (by omega) (by omega), ?_⟩
    unfold pRR at q2 ⊢
    rw [e 467 j (by decide) (by decide) j1 j2, e 468 j (by decide) (by decide) j1 j2, e3]
    rcases q2 with q2 | q2 | ⟨q2, q3, q4⟩
    · exact Or.inl q2
    · exact Or.inr (Or.inl q2)
    · right
      right
      refine ⟨q2, q3, fun z2 => ?_⟩
      rw [show T 468 (8 * z + j) = 8 * z + (T 468 (8 * z + j) - 8 * z) by omega, e 458 _ (by decide) (by decide) (by omega) (by omega), ← q4 z2]
      congr 1
      omega
theorem pO.go {z j i : Int} (h : pO z j i T) (hz : z ≠ st) (a : pZ st T U) (hj : 0 ≤ j ∧ j < 8) : pO z j i U := by
  unfold pO at h ⊢
  rw [a.1 458 _ (by omega), a.1 463 _ (by omega), a.1 464 _ (by omega)]
  exact h
end
