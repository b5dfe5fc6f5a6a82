/-! what the reference's tables hold of a field that was taken -/
def rQ (t : Int) (Y : Int → Int) (n st j : Int) (T : yT) (u : zS) : Prop := ∃ p, 0 ≤ p ∧ pP Y n st j (8 * st + j) T p (yBit T st j.toNat) ∧ pR (8 * st + j) T
  ∧ u.1 588 0 (48 * t + (8 * st + j)) = (if T 458 (8 * st + j) = 65 ∨ T 458 (8 * st + j) = 91 then p else if T 458 (8 * st + j) = 115 then p + 1 + 1 else p + 1)
  ∧ u.1 590 0 (48 * t + (8 * st + j)) = (if T 458 (8 * st + j) = 91 then (if T 465 (8 * st + j) = 43 then 115 else T 465 (8 * st + j)) else 0)
  ∧ (T 458 (8 * st + j) = 110 → u.1 589 0 (48 * t + (8 * st + j)) = T 459 (8 * st + j))
  ∧ (T 458 (8 * st + j) = 91 → T 465 (8 * st + j) ≠ 42 → u.1 591 0 (48 * t + (8 * st + j)) = p + 2 * (T 464 (8 * st + j) - T 463 (8 * st + j)) + (if T 465 (8 * st + j) = 43 then 0 else 1))
/-- U goes on from T: the fields below K of structure st are the same -/
def pE (st K : Int) (T U : yT) : Prop := (∀ (g : Nat) (i : Int), 457 ≤ g → g ≤ 467 → 0 ≤ i → i < K → U g (8 * st + i) = T g (8 * st + i)) ∧ (T 450 0 ≤ U 450 0 ∧ ∀ i, i < T 450 0 → U 454 i = T 454 i ∧ U 455 i = T 455 i) ∧ T 451 0 ≤ U 451 0 ∧ ∀ i, i < T 451 0 → U 456 i = T 456 i
section
variable {Y G X : Int → Int} {t n f st k j K p b w N : Int} {T U V : yT} {s u : zS} {o : Option Int}
theorem pE.rf : pE st K T T := ⟨fun _ _ _ _ _ _ => rfl, ⟨Int.le_refl _, fun _ _ => ⟨rfl, rfl⟩⟩, Int.le_refl _, fun _ _ => rfl⟩
theorem pE.tr (a : pE st K T U) (c : pE st K U V) : pE st K T V := by
  obtain ⟨a1, ⟨a2, a3⟩, a4, a5⟩ := a
  obtain ⟨c1, ⟨c2, c3⟩, c4, c5⟩ := c
  exact ⟨fun g i g1 g2 i1 i2 => (c1 g i g1 g2 i1 i2).trans (a1 g i g1 g2 i1 i2), ⟨Int.le_trans a2 c2, fun i h => ⟨(c3 i (by omega)).1.trans (a3 i h).1, (c3 i (by omega)).2.trans (a3 i h).2⟩⟩, Int.le_trans a4 c4, fun i h => (c5 i (by omega)).trans (a5 i h)⟩
theorem pa_kf.E {st' : Int} (h : pa_kf st' k T U) (c : st = st' ∧ K ≤ k ∨ st ≠ st' ∧ K ≤ 8 ∧ 0 ≤ k ∧ k < 8) : pE st K T U := ⟨fun g i g1 g2 i1 i2 => h.1 g _ (by omega), h.2.1, h.2.2.1⟩
theorem pP.E (h : pP Y n st j (8 * st + j) T p (yBit T st j.toNat)) (a : pE st K T U) (hj : 0 ≤ j ∧ j < K) : pP Y n st j (8 * st + j) U p (yBit U st j.toNat) := by
  obtain ⟨a1, ⟨a2, a3⟩, a4, a5⟩ := a
  rw [yBit_c (T := T) j.toNat fun i i1 i2 => ⟨a1 458 i (by decide) (by decide) i1 (by omega), a1 459 i (by decide) (by decide) i1 (by omega)⟩]
  exact pP_c h (fun g g1 g2 => a1 g j (by omega) (by omega) hj.1 hj.2) a2 a3 a4 a5 fun i i1 i2 => ⟨a1 457 i (by decide) (by decide) i1 (by omega), a1 458 i (by decide) (by decide) i1 (by omega)⟩
theorem rQ.E (h : rQ t Y n st j T s) (a : pE st K T U) (hj : 0 ≤ j ∧ j < K) (c : ∀ i : Nat, 588 ≤ i → i ≤ 591 → u.1 i 0 (48 * t + (8 * st + j)) = s.1 i 0 (48 * t + (8 * st + j))) : rQ t Y n st j U u := by
  obtain ⟨p, p0, h1, h2, h3, h4, h5, h6⟩ := h
  have e : ∀ g : Nat, 457 ≤ g → g ≤ 467 → U g (8 * st + j) = T g (8 * st + j) := fun g g1 g2 => a.1 g j g1 g2 hj.1 hj.2
  refine ⟨p, p0, h1.E a hj, ?_, ?_, ?_, ?_, ?_⟩
  · unfold pR at h2 ⊢
    rw [e 467 (by decide) (by decide), e 458 (by decide) (by decide)]
    exact h2
  · rw [c 588 (by decide) (by decide), e 458 (by decide) (by decide)]
    exact h3
  · rw [c 590 (by decide) (by decide), e 458 (by decide) (by decide), e 465 (by decide) (by decide)]
    exact h4
  · rw [c 589 (by decide) (by decide), e 458 (by decide) (by decide), e 459 (by decide) (by decide)]
    exact h5
  · rw [c 591 (by decide) (by decide), e 458 (by decide) (by decide), e 463 (by decide) (by decide), e 464 (by decide) (by decide), e 465 (by decide) (by decide)]
    exact h6
theorem rQ_mk {x : yT} (h : rFF (48 * t + (8 * st + k)) G st (8 * st + k) T p b x u) (p0 : 0 ≤ p) (P : pP Y n st k (8 * st + k) x p (yBit x st k.toNat)) (R : pR (8 * st + k) x) : rQ t Y n st k x u := by
  obtain ⟨⟨V, ⟨v1, v2, v3, v4, v5⟩, eV⟩, -⟩ := h
  have e : ∀ g : Nat, 458 ≤ g → g ≤ 466 → g ≠ 460 → x g (8 * st + k) = V g (8 * st + k) := fun g g1 g2 g3 => eV g _ (by omega) (by omega) (by omega) (by omega) g3
  refine ⟨p, p0, P, R, ?_, ?_, ?_, ?_⟩
  · rw [v2, e 458 (by decide) (by decide) (by decide)]
  · rw [v4, e 458 (by decide) (by decide) (by decide), e 465 (by decide) (by decide) (by decide)]
  · rw [e 458 (by decide) (by decide) (by decide), e 459 (by decide) (by decide) (by decide)]
    exact v3
  · rw [e 458 (by decide) (by decide) (by decide), e 463 (by decide) (by decide) (by decide), e 464 (by decide) (by decide) (by decide), e 465 (by decide) (by decide) (by decide)]
    intro z1 z2
    obtain ⟨y, q, y1, y2, y3, y4⟩ := v5 z1
    obtain ⟨n1, n2, n3, n4, n5, n6⟩ := pa_names_k y1
    obtain ⟨m1, m2, m3⟩ := pa_cnt_k y3
    dsimp only at m1 m2 m3
    rw [y4, m3 463 _ (by decide) (by decide) (by decide) (by omega), m3 464 _ (by decide) (by decide) (by decide) (by omega), n2, n4]
    unfold pe
    by_cases c : G (y.2 + 1) = 42 ∨ G (y.2 + 1) = 33 ∨ G (y.2 + 1) = 63
    · rw [if_pos c] at m2
      rw [if_pos c, if_neg (by omega)]
      omega
    · rw [if_neg c] at m2
      rw [if_neg c, if_pos m2]
      omega
/-- the relations, with one more field -/
theorem rR.nx {x : yT} (h : rR t st 0 T s) (hk : k = T 453 st) (K : pa_kf st k T x) (F : rFF (48 * t + (8 * st + k)) G st (8 * st + k) U p b x u) (R : pR (8 * st + k) x) (P : x 458 (8 * st + k) = 91 → x 465 (8 * st + k) ≠ 0) (c : ∀ (g : Nat) (j : Int), 586 ≤ g → g ≤ 593 → j ≠ k → u.1 g 0 (48 * t + (8 * st + j)) = s.1 g 0 (48 * t + (8 * st + j))) : rR t st 0 x u := by
  intro j j1 j2
  rw [K.2.2.2] at j2
  by_cases e : j = k
  · subst e
    have n73 : x 467 (8 * st + j) ≠ 73 := by
      unfold pR at R
      clear F
      omega
    obtain ⟨⟨V, ⟨v1, v2, v3, v4, v5⟩, eV⟩, f2, f3, f4⟩ := F
    refine ⟨f3, n73, fun z => ?_, ?_⟩
    · rw [f4 z, if_neg (show ¬ j < 0 by omega)]
    · rw [v4, ← eV 458 _ (by decide) (by decide) (by decide) (by decide) (by decide), ← eV 465 _ (by decide) (by decide) (by decide) (by decide) (by decide)]
      by_cases d : x 458 (8 * st + j) = 91
      · rw [if_pos d]
        have := P d
        by_cases d2 : x 465 (8 * st + j) = 43
        · rw [if_pos d2]
          omega
        · rw [if_neg d2]
          omega
      · rw [if_neg d]
        exact ⟨fun _ => d, fun _ => rfl⟩
  · obtain ⟨g1, g2, g3, g4⟩ := h j j1 (by omega)
    rw [c 592 j (by decide) (by decide) e, c 593 j (by decide) (by decide) e, c 590 j (by decide) (by decide) e, K.1 467 _ (by omega), K.1 468 _ (by omega), K.1 458 _ (by omega)]
    exact ⟨g1, g2, g3, g4⟩
end
