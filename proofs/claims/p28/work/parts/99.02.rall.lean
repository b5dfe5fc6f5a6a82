/-! the reference's parser: the whole text -/
/-- what making a template t may change in the reference -/
def rka (t : Int) (s u : zS) : Prop := (∀ (f n : Nat) (i : Int), ¬ (n = 0 ∧ (f = 576 ∨ f = 577 ∨ f = 579 ∨ 603 ≤ f ∧ f ≤ 606 ∨ f = 580 ∧ i = t ∨ f = 581 ∧ 200 * t ≤ i ∧ i < 200 * t + 200 ∨ 586 ≤ f ∧ f ≤ 593 ∧ 48 * t ≤ i ∧ i < 48 * t + 48 ∨ (f = 584 ∨ f = 585) ∧ 6 * t ≤ i ∧ i < 6 * t + 6 ∨ f = 583 ∧ 26 * t ≤ i ∧ i < 26 * t + 26 ∨ f = 582 ∧ i = t)) → u.1 f n i = s.1 f n i) ∧ u.2 = s.2
section
variable {Y Z : Int → Int} {T : yT} {st k t : Int} {s u : zS}
theorem mNum_Y (h : ∀ p, 0 ≤ p → Z p = Y p) : ∀ (m : Nat) (v p : Int), 0 ≤ p → mNum Z m v p = mNum Y m v p
  | 0, _, _, _ => rfl
  | m + 1, v, p, p0 => by
    unfold mNum
    rw [h p p0, mNum_Y h m _ (p + 1) (by omega)]
theorem mTerm_Y {p j p' : Int} (h : ∀ p, 0 ≤ p → Z p = Y p) (p0 : 0 ≤ p) (a : mTerm Y T st k p j p') : mTerm Z T st k p j p' ∧ 0 ≤ p' := by
  unfold mTerm at a ⊢
  rw [h p p0, mNum_Y h 3 0 p p0]
  refine ⟨a, ?_⟩
  rcases a with ⟨-, -, -, a⟩ | ⟨-, -, -, -, -, a⟩
  · have := mNum_b Y 3 0 p
    rw [a] at this
    dsimp only at this
    omega
  · omega
theorem mTail_Y (h : ∀ p, 0 ≤ p → Z p = Y p) : ∀ (m : Nat) (p j : Int), 0 ≤ p → mTail Y T st k m p j → mTail Z T st k m p j
  | 0, p, j, p0, a => by
    unfold mTail at a ⊢
    rw [h p p0]
    exact a
  | m + 1, p, j, p0, a => by
    obtain ⟨a1, a2, p', a3, a4⟩ := a
    obtain ⟨b1, b2⟩ := mTerm_Y h (by omega) a3
    unfold mTail
    rw [h p p0]
    exact ⟨a1, a2, p', b1, mTail_Y h m p' (j + 1) b2 a4⟩
theorem mSumAt_Y {p j : Int} {m : Nat} (h : ∀ p, 0 ≤ p → Z p = Y p) (p0 : 0 ≤ p) (a : mSumAt Y T st k m p j) : mSumAt Z T st k m p j := by
  obtain ⟨a1, p', a2, a3⟩ := a
  obtain ⟨b1, b2⟩ := mTerm_Y h p0 a2
  exact ⟨a1, p', b1, mTail_Y h m p' (j + 1) b2 a3⟩
/-- a template's tables in the reference, as long as its rows are kept -/
theorem mRel.c (R : mRel t T s) (W : yWT T) (a : ∀ (f : Nat) (i : Int), (f = 582 ∧ i = t ∨ f = 583 ∧ 26 * t ≤ i ∧ i < 26 * t + 26 ∨ (f = 584 ∨ f = 585) ∧ 6 * t ≤ i ∧ i < 6 * t + 6 ∨ 586 ≤ f ∧ f ≤ 593 ∧ 48 * t ≤ i ∧ i < 48 * t + 48 ∨ f = 581 ∧ 200 * t ≤ i ∧ i < 200 * t + 200) → u.1 f 0 i = s.1 f 0 i) : mRel t T u := by
  obtain ⟨R1, R2, R3⟩ := R
  obtain ⟨W1, W2, W3⟩ := W
  have hY : ∀ p, 0 ≤ p → mX t u p = mX t s p := fun p p0 => by
    unfold mX
    by_cases c : p < 200
    · rw [if_pos c, if_pos c, a 581 _ (by omega)]
    · rw [if_neg c, if_neg c]
  refine ⟨R1, (a 582 t (by omega)).trans R2, fun st s1 s2 => ?_⟩
  obtain ⟨r1, r2, r3, r4⟩ := R3 st s1 s2
  have w8 := W3 st s1 s2
  refine ⟨(a 585 _ (by omega)).trans r1, (a 584 _ (by omega)).trans r2, r3, fun k k1 k2 => ?_⟩
  have e : ∀ f : Nat, 586 ≤ f → f ≤ 593 → u.1 f 0 (48 * t + (8 * st + k)) = s.1 f 0 (48 * t + (8 * st + k)) := fun f f1 f2 => a f _ (by omega)
  obtain ⟨h1, h2, h3, h4, h5, h6, h7, h8, h9, h10, h11, h12, h13⟩ := r4 k k1 k2
  unfold mRelF
  rw [e 586 (by decide) (by decide), e 587 (by decide) (by decide), e 588 (by decide) (by decide), e 589 (by decide) (by decide), e 590 (by decide) (by decide), e 591 (by decide) (by decide), e 592 (by decide) (by decide), e 593 (by decide) (by decide)]
  refine ⟨h1, h2, h3, h4, h5, h6, h7, fun z => ⟨(h8 z).1, fun j j1 j2 => ?_⟩, fun z => ⟨(h9 z).1, (h9 z).2.1, mSumAt_Y hY (h9 z).1 (h9 z).2.2⟩, fun z => ⟨(h10 z).1, (h10 z).2.1, mSumAt_Y hY (h10 z).1 (h10 z).2.2⟩, fun z => ⟨(h11 z).1, by rw [mNum_Y hY 3 0 _ (h11 z).1.1]; exact (h11 z).2⟩, h12, h13⟩
  obtain ⟨z0, zj⟩ := h8 z
  obtain ⟨g1, g2, g3, g4⟩ := zj j j1 j2
  rw [a 581 (200 * t + (s.1 588 0 (48 * t + (8 * st + k)) + 2 * j)) (by omega), a 581 (200 * t + (s.1 588 0 (48 * t + (8 * st + k)) + 2 * j + 1)) (by omega), a 583 _ (by omega)]
  exact ⟨g1, g2, g3, g4⟩
end
section
variable {t n N p x : Int} {X Y : Int → Int} {T : yT} {s u v : zS}
theorem rka.rf : rka t s s := ⟨fun _ _ _ _ => rfl, rfl⟩
theorem rka.tr (a : rka t s u) (c : rka t u v) : rka t s v := ⟨fun f n i h => (c.1 f n i h).trans (a.1 f n i h), c.2.trans a.2⟩
theorem rkt.ka (a : rkt t s u) : rka t s u := ⟨fun f n i h => a.1 f n i (by omega), a.2.1⟩
end
