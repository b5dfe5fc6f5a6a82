/-! the reference: a template's text, numbers and sums in it -/
/-- nothing but what the reference's reading works with has changed -/
def mfr (s t : zS) : Prop := (∀ (f n : Nat) (i : Int), ¬ (604 ≤ f ∧ f ≤ 630 ∧ f ≠ 608 ∧ f ≠ 609 ∧ n = 0) → t.1 f n i = s.1 f n i) ∧ t.2 = s.2
/-- .. or the fault either -/
def mfm (s t : zS) : Prop := (∀ (f n : Nat) (i : Int), ¬ (604 ≤ f ∧ f ≤ 630 ∧ n = 0) → t.1 f n i = s.1 f n i) ∧ t.2 = s.2
theorem mfm.rf {s : zS} : mfm s s := ⟨fun _ _ _ _ => rfl, rfl⟩
theorem mfm.tr {s t u : zS} (a : mfm s t) (b : mfm t u) : mfm s u := ⟨fun f n i h => (b.1 f n i h).trans (a.1 f n i h), b.2.trans a.2⟩
theorem mfm.pw {s t : zS} {f : Nat} {i v : Int} (a : mfm s t) (h : 604 ≤ f ∧ f ≤ 630) : mfm s (zp f 0 i v t) := by
  refine ⟨fun f' n' i' hn => ?_, a.2⟩
  rw [zp_ne (fun z => hn ⟨by omega, by omega, z.2⟩)]
  exact a.1 f' n' i' hn
theorem mfm.of {s t : zS} (a : mfr s t) : mfm s t := ⟨fun f n i h => a.1 f n i (by omega), a.2⟩
/-- nothing but end, at and isGood has changed -/
def m6 (s t : zS) : Prop := (∀ (f n : Nat) (i : Int), ¬ (604 ≤ f ∧ f ≤ 606 ∧ n = 0) → t.1 f n i = s.1 f n i) ∧ t.2 = s.2
theorem m6.rf {s : zS} : m6 s s := ⟨fun _ _ _ _ => rfl, rfl⟩
theorem m6.tr {s t u : zS} (a : m6 s t) (b : m6 t u) : m6 s u := ⟨fun f n i h => (b.1 f n i h).trans (a.1 f n i h), b.2.trans a.2⟩
theorem m6.pw {s t : zS} {f : Nat} {i v : Int} (a : m6 s t) (h : 604 ≤ f ∧ f ≤ 606) : m6 s (zp f 0 i v t) := by
  refine ⟨fun f' n' i' hn => ?_, a.2⟩
  rw [zp_ne (fun z => hn ⟨by omega, by omega, z.2⟩)]
  exact a.1 f' n' i' hn
theorem mfr.rf {s : zS} : mfr s s := ⟨fun _ _ _ _ => rfl, rfl⟩
theorem mfr.tr {s t u : zS} (a : mfr s t) (b : mfr t u) : mfr s u := ⟨fun f n i h => (b.1 f n i h).trans (a.1 f n i h), b.2.trans a.2⟩
theorem mfr.pw {s t : zS} {f : Nat} {i v : Int} (a : mfr s t) (h : 604 ≤ f ∧ f ≤ 630 ∧ f ≠ 608 ∧ f ≠ 609) : mfr s (zp f 0 i v t) := by
  refine ⟨fun f' n' i' hn => ?_, a.2⟩
  rw [zp_ne (fun z => hn ⟨by omega, by omega, by omega, by omega, z.2⟩)]
  exact a.1 f' n' i' hn
theorem m6.fr {s t : zS} (a : m6 s t) : mfr s t := ⟨fun f n i h => a.1 f n i (by omega), a.2⟩
/-- the sign at a place of the text of template t -/
def mX (t : Int) (s : zS) (p : Int) : Int := if p < 200 then s.1 581 0 (200 * t + p) else 0
theorem mX_fr {t p : Int} {s u : zS} (a : mfr s u) : mX t u p = mX t s p := by
  unfold mX
  rw [a.1 581 0 _ (by omega)]
def mDig (c : Int) : Prop := 48 ≤ c ∧ c ≤ 57
def mOp (c : Int) : Prop := c = 43 ∨ c = 45 ∨ c = 42
/-- a number of at most m digits more, and the place behind it -/
def mNum (X : Int → Int) : Nat → Int → Int → Int × Int
  | 0, v, p => (v, p)
  | m + 1, v, p => if 48 ≤ X p ∧ X p ≤ 57 then mNum X m (10 * v + X p - 48) (p + 1) else (v, p)
def mNumr (c : Int) : Prop := c = 98 ∨ c = 119 ∨ c = 87 ∨ c = 114 ∨ c = 110
/-- at p stands term j, up to p' -/
def mTerm (X : Int → Int) (T : yT) (st k p j p' : Int) : Prop := (mDig (X p) ∧ 0 ≤ T 454 j ∧ T 454 j ≤ 999 ∧ mNum X 3 0 p = (T 454 j, p')) ∨ (¬ mDig (X p) ∧ T 454 j < 0 ∧ -1 - T 454 j < k ∧ mNumr (T 458 (8 * st + (-1 - T 454 j))) ∧ X p = T 457 (8 * st + (-1 - T 454 j)) + 97 ∧ p' = p + 1)
/-- at p stand m terms more, from j on -/
def mTail (X : Int → Int) (T : yT) (st k : Int) : Nat → Int → Int → Prop
  | 0, p, _ => ¬ mOp (X p)
  | m + 1, p, j => mOp (X p) ∧ T 455 j = X p ∧ ∃ p', mTerm X T st k (p + 1) j p' ∧ mTail X T st k m p' (j + 1)
def mSumAt (X : Int → Int) (T : yT) (st k : Int) (m : Nat) (p j : Int) : Prop := T 455 j = 43 ∧ ∃ p', mTerm X T st k p j p' ∧ mTail X T st k m p' (j + 1)
/-- how many bits of its byte are taken ahead of field k -/
def yBit (T : yT) (st : Int) : Nat → Int
  | 0 => 0
  | k + 1 => if T 458 (8 * st + k) = 110 then (if yBit T st k + T 459 (8 * st + k) = 8 then 0 else yBit T st k + T 459 (8 * st + k)) else 0
/-- the reference's table of a field says what the template T says -/
def mRelF (t : Int) (T : yT) (st k : Int) (s : zS) : Prop :=
  s.1 586 0 (48 * t + (8 * st + k)) = T 457 (8 * st + k) + 97
  ∧ (T 458 (8 * st + k) = 65 ∨ T 458 (8 * st + k) = 91 → s.1 587 0 (48 * t + (8 * st + k)) = 78)
  ∧ (T 458 (8 * st + k) ≠ 65 → T 458 (8 * st + k) ≠ 91 → s.1 587 0 (48 * t + (8 * st + k)) = T 458 (8 * st + k))
  ∧ s.1 590 0 (48 * t + (8 * st + k)) = (if T 458 (8 * st + k) = 91 then (if T 465 (8 * st + k) = 43 then 115 else T 465 (8 * st + k)) else 0)
  ∧ (T 458 (8 * st + k) = 110 → s.1 589 0 (48 * t + (8 * st + k)) = T 459 (8 * st + k) ∧ T 460 (8 * st + k) = 8 - yBit T st k.toNat - T 459 (8 * st + k) ∧ 0 ≤ yBit T st k.toNat)
  ∧ s.1 592 0 (48 * t + (8 * st + k)) = (if T 467 (8 * st + k) = 61 then 73 else T 467 (8 * st + k))
  ∧ (T 467 (8 * st + k) ≠ 0 → s.1 593 0 (48 * t + (8 * st + k)) = (if T 467 (8 * st + k) = 61 then T 468 (8 * st + k) else T 468 (8 * st + k) - 8 * st))
  ∧ (T 458 (8 * st + k) = 65 ∨ T 458 (8 * st + k) = 91 ∨ T 458 (8 * st + k) = 114 → 0 ≤ s.1 588 0 (48 * t + (8 * st + k)) ∧ ∀ j, 0 ≤ j → j < T 464 (8 * st + k) - T 463 (8 * st + k) → s.1 588 0 (48 * t + (8 * st + k)) + 2 * j + 1 < 200 ∧ (65 ≤ s.1 581 0 (200 * t + (s.1 588 0 (48 * t + (8 * st + k)) + 2 * j)) ∧ s.1 581 0 (200 * t + (s.1 588 0 (48 * t + (8 * st + k)) + 2 * j)) ≤ 90) ∧ s.1 583 0 (26 * t + s.1 581 0 (200 * t + (s.1 588 0 (48 * t + (8 * st + k)) + 2 * j)) - 65) = T 456 (T 463 (8 * st + k) + j) ∧ (T 458 (8 * st + k) ≠ 114 → (s.1 581 0 (200 * t + (s.1 588 0 (48 * t + (8 * st + k)) + 2 * j + 1)) = 124 ↔ j + 1 < T 464 (8 * st + k) - T 463 (8 * st + k))))
  ∧ (T 458 (8 * st + k) = 115 → 0 ≤ s.1 588 0 (48 * t + (8 * st + k)) ∧ T 461 (8 * st + k) < T 462 (8 * st + k) ∧ mSumAt (mX t s) T st k (T 462 (8 * st + k) - T 461 (8 * st + k) - 1).toNat (s.1 588 0 (48 * t + (8 * st + k))) (T 461 (8 * st + k)))
  ∧ (T 458 (8 * st + k) = 91 ∧ (T 465 (8 * st + k) = 43 ∨ T 465 (8 * st + k) = 63) → 0 ≤ s.1 591 0 (48 * t + (8 * st + k)) ∧ T 461 (8 * st + k) < T 462 (8 * st + k) ∧ mSumAt (mX t s) T st k (T 462 (8 * st + k) - T 461 (8 * st + k) - 1).toNat (s.1 591 0 (48 * t + (8 * st + k))) (T 461 (8 * st + k)))
  ∧ (T 458 (8 * st + k) = 91 ∧ T 465 (8 * st + k) = 33 → (0 ≤ s.1 591 0 (48 * t + (8 * st + k)) ∧ s.1 591 0 (48 * t + (8 * st + k)) ≤ 200) ∧ (mNum (mX t s) 3 0 (s.1 591 0 (48 * t + (8 * st + k)))).1 = T 466 (8 * st + k))
  ∧ (∀ i, 0 ≤ i → i < T 453 st → i ≠ k → T 457 (8 * st + i) ≠ T 457 (8 * st + k))
  ∧ (T 458 (8 * st + k) ≠ 110 → yBit T st k.toNat = 0)
def mRel (t : Int) (T : yT) (s : zS) : Prop := (0 ≤ t ∧ t ≤ 3) ∧ s.1 582 0 t = T 449 0 ∧ ∀ st, 0 ≤ st → st < T 449 0 → s.1 585 0 (6 * t + st) = T 453 st ∧ s.1 584 0 (6 * t + st) = T 452 st ∧ (0 ≤ T 452 st ∧ T 452 st ≤ 25) ∧ ∀ k, 0 ≤ k → k < T 453 st → mRelF t T st k s
theorem mRelF.fr {t st k : Int} {T : yT} {s u : zS} (h : mRelF t T st k s) (a : mfr s u) : mRelF t T st k u := by
  have hX : mX t u = mX t s := funext fun p => mX_fr a
  have e : ∀ (f : Nat) (i : Int), f < 604 → u.1 f 0 i = s.1 f 0 i := fun f i hf => a.1 f 0 i (by omega)
  unfold mRelF
  simp only [hX, e 581 _ (by decide), e 583 _ (by decide), e 586 _ (by decide), e 587 _ (by decide), e 588 _ (by decide), e 589 _ (by decide), e 590 _ (by decide), e 591 _ (by decide), e 592 _ (by decide), e 593 _ (by decide)]
  exact h
theorem mRel.fr {t : Int} {T : yT} {s u : zS} (h : mRel t T s) (a : mfr s u) : mRel t T u := by
  obtain ⟨h1, h2, h3⟩ := h
  refine ⟨h1, (a.1 582 0 t (by omega)).trans h2, fun st g1 g2 => ?_⟩
  obtain ⟨k1, k2, k3, k4⟩ := h3 st g1 g2
  exact ⟨(a.1 585 0 _ (by omega)).trans k1, (a.1 584 0 _ (by omega)).trans k2, k3, fun k g3 g4 => (k4 k g3 g4).fr a⟩
section
variable {t : Int} {T : yT} {st k K : Int} {s : zS} {V : Int → Int}
theorem z146 {x a b : Int} : zf_146 x a b s = zi (if a ≤ x ∧ x ≤ b then 1 else 0) s := by
  unfold zf_146
  by_cases h1 : x < a
  · rw [if_pos h1, if_neg (by omega)]
    rfl
  · rw [if_neg h1]
    by_cases h2 : b < x
    · rw [if_pos h2, if_neg (by omega)]
      rfl
    · rw [if_neg h2, if_pos (by omega)]
      rfl
theorem z160 {x : Int} : zf_160 x s = zi (if 48 ≤ x ∧ x ≤ 57 then 1 else 0) s := by
  unfold zf_160
  rw [z146, zC_zi]
  split <;> rfl
theorem z164 {x : Int} : zf_164 x s = zi (if x = 43 ∨ x = 45 ∨ x = 42 then 1 else 0) s := by
  unfold zf_164
  by_cases h1 : x = 43
  · rw [if_pos h1, if_pos (Or.inl h1)]
    rfl
  · rw [if_neg h1]
    by_cases h2 : x = 45
    · rw [if_pos h2, if_pos (Or.inr (Or.inl h2))]
      rfl
    · rw [if_neg h2]
      by_cases h3 : x = 42
      · rw [if_pos h3, if_pos (Or.inr (Or.inr h3))]
        rfl
      · rw [if_neg h3, if_neg (by omega)]
        rfl
/-- the reference looks at template t up to the tape's end -/
def mAt (t p : Int) (s : zS) : Prop := (0 ≤ t ∧ t ≤ 3) ∧ s.1 603 0 0 = 200 * t ∧ s.1 604 0 0 = 200 ∧ s.1 605 0 0 = p ∧ 0 ≤ p ∧ p ≤ 100000
theorem z156 {p : Int} (h : mAt t p s) : zf_156 0 s = zi (mX t s p) s := by
  obtain ⟨h1, h2, h3, h4, h5, h6⟩ := h
  unfold zf_156 mX
  rw [h2, h3, h4]
  by_cases hp : p < 200
  · rw [if_neg (by omega), if_pos hp, zg_ok ⟨by omega, by omega⟩, zn_ok (by omega)]
  · rw [if_pos (by omega), if_neg hp]
theorem mAt.nx {p : Int} (h : mAt t p s) (hp : p < 100000) : mAt t (p + 1) (zp 605 0 0 (p + 1) s) := ⟨h.1, (zp_nn (by omega)).trans h.2.1, (zp_nn (by omega)).trans h.2.2.1, zp_eq, by have := h.2.2.2.2.1; omega, by omega⟩
theorem z161_48 {v m : Int} (h : s.1 606 0 0 = s.1 606 0 0) : ∃ w, zf_161_48 0 v m s = zi v (zp 606 0 0 w s) ∧ (w = 0 ∨ w = 1) := by
  unfold zf_161_48
  by_cases h1 : s.1 606 0 0 = 0
  · rw [if_pos h1, zPz_ok (Or.inl rfl)]
    exact ⟨0, rfl, Or.inl rfl⟩
  · rw [if_neg h1]
    by_cases h2 : m ≤ 0
    · rw [if_pos h2, zPz_ok (Or.inl rfl)]
      exact ⟨0, rfl, Or.inl rfl⟩
    · rw [if_neg h2, zPz_ok (Or.inr rfl)]
      exact ⟨1, rfl, Or.inr rfl⟩
theorem M161_4 : ∀ (m N : Nat) (v p : Int) (s : zS), m < N → m ≤ 3 → mAt t p s → p + m ≤ 2000 → (0 ≤ v ∧ v < 10 ^ (3 - m)) → zw (zf_161_4 N 0 v (3 - m) s) fun x u => m6 s u ∧ x = (mNum (mX t s) m v p).1 ∧ mAt t (mNum (mX t s) m v p).2 u := by
  intro m
  induction m with
  | zero =>
    intro N v p s hN h3 h hp hv
    obtain ⟨N, rfl⟩ : ∃ M, N = M + 1 := ⟨N - 1, by omega⟩
    unfold zf_161_4 mNum
    rw [if_pos (by omega)]
    obtain ⟨w, e, hw⟩ := z161_48 (s := s) (v := v) (m := 3 - ((0 : Nat) : Int)) rfl
    rw [e]
    exact zw_i ⟨m6.rf.pw (by omega), rfl, h.1, (zp_nn (by omega)).trans h.2.1, (zp_nn (by omega)).trans h.2.2.1, (zp_nn (by omega)).trans h.2.2.2.1, h.2.2.2.2⟩
  | succ m ih =>
    intro N v p s hN h3 h hp hv
    obtain ⟨N, rfl⟩ : ∃ M, N = M + 1 := ⟨N - 1, by omega⟩
    unfold zf_161_4 mNum
    rw [if_neg (by omega), z156 h, zC_zi, z160, zC_zi]
    by_cases hd : 48 ≤ mX t s p ∧ mX t s p ≤ 57
    · have h2 := h.nx (by omega)
      have K1 : m6 s (zp 605 0 0 (p + 1) s) := m6.rf.pw (by omega)
      have eX : mX t (zp 605 0 0 (p + 1) s) = mX t s := funext fun p => mX_fr K1.fr
      have hp0 := h.2.2.2.2.1
      rw [if_pos hd, if_pos hd, if_neg (by decide), z156 h, zC_zi, h.2.2.2.1, zg_ok ⟨by omega, by omega⟩, zP_ok]
      have hv9 : v < 1000 := by
        have : (10 : Int) ^ (3 - (m + 1)) ≤ 1000 := by
          have hm : m = 0 ∨ m = 1 ∨ m = 2 := by omega
          rcases hm with rfl | rfl | rfl <;> decide
        omega
      have hv2 : 0 ≤ 10 * v + mX t s p - 48 := by omega
      have hm : m = 0 ∨ m = 1 ∨ m = 2 := by omega
      rw [zg_ok ⟨by omega, by omega⟩, zg_ok ⟨by omega, by omega⟩, zg_ok ⟨by omega, by omega⟩, zg_ok ⟨by omega, by omega⟩, show (3 : Int) - ((m + 1 : Nat) : Int) + 1 = 3 - (m : Int) by omega]
      have hv3 : 10 * v + mX t s p - 48 < 10 ^ (3 - m) := by
        rcases hm with rfl | rfl | rfl <;> (simp at hv ⊢; omega)
      refine (ih N (10 * v + mX t s p - 48) (p + 1) _ (by omega) (by omega) h2 (by omega) ⟨hv2, hv3⟩).mono fun x u hu => ?_
      rw [eX] at hu
      exact ⟨K1.tr hu.1, hu.2⟩
    · rw [if_neg hd, if_neg hd, if_pos rfl]
      obtain ⟨w, e, hw⟩ := z161_48 (s := s) (v := v) (m := 3 - ((m + 1 : Nat) : Int)) rfl
      rw [e]
      exact zw_i ⟨m6.rf.pw (by omega), rfl, h.1, (zp_nn (by omega)).trans h.2.1, (zp_nn (by omega)).trans h.2.2.1, (zp_nn (by omega)).trans h.2.2.2.1, h.2.2.2.2⟩
end
