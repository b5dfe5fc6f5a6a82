/-! the reference: a template's text, numbers and sums in it -/
/-- nothing but what the reference's reading works with has changed -/
def mfr (s t : zS) : Prop := (∀ (f n : Nat) (i : Int), ¬ (604 ≤ f ∧ f ≤ 630 ∧ f ≠ 608 ∧ f ≠ 609 ∧ n = 0) → t.1 f n i = s.1 f n i) ∧ t.2 = s.2
/-- .. or the fault either -/
def mfm (s t : zS) : Prop := (∀ (f n : Nat) (i : Int), ¬ (604 ≤ f ∧ f ≤ 630 ∧ n = 0) → t.1 f n i = s.1 f n i) ∧ t.2 = s.2
theorem mfm.rf {s : zS} : mfm s s := ⟨fun _ _ _ _ => rfl, rfl⟩
theorem mfm.tr {s t u : zS} (a : mfm s t) (b : mfm t u) : mfm s u := ⟨fun f n i h => (b.1 f n i h).trans (a.1 f n i h), b.2.trans a.2⟩
theorem mfm.pw {s t : zS} {f : Nat} {i v : Int} (a : mfm s t) (h : 604 ≤ f ∧ f ≤ 630) : mfm s (zp f 0 i v t) := by
  refine ⟨fun f' n' i' hn => ?_, a.2⟩
  rw [zp_ne (fun z => hn ⟨by omega, by omega, z.2⟩)]
  exact a.1 f' n' i' hn
theorem mfm.of {s t : zS} (a : mfr s t) : mfm s t := ⟨fun f n i h => a.1 f n i (by omega), a.2⟩
/-- nothing but end, at and isGood has changed -/
def m6 (s t : zS) : Prop := (∀ (f n : Nat) (i : Int), ¬ (604 ≤ f ∧ f ≤ 606 ∧ n = 0) → t.1 f n i = s.1 f n i) ∧ t.2 = s.2
theorem m6.rf {s : zS} : m6 s s := ⟨fun _ _ _ _ => rfl, rfl⟩
theorem m6.tr {s t u : zS} (a : m6 s t) (b : m6 t u) : m6 s u := ⟨fun f n i h => (b.1 f n i h).trans (a.1 f n i h), b.2.trans a.2⟩
theorem m6.pw {s t : zS} {f : Nat} {i v : Int} (a : m6 s t) (h : 604 ≤ f ∧ f ≤ 606) : m6 s (zp f 0 i v t) := by
  refine ⟨fun f' n' i' hn => ?_, a.2⟩
  rw [zp_ne (fun z => hn ⟨by omega, by omega, z.2⟩)]
  exact a.1 f' n' i' hn
theorem mfr.rf {s : zS} : mfr s s := ⟨fun _ _ _ _ => rfl, rfl⟩
theorem mfr.tr {s t u : zS} (a : mfr s t) (b : mfr t u) : mfr s u := ⟨fun f n i h => (b.1 f n i h).trans (a.1 f n i h), b.2.trans a.2⟩
theorem mfr.pw {s t : zS} {f : Nat} {i v : Int} (a : mfr s t) (h : 604 ≤ f ∧ f ≤ 630 ∧ f ≠ 608 ∧ f ≠ 609) : mfr s (zp f 0 i v t) := by
  refine ⟨fun f' n' i' hn => ?_, a.2⟩
  rw [zp_ne (fun z => hn ⟨by omega, by omega, by omega, by omega, z.2⟩)]
  exact a.1 f' n' i' hn
theorem m6.fr {s t : zS} (a : m6 s t) : mfr s t := ⟨fun f n i h => a.1 f n i (by omega), a.2⟩
/-- the sign at a place of the text of template t -/
def mX (t : Int) (s : zS) (p : Int) : Int := if p < 200 then s.1 581 0 (200 * t + p) else 0
theorem mX_fr {t p : Int} {s u : zS} (a : mfr s u) : mX t u p = mX t s p := by
  unfold mX
  rw [a.1 581 0 _ (by omega)]
def mDig (c : Int) : Prop := 48 ≤ c ∧ c ≤ 57
def mOp (c : Int) : Prop := c = 43 ∨ c = 45 ∨ c = 42
/-- a number of at most m digits more, and the place behind it -/
def mNum (X : Int → Int) : Nat → Int → Int → Int × Int
  | 0, v, p => (v, p)
  | m + 1, v, p => if 48 ≤ X p ∧ X p ≤ 57 then mNum X m (10 * v + X p - 48) (p + 1) else (v, p)
def mNumr (c : Int) : Prop := c = 98 ∨ c = 119 ∨ c = 87 ∨ c = 114 ∨ c = 110
/-- at p stands term j, up to p' -/
def mTerm (X : Int → Int) (T : yT) (st k p j p' : Int) : Prop := (mDig (X p) ∧ 0 ≤ T 454 j ∧ T 454 j ≤ 999 ∧ mNum X 3 0 p = (T 454 j, p')) ∨ (¬ mDig (X p) ∧ T 454 j < 0 ∧ -1 - T 454 j < k ∧ mNumr (T 458 (8 * st + (-1 - T 454 j))) ∧ X p = T 457 (8 * st + (-1 - T 454 j)) + 97 ∧ p' = p + 1)
/-- at p stand m terms more, from j on -/
def mTail (X : Int → Int) (T : yT) (st k : Int) : Nat → Int → Int → Prop
  | 0, p, _ => ¬ mOp (X p)
  | m + 1, p, j => mOp (X p) ∧ T 455 j = X p ∧ ∃ p', mTerm X T st k (p + 1) j p' ∧ mTail X T st k m p' (j + 1)
def mSumAt (X : Int → Int) (T : yT) (st k : Int) (m : Nat) (p j : Int) : Prop := T 455 j = 43 ∧ ∃ p', mTerm X T st k p j p' ∧ mTail X T st k m p' (j + 1)
/-- how many bits of its byte are taken ahead of field k -/
def yBit (T : yT) (st : Int) : Nat → Int
  | 0 => 0
  | k + 1 => if T 458 (8 * st + k) = 110 then (if yBit T st k + T 459 (8 * st + k) = 8 then 0 else yBit T st k + T 459 (8 * st + k)) else 0
/-- the reference's table of a field says what the template T says -/
def mRelF (t : Int) (T : yT) (st k : Int) (s : zS) : Prop :=
  s.1 586 0 (48 * t + (8 * st + k)) = T 457 (8 * st + k) + 97
  ∧ (T 458 (8 * st + k) = 65 ∨ T 458 (8 * st + k) = 91 → s.1 587 0 (48 * t + (8 * st + k)) = 78)
  ∧ (T 458 (8 * st + k) ≠ 65 → T 458 (8 * st + k) ≠ 91 → s.1 587 0 (48 * t + (8 * st + k)) = T 458 (8 * st + k))
  ∧ s.1 590 0 (48 * t + (8 * st + k)) = (if T 458 (8 * st + k) = 91 then (if T 465 (8 * st + k) = 43 then 115 else T 465 (8 * st + k)) else 0)
  ∧ (T 458 (8 * st + k) = 110 → s.1 589 0 (48 * t + (8 * st + k)) = T 459 (8 * st + k) ∧ T 460 (8 * st + k) = 8 - yBit T st k.toNat - T 459 (8 * st + k) ∧ 0 ≤ yBit T st k.toNat)
  ∧ s.1 592 0 (48 * t + (8 * st + k)) = (if T 467 (8 * st + k) = 61 then 73 else T 467 (8 * st + k))
  ∧ (T 467 (8 * st + k) ≠ 0 → s.1 593 0 (48 * t + (8 * st + k)) = (if T 467 (8 * st + k) = 61 then T 468 (8 * st + k) else T 468 (8 * st + k) - 8 * st))
  ∧ (T 458 (8 * st + k) = 65 ∨ T 458 (8 * st + k) = 91 ∨ T 458 (8 * st + k) = 114 → 0 ≤ s.1 588 0 (48 * t + (8 * st + k)) ∧ ∀ j, 0 ≤ j → j < T 464 (8 * st + k) - T 463 (8 * st + k) → s.1 588 0 (48 * t + (8 * st + k)) + 2 * j + 1 < 200 ∧ (65 ≤ s.1 581 0 (200 * t + (s.1 588 0 (48 * t + (8 * st + k)) + 2 * j)) ∧ s.1 581 0 (200 * t + (s.1 588 0 (48 * t + (8 * st + k)) + 2 * j)) ≤ 90) ∧ s.1 583 0 (26 * t + s.1 581 0 (200 * t + (s.1 588 0 (48 * t + (8 * st + k)) + 2 * j)) - 65) = T 456 (T 463 (8 * st + k) + j) ∧ (T 458 (8 * st + k) ≠ 114 → (s.1 581 0 (200 * t + (s.1 588 0 (48 * t + (8 * st + k)) + 2 * j + 1)) = 124 ↔ j + 1 < T 464 (8 * st + k) - T 463 (8 * st + k))))
  ∧ (T 458 (8 * st + k) = 115 → 0 ≤ s.1 588 0 (48 * t + (8 * st + k)) ∧ T 461 (8 * st + k) < T 462 (8 * st + k) ∧ mSumAt (mX t s) T st k (T 462 (8 * st + k) - T 461 (8 * st + k) - 1).toNat (s.1 588 0 (48 * t + (8 * st + k))) (T 461 (8 * st + k)))
  ∧ (T 458 (8 * st + k) = 91 ∧ (T 465 (8 * st + k) = 43 ∨ T 465 (8 * st + k) = 63) → 0 ≤ s.1 591 0 (48 * t + (8 * st + k)) ∧ T 461 (8 * st + k) < T 462 (8 * st + k) ∧ mSumAt (mX t s) T st k (T 462 (8 * st + k) - T 461 (8 * st + k) - 1).toNat (s.1 591 0 (48 * t + (8 * st + k))) (T 461 (8 * st + k)))
  ∧ (T 458 (8 * st + k) = 91 ∧ T 465 (8 * st + k) = 33 → (0 ≤ s.1 591 0 (48 * t + (8 * st + k)) ∧ s.1 591 0 (48 * t + (8 * st + k)) ≤ 200) ∧ (mNum (mX t s) 3 0 (s.1 591 0 (48 * t + (8 * st + k)))).1 = T 466 (8 * st + k))
  ∧ (∀ i, 0 ≤ i → i < T 453 st → i ≠ k → T 457 (8 * st + i) ≠ T 457 (8 * st + k))
  ∧ (T 458 (8 * st + k) ≠ 110 → yBit T st k.toNat = 0)
def mRel (t : Int) (T : yT) (s : zS) : Prop := (0 ≤ t ∧ t ≤ 3) ∧ s.1 582 0 t = T 449 0 ∧ ∀ st, 0 ≤ st → st < T 449 0 → s.1 585 0 (6 * t + st) = T 453 st ∧ s.1 584 0 (6 * t + st) = T 452 st ∧ (0 ≤ T 452 st ∧ T 452 st ≤ 25) ∧ ∀ k, 0 ≤ k → k < T 453 st → mRelF t T st k s
theorem mRelF.fr {t st k : Int} {T : yT} {s u : zS} (h : mRelF t T st k s) (a : mfr s u) : mRelF t T st k u := by
  have hX : mX t u = mX t s := funext fun p => mX_fr a
  have e : ∀ (f : Nat) (i : Int), f < 604 → u.1 f 0 i = s.1 f 0 i := fun f i hf => a.1 f 0 i (by omega)
  unfold mRelF
  simp only [hX, e 581 _ (by decide), e 583 _ (by decide), e 586 _ (by decide), e 587 _ (by decide), e 588 _ (by decide), e 589 _ (by decide), e 590 _ (by decide), e 591 _ (by decide), e 592 _ (by decide), e 593 _ (by decide)]
  exact h
theorem mRel.fr {t : Int} {T : yT} {s u : zS} (h : mRel t T s) (a : mfr s u) : mRel t T u := by
  obtain ⟨h1, h2, h3⟩ := h
  refine ⟨h1, (a.1 582 0 t (by omega)).trans h2, fun st g1 g2 => ?_⟩
  obtain ⟨k1, k2, k3, k4⟩ := h3 st g1 g2
  exact ⟨(a.1 585 0 _ (by omega)).trans k1, (a.1 584 0 _ (by omega)).trans k2, k3, fun k g3 g4 => (k4 k g3 g4).fr a⟩
section
variable {t : Int} {T : yT} {st k K : Int} {s : zS} {V : Int → Int}
/-- the reference looks at template t up to the tape's end -/
def mAt (t p : Int) (s : zS) : Prop := (0 ≤ t ∧ t ≤ 3) ∧ s.1 603 0 0 = 200 * t ∧ s.1 604 0 0 = 200 ∧ s.1 605 0 0 = p ∧ 0 ≤ p ∧ p ≤ 100000
theorem mAt.nx {p : Int} (h : mAt t p s) (hp : p < 100000) : mAt t (p + 1) (zp 605 0 0 (p + 1) s) := ⟨h.1, (zp_nn (by omega)).trans h.2.1, (zp_nn (by omega)).trans h.2.2.1, zp_eq, by have := h.2.2.2.2.1; omega, by omega⟩
end
