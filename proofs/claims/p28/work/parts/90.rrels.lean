/-! the reference's parser: the relations of a structure find their fields -/
/-- what the tables hold of a structure's relations: those ahead of k have found their fields -/
def rR (t st k : Int) (T : yT) (s : zS) : Prop := ∀ j, 0 ≤ j → j < T 453 st →
  s.1 592 0 (48 * t + (8 * st + j)) = (if T 467 (8 * st + j) = 61 then 73 else T 467 (8 * st + j)) ∧ T 467 (8 * st + j) ≠ 73
  ∧ (T 467 (8 * st + j) ≠ 0 → s.1 593 0 (48 * t + (8 * st + j)) = (if T 467 (8 * st + j) = 61 then T 468 (8 * st + j) else if j < k then T 468 (8 * st + j) - 8 * st else T 468 (8 * st + j) + 97))
  ∧ (s.1 590 0 (48 * t + (8 * st + j)) = 0 ↔ T 458 (8 * st + j) ≠ 91)
/-- nothing but isGood and the relations' arguments has changed -/
def rkr (t st : Int) (s u : zS) : Prop := (∀ (f n : Nat) (i : Int), ¬ (n = 0 ∧ (f = 606 ∨ f = 593 ∧ 48 * t + 8 * st ≤ i ∧ i < 48 * t + 8 * st + 8)) → u.1 f n i = s.1 f n i) ∧ u.2 = s.2
section
variable {t st : Int}
end
