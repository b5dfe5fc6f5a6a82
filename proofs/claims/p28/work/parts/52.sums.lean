/-! the reference: names, terms, sums -/
section
variable {t : Int} {T : yT} {st k K : Int} {s : zS} {V : Int → Int}
/-- what is known of the numbers ahead of field k -/
def mKn (T : yT) (V : Int → Int) (st k K : Int) (s : zS) : Prop := ∀ i, 0 ≤ i → i < k → mNumr (T 458 (8 * st + i)) → s.1 630 0 (8 * K + i) = V i
theorem mKn.fr6 {u : zS} (h : mKn T V st k K s) (a : m6 s u) : mKn T V st k K u := fun i h1 h2 h3 => (a.1 630 0 _ (by omega)).trans (h i h1 h2 h3)
theorem mAt.fr6 {p p' : Int} {u : zS} (h : mAt t p s) (a : m6 s u) (h4 : u.1 604 0 0 = 200) (h5 : u.1 605 0 0 = p') (hp : 0 ≤ p' ∧ p' ≤ 100000) : mAt t p' u := ⟨h.1, (a.1 603 0 0 (by omega)).trans h.2.1, h4, h5, hp⟩
theorem mNum_b (X : Int → Int) : ∀ (m : Nat) (v p : Int), p ≤ (mNum X m v p).2 ∧ (mNum X m v p).2 ≤ p + m
  | 0, v, p => by
    unfold mNum
    dsimp only
    omega
  | m + 1, v, p => by
    unfold mNum
    split
    · have := mNum_b X m (10 * v + X p - 48) (p + 1)
      omega
    · dsimp only
      omega
end
