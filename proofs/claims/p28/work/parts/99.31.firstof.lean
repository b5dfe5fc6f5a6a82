section
/-! edits: sums settle (reference) -/
/-- the reference has these nodes (but for values written) and the bytes C -/
def mHw (t : Int) (T : yT) (B C : yB) (n : Int) (N : Int → yN) (L w : Int) (s : zS) : Prop := mTb t T N L s ∧ ySh T B n N L w ∧ mRel t T s ∧ mFile C n s
section
variable {T : yT} {B C F G : yB} {n L w : Int} {N : Int → yN} {s u : zS} {t k v g e : Int} {h sz : Int → Int}
theorem mHo.hw (H : mHo t T B C n N L w s) : mHw t T B C n N L w s := ⟨H.tb, H.2⟩
theorem ySh.up (S : ySh T B n N L w) {k : Int} (hk : 0 ≤ k ∧ k < L) : -1 ≤ N k 197 ∧ N k 197 < k := by
  obtain ⟨-, -, -, off, p, -, ⟨a, -, -⟩, -, -⟩ := S
  rcases a k hk.1 hk.2 with z | z <;> omega
theorem ySh.szs (S : ySh T B n N L w) : ∃ sz, ySz N 0 L sz := by
  obtain ⟨-, -, -, off, p, -, -, ⟨-, -, -, -, sz, z⟩, -⟩ := S
  exact ⟨sz, z⟩
theorem eRd_1 : ∀ (m : Nat) (j : Int), eRd N h e m j = 1 → ∃ i, (j ≤ i ∧ i < j + m) ∧ h i = 1 ∧ N i 194 < e
  | 0, _, z => absurd (show (0 : Int) = 1 from z) (by decide)
  | m + 1, j, z => by
    unfold eRd at z
    split at z
    · rename_i y
      exact ⟨j, ⟨Int.le_refl _, by omega⟩, y⟩
    · obtain ⟨i, i1, i2⟩ := eRd_1 m (j + 1) z
      exact ⟨i, ⟨by omega, by omega⟩, i2⟩
/-- a left node lies in the field g, by its offset or by its parents -/
theorem eIn (W : yWT T) (S : ySh T B n N L w) (Z : ySz N 0 L sz) (hg : 0 ≤ g ∧ g < L) {i : Int} (hi : 0 ≤ i ∧ i < L) (kd : N i 192 = 2) : (g ≤ i ∧ i < g + sz g) ↔ (g ≤ i ∧ N i 194 < N g 194 + N g 195) := by
  obtain ⟨z1, z2, z3, z4, z5, -⟩ := Z g hg.1 hg.2
  obtain ⟨st, j, -, -, -, -, -, -, -, ol, -⟩ := (S.nd hi).num W (Or.inl kd)
  have l1 : 1 ≤ N i 195 := by
    rw [ol]
    split <;> decide
  constructor
  · intro y
    have := z4 i y.1 y.2
    exact ⟨y.1, by omega⟩
  · intro y
    refine ⟨y.1, ?_⟩
    by_cases c : i < g + sz g
    · exact c
    · have := z5 i (by omega) hi.2 (by omega)
      omega
end
end
