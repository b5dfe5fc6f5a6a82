section
/-! edits: leaves lie apart, so their writes commute -/
section
variable {T : yT} {B C F G : yB} {n L w : Int} {N : Int → yN} {i k p v x : Int}
theorem ySh.apart (S : ySh T B n N L w) (hi : 0 ≤ i ∧ i < k) (hk : k < L) (ki : 2 ≤ N i 192) (kk : N k 192 ≠ 4) : N i 194 + N i 195 ≤ N k 194 := by
  obtain ⟨sz, Z⟩ := S.szs
  obtain ⟨z1, -, -, -, z5, z6⟩ := Z i hi.1 (by omega)
  have : ¬ 1 < sz i := fun y => by
    have := z6 y
    omega
  exact z5 k (by omega) hk kk
/-- outside of its bytes nothing is written -/
theorem eW_o (W : yWT T) (S : ySh T B n N L w) (hk : 0 ≤ k ∧ k < L) (kd : N k 192 = 2 ∨ N k 192 = 3) (hp : p < N k 194 ∨ N k 194 + N k 195 ≤ p) : eW T N k v F p = F p := by
  obtain ⟨st, j, f1, f2, f3, f4, ty, o0, on, ol, k4, k3, wf⟩ := (S.nd hk).num W (by omega)
  have c110 : T 458 (N k 198) ≠ 110 := fun z => by
    have := k4.mpr z
    omega
  unfold eW
  by_cases c1 : T 458 (N k 198) = 119
  · rw [if_pos (Or.inl c1)] at ol
    rw [if_pos c1, if_neg (by omega), if_neg (by omega)]
  · rw [if_neg c1]
    by_cases c2 : T 458 (N k 198) = 87
    · rw [if_pos (Or.inr c2)] at ol
      rw [if_pos c2, if_neg (by omega), if_neg (by omega)]
    · rw [if_neg (by omega)] at ol
      rw [if_neg c2, if_neg c110, if_neg (by omega)]
/-- what is written does not depend on what was there -/
theorem eW_i (W : yWT T) (S : ySh T B n N L w) (hk : 0 ≤ k ∧ k < L) (kd : N k 192 = 2 ∨ N k 192 = 3) (hp : N k 194 ≤ p ∧ p < N k 194 + N k 195) : eW T N k v F p = eW T N k v G p := by
  obtain ⟨st, j, f1, f2, f3, f4, ty, o0, on, ol, k4, k3, wf⟩ := (S.nd hk).num W (by omega)
  have c110 : T 458 (N k 198) ≠ 110 := fun z => by
    have := k4.mpr z
    omega
  unfold eW
  by_cases c1 : T 458 (N k 198) = 119
  · rw [if_pos (Or.inl c1)] at ol
    rw [if_pos c1, if_pos c1]
    by_cases d : p = N k 194 + 1
    · rw [if_pos d, if_pos d]
    · rw [if_neg d, if_neg d, if_pos (by omega), if_pos (by omega)]
  · rw [if_neg c1, if_neg c1]
    by_cases c2 : T 458 (N k 198) = 87
    · rw [if_pos (Or.inr c2)] at ol
      rw [if_pos c2, if_pos c2]
      by_cases d : p = N k 194 + 1
      · rw [if_pos d, if_pos d]
      · rw [if_neg d, if_neg d, if_pos (by omega), if_pos (by omega)]
    · rw [if_neg (by omega)] at ol
      rw [if_neg c2, if_neg c2, if_neg c110, if_neg c110, if_pos (by omega), if_pos (by omega)]
theorem eW_comm (W : yWT T) (S : ySh T B n N L w) (hi : 0 ≤ i ∧ i < k) (hk : k < L) (ki : N i 192 = 2 ∨ N i 192 = 3) (kk : N k 192 = 2 ∨ N k 192 = 3) : eW T N k v (eW T N i x F) = eW T N i x (eW T N k v F) := by
  have a := S.apart hi hk (by omega) (by omega)
  have h1 : 0 ≤ i ∧ i < L := by omega
  have h2 : 0 ≤ k ∧ k < L := by omega
  funext p
  by_cases c1 : N i 194 ≤ p ∧ p < N i 194 + N i 195
  · rw [eW_o W S h2 kk (Or.inl (by omega))]
    exact eW_i W S h1 ki c1
  · by_cases c2 : N k 194 ≤ p ∧ p < N k 194 + N k 195
    · rw [eW_o (F := eW T N k v F) W S h1 ki (by omega)]
      exact eW_i W S h2 kk c2
    · rw [eW_o W S h2 kk (by omega), eW_o W S h1 ki (by omega), eW_o W S h1 ki (by omega), eW_o W S h2 kk (by omega)]
/-- a reference's own value is what is there -/
theorem eW_self (W : yWT T) (S : ySh T B n N L w) (hk : 0 ≤ k ∧ k < L) (kd : N k 192 = 3) (h : F (N k 194) = v) : eW T N k v F = F := by
  obtain ⟨st, j, f1, f2, f3, f4, ty, o0, on, ol, k4, k3, wf⟩ := (S.nd hk).num W (by omega)
  have c := k3.mp kd
  funext p
  unfold eW
  rw [if_neg (by omega), if_neg (by omega), if_neg (by omega)]
  by_cases d : p = N k 194
  · rw [if_pos d, d, h]
  · rw [if_neg d]
end
end
