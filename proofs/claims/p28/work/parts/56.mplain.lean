/-! the reference's machine: a field without structures, whole -/
section
variable {t n : Int} {T : yT} {B : yB} {E : yE} {K J pos made cnt st k me dd g ln v bt : Int} {s u w : zS}
/-- numbers that are known are not below 0 -/
def mOkN (T : yT) (E : yE) (st k : Int) : Prop := ∀ i, 0 ≤ i → i < k → mNumr (T 458 (8 * st + i)) → 0 ≤ E 330 i
theorem yPl_n {V : Int → Int} (W : yWF T st k) (hn : n ≤ 160) (hB : ∀ i, 0 ≤ i → i < n → 0 ≤ B i ∧ B i ≤ 255) (hp : 0 ≤ pos) (hN : mNumr (T 458 (8 * st + k))) {x : Int × Int} (h : yPl T B n V (8 * st + k) pos = .inr x) : 0 ≤ x.2 := by
  have hw := W.2.2.2.2.2.1
  unfold mNumr at hN
  clear W
  unfold yPl at h
  rw [if_neg (by omega), if_neg (by omega)] at h
  by_cases h3 : T 458 (8 * st + k) = 110
  · rw [if_pos h3] at h
    split at h
    · cases h
    · cases h
      have a := hw h3
      exact (zand_m (by omega)).1
  · rw [if_neg h3] at h
    by_cases h4 : T 459 (8 * st + k) = 16
    · simp only [if_pos h4] at h
      by_cases h5 : n < pos + 2
      · rw [if_pos h5] at h
        cases h
      · rw [if_neg h5] at h
        have a := hB pos hp (by omega)
        have b := hB (pos + 1) (by omega) (by omega)
        have hv : 0 ≤ (if T 458 (8 * st + k) = 87 then 256 * B pos + B (pos + 1) else B pos + 256 * B (pos + 1)) := by split <;> omega
        generalize (if T 458 (8 * st + k) = 87 then 256 * B pos + B (pos + 1) else B pos + 256 * B (pos + 1)) = vv at h hv
        split at h
        · cases h
        · cases h
          exact hv
    · simp only [if_neg h4] at h
      by_cases h5 : n < pos + 1
      · rw [if_pos h5] at h
        cases h
      · rw [if_neg h5] at h
        have a := hB pos hp (by omega)
        split at h
        · cases h
        · cases h
          exact a.1
theorem yBit_s (hk : 0 ≤ k) : yBit T st (k + 1).toNat = if T 458 (8 * st + k) = 110 then (if yBit T st k.toNat + T 459 (8 * st + k) = 8 then 0 else yBit T st k.toNat + T 459 (8 * st + k)) else 0 := by
  obtain ⟨m, rfl⟩ := Int.eq_ofNat_of_zero_le hk
  rw [show ((m : Int) + 1).toNat = m + 1 by omega]
  rfl
end
