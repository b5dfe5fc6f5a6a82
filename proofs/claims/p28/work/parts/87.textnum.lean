/-! numbers in a row that goes on behind the text -/
theorem mNum_c {Y G : Int → Int} {n : Int} (hY : ∀ p, 0 ≤ p → p < n → Y p = G p) : ∀ (m : Nat) (v p : Int), 0 ≤ p → (mNum G m v p).2 < n → mNum Y m v p = mNum G m v p
  | 0, _, _, _, _ => rfl
  | m + 1, v, p, h0, h => by
    have b := mNum_b G (m + 1) v p
    have e := hY p h0 (by omega)
    unfold mNum at h ⊢
    rw [e]
    by_cases c : 48 ≤ G p ∧ G p ≤ 57
    · rw [if_pos c] at h
      rw [if_pos c, if_pos c]
      exact mNum_c hY m _ _ (by omega) h
    · rw [if_neg c, if_neg c]
