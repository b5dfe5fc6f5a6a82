section
/-! an array with nodes in it has a count -/
section
variable {nm : Int → Int → Int → yO} {rs : Int → Int → Int → Int → Int → Int → yO} {T : yT} {B : yB} {n e st k2 p2 m2 w2 : Int} {V : Int → Int} {l2 : List yN}
theorem yAl_k : ∀ (m : Nat) (k pos made cnt k2 p2 m2 w2 : Int) (l2 : List yN), yAl nm m k pos made cnt = .inr (k2, p2, m2, w2, l2) → k ≤ k2 ∧ (k2 = k → l2 = [])
  | 0, k, pos, made, cnt, k2, p2, m2, w2, l2, h => by
    unfold yAl at h
    cases h
  | m + 1, k, pos, made, cnt, k2, p2, m2, w2, l2, h => by
    unfold yAl at h
    split at h
    · split at h
      · cases h
      · cases h
        exact ⟨Int.le_refl _, fun _ => rfl⟩
    · split at h
      · cases h
        exact ⟨Int.le_refl _, fun _ => rfl⟩
      · split at h
        · cases h
        · rename_i h2
          have := yAl_k m _ _ _ _ _ _ _ _ _ h2
          cases h
          exact ⟨by omega, fun z => by omega⟩
theorem yEn_k : ∀ (m : Nat) (k pos made cnt k2 p2 m2 w2 : Int) (l2 : List yN), yEn B n nm e st m k pos made cnt = .inr (k2, p2, m2, w2, l2) → k ≤ k2 ∧ (k2 = k → l2 = [])
  | 0, k, pos, made, cnt, k2, p2, m2, w2, l2, h => by
    unfold yEn at h
    cases h
  | m + 1, k, pos, made, cnt, k2, p2, m2, w2, l2, h => by
    unfold yEn at h
    split at h
    · cases h
      exact ⟨Int.le_refl _, fun _ => rfl⟩
    · split at h
      · cases h
      · split at h
        · cases h
        · split at h
          · cases h
          · split at h
            · cases h
            · rename_i h2
              have := yEn_k m _ _ _ _ _ _ _ _ _ h2
              cases h
              exact ⟨by omega, fun z => by omega⟩
theorem yAr_k {me f pos made cnt : Int} (h0 : T 465 f = 43 → 0 ≤ yCn T V f) (h : yAr rs T B n V me f pos made cnt = .inr (k2, p2, m2, w2, l2)) : 0 ≤ k2 ∧ (k2 = 0 → l2 = []) := by
  unfold yAr at h
  split at h
  · exact yAl_k _ _ _ _ _ _ _ _ _ _ h
  · split at h
    · exact yEn_k _ _ _ _ _ _ _ _ _ _ h
    · split at h
      · cases h
      · rename_i h2
        cases h
        have c : 0 ≤ yCn T V f := by
          by_cases z : T 465 f = 43
          · exact h0 z
          · unfold yCn
            rw [if_neg z]
            split
            · split <;> decide
            · exact Int.le_refl _
        refine ⟨c, fun z => ?_⟩
        rw [z] at h2
        unfold yCt at h2
        cases h2
        rfl
end
end
