/-! how many terms and choices a text of so many signs makes -/
section
variable {G : Int → Int} {f st p b : Int} {T : yT}
theorem pa_term_1 {x : Int × Int} (h : pa_term G st T p = some x) : p + 1 ≤ x.2 := by
  unfold pa_term at h
  split at h
  · rename_i c
    injection h with h
    rw [← h, mNum, if_pos c]
    exact (mNum_b G 2 _ _).1
  · split at h
    · cases h
    · split at h
      · injection h with h
        rw [← h]
        exact Int.le_refl _
      · cases h
theorem pa_sumL_1 {x : yT × Int} : ∀ (m : Nat) (op : Int) (T : yT) (p : Int), pa_sumL G st f m op T p = some x → 2 * (x.1 450 0 - T 450 0) ≤ x.2 - p + 1 := by
  intro m
  induction m with
  | zero =>
    intro op T p h
    cases h
  | succ m ih =>
    intro op T p h
    unfold pa_sumL at h
    cases e : pa_term G st T p with
    | none => rw [e] at h; cases h
    | some y =>
      rw [e] at h
      have b := pa_term_1 e
      have a4 : pa_add f op y.1 T 450 0 = T 450 0 + 1 := by
        unfold pa_add
        rw [pa_w_nk (by decide), pa_w_eq]
      dsimp only [Option.bind] at h
      split at h
      · split at h
        · have := ih _ _ _ h
          omega
        · injection h with h
          rw [← h]
          dsimp only
          omega
      · cases h
theorem pa_sum_1 {x : yT × Int} (h : pa_sum G st f T p = some x) : 2 * (x.1 450 0 - T 450 0) ≤ x.2 - p + 1 ∧ x.1 451 0 = T 451 0 := by
  have a := pa_sumL_1 _ _ _ _ h
  rw [pa_w_nk (by decide)] at a
  exact ⟨a, pa_sum_k h 451 0 (by decide) (by decide) (by decide) (by omega)⟩
theorem pa_int_1 : p ≤ (pa_int G p).2 := by
  unfold pa_int
  split
  · exact (mNum_b G 3 0 p).1
  · exact Int.le_refl _
theorem pa_cnt_1 {x : yT × Int} (h : pa_cnt G st f T p = some x) : 2 * (x.1 450 0 - T 450 0) ≤ x.2 - p ∧ x.1 451 0 = T 451 0 ∧ p + 1 ≤ x.2 := by
  have k := (pa_cnt_k h).2.2
  refine ⟨?_, k 451 0 (by decide) (by decide) (by decide) (by omega), ?_⟩
  · unfold pa_cnt at h
    split at h
    · obtain ⟨z, e, rfl, -⟩ := pa_kp.acc h
      injection e with e
      rw [← e]
      dsimp only
      rw [pa_w_nk (by decide), pa_w_nk (by decide), pa_w_nk (by decide)]
      omega
    · split at h
      · split at h
        · cases h
        · obtain ⟨z, e, rfl, -⟩ := pa_kp.acc h
          injection e with e
          rw [← e]
          dsimp only
          have := pa_int_1 (G := G) (p := p + 1 + 1)
          rw [pa_w_nk (by decide), pa_w_nk (by decide), pa_w_nk (by decide), pa_w_nk (by decide)]
          omega
      · split at h
        · obtain ⟨z, e, rfl, -⟩ := pa_kp.acc h
          have := (pa_sum_1 e).1
          rw [pa_w_nk (by decide), pa_w_nk (by decide), pa_w_nk (by decide)] at this
          dsimp only
          omega
        · obtain ⟨z, e, rfl, -⟩ := pa_kp.acc h
          have := (pa_sum_1 e).1
          rw [pa_w_nk (by decide), pa_w_nk (by decide)] at this
          dsimp only
          omega
  · unfold pa_cnt at h
    split at h
    · obtain ⟨z, e, rfl, -⟩ := pa_kp.acc h
      injection e with e
      rw [← e]
      dsimp only
      omega
    · split at h
      · split at h
        · cases h
        · obtain ⟨z, e, rfl, -⟩ := pa_kp.acc h
          injection e with e
          rw [← e]
          dsimp only
          have := pa_int_1 (G := G) (p := p + 1 + 1)
          omega
      · split at h
        · obtain ⟨z, e, rfl, -⟩ := pa_kp.acc h
          have := (pa_sum_1 e).1
          have m := (pa_kp.sum e).2.1.1
          dsimp only
          omega
        · obtain ⟨z, e, rfl, -⟩ := pa_kp.acc h
          have := (pa_sum_1 e).1
          have m := (pa_kp.sum e).2.1.1
          dsimp only
          omega
end
