/-! the kind that a type lays -/
section
variable {G : Int → Int} {f st p b : Int} {T : yT}
theorem pa_plain_58 {x : yT × Int × Int} (h : pa_plain G st f T p b = some x) : x.1 458 f = T 458 f := by
  unfold pa_plain at h
  split at h
  · injection h with h
    rw [← h]
  · split at h
    · cases e : pa_cho G (pa_w 464 f (T 451 0 + 1) (pa_w 463 f (T 451 0) T)) (p + 1) with
      | none => rw [e] at h; cases h
      | some y =>
        rw [e] at h
        injection h with h
        rw [← h]
        dsimp only
        rw [(pa_cho_k e).1 458 f (by decide) (by decide), pa_w_nk (by decide), pa_w_nk (by decide)]
    · split at h
      · split at h
        · cases h
        · injection h with h
          rw [← h]
          dsimp only
          rw [pa_w_nk (by decide), pa_w_nk (by decide)]
      · split at h
        · cases e : pa_acc G 41 (pa_sum G st f T (p + 1 + 1)) with
          | none => rw [e] at h; cases h
          | some y =>
            rw [e] at h
            injection h with h
            rw [← h]
            obtain ⟨z, e2, rfl, -⟩ := pa_kp.acc e
            dsimp only
            exact pa_sum_k e2 458 f (by decide) (by decide) (by decide) (by omega)
        · cases h
theorem pa_type_58 {x : yT × Int × Int} (h : pa_type G st f T p b = some x) : x.1 458 f = (if 65 ≤ G p ∧ G p ≤ 90 ∧ G p ≠ 87 then x.1 458 f else G p) ∧ (65 ≤ G p ∧ G p ≤ 90 ∧ G p ≠ 87 → x.1 458 f = 65 ∨ x.1 458 f = 91) := by
  unfold pa_type at h
  split at h
  · cases h
  · by_cases c : 65 ≤ G p ∧ G p ≤ 90 ∧ G p ≠ 87
    · rw [if_pos c] at h
      refine ⟨(if_pos c).symm, fun _ => ?_⟩
      cases e : pa_names G f (pa_w 458 f 65 T) p with
      | none => rw [e] at h; cases h
      | some y =>
        rw [e] at h
        have N := pa_names_k e
        have h : (if G y.2 = 91 then pa_cnt G st f y.1 y.2 else some y).map (fun x => (x.1, x.2, b)) = some x := h
        by_cases d : G y.2 = 91
        · rw [if_pos d] at h
          cases e2 : pa_cnt G st f y.1 y.2 with
          | none => rw [e2] at h; cases h
          | some z =>
            rw [e2] at h
            injection h with h
            rw [← h]
            exact Or.inr (pa_cnt_k e2).1
        · rw [if_neg d] at h
          injection h with h
          rw [← h]
          dsimp only
          left
          rw [N.1 458 f (by decide) (by decide) (by omega), pa_w_eq]
    · rw [if_neg c] at h
      refine ⟨?_, fun z => absurd z c⟩
      rw [if_neg c, pa_plain_58 h, pa_w_nk (by decide), pa_w_eq]
end
