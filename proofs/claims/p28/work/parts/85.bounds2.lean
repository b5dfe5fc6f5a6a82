/-! .. in types and fields -/
section
variable {G : Int → Int} {f st p b : Int} {T : yT}
theorem pa_plain_1 {x : yT × Int × Int} (h : pa_plain G st f T p b = some x) : 2 * (x.1 450 0 - T 450 0) ≤ x.2.1 - p + 1 ∧ 2 * (x.1 451 0 - T 451 0) ≤ x.2.1 - p + 1 ∧ p + 1 ≤ x.2.1 := by
  unfold pa_plain at h
  split at h
  · injection h with h
    rw [← h]
    dsimp only
    omega
  · split at h
    · cases e : pa_cho G (pa_w 464 f (T 451 0 + 1) (pa_w 463 f (T 451 0) T)) (p + 1) with
      | none => rw [e] at h; cases h
      | some y =>
        rw [e] at h
        injection h with h
        rw [← h]
        obtain ⟨k1, k2, k3, k4, k5, k6⟩ := pa_cho_k e
        rw [pa_w_nk (by decide), pa_w_nk (by decide)] at k5
        dsimp only
        rw [k1 450 0 (by decide) (by decide), pa_w_nk (by decide), pa_w_nk (by decide), k5, k2]
        omega
    · split at h
      · split at h
        · cases h
        · injection h with h
          rw [← h]
          dsimp only
          rw [pa_w_nk (by decide), pa_w_nk (by decide), pa_w_nk (by decide), pa_w_nk (by decide)]
          omega
      · split at h
        · cases e : pa_acc G 41 (pa_sum G st f T (p + 1 + 1)) with
          | none => rw [e] at h; cases h
          | some y =>
            rw [e] at h
            injection h with h
            rw [← h]
            obtain ⟨z, e2, rfl, -⟩ := pa_kp.acc e
            have a := pa_sum_1 e2
            have m := (pa_kp.sum e2).2.1.1
            dsimp only
            omega
        · cases h
theorem pa_type_1 {x : yT × Int × Int} (h : pa_type G st f T p b = some x) : 2 * (x.1 450 0 - T 450 0) ≤ x.2.1 - p + 1 ∧ 2 * (x.1 451 0 - T 451 0) ≤ x.2.1 - p + 1 ∧ p + 1 ≤ x.2.1 := by
  unfold pa_type at h
  split at h
  · cases h
  · split at h
    · cases e : pa_names G f (pa_w 458 f 65 T) p with
      | none => rw [e] at h; cases h
      | some y =>
        rw [e] at h
        obtain ⟨n1, n2, n3, n4, n5, n6⟩ := pa_names_k e
        have a0 := n1 450 0 (by decide) (by decide) (by omega)
        rw [pa_w_nk (by decide)] at a0 n3 n5
        have h : (if G y.2 = 91 then pa_cnt G st f y.1 y.2 else some y).map (fun x => (x.1, x.2, b)) = some x := h
        by_cases d : G y.2 = 91
        · rw [if_pos d] at h
          cases e2 : pa_cnt G st f y.1 y.2 with
          | none => rw [e2] at h; cases h
          | some z =>
            rw [e2] at h
            injection h with h
            rw [← h]
            have c := pa_cnt_1 e2
            dsimp only
            omega
        · rw [if_neg d] at h
          injection h with h
          rw [← h]
          dsimp only
          omega
    · have a := pa_plain_1 h
      rw [pa_w_nk (by decide), pa_w_nk (by decide), pa_w_nk (by decide), pa_w_nk (by decide)] at a
      exact a
theorem pa_rel_1 {x : yT × Int} (h : pa_rel G f T p = some x) : p ≤ x.2 := by
  unfold pa_rel at h
  split at h
  · split at h
    · injection h with h
      rw [← h]
      have := (mNum_b G 3 0 (p + 1)).1
      dsimp only
      omega
    · split at h
      · injection h with h
        rw [← h]
        dsimp only
        omega
      · cases h
  · cases h
/-- behind a field the places suffice for its terms and choices -/
theorem pa_field_1 {k : Int} {x : yT × Int × Int} (h : pa_field G st k T p b = some x) : 2 * (x.1 450 0 - T 450 0) ≤ x.2.1 - p ∧ 2 * (x.1 451 0 - T 451 0) ≤ x.2.1 - p ∧ p + 1 ≤ x.2.1 := by
  unfold pa_field at h
  split at h
  · cases e : pa_type G st (8 * st + k) T (p + 1 + 1) b with
    | none => rw [e] at h; cases h
    | some y =>
      rw [e] at h
      obtain ⟨T2, p2, b2⟩ := y
      have h : (if G p2 = 61 then pa_rel G (8 * st + k) (pa_w 467 (8 * st + k) 0 (pa_w 457 (8 * st + k) (G p - 97) T2)) p2 else some (pa_w 467 (8 * st + k) 0 (pa_w 457 (8 * st + k) (G p - 97) T2), p2)).bind (fun y => if G y.2 = 59 then some (pa_w 453 st (y.1 453 st + 1) y.1, y.2 + 1, b2) else none) = some x := h
      have a := pa_type_1 e
      dsimp only at a
      cases eR : (if G p2 = 61 then pa_rel G (8 * st + k) (pa_w 467 (8 * st + k) 0 (pa_w 457 (8 * st + k) (G p - 97) T2)) p2 else some (pa_w 467 (8 * st + k) 0 (pa_w 457 (8 * st + k) (G p - 97) T2), p2)) with
      | none => rw [eR] at h; cases h
      | some z =>
        rw [eR] at h
        have R := pa_R_k eR
        have r0 := R 450 0 (by decide) (by decide)
        have r1 := R 451 0 (by decide) (by decide)
        rw [pa_w_nk (by decide), pa_w_nk (by decide)] at r0 r1
        have pz : p2 ≤ z.2 := by
          split at eR
          · exact pa_rel_1 eR
          · injection eR with eR
            rw [← eR]
            exact Int.le_refl _
        have h : (if G z.2 = 59 then some (pa_w 453 st (z.1 453 st + 1) z.1, z.2 + 1, b2) else none) = some x := h
        split at h
        · injection h with h
          rw [← h]
          dsimp only
          rw [pa_w_nk (by decide), pa_w_nk (by decide)]
          omega
        · cases h
  · cases h
end
