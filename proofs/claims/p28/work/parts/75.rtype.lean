/-! the reference's parser: types -/
section
variable {G : Int → Int} {f st p b : Int} {T U : yT}
theorem pa_cho_k {x : yT × Int} (h : pa_cho G T p = some x) : (∀ (g : Nat) (i : Int), g ≠ 451 → g ≠ 456 → x.1 g i = T g i) ∧ x.2 = p + 1 ∧ (65 ≤ G p ∧ G p ≤ 90 ∧ G p ≠ 87) ∧ T 451 0 < 100 ∧ x.1 451 0 = T 451 0 + 1 ∧ x.1 456 (T 451 0) = G p - 65 := by
  unfold pa_cho at h
  split at h
  · rename_i c
    injection h with h
    rw [← h]
    refine ⟨fun g i g1 g2 => ?_, rfl, c.1, c.2, ?_, ?_⟩
    · dsimp only
      rw [pa_w_nk g1, pa_w_nk g2]
    · dsimp only
      rw [pa_w_eq]
    · dsimp only
      rw [pa_w_nk (by decide), pa_w_eq]
  · cases h
theorem pa_more_k {x : yT × Int} : ∀ (m : Nat) (T : yT) (p : Int), pa_more G f m T p = some x → (∀ (g : Nat) (i : Int), g ≠ 451 → g ≠ 456 → ¬ (g = 464 ∧ i = f) → x.1 g i = T g i) ∧ T 451 0 ≤ x.1 451 0 ∧ x.1 464 f = x.1 451 0 ∧ x.2 = p + 2 * (x.1 451 0 - T 451 0) ∧ (∀ i, i < T 451 0 → x.1 456 i = T 456 i) ∧ ∀ j, 0 ≤ j → j < x.1 451 0 - T 451 0 → G (p + 2 * j) = 124 ∧ (65 ≤ G (p + 2 * j + 1) ∧ G (p + 2 * j + 1) ≤ 90) ∧ x.1 456 (T 451 0 + j) = G (p + 2 * j + 1) - 65 := by
  intro m
  induction m with
  | zero =>
    intro T p h
    unfold pa_more at h
    injection h with h
    rw [← h]
    refine ⟨fun g i g1 g2 g3 => if_neg g3, ?_, ?_, ?_, fun i h1 => ?_, fun j h1 h2 => ?_⟩
    · dsimp only
      rw [pa_w_nk (by decide)]
      exact Int.le_refl _
    · dsimp only
      rw [pa_w_eq, pa_w_nk (by decide)]
    · dsimp only
      rw [pa_w_nk (by decide)]
      omega
    · dsimp only
      rw [pa_w_nk (by decide)]
    · dsimp only at h2
      rw [pa_w_nk (by decide)] at h2
      omega
  | succ m ih =>
    intro T p h
    unfold pa_more at h
    split at h
    · rename_i c
      cases e : pa_cho G T (p + 1) with
      | none => rw [e] at h; cases h
      | some y =>
        rw [e] at h
        obtain ⟨k1, k2, k3, k4, k5, k6⟩ := pa_cho_k e
        obtain ⟨i1, i2, i3, i4, i5, i6⟩ := ih y.1 y.2 h
        have K := pa_kp.cho (f := 0) e
        refine ⟨fun g i g1 g2 g3 => (i1 g i g1 g2 g3).trans (k1 g i g1 g2), by omega, i3, by omega, fun i h1 => (i5 i (by omega)).trans (K.2.2.2 i h1), fun j h1 h2 => ?_⟩
        by_cases z : j = 0
        · rw [z, show p + 2 * 0 = p by omega, Int.add_zero, i5 _ (by omega), k6]
          exact ⟨c, ⟨k3.1, k3.2.1⟩, rfl⟩
        · have := i6 (j - 1) (by omega) (by omega)
          rw [k2, k5, show p + 1 + 1 + 2 * (j - 1) = p + 2 * j by omega, show T 451 0 + 1 + (j - 1) = T 451 0 + j by omega] at this
          exact this
    · injection h with h
      rw [← h]
      refine ⟨fun g i g1 g2 g3 => if_neg g3, ?_, ?_, ?_, fun i h1 => ?_, fun j h1 h2 => ?_⟩
      · dsimp only
        rw [pa_w_nk (by decide)]
        exact Int.le_refl _
      · dsimp only
        rw [pa_w_eq, pa_w_nk (by decide)]
      · dsimp only
        rw [pa_w_nk (by decide)]
        omega
      · dsimp only
        rw [pa_w_nk (by decide)]
      · dsimp only at h2
        rw [pa_w_nk (by decide)] at h2
        omega
/-- names: letters at p, p + 2 .., bars between -/
theorem pa_names_k {x : yT × Int} (h : pa_names G f T p = some x) : (∀ (g : Nat) (i : Int), g ≠ 451 → g ≠ 456 → ¬ ((g = 463 ∨ g = 464) ∧ i = f) → x.1 g i = T g i) ∧ x.1 463 f = T 451 0 ∧ T 451 0 < x.1 451 0 ∧ x.1 464 f = x.1 451 0 ∧ x.2 = p + 2 * (x.1 451 0 - T 451 0) - 1 ∧ ∀ j, 0 ≤ j → j < x.1 451 0 - T 451 0 → (65 ≤ G (p + 2 * j) ∧ G (p + 2 * j) ≤ 90) ∧ x.1 456 (T 451 0 + j) = G (p + 2 * j) - 65 ∧ (0 < j → G (p + 2 * j - 1) = 124) := by
  unfold pa_names at h
  cases e : pa_cho G (pa_w 463 f (T 451 0) T) p with
  | none => rw [e] at h; cases h
  | some y =>
    rw [e] at h
    obtain ⟨k1, k2, k3, k4, k5, k6⟩ := pa_cho_k e
    obtain ⟨i1, i2, i3, i4, i5, i6⟩ := pa_more_k _ _ _ h
    rw [pa_w_nk (by decide)] at k4 k5 k6
    refine ⟨fun g i g1 g2 g3 => ?_, ?_, by omega, i3, by omega, fun j h1 h2 => ?_⟩
    · rw [i1 g i g1 g2 (by omega), k1 g i g1 g2]
      exact if_neg (by omega)
    · rw [i1 463 f (by decide) (by decide) (by omega), k1 463 f (by decide) (by decide), pa_w_eq]
    · by_cases z : j = 0
      · rw [z, show p + 2 * 0 = p by omega, Int.add_zero, i5 _ (by omega), k6]
        exact ⟨⟨k3.1, k3.2.1⟩, rfl, fun z => absurd z (by decide)⟩
      · have := i6 (j - 1) (by omega) (by omega)
        rw [k2, k5, show p + 1 + 2 * (j - 1) + 1 = p + 2 * j by omega, show p + 1 + 2 * (j - 1) = p + 2 * j - 1 by omega, show T 451 0 + 1 + (j - 1) = T 451 0 + j by omega] at this
        exact ⟨this.2.1, this.2.2, fun _ => this.1⟩
theorem pa_add_k {op v : Int} : ∀ (g : Nat) (i : Int), g ≠ 450 → g ≠ 454 → g ≠ 455 → ¬ (g = 462 ∧ i = f) → pa_add f op v T g i = T g i := fun g i g1 g2 g3 g4 => by
  unfold pa_add
  rw [show ∀ (U : yT) (v : Int), pa_w 462 f v U g i = U g i from fun U v => if_neg g4, pa_w_nk g1, pa_w_nk g2, pa_w_nk g3]
theorem pa_sumL_k {x : yT × Int} : ∀ (m : Nat) (op : Int) (T : yT) (p : Int), pa_sumL G st f m op T p = some x → ∀ (g : Nat) (i : Int), g ≠ 450 → g ≠ 454 → g ≠ 455 → ¬ (g = 462 ∧ i = f) → x.1 g i = T g i := by
  intro m
  induction m with
  | zero =>
    intro op T p h
    cases h
  | succ m ih =>
    intro op T p h g i g1 g2 g3 g4
    unfold pa_sumL at h
    cases e : pa_term G st T p with
    | none => rw [e] at h; cases h
    | some y =>
      rw [e] at h
      dsimp only [Option.bind] at h
      split at h
      · split at h
        · rw [ih _ _ _ h g i g1 g2 g3 g4, pa_add_k g i g1 g2 g3 g4]
        · injection h with h
          rw [← h]
          exact pa_add_k g i g1 g2 g3 g4
      · cases h
theorem pa_sum_k {x : yT × Int} (h : pa_sum G st f T p = some x) : ∀ (g : Nat) (i : Int), g ≠ 450 → g ≠ 454 → g ≠ 455 → ¬ ((g = 461 ∨ g = 462) ∧ i = f) → x.1 g i = T g i := fun g i g1 g2 g3 g4 => by
  rw [pa_sumL_k _ _ _ _ h g i g1 g2 g3 (by omega)]
  exact if_neg (by omega)
/-- a count's tables -/
theorem pa_cnt_k {x : yT × Int} (h : pa_cnt G st f T p = some x) : x.1 458 f = 91 ∧ x.1 465 f = (if G (p + 1) = 42 ∨ G (p + 1) = 33 ∨ G (p + 1) = 63 then G (p + 1) else 43) ∧ ∀ (g : Nat) (i : Int), g ≠ 450 → g ≠ 454 → g ≠ 455 → ¬ ((g = 458 ∨ g = 461 ∨ g = 462 ∨ g = 465 ∨ g = 466) ∧ i = f) → x.1 g i = T g i := by
  have w : ∀ (a b : Nat) (v u : Int) (g : Nat) (i : Int), (a = 458 ∨ a = 465 ∨ a = 466) → ¬ ((g = 458 ∨ g = 461 ∨ g = 462 ∨ g = 465 ∨ g = 466) ∧ i = f) → ∀ U : yT, pa_w a f v U g i = U g i := fun a b v u g i h1 h2 U => if_neg (by omega)
  unfold pa_cnt at h
  split at h
  · rename_i c
    obtain ⟨z, e, rfl, -⟩ := pa_kp.acc h
    injection e with e
    rw [← e]
    dsimp only
    refine ⟨?_, ?_, fun g i g1 g2 g3 g4 => ?_⟩
    · rw [pa_w_nk (by decide), pa_w_nk (by decide), pa_w_eq]
    · rw [pa_w_eq, if_pos (Or.inl c), c]
    · rw [w 465 0 _ 0 g i (by decide) g4, w 465 0 _ 0 g i (by decide) g4, w 458 0 _ 0 g i (by decide) g4]
  · split at h
    · rename_i c0 c
      split at h
      · cases h
      · obtain ⟨z, e, rfl, -⟩ := pa_kp.acc h
        injection e with e
        rw [← e]
        dsimp only
        refine ⟨?_, ?_, fun g i g1 g2 g3 g4 => ?_⟩
        · rw [pa_w_nk (by decide), pa_w_nk (by decide), pa_w_nk (by decide), pa_w_eq]
        · rw [pa_w_nk (by decide), pa_w_eq, if_pos (Or.inr (Or.inl c)), c]
        · rw [w 466 0 _ 0 g i (by decide) g4, w 465 0 _ 0 g i (by decide) g4, w 465 0 _ 0 g i (by decide) g4, w 458 0 _ 0 g i (by decide) g4]
    · split at h
      · rename_i c0 c1 c
        obtain ⟨z, e, rfl, -⟩ := pa_kp.acc h
        have k := pa_sum_k e
        dsimp only
        refine ⟨?_, ?_, fun g i g1 g2 g3 g4 => ?_⟩
        · rw [k 458 f (by decide) (by decide) (by decide) (by omega), pa_w_nk (by decide), pa_w_nk (by decide), pa_w_eq]
        · rw [k 465 f (by decide) (by decide) (by decide) (by omega), pa_w_eq, if_pos (Or.inr (Or.inr c)), c]
        · rw [k g i g1 g2 g3 (by omega), w 465 0 _ 0 g i (by decide) g4, w 465 0 _ 0 g i (by decide) g4, w 458 0 _ 0 g i (by decide) g4]
      · rename_i c0 c1 c
        obtain ⟨z, e, rfl, -⟩ := pa_kp.acc h
        have k := pa_sum_k e
        dsimp only
        refine ⟨?_, ?_, fun g i g1 g2 g3 g4 => ?_⟩
        · rw [k 458 f (by decide) (by decide) (by decide) (by omega), pa_w_nk (by decide), pa_w_eq]
        · rw [k 465 f (by decide) (by decide) (by decide) (by omega), pa_w_eq, if_neg (by omega)]
        · rw [k g i g1 g2 g3 (by omega), w 465 0 _ 0 g i (by decide) g4, w 458 0 _ 0 g i (by decide) g4]
end
