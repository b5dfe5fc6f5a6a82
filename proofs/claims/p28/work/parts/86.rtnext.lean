/-! the reference's tables behind a good field -/
section
variable {t st p b w f : Int} {G : Int → Int} {T : yT} {s u : zS}
theorem pa_ix_no {g : Int → Int} {c : Int} : ∀ (m : Nat) (k : Int), 0 ≤ k → pa_ix g c m k = -1 → ∀ i, k ≤ i → i < k + m → g i ≠ c := by
  intro m
  induction m with
  | zero =>
    intro k h0 h i i1 i2
    omega
  | succ m ih =>
    intro k h0 h i i1 i2
    unfold pa_ix at h
    by_cases c1 : g k = c
    · rw [if_pos c1] at h
      omega
    · rw [if_neg c1] at h
      by_cases e : i = k
      · rw [e]
        exact c1
      · exact ih (k + 1) (by omega) h i (by omega) (by omega)
theorem rT.nx {x : yT × Int × Int} (hT : rT t st T s) (hf : f = 8 * st + T 453 st) (hw : w = 48 * t + f) (h8 : T 453 st < 8) (F : rkg w (6 * t + st) s u) (e85 : u.1 585 0 (6 * t + st) = T 453 st + 1) (e86 : u.1 586 0 w = G p) (h : pa_field G st (T 453 st) T p b = some x) (R : rFF w G st f T (p + 1 + 1) b x.1 u) : rT t st x.1 u := by
  obtain ⟨h1, h2, h3, h4, h5⟩ := hT
  have K := pa_field_k h
  obtain ⟨n1, n2, n3, n4⟩ := pa_field_n h
  obtain ⟨⟨V, r1, r2⟩, -⟩ := R
  have un : ∀ i, 0 ≤ i → i < T 453 st → T 457 (8 * st + i) ≠ G p - 97 := fun i i1 i2 => pa_ix_no (g := fun k => T 457 (8 * st + k)) _ 0 (by decide) n4 i i1 (by omega)
  refine ⟨h1, by rw [e85, K.2.2.2], by rw [K.2.2.2]; omega, fun k k1 k2 => ?_, fun i j i1 i2 j1 j2 e => ?_⟩
  · rw [K.2.2.2] at k2
    by_cases e : k = T 453 st
    · subst e
      rw [show 48 * t + (8 * st + T 453 st) = w by omega, e86, n1, r1.1, r2 458 f (by decide) (by decide) (by decide) (by decide) (by decide) |>.symm, hf]
      exact ⟨by omega, rfl, by omega, by omega⟩
    · rw [F.1 586 0 _ (by omega), F.1 587 0 _ (by omega), K.1 457 _ (by omega), K.1 458 _ (by omega)]
      exact h4 k k1 (by omega)
  · rw [K.2.2.2] at i2 j2
    by_cases ei : i = T 453 st
    · by_cases ej : j = T 453 st
      · omega
      · rw [ei, n1, K.1 457 _ (by omega)] at e
        exact absurd e.symm (un j j1 (by omega))
    · by_cases ej : j = T 453 st
      · rw [ej, n1, K.1 457 _ (by omega)] at e
        exact absurd e (un i i1 (by omega))
      · rw [K.1 457 _ (by omega), K.1 457 _ (by omega)] at e
        exact h5 i j i1 (by omega) j1 (by omega) e
end
