/-! the reference's parser: fields by name, terms, sums -/
section
variable {t st n N p : Int} {X : Int → Int} {T : yT} {s u : zS} {o : Option Int}
theorem pa_term_b {x : Int × Int} (hX : pa_X X n) (o4 : 0 ≤ T 453 st) (o5 : ∀ k, 0 ≤ k → k < T 453 st → 0 ≤ T 457 (8 * st + k)) (h : pa_term (pa_sg X n) st T p = some x) : (0 ≤ p ∧ p < n) ∧ p + 1 ≤ x.2 ∧ x.2 ≤ n := by
  unfold pa_term at h
  by_cases c : 48 ≤ pa_sg X n p ∧ pa_sg X n p ≤ 57
  · have l := pa_lt (X := X) (n := n) (p := p) (by omega)
    rw [if_pos c] at h
    injection h with h
    refine ⟨l, ?_, ?_⟩
    · rw [← h, mNum, if_pos c]
      exact (mNum_b _ 2 _ _).1
    · rw [← h]
      exact mNum_le _ (fun p hp => pa_end hp) 3 0 p (by omega)
  · rw [if_neg c] at h
    by_cases d : pa_pl T st (pa_sg X n p - 97) = -1
    · rw [if_pos d] at h
      cases h
    · rw [if_neg d] at h
      rcases pa_pl_b (T := T) (st := st) (c := pa_sg X n p - 97) o4 with e | ⟨e1, e2, e3⟩
      · exact absurd e d
      · have := o5 _ e1 e2
        have l := pa_lt (X := X) (n := n) (p := p) (by omega)
        split at h
        · injection h with h
          rw [← h]
          exact ⟨l, Int.le_refl _, by dsimp only; omega⟩
        · cases h
theorem pa_kp.pl {f c : Int} {U : yT} (h : pa_kp f T U) : pa_pl U st c = pa_pl T st c := by
  unfold pa_pl
  rw [h.1 453 st (by omega), show (fun k => U 457 (8 * st + k)) = fun k => T 457 (8 * st + k) from funext fun k => h.1 457 _ (by omega)]
theorem rT.kp {f : Int} {U : yT} (h : rT t st T s) (a : pa_kp f T U) (hf : f = 8 * st + T 453 st) : rT t st U s := by
  obtain ⟨h1, h2, h3, h4, h5⟩ := h
  have e := a.1 453 st (by omega)
  refine ⟨h1, h2.trans e.symm, by rw [e]; exact h3, fun k k1 k2 => ?_, fun i j => ?_⟩
  · rw [e] at k2
    rw [a.1 457 _ (by omega), a.1 458 _ (by omega)]
    exact h4 k k1 k2
  · rw [e, a.1 457 _ (by omega), a.1 457 _ (by omega)]
    exact h5 i j
end
