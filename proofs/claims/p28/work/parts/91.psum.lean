/-! what a type lays, as text: sums and counts -/
theorem mTerm_c {Y : Int → Int} {T U : yT} {st k p j p' : Int} (a : U 454 j = T 454 j) (c : ∀ i, 0 ≤ i → i < k → U 457 (8 * st + i) = T 457 (8 * st + i) ∧ U 458 (8 * st + i) = T 458 (8 * st + i)) (h : mTerm Y T st k p j p') : mTerm Y U st k p j p' := by
  unfold mTerm at h ⊢
  rcases h with h | ⟨h1, h2, h3, h4, h5, h6⟩
  · left
    rw [a]
    exact h
  · right
    obtain ⟨c1, c2⟩ := c (-1 - T 454 j) (by omega) h3
    rw [a, c1, c2]
    exact ⟨h1, h2, h3, h4, h5, h6⟩
theorem mTail_c {Y : Int → Int} {T U : yT} {st k : Int} (c : ∀ i, 0 ≤ i → i < k → U 457 (8 * st + i) = T 457 (8 * st + i) ∧ U 458 (8 * st + i) = T 458 (8 * st + i)) : ∀ (m : Nat) (p j : Int), (∀ i, j ≤ i → i < j + m → U 454 i = T 454 i ∧ U 455 i = T 455 i) → mTail Y T st k m p j → mTail Y U st k m p j
  | 0, _, _, _, h => h
  | m + 1, p, j, a, h => by
    obtain ⟨h1, h2, p', h3, h4⟩ := h
    refine ⟨h1, (a j (by omega) (by omega)).2.trans h2, p', mTerm_c (a j (by omega) (by omega)).1 c h3, mTail_c c m p' (j + 1) (fun i i1 i2 => a i (by omega) (by omega)) h4⟩
theorem mSumAt_c {Y : Int → Int} {T U : yT} {st k p j : Int} {m : Nat} (c : ∀ i, 0 ≤ i → i < k → U 457 (8 * st + i) = T 457 (8 * st + i) ∧ U 458 (8 * st + i) = T 458 (8 * st + i)) (a : ∀ i, j ≤ i → i ≤ j + m → U 454 i = T 454 i ∧ U 455 i = T 455 i) (h : mSumAt Y T st k m p j) : mSumAt Y U st k m p j := by
  obtain ⟨h1, p', h2, h3⟩ := h
  exact ⟨(a j (Int.le_refl _) (by omega)).2.trans h1, p', mTerm_c (a j (Int.le_refl _) (by omega)).1 c h2, mTail_c c m p' (j + 1) (fun i i1 i2 => a i (by omega) (by omega)) h3⟩
/-- the terms of a sum that stands as text are what yWF asks -/
theorem mTail_w {Y : Int → Int} {T : yT} {st k : Int} : ∀ (m : Nat) (p j : Int), mTail Y T st k m p j → ∀ i, j ≤ i → i < j + m → T 454 i ≤ 999 ∧ (T 454 i < 0 → -1 - T 454 i < k ∧ mNumr (T 458 (8 * st + (-1 - T 454 i))))
  | 0, _, _, _, i, h1, h2 => by omega
  | m + 1, p, j, h, i, h1, h2 => by
    obtain ⟨g1, g2, p', g3, g4⟩ := h
    by_cases e : i = j
    · subst e
      rcases g3 with ⟨a1, a2, a3, a4⟩ | ⟨a1, a2, a3, a4, a5, a6⟩
      · exact ⟨a3, fun z => by omega⟩
      · exact ⟨by omega, fun _ => ⟨a3, a4⟩⟩
    · exact mTail_w m p' (j + 1) g4 i (by omega) (by omega)
theorem mSumAt_w {Y : Int → Int} {T : yT} {st k p j : Int} {m : Nat} (h : mSumAt Y T st k m p j) : ∀ i, j ≤ i → i ≤ j + m → T 454 i ≤ 999 ∧ (T 454 i < 0 → -1 - T 454 i < k ∧ mNumr (T 458 (8 * st + (-1 - T 454 i)))) := fun i h1 h2 => by
  obtain ⟨g1, p', g3, g4⟩ := h
  by_cases e : i = j
  · subst e
    rcases g3 with ⟨a1, a2, a3, a4⟩ | ⟨a1, a2, a3, a4, a5, a6⟩
    · exact ⟨a3, fun z => by omega⟩
    · exact ⟨by omega, fun _ => ⟨a3, a4⟩⟩
  · exact mTail_w m p' (j + 1) g4 i (by omega) (by omega)
/-- a sum of field f stands at p -/
def qS (Y : Int → Int) (st k f : Int) (T : yT) (p : Int) : Prop := 0 ≤ T 461 f ∧ T 461 f < T 462 f ∧ T 462 f ≤ T 450 0 ∧ mSumAt Y T st k (T 462 f - T 461 f - 1).toNat p (T 461 f)
/-- names of field f stand at D -/
def qN (Y : Int → Int) (n f : Int) (T : yT) (D : Int) : Prop := 0 ≤ T 463 f ∧ T 463 f < T 464 f ∧ T 464 f ≤ T 451 0 ∧ ∀ j, 0 ≤ j → j < T 464 f - T 463 f → D + 2 * j + 1 < n ∧ (65 ≤ Y (D + 2 * j) ∧ Y (D + 2 * j) ≤ 90) ∧ T 456 (T 463 f + j) = Y (D + 2 * j) - 65 ∧ (T 458 f ≠ 114 → (Y (D + 2 * j + 1) = 124 ↔ j + 1 < T 464 f - T 463 f))
section
variable {Y G : Int → Int} {n f st k p b : Int} {T U : yT}
theorem qS_c {q : Int} (h : qS Y st k f T q) (a : ∀ g : Nat, g = 461 ∨ g = 462 → U g f = T g f) (c : T 450 0 ≤ U 450 0) (d : ∀ i, i < T 450 0 → U 454 i = T 454 i ∧ U 455 i = T 455 i) (e : ∀ i, 0 ≤ i → i < k → U 457 (8 * st + i) = T 457 (8 * st + i) ∧ U 458 (8 * st + i) = T 458 (8 * st + i)) : qS Y st k f U q := by
  obtain ⟨h1, h2, h3, h4⟩ := h
  unfold qS
  rw [a 461 (Or.inl rfl), a 462 (Or.inr rfl)]
  exact ⟨h1, h2, by omega, mSumAt_c e (fun i i1 i2 => d i (by omega)) h4⟩
theorem pa_sumL_62 {x : yT × Int} : ∀ (m : Nat) (op : Int) (T : yT) (p : Int), pa_sumL G st f m op T p = some x → x.1 462 f = x.1 450 0 := by
  intro m
  induction m with
  | zero =>
    intro op T p h
    cases h
  | succ m ih =>
    intro op T p h
    unfold pa_sumL at h
    cases e : pa_term G st T p with
    | none => rw [e] at h; cases h
    | some y =>
      rw [e] at h
      have h : (if T 450 0 < 100 then (if G y.2 = 43 ∨ G y.2 = 45 ∨ G y.2 = 42 then pa_sumL G st f m (G y.2) (pa_add f op y.1 T) (y.2 + 1) else some (pa_add f op y.1 T, y.2)) else none) = some x := h
      split at h
      · split at h
        · exact ih _ _ _ h
        · injection h with h
          rw [← h]
          unfold pa_add
          dsimp only
          rw [pa_w_eq, pa_w_nk (by decide), pa_w_eq]
      · cases h
theorem pa_sum_P {x : yT × Int} (hY : ∀ p, 0 ≤ p → p < n → Y p = G p) (hf : f = 8 * st + k) (h : pa_sum G st f T p = some x) (hk : T 453 st = k) (k0 : 0 ≤ k) (p0 : 0 ≤ p) (hx : x.2 < n) (t0 : 0 ≤ T 450 0) : qS Y st k f x.1 p := by
  have a := pa_sumL_t hY hf _ _ _ _ _ h ((pa_w_nk (by decide)).trans hk) k0 p0 hx (by rw [pa_w_nk (by decide)]; exact t0)
  have c := pa_sumL_62 _ _ _ _ h
  have d := pa_sumL_k _ _ _ _ h 461 f (by decide) (by decide) (by decide) (by omega)
  rw [pa_w_eq] at d
  rw [pa_w_nk (by decide)] at a
  obtain ⟨a1, a2, p', a3, a4⟩ := a
  unfold qS
  rw [d, c]
  exact ⟨t0, a2, Int.le_refl _, a1, p', a3, a4⟩
theorem pa_cnt_P {x : yT × Int} (hY : ∀ p, 0 ≤ p → p < n → Y p = G p) (hG : ∀ p, G p ≠ -1 → 0 ≤ p ∧ p < n) (hf : f = 8 * st + k) (h : pa_cnt G st f T p = some x) (hk : T 453 st = k) (k0 : 0 ≤ k) (p0 : 0 ≤ p) (t0 : 0 ≤ T 450 0) : (x.1 465 f = 43 → qS Y st k f x.1 (p + 1)) ∧ (x.1 465 f = 63 → qS Y st k f x.1 (p + 1 + 1)) ∧ (x.1 465 f = 33 → p + 1 + 1 < n ∧ (mNum Y 3 0 (p + 1 + 1)).1 = x.1 466 f) := by
  have k5 := (pa_cnt_k h).2.1
  unfold pa_cnt at h
  by_cases c1 : G (p + 1) = 42
  · rw [if_pos (Or.inl c1), c1] at k5
    rw [k5]
    exact ⟨fun z => absurd z (by decide), fun z => absurd z (by decide), fun z => absurd z (by decide)⟩
  · rw [if_neg c1] at h
    by_cases c2 : G (p + 1) = 33
    · rw [if_pos (Or.inr (Or.inl c2)), c2] at k5
      rw [if_pos c2] at h
      rw [k5]
      refine ⟨fun z => absurd z (by decide), fun z => absurd z (by decide), fun _ => ?_⟩
      split at h
      · cases h
      · rename_i c3
        obtain ⟨z, e, rfl, g⟩ := pa_kp.acc h
        injection e with e
        have e1 : z.1 = pa_w 466 f (pa_int G (p + 1 + 1)).1 (pa_w 465 f 33 (pa_w 465 f 43 (pa_w 458 f 91 T))) := by rw [← e]
        have e2 : z.2 = (pa_int G (p + 1 + 1)).2 := by rw [← e]
        have l := hG z.2 (by omega)
        have b1 := pa_int_1 (G := G) (p := p + 1 + 1)
        dsimp only
        rw [e1, pa_w_eq]
        refine ⟨by omega, ?_⟩
        rw [e2] at l
        unfold pa_int at c3 l ⊢
        by_cases d : 48 ≤ G (p + 1 + 1) ∧ G (p + 1 + 1) ≤ 57
        · rw [if_pos d] at l
          rw [if_pos d, mNum_c hY 3 0 (p + 1 + 1) (by omega) l.2]
        · rw [if_neg d] at c3
          exact absurd rfl c3
    · rw [if_neg c2] at h
      by_cases c3 : G (p + 1) = 63
      · rw [if_pos (Or.inr (Or.inr c3)), c3] at k5
        rw [if_pos c3] at h
        rw [k5]
        refine ⟨fun z => absurd z (by decide), fun _ => ?_, fun z => absurd z (by decide)⟩
        obtain ⟨z, e, rfl, g⟩ := pa_kp.acc h
        have l := hG z.2 (by omega)
        have P := pa_sum_P hY hf e (by rw [pa_w_nk (by decide), pa_w_nk (by decide), pa_w_nk (by decide)]; exact hk) k0 (by omega) l.2 (by rw [pa_w_nk (by decide), pa_w_nk (by decide), pa_w_nk (by decide)]; exact t0)
        exact P
      · rw [if_neg (by omega)] at k5
        rw [if_neg c3] at h
        rw [k5]
        refine ⟨fun _ => ?_, fun z => absurd z (by decide), fun z => absurd z (by decide)⟩
        obtain ⟨z, e, rfl, g⟩ := pa_kp.acc h
        have l := hG z.2 (by omega)
        have P := pa_sum_P hY hf e (by rw [pa_w_nk (by decide), pa_w_nk (by decide)]; exact hk) k0 (by omega) l.2 (by rw [pa_w_nk (by decide), pa_w_nk (by decide)]; exact t0)
        exact P
end
