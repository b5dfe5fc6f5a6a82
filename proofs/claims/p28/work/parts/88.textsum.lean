/-! sums as text, from what the parser lays -/
theorem mNum_3 {G : Int → Int} {p : Int} : (mNum G 3 0 p).1 ≤ 999 := by
  have a1 : ∀ v p, v ≤ 99 → (mNum G 1 v p).1 ≤ 999 := fun v p h => by
    unfold mNum mNum
    split <;> (dsimp only; omega)
  have a2 : ∀ v p, v ≤ 9 → (mNum G 2 v p).1 ≤ 999 := fun v p h => by
    unfold mNum
    split
    · exact a1 _ _ (by omega)
    · dsimp only
      omega
  unfold mNum
  split
  · exact a2 _ _ (by omega)
  · dsimp only
    omega
section
variable {Y G : Int → Int} {n f st p : Int} {T : yT}
theorem pa_sumL_t {k : Int} (hY : ∀ p, 0 ≤ p → p < n → Y p = G p) (hf : f = 8 * st + k) : ∀ (m : Nat) (op : Int) (T : yT) (p : Int) (x : yT × Int), pa_sumL G st f m op T p = some x → T 453 st = k → 0 ≤ k → 0 ≤ p → x.2 < n → 0 ≤ T 450 0 →
    x.1 455 (T 450 0) = op ∧ T 450 0 < x.1 450 0 ∧ ∃ p', mTerm Y x.1 st k p (T 450 0) p' ∧ mTail Y x.1 st k (x.1 450 0 - T 450 0 - 1).toNat p' (T 450 0 + 1) := by
  intro m
  induction m with
  | zero =>
    intro op T p x h
    cases h
  | succ m ih =>
    intro op T p x h hk k0 p0 hx t0
    have KX := pa_sumL_k _ _ _ _ h
    have KP := pa_kp.sumL _ _ _ _ h
    unfold pa_sumL at h
    cases e : pa_term G st T p with
    | none => rw [e] at h; cases h
    | some y =>
      rw [e] at h
      have y1 := pa_term_1 e
      have h : (if T 450 0 < 100 then (if G y.2 = 43 ∨ G y.2 = 45 ∨ G y.2 = 42 then pa_sumL G st f m (G y.2) (pa_add f op y.1 T) (y.2 + 1) else some (pa_add f op y.1 T, y.2)) else none) = some x := h
      by_cases c0 : T 450 0 < 100
      · rw [if_pos c0] at h
        have a0 : pa_add f op y.1 T 450 0 = T 450 0 + 1 := by
          unfold pa_add
          rw [pa_w_nk (by decide), pa_w_eq]
        have a4 : pa_add f op y.1 T 454 (T 450 0) = y.1 := by
          unfold pa_add
          rw [pa_w_nk (by decide), pa_w_nk (by decide), pa_w_eq]
        have a5 : pa_add f op y.1 T 455 (T 450 0) = op := by
          unfold pa_add
          rw [pa_w_nk (by decide), pa_w_nk (by decide), pa_w_nk (by decide), pa_w_eq]
        have a53 : pa_add f op y.1 T 453 st = k := (pa_add_k 453 st (by decide) (by decide) (by decide) (by omega)).trans hk
        -- the term, once its number and its end are known
        have tm : x.1 454 (T 450 0) = y.1 → y.2 < n → mTerm Y x.1 st k p (T 450 0) y.2 := fun g1 g2 => by
          unfold mTerm
          rw [g1, hY p p0 (by omega)]
          unfold pa_term at e
          by_cases d : 48 ≤ G p ∧ G p ≤ 57
          · rw [if_pos d] at e
            injection e with e
            have v9 := mNum_3 (G := G) (p := p)
            have v0 := mNum_p G 3 0 p (by decide)
            refine Or.inl ⟨d, by rw [← e]; exact v0, by rw [← e]; exact v9, ?_⟩
            rw [mNum_c hY 3 0 p p0 (by rw [e]; exact g2), e]
          · rw [if_neg d] at e
            by_cases d2 : pa_pl T st (G p - 97) = -1
            · rw [if_pos d2] at e
              cases e
            · rw [if_neg d2] at e
              split at e
              · rename_i d3
                injection e with e
                rcases pa_pl_b (T := T) (st := st) (c := G p - 97) (by omega) with z | ⟨z1, z2, z3⟩
                · exact absurd z d2
                · have e1 : y.1 = -1 - pa_pl T st (G p - 97) := by rw [← e]
                  have e2 : y.2 = p + 1 := by rw [← e]
                  refine Or.inr ⟨d, by omega, by omega, ?_, ?_, e2⟩
                  · rw [e1, show -1 - (-1 - pa_pl T st (G p - 97)) = pa_pl T st (G p - 97) by omega, KP.1 458 _ (by omega)]
                    exact d3
                  · rw [e1, show -1 - (-1 - pa_pl T st (G p - 97)) = pa_pl T st (G p - 97) by omega, KP.1 457 _ (by omega), z3]
                    omega
              · cases e
        by_cases c : G y.2 = 43 ∨ G y.2 = 45 ∨ G y.2 = 42
        · rw [if_pos c] at h
          have KP2 := pa_kp.sumL _ _ _ _ h
          have b2 := pa_sumL_1 _ _ _ _ h
          obtain ⟨i1, i2, p', i3, i4⟩ := ih _ _ _ _ h a53 k0 (by omega) hx (by omega)
          rw [a0] at i1 i2 i3 i4 b2
          have lt := KP2.2.1.2 (T 450 0) (by omega)
          have yl : y.2 < n := by omega
          refine ⟨lt.2.trans a5, by omega, y.2, tm (lt.1.trans a4) yl, ?_⟩
          rw [show (x.1 450 0 - T 450 0 - 1).toNat = (x.1 450 0 - (T 450 0 + 1) - 1).toNat + 1 by omega]
          unfold mTail
          rw [hY y.2 (by omega) yl]
          exact ⟨c, i1, p', i3, i4⟩
        · rw [if_neg c] at h
          injection h with h
          have e1 : x.1 = pa_add f op y.1 T := by rw [← h]
          have e2 : x.2 = y.2 := by rw [← h]
          refine ⟨by rw [e1, a5], by rw [e1, a0]; omega, y.2, tm (by rw [e1, a4]) (by omega), ?_⟩
          rw [show (x.1 450 0 - T 450 0 - 1).toNat = 0 by rw [e1, a0]; omega]
          unfold mTail
          rw [hY y.2 (by omega) (by omega)]
          exact c
      · rw [if_neg c0] at h
        cases h
end
