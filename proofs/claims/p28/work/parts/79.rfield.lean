/-! the reference's parser: a field -/
section
variable {t st n N p w f b : Int} {X G : Int → Int} {T U : yT} {s u : zS} {o : Option Int}
theorem pa_type_0n (h : pa_type G st f T p 0 = none) (hb : 0 ≤ b) : pa_type G st f T p b = none := by
  cases e : pa_type G st f T p b with
  | none => rfl
  | some x =>
    rcases pa_type_s e with ⟨c1, c2, c3, c4⟩ | ⟨c1, c2, c3, c4⟩
    · rw [h] at c4
      cases c4
    · unfold pa_type at h
      rw [if_neg (fun z => z.1 c1), if_neg (show ¬ (65 ≤ G p ∧ G p ≤ 90 ∧ G p ≠ 87) by omega)] at h
      unfold pa_plain at h
      rw [if_neg (show ¬ (G p = 98 ∨ G p = 119 ∨ G p = 87 ∨ G p = 122) by omega), if_neg (show ¬ G p = 114 by omega), if_pos c1, if_neg (by omega)] at h
      cases h
/-- rkf and the number of fields -/
def rkg (w y : Int) (s u : zS) : Prop := (∀ (f n : Nat) (i : Int), ¬ (n = 0 ∧ (f = 605 ∨ f = 606 ∨ 586 ≤ f ∧ f ≤ 593 ∧ i = w ∨ f = 585 ∧ i = y)) → u.1 f n i = s.1 f n i) ∧ u.2 = s.2 ∧ (-48 ≤ s.1 589 0 w ∧ s.1 589 0 w ≤ 207 → -48 ≤ u.1 589 0 w ∧ u.1 589 0 w ≤ 207)
theorem rkf.g {y : Int} (a : rkf w s u) : rkg w y s u := ⟨fun f n i h => a.1 f n i (by omega), a.2.1, a.2.2⟩
end
