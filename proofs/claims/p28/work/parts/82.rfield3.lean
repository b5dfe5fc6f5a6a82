/-! the reference's parser: a good field -/
section
variable {t st n N p w f b : Int} {X G : Int → Int} {T U V : yT} {s : zS}
/-- the same but for 460 -/
def pa_s4 (U V : yT) : Prop := ∀ (g : Nat) (i : Int), g ≠ 460 → V g i = U g i
theorem pa_s4.pw {g : Nat} {i v : Int} (h : pa_s4 U V) : pa_s4 (pa_w g i v U) (pa_w g i v V) := fun g' i' hg => by
  unfold pa_w
  split
  · rfl
  · exact h g' i' hg
theorem pa_rel_c (h : pa_s4 U V) : match pa_rel G f U p with
    | none => pa_rel G f V p = none
    | some z => ∃ z', pa_rel G f V p = some z' ∧ z'.2 = z.2 ∧ pa_s4 z.1 z'.1 := by
  unfold pa_rel
  rw [h 458 f (by decide)]
  by_cases c : U 458 f = 98 ∨ U 458 f = 119 ∨ U 458 f = 87
  · rw [if_pos c, if_pos c]
    by_cases d : 48 ≤ G (p + 1) ∧ G (p + 1) ≤ 57
    · rw [if_pos d, if_pos d]
      exact ⟨_, rfl, rfl, h.pw.pw⟩
    · rw [if_neg d, if_neg d]
      by_cases e : G (p + 1) = 35 ∨ G (p + 1) = 37 ∨ G (p + 1) = 43 ∨ G (p + 1) = 94
      · rw [if_pos e, if_pos e]
        exact ⟨_, rfl, rfl, h.pw.pw⟩
      · rw [if_neg e, if_neg e]
  · rw [if_neg c, if_neg c]
/-- how many bits of the byte are used behind a field -/
def pa_us (G : Int → Int) (b p : Int) : Int := if G p = 110 then b + (G (p + 1) - 48) else if b = 0 then 0 else 99
theorem pa_type_u {y : yT × Int × Int} (h : pa_type G st f T p 0 = some y) (hb : 0 ≤ b) : (pa_us G b p ≤ 8 → ∃ x, pa_type G st f T p b = some x ∧ x.2.1 = y.2.1 ∧ x.2.2 = (if pa_us G b p = 8 then 0 else pa_us G b p) ∧ pa_s4 y.1 x.1 ∧ (G p = 110 → x.1 460 f = 8 - (b + (G (p + 1) - 48)))) ∧ (¬ pa_us G b p ≤ 8 → pa_type G st f T p b = none) := by
  unfold pa_us
  rcases pa_type_s h with ⟨a1, a2, a3, a4⟩ | ⟨a1, a2, a3, a4, a5, a6, a7, a8, a9⟩
  · rw [if_neg a1]
    by_cases c : b = 0
    · subst c
      rw [if_pos rfl]
      exact ⟨fun _ => ⟨y, h, rfl, by rw [a3]; rfl, fun _ _ _ => rfl, fun z => absurd z a1⟩, fun z => absurd (by decide) z⟩
    · rw [if_neg c]
      refine ⟨fun z => absurd z (by decide), fun _ => ?_⟩
      unfold pa_type
      rw [if_pos ⟨a1, c⟩]
  · rw [if_pos a1]
    refine ⟨fun z => ?_, fun z => ?_⟩
    · cases e : pa_type G st f T p b with
      | none =>
        rcases pa_type_n e with q | q | q
        · rw [h] at q
          cases q
        · exact absurd a1 q.1
        · omega
      | some x =>
        rcases pa_type_s e with ⟨c1, c2, c3, c4⟩ | ⟨c1, c2, c3, c4, c5, c6, c7, c8, c9⟩
        · exact absurd a1 c1
        · refine ⟨x, rfl, c4.trans a4.symm, c5, fun g i hg => ?_, fun _ => c9⟩
          by_cases d : (g = 458 ∨ g = 459 ∨ g = 460) ∧ i = f
          · obtain ⟨d1, d2⟩ := d
            rw [d2]
            rcases d1 with d1 | d1 | d1
            · rw [d1, c7, a7]
            · rw [d1, c8, a8]
            · exact absurd d1 hg
          · rw [c6 g i d, a6 g i d]
    · cases e : pa_type G st f T p b with
      | none => rfl
      | some x =>
        rcases pa_type_s e with ⟨c1, c2, c3, c4⟩ | ⟨c1, c2, c3, c4⟩
        · exact absurd a1 c1
        · omega
end
