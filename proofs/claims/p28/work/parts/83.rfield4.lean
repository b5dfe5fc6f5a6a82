/-! the reference's parser: a good field, from its type on -/
/-- what the reference's tables hold of a field that is taken: x the tables, p the place of its type -/
def rFF (w : Int) (G : Int → Int) (st f : Int) (T : yT) (p b : Int) (x : yT) (u : zS) : Prop :=
  (∃ V, rF w G st f T p V u ∧ ∀ (g : Nat) (i : Int), g ≠ 453 → g ≠ 457 → g ≠ 467 → g ≠ 468 → g ≠ 460 → x g i = V g i)
  ∧ (x 458 f = 110 → x 460 f = 8 - (b + x 459 f)) ∧ u.1 592 0 w = (if x 467 f = 61 then 73 else x 467 f) ∧ (x 467 f ≠ 0 → u.1 593 0 w = (if x 467 f = 61 then x 468 f else x 468 f + 97))
section
variable {t st n N p w f b : Int} {X : Int → Int} {T : yT} {s : zS}
theorem pa_rel_k {G : Int → Int} {U : yT} {z : yT × Int} (h : pa_rel G f U p = some z) : ∀ (g : Nat) (i : Int), g ≠ 467 → g ≠ 468 → z.1 g i = U g i := fun g i g1 g2 => by
  unfold pa_rel at h
  split at h
  · split at h
    · injection h with h
      rw [← h]
      dsimp only
      rw [pa_w_nk g2, pa_w_nk g1]
    · split at h
      · injection h with h
        rw [← h]
        dsimp only
        rw [pa_w_nk g2, pa_w_nk g1]
      · cases h
  · cases h
theorem pa_R_k {G : Int → Int} {U : yT} {z : yT × Int} (h : (if G p = 61 then pa_rel G f U p else some (U, p)) = some z) : ∀ (g : Nat) (i : Int), g ≠ 467 → g ≠ 468 → z.1 g i = U g i := fun g i g1 g2 => by
  split at h
  · exact pa_rel_k h g i g1 g2
  · injection h with h
    rw [← h]
theorem rF.tr {G : Int → Int} {V : yT} {u : zS} (h : rF w G st f T p V s) (a : ∀ i : Nat, 586 ≤ i → i ≤ 591 → u.1 i 0 w = s.1 i 0 w) : rF w G st f T p V u := by
  unfold rF at h ⊢
  rw [a 587 (by decide) (by decide), a 588 (by decide) (by decide), a 589 (by decide) (by decide), a 590 (by decide) (by decide), a 591 (by decide) (by decide)]
  exact h
theorem pa_rok.c {U V : yT} (a : U 467 f = V 467 f) (c : U 468 f = V 468 f) (h : pa_rok f U) : pa_rok f V := by
  unfold pa_rok at h ⊢
  rw [← a, ← c]
  exact h
end
