/-! the reference's parser: the end of a structure -/
theorem zp_n3 {f n f' n' : Nat} {i v i' : Int} {s : zS} (h : ¬ (f' = f ∧ n' = n ∧ i' = i)) : (zp f n i v s).1 f' n' i' = s.1 f' n' i' := if_neg h
/-- what a structure's fields may change in the reference -/
def rkl (t st : Int) (s u : zS) : Prop := (∀ (f n : Nat) (i : Int), ¬ (n = 0 ∧ (f = 605 ∨ f = 606 ∨ 586 ≤ f ∧ f ≤ 593 ∧ 48 * t + 8 * st ≤ i ∧ i < 48 * t + 8 * st + 8 ∨ f = 585 ∧ i = 6 * t + st ∨ f = 582 ∧ i = t)) → u.1 f n i = s.1 f n i) ∧ u.2 = s.2 ∧ ((∀ i, -48 ≤ s.1 589 0 i ∧ s.1 589 0 i ≤ 207) → ∀ i, -48 ≤ u.1 589 0 i ∧ u.1 589 0 i ≤ 207)
/-- .. its end -/
def rkz (t st : Int) (s u : zS) : Prop := (∀ (f n : Nat) (i : Int), ¬ (n = 0 ∧ (f = 605 ∨ f = 606 ∨ f = 593 ∧ 48 * t + 8 * st ≤ i ∧ i < 48 * t + 8 * st + 8 ∨ f = 582 ∧ i = t)) → u.1 f n i = s.1 f n i) ∧ u.2 = s.2
/-- a relation that has found its field -/
def pRR (st : Int) (V : yT) (j : Int) : Prop := V 467 (8 * st + j) = 0 ∨ V 467 (8 * st + j) = 61 ∨ ((8 * st ≤ V 468 (8 * st + j) ∧ V 468 (8 * st + j) < 8 * st + V 453 st) ∧ V 468 (8 * st + j) ≠ 8 * st + j ∧ (V 467 (8 * st + j) = 37 → V 458 (V 468 (8 * st + j)) = 91))
section
variable {t st n N p b w : Int} {X G : Int → Int} {T U V : yT} {s u v : zS} {o : Option Int}
theorem rkl.rf : rkl t st s s := ⟨fun _ _ _ _ => rfl, rfl, fun h => h⟩
theorem rkl.tr (a : rkl t st s u) (c : rkl t st u v) : rkl t st s v := ⟨fun f n i h => (c.1 f n i h).trans (a.1 f n i h), c.2.1.trans a.2.1, fun h => c.2.2 (a.2.2 h)⟩
theorem rkz.l (a : rkz t st s u) : rkl t st s u := ⟨fun f n i h => a.1 f n i (by omega), a.2, fun h i => by
  rw [a.1 589 0 i (by omega)]
  exact h i⟩
theorem rkg.l {k : Int} (a : rkg (48 * t + (8 * st + k)) (6 * t + st) s u) (hk : 0 ≤ k ∧ k < 8) : rkl t st s u := ⟨fun f n i h => a.1 f n i (by omega), a.2.1, fun h i => by
  by_cases e : i = 48 * t + (8 * st + k)
  · rw [e]
    exact a.2.2 (h _)
  · rw [a.1 589 0 i (by omega)]
    exact h i⟩
theorem rkf.l {k : Int} (a : rkf (48 * t + (8 * st + k)) s u) (hk : 0 ≤ k ∧ k < 8) : rkl t st s u := (a.g (y := 6 * t + st)).l hk
theorem rk.z (a : rk s u) : rkz t st s u := ⟨fun f n i h => a.1 f n i (by omega), a.2⟩
theorem rS.mk3 {g : Int} (h : rS t X n N o s) (a : ∀ (f : Nat) (i : Int), f = 581 ∨ f = 603 ∨ f = 604 ∨ f = 605 → u.1 f 0 i = s.1 f 0 i) (e6 : u.1 606 0 0 = g) (hg : g = 0 ∨ g = 1) : rS t X n N (if g = 0 then none else some (s.1 605 0 0)) u := by
  obtain ⟨h1, h2, h3, h4, h5, h6⟩ := h
  refine ⟨h1, (a 603 _ (by omega)).trans h2, (a 604 _ (by omega)).trans h3, by rw [a 605 _ (by omega)]; exact h4, fun i i1 i2 => (a 581 _ (by omega)).trans (h5 i i1 i2), ?_⟩
  by_cases c : g = 0
  · rw [if_pos c]
    exact e6.trans c
  · rw [if_neg c]
    exact ⟨by omega, a 605 _ (by omega)⟩
theorem rT.fr (h : rT t st T s) (a : ∀ (f : Nat) (i : Int), f = 585 ∨ f = 586 ∨ f = 587 → u.1 f 0 i = s.1 f 0 i) : rT t st T u := by
  obtain ⟨h1, h2, h3, h4, h5⟩ := h
  refine ⟨h1, (a 585 _ (by omega)).trans h2, h3, fun k k1 k2 => ?_, h5⟩
  rw [a 586 _ (by omega), a 587 _ (by omega)]
  exact h4 k k1 k2
theorem rR.fr {k : Int} (h : rR t st k T s) (a : ∀ (f : Nat) (i : Int), f = 590 ∨ f = 592 ∨ f = 593 → u.1 f 0 i = s.1 f 0 i) : rR t st k T u := fun j j1 j2 => by
  rw [a 590 _ (by omega), a 592 _ (by omega), a 593 _ (by omega)]
  exact h j j1 j2
theorem pa_rel1_P {k : Int} (h : pa_rel1 st k T = some V) (h0 : 0 ≤ T 453 st) : pRR st V k := by
  have K := pa_rel1_k h
  unfold pa_rel1 at h
  unfold pRR
  rw [K 467 _ (by omega), K 453 _ (by omega)]
  split at h
  · rename_i c
    exact Or.elim c Or.inl fun z => Or.inr (Or.inl z)
  · split at h
    · cases h
    · rename_i c1 c2
      split at h
      · cases h
      · rename_i c3
        injection h with h
        right
        right
        have b := pa_pl_b (T := T) (st := st) (c := T 468 (8 * st + k)) h0
        rw [← h, pa_w_eq, pa_w_nk (by decide)]
        refine ⟨by omega, by omega, fun z => ?_⟩
        by_cases d : T 458 (8 * st + pa_pl T st (T 468 (8 * st + k))) = 91
        · exact d
        · exact absurd ⟨z, d⟩ c3
theorem pa_rels_P : ∀ (m : Nat) (k : Int) (T : yT), pa_rels st m k T = some V → 0 ≤ T 453 st → ∀ j, k ≤ j → j < k + m → pRR st V j := by
  intro m
  induction m with
  | zero =>
    intro k T h h0 j j1 j2
    omega
  | succ m ih =>
    intro k T h h0 j j1 j2
    unfold pa_rels at h
    cases e : pa_rel1 st k T with
    | none => rw [e] at h; cases h
    | some W =>
      rw [e] at h
      have h : pa_rels st m (k + 1) W = some V := h
      have K1 := pa_rel1_k e
      by_cases c : j = k
      · have K2 := pa_rels_k m (k + 1) W h
        have P := pa_rel1_P e h0
        rw [c]
        unfold pRR at P ⊢
        rw [K2 467 _ (by omega), K2 468 _ (by omega), K2 453 _ (by omega), K2 458 _ (by omega)]
        exact P
      · exact ih (k + 1) W h (by rw [K1 453 _ (by omega)]; exact h0) j (by omega) (by omega)
theorem pa_close_no {c : Prop} {K : yT → Option (yT × Int)} [Decidable c] {x : Option yT} (h : ¬ c) : (x.bind fun U => if c then K U else none) = none := by
  cases x with
  | none => rfl
  | some U => exact if_neg h
end
