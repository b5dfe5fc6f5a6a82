/-! what a field lays, as text -/
section
variable {Y G : Int → Int} {n f st k p b : Int} {T U : yT}
theorem qN_c {D : Int} (h : qN Y n f T D) (a : ∀ g : Nat, 458 ≤ g → g ≤ 466 → U g f = T g f) (c : T 451 0 ≤ U 451 0) (d : ∀ i, i < T 451 0 → U 456 i = T 456 i) : qN Y n f U D := by
  obtain ⟨h1, h2, h3, h4⟩ := h
  unfold qN
  rw [a 463 (by decide) (by decide), a 464 (by decide) (by decide), a 458 (by decide) (by decide)]
  refine ⟨h1, h2, by omega, fun j j1 j2 => ?_⟩
  rw [d _ (by omega)]
  exact h4 j j1 j2
theorem pP_c (h : pP Y n st k f T p b) (a : ∀ g : Nat, 458 ≤ g → g ≤ 466 → U g f = T g f) (c0 : T 450 0 ≤ U 450 0) (d0 : ∀ i, i < T 450 0 → U 454 i = T 454 i ∧ U 455 i = T 455 i) (c1 : T 451 0 ≤ U 451 0) (d1 : ∀ i, i < T 451 0 → U 456 i = T 456 i) (e : ∀ i, 0 ≤ i → i < k → U 457 (8 * st + i) = T 457 (8 * st + i) ∧ U 458 (8 * st + i) = T 458 (8 * st + i)) : pP Y n st k f U p b := by
  obtain ⟨h1, h2, h3, h4, h5, h6, h7, h8, h9⟩ := h
  have S : ∀ q, qS Y st k f T q → qS Y st k f U q := fun q z => qS_c z (fun g hg => a g (by omega) (by omega)) c0 d0 e
  have N : ∀ D, qN Y n f T D → qN Y n f U D := fun D z => qN_c z a c1 d1
  unfold pP
  rw [a 458 (by decide) (by decide), a 459 (by decide) (by decide), a 460 (by decide) (by decide), a 463 (by decide) (by decide), a 464 (by decide) (by decide), a 465 (by decide) (by decide), a 466 (by decide) (by decide)]
  refine ⟨h1, fun z => N _ (h2 z), fun z => ⟨N _ (h3 z).1, (h3 z).2⟩, fun z => ?_, fun z => S _ (h5 z), h6, h7, h8, h9⟩
  obtain ⟨g1, g2, g3, g4⟩ := h4 z
  exact ⟨g1, fun y => S _ (g2 y), fun y => S _ (g3 y), g4⟩
theorem pa_field_inv {x : yT × Int × Int} (h : pa_field G st k T p b = some x) : ((97 ≤ G p ∧ G p ≤ 122 ∧ pa_pl T st (G p - 97) = -1) ∧ G (p + 1) = 58) ∧ ∃ (y : yT × Int × Int) (z : yT × Int), pa_type G st (8 * st + k) T (p + 1 + 1) b = some y ∧ (if G y.2.1 = 61 then pa_rel G (8 * st + k) (pa_w 467 (8 * st + k) 0 (pa_w 457 (8 * st + k) (G p - 97) y.1)) y.2.1 else some (pa_w 467 (8 * st + k) 0 (pa_w 457 (8 * st + k) (G p - 97) y.1), y.2.1)) = some z ∧ G z.2 = 59 ∧ x = (pa_w 453 st (z.1 453 st + 1) z.1, z.2 + 1, y.2.2) := by
  unfold pa_field at h
  split at h
  · rename_i c
    refine ⟨c, ?_⟩
    cases e : pa_type G st (8 * st + k) T (p + 1 + 1) b with
    | none => rw [e] at h; cases h
    | some y =>
      rw [e] at h
      have h : (if G y.2.1 = 61 then pa_rel G (8 * st + k) (pa_w 467 (8 * st + k) 0 (pa_w 457 (8 * st + k) (G p - 97) y.1)) y.2.1 else some (pa_w 467 (8 * st + k) 0 (pa_w 457 (8 * st + k) (G p - 97) y.1), y.2.1)).bind (fun w => if G w.2 = 59 then some (pa_w 453 st (w.1 453 st + 1) w.1, w.2 + 1, y.2.2) else none) = some x := h
      cases e2 : (if G y.2.1 = 61 then pa_rel G (8 * st + k) (pa_w 467 (8 * st + k) 0 (pa_w 457 (8 * st + k) (G p - 97) y.1)) y.2.1 else some (pa_w 467 (8 * st + k) 0 (pa_w 457 (8 * st + k) (G p - 97) y.1), y.2.1)) with
      | none => rw [e2] at h; cases h
      | some z =>
        rw [e2] at h
        have h : (if G z.2 = 59 then some (pa_w 453 st (z.1 453 st + 1) z.1, z.2 + 1, y.2.2) else none) = some x := h
        split at h
        · rename_i d
          injection h with h
          exact ⟨y, z, rfl, e2, d, h.symm⟩
        · cases h
  · cases h
/-- a relation before its field is found -/
def pR (f : Int) (T : yT) : Prop := T 467 f = 0 ∨ ((T 458 f = 98 ∨ T 458 f = 119 ∨ T 458 f = 87) ∧ (T 467 f = 61 ∨ T 467 f = 35 ∨ T 467 f = 37 ∨ T 467 f = 43 ∨ T 467 f = 94))
theorem pa_rel_R {z : yT × Int} (h : pa_rel G f T p = some z) : pR f z.1 := by
  have K := pa_rel_k h 458 f (by decide) (by decide)
  unfold pa_rel at h
  unfold pR
  rw [K]
  split at h
  · rename_i c
    right
    refine ⟨c, ?_⟩
    split at h
    · injection h with h
      rw [← h]
      dsimp only
      rw [pa_w_nk (by decide), pa_w_eq]
      exact Or.inl rfl
    · split at h
      · rename_i d
        injection h with h
        rw [← h]
        dsimp only
        rw [pa_w_nk (by decide), pa_w_eq]
        omega
      · cases h
  · cases h
theorem yBit_c : ∀ (m : Nat), (∀ i : Int, 0 ≤ i → i < m → U 458 (8 * st + i) = T 458 (8 * st + i) ∧ U 459 (8 * st + i) = T 459 (8 * st + i)) → yBit U st m = yBit T st m
  | 0, _ => rfl
  | m + 1, h => by
    have e := yBit_c m (fun i i1 i2 => h i i1 (by omega))
    obtain ⟨h1, h2⟩ := h m (by omega) (by omega)
    unfold yBit
    rw [e, h1, h2]
theorem pa_field_P {x : yT × Int × Int} (hY : ∀ p, 0 ≤ p → p < n → Y p = G p) (hG : ∀ p, G p ≠ -1 → 0 ≤ p ∧ p < n) (hf : f = 8 * st + k) (hk : T 453 st = k) (k0 : 0 ≤ k) (p0 : 0 ≤ p) (t0 : 0 ≤ T 450 0) (t1 : 0 ≤ T 451 0) (hb : b = yBit T st k.toNat ∧ 0 ≤ b ∧ b ≤ 7) (h : pa_field G st k T p b = some x) : pP Y n st k f x.1 (p + 1 + 1) (yBit x.1 st k.toNat) ∧ pC f T x.1 ∧ pR f x.1 ∧ (x.2.2 = yBit x.1 st (k + 1).toNat ∧ 0 ≤ x.2.2 ∧ x.2.2 ≤ 7) ∧ x.2.1 ≤ n := by
  have KF := pa_field_k h
  obtain ⟨c, y, z, e1, e2, e3, e4⟩ := pa_field_inv h
  have R := pa_R_k e2
  have yE : G y.2.1 = 59 ∨ G y.2.1 = 61 := by
    by_cases d : G y.2.1 = 61
    · exact Or.inr d
    · rw [if_neg d] at e2
      injection e2 with e2
      rw [← e2] at e3
      exact Or.inl e3
  obtain ⟨P, C⟩ := pa_type_P hY hG rfl hk k0 (by omega) t0 t1 hb.2.1 e1 yE
  have x1 : x.1 = pa_w 453 st (z.1 453 st + 1) z.1 := by rw [e4]
  have x2 : x.2.1 = z.2 + 1 := by rw [e4]
  have x3 : x.2.2 = y.2.2 := by rw [e4]
  have lz := hG z.2 (by omega)
  subst hf
  have Q : ∀ (g : Nat) (i : Int), g ≠ 453 → g ≠ 457 → g ≠ 467 → g ≠ 468 → x.1 g i = y.1 g i := fun g i g1 g2 g3 g4 => by
    rw [x1, pa_w_nk g1, R g i g3 g4, pa_w_nk g3, pa_w_nk g2]
  have eb : yBit x.1 st k.toNat = b := by
    rw [hb.1]
    refine yBit_c _ fun i i1 i2 => ⟨KF.1 458 _ (by omega), KF.1 459 _ (by omega)⟩
  rw [eb]
  have x7 : ∀ i, 0 ≤ i → i < k → x.1 457 (8 * st + i) = y.1 457 (8 * st + i) := fun i i1 i2 => by
    have Ky := pa_kp.type e1
    rw [KF.1 457 _ (by omega), Ky.1 457 _ (by omega)]
  refine ⟨pP_c P (fun g g1 g2 => Q g _ (by omega) (by omega) (by omega) (by omega)) (by rw [Q 450 0 (by decide) (by decide) (by decide) (by decide)]; exact Int.le_refl _) (fun i i1 => ⟨Q 454 i (by decide) (by decide) (by decide) (by decide), Q 455 i (by decide) (by decide) (by decide) (by decide)⟩) (by rw [Q 451 0 (by decide) (by decide) (by decide) (by decide)]; exact Int.le_refl _) (fun i i1 => Q 456 i (by decide) (by decide) (by decide) (by decide)) (fun i i1 i2 => ⟨x7 i i1 i2, Q 458 _ (by decide) (by decide) (by decide) (by decide)⟩), ?_, ?_, ?_, by omega⟩
  · unfold pC
    rw [Q 458 _ (by decide) (by decide) (by decide) (by decide), Q 463 _ (by decide) (by decide) (by decide) (by decide), Q 464 _ (by decide) (by decide) (by decide) (by decide), Q 451 _ (by decide) (by decide) (by decide) (by decide)]
    exact C
  · have hz : pR (8 * st + k) z.1 := by
      by_cases d : G y.2.1 = 61
      · rw [if_pos d] at e2
        exact pa_rel_R e2
      · rw [if_neg d] at e2
        injection e2 with e2
        left
        rw [← e2]
        dsimp only
        exact pa_w_eq
    unfold pR at hz ⊢
    rw [x1, pa_w_nk (by decide), pa_w_nk (by decide)]
    exact hz
  · have eb2 : yBit x.1 st (k + 1).toNat = if x.1 458 (8 * st + k) = 110 then (if b + x.1 459 (8 * st + k) = 8 then 0 else b + x.1 459 (8 * st + k)) else 0 := by
      rw [show (k + 1).toNat = k.toNat + 1 by omega]
      show (if x.1 458 (8 * st + (k.toNat : Int)) = 110 then _ else _) = _
      rw [show (k.toNat : Int) = k by omega, eb]
    rw [eb2, Q 458 _ (by decide) (by decide) (by decide) (by decide), Q 459 _ (by decide) (by decide) (by decide) (by decide), x3]
    have y8 := pa_type_58 e1
    rcases pa_type_s e1 with ⟨a1, a2, a3, a4⟩ | ⟨a1, a2, a3, a4, a5, a6, a7, a8, a9⟩
    · have : ¬ y.1 458 (8 * st + k) = 110 := by
        by_cases d : 65 ≤ G (p + 1 + 1) ∧ G (p + 1 + 1) ≤ 90 ∧ G (p + 1 + 1) ≠ 87
        · have := y8.2 d
          omega
        · have := y8.1
          rw [if_neg d] at this
          omega
      rw [if_neg this, a3]
      omega
    · rw [if_pos a7, a8, a5]
      by_cases d : b + (G (p + 1 + 1 + 1) - 48) = 8
      · rw [if_pos d]
        omega
      · rw [if_neg d]
        omega
end
