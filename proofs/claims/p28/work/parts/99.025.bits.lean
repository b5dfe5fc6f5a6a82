/-! the bits of a template's bytes: all are used where another type follows, and where a structure ends -/
def yBE (T : yT) : Prop := ∀ st, 0 ≤ st → st < T 449 0 → yBit T st (T 453 st).toNat = 0 ∧ ∀ k, 0 ≤ k → k < T 453 st → 0 ≤ yBit T st k.toNat ∧ (T 458 (8 * st + k) ≠ 110 → yBit T st k.toNat = 0) ∧ (T 458 (8 * st + k) = 110 → T 460 (8 * st + k) = 8 - yBit T st k.toNat - T 459 (8 * st + k))
section
variable {Y G : Int → Int} {n st k p b t : Int} {T U : yT} {s : zS}
theorem pa_fields_b (hY : ∀ p, 0 ≤ p → p < n → Y p = G p) (hG : ∀ p, G p ≠ -1 → 0 ≤ p ∧ p < n) : ∀ (m : Nat) (k : Int) (T : yT) (p b : Int) (x : yT × Int × Int), pa_fields G st m k T p b = some x → k = T 453 st → 0 ≤ k → m + k ≤ 8 → 0 ≤ p → 0 ≤ T 450 0 → 0 ≤ T 451 0 → (b = yBit T st k.toNat ∧ 0 ≤ b ∧ b ≤ 7) → x.2.2 = yBit x.1 st (x.1 453 st).toNat := by
  intro m
  induction m with
  | zero =>
    intro k T p b x h hk k0 hm p0 t0 t1 hb
    injection h with h
    rw [← h]
    dsimp only
    rw [← hk]
    exact hb.1
  | succ m ih =>
    intro k T p b x h hk k0 hm p0 t0 t1 hb
    unfold pa_fields at h
    by_cases c : G p = 125
    · rw [if_pos c] at h
      injection h with h
      rw [← h]
      dsimp only
      rw [← hk]
      exact hb.1
    · rw [if_neg c] at h
      cases e : pa_field G st k T p b with
      | none => rw [e] at h; cases h
      | some y =>
        rw [e] at h
        have h : pa_fields G st m (k + 1) y.1 y.2.1 y.2.2 = some x := h
        have K := pa_field_k e
        obtain ⟨P, C, R, B, xn⟩ := pa_field_P (Y := Y) hY hG rfl hk.symm k0 p0 t0 t1 hb e
        have y1 := pa_field_1 e
        have g0 := K.2.1.1
        have g1 := K.2.2.1.1
        exact ih (k + 1) y.1 y.2.1 y.2.2 x h (by rw [K.2.2.2, hk]) (by omega) (by omega) (by omega) (by omega) (by omega) B
theorem pa_str_b {y : yT × Int} (hY : ∀ p, 0 ≤ p → p < n → Y p = G p) (hG : ∀ p, G p ≠ -1 → 0 ≤ p ∧ p < n) (h : pa_str G st T p = some y) (p0 : 0 ≤ p) (t0 : 0 ≤ T 450 0) (t1 : 0 ≤ T 451 0) : yBit y.1 st (y.1 453 st).toNat = 0 := by
  unfold pa_str at h
  split at h
  · have h : (pa_fields G st 8 0 (pa_new st (G p - 65) T) (p + 1 + 1) 0).bind (fun x => pa_close G st x.1 x.2.1 x.2.2) = some y := h
    obtain ⟨n1, n2, n3, n4⟩ := pa_new_X (T := T) (st := st) (c := G p - 65)
    cases e : pa_fields G st 8 0 (pa_new st (G p - 65) T) (p + 1 + 1) 0 with
    | none => rw [e] at h; cases h
    | some x =>
      rw [e] at h
      have h : pa_close G st x.1 x.2.1 x.2.2 = some y := h
      have B := pa_fields_b (Y := Y) hY hG 8 0 _ _ _ x e n3.symm (by decide) (by decide) (by omega) (by rw [n1 450 0 (by decide) (by omega) (by omega)]; exact t0) (by rw [n1 451 0 (by decide) (by omega) (by omega)]; exact t1) ⟨rfl, by decide, by decide⟩
      obtain ⟨c1, c2, c3, c4⟩ := pa_close_k h
      have K := pa_rels_k _ _ _ c4
      rw [K 453 st (by omega), ← c1, B]
      exact yBit_c _ fun i i1 i2 => ⟨K 458 _ (by omega), K 459 _ (by omega)⟩
  · cases h
theorem pa_strs_b (hY : ∀ p, 0 ≤ p → p < n → Y p = G p) (hG : ∀ p, G p ≠ -1 → 0 ≤ p ∧ p < n) : ∀ (m : Nat) (z : Int) (T : yT) (p : Int) (y : yT × Int), pa_strs G m z T p = some y → z = T 449 0 → 0 ≤ z → 0 ≤ p → 0 ≤ T 450 0 → 0 ≤ T 451 0 → (∀ st, 0 ≤ st → st < T 449 0 → (0 ≤ T 453 st ∧ T 453 st ≤ 8) ∧ yBit T st (T 453 st).toNat = 0) → ∀ st, 0 ≤ st → st < y.1 449 0 → (0 ≤ y.1 453 st ∧ y.1 453 st ≤ 8) ∧ yBit y.1 st (y.1 453 st).toNat = 0 := by
  intro m
  induction m with
  | zero =>
    intro z T p y h hz z0 p0 t0 t1 hB
    injection h with h
    rw [← h]
    exact hB
  | succ m ih =>
    intro z T p y h hz z0 p0 t0 t1 hB
    unfold pa_strs at h
    by_cases c : G p = -1
    · rw [if_pos c] at h
      injection h with h
      rw [← h]
      exact hB
    · rw [if_neg c] at h
      cases e : pa_str G z T p with
      | none => rw [e] at h; cases h
      | some x =>
        rw [e] at h
        have h : pa_strs G m (z + 1) x.1 x.2 = some y := h
        obtain ⟨P1, P2, P3, P4, P5, P6⟩ := pa_str_P hY hG e p0 t0 t1
        have b := pa_str_b hY hG e p0 t0 t1
        have Z := P1.Z
        have e9 : x.1 449 0 = T 449 0 + 1 := (P1.1 449 0 (by omega)).trans pa_new_X.2.1
        refine ih (z + 1) x.1 x.2 y h (by omega) (by omega) (by omega) (by have := Z.2.1.1; omega) (by have := Z.2.2.1; omega) fun st s1 s2 => ?_
        by_cases d : st = z
        · rw [d]
          exact ⟨P4, b⟩
        · obtain ⟨h3, h4⟩ := hB st s1 (by omega)
          have e3 : x.1 453 st = T 453 st := Z.1 453 st (by omega)
          have e5 : yBit x.1 st (T 453 st).toNat = yBit T st (T 453 st).toNat := yBit_c _ fun i i1 i2 => ⟨Z.1 458 _ (by omega), Z.1 459 _ (by omega)⟩
          rw [e3, e5]
          exact ⟨h3, h4⟩
theorem pa_all_b {X : Int → Int} (hX : pa_X X n) (h : pa_all (pa_sg X n) T = some U) : ∀ st, 0 ≤ st → st < U 449 0 → yBit U st (U 453 st).toNat = 0 := by
  have w9 : pa_w 451 0 0 (pa_w 450 0 0 (pa_w 449 0 0 T)) 449 0 = 0 := (pa_w_nk (by decide)).trans ((pa_w_nk (by decide)).trans pa_w_eq)
  have w0 : pa_w 451 0 0 (pa_w 450 0 0 (pa_w 449 0 0 T)) 450 0 = 0 := (pa_w_nk (by decide)).trans pa_w_eq
  have w1 : pa_w 451 0 0 (pa_w 450 0 0 (pa_w 449 0 0 T)) 451 0 = 0 := pa_w_eq
  unfold pa_all at h
  generalize pa_w 451 0 0 (pa_w 450 0 0 (pa_w 449 0 0 T)) = T1 at w9 w0 w1 h
  cases e : pa_strs (pa_sg X n) 6 0 T1 0 with
  | none => rw [e] at h; cases h
  | some y =>
    rw [e] at h
    have h : (if pa_sg X n y.2 = -1 ∧ 0 < y.1 449 0 then pa_chs (y.1 451 0).toNat 0 y.1 else none) = some U := h
    have B := pa_strs_b (Y := pa_sg X n) (G := pa_sg X n) (n := n) (fun _ _ _ => rfl) (fun p hp => pa_lt hp) 6 0 T1 0 y e w9.symm (by decide) (by decide) (by omega) (by omega) (fun st s1 s2 => by omega)
    split at h
    · by_cases ex : ∃ i, (0 ≤ i ∧ i < y.1 451 0) ∧ pa_sn y.1 (y.1 456 i) = -1
      · obtain ⟨i, i1, i2⟩ := ex
        rw [pa_chs_N _ 0 _ i i1.1 (by omega) i2] at h
        cases h
      · obtain ⟨V, m1, m2, m3, m4⟩ := pa_chs_P (y.1 451 0).toNat 0 y.1 (fun i i1 i2 z => ex ⟨i, ⟨i1, by omega⟩, z⟩)
        rw [m1] at h
        injection h with h
        subst h
        intro st s1 s2
        rw [m2 449 0 (by decide)] at s2
        rw [m2 453 st (by decide), ← (B st s1 s2).2]
        exact yBit_c _ fun i i1 i2 => ⟨m2 458 _ (by decide), m2 459 _ (by decide)⟩
    · cases h
theorem mRel.BE (R : mRel t T s) (W : yWT T) (h : ∀ st, 0 ≤ st → st < T 449 0 → yBit T st (T 453 st).toNat = 0) : yBE T := fun st s1 s2 => by
  obtain ⟨R1, R2, R3⟩ := R
  obtain ⟨r1, r2, r3, r4⟩ := R3 st s1 s2
  refine ⟨h st s1 s2, fun k k1 k2 => ?_⟩
  obtain ⟨h1, h2, h3, h4, h5, h6, h7, h8, h9, h10, h11, h12, h13⟩ := r4 k k1 k2
  refine ⟨?_, h13, fun z => (h5 z).2.1⟩
  by_cases c : T 458 (8 * st + k) = 110
  · exact (h5 c).2.2
  · rw [h13 c]
    exact Int.le_refl _
theorem yBE.w8 {x : Int} (h : yBE T) : yBE (pa_w 448 0 x T) := fun st s1 s2 => by
  have e : ∀ (f : Nat) (i : Int), f ≠ 448 → pa_w 448 0 x T f i = T f i := fun f i hf => pa_w_nk hf
  have b : ∀ st (m : Nat), yBit (pa_w 448 0 x T) st m = yBit T st m := fun st m => yBit_c m fun i _ _ => ⟨e 458 _ (by decide), e 459 _ (by decide)⟩
  rw [e 449 _ (by decide)] at s2
  obtain ⟨h1, h2⟩ := h st s1 s2
  rw [b, e 453 _ (by decide)]
  refine ⟨h1, fun k k1 k2 => ?_⟩
  rw [b, e 458 _ (by decide), e 459 _ (by decide), e 460 _ (by decide)]
  exact h2 k k1 k2
end
