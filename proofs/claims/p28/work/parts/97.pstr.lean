/-! what a structure lays -/
def pX (st : Int) (T U : yT) : Prop := (∀ (g : Nat) (i : Int), ¬ (g = 450 ∨ g = 451 ∨ g = 454 ∨ g = 455 ∨ g = 456 ∨ (g = 453 ∧ i = st) ∨ (457 ≤ g ∧ g ≤ 468 ∧ 8 * st ≤ i ∧ i < 8 * st + 8)) → U g i = T g i) ∧ (T 450 0 ≤ U 450 0 ∧ ∀ i, i < T 450 0 → U 454 i = T 454 i ∧ U 455 i = T 455 i) ∧ (T 451 0 ≤ U 451 0 ∧ ∀ i, i < T 451 0 → U 456 i = T 456 i)
/-- choice i is one of field j of structure st -/
def pO (st j i : Int) (T : yT) : Prop := (T 458 (8 * st + j) = 65 ∨ T 458 (8 * st + j) = 91 ∨ T 458 (8 * st + j) = 114) ∧ T 463 (8 * st + j) ≤ i ∧ i < T 464 (8 * st + j)
section
variable {Y G : Int → Int} {n f st k p b : Int} {T U V : yT}
theorem pX.rf : pX st T T := ⟨fun _ _ _ => rfl, ⟨Int.le_refl _, fun _ _ => ⟨rfl, rfl⟩⟩, Int.le_refl _, fun _ _ => rfl⟩
theorem pX.tr (a : pX st T U) (c : pX st U V) : pX st T V := by
  obtain ⟨a1, ⟨a2, a3⟩, a4, a5⟩ := a
  obtain ⟨c1, ⟨c2, c3⟩, c4, c5⟩ := c
  exact ⟨fun g i h => (c1 g i h).trans (a1 g i h), ⟨Int.le_trans a2 c2, fun i h => ⟨(c3 i (by omega)).1.trans (a3 i h).1, (c3 i (by omega)).2.trans (a3 i h).2⟩⟩, Int.le_trans a4 c4, fun i h => (c5 i (by omega)).trans (a5 i h)⟩
theorem pa_kf.X (h : pa_kf st k T U) (hk : 0 ≤ k ∧ k < 8) : pX st T U := ⟨fun g i hn => h.1 g i (by omega), h.2.1, h.2.2.1⟩
theorem pX.E {st' K : Int} (h : pX st T U) (c : st' ≠ st) (hK : K ≤ 8) : pE st' K T U := ⟨fun g i g1 g2 i1 i2 => h.1 g _ (by omega), h.2.1, h.2.2⟩
theorem pa_fields_P (hY : ∀ p, 0 ≤ p → p < n → Y p = G p) (hG : ∀ p, G p ≠ -1 → 0 ≤ p ∧ p < n) : ∀ (m : Nat) (k : Int) (T : yT) (p b : Int) (x : yT × Int × Int), pa_fields G st m k T p b = some x → k = T 453 st → 0 ≤ k → m + k ≤ 8 → 0 ≤ p → 0 ≤ T 450 0 → 0 ≤ T 451 0 → (b = yBit T st k.toNat ∧ 0 ≤ b ∧ b ≤ 7) → pX st T x.1 ∧ (∀ i, T 451 0 ≤ i → i < x.1 451 0 → ∃ j, 0 ≤ j ∧ j < x.1 453 st ∧ pO st j i x.1) ∧ (2 * (x.1 450 0 - T 450 0) ≤ x.2.1 - p ∧ 2 * (x.1 451 0 - T 451 0) ≤ x.2.1 - p ∧ p ≤ x.2.1) ∧ k ≤ x.1 453 st ∧ x.1 453 st ≤ 8 ∧ ∀ j, 0 ≤ j → j < k → ∀ i, pO st j i T → pO st j i x.1 := by
  intro m
  induction m with
  | zero =>
    intro k T p b x h hk k0 hm p0 t0 t1 hb
    injection h with h
    rw [← h]
    exact ⟨pX.rf, fun i i1 i2 => by dsimp only at i2; omega, ⟨by dsimp only; omega, by dsimp only; omega, Int.le_refl _⟩, by dsimp only; omega, by dsimp only; omega, fun _ _ _ _ z => z⟩
  | succ m ih =>
    intro k T p b x h hk k0 hm p0 t0 t1 hb
    unfold pa_fields at h
    by_cases c : G p = 125
    · rw [if_pos c] at h
      injection h with h
      rw [← h]
      exact ⟨pX.rf, fun i i1 i2 => by dsimp only at i2; omega, ⟨by dsimp only; omega, by dsimp only; omega, Int.le_refl _⟩, by dsimp only; omega, by dsimp only; omega, fun _ _ _ _ z => z⟩
    · rw [if_neg c] at h
      cases e : pa_field G st k T p b with
      | none => rw [e] at h; cases h
      | some y =>
        rw [e] at h
        have h : pa_fields G st m (k + 1) y.1 y.2.1 y.2.2 = some x := h
        have K := pa_field_k e
        obtain ⟨P, C, R, B, xn⟩ := pa_field_P (Y := Y) hY hG rfl hk.symm k0 p0 t0 t1 hb e
        have y1 := pa_field_1 e
        have g0 := K.2.1.1
        have g1 := K.2.2.1.1
        obtain ⟨i1, i2, i3, i4, i5, i6⟩ := ih (k + 1) y.1 y.2.1 y.2.2 x h (by rw [K.2.2.2, hk]) (by omega) (by omega) (by omega) (by omega) (by omega) B
        refine ⟨(K.X (by omega)).tr i1, fun i a1 a2 => ?_, by omega, by omega, i5, fun j j1 j2 i z => i6 j j1 (by omega) i ?_⟩
        · by_cases d : i < y.1 451 0
          · have hc : pO st k i y.1 := by
              rcases C with ⟨C1, C2, C3⟩ | C
              · exact ⟨C1, by omega, by omega⟩
              · omega
            exact ⟨k, k0, by omega, i6 k k0 (by omega) i hc⟩
          · exact i2 i (by omega) a2
        · unfold pO at z ⊢
          rw [K.1 458 _ (by omega), K.1 463 _ (by omega), K.1 464 _ (by omega)]
          exact z
theorem pa_close_P {y : yT × Int} (h : pa_close G st T p b = some y) (h8 : T 453 st ≤ 8) (h0 : 0 ≤ T 453 st) : pX st T y.1 ∧ y.2 = p + 1 ∧ G p = 125 ∧ (∀ (g : Nat) (i : Int), g ≠ 468 → y.1 g i = T g i) := by
  obtain ⟨c1, c2, c3, c4⟩ := pa_close_k h
  have K := pa_rels_k _ _ _ c4
  exact ⟨⟨fun g i hn => K g i (by omega), ⟨by rw [K 450 0 (by omega)]; exact Int.le_refl _, fun i _ => ⟨K 454 i (by omega), K 455 i (by omega)⟩⟩, by rw [K 451 0 (by omega)]; exact Int.le_refl _, fun i _ => K 456 i (by omega)⟩, c2, c3, fun g i hg => K g i (by omega)⟩
/-- the tables as a structure begins -/
def pa_new (st c : Int) (T : yT) : yT := pa_w 449 0 (T 449 0 + 1) (pa_w 453 st 0 (pa_w 452 st c T))
/-- a structure that is taken -/
theorem pa_str_P {y : yT × Int} (hY : ∀ p, 0 ≤ p → p < n → Y p = G p) (hG : ∀ p, G p ≠ -1 → 0 ≤ p ∧ p < n) (h : pa_str G st T p = some y) (p0 : 0 ≤ p) (t0 : 0 ≤ T 450 0) (t1 : 0 ≤ T 451 0) : pX st (pa_new st (G p - 65) T) y.1 ∧ (∀ i, T 451 0 ≤ i → i < y.1 451 0 → ∃ j, 0 ≤ j ∧ j < y.1 453 st ∧ pO st j i y.1) ∧ (2 * (y.1 450 0 - T 450 0) ≤ y.2 - p ∧ 2 * (y.1 451 0 - T 451 0) ≤ y.2 - p ∧ p + 1 ≤ y.2) ∧ (0 ≤ y.1 453 st ∧ y.1 453 st ≤ 8) ∧ y.2 ≤ n ∧ (65 ≤ G p ∧ G p ≤ 90) := by
  unfold pa_str at h
  split at h
  · rename_i c
    have h : (pa_fields G st 8 0 (pa_new st (G p - 65) T) (p + 1 + 1) 0).bind (fun x => pa_close G st x.1 x.2.1 x.2.2) = some y := h
    have e3 : pa_new st (G p - 65) T 453 st = 0 := (pa_w_nk (by decide)).trans pa_w_eq
    have e0 : pa_new st (G p - 65) T 450 0 = T 450 0 := (pa_w_nk (by decide)).trans ((pa_w_nk (by decide)).trans (pa_w_nk (by decide)))
    have e1 : pa_new st (G p - 65) T 451 0 = T 451 0 := (pa_w_nk (by decide)).trans ((pa_w_nk (by decide)).trans (pa_w_nk (by decide)))
    cases e : pa_fields G st 8 0 (pa_new st (G p - 65) T) (p + 1 + 1) 0 with
    | none => rw [e] at h; cases h
    | some x =>
      rw [e] at h
      have h : pa_close G st x.1 x.2.1 x.2.2 = some y := h
      obtain ⟨a1, a2, a3, a4, a5, a6⟩ := pa_fields_P (Y := Y) hY hG 8 0 _ _ _ x e e3.symm (by decide) (by decide) (by omega) (by omega) (by omega) ⟨rfl, by decide, by decide⟩
      obtain ⟨b1, b2, b3, b4⟩ := pa_close_P h a5 a4
      have lx := hG x.2.1 (by omega)
      rw [b4 450 0 (by decide), b4 451 0 (by decide), b4 453 st (by decide)]
      rw [e0, e1] at a3
      rw [e1] at a2
      refine ⟨a1.tr b1, fun i i1 i2 => ?_, by omega, ⟨a4, a5⟩, by omega, c.1.1.1, c.1.1.2.1⟩
      obtain ⟨j, j1, j2, j3⟩ := a2 i i1 i2
      refine ⟨j, j1, j2, ?_⟩
      unfold pO at j3 ⊢
      rw [b4 458 _ (by decide), b4 463 _ (by decide), b4 464 _ (by decide)]
      exact j3
  · cases h
/-- names looked up behind one more structure -/
theorem pa_ix_s {g h : Int → Int} {c : Int} : ∀ (m : Nat) (k : Int), (∀ i, k ≤ i → i < k + m → h i = g i) → 0 ≤ k → pa_ix h c (m + 1) k = if pa_ix g c m k = -1 then (if h (k + m) = c then k + m else -1) else pa_ix g c m k := by
  intro m
  induction m with
  | zero =>
    intro k e k0
    unfold pa_ix
    rw [show k + ((0 : Nat) : Int) = k by omega]
    rfl
  | succ m ih =>
    intro k e k0
    rw [pa_ix]
    conv => rhs; rw [pa_ix]
    rw [e k (by omega) (by omega)]
    by_cases d : g k = c
    · rw [if_pos d, if_pos d, if_neg (by omega)]
    · rw [if_neg d, if_neg d, ih (k + 1) (fun i i1 i2 => e i (by omega) (by omega)) (by omega), show k + 1 + (m : Int) = k + ((m + 1 : Nat) : Int) by omega]
theorem pa_sn_s {c : Int} (h0 : 0 ≤ T 449 0) (e9 : U 449 0 = T 449 0 + 1) (e2 : ∀ i, 0 ≤ i → i < T 449 0 → U 452 i = T 452 i) : pa_sn U c = if pa_sn T c = -1 then (if U 452 (T 449 0) = c then T 449 0 else -1) else pa_sn T c := by
  unfold pa_sn
  rw [e9, show (T 449 0 + 1).toNat = (T 449 0).toNat + 1 by omega, pa_ix_s (g := T 452) _ 0 (fun i i1 i2 => e2 i i1 (by omega)) (by decide), show (0 : Int) + ((T 449 0).toNat : Int) = T 449 0 by omega]
end
