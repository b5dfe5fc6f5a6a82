/-! types with bits taken against types with none; a relation that names nothing -/
section
variable {G : Int → Int} {f st p b : Int} {T U : yT}
theorem pa_type_s {x : yT × Int × Int} (h : pa_type G st f T p b = some x) : (G p ≠ 110 ∧ b = 0 ∧ x.2.2 = 0 ∧ pa_type G st f T p 0 = some x) ∨ (G p = 110 ∧ 1 ≤ G (p + 1) - 48 ∧ G (p + 1) - 48 ≤ 8 - b ∧ x.2.1 = p + 1 + 1 ∧ x.2.2 = (if b + (G (p + 1) - 48) = 8 then 0 else b + (G (p + 1) - 48)) ∧ (∀ (g : Nat) (i : Int), ¬ ((g = 458 ∨ g = 459 ∨ g = 460) ∧ i = f) → x.1 g i = T g i) ∧ x.1 458 f = 110 ∧ x.1 459 f = G (p + 1) - 48 ∧ x.1 460 f = 8 - (b + (G (p + 1) - 48))) := by
  have h0 := h
  unfold pa_type at h
  by_cases c : G p = 110
  · right
    rw [if_neg (fun z => z.1 c), if_neg (show ¬ (65 ≤ G p ∧ G p ≤ 90 ∧ G p ≠ 87) by omega)] at h
    unfold pa_plain at h
    rw [if_neg (show ¬ (G p = 98 ∨ G p = 119 ∨ G p = 87 ∨ G p = 122) by omega), if_neg (show ¬ G p = 114 by omega), if_pos c] at h
    split at h
    · cases h
    · rename_i d
      injection h with h
      rw [← h]
      refine ⟨c, by omega, by omega, rfl, rfl, fun g i hn => ?_, ?_, ?_, pa_w_eq⟩
      · dsimp only
        rw [show ∀ V : yT, ∀ v, pa_w 460 f v V g i = V g i from fun V v => if_neg (by omega), show ∀ V : yT, ∀ v, pa_w 459 f v V g i = V g i from fun V v => if_neg (by omega), show ∀ V : yT, ∀ v, pa_w 459 f v V g i = V g i from fun V v => if_neg (by omega)]
        exact if_neg (by omega)
      · dsimp only
        rw [pa_w_nk (by decide), pa_w_nk (by decide), pa_w_nk (by decide), pa_w_eq, c]
      · dsimp only
        rw [pa_w_nk (by decide), pa_w_eq]
  · left
    by_cases e : b = 0
    · subst e
      refine ⟨c, rfl, ?_, h0⟩
      rw [if_neg (fun z => z.2 rfl)] at h
      by_cases d : 65 ≤ G p ∧ G p ≤ 90 ∧ G p ≠ 87
      · rw [if_pos d] at h
        cases e2 : ((pa_names G f (pa_w 458 f 65 T) p).bind fun x => if G x.2 = 91 then pa_cnt G st f x.1 x.2 else some x) with
        | none => rw [e2] at h; cases h
        | some y =>
          rw [e2] at h
          injection h with h
          rw [← h]
      · rw [if_neg d] at h
        unfold pa_plain at h
        split at h
        · injection h with h
          rw [← h]
        · split at h
          · cases e2 : pa_cho G (pa_w 464 f ((pa_w 459 f (if G p = 119 ∨ G p = 87 then 16 else 8) (pa_w 458 f (G p) T)) 451 0 + 1) (pa_w 463 f ((pa_w 459 f (if G p = 119 ∨ G p = 87 then 16 else 8) (pa_w 458 f (G p) T)) 451 0) (pa_w 459 f (if G p = 119 ∨ G p = 87 then 16 else 8) (pa_w 458 f (G p) T)))) (p + 1) with
            | none => rw [e2] at h; cases h
            | some y =>
              rw [e2] at h
              injection h with h
              rw [← h]
          · split at h
            · cases e2 : pa_acc G 41 (pa_sum G st f (pa_w 459 f (if G p = 119 ∨ G p = 87 then 16 else 8) (pa_w 458 f (G p) T)) (p + 1 + 1)) with
              | none => rw [e2] at h; cases h
              | some y =>
                rw [e2] at h
                injection h with h
                rw [← h]
            · cases h
    · rw [if_pos ⟨c, e⟩] at h
      cases h
theorem pa_type_n (h : pa_type G st f T p b = none) : pa_type G st f T p 0 = none ∨ (G p ≠ 110 ∧ b ≠ 0) ∨ (G p = 110 ∧ 8 - b < G (p + 1) - 48) := by
  by_cases c : G p = 110
  · by_cases d : 8 - b < G (p + 1) - 48
    · exact Or.inr (Or.inr ⟨c, d⟩)
    · left
      unfold pa_type at h ⊢
      rw [if_neg (fun z => z.1 c), if_neg (show ¬ (65 ≤ G p ∧ G p ≤ 90 ∧ G p ≠ 87) by omega)] at h ⊢
      unfold pa_plain at h ⊢
      rw [if_neg (show ¬ (G p = 98 ∨ G p = 119 ∨ G p = 87 ∨ G p = 122) by omega), if_neg (show ¬ G p = 114 by omega), if_pos c] at h ⊢
      by_cases e : G (p + 1) - 48 < 1
      · rw [if_pos (Or.inl e)]
      · rw [if_neg (by omega)] at h
        cases h
  · by_cases e : b = 0
    · subst e
      exact Or.inl h
    · exact Or.inr (Or.inl ⟨c, e⟩)
/-- the names of the fields made so far are letters -/
def pa_let (st : Int) (T : yT) : Prop := 0 ≤ T 453 st ∧ ∀ k, 0 ≤ k → k < T 453 st → 0 ≤ T 457 (8 * st + k) ∧ T 457 (8 * st + k) ≤ 25
theorem pa_field_n {k : Int} {x : yT × Int × Int} (h : pa_field G st k T p b = some x) : x.1 457 (8 * st + k) = G p - 97 ∧ 97 ≤ G p ∧ G p ≤ 122 ∧ pa_pl T st (G p - 97) = -1 := by
  unfold pa_field at h
  split at h
  · rename_i c
    refine ⟨?_, c.1⟩
    cases e : pa_type G st (8 * st + k) T (p + 1 + 1) b with
    | none => rw [e] at h; cases h
    | some y =>
      rw [e] at h
      obtain ⟨T2, p2, b2⟩ := y
      have h : (if G p2 = 61 then pa_rel G (8 * st + k) (pa_w 467 (8 * st + k) 0 (pa_w 457 (8 * st + k) (G p - 97) T2)) p2 else some (pa_w 467 (8 * st + k) 0 (pa_w 457 (8 * st + k) (G p - 97) T2), p2)).bind (fun y => if G y.2 = 59 then some (pa_w 453 st (y.1 453 st + 1) y.1, y.2 + 1, b2) else none) = some x := h
      have d : ∀ z : yT × Int, pa_kp (8 * st + k) (pa_w 467 (8 * st + k) 0 (pa_w 457 (8 * st + k) (G p - 97) T2)) z.1 → (if G z.2 = 59 then some (pa_w 453 st (z.1 453 st + 1) z.1, z.2 + 1, b2) else none) = some x → x.1 457 (8 * st + k) = G p - 97 := by
        intro z K h
        split at h
        · injection h with h
          rw [← h]
          dsimp only
          rw [pa_w_nk (by decide), K.1 457 _ (by omega), pa_w_nk (by decide), pa_w_eq]
        · cases h
      by_cases c : G p2 = 61
      · rw [if_pos c] at h
        cases e2 : pa_rel G (8 * st + k) (pa_w 467 (8 * st + k) 0 (pa_w 457 (8 * st + k) (G p - 97) T2)) p2 with
        | none => rw [e2] at h; cases h
        | some z =>
          rw [e2] at h
          exact d z (pa_kp.rel e2) h
      · rw [if_neg c] at h
        exact d (_, p2) pa_kp.rf h
  · cases h
theorem pa_let.nx {k : Int} {x : yT × Int × Int} (hl : pa_let st T) (hk : k = T 453 st) (h : pa_field G st k T p b = some x) : pa_let st x.1 := by
  have K := pa_field_k h
  have n := pa_field_n h
  refine ⟨by have := hl.1; rw [K.2.2.2]; omega, fun i i1 i2 => ?_⟩
  rw [K.2.2.2] at i2
  by_cases e : i = k
  · rw [e, n.1]
    omega
  · rw [K.1 457 _ (by omega)]
    exact hl.2 i i1 (by omega)
theorem pa_rels_po : ∀ (m : Nat) (k k0 : Int) (T : yT), pa_let st T → k ≤ k0 → k0 < k + m → ¬ pa_rok (8 * st + k0) T → pa_rels st m k T = none := by
  intro m
  induction m with
  | zero =>
    intro k k0 T hl h1 h2 hn
    omega
  | succ m ih =>
    intro k k0 T hl h1 h2 hn
    unfold pa_rels
    by_cases e : k = k0
    · subst e
      have e2 : pa_rel1 st k T = none := by
        unfold pa_rok at hn
        unfold pa_rel1
        rw [if_neg (fun z => hn (by omega))]
        have : pa_pl T st (T 468 (8 * st + k)) = -1 := by
          rcases pa_pl_b (T := T) (st := st) (c := T 468 (8 * st + k)) hl.1 with z | ⟨z1, z2, z3⟩
          · exact z
          · have := hl.2 _ z1 z2
            omega
        rw [if_pos (Or.inl this)]
      rw [e2]
      rfl
    · cases e2 : pa_rel1 st k T with
      | none => rfl
      | some V =>
        have K := pa_rel1_k e2
        refine ih (k + 1) k0 V ?_ (by omega) (by omega) ?_
        · unfold pa_let
          rw [K 453 st (by omega)]
          refine ⟨hl.1, fun i i1 i2 => ?_⟩
          rw [K 457 _ (by omega)]
          exact hl.2 i i1 i2
        · unfold pa_rok
          rw [K 467 _ (by omega), K 468 _ (by omega)]
          exact hn
/-- a field whose relation names nothing: the structure is refused when it closes -/
theorem pa_poison {k0 : Int} : ∀ (m : Nat) (k : Int) (T : yT) (p b : Int), pa_let st T → k = T 453 st → 0 ≤ k0 → k0 < k → ¬ pa_rok (8 * st + k0) T → ((pa_fields G st m k T p b).bind fun x => pa_close G st x.1 x.2.1 x.2.2) = none := by
  intro m
  have fin : ∀ (k : Int) (T : yT) (p b : Int), pa_let st T → k = T 453 st → 0 ≤ k0 → k0 < k → ¬ pa_rok (8 * st + k0) T → pa_close G st T p b = none := fun k T p b hl hk h0 h1 hn => by
    unfold pa_close
    rw [pa_rels_po (T 453 st).toNat 0 k0 T hl h0 (by omega) hn]
    rfl
  induction m with
  | zero =>
    intro k T p b hl hk h0 h1 hn
    exact fin k T p b hl hk h0 h1 hn
  | succ m ih =>
    intro k T p b hl hk h0 h1 hn
    unfold pa_fields
    by_cases c : G p = 125
    · rw [if_pos c]
      exact fin k T p b hl hk h0 h1 hn
    · rw [if_neg c]
      cases e : pa_field G st k T p b with
      | none => rfl
      | some x =>
        have K := pa_field_k e
        refine ih (k + 1) x.1 x.2.1 x.2.2 (hl.nx hk e) (by rw [K.2.2.2, hk]) h0 (by omega) ?_
        unfold pa_rok
        rw [K.1 467 _ (by omega), K.1 468 _ (by omega)]
        exact hn
end
