/-! what the functions leave as it was -/
def pa_kp (f : Int) (T U : yT) : Prop := (∀ (g : Nat) (i : Int), ¬ (g = 450 ∨ g = 451 ∨ g = 454 ∨ g = 455 ∨ g = 456 ∨ (458 ≤ g ∧ g ≤ 468 ∧ i = f)) → U g i = T g i) ∧ (T 450 0 ≤ U 450 0 ∧ ∀ i, i < T 450 0 → U 454 i = T 454 i ∧ U 455 i = T 455 i) ∧ (T 451 0 ≤ U 451 0 ∧ ∀ i, i < T 451 0 → U 456 i = T 456 i)
section
variable {G : Int → Int} {f st p b : Int} {T U V : yT}
theorem pa_kp.rf : pa_kp f T T := ⟨fun _ _ _ => rfl, ⟨Int.le_refl _, fun _ _ => ⟨rfl, rfl⟩⟩, Int.le_refl _, fun _ _ => rfl⟩
theorem pa_kp.tr (a : pa_kp f T U) (c : pa_kp f U V) : pa_kp f T V := by
  obtain ⟨a1, ⟨a2, a3⟩, a4, a5⟩ := a
  obtain ⟨c1, ⟨c2, c3⟩, c4, c5⟩ := c
  exact ⟨fun g i h => (c1 g i h).trans (a1 g i h), ⟨Int.le_trans a2 c2, fun i h => ⟨(c3 i (by omega)).1.trans (a3 i h).1, (c3 i (by omega)).2.trans (a3 i h).2⟩⟩, Int.le_trans a4 c4, fun i h => (c5 i (by omega)).trans (a5 i h)⟩
theorem pa_kp.w {g : Nat} {v : Int} (a : pa_kp f T U) (h : 458 ≤ g ∧ g ≤ 468) : pa_kp f T (pa_w g f v U) := by
  obtain ⟨a1, ⟨a2, a3⟩, a4, a5⟩ := a
  refine ⟨fun g' i' hn => ?_, ⟨?_, fun i h1 => ⟨?_, ?_⟩⟩, ?_, fun i h1 => ?_⟩
  · unfold pa_w
    rw [if_neg (fun z => hn (by omega))]
    exact a1 g' i' hn
  · rw [pa_w_nk (by omega)]
    exact a2
  · rw [pa_w_nk (by omega)]
    exact (a3 i h1).1
  · rw [pa_w_nk (by omega)]
    exact (a3 i h1).2
  · rw [pa_w_nk (by omega)]
    exact a4
  · rw [pa_w_nk (by omega)]
    exact a5 i h1
theorem pa_kp.cho {x : yT × Int} (h : pa_cho G T p = some x) : pa_kp f T x.1 := by
  unfold pa_cho at h
  split at h
  · injection h with h
    rw [← h]
    refine ⟨fun g i hn => ?_, ⟨?_, fun i h1 => ⟨?_, ?_⟩⟩, ?_, fun i h1 => ?_⟩
    · dsimp only
      rw [pa_w_nk (by omega), pa_w_nk (by omega)]
    · dsimp only
      rw [pa_w_nk (by decide), pa_w_nk (by decide)]
      exact Int.le_refl _
    · dsimp only
      rw [pa_w_nk (by decide), pa_w_nk (by decide)]
    · dsimp only
      rw [pa_w_nk (by decide), pa_w_nk (by decide)]
    · dsimp only
      rw [pa_w_eq]
      omega
    · dsimp only
      rw [pa_w_nk (by decide), pa_w_ni (by omega)]
  · cases h
theorem pa_kp.more {x : yT × Int} : ∀ (m : Nat) (T : yT) (p : Int), pa_more G f m T p = some x → pa_kp f T x.1 := by
  intro m
  induction m with
  | zero =>
    intro T p h
    unfold pa_more at h
    injection h with h
    rw [← h]
    exact pa_kp.rf.w (by decide)
  | succ m ih =>
    intro T p h
    unfold pa_more at h
    split at h
    · cases e : pa_cho G T (p + 1) with
      | none => rw [e] at h; cases h
      | some y =>
        rw [e] at h
        exact (pa_kp.cho e).tr (ih _ _ h)
    · injection h with h
      rw [← h]
      exact pa_kp.rf.w (by decide)
theorem pa_kp.names {x : yT × Int} (h : pa_names G f T p = some x) : pa_kp f T x.1 := by
  unfold pa_names at h
  cases e : pa_cho G (pa_w 463 f (T 451 0) T) p with
  | none => rw [e] at h; cases h
  | some y =>
    rw [e] at h
    exact (pa_kp.rf.w (by decide)).tr ((pa_kp.cho e).tr (pa_kp.more _ _ _ h))
theorem pa_kp.add {op v : Int} : pa_kp f T (pa_add f op v T) := by
  unfold pa_add
  refine pa_kp.w ⟨fun g i hn => ?_, ⟨?_, fun i h1 => ⟨?_, ?_⟩⟩, ?_, fun i h1 => ?_⟩ (by decide)
  · rw [pa_w_nk (by omega), pa_w_nk (by omega), pa_w_nk (by omega)]
  · rw [pa_w_eq]
    omega
  · rw [pa_w_nk (by decide), pa_w_ni (by omega), pa_w_nk (by decide)]
  · rw [pa_w_nk (by decide), pa_w_nk (by decide), pa_w_ni (by omega)]
  · rw [pa_w_nk (by decide), pa_w_nk (by decide), pa_w_nk (by decide)]
    exact Int.le_refl _
  · rw [pa_w_nk (by decide), pa_w_nk (by decide), pa_w_nk (by decide)]
theorem pa_kp.sumL {x : yT × Int} : ∀ (m : Nat) (op : Int) (T : yT) (p : Int), pa_sumL G st f m op T p = some x → pa_kp f T x.1 := by
  intro m
  induction m with
  | zero =>
    intro op T p h
    cases h
  | succ m ih =>
    intro op T p h
    unfold pa_sumL at h
    cases e : pa_term G st T p with
    | none => rw [e] at h; cases h
    | some y =>
      rw [e] at h
      dsimp only [Option.bind] at h
      split at h
      · split at h
        · exact pa_kp.add.tr (ih _ _ _ h)
        · injection h with h
          rw [← h]
          exact pa_kp.add
      · cases h
theorem pa_kp.sum {x : yT × Int} (h : pa_sum G st f T p = some x) : pa_kp f T x.1 := (pa_kp.rf.w (by decide)).tr (pa_kp.sumL _ _ _ _ h)
theorem pa_kp.acc {c : Int} {x : Option (yT × Int)} {y : yT × Int} (h : pa_acc G c x = some y) : ∃ z, x = some z ∧ y = (z.1, z.2 + 1) ∧ G z.2 = c := by
  unfold pa_acc at h
  cases x with
  | none => cases h
  | some z =>
    dsimp only [Option.bind] at h
    split at h
    · rename_i g
      injection h with h
      exact ⟨z, rfl, h.symm, g⟩
    · cases h
theorem pa_kp.cnt {x : yT × Int} (h : pa_cnt G st f T p = some x) : pa_kp f T x.1 := by
  have k0 : pa_kp f T (pa_w 465 f 43 (pa_w 458 f 91 T)) := (pa_kp.rf.w (by decide)).w (by decide)
  unfold pa_cnt at h
  split at h
  · obtain ⟨z, e, rfl, -⟩ := pa_kp.acc h
    injection e with e
    rw [← e]
    exact k0.w (by decide)
  · split at h
    · split at h
      · cases h
      · obtain ⟨z, e, rfl, -⟩ := pa_kp.acc h
        injection e with e
        rw [← e]
        exact (k0.w (by decide)).w (by decide)
    · split at h
      · obtain ⟨z, e, rfl, -⟩ := pa_kp.acc h
        have k1 := pa_kp.sum e
        exact (k0.w (g := 465) (by decide)).tr k1
      · obtain ⟨z, e, rfl, -⟩ := pa_kp.acc h
        have k1 := pa_kp.sum e
        exact k0.tr k1
theorem pa_kp.plain {x : yT × Int × Int} (h : pa_plain G st f T p b = some x) : pa_kp f T x.1 := by
  unfold pa_plain at h
  split at h
  · injection h with h
    rw [← h]
    exact pa_kp.rf
  · split at h
    · cases e : pa_cho G (pa_w 464 f (T 451 0 + 1) (pa_w 463 f (T 451 0) T)) (p + 1) with
      | none => rw [e] at h; cases h
      | some y =>
        rw [e] at h
        injection h with h
        rw [← h]
        exact ((pa_kp.rf.w (by decide)).w (by decide)).tr (pa_kp.cho e)
    · split at h
      · split at h
        · cases h
        · injection h with h
          rw [← h]
          exact (pa_kp.rf.w (by decide)).w (by decide)
      · split at h
        · cases e : pa_acc G 41 (pa_sum G st f T (p + 1 + 1)) with
          | none => rw [e] at h; cases h
          | some y =>
            rw [e] at h
            injection h with h
            rw [← h]
            obtain ⟨z, e2, rfl, -⟩ := pa_kp.acc e
            have k1 := pa_kp.sum e2
            exact k1
        · cases h
theorem pa_kp.type {x : yT × Int × Int} (h : pa_type G st f T p b = some x) : pa_kp f T x.1 := by
  unfold pa_type at h
  split at h
  · cases h
  · split at h
    · cases e : pa_names G f (pa_w 458 f 65 T) p with
      | none => rw [e] at h; cases h
      | some y =>
        rw [e] at h
        dsimp only [Option.bind] at h
        have k1 := (pa_kp.rf.w (by decide)).tr (pa_kp.names e)
        split at h
        · cases e2 : pa_cnt G st f y.1 y.2 with
          | none => rw [e2] at h; cases h
          | some z =>
            rw [e2] at h
            injection h with h
            rw [← h]
            exact k1.tr (pa_kp.cnt e2)
        · injection h with h
          rw [← h]
          exact k1
    · exact ((pa_kp.rf.w (by decide)).w (by decide)).tr (pa_kp.plain h)
theorem pa_kp.rel {x : yT × Int} (h : pa_rel G f T p = some x) : pa_kp f T x.1 := by
  unfold pa_rel at h
  split at h
  · split at h
    · injection h with h
      rw [← h]
      exact (pa_kp.rf.w (by decide)).w (by decide)
    · split at h
      · injection h with h
        rw [← h]
        exact (pa_kp.rf.w (by decide)).w (by decide)
      · cases h
  · cases h
end
