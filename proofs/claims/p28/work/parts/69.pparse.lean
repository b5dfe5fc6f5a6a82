/-! the class's parser: structures, and the whole text -/
def pa_kf (st k : Int) (T U : yT) : Prop := (∀ (g : Nat) (i : Int), ¬ (g = 450 ∨ g = 451 ∨ g = 454 ∨ g = 455 ∨ g = 456 ∨ (g = 453 ∧ i = st) ∨ (457 ≤ g ∧ g ≤ 468 ∧ i = 8 * st + k)) → U g i = T g i) ∧ (T 450 0 ≤ U 450 0 ∧ ∀ i, i < T 450 0 → U 454 i = T 454 i ∧ U 455 i = T 455 i) ∧ (T 451 0 ≤ U 451 0 ∧ ∀ i, i < T 451 0 → U 456 i = T 456 i) ∧ U 453 st = T 453 st + 1
theorem pa_field_k {G : Int → Int} {st k p b : Int} {T : yT} {x : yT × Int × Int} (h : pa_field G st k T p b = some x) : pa_kf st k T x.1 := by
  unfold pa_field at h
  split at h
  · cases e : pa_type G st (8 * st + k) T (p + 1 + 1) b with
    | none => rw [e] at h; cases h
    | some y =>
      rw [e] at h
      obtain ⟨T2, p2, b2⟩ := y
      have h : (if G p2 = 61 then pa_rel G (8 * st + k) (pa_w 467 (8 * st + k) 0 (pa_w 457 (8 * st + k) (G p - 97) T2)) p2 else some (pa_w 467 (8 * st + k) 0 (pa_w 457 (8 * st + k) (G p - 97) T2), p2)).bind (fun y => if G y.2 = 59 then some (pa_w 453 st (y.1 453 st + 1) y.1, y.2 + 1, b2) else none) = some x := h
      have K := pa_kp.type e
      dsimp only at K
      have d : ∀ z : yT × Int, pa_kp (8 * st + k) (pa_w 467 (8 * st + k) 0 (pa_w 457 (8 * st + k) (G p - 97) T2)) z.1 → (if G z.2 = 59 then some (pa_w 453 st (z.1 453 st + 1) z.1, z.2 + 1, b2) else none) = some x → pa_kf st k T x.1 := by
        intro z K2 h
        split at h
        · injection h with h
          rw [← h]
          obtain ⟨a1, ⟨a2, a3⟩, a4, a5⟩ := K
          obtain ⟨c1, ⟨c2, c3⟩, c4, c5⟩ := K2
          rw [pa_w_nk (by decide), pa_w_nk (by decide)] at c2 c3 c4 c5
          refine ⟨fun g i hn => ?_, ⟨?_, fun i h1 => ⟨?_, ?_⟩⟩, ⟨?_, fun i h1 => ?_⟩, ?_⟩
          · have e2 : pa_w 467 (8 * st + k) 0 (pa_w 457 (8 * st + k) (G p - 97) T2) g i = T2 g i := by
              unfold pa_w
              rw [if_neg (by omega), if_neg (by omega)]
            dsimp only
            rw [show pa_w 453 st (z.1 453 st + 1) z.1 g i = z.1 g i by unfold pa_w; rw [if_neg (by omega)], c1 g i (by omega), e2, a1 g i (by omega)]
          · dsimp only
            rw [pa_w_nk (by decide)]
            exact Int.le_trans a2 c2
          · dsimp only
            have := (c3 i (by omega)).1
            rw [pa_w_nk (by decide), pa_w_nk (by decide)] at this
            rw [pa_w_nk (by decide), this]
            exact (a3 i h1).1
          · dsimp only
            have := (c3 i (by omega)).2
            rw [pa_w_nk (by decide), pa_w_nk (by decide)] at this
            rw [pa_w_nk (by decide), this]
            exact (a3 i h1).2
          · dsimp only
            rw [pa_w_nk (by decide)]
            exact Int.le_trans a4 c4
          · dsimp only
            have := c5 i (by omega)
            rw [pa_w_nk (by decide), pa_w_nk (by decide)] at this
            rw [pa_w_nk (by decide), this]
            exact a5 i h1
          · dsimp only
            rw [pa_w_eq, c1 453 st (by omega), pa_w_nk (by decide), pa_w_nk (by decide), a1 453 st (by omega)]
        · cases h
      by_cases c : G p2 = 61
      · rw [if_pos c] at h
        cases e2 : pa_rel G (8 * st + k) (pa_w 467 (8 * st + k) 0 (pa_w 457 (8 * st + k) (G p - 97) T2)) p2 with
        | none => rw [e2] at h; cases h
        | some z =>
          rw [e2] at h
          exact d z (pa_kp.rel e2) h
      · rw [if_neg c] at h
        exact d (_, p2) pa_kp.rf h
  · cases h
theorem pa_rel1_k {st k : Int} {T U : yT} (h : pa_rel1 st k T = some U) : ∀ (g : Nat) (i : Int), ¬ (g = 468 ∧ i = 8 * st + k) → U g i = T g i := by
  unfold pa_rel1 at h
  intro g i hn
  split at h
  · injection h with h
    rw [← h]
  · split at h
    · cases h
    · split at h
      · cases h
      · injection h with h
        rw [← h]
        unfold pa_w
        rw [if_neg hn]
theorem pa_rels_k {st : Int} {U : yT} : ∀ (m : Nat) (k : Int) (T : yT), pa_rels st m k T = some U → ∀ (g : Nat) (i : Int), ¬ (g = 468 ∧ 8 * st + k ≤ i ∧ i < 8 * st + k + m) → U g i = T g i := by
  intro m
  induction m with
  | zero =>
    intro k T h g i hn
    injection h with h
    rw [← h]
  | succ m ih =>
    intro k T h g i hn
    unfold pa_rels at h
    cases e : pa_rel1 st k T with
    | none => rw [e] at h; cases h
    | some V =>
      rw [e] at h
      rw [ih (k + 1) V h g i (by omega), pa_rel1_k e g i (by omega)]
section
variable {q : Nat} {X : Int → Int} {n p st b : Int} {T : yT} {s : zS}
theorem pa45 {k : Int} (h : pa_at q X n T p st b s) (ok : pa_ok T st) (h6 : 0 ≤ st ∧ st < 6) (hk : 0 ≤ k ∧ k < T 453 st) (p1 : 0 ≤ p ∧ p ≤ n + 1) : zw (zf_45 0 k s) (pa_Q q X n s st b ((pa_rel1 st k T).map fun U => (U, p))) := by
  have o4 := ok.2.2.2.1
  unfold zf_45 pa_rel1
  rw [h.O, h.2.2.2.2.1, zg_ok ⟨by omega, by omega⟩, zg_ok ⟨by omega, by omega⟩, zn_ok (by omega), show st * 8 + k = 8 * st + k by omega, h.2.2.2.2.2.2.1 467 _ (by decide) (by decide)]
  by_cases c1 : T 467 (8 * st + k) = 0
  · rw [if_pos c1, if_pos (Or.inl c1)]
    exact zw_z1 ⟨rfl, h, pa_fr.rf, ok, p1⟩
  · rw [if_neg c1]
    by_cases c2 : T 467 (8 * st + k) = 61
    · rw [if_pos c2, if_pos (Or.inr c2)]
      exact zw_z1 ⟨rfl, h, pa_fr.rf, ok, p1⟩
    · rw [if_neg c2, if_neg (by omega), h.O, zn_ok (by omega), h.O, h.2.2.2.2.2.2.1 468 _ (by decide) (by decide), pa98 h h6 o4.2, zC_zi]
      have hb := pa_pl_b (T := T) (st := st) (c := T 468 (8 * st + k)) o4.1
      generalize pa_pl T st (T 468 (8 * st + k)) = o at hb ⊢
      by_cases c3 : o = -1
      · rw [if_pos c3, if_pos (Or.inl c3)]
        exact zw_z0 ⟨rfl, pa_fr.rf⟩
      · rw [if_neg c3]
        by_cases c4 : o = k
        · rw [if_pos c4, if_pos (Or.inr c4)]
          exact zw_z0 ⟨rfl, pa_fr.rf⟩
        · have h1 := h.qw (f := 468) (i := 8 * st + k) (v := 8 * st + o) (by decide)
          rw [if_neg c4, if_neg (by omega), h.O, h.2.2.2.2.1, zg_ok ⟨by omega, by omega⟩, zg_ok ⟨by omega, by omega⟩, zW_ok (by omega), show st * 8 + o = 8 * st + o by omega]
          have F : pa_fr q s (zp 468 q (8 * st + k) (8 * st + o) s) := pa_fr.rf.qw (by decide)
          have yes : zw (zz 1 (zp 468 q (8 * st + k) (8 * st + o) s)) (pa_Q q X n s st b ((some (pa_w 468 (8 * st + k) (8 * st + o) T)).map fun U => (U, p))) := zw_z1 ⟨rfl, h1, F, ok.w (by decide), p1⟩
          by_cases c5 : T 467 (8 * st + k) = 37
          · rw [if_pos c5, h1.O, h1.2.2.2.2.1, zg_ok ⟨by omega, by omega⟩, zg_ok ⟨by omega, by omega⟩, zn_ok (by omega), show st * 8 + o = 8 * st + o by omega, zp_nk (by decide), h.2.2.2.2.2.2.1 458 _ (by decide) (by decide)]
            by_cases c6 : T 458 (8 * st + o) = 91
            · rw [if_pos c6, if_neg (fun z => z.2 c6)]
              exact yes
            · rw [if_neg c6, if_pos ⟨c5, c6⟩]
              exact zw_z0 ⟨rfl, F⟩
          · rw [if_neg c5, if_neg (fun z => c5 z.1)]
            exact yes
theorem pa43_2 (hX : pa_X X n) (h6 : 0 ≤ st ∧ st < 6) : ∀ (m N : Nat) (k : Int) (T : yT) (s : zS), m < N → 0 ≤ k → m = (T 453 st - k).toNat → pa_at q X n T p st b s → pa_ok T st → 0 ≤ p ∧ p ≤ n + 1 → zw (zf_43_2 N 0 k s) (pa_Q q X n s st b ((pa_rels st m k T).bind fun U => if b = 0 ∧ pa_sg X n p = 125 then some (U, p + 1) else none)) := by
  intro m
  induction m with
  | zero =>
    intro N k T s hN hk hm h ok p1
    obtain ⟨N, rfl⟩ : ∃ M, N = M + 1 := ⟨N - 1, by omega⟩
    unfold zf_43_2 pa_rels
    rw [h.O, h.2.2.2.2.1, zn_ok (by omega), h.2.2.2.2.2.2.1 453 _ (by decide) (by decide), if_pos (by omega), h.2.2.2.2.2.1]
    dsimp only [Option.bind]
    by_cases c1 : b = 0
    · rw [if_pos c1]
      have d := pa_zi (pa_due (c := 125) hX (by decide) h ok p1)
      by_cases c2 : pa_sg X n p = 125
      · rw [if_pos c2] at d
        rw [if_pos ⟨c1, c2⟩]
        exact d
      · rw [if_neg c2] at d
        rw [if_neg (fun z => c2 z.2)]
        exact d
    · rw [if_neg c1, if_neg (fun z => c1 z.1)]
      exact zw_z0 ⟨rfl, pa_fr.rf⟩
  | succ m ih =>
    intro N k T s hN hk hm h ok p1
    obtain ⟨N, rfl⟩ : ∃ M, N = M + 1 := ⟨N - 1, by omega⟩
    have o4 := ok.2.2.2.1
    unfold zf_43_2 pa_rels
    rw [h.O, h.2.2.2.2.1, zn_ok (by omega), h.2.2.2.2.2.2.1 453 _ (by decide) (by decide), if_neg (by omega)]
    have d := pa_bind (f := fun y => (pa_rels st m (k + 1) y.1).bind fun U => if b = 0 ∧ pa_sg X n p = 125 then some (U, p + 1) else none) (pa45 h ok h6 ⟨hk, by omega⟩ p1) (K := fun v10 s9 => if v10 = 0 then (zz 0 s9) else (zg (k + 1) ((zf_43_2 N 0 (k + 1) s9)))) (fun u => by rw [if_pos rfl]; rfl) (fun y u hy a o y1 y2 => by
      rw [if_neg (by decide), zg_ok ⟨by omega, by omega⟩]
      cases e : pa_rel1 st k T with
      | none => rw [e] at hy; cases hy
      | some U =>
        rw [e] at hy
        injection hy with hy
        rw [← hy] at a o ⊢
        have := pa_rel1_k e 453 st (by omega)
        exact ih N (k + 1) U u (by omega) (by omega) (by omega) a o p1)
    cases e : pa_rel1 st k T with
    | none =>
      rw [e] at d
      exact d
    | some U =>
      rw [e] at d
      exact d
theorem pa43 (hX : pa_X X n) (h6 : 0 ≤ st ∧ st < 6) (h : pa_at q X n T p st b s) (ok : pa_ok T st) (p1 : 0 ≤ p ∧ p ≤ n + 1) : zw (zf_43 0 s) (pa_Q q X n s st b (pa_close (pa_sg X n) st T p b)) := by
  have o4 := ok.2.2.2.1
  exact pa43_2 hX h6 _ xfu 0 T s (pa_fu (by omega)) (Int.le_refl _) (by omega) h ok p1
/-- what is so between structures -/
def pa_okS (T : yT) : Prop := (0 ≤ T 449 0 ∧ T 449 0 ≤ 6) ∧ (0 ≤ T 450 0 ∧ T 450 0 ≤ 100) ∧ (0 ≤ T 451 0 ∧ T 451 0 ≤ 100)
theorem pa_at.sw {v : Int} (h : pa_at q X n T p st b s) : pa_at q X n T p v b (zp 260 0 0 v s) := by
  obtain ⟨h1, h2, h3, h4, h5, h6, h7, h8, h9⟩ := h
  have e : ∀ (g m : Nat) (j : Int), g ≠ 260 → (zp 260 0 0 v s).1 g m j = s.1 g m j := fun g m j g1 => zp_nk g1
  exact ⟨(e _ _ _ (by decide)).trans h1, ⟨(e _ _ _ (by decide)).trans h2.1, h2.2⟩, (e _ _ _ (by decide)).trans h3, (e _ _ _ (by decide)).trans h4, zp_eq, (e _ _ _ (by decide)).trans h6, fun g j g1 g2 => (e _ _ _ (by omega)).trans (h7 g j g1 g2), (e _ _ _ (by decide)).trans h8, fun j j1 j2 => (e _ _ _ (by decide)).trans (h9 j j1 j2)⟩
theorem pa42 {m : Int} (hX : pa_X X n) (h : pa_at q X n T p st b s) (ok : pa_okS T) (hm : m = T 449 0 ∧ m < 6) (p1 : 0 ≤ p ∧ p ≤ n + 1) : zw (zf_42 0 m s) (pa_Q q X n s m b (if ((65 ≤ pa_sg X n p ∧ pa_sg X n p ≤ 90 ∧ pa_sg X n p ≠ 87) ∧ pa_sn T (pa_sg X n p - 65) = -1) ∧ pa_sg X n (p + 1) = 123 then some (pa_w 449 0 (T 449 0 + 1) (pa_w 453 m 0 (pa_w 452 m (pa_sg X n p - 65) T)), p + 1 + 1) else none)) := by
  have hn := hX.1
  have hG := hX.r p
  obtain ⟨o1, o2, o3⟩ := ok
  unfold zf_42
  rw [pa40, zC_zi, h.2.2.2.1]
  by_cases c1 : 65 ≤ pa_sg X n p ∧ pa_sg X n p ≤ 90 ∧ pa_sg X n p ≠ 87
  · have hp := pa_lt (X := X) (n := n) (p := p) (by omega)
    rw [if_pos c1, if_neg (by decide), h.O, zg_ok ⟨by omega, by omega⟩, pa97 h o1.2, zC_zi]
    by_cases c2 : pa_sn T (pa_sg X n p - 65) = -1
    · have h1 := h.sw (v := m)
      have h2 := h1.qw (f := 452) (i := m) (v := pa_sg X n p - 65) (by decide)
      have h3 := h2.qw (f := 453) (i := m) (v := 0) (by decide)
      have h4 := h3.qw (f := 449) (i := 0) (v := T 449 0 + 1) (by decide)
      rw [if_pos c2, zP_ok, h1.O, h1.2.2.2.1, zg_ok ⟨by omega, by omega⟩, zW_ok (by omega), h2.O, zW_ok (by omega), h3.O, zp_nk (by decide), zp_nk (by decide), zp_nk (by decide), h.2.2.2.2.2.2.1 449 0 (by decide) (by decide), zg_ok ⟨by omega, by omega⟩, zP_ok, pa_adv h4 (by omega) hn.2, zC_zi]
      have F : pa_fr q s (pa_nx X n p (zp 449 q 0 (T 449 0 + 1) (zp 453 q m 0 (zp 452 q m (pa_sg X n p - 65) (zp 260 0 0 m s))))) := ((((pa_fr.rf.pw (by decide)).qw (by decide)).qw (by decide)).qw (by decide)).nx
      have o5 : pa_ok (pa_w 449 0 (T 449 0 + 1) (pa_w 453 m 0 (pa_w 452 m (pa_sg X n p - 65) T))) m := by
        refine ⟨?_, ?_, ?_, ?_, fun k k1 k2 => ?_⟩
        · rw [pa_w_eq]
          omega
        · rw [pa_w_nk (by decide), pa_w_nk (by decide), pa_w_nk (by decide)]
          exact o2
        · rw [pa_w_nk (by decide), pa_w_nk (by decide), pa_w_nk (by decide)]
          exact o3
        · rw [pa_w_nk (by decide), pa_w_eq]
          decide
        · rw [pa_w_nk (by decide), pa_w_eq] at k2
          omega
      refine (pa_zz (pa_due (c := 123) hX (by decide) h4.nx o5 (by omega))).mono fun v t g => ?_
      by_cases c3 : pa_sg X n (p + 1) = 123
      · rw [if_pos c3] at g
        rw [if_pos ⟨⟨c1, c2⟩, c3⟩]
        exact pa_Q.fr g F
      · rw [if_neg c3] at g
        rw [if_neg (fun z => c3 z.2)]
        exact pa_Q.fr g F
    · rw [if_neg c2, if_neg (fun z => c2 z.1.2)]
      exact zw_z0 ⟨rfl, pa_fr.rf⟩
  · rw [if_neg c1, if_pos rfl, if_neg (fun z => c1 z.1.1)]
    exact zw_z0 ⟨rfl, pa_fr.rf⟩
end
