/-! the class's parser is pa_all -/
def pa_QF (q : Nat) (s : zS) (x : Option yT) (v : Int) (u : zS) : Prop :=
  match x with
  | none => v = 0 ∧ pa_fr q s u
  | some U => v = 1 ∧ pa_fr q s u ∧ ∀ f i, 448 ≤ f → f < 469 → u.1 f q i = U f i
theorem pa_QF.fr {q : Nat} {s s0 u : zS} {x : Option yT} {v : Int} (h : pa_QF q s x v u) (a : pa_fr q s0 s) : pa_QF q s0 x v u := by
  cases x with
  | none => exact ⟨h.1, a.tr h.2⟩
  | some y => exact ⟨h.1, a.tr h.2.1, h.2.2⟩
theorem pa_close_k {G : Int → Int} {st p b : Int} {T : yT} {y : yT × Int} (h : pa_close G st T p b = some y) : b = 0 ∧ y.2 = p + 1 ∧ G p = 125 ∧ pa_rels st (T 453 st).toNat 0 T = some y.1 := by
  unfold pa_close at h
  cases e : pa_rels st (T 453 st).toNat 0 T with
  | none => rw [e] at h; cases h
  | some U =>
    rw [e] at h
    have h : (if b = 0 ∧ G p = 125 then some (U, p + 1) else none) = some y := h
    split at h
    · rename_i c
      injection h with h
      rw [← h]
      exact ⟨c.1, rfl, c.2, rfl⟩
    · cases h
section
variable {q : Nat} {X : Int → Int} {n p st b : Int} {T : yT} {s : zS}
theorem pa36_73 {zk : Nat → Int → zS → zR} {cont : yT → Int → Option yT} (hX : pa_X X n) (h6 : 0 ≤ st ∧ st < 6)
    (hz : ∀ (T : yT) (p : Int) (u : zS), pa_at q X n T p st 0 u → pa_okS T → T 449 0 = st + 1 → 0 ≤ p ∧ p ≤ n + 1 → zw (zk 0 (st + 1) u) (pa_QF q u (cont T p)))
    (h : pa_at q X n T p st b s) (ok : pa_ok T st) (h9 : T 449 0 = st + 1) (p1 : 0 ≤ p ∧ p ≤ n + 1) : zw (zf_36_73 zk 0 st s) (pa_QF q s ((pa_close (pa_sg X n) st T p b).bind fun y => cont y.1 y.2)) := by
  unfold zf_36_73
  refine zw_C' (pa43 hX h6 h ok p1) fun v u g => ?_
  cases e : pa_close (pa_sg X n) st T p b with
  | none =>
    rw [e] at g
    rw [g.1, if_pos rfl]
    exact zw_z0 ⟨rfl, g.2⟩
  | some y =>
    rw [e] at g
    obtain ⟨g1, g2, g3, g4, g5⟩ := g
    obtain ⟨k1, k2, k3, k4⟩ := pa_close_k e
    have K := pa_rels_k _ _ _ k4
    rw [g1, if_neg (by decide), zg_ok ⟨by omega, by omega⟩]
    rw [k1] at g2
    exact (hz y.1 y.2 u g2 ⟨g4.1, g4.2.1, g4.2.2.1⟩ ((K 449 0 (by omega)).trans h9) g5).mono fun v t g => pa_QF.fr g g3
theorem pa36_35 {zk : Nat → Int → zS → zR} {cont : yT → Int → Option yT} (hX : pa_X X n) (h6 : 0 ≤ st ∧ st < 6)
    (hz : ∀ (T : yT) (p : Int) (u : zS), pa_at q X n T p st 0 u → pa_okS T → T 449 0 = st + 1 → 0 ≤ p ∧ p ≤ n + 1 → zw (zk 0 (st + 1) u) (pa_QF q u (cont T p))) :
    ∀ (m N : Nat) (k : Int) (T : yT) (p b : Int) (s : zS), m < N → 0 ≤ k → k ≤ 8 → m = (8 - k).toNat → T 453 st = k → T 449 0 = st + 1 → 0 ≤ b ∧ b ≤ 7 → pa_at q X n T p st b s → pa_ok T st → 0 ≤ p ∧ p ≤ n + 1 →
    zw (zf_36_35 zk N 0 st k s) (pa_QF q s ((pa_fields (pa_sg X n) st m k T p b).bind fun x => (pa_close (pa_sg X n) st x.1 x.2.1 x.2.2).bind fun y => cont y.1 y.2)) := by
  intro m
  induction m with
  | zero =>
    intro N k T p b s hN k0 k8 hm hk h9 hb h ok p1
    obtain ⟨N, rfl⟩ : ∃ M, N = M + 1 := ⟨N - 1, by omega⟩
    unfold zf_36_35 pa_fields
    rw [if_pos (by omega)]
    exact pa36_73 hX h6 hz h ok h9 p1
  | succ m ih =>
    intro N k T p b s hN k0 k8 hm hk h9 hb h ok p1
    obtain ⟨N, rfl⟩ : ∃ M, N = M + 1 := ⟨N - 1, by omega⟩
    unfold zf_36_35 pa_fields
    rw [if_neg (by omega), h.2.2.2.1]
    by_cases c1 : pa_sg X n p = 125
    · rw [if_pos c1, if_pos c1]
      exact pa36_73 hX h6 hz h ok h9 p1
    · rw [if_neg c1, if_neg c1, zg_ok ⟨by omega, by omega⟩, zg_ok ⟨by omega, by omega⟩, show st * 8 + k = 8 * st + k by omega]
      refine zw_C' (pa46 hX hk.symm (by omega) h6 hb h ok p1) fun v u g => ?_
      cases e : pa_field (pa_sg X n) st k T p b with
      | none =>
        rw [e] at g
        rw [g.1, if_pos rfl]
        exact zw_z0 ⟨rfl, g.2⟩
      | some y =>
        rw [e] at g
        obtain ⟨g1, g2, g3, g4, g5, g6⟩ := g
        have K := pa_field_k e
        rw [g1, if_neg (by decide), zg_ok ⟨by omega, by omega⟩]
        exact (ih N (k + 1) y.1 y.2.1 y.2.2 u (by omega) (by omega) (by omega) (by omega) (by rw [K.2.2.2, hk]) ((K.1 449 0 (by omega)).trans h9) g6 g2 g4 g5).mono fun v t g => pa_QF.fr g g3
theorem pa44_2 : ∀ (m N : Nat) (k : Int) (T : yT) (s : zS), m < N → 0 ≤ k → m = (T 451 0 - k).toNat → T 451 0 ≤ 100 → T 449 0 ≤ 6 → pa_at q X n T p st b s → zw (zf_44_2 N 0 k s) (pa_QF q s (pa_chs m k T)) := by
  intro m
  induction m with
  | zero =>
    intro N k T s hN hk hm h1 h2 h
    obtain ⟨N, rfl⟩ : ∃ M, N = M + 1 := ⟨N - 1, by omega⟩
    unfold zf_44_2 pa_chs
    rw [h.O, h.2.2.2.2.2.2.1 451 _ (by decide) (by decide), if_pos (by omega)]
    exact zw_z1 ⟨rfl, pa_fr.rf, fun f i f1 f2 => h.2.2.2.2.2.2.1 f i f1 f2⟩
  | succ m ih =>
    intro N k T s hN hk hm h1 h2 h
    obtain ⟨N, rfl⟩ : ∃ M, N = M + 1 := ⟨N - 1, by omega⟩
    unfold zf_44_2 pa_chs
    rw [h.O, h.2.2.2.2.2.2.1 451 _ (by decide) (by decide), if_neg (by omega), h.O, h.O, zn_ok (by omega), h.O, h.2.2.2.2.2.2.1 456 _ (by decide) (by decide), pa97 h h2, zC_zi, zW_ok (by omega)]
    have h3 := h.qw (f := 456) (i := k) (v := pa_sn T (T 456 k)) (by decide)
    rw [h3.O, zn_ok (by omega), zp_eq]
    by_cases c : pa_sn T (T 456 k) = -1
    · rw [if_pos c, if_pos c]
      exact zw_z0 ⟨rfl, pa_fr.rf.qw (by decide)⟩
    · rw [if_neg c, if_neg c, zg_ok ⟨by omega, by omega⟩]
      exact (ih N (k + 1) _ _ (by omega) (by omega) (by rw [pa_w_nk (by decide)]; omega) (by rw [pa_w_nk (by decide)]; exact h1) (by rw [pa_w_nk (by decide)]; exact h2) h3).mono fun v t g => pa_QF.fr g (pa_fr.rf.qw (by decide))
def pa_fin2 (G : Int → Int) (x : yT × Int) : Option yT := if G x.2 = -1 ∧ 0 < x.1 449 0 then pa_chs (x.1 451 0).toNat 0 x.1 else none
theorem pa36_88 (h : pa_at q X n T p st b s) (ok : pa_okS T) : zw (zf_36_88 0 s) (pa_QF q s (pa_fin2 (pa_sg X n) (T, p))) := by
  have o3 := ok.2.2
  unfold zf_36_88 pa_fin2
  dsimp only
  rw [h.2.2.2.1]
  by_cases c1 : pa_sg X n p = -1
  · rw [if_pos c1, h.O, h.2.2.2.2.2.2.1 449 _ (by decide) (by decide)]
    by_cases c2 : T 449 0 ≤ 0
    · rw [if_pos c2, if_neg (by omega)]
      exact zw_z0 ⟨rfl, pa_fr.rf⟩
    · rw [if_neg c2, if_pos ⟨c1, by omega⟩]
      refine zw_C' (pa44_2 (T 451 0).toNat xfu 0 T s (pa_fu (by omega)) (Int.le_refl _) (by omega) o3.2 ok.1.2 h) fun v u g => ?_
      revert g
      generalize pa_chs (T 451 0).toNat 0 T = x
      intro g
      cases x with
      | none =>
        rw [g.1]
        exact zw_z0 ⟨rfl, g.2⟩
      | some U =>
        rw [g.1]
        exact zw_z1 ⟨rfl, g.2⟩
  · rw [if_neg c1, if_neg (fun z => c1 z.1)]
    exact zw_z0 ⟨rfl, pa_fr.rf⟩
theorem pa36_8 (hX : pa_X X n) : ∀ (m N : Nat) (st t : Int) (T : yT) (p : Int) (s : zS), m < N → 0 ≤ st → st ≤ 6 → m = (6 - st).toNat → T 449 0 = st → pa_at q X n T p t 0 s → pa_okS T → 0 ≤ p ∧ p ≤ n + 1 → zw (zf_36_8 N 0 st s) (pa_QF q s ((pa_strs (pa_sg X n) m st T p).bind (pa_fin2 (pa_sg X n)))) := by
  intro m
  induction m with
  | zero =>
    intro N st t T p s hN s0 s6 hm h9 h ok p1
    obtain ⟨N, rfl⟩ : ∃ M, N = M + 1 := ⟨N - 1, by omega⟩
    unfold zf_36_8 pa_strs
    rw [if_pos (by omega)]
    exact pa36_88 h ok
  | succ m ih =>
    intro N st t T p s hN s0 s6 hm h9 h ok p1
    obtain ⟨N, rfl⟩ : ∃ M, N = M + 1 := ⟨N - 1, by omega⟩
    unfold zf_36_8 pa_strs
    rw [if_neg (by omega), h.2.2.2.1]
    by_cases c1 : pa_sg X n p = -1
    · rw [if_pos c1, if_pos c1]
      exact pa36_88 h ok
    · rw [if_neg c1, if_neg c1]
      refine zw_C' (pa42 hX h ok ⟨h9.symm, by omega⟩ p1) fun v u g => ?_
      unfold pa_str
      by_cases c2 : ((65 ≤ pa_sg X n p ∧ pa_sg X n p ≤ 90 ∧ pa_sg X n p ≠ 87) ∧ pa_sn T (pa_sg X n p - 65) = -1) ∧ pa_sg X n (p + 1) = 123
      · rw [if_pos c2] at g
        rw [if_pos c2]
        obtain ⟨g1, g2, g3, g4, g5⟩ := g
        rw [g1, if_neg (by decide)]
        have d := pa36_35 (cont := fun T p => (pa_strs (pa_sg X n) m (st + 1) T p).bind (pa_fin2 (pa_sg X n))) hX ⟨s0, by omega⟩ (fun T p u a o e p1 => ih N (st + 1) st T p u (by omega) (by omega) (by omega) (by omega) e a o p1) 8 xfu 0 _ _ 0 u (pa_fu (by decide)) (by decide) (by decide) (by decide) (by dsimp only; rw [pa_w_nk (by decide), pa_w_eq]) (by dsimp only; rw [pa_w_eq, h9]) (by decide) g2 g4 g5
        refine d.mono fun v t g => ?_
        rw [Option.bind_assoc, Option.bind_assoc]
        exact pa_QF.fr g g3
      · rw [if_neg c2] at g
        rw [if_neg c2]
        rw [g.1, if_pos rfl]
        exact zw_z0 ⟨rfl, g.2⟩
theorem pa36 (hX : pa_X X n) (hq : q < s.2.1) (hn : s.1 1 0 0 = n) (hb : ∀ i, 0 ≤ i → i < n → s.1 0 0 i = X i) : zw (zf_36 0 0 (q + 1) s) (pa_QF q s (pa_all (pa_sg X n) fun f i => s.1 f q i)) := by
  have hX1 := hX.1
  unfold zf_36 zf_37
  rw [zP_ok, zP_ok, show (zp 257 0 0 ((q : Int) + 1) (zp 256 0 0 (((0 : Nat) : Int) + 1) s)).1 257 0 0 = (q : Int) + 1 from zp_eq, zO_ok (s := zp 257 0 0 ((q : Int) + 1) (zp 256 0 0 (((0 : Nat) : Int) + 1) s)) (q := q) rfl hq]
  unfold zf_96
  rw [zP_ok, zP_ok, zP_ok, zC_zi, zP_ok, zP_ok]
  have e : ∀ (f m : Nat) (i : Int), f < 256 ∨ f = 260 → (zp 258 0 0 (-1) (zp 261 0 0 0 (zp 451 q 0 0 (zp 450 q 0 0 (zp 449 q 0 0 (zp 257 0 0 ((q : Int) + 1) (zp 256 0 0 (((0 : Nat) : Int) + 1) s))))))).1 f m i = s.1 f m i := fun f m i hf => by
    rw [zp_nk (by omega), zp_nk (by omega), zp_nk (by omega), zp_nk (by omega), zp_nk (by omega), zp_nk (by omega), zp_nk (by omega)]
  have e256 : (zp 258 0 0 (-1) (zp 261 0 0 0 (zp 451 q 0 0 (zp 450 q 0 0 (zp 449 q 0 0 (zp 257 0 0 ((q : Int) + 1) (zp 256 0 0 (((0 : Nat) : Int) + 1) s))))))).1 256 0 0 = 1 := by
    rw [zp_nk (by decide), zp_nk (by decide), zp_nk (by decide), zp_nk (by decide), zp_nk (by decide), zp_nk (by decide), zp_eq]
    rfl
  have e257 : (zp 258 0 0 (-1) (zp 261 0 0 0 (zp 451 q 0 0 (zp 450 q 0 0 (zp 449 q 0 0 (zp 257 0 0 ((q : Int) + 1) (zp 256 0 0 (((0 : Nat) : Int) + 1) s))))))).1 257 0 0 = (q : Int) + 1 := by
    rw [zp_nk (by decide), zp_nk (by decide), zp_nk (by decide), zp_nk (by decide), zp_nk (by decide), zp_eq]
  have e261 : (zp 258 0 0 (-1) (zp 261 0 0 0 (zp 451 q 0 0 (zp 450 q 0 0 (zp 449 q 0 0 (zp 257 0 0 ((q : Int) + 1) (zp 256 0 0 (((0 : Nat) : Int) + 1) s))))))).1 261 0 0 = 0 := by
    rw [zp_nk (by decide), zp_eq]
  have eT : ∀ (f : Nat) (i : Int), 448 ≤ f → (zp 258 0 0 (-1) (zp 261 0 0 0 (zp 451 q 0 0 (zp 450 q 0 0 (zp 449 q 0 0 (zp 257 0 0 ((q : Int) + 1) (zp 256 0 0 (((0 : Nat) : Int) + 1) s))))))).1 f q i = pa_w 451 0 0 (pa_w 450 0 0 (pa_w 449 0 0 fun f i => s.1 f q i)) f i := fun f i f1 => by
    rw [zp_nk (by omega), zp_nk (by omega)]
    unfold pa_w
    rw [zp_1]
    by_cases c1 : f = 451 ∧ i = 0
    · rw [if_pos ⟨c1.1, rfl, c1.2⟩, if_pos c1]
    · rw [if_neg (fun z => c1 ⟨z.1, z.2.2⟩), if_neg c1, zp_1]
      by_cases c2 : f = 450 ∧ i = 0
      · rw [if_pos ⟨c2.1, rfl, c2.2⟩, if_pos c2]
      · rw [if_neg (fun z => c2 ⟨z.1, z.2.2⟩), if_neg c2, zp_1]
        by_cases c3 : f = 449 ∧ i = 0
        · rw [if_pos ⟨c3.1, rfl, c3.2⟩, if_pos c3]
        · rw [if_neg (fun z => c3 ⟨z.1, z.2.2⟩), if_neg c3, zp_nk (by omega), zp_nk (by omega)]
  have e258 : (zp 258 0 0 (-1) (zp 261 0 0 0 (zp 451 q 0 0 (zp 450 q 0 0 (zp 449 q 0 0 (zp 257 0 0 ((q : Int) + 1) (zp 256 0 0 (((0 : Nat) : Int) + 1) s))))))).1 258 0 0 = -1 := zp_eq
  have F : pa_fr q s (zp 258 0 0 (-1) (zp 261 0 0 0 (zp 451 q 0 0 (zp 450 q 0 0 (zp 449 q 0 0 (zp 257 0 0 ((q : Int) + 1) (zp 256 0 0 (((0 : Nat) : Int) + 1) s))))))) := ((((((pa_fr.rf.pw (by decide)).pw (by decide)).qw (by decide)).qw (by decide)).qw (by decide)).pw (by decide)).pw (by decide)
  have q2 : q < (zp 258 0 0 (-1) (zp 261 0 0 0 (zp 451 q 0 0 (zp 450 q 0 0 (zp 449 q 0 0 (zp 257 0 0 ((q : Int) + 1) (zp 256 0 0 (((0 : Nat) : Int) + 1) s))))))).2.1 := hq
  generalize zp 258 0 0 (-1) (zp 261 0 0 0 (zp 451 q 0 0 (zp 450 q 0 0 (zp 449 q 0 0 (zp 257 0 0 ((q : Int) + 1) (zp 256 0 0 (((0 : Nat) : Int) + 1) s)))))) = t at e e256 e257 e261 eT e258 F q2
  have h1 : t.1 1 0 0 = n := (e 1 0 0 (by decide)).trans hn
  have h0 : ∀ i, 0 ≤ i → i < n → t.1 0 0 i = X i := fun i i1 i2 => (e 0 0 i (by decide)).trans (hb i i1 i2)
  rw [pa_adv0 e256 e258 h1 h0 (by decide) hX1.2, zC_zi, zC_zi]
  have w : ∀ (f m : Nat) (i : Int), f ≠ 258 → f ≠ 259 → (pa_nx X n (-1) t).1 f m i = t.1 f m i := fun f m i f1 f2 => by
    unfold pa_nx
    rw [zp_nk f2, zp_nk f1]
  have hA : pa_at q X n (pa_w 451 0 0 (pa_w 450 0 0 (pa_w 449 0 0 fun f i => s.1 f q i))) 0 (t.1 260 0 0) 0 (pa_nx X n (-1) t) := by
    refine ⟨(w _ _ _ (by decide) (by decide)).trans e256, ⟨(w _ _ _ (by decide) (by decide)).trans e257, q2⟩, ?_, zp_eq, w _ _ _ (by decide) (by decide), (w _ _ _ (by decide) (by decide)).trans e261, fun f i f1 f2 => (w _ _ _ (by omega) (by omega)).trans (eT f i f1), (w _ _ _ (by decide) (by decide)).trans h1, fun i i1 i2 => (w _ _ _ (by decide) (by decide)).trans (h0 i i1 i2)⟩
    unfold pa_nx
    rw [zp_nk (by decide), zp_eq]
    rfl
  have e449 : pa_w 451 0 0 (pa_w 450 0 0 (pa_w 449 0 0 fun f i => s.1 f q i)) 449 0 = 0 := rfl
  exact (pa36_8 hX 6 xfu 0 _ _ 0 _ (pa_fu (by decide)) (by decide) (by decide) (by decide) e449 hA ⟨⟨by rw [e449]; decide, by rw [e449]; decide⟩, ⟨Int.le_refl _, show (0 : Int) ≤ 100 by decide⟩, ⟨Int.le_refl _, show (0 : Int) ≤ 100 by decide⟩⟩ (by omega)).mono fun v u g => pa_QF.fr g F.nx
end
