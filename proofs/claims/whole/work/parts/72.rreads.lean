/-! the reference's parser: fields by name, terms, sums -/
section
variable {t st n N p : Int} {X : Int → Int} {T : yT} {s u : zS} {o : Option Int}
theorem r162_6 {c : Int} (h : rT t st T s) (ht : 0 ≤ t ∧ t ≤ 3) : ∀ (m M : Nat) (j x : Int), m < M → 0 ≤ j → m = (T 453 st - j).toNat → (x = -1 ∨ ∀ i, j ≤ i → i < T 453 st → T 457 (8 * st + i) ≠ c - 97) → zf_162_6 M 0 t st c x j s = zi (if x = -1 then pa_ix (fun k => T 457 (8 * st + k)) (c - 97) m j else x) s := by
  obtain ⟨h1, h2, h3, h4, h5⟩ := h
  intro m
  induction m with
  | zero =>
    intro M j x hM hj hm hx
    obtain ⟨M, rfl⟩ : ∃ L, M = L + 1 := ⟨M - 1, by omega⟩
    unfold zf_162_6 pa_ix
    rw [zg_ok ⟨by omega, by omega⟩, zg_ok ⟨by omega, by omega⟩, zn_ok (by omega), h2, if_pos (show T 453 st ≤ j by omega)]
    by_cases e : x = -1
    · rw [if_pos e, e]
    · rw [if_neg e]
  | succ m ih =>
    intro M j x hM hj hm hx
    obtain ⟨M, rfl⟩ : ∃ L, M = L + 1 := ⟨M - 1, by omega⟩
    have g := (h4 j hj (by omega)).1
    unfold zf_162_6 pa_ix
    rw [zg_ok ⟨by omega, by omega⟩, zg_ok ⟨by omega, by omega⟩, zn_ok (by omega), h2, if_neg (show ¬ T 453 st ≤ j by omega), zg_ok ⟨by omega, by omega⟩, show 8 * (6 * t + st) + j = 48 * t + (8 * st + j) by omega, zg_ok ⟨by omega, by omega⟩, zn_ok (by omega), g]
    by_cases d : T 457 (8 * st + j) + 97 = c
    · have d2 : T 457 (8 * st + j) = c - 97 := by omega
      rcases hx with hx | hx
      · rw [if_pos d, zg_ok ⟨by omega, by omega⟩, if_pos hx, if_pos d2, ih M (j + 1) j (by omega) (by omega) (by omega) (Or.inr fun i i1 i2 e => by
          have := h5 i j (by omega) i2 hj (by omega) (e.trans d2.symm)
          omega), if_neg (by omega)]
      · exact absurd d2 (hx j (Int.le_refl _) (by omega))
    · have d2 : ¬ T 457 (8 * st + j) = c - 97 := by omega
      rw [if_neg d, zg_ok ⟨by omega, by omega⟩, if_neg d2, ih M (j + 1) x (by omega) (by omega) (by omega) (by
        rcases hx with hx | hx
        · exact Or.inl hx
        · exact Or.inr fun i i1 i2 => hx i (by omega) i2)]
theorem r162 {c : Int} (h : rT t st T s) (ht : 0 ≤ t ∧ t ≤ 3) : zf_162 0 t st c s = zi (pa_pl T st (c - 97)) s := by
  have h3 := h.2.2.1
  unfold zf_162
  rw [r162_6 h ht (T 453 st).toNat xfu 0 (-1) (pa_fu (by omega)) (by omega) (by omega) (Or.inl rfl), if_pos rfl]
  rfl
theorem r163_68 {c : Int} (h : rS t X n N o s) (hN : N ≤ 90000) : ∃ u, zf_163_68 0 c s = zi 0 u ∧ rk s u ∧ rS t X n (N + 1) (o.bind fun p => if c = 98 ∨ c = 119 ∨ c = 87 ∨ c = 114 ∨ c = 110 then some (p + 1) else none) u := by
  unfold zf_163_68 zf_163_118
  have a0 := r_step (K := fun s4 => zi 0 s4) h (by omega) (Or.inl rfl : (0 : Int) = 0 ∨ (0 : Int) = 1)
  have a1 := r_step (K := fun s4 => zi 0 s4) h (by omega) (Or.inr rfl : (1 : Int) = 0 ∨ (1 : Int) = 1)
  rw [if_pos rfl] at a0
  rw [if_neg (by decide)] at a1
  rcases h.ob with ⟨e1, e2⟩ | ⟨e1, e2⟩
  · rw [if_pos e1, e2]
    exact ⟨_, a0.1, a0.2.1, a0.2.2⟩
  · rw [if_neg (show ¬ s.1 606 0 0 = 0 by omega), e2]
    dsimp only [Option.bind]
    have yes : ∀ z : c = 98 ∨ c = 119 ∨ c = 87 ∨ c = 114 ∨ c = 110, rS t X n (N + 1) (if c = 98 ∨ c = 119 ∨ c = 87 ∨ c = 114 ∨ c = 110 then some (s.1 605 0 0 + 1) else none) (zp 605 0 0 (s.1 605 0 0 + 1) (zp 606 0 0 1 s)) := fun z => by
      rw [if_pos z]
      exact a1.2.2
    by_cases c1 : c = 98
    · rw [if_pos c1]
      exact ⟨_, a1.1, a1.2.1, yes (by omega)⟩
    · rw [if_neg c1]
      by_cases c2 : c = 119
      · rw [if_pos c2]
        exact ⟨_, a1.1, a1.2.1, yes (by omega)⟩
      · rw [if_neg c2]
        by_cases c3 : c = 87
        · rw [if_pos c3]
          exact ⟨_, a1.1, a1.2.1, yes (by omega)⟩
        · rw [if_neg c3]
          by_cases c4 : c = 114
          · rw [if_pos c4]
            exact ⟨_, a1.1, a1.2.1, yes (by omega)⟩
          · rw [if_neg c4]
            by_cases c5 : c = 110
            · rw [if_pos c5]
              exact ⟨_, a1.1, a1.2.1, yes (by omega)⟩
            · rw [if_neg c5, if_neg (show ¬ (c = 98 ∨ c = 119 ∨ c = 87 ∨ c = 114 ∨ c = 110) by omega)]
              exact ⟨_, a0.1, a0.2.1, a0.2.2⟩
theorem r163 (hX : pa_X X n) (hT : rT t st T s) (h : rS t X n N o s) (hN : n ≤ N ∧ N ≤ 80000) : zw (zf_163 0 t st s) fun _ u => rk s u ∧ rS t X n (N + 3) (o.bind fun p => (pa_term (pa_sg X n) st T p).map fun x => x.2) u := by
  have h4 := h.2.2.2.1
  have hc := ra_c (X := X) (n := n) (p := s.1 605 0 0) h4.1
  have hG := hX.r (s.1 605 0 0)
  unfold zf_163
  rw [r156 h hX.1.2 (by omega), zC_zi, z160, zC_zi]
  by_cases d : 48 ≤ pa_sg X n (s.1 605 0 0) ∧ pa_sg X n (s.1 605 0 0) ≤ 57
  · have d2 : 48 ≤ ra_sg X n (s.1 605 0 0) ∧ ra_sg X n (s.1 605 0 0) ≤ 57 := by omega
    rw [if_pos d2, if_neg (by decide)]
    refine zw_C' (r161 hX h ⟨hN.1, by omega⟩) fun w u ⟨g1, g2, g3, g4⟩ => zw_i ⟨g1, ?_⟩
    rcases h.ob with ⟨e1, e2⟩ | ⟨e1, e2⟩
    · rw [e2] at g2 ⊢
      exact g2
    · rw [e2] at g2 ⊢
      dsimp only [Option.bind] at g2 ⊢
      unfold pa_term
      rw [if_pos d] at g2 ⊢
      exact g2
  · have d2 : ¬ (48 ≤ ra_sg X n (s.1 605 0 0) ∧ ra_sg X n (s.1 605 0 0) ≤ 57) := by omega
    rw [if_neg d2, if_pos rfl, r156 h hX.1.2 (by omega), zC_zi]
    unfold zf_158
    rw [z146, zC_zi]
    have up : ∀ (o : Option Int) (u : zS), rS t X n (N + 1) o u → rS t X n (N + 3) o u := fun o u g => ⟨g.1, g.2.1, g.2.2.1, by have := g.2.2.2.1; omega, g.2.2.2.2⟩
    have no : ∀ (c : Int) , ¬ (c = 98 ∨ c = 119 ∨ c = 87 ∨ c = 114 ∨ c = 110) → (∀ p, o = some p → pa_term (pa_sg X n) st T p = none) → zw (zf_163_68 0 c s) fun _ u => rk s u ∧ rS t X n (N + 3) (o.bind fun p => (pa_term (pa_sg X n) st T p).map fun x => x.2) u := by
      intro c hc e
      obtain ⟨u, g1, g2, g3⟩ := r163_68 (c := c) h (by omega)
      rw [g1]
      refine zw_i ⟨g2, up _ _ ?_⟩
      cases o with
      | none => exact g3
      | some p =>
        dsimp only [Option.bind] at g3 ⊢
        rw [if_neg hc] at g3
        rw [e p rfl]
        exact g3
    obtain ⟨t1, t2, t3, t4, t5⟩ := hT
    have hT : rT t st T s := ⟨t1, t2, t3, t4, t5⟩
    have op : ∀ p, o = some p → p = s.1 605 0 0 := fun p e => by
      rcases h.ob with ⟨e1, e2⟩ | ⟨e1, e2⟩
      · rw [e2] at e
        cases e
      · rw [e2] at e
        injection e with e
        exact e.symm
    have tn : pa_pl T st (pa_sg X n (s.1 605 0 0) - 97) = -1 → ∀ p, o = some p → pa_term (pa_sg X n) st T p = none := fun z p e => by
      rw [op p e]
      unfold pa_term
      rw [if_neg d, if_pos z]
    have pb := pa_pl_b (T := T) (st := st) (c := pa_sg X n (s.1 605 0 0) - 97) t3.1
    by_cases sm : 97 ≤ ra_sg X n (s.1 605 0 0) ∧ ra_sg X n (s.1 605 0 0) ≤ 122
    · rw [if_pos sm, zz1, zC_zi, if_neg (by decide), r156 h hX.1.2 (by omega), zC_zi, r162 hT h.1, zC_zi, show ra_sg X n (s.1 605 0 0) = pa_sg X n (s.1 605 0 0) by omega]
      unfold zf_163_42
      rcases pb with pb | ⟨p1, p2, p3⟩
      · rw [if_pos pb]
        exact no 0 (by decide) (tn pb)
      · have h1 := h.1
        have g := (t4 _ p1 p2).2.1
        generalize hk : pa_pl T st (pa_sg X n (s.1 605 0 0) - 97) = k at p1 p2 p3 g
        rw [if_neg (show ¬ k = -1 by omega), zg_ok ⟨by omega, by omega⟩, zg_ok ⟨by omega, by omega⟩, zg_ok ⟨by omega, by omega⟩, zg_ok ⟨by omega, by omega⟩, zn_ok (by omega), show 8 * (6 * t + st) + k = 48 * t + (8 * st + k) by omega, g]
        obtain ⟨u, g1, g2, g3⟩ := r163_68 (c := if T 458 (8 * st + k) = 65 ∨ T 458 (8 * st + k) = 91 then 78 else T 458 (8 * st + k)) h (by omega)
        rw [g1]
        refine zw_i ⟨g2, up _ _ ?_⟩
        cases o with
        | none => exact g3
        | some p =>
          have ep := op p rfl
          dsimp only [Option.bind] at g3 ⊢
          unfold pa_term
          rw [ep, if_neg d, hk, if_neg (show ¬ k = -1 by omega)]
          rw [ep] at g3
          by_cases q1 : T 458 (8 * st + k) = 65 ∨ T 458 (8 * st + k) = 91
          · rw [if_pos q1, if_neg (by decide)] at g3
            rw [if_neg (show ¬ (T 458 (8 * st + k) = 98 ∨ T 458 (8 * st + k) = 119 ∨ T 458 (8 * st + k) = 87 ∨ T 458 (8 * st + k) = 114 ∨ T 458 (8 * st + k) = 110) by omega)]
            exact g3
          · rw [if_neg q1] at g3
            by_cases q2 : T 458 (8 * st + k) = 98 ∨ T 458 (8 * st + k) = 119 ∨ T 458 (8 * st + k) = 87 ∨ T 458 (8 * st + k) = 114 ∨ T 458 (8 * st + k) = 110
            · rw [if_pos q2] at g3 ⊢
              exact g3
            · rw [if_neg q2] at g3 ⊢
              exact g3
    · have np : pa_pl T st (pa_sg X n (s.1 605 0 0) - 97) = -1 := by
        rcases pb with pb | ⟨p1, p2, p3⟩
        · exact pb
        · have := (t4 _ p1 p2).2.2
          omega
      rw [if_neg sm, zz0, zC_zi, if_pos rfl]
      unfold zf_163_42
      rw [if_pos rfl]
      exact no 0 (by decide) (tn np)
theorem pa_term_b {x : Int × Int} (hX : pa_X X n) (o4 : 0 ≤ T 453 st) (o5 : ∀ k, 0 ≤ k → k < T 453 st → 0 ≤ T 457 (8 * st + k)) (h : pa_term (pa_sg X n) st T p = some x) : (0 ≤ p ∧ p < n) ∧ p + 1 ≤ x.2 ∧ x.2 ≤ n := by
  unfold pa_term at h
  by_cases c : 48 ≤ pa_sg X n p ∧ pa_sg X n p ≤ 57
  · have l := pa_lt (X := X) (n := n) (p := p) (by omega)
    rw [if_pos c] at h
    injection h with h
    refine ⟨l, ?_, ?_⟩
    · rw [← h, mNum, if_pos c]
      exact (mNum_b _ 2 _ _).1
    · rw [← h]
      exact mNum_le _ (fun p hp => pa_end hp) 3 0 p (by omega)
  · rw [if_neg c] at h
    by_cases d : pa_pl T st (pa_sg X n p - 97) = -1
    · rw [if_pos d] at h
      cases h
    · rw [if_neg d] at h
      rcases pa_pl_b (T := T) (st := st) (c := pa_sg X n p - 97) o4 with e | ⟨e1, e2, e3⟩
      · exact absurd e d
      · have := o5 _ e1 e2
        have l := pa_lt (X := X) (n := n) (p := p) (by omega)
        split at h
        · injection h with h
          rw [← h]
          exact ⟨l, Int.le_refl _, by dsimp only; omega⟩
        · cases h
theorem pa_kp.pl {f c : Int} {U : yT} (h : pa_kp f T U) : pa_pl U st c = pa_pl T st c := by
  unfold pa_pl
  rw [h.1 453 st (by omega), show (fun k => U 457 (8 * st + k)) = fun k => T 457 (8 * st + k) from funext fun k => h.1 457 _ (by omega)]
theorem rT.kp {f : Int} {U : yT} (h : rT t st T s) (a : pa_kp f T U) (hf : f = 8 * st + T 453 st) : rT t st U s := by
  obtain ⟨h1, h2, h3, h4, h5⟩ := h
  have e := a.1 453 st (by omega)
  refine ⟨h1, h2.trans e.symm, by rw [e]; exact h3, fun k k1 k2 => ?_, fun i j => ?_⟩
  · rw [e] at k2
    rw [a.1 457 _ (by omega), a.1 458 _ (by omega)]
    exact h4 k k1 k2
  · rw [e, a.1 457 _ (by omega), a.1 457 _ (by omega)]
    exact h5 i j
theorem r165 {f : Int} (hX : pa_X X n) (hf : f = 8 * st + T 453 st) : ∀ (m M : Nat) (op p : Int) (U : yT) (s : zS), m < M → m ≤ 100 → p ≤ n → 2 * (100 - m) + 1 ≤ p → 0 ≤ U 450 0 → 2 * U 450 0 + 1 ≤ p → pa_kp f T U → rT t st T s → rS t X n (n + 1) (some p) s → zw (zC (zf_163 0 t st s) fun _ s2 => zf_165_6 M 0 t st s2) fun _ u => rk s u ∧ rS t X n (n + 4) ((pa_sumL (pa_sg X n) st f m op U p).map fun x => x.2) u := by
  intro m
  have hn := hX.1
  induction m with
  | zero =>
    intro M op p U s hM h1 pn h2 h0 h3 hk hT h
    have h4 := h.2.2.2.1
    have := h.2.2.2.2.2.2
    omega
  | succ m ih =>
    intro M op p U s hM h1 pn h2 h0 h3 hk hT h
    obtain ⟨M, rfl⟩ : ∃ L, M = L + 1 := ⟨M - 1, by omega⟩
    have hTU := hT.kp hk hf
    refine zw_C' (r163 hX hTU h ⟨by omega, by omega⟩) fun v u ⟨g1, g2⟩ => ?_
    rw [show n + 1 + 3 = n + 4 by omega] at g2
    unfold zf_165_6 pa_sumL
    dsimp only [Option.bind] at g2
    cases e : pa_term (pa_sg X n) st U p with
    | none =>
      rw [e] at g2
      have g3 : u.1 606 0 0 = 0 := g2.2.2.2.2.2
      rw [if_pos g3]
      refine zw_i ⟨g1, ?_⟩
      exact g2
    | some x =>
      rw [e] at g2
      have b := pa_term_b hX hTU.2.2.1.1 (fun k k1 k2 => (hTU.2.2.2.1 k k1 k2).2.2.1) e
      have g2 : rS t X n (n + 4) (some x.2) u := g2
      have e6 := g2.2.2.2.2.2.1
      have e5 := g2.2.2.2.2.2.2
      rw [if_neg (show ¬ u.1 606 0 0 = 0 by omega), r156 g2 hn.2 (by omega), zC_zi, e5, z164, zC_zi]
      have hc := ra_c (X := X) (n := n) (p := x.2) (by omega)
      rw [show ∀ F, (some x : Option (Int × Int)).bind F = F x from fun F => rfl, if_pos (show U 450 0 < 100 by omega)]
      by_cases d : pa_sg X n x.2 = 43 ∨ pa_sg X n x.2 = 45 ∨ pa_sg X n x.2 = 42
      · have d2 : ra_sg X n x.2 = 43 ∨ ra_sg X n x.2 = 45 ∨ ra_sg X n x.2 = 42 := by omega
        have l := pa_lt (X := X) (n := n) (p := x.2) (by omega)
        rw [if_pos d2, if_neg (by decide), if_pos d, e5, zg_ok ⟨by omega, by omega⟩, zP_ok]
        have F : rk u (zp 605 0 0 (x.2 + 1) u) := rk.rf.pw (by decide)
        have h2 : rS t X n (n + 1) (some (x.2 + 1)) (zp 605 0 0 (x.2 + 1) u) := by
          have := g2.mk2 (M := n + 1) F zp_eq ((zp_nk (by decide)).trans e6) (Or.inr rfl) (by omega)
          rw [if_neg (by decide)] at this
          exact this
        have a4 : pa_add f op x.1 U 450 0 = U 450 0 + 1 := by
          unfold pa_add
          rw [pa_w_nk (by decide), pa_w_eq]
        exact (ih M (pa_sg X n x.2) (x.2 + 1) (pa_add f op x.1 U) _ (by omega) (by omega) (by omega) (by omega) (by rw [a4]; omega) (by rw [a4]; omega) (hk.tr pa_kp.add) ((hT.rk g1).rk F) h2).mono fun w v ⟨k1, k2⟩ => ⟨(g1.tr F).tr k1, k2⟩
      · have d2 : ¬ (ra_sg X n x.2 = 43 ∨ ra_sg X n x.2 = 45 ∨ ra_sg X n x.2 = 42) := by omega
        rw [if_neg d2, if_pos rfl, if_neg d]
        exact zw_i ⟨g1, g2⟩
end
