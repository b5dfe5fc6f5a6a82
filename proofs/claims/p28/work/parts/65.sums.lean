/-! the class's parser: names, sums, counts, types -/
section
variable {q : Nat} {X : Int → Int} {n p st b : Int} {T : yT} {s : zS}
theorem pa_Q.fr {x : Option (yT × Int)} {v : Int} {s0 u : zS} (h : pa_Q q X n s st b x v u) (a : pa_fr q s0 s) : pa_Q q X n s0 st b x v u := by
  cases x with
  | none => exact ⟨h.1, a.tr h.2⟩
  | some y => exact ⟨h.1, h.2.1, a.tr h.2.2.1, h.2.2.2⟩
theorem pa_bind {F : zR} {K : Int → zS → zR} {x : Option (yT × Int)} {f : yT × Int → Option (yT × Int)} (h : zw F (pa_Q q X n s st b x)) (k0 : ∀ u, K 0 u = zi 0 u) (k1 : ∀ y u, x = some y → pa_at q X n y.1 y.2 st b u → pa_ok y.1 st → 0 ≤ y.2 → y.2 ≤ n + 1 → zw (K 1 u) (pa_Q q X n u st b (f y))) : zw (zC F K) (pa_Q q X n s st b (x.bind f)) := by
  refine zw_C' h fun v u g => ?_
  cases x with
  | none =>
    rw [g.1, k0 u]
    exact zw_i ⟨rfl, g.2⟩
  | some y =>
    rw [g.1]
    exact (k1 y u rfl g.2.1 g.2.2.2.1 g.2.2.2.2.1 g.2.2.2.2.2).mono fun w t e => pa_Q.fr e g.2.2.1
theorem pa_fin {y : yT × Int} {u : zS} (a : pa_at q X n y.1 y.2 st b u) (f : pa_fr q s u) (o : pa_ok y.1 st) (h : 0 ≤ y.2 ∧ y.2 ≤ n + 1) : zw (zi 1 u) (pa_Q q X n s st b (some y)) := zw_i ⟨rfl, a, f, o, h.1, h.2⟩
theorem pa_no {u : zS} (f : pa_fr q s u) : zw (zi 0 u) (pa_Q q X n s st b none) := zw_i ⟨rfl, f⟩
/-- a sign that must stand there -/
theorem pa_due {c : Int} (hX : pa_X X n) (hc : c ≠ -1) (h : pa_at q X n T p st b s) (ok : pa_ok T st) (p1 : 0 ≤ p ∧ p ≤ n + 1) : zw (zf_39 0 c s) (pa_Q q X n s st b (if pa_sg X n p = c then some (T, p + 1) else none)) := by
  have hn := hX.1
  rw [pa39 h (by omega) hn.2]
  by_cases g : pa_sg X n p = c
  · have := pa_lt (X := X) (n := n) (p := p) (by omega)
    rw [if_pos g, if_pos g]
    exact pa_fin h.nx pa_fr.rf.nx ok ⟨by dsimp only; omega, by dsimp only; omega⟩
  · rw [if_neg g, if_neg g]
    exact pa_no pa_fr.rf
theorem pa50_61 {f : Int} (h : pa_at q X n T p st b s) (hf : 0 ≤ f ∧ f < 48) : zf_50_61 0 f s = zi 1 (zp 464 q f (T 451 0) s) := by
  unfold zf_50_61
  rw [h.O, h.O, zW_ok hf, h.2.2.2.2.2.2.1 451 0 (by decide) (by decide)]
  rfl
theorem pa50_27 {f : Int} (hX : pa_X X n) (hf : 0 ≤ f ∧ f < 48) : ∀ (m N : Nat) (T : yT) (p : Int) (s : zS), m < N → m ≤ 100 → pa_at q X n T p st b s → pa_ok T st → 0 ≤ p → p ≤ n + 1 → zw (zf_50_27 N 0 f (100 - m) s) (pa_Q q X n s st b (pa_more (pa_sg X n) f m T p)) := by
  intro m
  induction m with
  | zero =>
    intro N T p s hN h3 h ok p1 p2
    obtain ⟨N, rfl⟩ : ∃ M, N = M + 1 := ⟨N - 1, by omega⟩
    unfold zf_50_27 pa_more
    rw [if_pos (by decide), pa50_61 h hf]
    exact pa_fin (h.qw (by decide)) (pa_fr.rf.qw (by decide)) (ok.w (by decide)) ⟨p1, p2⟩
  | succ m ih =>
    intro N T p s hN h3 h ok p1 p2
    obtain ⟨N, rfl⟩ : ∃ M, N = M + 1 := ⟨N - 1, by omega⟩
    have hn := hX.1
    unfold zf_50_27 pa_more
    rw [if_neg (by omega), h.2.2.2.1]
    by_cases c : pa_sg X n p = 124
    · have := pa_lt (X := X) (n := n) (p := p) (by omega)
      rw [if_pos c, if_pos c, pa_adv h (by omega) hn.2, zC_zi]
      refine (pa_bind (pa48 h.nx hX ok) (fun u => by rw [if_pos rfl]; rfl) fun y u hy a o y1 y2 => ?_).mono fun v u g => pa_Q.fr g pa_fr.rf.nx
      rw [if_neg (by decide), zg_ok ⟨by omega, by omega⟩, show (100 : Int) - ((m : Nat) + 1 : Nat) + 1 = 100 - m by omega]
      exact ih N y.1 y.2 u (by omega) (by omega) a o y1 y2
    · rw [if_neg c, if_neg c, pa50_61 h hf]
      exact pa_fin (h.qw (by decide)) (pa_fr.rf.qw (by decide)) (ok.w (by decide)) ⟨p1, p2⟩
theorem pa50 {f : Int} (hX : pa_X X n) (hf : 0 ≤ f ∧ f < 48) (h : pa_at q X n T p st b s) (ok : pa_ok T st) : zw (zf_50 0 f s) (pa_Q q X n s st b (pa_names (pa_sg X n) f T p)) := by
  unfold zf_50 pa_names
  rw [h.O, h.O, zW_ok hf, h.2.2.2.2.2.2.1 451 0 (by decide) (by decide)]
  refine (pa_bind (pa48 (h.qw (by decide)) hX (ok.w (by decide))) (fun u => by rw [if_pos rfl]; rfl) fun y u hy a o y1 y2 => ?_).mono fun v u g => pa_Q.fr g (pa_fr.rf.qw (by decide))
  rw [if_neg (by decide)]
  exact pa50_27 hX hf 100 xfu y.1 y.2 u (pa_fu (by decide)) (by decide) a o y1 y2
theorem pa102 {op v : Int} (h : pa_at q X n T p st b s) (ok : pa_ok T st) : zf_102 q op v s = if T 450 0 < 100 then zi 1 (zp 450 q 0 (T 450 0 + 1) (zp 454 q (T 450 0) v (zp 455 q (T 450 0) op s))) else zi 0 s := by
  have o := ok.2.1
  unfold zf_102
  rw [h.2.2.2.2.2.2.1 450 0 (by decide) (by decide)]
  by_cases c : T 450 0 < 100
  · rw [if_pos c, if_pos c, zW_ok (by omega), zp_nk (by decide), h.2.2.2.2.2.2.1 450 0 (by decide) (by decide), zW_ok (by omega), zp_nk (by decide), zp_nk (by decide), h.2.2.2.2.2.2.1 450 0 (by decide) (by decide), zg_ok ⟨by omega, by omega⟩]
    rfl
  · rw [if_neg c, if_neg c]
    rfl
theorem pa_ok.add {f op v : Int} (ok : pa_ok T st) (c : T 450 0 < 100) : pa_ok (pa_add f op v T) st := by
  obtain ⟨o1, o2, o3, o4, o5⟩ := ok
  have e : ∀ (g : Nat) (j : Int), g ≠ 462 → g ≠ 450 → g ≠ 454 → g ≠ 455 → pa_add f op v T g j = T g j := fun g j h1 h2 h3 h4 => by
    unfold pa_add
    rw [pa_w_nk h1, pa_w_nk h2, pa_w_nk h3, pa_w_nk h4]
  have e2 : pa_add f op v T 450 0 = T 450 0 + 1 := by
    unfold pa_add
    rw [pa_w_nk (by decide), pa_w_eq]
  unfold pa_ok
  rw [e 449 _ (by decide) (by decide) (by decide) (by decide), e2, e 451 _ (by decide) (by decide) (by decide) (by decide), e 453 _ (by decide) (by decide) (by decide) (by decide)]
  refine ⟨o1, by omega, o3, o4, fun k => ?_⟩
  rw [e 457 _ (by decide) (by decide) (by decide) (by decide)]
  exact o5 k
theorem pa52_119 {f op v k : Int} {N m : Nat} (hX : pa_X X n) (hf : 0 ≤ f ∧ f < 48) (hk : k = 99 - m) (hm : m ≤ 99)
    (ih : ∀ (op : Int) (T : yT) (p : Int) (s : zS), pa_at q X n T p st b s → pa_ok T st → 0 ≤ p → p ≤ n + 1 → zw (zf_52_21 N 0 f op (100 - m) s) (pa_Q q X n s st b (pa_sumL (pa_sg X n) st f m op T p)))
    (h : pa_at q X n T p st b s) (ok : pa_ok T st) (p1 : 0 ≤ p ∧ p ≤ n + 1) :
    zw (zf_52_119 (fun y0 y1 y2 y3 y => zf_52_21 N y0 y1 y2 y3 y) 0 f op k v s) (pa_Q q X n s st b (if T 450 0 < 100 then (if pa_sg X n p = 43 ∨ pa_sg X n p = 45 ∨ pa_sg X n p = 42 then pa_sumL (pa_sg X n) st f m (pa_sg X n p) (pa_add f op v T) (p + 1) else some (pa_add f op v T, p)) else none)) := by
  have hn := hX.1
  unfold zf_52_119
  rw [h.O, pa102 h ok]
  by_cases c : T 450 0 < 100
  · have h2 := ((h.qw (f := 455) (i := T 450 0) (v := op) (by decide)).qw (f := 454) (i := T 450 0) (v := v) (by decide)).qw (f := 450) (i := 0) (v := T 450 0 + 1) (by decide)
    have h3 := h2.qw (f := 462) (i := f) (v := T 450 0 + 1) (by decide)
    have F : pa_fr q s (zp 462 q f (T 450 0 + 1) (zp 450 q 0 (T 450 0 + 1) (zp 454 q (T 450 0) v (zp 455 q (T 450 0) op s)))) := (((pa_fr.rf.qw (by decide)).qw (by decide)).qw (by decide)).qw (by decide)
    rw [if_pos c, if_pos c, zC_zi, if_neg (by decide), h2.O, h2.O, zW_ok hf, zp_eq]
    have ok3 := ok.add (f := f) (op := op) (v := v) c
    have e : ∀ c : Prop, [Decidable c] → c → (pa_sg X n p = 43 ∨ pa_sg X n p = 45 ∨ pa_sg X n p = 42) → zw (zf_52_179 (fun y0 y1 y2 y3 y => zf_52_21 N y0 y1 y2 y3 y) 0 f k (zp 462 q f (T 450 0 + 1) (zp 450 q 0 (T 450 0 + 1) (zp 454 q (T 450 0) v (zp 455 q (T 450 0) op s))))) (pa_Q q X n s st b (pa_sumL (pa_sg X n) st f m (pa_sg X n p) (pa_add f op v T) (p + 1))) := by
      intro _ _ _ g
      have := pa_lt (X := X) (n := n) (p := p) (by omega)
      unfold zf_52_179
      rw [pa_adv h3 (by omega) hn.2, zC_zi, zg_ok ⟨by omega, by omega⟩, h3.2.2.2.1, show k + 1 = 100 - (m : Int) by omega]
      exact (ih _ _ _ _ h3.nx ok3 (by omega) (by omega)).mono fun w t g => pa_Q.fr g F.nx
    rw [h3.2.2.2.1]
    by_cases c1 : pa_sg X n p = 43
    · rw [if_pos c1, if_pos (Or.inl c1)]
      exact e _ trivial (Or.inl c1)
    · by_cases c2 : pa_sg X n p = 45
      · rw [if_neg c1, if_pos c2, if_pos (Or.inr (Or.inl c2))]
        exact e _ trivial (Or.inr (Or.inl c2))
      · by_cases c3 : pa_sg X n p = 42
        · rw [if_neg c1, if_neg c2, if_pos c3, if_pos (Or.inr (Or.inr c3))]
          exact e _ trivial (Or.inr (Or.inr c3))
        · rw [if_neg c1, if_neg c2, if_neg c3, if_neg (by omega)]
          exact pa_fin h3 F ok3 p1
  · rw [if_neg c, if_neg c, zC_zi, if_pos rfl]
    exact pa_no pa_fr.rf
theorem pa52_21 {f : Int} (hX : pa_X X n) (hf : 0 ≤ f ∧ f < 48) (h6 : 0 ≤ st ∧ st < 6) : ∀ (m N : Nat) (op : Int) (T : yT) (p : Int) (s : zS), m < N → m ≤ 100 → pa_at q X n T p st b s → pa_ok T st → 0 ≤ p → p ≤ n + 1 → zw (zf_52_21 N 0 f op (100 - m) s) (pa_Q q X n s st b (pa_sumL (pa_sg X n) st f m op T p)) := by
  intro m
  induction m with
  | zero =>
    intro N op T p s hN h3 h ok p1 p2
    obtain ⟨N, rfl⟩ : ∃ M, N = M + 1 := ⟨N - 1, by omega⟩
    unfold zf_52_21 pa_sumL
    rw [if_pos (by decide)]
    exact pa_no pa_fr.rf
  | succ m ih =>
    intro N op T p s hN h3 h ok p1 p2
    obtain ⟨N, rfl⟩ : ∃ M, N = M + 1 := ⟨N - 1, by omega⟩
    have hn := hX.1
    have hG := hX.r p
    have hk : (100 : Int) - ((m : Nat) + 1 : Nat) = 99 - m := by omega
    unfold zf_52_21 pa_sumL pa_term
    rw [hk, if_neg (by omega), pa41, zC_zi, h.2.2.2.1]
    by_cases c : 48 ≤ pa_sg X n p ∧ pa_sg X n p ≤ 57
    · rw [if_pos c, if_neg (by decide), if_pos c]
      unfold zf_52_56 zf_52_93
      rw [pa41, zC_zi, h.2.2.2.1, if_pos c, if_neg (by decide), pa41, zC_zi, h.2.2.2.1, if_pos c, if_neg (by decide)]
      refine zw_C' (pa53 hX h ⟨p1, p2⟩) fun w u ⟨g1, g2, g3, g4, g5, g6⟩ => ?_
      have e1 : pa_int (pa_sg X n) p = mNum (pa_sg X n) 3 0 p := by
        unfold pa_int
        rw [if_pos c]
      rw [e1] at g1 g2 g5 g6
      rw [g1]
      exact (pa52_119 hX hf rfl (by omega) (fun op T p s a o y1 y2 => ih N op T p s (by omega) (by omega) a o y1 y2) g2 ok ⟨g5, g6⟩).mono fun v t g => pa_Q.fr g g3
    · rw [if_neg c, if_pos rfl, if_neg c, h.O, zg_ok ⟨by omega, by omega⟩, h.2.2.2.2.1, pa98 h h6 ok.2.2.2.1.2, zC_zi]
      have hb := pa_pl_b (T := T) (st := st) (c := pa_sg X n p - 97) ok.2.2.2.1.1
      generalize pa_pl T st (pa_sg X n p - 97) = k at hb
      unfold zf_52_56
      rw [pa41, zC_zi, h.2.2.2.1, if_neg c, if_pos rfl]
      by_cases c1 : k = -1
      · rw [if_pos c1, if_pos c1]
        exact pa_no pa_fr.rf
      · have hb2 : 0 ≤ k ∧ k < T 453 st := by omega
        have o := ok.2.2.2.1
        rw [if_neg c1, if_neg c1, h.O, h.2.2.2.2.1, zg_ok ⟨by omega, by omega⟩, zg_ok ⟨by omega, by omega⟩, pa99 (by omega), zC_zi, h.2.2.2.2.2.2.1 458 _ (by decide) (by decide), show st * 8 + k = 8 * st + k by omega]
        by_cases c2 : T 458 (8 * st + k) = 98 ∨ T 458 (8 * st + k) = 119 ∨ T 458 (8 * st + k) = 87 ∨ T 458 (8 * st + k) = 114 ∨ T 458 (8 * st + k) = 110
        · rw [if_pos c2, if_pos c2, if_neg (by decide)]
          unfold zf_52_93
          have hp := pa_lt (X := X) (n := n) (p := p) (by
            intro e
            have h457 : T 457 (8 * st + k) = pa_sg X n p - 97 := by
              rcases hb with hb | hb
              · exact absurd hb c1
              · exact hb.2.2
            have := ok.2.2.2.2 k hb2.1 hb2.2
            omega)
          rw [pa41, zC_zi, h.2.2.2.1, if_neg c, if_pos rfl, pa_adv h (by omega) hn.2, zC_zi, zg_ok ⟨by omega, by omega⟩]
          exact (pa52_119 hX hf rfl (by omega) (fun op T p s a o y1 y2 => ih N op T p s (by omega) (by omega) a o y1 y2) h.nx ok ⟨by omega, by omega⟩).mono fun v t g => pa_Q.fr g pa_fr.rf.nx
        · rw [if_neg c2, if_neg c2, if_pos rfl]
          exact pa_no pa_fr.rf
theorem pa52 {f : Int} (hX : pa_X X n) (hf : 0 ≤ f ∧ f < 48) (h6 : 0 ≤ st ∧ st < 6) (h : pa_at q X n T p st b s) (ok : pa_ok T st) (p1 : 0 ≤ p ∧ p ≤ n + 1) : zw (zf_52 0 f s) (pa_Q q X n s st b (pa_sum (pa_sg X n) st f T p)) := by
  unfold zf_52 pa_sum
  rw [h.O, h.O, zW_ok hf, h.2.2.2.2.2.2.1 450 0 (by decide) (by decide)]
  exact (pa52_21 hX hf h6 100 xfu 43 _ p _ (pa_fu (by decide)) (by decide) (h.qw (by decide)) (ok.w (by decide)) p1.1 p1.2).mono fun v t g => pa_Q.fr g (pa_fr.rf.qw (by decide))
end
