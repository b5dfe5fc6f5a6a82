/-! the class's parser does what the functions say: its small methods -/
theorem pa_fu {m : Nat} (h : m ≤ 1000) : m < xfu := by
  have : xfu = 10 ^ 60 := rfl
  omega
def pa_ok (T : yT) (st : Int) : Prop := (0 ≤ T 449 0 ∧ T 449 0 ≤ 6) ∧ (0 ≤ T 450 0 ∧ T 450 0 ≤ 100) ∧ (0 ≤ T 451 0 ∧ T 451 0 ≤ 100) ∧ (0 ≤ T 453 st ∧ T 453 st ≤ 8) ∧ ∀ k, 0 ≤ k → k < T 453 st → 0 ≤ T 457 (8 * st + k) ∧ T 457 (8 * st + k) ≤ 25
def pa_Q (q : Nat) (X : Int → Int) (n : Int) (s : zS) (st b : Int) (x : Option (yT × Int)) (v : Int) (u : zS) : Prop :=
  match x with
  | none => v = 0 ∧ pa_fr q s u
  | some y => v = 1 ∧ pa_at q X n y.1 y.2 st b u ∧ pa_fr q s u ∧ pa_ok y.1 st ∧ 0 ≤ y.2 ∧ y.2 ≤ n + 1
def pa_X (X : Int → Int) (n : Int) : Prop := (0 ≤ n ∧ n ≤ 200) ∧ ∀ i, 0 ≤ i → i < n → 0 ≤ X i ∧ X i ≤ 255
theorem pa_ok.w {T : yT} {st i v : Int} {f : Nat} (h : pa_ok T st) (hf : f ≠ 449 ∧ f ≠ 450 ∧ f ≠ 451 ∧ f ≠ 453 ∧ f ≠ 457) : pa_ok (pa_w f i v T) st := by
  have e : ∀ (g : Nat) (j : Int), g ≠ f → pa_w f i v T g j = T g j := fun g j hg => if_neg fun z => hg z.1
  unfold pa_ok
  rw [e 449 _ (by omega), e 450 _ (by omega), e 451 _ (by omega), e 453 _ (by omega)]
  refine ⟨h.1, h.2.1, h.2.2.1, h.2.2.2.1, fun k h1 h2 => ?_⟩
  rw [e 457 _ (by omega)]
  exact h.2.2.2.2 k h1 h2
theorem pa_w_eq {f : Nat} {i v : Int} {T : yT} : pa_w f i v T f i = v := if_pos ⟨rfl, rfl⟩
theorem pa_w_nk {f g : Nat} {i j v : Int} {T : yT} (h : g ≠ f) : pa_w f i v T g j = T g j := if_neg fun z => h z.1
theorem pa_w_ni {f g : Nat} {i j v : Int} {T : yT} (h : j ≠ i) : pa_w f i v T g j = T g j := if_neg fun z => h z.2
section
variable {q : Nat} {X : Int → Int} {n p st b : Int} {T : yT} {s s0 : zS}
theorem pa_X.r (h : pa_X X n) (p : Int) : -1 ≤ pa_sg X n p ∧ pa_sg X n p ≤ 255 := by
  unfold pa_sg
  split
  · rename_i c
    have := h.2 p c.1 c.2
    omega
  · omega
theorem pa_lt (h : pa_sg X n p ≠ -1) : 0 ≤ p ∧ p < n := by
  unfold pa_sg at h
  by_cases c : 0 ≤ p ∧ p < n
  · exact c
  · rw [if_neg c] at h
    exact absurd rfl h
theorem pa40 : zf_40 0 s = zi (if 65 ≤ s.1 259 0 0 ∧ s.1 259 0 0 ≤ 90 ∧ s.1 259 0 0 ≠ 87 then 1 else 0) s := by
  unfold zf_40
  by_cases h1 : s.1 259 0 0 < 65
  · rw [if_pos h1, if_neg (by omega)]
    rfl
  · rw [if_neg h1]
    by_cases h2 : 90 < s.1 259 0 0
    · rw [if_pos h2, if_neg (by omega)]
      rfl
    · rw [if_neg h2]
      by_cases h3 : s.1 259 0 0 = 87
      · rw [if_pos h3, if_neg (by omega)]
        rfl
      · rw [if_neg h3, if_pos (by omega)]
        rfl
theorem pa41 : zf_41 0 s = zi (if 48 ≤ s.1 259 0 0 ∧ s.1 259 0 0 ≤ 57 then 1 else 0) s := by
  unfold zf_41
  by_cases h1 : s.1 259 0 0 < 48
  · rw [if_pos h1, if_neg (by omega)]
    rfl
  · rw [if_neg h1]
    by_cases h2 : 57 < s.1 259 0 0
    · rw [if_pos h2, if_neg (by omega)]
      rfl
    · rw [if_neg h2, if_pos (by omega)]
      rfl
theorem pa39 {c : Int} (h : pa_at q X n T p st b s) (hp : -1 ≤ p ∧ p ≤ 1000) (hn : n ≤ 200) : zf_39 0 c s = if pa_sg X n p = c then zi 1 (pa_nx X n p s) else zi 0 s := by
  unfold zf_39
  rw [h.2.2.2.1, pa_adv h hp hn, zC_zi]
  rfl
theorem pa97_2 {c : Int} (h : pa_at q X n T p st b s) (h6 : T 449 0 ≤ 6) : ∀ (m N : Nat) (k : Int), m < N → 0 ≤ k → m = (T 449 0 - k).toNat → zf_97_2 N q c k s = zi (pa_ix (T 452) c m k) s := by
  intro m
  induction m with
  | zero =>
    intro N k hN hk e
    obtain ⟨N, rfl⟩ : ∃ M, N = M + 1 := ⟨N - 1, by omega⟩
    unfold zf_97_2
    rw [h.2.2.2.2.2.2.1 449 0 (by decide) (by decide), if_pos (by omega)]
    rfl
  | succ m ih =>
    intro N k hN hk e
    obtain ⟨N, rfl⟩ : ∃ M, N = M + 1 := ⟨N - 1, by omega⟩
    unfold zf_97_2 pa_ix
    rw [h.2.2.2.2.2.2.1 449 0 (by decide) (by decide), if_neg (by omega), zn_ok (by omega), h.2.2.2.2.2.2.1 452 _ (by decide) (by decide)]
    by_cases c1 : T 452 k = c
    · rw [if_pos c1, if_pos c1]
    · rw [if_neg c1, if_neg c1, zg_ok ⟨by omega, by omega⟩, ih N (k + 1) (by omega) (by omega) (by omega)]
theorem pa97 {c : Int} (h : pa_at q X n T p st b s) (h6 : T 449 0 ≤ 6) : zf_97 q c s = zi (pa_sn T c) s := pa97_2 h h6 _ _ 0 (pa_fu (by omega)) (Int.le_refl _) (by omega)
theorem pa98_2 {c : Int} (h : pa_at q X n T p st b s) (h6 : 0 ≤ st ∧ st < 6) (h8 : T 453 st ≤ 8) : ∀ (m N : Nat) (k : Int), m < N → 0 ≤ k → m = (T 453 st - k).toNat → zf_98_2 N q st c k s = zi (pa_ix (fun k => T 457 (8 * st + k)) c m k) s := by
  intro m
  induction m with
  | zero =>
    intro N k hN hk e
    obtain ⟨N, rfl⟩ : ∃ M, N = M + 1 := ⟨N - 1, by omega⟩
    unfold zf_98_2
    rw [zn_ok (by omega), h.2.2.2.2.2.2.1 453 _ (by decide) (by decide), if_pos (by omega)]
    rfl
  | succ m ih =>
    intro N k hN hk e
    obtain ⟨N, rfl⟩ : ∃ M, N = M + 1 := ⟨N - 1, by omega⟩
    unfold zf_98_2 pa_ix
    rw [zn_ok (by omega), h.2.2.2.2.2.2.1 453 _ (by decide) (by decide), if_neg (by omega), zg_ok ⟨by omega, by omega⟩, zg_ok ⟨by omega, by omega⟩, zn_ok (by omega), h.2.2.2.2.2.2.1 457 _ (by decide) (by decide), show st * 8 + k = 8 * st + k by omega]
    by_cases c1 : T 457 (8 * st + k) = c
    · rw [if_pos c1, if_pos c1]
    · rw [if_neg c1, if_neg c1, zg_ok ⟨by omega, by omega⟩, ih N (k + 1) (by omega) (by omega) (by omega)]
theorem pa98 {c : Int} (h : pa_at q X n T p st b s) (h6 : 0 ≤ st ∧ st < 6) (h8 : T 453 st ≤ 8) : zf_98 q st c s = zi (pa_pl T st c) s := pa98_2 h h6 h8 _ _ 0 (pa_fu (by omega)) (Int.le_refl _) (by omega)
theorem pa_ix_b {g : Int → Int} {c : Int} : ∀ (m : Nat) (k : Int), pa_ix g c m k = -1 ∨ (k ≤ pa_ix g c m k ∧ pa_ix g c m k < k + m ∧ g (pa_ix g c m k) = c) := by
  intro m
  induction m with
  | zero => exact fun k => Or.inl rfl
  | succ m ih =>
    intro k
    unfold pa_ix
    by_cases c1 : g k = c
    · rw [if_pos c1]
      exact Or.inr ⟨Int.le_refl _, by omega, c1⟩
    · rw [if_neg c1]
      rcases ih (k + 1) with h | h
      · exact Or.inl h
      · exact Or.inr ⟨by omega, by omega, h.2.2⟩
theorem pa_pl_b {c : Int} (h : 0 ≤ T 453 st) : pa_pl T st c = -1 ∨ (0 ≤ pa_pl T st c ∧ pa_pl T st c < T 453 st ∧ T 457 (8 * st + pa_pl T st c) = c) := by
  rcases pa_ix_b (g := fun k => T 457 (8 * st + k)) (c := c) (T 453 st).toNat 0 with h1 | ⟨h1, h2, h3⟩
  · exact Or.inl h1
  · exact Or.inr ⟨h1, by unfold pa_pl; omega, h3⟩
theorem pa_sn_b {c : Int} (h : 0 ≤ T 449 0) : pa_sn T c = -1 ∨ (0 ≤ pa_sn T c ∧ pa_sn T c < T 449 0 ∧ T 452 (pa_sn T c) = c) := by
  rcases pa_ix_b (g := T 452) (c := c) (T 449 0).toNat 0 with h1 | ⟨h1, h2, h3⟩
  · exact Or.inl h1
  · exact Or.inr ⟨h1, by unfold pa_sn; omega, h3⟩
theorem pa48 (h : pa_at q X n T p st b s) (hX : pa_X X n) (ok : pa_ok T st) : zw (zf_48 0 s) (pa_Q q X n s st b (pa_cho (pa_sg X n) T p)) := by
  have hG := hX.r p
  unfold zf_48 pa_cho
  rw [pa40, zC_zi, h.2.2.2.1]
  by_cases c : 65 ≤ pa_sg X n p ∧ pa_sg X n p ≤ 90 ∧ pa_sg X n p ≠ 87
  · have hp := pa_lt (X := X) (n := n) (p := p) (by omega)
    have hn := hX.1
    rw [if_pos c, if_neg (by decide), h.O, zg_ok ⟨by omega, by omega⟩]
    unfold zf_103
    rw [h.2.2.2.2.2.2.1 451 0 (by decide) (by decide)]
    by_cases c1 : T 451 0 < 100
    · have o3 := ok.2.2.1
      rw [if_pos c1, zW_ok (by omega), zp_nk (by decide), h.2.2.2.2.2.2.1 451 0 (by decide) (by decide), zg_ok ⟨by omega, by omega⟩, zP_ok, zz1, zC_zi, if_neg (by decide), if_pos ⟨c, c1⟩]
      have h' := (h.qw (f := 456) (i := T 451 0) (v := pa_sg X n p - 65) (by decide)).qw (f := 451) (i := 0) (v := T 451 0 + 1) (by decide)
      rw [pa_adv h' (by omega) hX.1.2, zC_zi]
      refine zw_z1 ⟨rfl, h'.nx, ((pa_fr.rf.qw (by decide)).qw (by decide)).nx, ⟨?_, ?_, ?_, ?_, ?_⟩, by omega, by omega⟩
      · dsimp only
        rw [pa_w_nk (by decide), pa_w_nk (by decide)]
        exact ok.1
      · dsimp only
        rw [pa_w_nk (by decide), pa_w_nk (by decide)]
        exact ok.2.1
      · dsimp only
        rw [pa_w_eq]
        omega
      · dsimp only
        rw [pa_w_nk (by decide), pa_w_nk (by decide)]
        exact ok.2.2.2.1
      · dsimp only
        intro k
        rw [pa_w_nk (by decide), pa_w_nk (by decide), pa_w_nk (by decide), pa_w_nk (by decide)]
        exact ok.2.2.2.2 k
    · rw [if_neg c1, zz0, zC_zi, if_pos rfl, if_neg (fun z => c1 z.2)]
      exact zw_z0 ⟨rfl, pa_fr.rf⟩
  · rw [if_neg c, if_pos rfl, if_neg (fun z => c z.1)]
    exact zw_z0 ⟨rfl, pa_fr.rf⟩
theorem pa53_4 (hX : pa_X X n) : ∀ (m N : Nat) (v p : Int) (s : zS), m < N → m ≤ 3 → -1 ≤ v → v ≤ 999 → pa_at q X n T p st b s → 0 ≤ p → p ≤ n + 1 → pa_fr q s0 s → (m ≤ 2 → 0 ≤ v ∧ (m = 2 → v ≤ 9) ∧ (m = 1 → v ≤ 99)) → (m = 3 → v = -1) →
    zw (zf_53_4 N 0 v (3 - m) s) fun w u => w = (if m = 3 then (pa_int (pa_sg X n) p).1 else (mNum (pa_sg X n) m v p).1) ∧ pa_at q X n T (if m = 3 then (pa_int (pa_sg X n) p).2 else (mNum (pa_sg X n) m v p).2) st b u ∧ pa_fr q s0 u ∧ (-1 ≤ w ∧ w ≤ 999) ∧ 0 ≤ (if m = 3 then (pa_int (pa_sg X n) p).2 else (mNum (pa_sg X n) m v p).2) ∧ (if m = 3 then (pa_int (pa_sg X n) p).2 else (mNum (pa_sg X n) m v p).2) ≤ n + 1 := by
  intro m
  induction m with
  | zero =>
    intro N v p s hN h3 v1 v2 h p1 p2 fr g1 g2
    obtain ⟨N, rfl⟩ : ∃ M, N = M + 1 := ⟨N - 1, by omega⟩
    unfold zf_53_4
    rw [if_pos (by decide)]
    exact zw_i ⟨rfl, h, fr, ⟨v1, v2⟩, p1, p2⟩
  | succ m ih =>
    intro N v p s hN h3 v1 v2 h p1 p2 fr g1 g2
    obtain ⟨N, rfl⟩ : ∃ M, N = M + 1 := ⟨N - 1, by omega⟩
    have hG := hX.r p
    have hn := hX.1
    unfold zf_53_4
    rw [if_neg (by omega), pa41, zC_zi, h.2.2.2.1]
    by_cases c : 48 ≤ pa_sg X n p ∧ pa_sg X n p ≤ 57
    · have hp := pa_lt (X := X) (n := n) (p := p) (by omega)
      have e0 : ∃ w, (w = if v < 0 then 0 else v) ∧ zf_22 v 0 s = zi w s := by
        refine ⟨_, rfl, ?_⟩
        unfold zf_22
        split <;> rfl
      obtain ⟨w, hw, e0⟩ := e0
      have hw2 : 0 ≤ w ∧ w ≤ 99 := by
        rw [hw]
        split <;> omega
      rw [if_pos c, if_neg (by decide), e0, zC_zi, pa_adv h (by omega) hn.2, zC_zi, h.2.2.2.1, zg_ok ⟨by omega, by omega⟩, zg_ok ⟨by omega, by omega⟩, zg_ok ⟨by omega, by omega⟩, zg_ok ⟨by omega, by omega⟩]
      have hw3 : w * 10 + pa_sg X n p - 48 ≤ (if m = 2 then 9 else if m = 1 then 99 else 999) := by
        rw [hw]
        by_cases c2 : m = 2
        · rw [if_pos c2, g2 (by omega), if_pos (by decide)]
          omega
        · rw [if_neg c2]
          have g3 := g1 (by omega)
          rw [if_neg (by omega)]
          split <;> omega
      have hw4 : w * 10 + pa_sg X n p - 48 ≤ 999 := by
        refine Int.le_trans hw3 ?_
        split
        · decide
        · split <;> decide
      have d := ih N (w * 10 + pa_sg X n p - 48) (p + 1) _ (by omega) (by omega) (by omega) hw4 h.nx (by omega) (by omega) fr.nx (fun _ => ⟨by omega, fun h2 => by rw [if_pos h2] at hw3; exact hw3, fun h2 => by rw [if_neg (by omega), if_pos h2] at hw3; exact hw3⟩) (fun h2 => by omega)
      rw [show (3 : Int) - ((m : Nat) + 1 : Nat) + 1 = 3 - m by omega]
      have e1 : (if m + 1 = 3 then pa_int (pa_sg X n) p else mNum (pa_sg X n) (m + 1) v p) = (if m = 3 then pa_int (pa_sg X n) (p + 1) else mNum (pa_sg X n) m (w * 10 + pa_sg X n p - 48) (p + 1)) := by
        rw [if_neg (c := m = 3) (by omega)]
        by_cases c2 : m = 2
        · subst c2
          rw [if_pos rfl]
          unfold pa_int
          rw [if_pos c, mNum, if_pos c, hw, g2 rfl, if_pos (by decide)]
          rfl
        · rw [if_neg (by omega), mNum, if_pos c, hw, if_neg (by have := g1 (by omega); omega), Int.mul_comm 10 v]
      have e2 : ∀ (c : Prop) [Decidable c] (x y : Int × Int), (if c then x.1 else y.1) = (if c then x else y).1 := fun c _ x y => by split <;> rfl
      have e3 : ∀ (c : Prop) [Decidable c] (x y : Int × Int), (if c then x.2 else y.2) = (if c then x else y).2 := fun c _ x y => by split <;> rfl
      rw [e2, e3, e1]
      rw [e2, e3] at d
      exact d
    · rw [if_neg c, if_pos rfl]
      have e1 : (if m + 1 = 3 then pa_int (pa_sg X n) p else mNum (pa_sg X n) (m + 1) v p) = (v, p) := by
        by_cases c2 : m = 2
        · subst c2
          rw [if_pos rfl, g2 rfl]
          unfold pa_int
          rw [if_neg c]
        · rw [if_neg (by omega), mNum, if_neg c]
      have e2 : ∀ (c : Prop) [Decidable c] (x y : Int × Int), (if c then x.1 else y.1) = (if c then x else y).1 := fun c _ x y => by split <;> rfl
      have e3 : ∀ (c : Prop) [Decidable c] (x y : Int × Int), (if c then x.2 else y.2) = (if c then x else y).2 := fun c _ x y => by split <;> rfl
      rw [e2, e3, e1]
      exact zw_i ⟨rfl, h, fr, ⟨v1, v2⟩, p1, p2⟩
theorem pa53 (hX : pa_X X n) (h : pa_at q X n T p st b s) (p1 : 0 ≤ p ∧ p ≤ n + 1) : zw (zf_53 0 s) fun w u => w = (pa_int (pa_sg X n) p).1 ∧ pa_at q X n T (pa_int (pa_sg X n) p).2 st b u ∧ pa_fr q s u ∧ (-1 ≤ w ∧ w ≤ 999) ∧ 0 ≤ (pa_int (pa_sg X n) p).2 ∧ (pa_int (pa_sg X n) p).2 ≤ n + 1 :=
  pa53_4 hX 3 xfu (-1) p s (pa_fu (by decide)) (by decide) (by decide) (by decide) h p1.1 p1.2 pa_fr.rf (fun h => absurd h (by decide)) (fun _ => rfl)
def pa_num (c : Int) : Prop := c = 98 ∨ c = 119 ∨ c = 87 ∨ c = 114 ∨ c = 110
theorem pa101 {i : Int} (hi : 0 ≤ i ∧ i < 48) : zf_101 q i s = zi (if s.1 458 q i = 98 ∨ s.1 458 q i = 119 ∨ s.1 458 q i = 87 then 1 else 0) s := by
  unfold zf_101
  rw [zn_ok hi]
  by_cases h1 : s.1 458 q i = 98
  · rw [if_pos h1, if_pos (Or.inl h1)]
    rfl
  · by_cases h2 : s.1 458 q i = 119
    · rw [if_neg h1, if_pos h2, if_pos (Or.inr (Or.inl h2))]
      rfl
    · by_cases h3 : s.1 458 q i = 87
      · rw [if_neg h1, if_neg h2, if_pos h3, if_pos (Or.inr (Or.inr h3))]
        rfl
      · rw [if_neg h1, if_neg h2, if_neg h3, if_neg (by omega)]
        rfl
theorem pa99 {i : Int} (hi : 0 ≤ i ∧ i < 48) : zf_99 q i s = zi (if s.1 458 q i = 98 ∨ s.1 458 q i = 119 ∨ s.1 458 q i = 87 ∨ s.1 458 q i = 114 ∨ s.1 458 q i = 110 then 1 else 0) s := by
  unfold zf_99
  rw [zn_ok hi, pa101 hi, zC_zi]
  by_cases h1 : s.1 458 q i = 98 ∨ s.1 458 q i = 119 ∨ s.1 458 q i = 87
  · rw [if_pos h1, if_neg (by decide), if_pos (by omega)]
    rfl
  · rw [if_neg h1, if_pos rfl]
    by_cases h2 : s.1 458 q i = 114
    · rw [if_pos h2, if_pos (by omega)]
      rfl
    · by_cases h3 : s.1 458 q i = 110
      · rw [if_neg h2, if_pos h3, if_pos (by omega)]
        rfl
      · rw [if_neg h2, if_neg h3, if_neg (by omega)]
        rfl
end
