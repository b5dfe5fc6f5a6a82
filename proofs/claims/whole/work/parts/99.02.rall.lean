/-! the reference's parser: the whole text -/
/-- what making a template t may change in the reference -/
def rka (t : Int) (s u : zS) : Prop := (∀ (f n : Nat) (i : Int), ¬ (n = 0 ∧ (f = 576 ∨ f = 577 ∨ f = 579 ∨ 603 ≤ f ∧ f ≤ 606 ∨ f = 580 ∧ i = t ∨ f = 581 ∧ 200 * t ≤ i ∧ i < 200 * t + 200 ∨ 586 ≤ f ∧ f ≤ 593 ∧ 48 * t ≤ i ∧ i < 48 * t + 48 ∨ (f = 584 ∨ f = 585) ∧ 6 * t ≤ i ∧ i < 6 * t + 6 ∨ f = 583 ∧ 26 * t ≤ i ∧ i < 26 * t + 26 ∨ f = 582 ∧ i = t)) → u.1 f n i = s.1 f n i) ∧ u.2 = s.2
section
variable {Y Z : Int → Int} {T : yT} {st k t : Int} {s u : zS}
theorem mNum_Y (h : ∀ p, 0 ≤ p → Z p = Y p) : ∀ (m : Nat) (v p : Int), 0 ≤ p → mNum Z m v p = mNum Y m v p
  | 0, _, _, _ => rfl
  | m + 1, v, p, p0 => by
    unfold mNum
    rw [h p p0, mNum_Y h m _ (p + 1) (by omega)]
theorem mTerm_Y {p j p' : Int} (h : ∀ p, 0 ≤ p → Z p = Y p) (p0 : 0 ≤ p) (a : mTerm Y T st k p j p') : mTerm Z T st k p j p' ∧ 0 ≤ p' := by
  unfold mTerm at a ⊢
  rw [h p p0, mNum_Y h 3 0 p p0]
  refine ⟨a, ?_⟩
  rcases a with ⟨-, -, -, a⟩ | ⟨-, -, -, -, -, a⟩
  · have := mNum_b Y 3 0 p
    rw [a] at this
    dsimp only at this
    omega
  · omega
theorem mTail_Y (h : ∀ p, 0 ≤ p → Z p = Y p) : ∀ (m : Nat) (p j : Int), 0 ≤ p → mTail Y T st k m p j → mTail Z T st k m p j
  | 0, p, j, p0, a => by
    unfold mTail at a ⊢
    rw [h p p0]
    exact a
  | m + 1, p, j, p0, a => by
    obtain ⟨a1, a2, p', a3, a4⟩ := a
    obtain ⟨b1, b2⟩ := mTerm_Y h (by omega) a3
    unfold mTail
    rw [h p p0]
    exact ⟨a1, a2, p', b1, mTail_Y h m p' (j + 1) b2 a4⟩
theorem mSumAt_Y {p j : Int} {m : Nat} (h : ∀ p, 0 ≤ p → Z p = Y p) (p0 : 0 ≤ p) (a : mSumAt Y T st k m p j) : mSumAt Z T st k m p j := by
  obtain ⟨a1, p', a2, a3⟩ := a
  obtain ⟨b1, b2⟩ := mTerm_Y h p0 a2
  exact ⟨a1, p', b1, mTail_Y h m p' (j + 1) b2 a3⟩
/-- a template's tables in the reference, as long as its rows are kept -/
theorem mRel.c (R : mRel t T s) (W : yWT T) (a : ∀ (f : Nat) (i : Int), (f = 582 ∧ i = t ∨ f = 583 ∧ 26 * t ≤ i ∧ i < 26 * t + 26 ∨ (f = 584 ∨ f = 585) ∧ 6 * t ≤ i ∧ i < 6 * t + 6 ∨ 586 ≤ f ∧ f ≤ 593 ∧ 48 * t ≤ i ∧ i < 48 * t + 48 ∨ f = 581 ∧ 200 * t ≤ i ∧ i < 200 * t + 200) → u.1 f 0 i = s.1 f 0 i) : mRel t T u := by
  obtain ⟨R1, R2, R3⟩ := R
  obtain ⟨W1, W2, W3⟩ := W
  have hY : ∀ p, 0 ≤ p → mX t u p = mX t s p := fun p p0 => by
    unfold mX
    by_cases c : p < 200
    · rw [if_pos c, if_pos c, a 581 _ (by omega)]
    · rw [if_neg c, if_neg c]
  refine ⟨R1, (a 582 t (by omega)).trans R2, fun st s1 s2 => ?_⟩
  obtain ⟨r1, r2, r3, r4⟩ := R3 st s1 s2
  have w8 := W3 st s1 s2
  refine ⟨(a 585 _ (by omega)).trans r1, (a 584 _ (by omega)).trans r2, r3, fun k k1 k2 => ?_⟩
  have e : ∀ f : Nat, 586 ≤ f → f ≤ 593 → u.1 f 0 (48 * t + (8 * st + k)) = s.1 f 0 (48 * t + (8 * st + k)) := fun f f1 f2 => a f _ (by omega)
  obtain ⟨h1, h2, h3, h4, h5, h6, h7, h8, h9, h10, h11, h12, h13⟩ := r4 k k1 k2
  unfold mRelF
  rw [e 586 (by decide) (by decide), e 587 (by decide) (by decide), e 588 (by decide) (by decide), e 589 (by decide) (by decide), e 590 (by decide) (by decide), e 591 (by decide) (by decide), e 592 (by decide) (by decide), e 593 (by decide) (by decide)]
  refine ⟨h1, h2, h3, h4, h5, h6, h7, fun z => ⟨(h8 z).1, fun j j1 j2 => ?_⟩, fun z => ⟨(h9 z).1, (h9 z).2.1, mSumAt_Y hY (h9 z).1 (h9 z).2.2⟩, fun z => ⟨(h10 z).1, (h10 z).2.1, mSumAt_Y hY (h10 z).1 (h10 z).2.2⟩, fun z => ⟨(h11 z).1, by rw [mNum_Y hY 3 0 _ (h11 z).1.1]; exact (h11 z).2⟩, h12, h13⟩
  obtain ⟨z0, zj⟩ := h8 z
  obtain ⟨g1, g2, g3, g4⟩ := zj j j1 j2
  rw [a 581 (200 * t + (s.1 588 0 (48 * t + (8 * st + k)) + 2 * j)) (by omega), a 581 (200 * t + (s.1 588 0 (48 * t + (8 * st + k)) + 2 * j + 1)) (by omega), a 583 _ (by omega)]
  exact ⟨g1, g2, g3, g4⟩
end
section
variable {t n N p x : Int} {X Y : Int → Int} {T : yT} {s u v : zS}
theorem rka.rf : rka t s s := ⟨fun _ _ _ _ => rfl, rfl⟩
theorem rka.tr (a : rka t s u) (c : rka t u v) : rka t s v := ⟨fun f n i h => (c.1 f n i h).trans (a.1 f n i h), c.2.trans a.2⟩
theorem rkt.ka (a : rkt t s u) : rka t s u := ⟨fun f n i h => a.1 f n i (by omega), a.2.1⟩
theorem r171_151 (hX : pa_X X n) (hY : ∀ p, 0 ≤ p → p < n → Y p = pa_sg X n p) : ∀ (m M : Nat) (T : yT) (p : Int) (s : zS), m + 2 ≤ M → (m : Int) = 6 - T 449 0 → rS t X n n (some p) s → rG t Y n T p s → ∃ u, zf_171_151 M 0 x t s = zf_171_177 0 x t u ∧ rkt t s u ∧
    (match pa_strs (pa_sg X n) m (T 449 0) T p with
    | none => u.1 606 0 0 = 0
    | some y => (pa_sg X n y.2 = -1 ∧ rS t X n n (some y.2) u ∧ rG t Y n y.1 y.2 u) ∨ (pa_sg X n y.2 ≠ -1 ∧ u.1 606 0 0 = 0)) := by
  have bad : ∀ (M : Nat) (s : zS), 1 ≤ M → s.1 606 0 0 = 0 → zf_171_151 M 0 x t s = zf_171_177 0 x t s := fun M s hM h => by
    obtain ⟨M, rfl⟩ : ∃ L, M = L + 1 := ⟨M - 1, by omega⟩
    unfold zf_171_151
    rw [if_pos h]
  intro m
  induction m with
  | zero =>
    intro M T p s hM hm h g
    obtain ⟨M, rfl⟩ : ∃ L, M = L + 1 := ⟨M - 1, by omega⟩
    have h4 := h.2.2.2.1
    have h5 := h.p5
    have hr := ra_c (X := X) (n := n) (p := p) (by omega)
    unfold zf_171_151 pa_strs
    rw [if_neg (show ¬ s.1 606 0 0 = 0 by have := h.2.2.2.2.2.1; omega), h.2.2.1, h5]
    by_cases c : n ≤ p
    · rw [if_pos c]
      exact ⟨s, rfl, rkt.rf, Or.inl ⟨by dsimp only; omega, h, g⟩⟩
    · rw [if_neg c]
      obtain ⟨u, a1, a2, a3⟩ := r169 hX hY h (by omega) g
      rw [if_neg (show ¬ T 449 0 < 6 by omega)] at a3
      have a3 : rS t X n (n + 300) none u := a3
      have e6 : u.1 606 0 0 = 0 := a3.2.2.2.2.2
      rw [a1, zC_zi]
      refine ⟨u, bad M u (by omega) e6, a2, Or.inr ⟨?_, e6⟩⟩
      have := hX.2 p (by omega) (by omega)
      dsimp only
      omega
  | succ m ih =>
    intro M T p s hM hm h g
    obtain ⟨M, rfl⟩ : ∃ L, M = L + 1 := ⟨M - 1, by omega⟩
    have h4 := h.2.2.2.1
    have h5 := h.p5
    have hr := ra_c (X := X) (n := n) (p := p) (by omega)
    unfold zf_171_151 pa_strs
    rw [if_neg (show ¬ s.1 606 0 0 = 0 by have := h.2.2.2.2.2.1; omega), h.2.2.1, h5]
    by_cases c : n ≤ p
    · rw [if_pos c, if_pos (show pa_sg X n p = -1 by omega)]
      exact ⟨s, rfl, rkt.rf, Or.inl ⟨by dsimp only; omega, h, g⟩⟩
    · have hx := hX.2 p (by omega) (by omega)
      rw [if_neg c, if_neg (show ¬ pa_sg X n p = -1 by omega)]
      obtain ⟨u, a1, a2, a3⟩ := r169 hX hY h (by omega) g
      rw [if_pos (show T 449 0 < 6 by omega)] at a3
      rw [a1, zC_zi]
      revert a3
      cases e : pa_str (pa_sg X n) (T 449 0) T p with
      | none =>
        intro a3
        have e6 : u.1 606 0 0 = 0 := rS.ob a3 |>.elim (fun z => z.1) (fun z => by cases z.2)
        exact ⟨u, bad M u (by omega) e6, a2, e6⟩
      | some y =>
        intro a3
        obtain ⟨b1, b2, b3, b4, b5⟩ := a3
        obtain ⟨w, c1, c2, c3⟩ := ih M y.1 y.2 u (by omega) (by omega) b1 b5
        rw [b4] at c3
        exact ⟨w, c1, a2.tr c2, c3⟩
theorem r171_113 (ht : 0 ≤ t ∧ t ≤ 3) : ∀ (m M : Nat) (k : Int) (s : zS), m < M → m = (26 - k).toNat → 0 ≤ k → ∃ u, zf_171_113 M 0 x t k s = zf_171_151 xfu 0 x t u ∧ rka t s u ∧ (∀ c, k ≤ c → c ≤ 25 → u.1 583 0 (26 * t + c) = -1) ∧ (∀ c, c < k → u.1 583 0 (26 * t + c) = s.1 583 0 (26 * t + c)) ∧ u.1 582 0 t = 0 ∧ u.1 606 0 0 = 1 ∧ ∀ (f : Nat) (i : Int), f ≠ 583 → f ≠ 582 → f ≠ 606 → u.1 f 0 i = s.1 f 0 i := by
  intro m
  induction m with
  | zero =>
    intro M k s hM hm k0
    obtain ⟨M, rfl⟩ : ∃ L, M = L + 1 := ⟨M - 1, by omega⟩
    unfold zf_171_113
    rw [if_pos (by omega), zW_ok (by omega), zPz_ok (by decide)]
    refine ⟨_, rfl, ⟨fun f' n' i' hn => ?_, rfl⟩, fun c c1 c2 => by omega, fun c c1 => (zp_nk (by decide)).trans (zp_nk (by decide)), (zp_nk (by decide)).trans zp_eq, zp_eq, fun f i f1 f2 f3 => (zp_nk f3).trans (zp_nk f2)⟩
    rw [zp_n3 (by omega), zp_n3 (by omega)]
  | succ m ih =>
    intro M k s hM hm k0
    obtain ⟨M, rfl⟩ : ∃ L, M = L + 1 := ⟨M - 1, by omega⟩
    unfold zf_171_113
    rw [if_neg (by omega), zg_ok ⟨by omega, by omega⟩, zg_ok ⟨by omega, by omega⟩, zW_ok (by omega), zg_ok ⟨by omega, by omega⟩]
    obtain ⟨u, a1, a2, a3, a4, a5, a6, a7⟩ := ih M (k + 1) (zp 583 0 (26 * t + k) (-1) s) (by omega) (by omega) (by omega)
    refine ⟨u, a1, ⟨fun f' n' i' hn => ?_, a2.2⟩, fun c c1 c2 => ?_, fun c c1 => ?_, a5, a6, fun f i f1 f2 f3 => (a7 f i f1 f2 f3).trans (zp_nk f1)⟩
    · rw [a2.1 f' n' i' hn, zp_n3 (by omega)]
    · by_cases e : c = k
      · rw [a4 c (by omega), e, zp_eq]
      · exact a3 c (by omega) c2
    · rw [a4 c (by omega), zp_ni (by omega)]
theorem r171_79 (ht : 0 ≤ t ∧ t ≤ 3) (hn : 0 ≤ n ∧ n ≤ 200) : ∀ (m M : Nat) (k : Int) (s : zS), m < M → m = (n - k).toNat → 0 ≤ k → s.1 603 0 0 = 200 * t → ∃ u, zf_171_79 M 0 x n t k s = zf_171_113 xfu 0 x t 0 u ∧ rka t s u ∧ (∀ i, k ≤ i → i < n → u.1 581 0 (200 * t + i) = s.1 578 0 i) ∧ (∀ i, i < k → u.1 581 0 (200 * t + i) = s.1 581 0 (200 * t + i)) ∧ ∀ (f : Nat) (i : Int), f ≠ 581 → u.1 f 0 i = s.1 f 0 i := by
  intro m
  induction m with
  | zero =>
    intro M k s hM hm k0 h3
    obtain ⟨M, rfl⟩ : ∃ L, M = L + 1 := ⟨M - 1, by omega⟩
    unfold zf_171_79
    rw [if_pos (by omega)]
    exact ⟨s, rfl, rka.rf, fun i i1 i2 => by omega, fun i i1 => rfl, fun f i f1 => rfl⟩
  | succ m ih =>
    intro M k s hM hm k0 h3
    obtain ⟨M, rfl⟩ : ∃ L, M = L + 1 := ⟨M - 1, by omega⟩
    unfold zf_171_79
    rw [if_neg (by omega), zn_ok (by omega), h3, zg_ok ⟨by omega, by omega⟩, zW_ok (by omega), zg_ok ⟨by omega, by omega⟩]
    obtain ⟨u, a1, a2, a3, a4, a5⟩ := ih M (k + 1) (zp 581 0 (200 * t + k) (s.1 578 0 k) s) (by omega) (by omega) (by omega) ((zp_nk (by decide)).trans h3)
    refine ⟨u, a1, ⟨fun f' n' i' hn => ?_, a2.2⟩, fun i i1 i2 => ?_, fun i i1 => ?_, fun f i f1 => (a5 f i f1).trans (zp_nk f1)⟩
    · rw [a2.1 f' n' i' hn, zp_n3 (by omega)]
    · by_cases e : i = k
      · rw [a4 i (by omega), e, zp_eq]
      · rw [a3 i (by omega) i2, zp_nk (by decide)]
    · rw [a4 i (by omega), zp_ni (by omega)]
theorem T171_A (hx : ¬ (0 ≤ x ∧ x ≤ 9)) : zf_171 0 x s = zi 0 (zp 576 0 0 1 s) := by
  unfold zf_171 zf_171_16
  rw [z146, zC_zi, if_neg hx, if_pos rfl, zP_ok, if_neg (by rw [zp_eq]; decide)]
theorem T171_B (hx : 0 ≤ x ∧ x ≤ 9) (h4 : s.1 579 0 0 = 4) : zf_171 0 x s = zi 0 (zp 576 0 0 2 (zp 577 0 0 0 (zp 576 0 0 0 s))) := by
  unfold zf_171 zf_171_16 zf_145
  rw [z146, zC_zi, if_pos hx, if_neg (by decide), zP_ok, if_pos (by rw [zp_eq]; decide), zP_ok, if_pos (by rw [zp_nk (by decide), zp_nk (by decide)]; exact h4), zP_ok, zC_zi]
theorem T171 (hX : pa_X X n) (hx : 0 ≤ x ∧ x ≤ 9) (ht : 0 ≤ t ∧ t ≤ 3) (h9 : s.1 579 0 0 = t) (h7 : s.1 577 0 0 = n) (h8 : ∀ i, 0 ≤ i → i < n → s.1 578 0 i = X i) (h89 : ∀ i, -48 ≤ s.1 589 0 i ∧ s.1 589 0 i ≤ 207) (T : yT) : ∃ v u, zf_171 0 x s = zi v u ∧ rka t s u ∧ (∀ i, -48 ≤ u.1 589 0 i ∧ u.1 589 0 i ≤ 207) ∧ u.1 577 0 0 = 0 ∧
    (match pa_all (pa_sg X n) T with
    | none => v = 0 ∧ u.1 576 0 0 = 2 ∧ u.1 579 0 0 = t
    | some U => v = t ∧ u.1 576 0 0 = 0 ∧ u.1 579 0 0 = t + 1 ∧ u.1 580 0 t = x ∧ mRel t U u ∧ yWT U) := by
  have hn := hX.1
  unfold zf_171 zf_171_16
  rw [z146, zC_zi, if_pos hx, if_neg (by decide), zP_ok, if_pos (by rw [zp_eq]; decide), zP_ok, show (zp 577 0 0 0 (zp 576 0 0 0 s)).1 579 0 0 = t by rw [zp_nk (by decide), zp_nk (by decide)]; exact h9, if_neg (by omega), zg_ok ⟨by omega, by omega⟩, zP_ok, show (zp 576 0 0 0 s).1 577 0 0 = n by rw [zp_nk (by decide)]; exact h7, zP_ok, zP_ok]
  have A0 : rka t s (zp 605 0 0 0 (zp 604 0 0 n (zp 603 0 0 (200 * t) (zp 577 0 0 0 (zp 576 0 0 0 s))))) := ⟨fun f' n' i' hn => by
    rw [zp_n3 (by omega), zp_n3 (by omega), zp_n3 (by omega), zp_n3 (by omega), zp_n3 (by omega)], rfl⟩
  have B0 : ∀ (f : Nat) (i : Int), f ≠ 576 → f ≠ 577 → f ≠ 603 → f ≠ 604 → f ≠ 605 → (zp 605 0 0 0 (zp 604 0 0 n (zp 603 0 0 (200 * t) (zp 577 0 0 0 (zp 576 0 0 0 s))))).1 f 0 i = s.1 f 0 i := fun f i f1 f2 f3 f4 f5 => by
    rw [zp_nk f5, zp_nk f4, zp_nk f3, zp_nk f2, zp_nk f1]
  have b76 : (zp 605 0 0 0 (zp 604 0 0 n (zp 603 0 0 (200 * t) (zp 577 0 0 0 (zp 576 0 0 0 s))))).1 576 0 0 = 0 := by
    rw [zp_nk (by decide), zp_nk (by decide), zp_nk (by decide), zp_nk (by decide), zp_eq]
  have b77 : (zp 605 0 0 0 (zp 604 0 0 n (zp 603 0 0 (200 * t) (zp 577 0 0 0 (zp 576 0 0 0 s))))).1 577 0 0 = 0 := by
    rw [zp_nk (by decide), zp_nk (by decide), zp_nk (by decide), zp_eq]
  have b03 : (zp 605 0 0 0 (zp 604 0 0 n (zp 603 0 0 (200 * t) (zp 577 0 0 0 (zp 576 0 0 0 s))))).1 603 0 0 = 200 * t := by
    rw [zp_nk (by decide), zp_nk (by decide), zp_eq]
  have b04 : (zp 605 0 0 0 (zp 604 0 0 n (zp 603 0 0 (200 * t) (zp 577 0 0 0 (zp 576 0 0 0 s))))).1 604 0 0 = n := by
    rw [zp_nk (by decide), zp_eq]
  have b05 : (zp 605 0 0 0 (zp 604 0 0 n (zp 603 0 0 (200 * t) (zp 577 0 0 0 (zp 576 0 0 0 s))))).1 605 0 0 = 0 := zp_eq
  generalize zp 605 0 0 0 (zp 604 0 0 n (zp 603 0 0 (200 * t) (zp 577 0 0 0 (zp 576 0 0 0 s)))) = s1 at A0 B0 b76 b77 b03 b04 b05 ⊢
  obtain ⟨s2, c1, c2, c3, c4, c5⟩ := r171_79 (x := x) ht hn (n - 0).toNat xfu 0 s1 (pa_fu (by omega)) rfl (Int.le_refl _) b03
  obtain ⟨s3, d1, d2, d3, d4, d5, d6, d7⟩ := r171_113 (x := x) ht (26 - 0 : Int).toNat xfu 0 s2 (pa_fu (by decide)) rfl (Int.le_refl _)
  have A3 := (A0.tr c2).tr d2
  have e2 : ∀ (f : Nat) (i : Int), f ≠ 581 → f ≠ 583 → f ≠ 582 → f ≠ 606 → s3.1 f 0 i = s1.1 f 0 i := fun f i f1 f2 f3 f4 => (d7 f i f2 f3 f4).trans (c5 f i f1)
  have e1 : ∀ i, 0 ≤ i → i < n → s3.1 581 0 (200 * t + i) = X i := fun i i1 i2 => by
    rw [d7 581 _ (by decide) (by decide) (by decide), c3 i i1 i2, B0 578 i (by decide) (by decide) (by decide) (by decide) (by decide)]
    exact h8 i i1 i2
  have e89 : ∀ i, -48 ≤ s3.1 589 0 i ∧ s3.1 589 0 i ≤ 207 := fun i => by
    rw [e2 589 i (by decide) (by decide) (by decide) (by decide), B0 589 i (by decide) (by decide) (by decide) (by decide) (by decide)]
    exact h89 i
  have hS : rS t X n n (some 0) s3 := ⟨ht, (e2 603 0 (by decide) (by decide) (by decide) (by decide)).trans b03, (e2 604 0 (by decide) (by decide) (by decide) (by decide)).trans b04, by rw [e2 605 0 (by decide) (by decide) (by decide) (by decide), b05]; exact ⟨Int.le_refl _, hn.1⟩, e1, d6, (e2 605 0 (by decide) (by decide) (by decide) (by decide)).trans b05⟩
  have hY : ∀ p, 0 ≤ p → p < n → mX t s3 p = pa_sg X n p := fun p p0 pn => by
    unfold mX pa_sg
    rw [if_pos (by omega), if_pos ⟨p0, pn⟩]
    exact e1 p p0 pn
  have w9 : pa_w 451 0 0 (pa_w 450 0 0 (pa_w 449 0 0 T)) 449 0 = 0 := (pa_w_nk (by decide)).trans ((pa_w_nk (by decide)).trans pa_w_eq)
  have w0 : pa_w 451 0 0 (pa_w 450 0 0 (pa_w 449 0 0 T)) 450 0 = 0 := (pa_w_nk (by decide)).trans pa_w_eq
  have w1 : pa_w 451 0 0 (pa_w 450 0 0 (pa_w 449 0 0 T)) 451 0 = 0 := pa_w_eq
  have eq : pa_all (pa_sg X n) T = (pa_strs (pa_sg X n) 6 0 (pa_w 451 0 0 (pa_w 450 0 0 (pa_w 449 0 0 T))) 0).bind (pa_fin2 (pa_sg X n)) := rfl
  rw [eq]
  generalize pa_w 451 0 0 (pa_w 450 0 0 (pa_w 449 0 0 T)) = T1 at w9 w0 w1 ⊢
  have hG : rG t (mX t s3) n T1 0 s3 := ⟨⟨by rw [d5, w9], by omega, by omega⟩, fun c z1 z2 => by
    rw [d3 c z1 z2]
    unfold pa_sn
    rw [w9]
    rfl, e89, fun st s1 s2 => by omega, fun i i1 i2 => by omega, by omega, by omega⟩
  obtain ⟨u, f1, f2, f3⟩ := r171_151 (x := x) hX hY 6 xfu T1 0 s3 (by have := pa_fu (m := 10) (by decide); omega) (by rw [w9]; rfl) hS hG
  rw [w9] at f3
  rw [c1, d1, f1]
  have A4 := A3.tr f2.ka
  have u76 : u.1 576 0 0 = 0 := by rw [f2.1 576 0 0 (by omega), e2 576 0 (by decide) (by decide) (by decide) (by decide), b76]
  have u77 : u.1 577 0 0 = 0 := by rw [f2.1 577 0 0 (by omega), e2 577 0 (by decide) (by decide) (by decide) (by decide), b77]
  have u79 : u.1 579 0 0 = t := by rw [f2.1 579 0 0 (by omega), e2 579 0 (by decide) (by decide) (by decide) (by decide), B0 579 0 (by decide) (by decide) (by decide) (by decide) (by decide), h9]
  have u89 : ∀ i, -48 ≤ u.1 589 0 i ∧ u.1 589 0 i ≤ 207 := f2.2.2 e89
  -- it fails
  have fail : ∀ w : zS, w = zp 576 0 0 2 u → ∃ v u', zf_171_192 0 u = zi v u' ∧ rka t s u' ∧ (∀ i, -48 ≤ u'.1 589 0 i ∧ u'.1 589 0 i ≤ 207) ∧ u'.1 577 0 0 = 0 ∧ v = 0 ∧ u'.1 576 0 0 = 2 ∧ u'.1 579 0 0 = t := fun w hw => by
    unfold zf_171_192 zf_145
    rw [zP_ok, zC_zi, ← hw]
    subst hw
    refine ⟨0, _, rfl, ⟨fun f' n' i' hn => ?_, A4.2⟩, fun i => ?_, (zp_nk (by decide)).trans u77, rfl, zp_eq, (zp_nk (by decide)).trans u79⟩
    · rw [zp_n3 (by omega)]
      exact A4.1 f' n' i' hn
    · rw [zp_nk (by decide)]
      exact u89 i
  unfold zf_171_177
  revert f3
  cases e : pa_strs (pa_sg X n) 6 0 T1 0 with
  | none =>
    intro f3
    have f3 : u.1 606 0 0 = 0 := f3
    rw [if_pos f3]
    exact fail _ rfl
  | some y =>
    intro f3
    rcases f3 with ⟨k1, k2, k3⟩ | ⟨k1, k2⟩
    · have k6 : u.1 606 0 0 = 1 := k2.2.2.2.2.2.1
      have k5 := k2.p5
      have k4 := k2.2.2.2.1
      obtain ⟨v, l1, l2, l3⟩ := r170 hY k2 hn.2 k3
      rw [if_neg (show ¬ u.1 606 0 0 = 0 by omega), l1, zC_zi]
      have b := k3.1.2
      by_cases cv : v = 0
      · rw [if_pos cv]
        have e2 : (some y).bind (pa_fin2 (pa_sg X n)) = none := by
          show pa_fin2 (pa_sg X n) y = none
          unfold pa_fin2
          by_cases c9 : 0 < y.1 449 0
          · rw [if_pos ⟨k1, c9⟩]
            have : ¬ ∀ i, 0 ≤ i → i < y.1 451 0 → pa_sn y.1 (y.1 456 i) ≠ -1 := fun z => by
              have := l3.mpr ⟨c9, z⟩
              omega
            by_cases ex : ∃ i, (0 ≤ i ∧ i < y.1 451 0) ∧ pa_sn y.1 (y.1 456 i) = -1
            · obtain ⟨i, i1, i2⟩ := ex
              exact pa_chs_N _ 0 _ i i1.1 (by omega) i2
            · exact absurd (fun i i1 i2 z => ex ⟨i, ⟨i1, i2⟩, z⟩) this
          · rw [if_neg (fun z => c9 z.2)]
        rw [e2]
        exact fail _ rfl
      · rw [if_neg cv]
        obtain ⟨c9, cs⟩ := l3.mp (by omega)
        obtain ⟨U, m1, m2, m3, m4⟩ := pa_chs_P (y.1 451 0).toNat 0 y.1 (fun i i1 i2 => cs i i1 (by omega))
        have e2 : (some y).bind (pa_fin2 (pa_sg X n)) = some U := by
          show pa_fin2 (pa_sg X n) y = some U
          unfold pa_fin2
          rw [if_pos ⟨k1, c9⟩]
          exact m1
        rw [e2, zW_ok (by omega), show (zp 580 0 t x u).1 579 0 0 = t by rw [zp_nk (by decide)]; exact u79, zg_ok ⟨by omega, by omega⟩, zP_ok]
        have eX : mX t s3 = mX t u := funext fun p => by
          unfold mX
          rw [f2.1 581 0 _ (by omega)]
        rw [eX] at k3
        have W := rG_W hn.2 (show y.2 ≤ n by omega) k3 c9 m2 fun i i1 i2 => ⟨cs i i1 i2, m3 i i1 (by omega)⟩
        have R := rG_rel hn.2 ht k3 m2 fun i i1 i2 => m3 i i1 (by omega)
        have e0 : ∀ (f : Nat) (i : Int), f ≠ 579 → f ≠ 580 → (zp 579 0 0 (t + 1) (zp 580 0 t x u)).1 f 0 i = u.1 f 0 i := fun f i f1 f2 => (zp_nk f1).trans (zp_nk f2)
        refine ⟨t, _, rfl, ⟨fun f' n' i' hn => ?_, A4.2⟩, fun i => ?_, (e0 577 0 (by decide) (by decide)).trans u77, rfl, (e0 576 0 (by decide) (by decide)).trans u76, zp_eq, (zp_nk (by decide)).trans zp_eq, R.c W fun f i hf => e0 f i (by omega) (by omega), W⟩
        · rw [zp_n3 (by omega), zp_n3 (by omega)]
          exact A4.1 f' n' i' hn
        · rw [e0 589 i (by decide) (by decide)]
          exact u89 i
    · rw [if_pos k2]
      have e2 : (some y).bind (pa_fin2 (pa_sg X n)) = none := by
        show pa_fin2 (pa_sg X n) y = none
        unfold pa_fin2
        rw [if_neg (fun z => k1 z.1)]
      rw [e2]
      exact fail _ rfl
end
