/-! all names told are those of structures -/
section
variable {t st n N p b : Int} {X Y G : Int → Int} {T U : yT} {s u v : zS}
theorem pa_sn_c (a : ∀ i, U 452 i = T 452 i) (b : U 449 0 = T 449 0) {c : Int} : pa_sn U c = pa_sn T c := by
  unfold pa_sn
  rw [b, show U 452 = T 452 from funext a]
theorem pa_chs_P : ∀ (m : Nat) (k : Int) (T : yT), (∀ i, k ≤ i → i < k + m → pa_sn T (T 456 i) ≠ -1) → ∃ U, pa_chs m k T = some U ∧ (∀ (g : Nat) (i : Int), g ≠ 456 → U g i = T g i) ∧ (∀ i, k ≤ i → i < k + m → U 456 i = pa_sn T (T 456 i)) ∧ ∀ i, ¬ (k ≤ i ∧ i < k + m) → U 456 i = T 456 i := by
  intro m
  induction m with
  | zero =>
    intro k T h
    exact ⟨T, rfl, fun _ _ _ => rfl, fun i i1 i2 => by omega, fun _ _ => rfl⟩
  | succ m ih =>
    intro k T h
    have e : ∀ c, pa_sn (pa_w 456 k (pa_sn T (T 456 k)) T) c = pa_sn T c := fun c => pa_sn_c (fun i => pa_w_nk (by decide)) (pa_w_nk (by decide))
    obtain ⟨U, h1, h2, h3, h4⟩ := ih (k + 1) (pa_w 456 k (pa_sn T (T 456 k)) T) (fun i i1 i2 => by
      rw [e, pa_w_ni (by omega)]
      exact h i (by omega) (by omega))
    unfold pa_chs
    rw [if_neg (h k (by omega) (by omega))]
    refine ⟨U, h1, fun g i hg => (h2 g i hg).trans (pa_w_nk hg), fun i i1 i2 => ?_, fun i hi => ?_⟩
    · by_cases d : i = k
      · rw [h4 i (by omega), d, pa_w_eq]
      · rw [h3 i (by omega) (by omega), e, pa_w_ni d]
    · rw [h4 i (by omega), pa_w_ni (by omega)]
theorem pa_chs_N : ∀ (m : Nat) (k : Int) (T : yT) (i : Int), k ≤ i → i < k + m → pa_sn T (T 456 i) = -1 → pa_chs m k T = none := by
  intro m
  induction m with
  | zero =>
    intro k T i h1 h2 h
    omega
  | succ m ih =>
    intro k T i h1 h2 h
    unfold pa_chs
    by_cases d : pa_sn T (T 456 k) = -1
    · rw [if_pos d]
    · rw [if_neg d]
      have ne : i ≠ k := fun z => d (by rw [← z]; exact h)
      refine ih (k + 1) _ i (by omega) (by omega) ?_
      rw [pa_w_ni ne, pa_sn_c (T := T) (fun i => pa_w_nk (by decide)) (pa_w_nk (by decide))]
      exact h
/-- a field's names are all those of structures -/
theorem r170_100 {zk17 : Nat → Int → Int → Int → zS → zR} {zk30 : Nat → Int → Int → Int → Int → zS → zR} {k D f : Int} (hY : ∀ p, 0 ≤ p → p < n → Y p = pa_sg X n p) (h : rS t X n N (some p) s) (hn : n ≤ 200) (hf : f = 8 * st + k) (hw : 0 ≤ 48 * t + f ∧ 48 * t + f < 192) (hN : ∀ c, 0 ≤ c → c ≤ 25 → s.1 583 0 (26 * t + c) = pa_sn T c) (h87 : s.1 587 0 (48 * t + f) = if T 458 f = 65 ∨ T 458 f = 91 then 78 else T 458 f) (h58 : T 458 f = 65 ∨ T 458 f = 91 ∨ T 458 f = 114 ∧ T 464 f = T 463 f + 1) (q : qN Y n f T D) (hD : 0 ≤ D) (hk : 0 ≤ k ∧ k ≤ 8) : ∀ (m M : Nat) (j is : Int), m < M → m = (T 464 f - T 463 f - j).toNat → 0 ≤ j → (0 < m) → (is = 0 ∨ is = 1) → ∃ v, zf_170_100 zk17 zk30 M 0 t is st k (48 * t + f) 1 (D + 2 * j) s = zk30 0 t v st (k + 1) s ∧ (v = 0 ∨ v = 1) ∧ (v = 1 ↔ is = 1 ∧ ∀ i, T 463 f + j ≤ i → i < T 464 f → pa_sn T (T 456 i) ≠ -1) := by
  obtain ⟨q1, q2, q3, q4⟩ := q
  have h1 := h.1
  have h03 := h.2.1
  have hX := h.2.2.2.2.1
  have nx : ∀ (M : Nat) (v pl : Int), zf_170_100 zk17 zk30 (M + 1) 0 t v st k (48 * t + f) 0 pl s = zk30 0 t v st (k + 1) s := fun M v pl => by
    unfold zf_170_100
    rw [if_pos rfl, zg_ok ⟨by omega, by omega⟩]
  intro m
  induction m with
  | zero =>
    intro M j is hM hm j0 m0
    omega
  | succ m ih =>
    intro M j is hM hm j0 m0 his
    obtain ⟨M, rfl⟩ : ∃ L, M = L + 1 := ⟨M - 1, by omega⟩
    obtain ⟨a1, a2, a3, a4⟩ := q4 j j0 (by omega)
    have gY : ∀ i, 0 ≤ i → i < n → s.1 581 0 (200 * t + i) = Y i := fun i i1 i2 => by
      rw [hX i i1 i2, hY i i1 i2]
      exact (if_pos ⟨i1, i2⟩).symm
    -- the step, with the flag v
    have stp : ∀ v : Int, (v = 0 ∨ v = 1) → (v = 1 ↔ is = 1 ∧ pa_sn T (T 456 (T 463 f + j)) ≠ -1) → ∃ v', zf_170_143 zk17 zk30 (fun y0 y1 y2 y3 y4 y5 y6 y7 y => zf_170_100 zk17 zk30 M y0 y1 y2 y3 y4 y5 y6 y7 y) 0 t st k (48 * t + f) (D + 2 * j) v s = zk30 0 t v' st (k + 1) s ∧ (v' = 0 ∨ v' = 1) ∧ (v' = 1 ↔ is = 1 ∧ ∀ i, T 463 f + j ≤ i → i < T 464 f → pa_sn T (T 456 i) ≠ -1) := by
      intro v hv hvi
      obtain ⟨M, rfl⟩ : ∃ L, M = L + 1 := ⟨M - 1, by omega⟩
      have last : ¬ j + 1 < T 464 f - T 463 f → (v = 1 ↔ is = 1 ∧ ∀ i, T 463 f + j ≤ i → i < T 464 f → pa_sn T (T 456 i) ≠ -1) := fun z => by
        rw [hvi]
        refine ⟨fun y => ⟨y.1, fun i i1 i2 => ?_⟩, fun y => ⟨y.1, y.2 _ (Int.le_refl _) (by omega)⟩⟩
        rw [show i = T 463 f + j by omega]
        exact y.2
      unfold zf_170_143
      rw [zn_ok hw, h87]
      by_cases c : T 458 f = 65 ∨ T 458 f = 91
      · rw [if_pos c, if_pos rfl, h03, zg_ok ⟨by omega, by omega⟩, zg_ok ⟨by omega, by omega⟩, zn_ok (by omega), show 200 * t + (D + 2 * j) + 1 = 200 * t + (D + 2 * j + 1) by omega, gY _ (by omega) a1]
        by_cases d : j + 1 < T 464 f - T 463 f
        · rw [if_pos ((a4 (by omega)).mpr d), zg_ok ⟨by omega, by omega⟩, show D + 2 * j + 2 = D + 2 * (j + 1) by omega]
          obtain ⟨v', b1, b2, b3⟩ := ih (M + 1) (j + 1) v (by omega) (by omega) (by omega) (by omega) hv
          refine ⟨v', b1, b2, b3.trans ⟨fun y => ⟨(hvi.mp y.1).1, fun i i1 i2 => ?_⟩, fun y => ⟨hvi.mpr ⟨y.1, y.2 _ (Int.le_refl _) (by omega)⟩, fun i i1 i2 => y.2 i (by omega) i2⟩⟩⟩
          by_cases e : i = T 463 f + j
          · rw [e]
            exact (hvi.mp y.1).2
          · exact y.2 i (by omega) i2
        · rw [if_neg (fun z => d ((a4 (by omega)).mp z)), zg_ok ⟨by omega, by omega⟩]
          exact ⟨v, nx M v _, hv, last d⟩
      · rw [if_neg c, if_neg (show ¬ T 458 f = 78 by omega), zg_ok ⟨by omega, by omega⟩]
        exact ⟨v, nx M v _, hv, last (by omega)⟩
    unfold zf_170_100
    rw [if_neg (by decide)]
    rcases his with his | his
    · rw [if_pos his]
      exact stp 0 (Or.inl rfl) ⟨fun z => absurd z (by decide), fun z => by omega⟩
    · rw [if_neg (show ¬ is = 0 by omega), h03, zg_ok ⟨by omega, by omega⟩, zn_ok (by omega), gY _ (by omega) (by omega), zg_ok ⟨by omega, by omega⟩, zg_ok ⟨by omega, by omega⟩, zg_ok ⟨by omega, by omega⟩, zn_ok (by omega), show 26 * t + Y (D + 2 * j) - 65 = 26 * t + (Y (D + 2 * j) - 65) by omega, hN _ (by omega) (by omega), ← a3]
      by_cases d : pa_sn T (T 456 (T 463 f + j)) = -1
      · rw [if_pos d]
        exact stp 0 (Or.inl rfl) ⟨fun z => absurd z (by decide), fun z => absurd d z.2⟩
      · rw [if_neg d]
        exact stp 1 (Or.inr rfl) ⟨fun _ => ⟨his, d⟩, fun _ => rfl⟩
/-- .. of a structure's fields from k on -/
theorem r170_30 {zk17 : Nat → Int → Int → Int → zS → zR} (hY : ∀ p, 0 ≤ p → p < n → Y p = pa_sg X n p) (h : rS t X n N (some p) s) (hn : n ≤ 200) (hN : ∀ c, 0 ≤ c → c ≤ 25 → s.1 583 0 (26 * t + c) = pa_sn T c) (H : rH t Y n st T s) : ∀ (m M : Nat) (k is : Int), m < M → m = (T 453 st - k).toNat → 0 ≤ k → (is = 0 ∨ is = 1) → ∃ v, zf_170_30 zk17 M 0 t is st k s = zk17 0 t v (st + 1) s ∧ (v = 0 ∨ v = 1) ∧ (v = 1 ↔ is = 1 ∧ ∀ j i, k ≤ j → j < T 453 st → pO st j i T → pa_sn T (T 456 i) ≠ -1) := by
  obtain ⟨⟨t1, t2, t3, t4, t5⟩, hR, -, -, hQ⟩ := H
  have h1 := h.1
  intro m
  induction m with
  | zero =>
    intro M k is hM hm k0 his
    obtain ⟨M, rfl⟩ : ∃ L, M = L + 1 := ⟨M - 1, by omega⟩
    unfold zf_170_30
    rw [zg_ok ⟨by omega, by omega⟩, zg_ok ⟨by omega, by omega⟩, zn_ok (by omega), t2, if_pos (by omega), zg_ok ⟨by omega, by omega⟩]
    exact ⟨is, rfl, his, fun z => ⟨z, fun j i j1 j2 => by omega⟩, fun z => z.1⟩
  | succ m ih =>
    intro M k is hM hm k0 his
    obtain ⟨M, rfl⟩ : ∃ L, M = L + 1 := ⟨M - 1, by omega⟩
    have ew : 8 * (6 * t + st) + k = 48 * t + (8 * st + k) := by omega
    obtain ⟨p', p0, P, -, h8, -, -, -⟩ := (hQ k k0 (by omega)).1
    have h87 := (t4 k k0 (by omega)).2.1
    have hw : 0 ≤ 48 * t + (8 * st + k) ∧ 48 * t + (8 * st + k) < 192 := by omega
    have go : ∀ v : Int, (v = 0 ∨ v = 1) → (v = 1 ↔ is = 1 ∧ ∀ i, pO st k i T → pa_sn T (T 456 i) ≠ -1) → ∃ v', zf_170_30 zk17 M 0 t v st (k + 1) s = zk17 0 t v' (st + 1) s ∧ (v' = 0 ∨ v' = 1) ∧ (v' = 1 ↔ is = 1 ∧ ∀ j i, k ≤ j → j < T 453 st → pO st j i T → pa_sn T (T 456 i) ≠ -1) := by
      intro v hv hvi
      obtain ⟨v', b1, b2, b3⟩ := ih M (k + 1) v (by omega) (by omega) (by omega) hv
      refine ⟨v', b1, b2, b3.trans ⟨fun y => ⟨(hvi.mp y.1).1, fun j i j1 j2 o => ?_⟩, fun y => ⟨hvi.mpr ⟨y.1, fun i o => y.2 k i (Int.le_refl _) (by omega) o⟩, fun j i j1 j2 o => y.2 j i (by omega) j2 o⟩⟩⟩
      by_cases e : j = k
      · rw [e] at o
        exact (hvi.mp y.1).2 i o
      · exact y.2 j i (by omega) j2 o
    have nm : (T 458 (8 * st + k) = 65 ∨ T 458 (8 * st + k) = 91 ∨ T 458 (8 * st + k) = 114 ∧ T 464 (8 * st + k) = T 463 (8 * st + k) + 1) → qN Y n (8 * st + k) T (s.1 588 0 (48 * t + (8 * st + k))) → 0 ≤ s.1 588 0 (48 * t + (8 * st + k)) → ∃ v', zf_170_89 zk17 (fun y0 y1 y2 y3 y4 y => zf_170_30 zk17 M y0 y1 y2 y3 y4 y) 0 t is st k (48 * t + (8 * st + k)) 1 s = zk17 0 t v' (st + 1) s ∧ (v' = 0 ∨ v' = 1) ∧ (v' = 1 ↔ is = 1 ∧ ∀ j i, k ≤ j → j < T 453 st → pO st j i T → pa_sn T (T 456 i) ≠ -1) := by
      intro n1 n2 n3
      unfold zf_170_89
      have l2 := n2.2.1
      have l0 := n2.1
      have l3 : T 464 (8 * st + k) - T 463 (8 * st + k) < 300 := by
        have := (n2.2.2.2 (T 464 (8 * st + k) - T 463 (8 * st + k) - 1) (by omega) (by omega)).1
        omega
      obtain ⟨v, a1, a2, a3⟩ := r170_100 (zk17 := zk17) (zk30 := fun y0 y1 y2 y3 y4 y => zf_170_30 zk17 M y0 y1 y2 y3 y4 y) hY h hn rfl hw hN h87 n1 n2 n3 ⟨k0, by omega⟩ (T 464 (8 * st + k) - T 463 (8 * st + k) - 0).toNat xfu 0 is (pa_fu (by omega)) rfl (Int.le_refl _) (by omega) his
      rw [show s.1 588 0 (48 * t + (8 * st + k)) + 2 * 0 = s.1 588 0 (48 * t + (8 * st + k)) by omega] at a1
      rw [zn_ok hw, a1]
      refine go v a2 (a3.trans ⟨fun y => ⟨y.1, fun i o => y.2 i (by have := o.2.1; omega) o.2.2⟩, fun y => ⟨y.1, fun i i1 i2 => y.2 i ⟨by omega, by omega, i2⟩⟩⟩)
    unfold zf_170_30
    rw [zg_ok ⟨by omega, by omega⟩, zg_ok ⟨by omega, by omega⟩, zn_ok (by omega), t2, if_neg (by omega), zg_ok ⟨by omega, by omega⟩, zg_ok ⟨by omega, by omega⟩, ew, zn_ok hw, h87]
    by_cases c1 : T 458 (8 * st + k) = 65 ∨ T 458 (8 * st + k) = 91
    · rw [if_pos c1, if_neg (by decide), zn_ok hw, if_pos rfl]
      rw [if_pos c1] at h8
      exact nm (by omega) (by rw [h8]; exact P.2.1 c1) (by omega)
    · rw [if_neg c1]
      by_cases c2 : T 458 (8 * st + k) = 114
      · rw [if_pos c2]
        rw [if_neg c1, if_neg (by omega)] at h8
        exact nm (Or.inr (Or.inr ⟨c2, (P.2.2.1 c2).2⟩)) (by rw [h8]; exact (P.2.2.1 c2).1) (by omega)
      · have c3 : ¬ T 458 (8 * st + k) = 78 := by have := P.1; omega
        rw [if_neg c2, zn_ok hw, if_neg c3]
        unfold zf_170_89
        have hx : (xfu : Nat) = (xfu - 1) + 1 := by
          have := pa_fu (m := 1) (by decide)
          omega
        rw [zn_ok hw, hx]
        unfold zf_170_100
        rw [if_pos rfl, zg_ok ⟨by omega, by omega⟩]
        exact go is his ⟨fun z => ⟨z, fun i o => absurd o.1 (by omega)⟩, fun z => z.1⟩
theorem r170_17 (hY : ∀ p, 0 ≤ p → p < n → Y p = pa_sg X n p) (h : rS t X n N (some p) s) (hn : n ≤ 200) (g : rG t Y n T b s) : ∀ (m M : Nat) (z is : Int), m < M → m = (T 449 0 - z).toNat → 0 ≤ z → (is = 0 ∨ is = 1) → ∃ v, zf_170_17 M 0 t is z s = zi v s ∧ (v = 0 ∨ v = 1) ∧ (v = 1 ↔ is = 1 ∧ ∀ st j i, z ≤ st → st < T 449 0 → 0 ≤ j → j < T 453 st → pO st j i T → pa_sn T (T 456 i) ≠ -1) := by
  have h1 := h.1
  obtain ⟨⟨g1, g2, g3⟩, gN, g89, gH, gC, gB⟩ := g
  intro m
  induction m with
  | zero =>
    intro M z is hM hm z0 his
    obtain ⟨M, rfl⟩ : ∃ L, M = L + 1 := ⟨M - 1, by omega⟩
    unfold zf_170_17
    rw [zn_ok (by omega), g1, if_pos (by omega)]
    refine ⟨is, if_pos his, his, fun y => ⟨y, fun st j i a1 a2 => by omega⟩, fun y => y.1⟩
  | succ m ih =>
    intro M z is hM hm z0 his
    obtain ⟨M, rfl⟩ : ∃ L, M = L + 1 := ⟨M - 1, by omega⟩
    unfold zf_170_17
    rw [zn_ok (by omega), g1, if_neg (by omega)]
    have H := gH z z0 (by omega)
    obtain ⟨v, a1, a2, a3⟩ := r170_30 (zk17 := fun y0 y1 y2 y3 y => zf_170_17 M y0 y1 y2 y3 y) hY h hn gN H (T 453 z - 0).toNat xfu 0 is (pa_fu (by have := H.1.2.2.1; omega)) rfl (Int.le_refl _) his
    obtain ⟨v', b1, b2, b3⟩ := ih M (z + 1) v (by omega) (by omega) (by omega) a2
    rw [a1]
    refine ⟨v', b1, b2, b3.trans ⟨fun y => ⟨(a3.mp y.1).1, fun st j i s1 s2 j1 j2 o => ?_⟩, fun y => ⟨a3.mpr ⟨y.1, fun j i j1 j2 o => y.2 z j i (Int.le_refl _) (by omega) j1 j2 o⟩, fun st j i s1 s2 j1 j2 o => y.2 st j i (by omega) s2 j1 j2 o⟩⟩⟩
    by_cases e : st = z
    · subst e
      exact (a3.mp y.1).2 j i j1 j2 o
    · exact y.2 st j i (by omega) s2 j1 j2 o
theorem r170 (hY : ∀ p, 0 ≤ p → p < n → Y p = pa_sg X n p) (h : rS t X n N (some p) s) (hn : n ≤ 200) (g : rG t Y n T b s) : ∃ v, zf_170 0 t s = zi v s ∧ (v = 0 ∨ v = 1) ∧ (v = 1 ↔ 0 < T 449 0 ∧ ∀ i, 0 ≤ i → i < T 451 0 → pa_sn T (T 456 i) ≠ -1) := by
  have h1 := h.1
  have g0 := g.1
  have R : ∀ is, (is = 0 ∨ is = 1) → ∃ v, zf_170_17 xfu 0 t is 0 s = zi v s ∧ (v = 0 ∨ v = 1) ∧ (v = 1 ↔ is = 1 ∧ ∀ i, 0 ≤ i → i < T 451 0 → pa_sn T (T 456 i) ≠ -1) := fun is his => by
    obtain ⟨v, a1, a2, a3⟩ := r170_17 hY h hn g (T 449 0 - 0).toNat xfu 0 is (pa_fu (by omega)) rfl (Int.le_refl _) his
    refine ⟨v, a1, a2, a3.trans ⟨fun y => ⟨y.1, fun i i1 i2 => ?_⟩, fun y => ⟨y.1, fun st j i s1 s2 j1 j2 o => ?_⟩⟩⟩
    · obtain ⟨st, j, w1, w2, w3⟩ := g.2.2.2.2.1 i i1 i2
      exact y.2 st j i w1.1 w1.2 w2.1 w2.2 w3
    · have q := (g.2.2.2.1 st s1 s2).2.2.2.2 j j1 j2
      obtain ⟨⟨p', p0, P, -⟩, -⟩ := q
      have : 0 ≤ T 463 (8 * st + j) ∧ T 464 (8 * st + j) ≤ T 451 0 := by
        by_cases c : T 458 (8 * st + j) = 114
        · have := (P.2.2.1 c).1
          exact ⟨this.1, this.2.2.1⟩
        · have := P.2.1 (by have := o.1; omega)
          exact ⟨this.1, this.2.2.1⟩
      exact y.2 i (by have := o.2.1; omega) (by have := o.2.2; omega)
  unfold zf_170
  rw [zn_ok (by omega), g0.1]
  by_cases c : T 449 0 ≤ 0
  · rw [if_pos c]
    obtain ⟨v, a1, a2, a3⟩ := R 0 (Or.inl rfl)
    exact ⟨v, a1, a2, a3.trans ⟨fun z => absurd z.1 (by decide), fun z => absurd z.1 (by omega)⟩⟩
  · rw [if_neg c]
    obtain ⟨v, a1, a2, a3⟩ := R 1 (Or.inr rfl)
    exact ⟨v, a1, a2, a3.trans ⟨fun z => ⟨by omega, z.2⟩, fun z => ⟨rfl, z.2⟩⟩⟩
end
