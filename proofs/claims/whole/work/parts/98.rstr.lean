/-! the reference's parser: a structure -/
/-- what the reference's tables hold of structure st -/
def rH (t : Int) (Y : Int → Int) (n st : Int) (T : yT) (s : zS) : Prop := rT t st T s ∧ rR t st (T 453 st) T s ∧ s.1 584 0 (6 * t + st) = T 452 st ∧ (0 ≤ T 452 st ∧ T 452 st ≤ 25) ∧ ∀ j, 0 ≤ j → j < T 453 st → rQ t Y n st j T s ∧ pRR st T j
/-- .. of a template so far -/
def rG (t : Int) (Y : Int → Int) (n : Int) (T : yT) (p : Int) (s : zS) : Prop := (s.1 582 0 t = T 449 0 ∧ 0 ≤ T 449 0 ∧ T 449 0 ≤ 6) ∧ (∀ c, 0 ≤ c → c ≤ 25 → s.1 583 0 (26 * t + c) = pa_sn T c) ∧ (∀ i, -48 ≤ s.1 589 0 i ∧ s.1 589 0 i ≤ 207) ∧ (∀ st, 0 ≤ st → st < T 449 0 → rH t Y n st T s) ∧ (∀ i, 0 ≤ i → i < T 451 0 → ∃ st j, (0 ≤ st ∧ st < T 449 0) ∧ (0 ≤ j ∧ j < T 453 st) ∧ pO st j i T) ∧ (0 ≤ T 450 0 ∧ 2 * T 450 0 ≤ p) ∧ 0 ≤ T 451 0 ∧ 2 * T 451 0 ≤ p
/-- what the parser of template t may change -/
def rkt (t : Int) (s u : zS) : Prop := (∀ (f n : Nat) (i : Int), ¬ (n = 0 ∧ (f = 605 ∨ f = 606 ∨ 586 ≤ f ∧ f ≤ 593 ∧ 48 * t ≤ i ∧ i < 48 * t + 48 ∨ (f = 584 ∨ f = 585) ∧ 6 * t ≤ i ∧ i < 6 * t + 6 ∨ f = 583 ∧ 26 * t ≤ i ∧ i < 26 * t + 26 ∨ f = 582 ∧ i = t)) → u.1 f n i = s.1 f n i) ∧ u.2 = s.2 ∧ ((∀ i, -48 ≤ s.1 589 0 i ∧ s.1 589 0 i ≤ 207) → ∀ i, -48 ≤ u.1 589 0 i ∧ u.1 589 0 i ≤ 207)
/-- U goes on from T with structure st -/
def pZ (st : Int) (T U : yT) : Prop := (∀ (g : Nat) (i : Int), ¬ (g = 449 ∨ g = 450 ∨ g = 451 ∨ g = 454 ∨ g = 455 ∨ g = 456 ∨ ((g = 452 ∨ g = 453) ∧ i = st) ∨ (457 ≤ g ∧ g ≤ 468 ∧ 8 * st ≤ i ∧ i < 8 * st + 8)) → U g i = T g i) ∧ (T 450 0 ≤ U 450 0 ∧ ∀ i, i < T 450 0 → U 454 i = T 454 i ∧ U 455 i = T 455 i) ∧ (T 451 0 ≤ U 451 0 ∧ ∀ i, i < T 451 0 → U 456 i = T 456 i)
section
variable {t st n N p b : Int} {X Y G : Int → Int} {T U : yT} {s u v : zS}
theorem pa_new_X {c : Int} : (∀ (g : Nat) (i : Int), g ≠ 449 → ¬ (g = 453 ∧ i = st) → ¬ (g = 452 ∧ i = st) → pa_new st c T g i = T g i) ∧ pa_new st c T 449 0 = T 449 0 + 1 ∧ pa_new st c T 453 st = 0 ∧ pa_new st c T 452 st = c := by
  refine ⟨fun g i h1 h2 h3 => ?_, pa_w_eq, (pa_w_nk (by decide)).trans pa_w_eq, (pa_w_nk (by decide)).trans ((pa_w_nk (by decide)).trans pa_w_eq)⟩
  exact (pa_w_nk h1).trans ((if_neg h2).trans (if_neg h3))
theorem pX.Z {c : Int} (a : pX st (pa_new st c T) U) : pZ st T U := by
  obtain ⟨n1, n2, n3, n4⟩ := pa_new_X (T := T) (st := st) (c := c)
  obtain ⟨a1, ⟨a2, a3⟩, a4, a5⟩ := a
  rw [n1 450 0 (by decide) (by omega) (by omega)] at a2 a3
  rw [n1 451 0 (by decide) (by omega) (by omega)] at a4 a5
  refine ⟨fun g i hn => ?_, ⟨a2, fun i h => ?_⟩, a4, fun i h => ?_⟩
  · rw [a1 g i (by omega), n1 g i (by omega) (by omega) (by omega)]
  · rw [(a3 i h).1, (a3 i h).2, n1 454 i (by decide) (by omega) (by omega), n1 455 i (by decide) (by omega) (by omega)]
    exact ⟨rfl, rfl⟩
  · rw [a5 i h, n1 456 i (by decide) (by omega) (by omega)]
theorem pZ.E {z K : Int} (h : pZ st T U) (c : z ≠ st) (hK : K ≤ 8) : pE z K T U := ⟨fun g i g1 g2 i1 i2 => h.1 g _ (by omega), h.2.1, h.2.2⟩
theorem rkt.rf : rkt t s s := ⟨fun _ _ _ _ => rfl, rfl, fun h => h⟩
theorem rkt.tr (a : rkt t s u) (c : rkt t u v) : rkt t s v := ⟨fun f n i h => (c.1 f n i h).trans (a.1 f n i h), c.2.1.trans a.2.1, fun h => c.2.2 (a.2.2 h)⟩
theorem rk.kt (a : rk s u) : rkt t s u := ⟨fun f n i h => a.1 f n i (by omega), a.2, fun h i => by
  rw [a.1 589 0 i (by omega)]
  exact h i⟩
theorem rkl.kt (a : rkl t st s u) (h : 0 ≤ st ∧ st ≤ 5) : rkt t s u := ⟨fun f n i hn => a.1 f n i (by omega), a.2.1, a.2.2⟩
theorem rH.go {z : Int} (h : rH t Y n z T s) (hz : z ≠ st) (a : pZ st T U) (c : ∀ (f : Nat) (i : Int), 586 ≤ f → f ≤ 593 → 48 * t + 8 * z ≤ i → i < 48 * t + 8 * z + 8 → u.1 f 0 i = s.1 f 0 i) (d : ∀ f : Nat, f = 584 ∨ f = 585 → u.1 f 0 (6 * t + z) = s.1 f 0 (6 * t + z)) : rH t Y n z U u := by
  obtain ⟨⟨h1, h2, h3, h4, h5⟩, hR, h6, h7, h8⟩ := h
  have e3 : U 453 z = T 453 z := a.1 453 z (by omega)
  have e2 : U 452 z = T 452 z := a.1 452 z (by omega)
  have e : ∀ (g : Nat) (j : Int), 457 ≤ g → g ≤ 468 → 0 ≤ j → j < T 453 z → U g (8 * z + j) = T g (8 * z + j) := fun g j g1 g2 j1 j2 => a.1 g _ (by omega)
  refine ⟨⟨h1, by rw [d 585 (Or.inr rfl), e3, h2], by rw [e3]; exact h3, fun k k1 k2 => ?_, fun i j i1 i2 j1 j2 q => ?_⟩, fun j j1 j2 => ?_, by rw [d 584 (Or.inl rfl), e2, h6], by rw [e2]; exact h7, fun j j1 j2 => ?_⟩
  · rw [e3] at k2
    rw [c 586 _ (by decide) (by decide) (by omega) (by omega), c 587 _ (by decide) (by decide) (by omega) (by omega), e 457 k (by decide) (by decide) k1 k2, e 458 k (by decide) (by decide) k1 k2]
    exact h4 k k1 k2
  · rw [e3] at i2 j2
    rw [e 457 i (by decide) (by decide) i1 i2, e 457 j (by decide) (by decide) j1 j2] at q
    exact h5 i j i1 i2 j1 j2 q
  · rw [e3] at j2
    rw [e3, c 592 _ (by decide) (by decide) (by omega) (by omega), c 593 _ (by decide) (by decide) (by omega) (by omega), c 590 _ (by decide) (by decide) (by omega) (by omega), e 467 j (by decide) (by decide) j1 j2, e 468 j (by decide) (by decide) j1 j2, e 458 j (by decide) (by decide) j1 j2]
    exact hR j j1 j2
  · rw [e3] at j2
    obtain ⟨q1, q2⟩ := h8 j j1 j2
    refine ⟨q1.E (a.E (K := T 453 z) hz h3.2) ⟨j1, j2⟩ fun i i1 i2 => c i _ (by omega) (by omega) (by omega) (by omega), ?_⟩
    unfold pRR at q2 ⊢
    rw [e 467 j (by decide) (by decide) j1 j2, e 468 j (by decide) (by decide) j1 j2, e3]
    rcases q2 with q2 | q2 | ⟨q2, q3, q4⟩
    · exact Or.inl q2
    · exact Or.inr (Or.inl q2)
    · right
      right
      refine ⟨q2, q3, fun z2 => ?_⟩
      rw [show T 468 (8 * z + j) = 8 * z + (T 468 (8 * z + j) - 8 * z) by omega, e 458 _ (by decide) (by decide) (by omega) (by omega), ← q4 z2]
      congr 1
      omega
theorem pO.go {z j i : Int} (h : pO z j i T) (hz : z ≠ st) (a : pZ st T U) (hj : 0 ≤ j ∧ j < 8) : pO z j i U := by
  unfold pO at h ⊢
  rw [a.1 458 _ (by omega), a.1 463 _ (by omega), a.1 464 _ (by omega)]
  exact h
theorem r169_56_bad {c x : Int} (hX : pa_X X n) (h : rS t X n n (some p) s) : ∃ u, zf_169_56 0 t x c 0 0 s = zi 0 u ∧ rkt t s u ∧ rS t X n (n + 300) none u := by
  have hn := hX.1
  unfold zf_169_56
  obtain ⟨a1, a2, a3⟩ := r_step (K := fun s4 => zC (zf_157 0 123 s4) fun _ s7 => if (s7.1 606 0 0) = 0 then (zi 0 s7) else (zg (26 * t) (zg ((26 * t) + c) (zg (((26 * t) + c) - 65) (zW 583 0 104 (((26 * t) + c) - 65) x s7 fun s12 => zg (6 * t) (zg ((6 * t) + x) (zg (c - 65) (zW 584 0 24 ((6 * t) + x) (c - 65) s12 fun s17 => zW 585 0 24 ((6 * t) + x) 0 s17 fun s19 => (zf_169_128 xfu 0 t x 0 s19))))))))) h (by omega) (Or.inl rfl : (0 : Int) = 0 ∨ (0 : Int) = 1)
  rw [if_pos rfl] at a3
  obtain ⟨v, s1, e1, k1, k2, k3⟩ := r157 (c := 123) hX (by decide) a3 (by omega)
  have k2 : rS t X n (n + 1 + 1) none s1 := k2
  refine ⟨s1, ?_, (a2.tr k1).kt, k2.up (by omega)⟩
  rw [a1, e1]
  show (if s1.1 606 0 0 = 0 then zi 0 s1 else _) = _
  rw [if_pos k2.2.2.2.2.2]
theorem r169 (hX : pa_X X n) (hY : ∀ p, 0 ≤ p → p < n → Y p = pa_sg X n p) (h : rS t X n n (some p) s) (hp : p < n) (g : rG t Y n T p s) : ∃ u, zf_169 0 t s = zi 0 u ∧ rkt t s u ∧
    (match (if T 449 0 < 6 then pa_str (pa_sg X n) (T 449 0) T p else none) with
    | none => rS t X n (n + 300) none u
    | some y => rS t X n n (some y.2) u ∧ y.2 ≤ n ∧ p < y.2 ∧ y.1 449 0 = T 449 0 + 1 ∧ rG t Y n y.1 y.2 u) := by
  have hn := hX.1
  have h1 := h.1
  have h4 := h.2.2.2.1
  have h5 := h.p5
  have hr := ra_c (X := X) (n := n) (p := p) (by omega)
  have hg := hX.2 p (by omega) hp
  obtain ⟨⟨g1, g2, g3⟩, gN, g89, gH, gC, gB⟩ := g
  have h6 : s.1 606 0 0 = 1 := h.2.2.2.2.2.1
  unfold zf_169
  rw [zn_ok (by omega), r156 h hn.2 (by omega), zC_zi, if_neg (by omega), h5, g1]
  by_cases c1 : T 449 0 < 6
  · rw [if_neg (show ¬ 6 ≤ T 449 0 by omega), if_pos c1, z159', zC_zi]
    by_cases c2 : 65 ≤ pa_sg X n p ∧ pa_sg X n p ≤ 90 ∧ pa_sg X n p ≠ 87
    · rw [if_pos (show 65 ≤ ra_sg X n p ∧ ra_sg X n p ≤ 90 ∧ ra_sg X n p ≠ 87 by omega), if_neg (by decide), show ra_sg X n p = pa_sg X n p by omega, zg_ok ⟨by omega, by omega⟩, zg_ok ⟨by omega, by omega⟩, zg_ok ⟨by omega, by omega⟩, zn_ok (by omega), show 26 * t + pa_sg X n p - 65 = 26 * t + (pa_sg X n p - 65) by omega, gN _ (by omega) (by omega)]
      by_cases c3 : pa_sn T (pa_sg X n p - 65) = -1
      · rw [if_pos c3]
        unfold zf_169_56
        obtain ⟨a1, a2, a3⟩ := r_step (K := fun s4 => zC (zf_157 0 123 s4) fun _ s7 => if (s7.1 606 0 0) = 0 then (zi 0 s7) else (zg (26 * t) (zg ((26 * t) + pa_sg X n p) (zg (((26 * t) + pa_sg X n p) - 65) (zW 583 0 104 (((26 * t) + pa_sg X n p) - 65) (T 449 0) s7 fun s12 => zg (6 * t) (zg ((6 * t) + T 449 0) (zg (pa_sg X n p - 65) (zW 584 0 24 ((6 * t) + T 449 0) (pa_sg X n p - 65) s12 fun s17 => zW 585 0 24 ((6 * t) + T 449 0) 0 s17 fun s19 => (zf_169_128 xfu 0 t (T 449 0) 0 s19))))))))) h (by omega) (Or.inr rfl : (1 : Int) = 0 ∨ (1 : Int) = 1)
        rw [if_neg (by decide), h5] at a3
        rw [h5] at a1 a2
        obtain ⟨v, s1, e1, k1, k2, k3⟩ := r157 (c := 123) hX (by decide) a3 (by omega)
        have k2 : rS t X n (n + 1 + 1) (if pa_sg X n (p + 1) = 123 then some (p + 1 + 1) else none) s1 := k2
        rw [a1, e1]
        have F1 := a2.tr k1
        by_cases c4 : pa_sg X n (p + 1) = 123
        · rw [if_pos c4] at k2
          have l4 := pa_lt (X := X) (n := n) (p := p + 1) (by omega)
          have k2 := k2.dn (by omega)
          show ∃ u, (if s1.1 606 0 0 = 0 then zi 0 s1 else _) = zi 0 u ∧ _
          rw [if_neg (show ¬ s1.1 606 0 0 = 0 by have := k2.2.2.2.2.2.1; omega), zg_ok ⟨by omega, by omega⟩, zg_ok ⟨by omega, by omega⟩, zg_ok ⟨by omega, by omega⟩, zW_ok (by omega), zg_ok ⟨by omega, by omega⟩, zg_ok ⟨by omega, by omega⟩, zg_ok ⟨by omega, by omega⟩, zW_ok (by omega), zW_ok (by omega)]
          obtain ⟨n1, n2, n3, n4⟩ := pa_new_X (T := T) (st := T 449 0) (c := pa_sg X n p - 65)
          have hs2 : ∀ (f m : Nat) (i : Int), f ≠ 583 → f ≠ 584 → f ≠ 585 → (zp 585 0 (6 * t + T 449 0) 0 (zp 584 0 (6 * t + T 449 0) (pa_sg X n p - 65) (zp 583 0 (26 * t + pa_sg X n p - 65) (T 449 0) s1))).1 f m i = s1.1 f m i := fun f m i f1 f2 f3 => (zp_nk f3).trans ((zp_nk f2).trans (zp_nk f1))
          have q5 : ∀ i, (zp 585 0 (6 * t + T 449 0) 0 (zp 584 0 (6 * t + T 449 0) (pa_sg X n p - 65) (zp 583 0 (26 * t + pa_sg X n p - 65) (T 449 0) s1))).1 585 0 i = if i = 6 * t + T 449 0 then 0 else s.1 585 0 i := fun i => by
            by_cases z : i = 6 * t + T 449 0
            · rw [if_pos z, z, zp_eq]
            · rw [if_neg z, zp_ni z, zp_nk (by decide), zp_nk (by decide), F1.1 585 0 i (by omega)]
          have q4 : ∀ i, (zp 585 0 (6 * t + T 449 0) 0 (zp 584 0 (6 * t + T 449 0) (pa_sg X n p - 65) (zp 583 0 (26 * t + pa_sg X n p - 65) (T 449 0) s1))).1 584 0 i = if i = 6 * t + T 449 0 then pa_sg X n p - 65 else s.1 584 0 i := fun i => by
            rw [zp_nk (by decide)]
            by_cases z : i = 6 * t + T 449 0
            · rw [if_pos z, z, zp_eq]
            · rw [if_neg z, zp_ni z, zp_nk (by decide), F1.1 584 0 i (by omega)]
          have q3 : ∀ i, (zp 585 0 (6 * t + T 449 0) 0 (zp 584 0 (6 * t + T 449 0) (pa_sg X n p - 65) (zp 583 0 (26 * t + pa_sg X n p - 65) (T 449 0) s1))).1 583 0 i = if i = 26 * t + pa_sg X n p - 65 then T 449 0 else s.1 583 0 i := fun i => by
            rw [zp_nk (by decide), zp_nk (by decide)]
            by_cases z : i = 26 * t + pa_sg X n p - 65
            · rw [if_pos z, z, zp_eq]
            · rw [if_neg z, zp_ni z, F1.1 583 0 i (by omega)]
          have F2 : rkt t s (zp 585 0 (6 * t + T 449 0) 0 (zp 584 0 (6 * t + T 449 0) (pa_sg X n p - 65) (zp 583 0 (26 * t + pa_sg X n p - 65) (T 449 0) s1))) := ⟨fun f m i hn => by
            rw [zp_n3 (by omega), zp_n3 (by omega), zp_n3 (by omega)]
            exact F1.1 f m i (by omega), F1.2, fun h i => by
            rw [zp_nk (by decide), zp_nk (by decide), zp_nk (by decide), F1.1 589 0 i (by omega)]
            exact h i⟩
          generalize zp 585 0 (6 * t + T 449 0) 0 (zp 584 0 (6 * t + T 449 0) (pa_sg X n p - 65) (zp 583 0 (26 * t + pa_sg X n p - 65) (T 449 0) s1)) = s2 at hs2 q5 q4 q3 F2 ⊢
          have m2 := k2.mk3 (u := s2) (g := 1) (fun f i hf => hs2 f 0 i (by omega) (by omega) (by omega)) ((hs2 606 0 0 (by decide) (by decide) (by decide)).trans k2.2.2.2.2.2.1) (Or.inr rfl)
          rw [if_neg (by decide), k2.p5] at m2
          have s82 : s2.1 582 0 t = T 449 0 := by rw [hs2 582 0 t (by decide) (by decide) (by decide), F1.1 582 0 t (by omega), g1]
          have s89 : ∀ i, -48 ≤ s2.1 589 0 i ∧ s2.1 589 0 i ≤ 207 := fun i => by
            rw [hs2 589 0 i (by decide) (by decide) (by decide), F1.1 589 0 i (by omega)]
            exact g89 i
          have x10 : 8 + 2 ≤ xfu := by
            have := pa_fu (m := 10) (by decide)
            omega
          have eP : pa_str (pa_sg X n) (T 449 0) T p = (pa_fields (pa_sg X n) (T 449 0) 8 (pa_new (T 449 0) (pa_sg X n p - 65) T 453 (T 449 0)) (pa_new (T 449 0) (pa_sg X n p - 65) T) (p + 1 + 1) 0).bind fun x => pa_close (pa_sg X n) (T 449 0) x.1 x.2.1 x.2.2 := by
            unfold pa_str
            rw [if_pos ⟨⟨c2, c3⟩, c4⟩, n3]
            rfl
          obtain ⟨u, d1, d2, d3, d4⟩ := r169_128 (t := t) (st := T 449 0) (Y := Y) hX hY 8 xfu (pa_new (T 449 0) (pa_sg X n p - 65) T) (p + 1 + 1) 0 s2 x10 (by rw [n3]; rfl) ⟨⟨g2, by omega⟩, by rw [q5, if_pos rfl, n3], by rw [n3]; omega, fun k k1 k2 => by rw [n3] at k2; omega, fun i j i1 i2 => by rw [n3] at i2; omega⟩ (fun j j1 j2 => by rw [n3] at j2; omega) (fun j j1 j2 => by rw [n3] at j2; omega) m2 ⟨by rw [n3]; rfl, by decide, by decide⟩ (by rw [n1 450 0 (by decide) (by omega) (by omega), n1 451 0 (by decide) (by omega) (by omega)]; omega) (by rw [s82]; omega) s89
          rw [← eP] at d4
          refine ⟨u, d1, F2.tr (d2.kt ⟨g2, by omega⟩), ?_⟩
          revert d4
          cases e : pa_str (pa_sg X n) (T 449 0) T p with
          | none =>
            intro d4
            exact rS.up d4 (by omega)
          | some y =>
            intro d4
            obtain ⟨b1, b2, b3, b4⟩ := d4
            obtain ⟨P1, P2, P3, P4, P5, P6⟩ := pa_str_P hY (fun p h => pa_lt h) e (by omega) gB.1.1 gB.2.1
            have Z := P1.Z
            have e9 : y.1 449 0 = T 449 0 + 1 := (P1.1 449 0 (by omega)).trans n2
            have e52 : ∀ i, i ≠ T 449 0 → y.1 452 i = T 452 i := fun i hi => Z.1 452 i (by omega)
            have e52s : y.1 452 (T 449 0) = pa_sg X n p - 65 := (P1.1 452 _ (by omega)).trans n4
            refine ⟨b1.dn P5, P5, by omega, e9, ⟨by rw [d3, s82, e9], by omega, by omega⟩, fun c z1 z2 => ?_, d2.2.2 s89, fun z z1 z2 => ?_, fun i i1 i2 => ?_, by have := Z.2.1.1; omega, by have := Z.2.2.1; omega, by omega⟩
            · rw [d2.1 583 0 _ (by omega), q3, pa_sn_s (T := T) g2 e9 (fun i i1 i2 => e52 i (by omega)), e52s]
              by_cases z : c = pa_sg X n p - 65
              · rw [if_pos (by omega), if_pos (by rw [z]; exact c3), if_pos z.symm]
              · rw [if_neg (by omega), gN c z1 z2, if_neg (show ¬ pa_sg X n p - 65 = c by omega)]
                split
                · rename_i q
                  exact q
                · rfl
            · rw [e9] at z2
              by_cases z : z = T 449 0
              · subst z
                refine ⟨b2, b3, ?_, by rw [e52s]; omega, b4⟩
                rw [d2.1 584 0 _ (by omega), q4, if_pos rfl, e52s]
              · refine (gH _ z1 (by omega)).go z Z (fun f i f1 f2 i1 i2 => ?_) fun f hf => ?_
                · rw [d2.1 f 0 i (by omega), hs2 f 0 i (by omega) (by omega) (by omega), F1.1 f 0 i (by omega)]
                · rw [d2.1 f 0 _ (by omega)]
                  rcases hf with hf | hf
                  · subst hf
                    rw [q4, if_neg (by omega)]
                  · subst hf
                    rw [q5, if_neg (by omega)]
            · by_cases d : i < T 451 0
              · obtain ⟨z, j, w1, w2, w3⟩ := gC i i1 d
                have w8 := (gH z w1.1 w1.2).1.2.2.1
                have e3 : y.1 453 z = T 453 z := Z.1 453 z (by omega)
                exact ⟨z, j, ⟨w1.1, by omega⟩, by rw [e3]; exact w2, w3.go (by omega) Z (by omega)⟩
              · obtain ⟨j, j1, j2, j3⟩ := P2 i (by omega) i2
                exact ⟨T 449 0, j, ⟨g2, by omega⟩, ⟨j1, j2⟩, j3⟩
        · rw [if_neg c4] at k2
          have e : pa_str (pa_sg X n) (T 449 0) T p = none := by
            unfold pa_str
            rw [if_neg (fun z => c4 z.2)]
          rw [e]
          refine ⟨s1, ?_, F1.kt, k2.up (by omega)⟩
          show (if s1.1 606 0 0 = 0 then zi 0 s1 else _) = _
          rw [if_pos k2.2.2.2.2.2]
      · rw [if_neg c3]
        have e : pa_str (pa_sg X n) (T 449 0) T p = none := by
          unfold pa_str
          rw [if_neg (fun z => c3 z.1.2)]
        rw [e]
        exact r169_56_bad hX h
    · rw [if_neg (show ¬ (65 ≤ ra_sg X n p ∧ ra_sg X n p ≤ 90 ∧ ra_sg X n p ≠ 87) by omega), if_pos rfl]
      have e : pa_str (pa_sg X n) (T 449 0) T p = none := by
        unfold pa_str
        rw [if_neg (fun z => c2 z.1.1)]
      rw [e]
      exact r169_56_bad hX h
  · rw [if_pos (show 6 ≤ T 449 0 by omega), if_neg c1]
    exact r169_56_bad hX h
end
