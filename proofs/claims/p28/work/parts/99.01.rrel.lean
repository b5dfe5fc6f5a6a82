/-! a template that is taken: the tables are well, and the reference's say the same -/
section
variable {t st k n p : Int} {Y : Int → Int} {T U : yT} {s : zS}
theorem yBit_0 : ∀ (m : Nat), (∀ j : Int, 0 ≤ j → j < m → T 458 (8 * st + j) = 110 → 0 ≤ T 459 (8 * st + j)) → 0 ≤ yBit T st m
  | 0, _ => Int.le_refl _
  | m + 1, h => by
    have e := yBit_0 m fun j j1 j2 => h j j1 (by omega)
    unfold yBit
    split
    · rename_i c
      have := h m (by omega) (by omega) c
      split <;> omega
    · exact Int.le_refl _
theorem rG_F (hn : n ≤ 200) (ht : 0 ≤ t ∧ t ≤ 3) (h0 : 0 ≤ st) (hG : ∀ c, 0 ≤ c → c ≤ 25 → s.1 583 0 (26 * t + c) = pa_sn T c) (H : rH t (mX t s) n st T s) (a : ∀ (g : Nat) (i : Int), g ≠ 456 → U g i = T g i) (c : ∀ i, 0 ≤ i → i < T 451 0 → U 456 i = pa_sn T (T 456 i)) (hk : 0 ≤ k ∧ k < T 453 st) : mRelF t U st k s := by
  obtain ⟨⟨t1, t2, t3, t4, t5⟩, hR, h84, h52, hQ⟩ := H
  obtain ⟨⟨p, p0, P, R, q8, q0, q9, q1⟩, -⟩ := hQ k hk.1 hk.2
  have eB : yBit U st k.toNat = yBit T st k.toNat := yBit_c _ fun i _ _ => ⟨a 458 _ (by decide), a 459 _ (by decide)⟩
  have B0 : 0 ≤ yBit T st k.toNat := yBit_0 _ fun j j1 j2 d => by
    obtain ⟨⟨p', p0', P', -⟩, -⟩ := hQ j j1 (by omega)
    have := (P'.2.2.2.2.2.1 d).1.1
    omega
  have r := hR k hk.1 hk.2
  have v := t4 k hk.1 hk.2
  obtain ⟨P1, P2, P3, P4, P5, P6, P7, P8, P9⟩ := P
  have S : ∀ q, qS (mX t s) st k (8 * st + k) T q → T 461 (8 * st + k) < T 462 (8 * st + k) ∧ mSumAt (mX t s) U st k (T 462 (8 * st + k) - T 461 (8 * st + k) - 1).toNat q (T 461 (8 * st + k)) := fun q h => ⟨h.2.1, mSumAt_c (fun i _ _ => ⟨a 457 _ (by decide), a 458 _ (by decide)⟩) (fun i _ _ => ⟨a 454 _ (by decide), a 455 _ (by decide)⟩) h.2.2.2⟩
  unfold mRelF
  rw [eB, a 457 _ (by decide), a 458 _ (by decide), a 459 _ (by decide), a 460 _ (by decide), a 461 _ (by decide), a 462 _ (by decide), a 463 _ (by decide), a 464 _ (by decide), a 465 _ (by decide), a 466 _ (by decide), a 467 _ (by decide), a 468 _ (by decide), a 453 _ (by decide)]
  refine ⟨v.1, fun z => by rw [v.2.1, if_pos z], fun z1 z2 => by rw [v.2.1, if_neg (by omega)], q0, fun z => ⟨q9 z, by have := (P6 z).2.1; omega, B0⟩, r.1, fun z => ?_, fun z => ?_, fun z => ?_, fun z => ?_, fun z => ?_, fun i i1 i2 ne e => ne (t5 i k i1 i2 hk.1 hk.2 (by rw [a 457 _ (by decide)] at e; exact e)), P9⟩
  · rw [r.2.2.1 z, if_pos hk.2]
  · have q : qN (mX t s) n (8 * st + k) T (s.1 588 0 (48 * t + (8 * st + k))) ∧ 0 ≤ s.1 588 0 (48 * t + (8 * st + k)) := by
      by_cases d : T 458 (8 * st + k) = 114
      · rw [if_neg (by omega), if_neg (by omega)] at q8
        rw [q8]
        exact ⟨(P3 d).1, by omega⟩
      · rw [if_pos (by omega)] at q8
        rw [q8]
        exact ⟨P2 (by omega), p0⟩
    obtain ⟨⟨n1, n2, n3, n4⟩, n0⟩ := q
    refine ⟨n0, fun j j1 j2 => ?_⟩
    obtain ⟨m1, m2, m3, m4⟩ := n4 j j1 j2
    have e1 : mX t s (s.1 588 0 (48 * t + (8 * st + k)) + 2 * j) = s.1 581 0 (200 * t + (s.1 588 0 (48 * t + (8 * st + k)) + 2 * j)) := if_pos (by omega)
    have e2 : mX t s (s.1 588 0 (48 * t + (8 * st + k)) + 2 * j + 1) = s.1 581 0 (200 * t + (s.1 588 0 (48 * t + (8 * st + k)) + 2 * j + 1)) := if_pos (by omega)
    rw [e1] at m2 m3
    rw [e2] at m4
    refine ⟨by omega, m2, ?_, m4⟩
    rw [c _ (by omega) (by omega), m3, show 26 * t + s.1 581 0 (200 * t + (s.1 588 0 (48 * t + (8 * st + k)) + 2 * j)) - 65 = 26 * t + (s.1 581 0 (200 * t + (s.1 588 0 (48 * t + (8 * st + k)) + 2 * j)) - 65) by omega]
    exact hG _ (by omega) (by omega)
  · rw [if_neg (by omega), if_pos z] at q8
    rw [q8, show p + 1 + 1 = p + 2 by omega]
    exact ⟨by omega, S _ (P5 z)⟩
  · obtain ⟨g1, g2, g3, g4⟩ := P4 z.1
    have q := q1 z.1 (by omega)
    have n2 := (P2 (Or.inr z.1)).2.1
    by_cases d : T 465 (8 * st + k) = 43
    · rw [if_pos d] at q
      rw [q, Int.add_zero]
      exact ⟨by omega, S _ (g2 d)⟩
    · rw [if_neg d] at q
      rw [q]
      exact ⟨by omega, S _ (g3 (by omega))⟩
  · obtain ⟨g1, g2, g3, g4⟩ := P4 z.1
    have q := q1 z.1 (by omega)
    have n2 := (P2 (Or.inr z.1)).2.1
    rw [if_neg (by omega)] at q
    rw [q]
    obtain ⟨g5, g6⟩ := g4 z.2
    exact ⟨⟨by omega, by omega⟩, g6⟩
theorem rG_W (hn : n ≤ 200) (hp : p ≤ n) (g : rG t Y n T p s) (h0 : 0 < T 449 0) (a : ∀ (g : Nat) (i : Int), g ≠ 456 → U g i = T g i) (c : ∀ i, 0 ≤ i → i < T 451 0 → pa_sn T (T 456 i) ≠ -1 ∧ U 456 i = pa_sn T (T 456 i)) : yWT U := by
  obtain ⟨⟨g1, g2, g3⟩, gN, g89, gH, gC, gB⟩ := g
  unfold yWT
  rw [a 449 _ (by decide)]
  refine ⟨by omega, g3, fun st s1 s2 => ?_⟩
  obtain ⟨⟨t1, t2, t3, t4, t5⟩, hR, h84, h52, hQ⟩ := gH st s1 s2
  rw [a 453 _ (by decide)]
  refine ⟨t3.1, t3.2, fun k k1 k2 => ?_⟩
  obtain ⟨⟨p', p0, P, R, q8, q0, q9, q1⟩, RR⟩ := hQ k k1 k2
  have v := t4 k k1 k2
  obtain ⟨P1, P2, P3, P4, P5, P6, P7, P8, P9⟩ := P
  have S : ∀ q, qS Y st k (8 * st + k) T q → 0 ≤ T 461 (8 * st + k) ∧ T 461 (8 * st + k) ≤ T 462 (8 * st + k) ∧ T 462 (8 * st + k) ≤ 100 ∧ ∀ j, T 461 (8 * st + k) ≤ j → j < T 462 (8 * st + k) → U 454 j ≤ 999 ∧ (U 454 j < 0 → -1 - U 454 j < k ∧ U 458 (8 * st + (-1 - U 454 j)) ≠ 65) := fun q h => by
    obtain ⟨h1, h2, h3, h4⟩ := h
    refine ⟨h1, by omega, by omega, fun j j1 j2 => ?_⟩
    rw [a 454 _ (by decide), a 458 _ (by decide)]
    obtain ⟨w1, w2⟩ := mSumAt_w h4 j j1 (by omega)
    refine ⟨w1, fun z => ⟨(w2 z).1, fun e => ?_⟩⟩
    have := (w2 z).2
    unfold mNumr at this
    omega
  unfold yWF
  rw [a 449 _ (by decide), a 457 _ (by decide), a 458 _ (by decide), a 459 _ (by decide), a 460 _ (by decide), a 461 _ (by decide), a 462 _ (by decide), a 463 _ (by decide), a 464 _ (by decide), a 465 _ (by decide), a 467 _ (by decide), a 468 _ (by decide), a 453 _ (by decide), a 458 _ (by decide)]
  refine ⟨P1, v.2.2, fun z => ?_, fun z => (P4 z).1, fun z => ?_, fun z => by have := P6 z; omega, P7, P8, ?_⟩
  · have q : 0 ≤ T 463 (8 * st + k) ∧ T 463 (8 * st + k) < T 464 (8 * st + k) ∧ T 464 (8 * st + k) ≤ T 451 0 := by
      by_cases d : T 458 (8 * st + k) = 114
      · have := (P3 d).1
        exact ⟨this.1, this.2.1, this.2.2.1⟩
      · have := P2 (by omega)
        exact ⟨this.1, this.2.1, this.2.2.1⟩
    refine ⟨q.1, q.2.1, by omega, fun j j1 j2 => ?_⟩
    obtain ⟨c1, c2⟩ := c j (by omega) (by omega)
    rw [c2]
    rcases pa_sn_b (T := T) (c := T 456 j) g2 with d | ⟨d1, d2, d3⟩
    · exact absurd d c1
    · exact ⟨d1, d2⟩
  · rcases z with z | ⟨z1, z2⟩
    · exact S _ (P5 z)
    · rcases z2 with z2 | z2
      · exact S _ ((P4 z1).2.2.1 z2)
      · exact S _ ((P4 z1).2.1 z2)
  · rcases R with R | ⟨R1, R2⟩
    · exact Or.inl R
    · right
      refine ⟨R1, ?_⟩
      rcases R2 with R2 | R2
      · exact Or.inl R2
      · right
        rcases RR with d | d | ⟨⟨d1, d2⟩, d3, d4⟩
        · omega
        · omega
        · exact ⟨R2, d1, d2, d3, d4⟩
/-- the reference's template says what the class's says -/
theorem rG_rel (hn : n ≤ 200) (ht : 0 ≤ t ∧ t ≤ 3) (g : rG t (mX t s) n T p s) (a : ∀ (g : Nat) (i : Int), g ≠ 456 → U g i = T g i) (c : ∀ i, 0 ≤ i → i < T 451 0 → U 456 i = pa_sn T (T 456 i)) : mRel t U s := by
  obtain ⟨⟨g1, g2, g3⟩, gN, g89, gH, gC, gB⟩ := g
  refine ⟨ht, by rw [g1, a 449 _ (by decide)], fun st s1 s2 => ?_⟩
  rw [a 449 _ (by decide)] at s2
  have H := gH st s1 s2
  rw [a 452 _ (by decide), a 453 _ (by decide)]
  exact ⟨H.1.2.1, H.2.2.1, H.2.2.2.1, fun k k1 k2 => rG_F hn ht s1 gN H a c ⟨k1, k2⟩⟩
end
