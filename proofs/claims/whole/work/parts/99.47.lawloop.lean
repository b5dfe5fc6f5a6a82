section
/-! THE LAW: its loop -/
theorem law_0_23 {L : Nat} {xs : Nat → Int32} (hL : L ≤ 2048) : ∀ (m M : Nat) (i : Int) (A : aA) (s : zS), m < M → (L : Int) < i + 4 * m + 4 → 0 ≤ i → lI A s → ∃ w, zf_0_23 L xs M 0 0 0 i s = zi 1 w ∧ w.2.1 ≤ 4 ∧ w.2.2 ≤ s.2.2 + m := by
  intro m
  induction m with
  | zero =>
    intro M i A s hM hm i0 I
    obtain ⟨M, rfl⟩ : ∃ L, M = L + 1 := ⟨M - 1, by omega⟩
    unfold zf_0_23
    rw [zg_ok ⟨by omega, by omega⟩, if_pos (by omega)]
    exact ⟨s, rfl, I.1.2.2.2.2.1.2.2, Nat.le_refl _⟩
  | succ m ih =>
    intro M i A s hM hm i0 I
    obtain ⟨M, rfl⟩ : ∃ L, M = L + 1 := ⟨M - 1, by omega⟩
    unfold zf_0_23
    rw [zg_ok ⟨by omega, by omega⟩]
    by_cases c : (L : Int) - 4 < i
    · rw [if_pos c]
      exact ⟨s, rfl, I.1.2.2.2.2.1.2.2, by omega⟩
    · have hi : 0 ≤ i ∧ i + 4 ≤ L := by omega
      have go : ∀ (A' : aA) (u : zS), lI A' u → u.2.2 ≤ s.2.2 + 1 → ∃ w, zf_0_23 L xs M 0 0 0 (i + 4) u = zi 1 w ∧ w.2.1 ≤ 4 ∧ w.2.2 ≤ s.2.2 + (m + 1) := fun A' u I' hu => by
        obtain ⟨w, a1, a2, a3⟩ := ih M (i + 4) A' u (by omega) (by omega) (by omega) I'
        exact ⟨w, a1, a2, by omega⟩
      rw [if_neg c, zn_ok (by omega)]
      generalize zand (xs i.toNat).toInt 31 = k
      by_cases c0 : k = 0
      · obtain ⟨A', u, e, h1, h2⟩ := law_152 (xs := xs) (K := fun y0 y1 y2 y3 y => zf_0_23 L xs M y0 y1 y2 y3 y) I hi hL
        rw [if_pos c0, e]
        exact go A' u h1 h2
      rw [if_neg c0]
      by_cases c1 : k = 1
      · obtain ⟨A', u, e, h1, h2⟩ := law_252 (xs := xs) (K := fun y0 y1 y2 y3 y => zf_0_23 L xs M y0 y1 y2 y3 y) I hi hL
        rw [if_pos c1, e]
        exact go A' u h1 h2
      rw [if_neg c1]
      by_cases c2 : k = 2
      · obtain ⟨A', u, e, h1, h2⟩ := law_296 (xs := xs) (K := fun y0 y1 y2 y3 y => zf_0_23 L xs M y0 y1 y2 y3 y) I hi hL
        rw [if_pos c2, e]
        exact go A' u h1 h2
      rw [if_neg c2]
      by_cases c3 : k = 3
      · obtain ⟨A', u, e, h1, h2⟩ := law_352 (xs := xs) (K := fun y0 y1 y2 y3 y => zf_0_23 L xs M y0 y1 y2 y3 y) I hi hL
        rw [if_pos c3, e]
        exact go A' u h1 h2
      rw [if_neg c3]
      by_cases c4 : k = 4
      · obtain ⟨A', u, e, h1, h2⟩ := law_365 (xs := xs) (K := fun y0 y1 y2 y3 y => zf_0_23 L xs M y0 y1 y2 y3 y) I hi hL
        rw [if_pos c4, e]
        exact go A' u h1 h2
      rw [if_neg c4]
      by_cases c5 : k = 5
      · obtain ⟨A', u, e, h1, h2⟩ := law_421 (xs := xs) (K := fun y0 y1 y2 y3 y => zf_0_23 L xs M y0 y1 y2 y3 y) I hi hL
        rw [if_pos c5, e]
        exact go A' u h1 h2
      rw [if_neg c5]
      by_cases c6 : k = 6
      · obtain ⟨A', u, e, h1, h2⟩ := law_434 (xs := xs) (K := fun y0 y1 y2 y3 y => zf_0_23 L xs M y0 y1 y2 y3 y) I hi hL
        rw [if_pos c6, e]
        exact go A' u h1 h2
      rw [if_neg c6]
      by_cases c7 : k = 7
      · obtain ⟨A', u, e, h1, h2⟩ := law_490 (xs := xs) (K := fun y0 y1 y2 y3 y => zf_0_23 L xs M y0 y1 y2 y3 y) I hi hL
        rw [if_pos c7, e]
        exact go A' u h1 h2
      rw [if_neg c7]
      by_cases c8 : k = 8
      · obtain ⟨A', u, e, h1, h2⟩ := law_546 (xs := xs) (K := fun y0 y1 y2 y3 y => zf_0_23 L xs M y0 y1 y2 y3 y) I hi hL
        rw [if_pos c8, e]
        exact go A' u h1 h2
      rw [if_neg c8]
      by_cases c9 : k = 9
      · obtain ⟨A', u, e, h1, h2⟩ := law_559 (xs := xs) (K := fun y0 y1 y2 y3 y => zf_0_23 L xs M y0 y1 y2 y3 y) I hi hL
        rw [if_pos c9, e]
        exact go A' u h1 h2
      rw [if_neg c9]
      by_cases c10 : k = 10
      · obtain ⟨A', u, e, h1, h2⟩ := law_643 (xs := xs) (K := fun y0 y1 y2 y3 y => zf_0_23 L xs M y0 y1 y2 y3 y) I hi hL
        rw [if_pos c10, e]
        exact go A' u h1 h2
      rw [if_neg c10]
      by_cases c11 : k = 11
      · obtain ⟨A', u, e, h1, h2⟩ := law_656 (xs := xs) (K := fun y0 y1 y2 y3 y => zf_0_23 L xs M y0 y1 y2 y3 y) I hi hL
        rw [if_pos c11, e]
        exact go A' u h1 h2
      rw [if_neg c11]
      by_cases c12 : k = 12
      · obtain ⟨A', u, e, h1, h2⟩ := law_724 (xs := xs) (K := fun y0 y1 y2 y3 y => zf_0_23 L xs M y0 y1 y2 y3 y) I hi hL
        rw [if_pos c12, e]
        exact go A' u h1 h2
      rw [if_neg c12]
      by_cases c13 : k = 13
      · obtain ⟨A', u, e, h1, h2⟩ := law_737 (xs := xs) (K := fun y0 y1 y2 y3 y => zf_0_23 L xs M y0 y1 y2 y3 y) I hi hL
        rw [if_pos c13, e]
        exact go A' u h1 h2
      rw [if_neg c13]
      by_cases c14 : k = 14
      · obtain ⟨A', u, e, h1, h2⟩ := law_750 (xs := xs) (K := fun y0 y1 y2 y3 y => zf_0_23 L xs M y0 y1 y2 y3 y) I hi hL
        rw [if_pos c14, e]
        exact go A' u h1 h2
      rw [if_neg c14]
      by_cases c15 : k = 15
      · obtain ⟨A', u, e, h1, h2⟩ := law_806 (xs := xs) (K := fun y0 y1 y2 y3 y => zf_0_23 L xs M y0 y1 y2 y3 y) I hi hL
        rw [if_pos c15, e]
        exact go A' u h1 h2
      rw [if_neg c15]
      by_cases c16 : k = 16
      · obtain ⟨A', u, e, h1, h2⟩ := law_862 (xs := xs) (K := fun y0 y1 y2 y3 y => zf_0_23 L xs M y0 y1 y2 y3 y) I hi hL
        rw [if_pos c16, e]
        exact go A' u h1 h2
      rw [if_neg c16]
      by_cases c17 : k = 17
      · obtain ⟨A', u, e, h1, h2⟩ := law_942 (xs := xs) (K := fun y0 y1 y2 y3 y => zf_0_23 L xs M y0 y1 y2 y3 y) I hi hL
        rw [if_pos c17, e]
        exact go A' u h1 h2
      rw [if_neg c17]
      by_cases c18 : k = 18
      · obtain ⟨A', u, e, h1, h2⟩ := law_1022 (xs := xs) (K := fun y0 y1 y2 y3 y => zf_0_23 L xs M y0 y1 y2 y3 y) I hi hL
        rw [if_pos c18, e]
        exact go A' u h1 h2
      rw [if_neg c18]
      by_cases c19 : k = 19
      · obtain ⟨A', u, e, h1, h2⟩ := law_1090 (xs := xs) (K := fun y0 y1 y2 y3 y => zf_0_23 L xs M y0 y1 y2 y3 y) I hi hL
        rw [if_pos c19, e]
        exact go A' u h1 h2
      rw [if_neg c19]
      by_cases c20 : k = 20
      · obtain ⟨A', u, e, h1, h2⟩ := law_1170 (xs := xs) (K := fun y0 y1 y2 y3 y => zf_0_23 L xs M y0 y1 y2 y3 y) I hi hL
        rw [if_pos c20, e]
        exact go A' u h1 h2
      rw [if_neg c20]
      by_cases c21 : k = 21
      · obtain ⟨A', u, e, h1, h2⟩ := law_1238 (xs := xs) (K := fun y0 y1 y2 y3 y => zf_0_23 L xs M y0 y1 y2 y3 y) I hi hL
        rw [if_pos c21, e]
        exact go A' u h1 h2
      rw [if_neg c21]
      by_cases c22 : k = 22
      · obtain ⟨A', u, e, h1, h2⟩ := law_1334 (xs := xs) (K := fun y0 y1 y2 y3 y => zf_0_23 L xs M y0 y1 y2 y3 y) I hi hL
        rw [if_pos c22, e]
        exact go A' u h1 h2
      rw [if_neg c22]
      by_cases c23 : k = 23
      · obtain ⟨A', u, e, h1, h2⟩ := law_1378 (xs := xs) (K := fun y0 y1 y2 y3 y => zf_0_23 L xs M y0 y1 y2 y3 y) I hi hL
        rw [if_pos c23, e]
        exact go A' u h1 h2
      rw [if_neg c23]
      by_cases c24 : k = 24
      · obtain ⟨A', u, e, h1, h2⟩ := law_1458 (xs := xs) (K := fun y0 y1 y2 y3 y => zf_0_23 L xs M y0 y1 y2 y3 y) I hi hL
        rw [if_pos c24, e]
        exact go A' u h1 h2
      rw [if_neg c24]
      rw [zg_ok ⟨by omega, by omega⟩]
      exact go A s I (by omega)
end
