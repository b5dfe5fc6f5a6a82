/-! the reference's parser: the relations of a structure find their fields -/
/-- what the tables hold of a structure's relations: those ahead of k have found their fields -/
def rR (t st k : Int) (T : yT) (s : zS) : Prop := ∀ j, 0 ≤ j → j < T 453 st →
  s.1 592 0 (48 * t + (8 * st + j)) = (if T 467 (8 * st + j) = 61 then 73 else T 467 (8 * st + j)) ∧ T 467 (8 * st + j) ≠ 73
  ∧ (T 467 (8 * st + j) ≠ 0 → s.1 593 0 (48 * t + (8 * st + j)) = (if T 467 (8 * st + j) = 61 then T 468 (8 * st + j) else if j < k then T 468 (8 * st + j) - 8 * st else T 468 (8 * st + j) + 97))
  ∧ (s.1 590 0 (48 * t + (8 * st + j)) = 0 ↔ T 458 (8 * st + j) ≠ 91)
/-- nothing but isGood and the relations' arguments has changed -/
def rkr (t st : Int) (s u : zS) : Prop := (∀ (f n : Nat) (i : Int), ¬ (n = 0 ∧ (f = 606 ∨ f = 593 ∧ 48 * t + 8 * st ≤ i ∧ i < 48 * t + 8 * st + 8)) → u.1 f n i = s.1 f n i) ∧ u.2 = s.2
section
variable {t st : Int}
theorem r169_389 (ht : 0 ≤ t ∧ t ≤ 3) : ∀ (m M : Nat) (k : Int) (T : yT) (s : zS), m + 1 < M → 0 ≤ k → m = (T 453 st - k).toNat → rT t st T s → rR t st k T s → s.1 606 0 0 = 1 → ∃ u, zf_169_389 M 0 t st k s = zf_169_532 0 t u ∧ rkr t st s u ∧
    (match pa_rels st m k T with
    | none => u.1 606 0 0 = 0
    | some V => u.1 606 0 0 = 1 ∧ rT t st V u ∧ rR t st (T 453 st) V u) := by
  intro m
  induction m with
  | zero =>
    intro M k T s hM hk hm hT hR hg
    obtain ⟨M, rfl⟩ : ∃ L, M = L + 1 := ⟨M - 1, by omega⟩
    have h6 := hT.1
    unfold zf_169_389 pa_rels
    rw [zg_ok ⟨by omega, by omega⟩, zg_ok ⟨by omega, by omega⟩, zn_ok (by omega), hT.2.1, if_pos (by omega)]
    refine ⟨s, rfl, ⟨fun _ _ _ _ => rfl, rfl⟩, hg, hT, fun j j1 j2 => ?_⟩
    obtain ⟨r1, r2, r3, r4⟩ := hR j j1 j2
    refine ⟨r1, r2, fun z => ?_, r4⟩
    rw [r3 z, if_pos (show j < T 453 st from j2), if_pos (show j < k by omega)]
  | succ m ih =>
    intro M k T s hM hk hm hT hR hg
    obtain ⟨M, rfl⟩ : ∃ L, M = L + 1 := ⟨M - 1, by omega⟩
    have h6 := hT.1
    have t3 := hT.2.2.1
    obtain ⟨r1, r2, r3, r4⟩ := hR k hk (by omega)
    have ew : 8 * (6 * t + st) + k = 48 * t + (8 * st + k) := by omega
    unfold zf_169_389 pa_rels pa_rel1
    rw [zg_ok ⟨by omega, by omega⟩, zg_ok ⟨by omega, by omega⟩, zn_ok (by omega), hT.2.1, if_neg (by omega), if_neg (by omega), ew, zg_ok ⟨by omega, by omega⟩, zg_ok ⟨by omega, by omega⟩, zn_ok (by omega), r1]
    have skip : (T 467 (8 * st + k) = 0 ∨ T 467 (8 * st + k) = 61) → rR t st (k + 1) T s := fun z j j1 j2 => by
      obtain ⟨q1, q2, q3, q4⟩ := hR j j1 j2
      refine ⟨q1, q2, fun y => ?_, q4⟩
      rw [q3 y]
      by_cases e : j = k
      · subst e
        rw [if_pos (show T 467 (8 * st + j) = 61 by omega), if_pos (show T 467 (8 * st + j) = 61 by omega)]
      · by_cases e2 : j < k
        · rw [if_pos e2, if_pos (show j < k + 1 by omega)]
        · rw [if_neg e2, if_neg (show ¬ j < k + 1 by omega)]
    by_cases c1 : T 467 (8 * st + k) = 0
    · rw [if_neg (show ¬ T 467 (8 * st + k) = 61 by omega), if_pos c1, zg_ok ⟨by omega, by omega⟩, if_pos (Or.inl c1)]
      exact ih M (k + 1) T s (by omega) (by omega) (by omega) hT (skip (Or.inl c1)) hg
    · by_cases c2 : T 467 (8 * st + k) = 61
      · rw [if_pos c2, if_neg (by decide), zn_ok (by omega), if_pos rfl, zg_ok ⟨by omega, by omega⟩, if_pos (Or.inr c2)]
        exact ih M (k + 1) T s (by omega) (by omega) (by omega) hT (skip (Or.inr c2)) hg
      · have e93 : s.1 593 0 (48 * t + (8 * st + k)) = T 468 (8 * st + k) + 97 := by
          rw [r3 c1, if_neg c2, if_neg (Int.lt_irrefl k)]
        have hb := pa_pl_b (T := T) (st := st) (c := T 468 (8 * st + k)) t3.1
        rw [if_neg c2, if_neg c1, zn_ok (by omega), if_neg r2, zn_ok (by omega), e93, r162 hT ht, zC_zi, show T 468 (8 * st + k) + 97 - 97 = T 468 (8 * st + k) by omega, if_neg (show ¬ (T 467 (8 * st + k) = 0 ∨ T 467 (8 * st + k) = 61) by omega)]
        generalize pa_pl T st (T 468 (8 * st + k)) = o at hb ⊢
        have no : ∃ u, zf_169_514 (fun y0 y1 y2 y3 y => zf_169_389 M y0 y1 y2 y3 y) 0 t st k (48 * t + (8 * st + k)) o 0 0 s = zf_169_532 0 t u ∧ rkr t st s u ∧ u.1 606 0 0 = 0 := by
          unfold zf_169_514
          obtain ⟨M, rfl⟩ : ∃ L, M = L + 1 := ⟨M - 1, by omega⟩
          rw [zPz_ok (by decide), zW_ok (by omega), zg_ok ⟨by omega, by omega⟩]
          have z6 : (zp 593 0 (48 * t + (8 * st + k)) o (zp 606 0 0 0 s)).1 606 0 0 = 0 := (zp_nk (by decide)).trans zp_eq
          refine ⟨_, r169_389_bad ht h6 z6, ⟨fun f' n' i' hn => ?_, rfl⟩, z6⟩
          rw [zp_1, if_neg (by omega), zp_ne (by omega)]
        have yes : 0 ≤ o → o < T 453 st → ∃ u, zf_169_514 (fun y0 y1 y2 y3 y => zf_169_389 M y0 y1 y2 y3 y) 0 t st k (48 * t + (8 * st + k)) o 0 1 s = zf_169_532 0 t u ∧ rkr t st s u ∧
            (match pa_rels st m (k + 1) (pa_w 468 (8 * st + k) (8 * st + o) T) with
            | none => u.1 606 0 0 = 0
            | some V => u.1 606 0 0 = 1 ∧ rT t st V u ∧ rR t st (T 453 st) V u) := by
          intro o1 o2
          unfold zf_169_514
          rw [zPz_ok (by decide), zW_ok (by omega), zg_ok ⟨by omega, by omega⟩]
          have z6 : (zp 593 0 (48 * t + (8 * st + k)) o (zp 606 0 0 1 s)).1 606 0 0 = 1 := (zp_nk (by decide)).trans zp_eq
          have l : ∀ (g : Nat) (i : Int), g ≠ 593 → g ≠ 606 → (zp 593 0 (48 * t + (8 * st + k)) o (zp 606 0 0 1 s)).1 g 0 i = s.1 g 0 i := fun g i g1 g2 => (zp_nk g1).trans (zp_nk g2)
          have hT2 : rT t st (pa_w 468 (8 * st + k) (8 * st + o) T) (zp 593 0 (48 * t + (8 * st + k)) o (zp 606 0 0 1 s)) := by
            obtain ⟨b1, b2, b3, b4, b5⟩ := hT
            refine ⟨b1, (l 585 _ (by decide) (by decide)).trans b2, b3, fun j j1 j2 => ?_, b5⟩
            rw [l 586 _ (by decide) (by decide), l 587 _ (by decide) (by decide)]
            exact b4 j j1 j2
          have hR2 : rR t st (k + 1) (pa_w 468 (8 * st + k) (8 * st + o) T) (zp 593 0 (48 * t + (8 * st + k)) o (zp 606 0 0 1 s)) := by
            intro j j1 j2
            obtain ⟨q1, q2, q3, q4⟩ := hR j j1 j2
            rw [l 592 _ (by decide) (by decide), l 590 _ (by decide) (by decide), show pa_w 468 (8 * st + k) (8 * st + o) T 467 (8 * st + j) = T 467 (8 * st + j) from pa_w_nk (by decide), show pa_w 468 (8 * st + k) (8 * st + o) T 458 (8 * st + j) = T 458 (8 * st + j) from pa_w_nk (by decide)]
            refine ⟨q1, q2, fun y => ?_, q4⟩
            by_cases e : j = k
            · subst e
              rw [zp_eq, if_neg c2, if_pos (by omega), pa_w_eq]
              omega
            · rw [zp_ni (by omega), zp_nk (by decide), q3 y, pa_w_ni (by omega)]
              by_cases e2 : j < k
              · rw [if_pos e2, if_pos (show j < k + 1 by omega)]
              · rw [if_neg e2, if_neg (show ¬ j < k + 1 by omega)]
          obtain ⟨u, g1, g2, g3⟩ := ih M (k + 1) _ _ (by omega) (by omega) (by rw [pa_w_nk (by decide)]; omega) hT2 hR2 z6
          rw [pa_w_nk (by decide)] at g3
          refine ⟨u, g1, ⟨fun f' n' i' hn => ?_, g2.2⟩, g3⟩
          rw [g2.1 f' n' i' hn, zp_1, if_neg (by omega), zp_ne (by omega)]
        by_cases d1 : o = -1
        · rw [if_pos d1, if_pos (Or.inl d1)]
          exact no
        · rw [if_neg d1]
          by_cases d2 : o = k
          · rw [if_pos d2, if_pos (Or.inr d2)]
            exact no
          · have ob : 0 ≤ o ∧ o < T 453 st := by omega
            have q4 := (hR o ob.1 ob.2).2.2.2
            rw [if_neg d2, zn_ok (by omega), if_neg (show ¬ (o = -1 ∨ o = k) by omega), r1, if_neg c2]
            by_cases d3 : T 467 (8 * st + k) = 37
            · rw [if_pos d3, show 8 * (6 * t + st) + o = 48 * t + (8 * st + o) by omega, zg_ok ⟨by omega, by omega⟩, zn_ok (by omega)]
              by_cases d4 : s.1 590 0 (48 * t + (8 * st + o)) = 0
              · rw [if_pos d4, if_pos ⟨d3, q4.mp d4⟩]
                exact no
              · rw [if_neg d4, if_neg (fun z => d4 (q4.mpr z.2))]
                exact yes ob.1 ob.2
            · rw [if_neg d3, if_neg (fun z => d3 z.1)]
              exact yes ob.1 ob.2
end
