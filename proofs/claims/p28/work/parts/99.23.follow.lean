/-! follow -/
/-- what is read at a structure and an offset of the file by the chosen template -/
def aAtS (A : aA) (st off : Int) : yO := yTop (aCt A) (A.1 2) (A.1 3 0) st off
/-- the structure that a reference of field f tells -/
def yRs (T : yT) (f : Int) : Int := T 456 (T 463 f)
def sFollow (j : Int) (A : aA) : Int ⊕ Nat := if 0 ≤ j ∧ j < aLn A then (if aNn A j 192 = 3 then .inl (match aAtS A (yRs (aCt A) (aNn A j 198)) (aNn A j 196) with
  | .inl _ => -1
  | .inr x => x.1 - aNn A j 196) else .inr 1) else .inr 2
section
variable {A : aA} {s u : zS} {j w t : Int} {T : yT} {B C : yB} {n L : Int} {N : Int → yN} {r q b : Nat}
theorem yKd_3 {c : Int} : yKd c = 3 ↔ c = 114 := by
  unfold yKd
  by_cases h1 : c = 110
  · rw [if_pos h1]
    exact ⟨fun z => absurd z (by decide), fun z => by omega⟩
  · rw [if_neg h1]
    by_cases h2 : c = 114
    · rw [if_pos h2]
      exact ⟨fun _ => h2, fun _ => rfl⟩
    · rw [if_neg h2]
      refine ⟨fun z => ?_, fun z => absurd z h2⟩
      split at z
      · exact absurd z (by decide)
      · split at z <;> exact absurd z (by decide)
/-- a node that is a reference -/
theorem yNd.ref {x : yN} (W : yWT T) (hB : ∀ i, 0 ≤ i → i < n → 0 ≤ B i ∧ B i ≤ 255) (h : yNd T B n x) (k3 : x 192 = 3) : ∃ st k, x 198 = 8 * st + k ∧ (0 ≤ st ∧ st < T 449 0) ∧ (0 ≤ k ∧ k < T 453 st) ∧ T 458 (x 198) = 114 ∧ x 198 ≠ -1 ∧ x 195 = 1 ∧ x 196 = B (x 194) ∧ (0 ≤ x 196 ∧ x 196 ≤ 255) ∧ (0 ≤ x 194 ∧ x 194 + 1 ≤ n) ∧ (0 ≤ T 463 (x 198) ∧ T 463 (x 198) < 100 ∧ T 463 (x 198) < T 464 (x 198)) ∧ 0 ≤ yRs T (x 198) ∧ yRs T (x 198) < T 449 0 := by
  obtain ⟨o, h⟩ := h
  rcases h with h | ⟨st, k, h1, h2, h3, h⟩
  · omega
  · rcases h with h | h | ⟨a1, a2, a3, V, a4⟩
    · omega
    · omega
    · have ty : T 458 (x 198) = 114 := yKd_3.mp (a3.symm.trans k3)
      have wf := (W.2.2 st h2.1 h2.2).2.2 k h3.1 h3.2
      have c8 := wf.2.2.2.2.2.2.1
      have ch := wf.2.2.1
      have rl := wf.2.2.2.2.2.2.2.2
      rw [← h1] at c8 ch rl
      have c8 := c8 (Or.inr ty)
      obtain ⟨d1, d2, d3, d4⟩ := ch (Or.inr (Or.inr ty))
      have d5 := d4 (T 463 (x 198)) (Int.le_refl _) d2
      have r0 : T 467 (x 198) = 0 := by omega
      unfold yPl at a4
      rw [if_neg (by omega), if_neg (by omega), if_neg (by omega)] at a4
      simp only [if_neg (show ¬ T 459 (x 198) = 16 by omega)] at a4
      split at a4
      · cases a4
      · rename_i g
        split at a4
        · cases a4
        · injection a4 with a4
          have e1 : x 195 = 1 := (congrArg Prod.fst a4).symm
          have e2 : x 196 = B (x 194) := (congrArg Prod.snd a4).symm
          have e3 := hB (x 194) o.1 (by omega)
          exact ⟨st, k, h1, h2, h3, ty, by omega, e1, e2, by omega, by omega, by omega, d5.1, d5.2⟩
theorem z82 (H : cHo r q b T B C n N L w s) (W : yWT T) {f : Int} (hf : 0 ≤ f ∧ f < 48) (h3 : 0 ≤ T 463 f ∧ T 463 f < 100) : zf_82 r f s = zi (yRs T f) s := by
  obtain ⟨R, -⟩ := H
  unfold zf_82 yRs
  rw [if_neg (by omega), if_pos hf.2, zO_ok R.1 R.2.1, zO_ok R.1 R.2.1, zn_ok (by omega), R.2.2.2.2.1 463 _ (by decide) (by decide), zn_ok (by omega), R.2.2.2.2.1 456 _ (by decide) (by decide)]
/-- the chosen template's code -/
theorem z132 (h : cR A s) (ok : aOK A) (g : cRd A s) (c : aChosen A ≠ -1) : zf_132 0 s = zi (((aChosen A).toNat : Int) + 1) s := by
  obtain ⟨x, x1, x2, x3, x4, x5⟩ := aChosen_x ok c
  have o := ok.2.2.2.2.1
  unfold zf_132
  rw [g.1, if_neg (by omega), h.2.2.2.2.1.1, if_neg (by omega), zn_ok (by omega), h.2.2.2.2.2.1 _ x3 (by omega), if_pos (by have := h.2.2.2.2.1.2.1; omega), x5]
theorem C119 (h : cR A s) (ok : aOK A) (c : cC A s) : cOut (zf_119 0 j s) (sFollow j A) A s := by
  obtain ⟨u, a1, a2, a3, a4, a5, a6⟩ := C135 (j := j) h ok c
  have hL := aLn_b ok
  unfold zf_119 sFollow
  rw [a1]
  by_cases d : 0 ≤ j ∧ j < aLn A
  · have g : ∀ c : Nat, 192 ≤ c → c < 199 → u.1 c 0 j = aNn A j c := fun c c1 c2 => a4.2 j d.1 d.2 c c1 c2
    rw [if_pos d, if_pos d, zC_zi]
    unfold zf_136
    rw [zn_ok (by omega), g 192 (by decide) (by decide)]
    by_cases k3 : aNn A j 192 = 3
    · have cn := hL.2.2 (by omega)
      obtain ⟨x, x1, x2, x3, x4, x5⟩ := aChosen_x ok cn
      have H := a3.H a2 ok cn x1
      have W : yWT (aCt A) := (ok.2.2.2.2.2 _ x4).1
      rw [← x2] at H
      have H : cHo 0 (aChosen A).toNat 1 (aCt A) (A.1 2) (A.1 2) (A.1 3 0) (aNn A) (aLn A) x.2.2.1 u := H
      obtain ⟨st, k, f1, f2, f3, f4, f5, f6, f7, f8, f9, f10, f11⟩ := (H.2.2.nd d).ref W ok.2.1.2 k3
      have f48 := (H.2.2.nd d).f W f5
      rw [if_pos k3, if_pos k3, zC_zi, z132 a2 ok a3 cn, zC_zi, zn_ok (by omega), g 198 (by decide) (by decide), z82 H W f48 ⟨f10.1, f10.2.1⟩, zC_zi, zn_ok (by omega), g 196 (by decide) (by decide)]
      obtain ⟨v, t, b1, ⟨b2, b3, b4⟩, b5⟩ := C56' (r := 1) (k := (aChosen A).toNat) (st := yRs (aCt A) (aNn A j 198)) (off := aNn A j 196) a2 ok x4 f11 f8
      rw [b1, zC_zi]
      have fin : ∀ v : Int, cOut (zi v t) (.inl v) A s := fun v => ⟨t, rfl, a2.fr2 b2, cC.c (Or.inr a3) rfl rfl rfl rfl fun f i hf => b2.1 f 0 i (by omega), fun f n i f1 f2 => (b2.1 f n i (by omega)).trans (a5 f n i f1 f2), by rw [b2.2, a6]; omega⟩
      have gt : ∀ c : Nat, 192 ≤ c → c < 199 → t.1 c 0 j = aNn A j c := fun c c1 c2 => (b2.1 c 0 j (by omega)).trans (g c c1 c2)
      have ok2 := yS_ok W ok.2.1.1.2 ok.2.1.2 6 (yRs (aCt A) (aNn A j 198)) (-1) (-1) f11.1 f11.2 (aNn A j 196) 0 0 f8.1 (by decide) (by decide)
      revert b5 ok2
      show yTold 1 (aAtS A (yRs (aCt A) (aNn A j 198)) (aNn A j 196)) v t → yOkO (A.1 3 0) (aNn A j 196) 0 (aAtS A (yRs (aCt A) (aNn A j 198)) (aNn A j 196)) → _
      generalize aAtS A (yRs (aCt A) (aNn A j 198)) (aNn A j 196) = o
      cases o with
      | inl e =>
        intro b5 ok2
        rw [if_pos b5.1]
        exact fin _
      | inr y =>
        intro b5 ok2
        have := ok2.1
        have := ok2.2.1
        have := ok.2.1.1.2
        rw [if_neg (by rw [b5.1]; decide), b5.2.1, zg_ok ⟨by omega, by omega⟩]
        exact fin _
    · rw [if_neg k3, if_neg k3]
      exact cEndT a2 a3 a5 a6
  · rw [if_neg d, if_neg d]
    exact cEndT (e := 2) a2 a3 a5 a6
/-- where the reference finds the structure of a reference -/
theorem mRef (W : yWT T) (R : mRel t T s) {st k : Int} (hst : 0 ≤ st ∧ st < T 449 0) (hk : 0 ≤ k ∧ k < T 453 st) (ty : T 458 (8 * st + k) = 114) : (0 ≤ s.1 588 0 (48 * t + (8 * st + k)) ∧ s.1 588 0 (48 * t + (8 * st + k)) < 199) ∧ (65 ≤ s.1 581 0 (200 * t + s.1 588 0 (48 * t + (8 * st + k))) ∧ s.1 581 0 (200 * t + s.1 588 0 (48 * t + (8 * st + k))) ≤ 90) ∧ s.1 583 0 (26 * t + s.1 581 0 (200 * t + s.1 588 0 (48 * t + (8 * st + k))) - 65) = yRs T (8 * st + k) := by
  have wf := (W.2.2 st hst.1 hst.2).2.2 k hk.1 hk.2
  obtain ⟨d1, d2, d3, d4⟩ := wf.2.2.1 (Or.inr (Or.inr ty))
  obtain ⟨g1, g2⟩ := ((R.2.2 st hst.1 hst.2).2.2.2 k hk.1 hk.2).2.2.2.2.2.2.2.1 (Or.inr (Or.inr ty))
  obtain ⟨q1, q2, q3, -⟩ := g2 0 (by decide) (by omega)
  rw [show s.1 588 0 (48 * t + (8 * st + k)) + 2 * 0 = s.1 588 0 (48 * t + (8 * st + k)) by omega] at q2 q3
  rw [Int.add_zero] at q3
  exact ⟨by omega, q2, q3⟩
theorem zdiv_200 {t : Int} (h : 0 ≤ t ∧ t ≤ 3) : zdiv (200 * t) 200 = t := by
  have c : t = 0 ∨ t = 1 ∨ t = 2 ∨ t = 3 := by omega
  rcases c with rfl | rfl | rfl | rfl <;> decide
end
