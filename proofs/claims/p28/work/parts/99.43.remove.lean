section
/-! remove -/
def eRem (M : yB) (q k : Int) : yB := fun i => if i < q then M i else M (i + k)
def sRemove (j p : Int) (A : aA) : (Int ⊕ Nat) × aA := if 0 ≤ j ∧ j < aLn A then (if aNn A j 192 = 5 ∧ 0 ≤ p ∧ p < aSl A j then sFin A (eRem (eMa A j (aNn A j 194 + p) 1 0 (-1)) (aNn A j 194 + p) 1) (A.1 3 0 - 1) else (.inr 1, A)) else (.inr 2, A)
section
variable {T : yT} {B C F G : yB} {n L w : Int} {N : Int → yN} {s u z : zS} {r q : Nat} {t k v g e x j J p : Int} {A : aA}
theorem eRem_b {M : yB} (hM : ∀ i, 0 ≤ i → i < n → 0 ≤ M i ∧ M i ≤ 255) (hk : 0 ≤ k) : ∀ i, 0 ≤ i → i < n - k → 0 ≤ eRem M p k i ∧ eRem M p k i ≤ 255 := fun i i0 i1 => by
  unfold eRem
  split
  · exact hM i i0 (by omega)
  · exact hM (i + k) (by omega) (by omega)
theorem eVb_rem (ok : aOK A) (W : yWT (aCt A)) (S : ySh (aCt A) (A.1 2) (A.1 3 0) (aNn A) (aLn A) w) (hj : 0 ≤ j ∧ j < aLn A) (hp : 0 ≤ p ∧ p ≤ 255) (hk : 0 ≤ k ∧ k ≤ aNn A j 195) (h : aNn A j 192 = 1 → 1 ≤ aNn A j 196) : eVb (aCt A) (aNn A) (aLn A) j p k 0 (-1) := eVl_b W S ok.2.1.1 ok.2.1.2 hj hp.1 hk.1 (fun _ => ⟨hk.2, hp.2⟩) (fun z => absurd rfl z) ⟨by decide, fun _ => h⟩
theorem eFa_0 (S : ySh (aCt A) (A.1 2) (A.1 3 0) (aNn A) (aLn A) w) (hb : eVb (aCt A) (aNn A) (aLn A) J p k 0 e) : eFa A J p k 0 e = 1 := by
  have hL := S.1
  exact eFg_i _ _ fun j j0 j1 kj => ((hb j j0 (by omega)).1 kj).2 rfl
theorem C125 (h : cR A s) (ok : aOK A) (c : cC A s) : cOut (zf_125 0 j p s) (sRemove j p A).1 (sRemove j p A).2 s := by
  obtain ⟨u, a1, a2, a3, a4, a5, a6⟩ := C135 (j := j) h ok c
  have hL := aLn_b ok
  have hn := ok.2.1.1
  unfold zf_125 sRemove
  rw [a1]
  by_cases d : 0 ≤ j ∧ j < aLn A
  · have cn := hL.2.2 (by omega)
    obtain ⟨x, x1, x2, x3, x4, x5⟩ := aChosen_x ok cn
    have o := ok.2.2.2.2.2 _ x4
    have H := a3.H a2 ok cn x1
    have W : yWT (aCt A) := o.1
    obtain ⟨n1, n2⟩ := aNn_e x2
    rw [← n1, ← n2] at H
    have H : cHo 0 (aChosen A).toNat 1 (aCt A) (A.1 2) (A.1 2) (A.1 3 0) (aNn A) (aLn A) x.2.2.1 u := H
    have S := H.2.2
    have ln := S.ln hn.1 d
    have thr : cOut (zt 1 u) (.inr 1) A s := cEndT (e := 1) a2 a3 a5 a6
    rw [if_pos d, if_pos d, zC_zi, z86 W H.tb S hn d, zC_zi]
    by_cases kd : aNn A j 192 = 5
    · have esl : (if aCt A 458 (aNn A j 198) = 122 then aNn A j 195 - 1 else aNn A j 195) = aSl A j := rfl
      have lsl : -1 ≤ aSl A j ∧ aSl A j ≤ 160 := by
        unfold aSl
        split <;> omega
      rw [if_pos kd, esl, zg_ok ⟨by omega, by omega⟩, z137]
      by_cases hp : 0 ≤ p ∧ p < aSl A j
      · have sp := aSp ok cn S d (p := p) ⟨hp.1, by omega⟩
        have sp2 := sp.2.2 hp.2
        obtain ⟨y, b1, b2, b3, b4⟩ := C10 a2 ok
        obtain ⟨g1, g2, g3, g4, g5, g6⟩ := b4
        have hb := eVb_rem (k := 1) ok W S d (p := aNn A j 194 + p) ⟨sp.1, by omega⟩ ⟨by decide, sp2.2⟩ (fun z => by omega)
        obtain ⟨z, c1, c2, c3, c4, c5⟩ := C13 (k := 1) W (H.w1 b3) ⟨g2, g5⟩ d hb sp.1 ⟨by decide, sp2.1⟩
        have e194 := (H.w1 b3).2.1.2 j d.1 d.2 194 (by decide) (by decide)
        rw [if_pos (show 0 ≤ p ∧ p ≤ aSl A j - 1 by omega), zC_zi, b1, zC_zi, zn_ok (by omega), e194, zg_ok ⟨by omega, by omega⟩, c1, zC_zi, if_pos ⟨kd, hp⟩]
        refine C140e ok cn a2 a3 a5 a6 (b3.tr c2) ⟨by decide, c3, by omega, by omega, fun i i0 i1 => ?_, eRem_b (eMa_b ok W S hb fun z => absurd rfl z) (by decide)⟩
        unfold eRem
        by_cases y1 : i < aNn A j 194 + p
        · rw [if_pos y1]
          exact c4 i i0 y1
        · rw [if_neg y1]
          exact c5 i (by omega) i1
      · rw [if_neg (show ¬ (0 ≤ p ∧ p ≤ aSl A j - 1) by omega), if_neg (fun z => hp z.2)]
        exact thr
    · rw [if_neg kd, zg_ok ⟨by omega, by omega⟩, z137, if_neg (by omega), if_neg (fun z => kd z.1)]
      exact thr
  · rw [if_neg d, if_neg d]
    exact cEndT (e := 2) a2 a3 a5 a6
end
end
