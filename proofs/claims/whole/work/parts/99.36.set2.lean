section
/-! set by the reference -/
section
variable {T : yT} {B C F G : yB} {n L w : Int} {N : Int → yN} {s u z : zS} {t k v g e x j : Int} {A : aA}
theorem mHo.c (H : mHo t T B C n N L w s) (W : yWT T) (a : ∀ (f : Nat) (i : Int), f ≠ 576 → f ≠ 596 → f ≠ 597 → u.1 f 0 i = s.1 f 0 i) : mHo t T B C n N L w u := by
  obtain ⟨H1, S, R, F⟩ := H
  refine ⟨⟨(a 610 0 (by decide) (by decide) (by decide)).trans H1.1, fun j j1 j2 => ?_⟩, S, R.c W fun f i hf => a f i (by omega) (by omega) (by omega), (a 594 0 (by decide) (by decide) (by decide)).trans F.1, F.2.1, fun i i1 i2 => (a 595 i (by decide) (by decide) (by decide)).trans (F.2.2.1 i i1 i2), F.2.2.2⟩
  rw [a 612 j (by decide) (by decide) (by decide), a 613 j (by decide) (by decide) (by decide), a 614 j (by decide) (by decide) (by decide), a 615 j (by decide) (by decide) (by decide), a 616 j (by decide) (by decide) (by decide), a 617 j (by decide) (by decide) (by decide), a 618 j (by decide) (by decide) (by decide), a 619 j (by decide) (by decide) (by decide)]
  exact H1.2 j j1 j2
theorem mEd.wk (a : mWk s u) : mEd s u := ⟨fun f n i h => a.1 f n i (by omega), a.2⟩
theorem z146m {a b c : Int} : zf_146 a b c s = zi (if b ≤ a ∧ a ≤ c then 1 else 0) s := by
  unfold zf_146
  by_cases h1 : a < b
  · rw [if_pos h1, if_neg (by omega)]
    rfl
  · by_cases h2 : c < a
    · rw [if_neg h1, if_pos h2, if_neg (by omega)]
      rfl
    · rw [if_neg h1, if_neg h2, if_pos (by omega)]
      rfl
/-- the end of set, when it may be -/
theorem M214_141 (h : mR A s) (ok : aOK A) (c30 : A.1 387 0 < 30) (cn : aChosen A ≠ -1) {x : Int × Int × Int × List yN} (H : mHo (aChosen A) (aCt A) (A.1 2) (A.1 2) (A.1 3 0) (aNn A) (aLn A) w s) (h0 : s.1 576 0 0 = 0) (hj : 0 ≤ j ∧ j < aLn A) (kd : aNn A j 192 = 2 ∨ aNn A j 192 = 3 ∨ aNn A j 192 = 4) (hv : 0 ≤ v ∧ v ≤ zshl 1 (aCt A 459 (aNn A j 198)) - 1) : mOut (zC (zf_203 0 s) fun _ s5 => zC (zf_205 0 j v s5) fun _ s7 => zC (zf_211 0 (aChosen A) s7) fun v10 s9 => zC (zf_204 0 v10 2 s9) fun v13 s12 => zi v13 s12) (sFin A (eW (aCt A) (aNn A) j v (A.1 2)) (A.1 3 0)).1 cd21 (sFin A (eW (aCt A) (aNn A) j v (A.1 2)) (A.1 3 0)).2 s := by
  obtain ⟨y, x1, x2, x3, x4, x5⟩ := aChosen_x ok cn
  have o := ok.2.2.2.2.2 _ x4
  obtain ⟨p, b1, b2, b3, b4, b5⟩ := mSv.of h ok
  have Hp := H.c o.1 (u := p) fun f i f1 f2 f3 => b4 f 0 i (by omega)
  obtain ⟨z, c1, c2, c3, c4⟩ := M205 o.1 Hp.tb Hp.2.2.1 Hp.2.1 ok.2.1.1.2 Hp.by hj kd (v := v)
  have V := b2.tr (mEd.wk c2)
  have fz : mFile (eW (aCt A) (aNn A) j v (A.1 2)) (A.1 3 0) z := ⟨c3.1, ok.2.1.1, c3.2, eW_c o.1 o.2.2.2 H.2.1 ok.2.1.2 hj kd hv⟩
  rw [b1, zC_zi, c1, zC_zi]
  exact V.fin ok c30 cn fz ((c2.1 576 0 0 (by omega)).trans ((b4 576 0 0 (by omega)).trans h0)) (mFr.tr ⟨fun f n i hf => b4 f n i (by omega), b5⟩ (mEd.wk c2).fr) (cd := cd21) (fun v y => rfl) rfl
theorem M214 (h : mR A s) (ok : aOK A) : mOut (zf_214 0 j v s) (sSet j v A).1 cd21 (sSet j v A).2 s := by
  obtain ⟨u, a1, a2, a3, a4, a5⟩ := M191 (j := j) h ok
  have hL := aLn_b ok
  have o3 := ok.2.2.1.1
  unfold zf_214 sSet
  rw [a1, zC_zi]
  by_cases d : 0 ≤ j ∧ j < aLn A
  · have cn := hL.2.2 (by omega)
    obtain ⟨x, x1, x2, x3, x4, x5⟩ := aChosen_x ok cn
    have o := ok.2.2.2.2.2 _ x4
    have W : yWT (aCt A) := o.1
    have H := a3.H a2 ok cn x1
    obtain ⟨n1, n2⟩ := aNn_e x2
    rw [← n1, ← n2] at H
    have H : mHo (aChosen A) (aCt A) (A.1 2) (A.1 2) (A.1 3 0) (aNn A) (aLn A) x.2.2.1 u := H
    have H0 := H.c W (u := zp 576 0 0 0 u) fun f i f1 f2 f3 => zp_nk (by omega)
    have h0 : mR A (zp 576 0 0 0 u) := a2.k ok fun f i hf => zp_nk (by omega)
    have e3 : u.1 603 0 0 = 200 * aChosen A := by
      unfold mRd' at a3
      rw [if_neg cn] at a3
      exact a3.1
    have t4 : 0 ≤ aChosen A ∧ aChosen A ≤ 3 := by
      have := ok.2.2.2.2.1
      omega
    have fr : mFr s (zp 576 0 0 0 u) := a5.F.pw (by decide)
    obtain ⟨i12, -, -, -, -, -, i18, -⟩ := H0.1.2 j d.1 d.2
    have refuse : mOut (zf_214_168 0 (zp 576 0 0 0 u)) (.inr 1) cd21 A s := by
      unfold zf_214_168 zf_145
      rw [zP_ok, zC_zi]
      exact mEndT (e := 1) (cd := cd21) ok h0 fr
    rw [if_pos d, if_neg (show ¬ (1 : Int) = 0 by decide), if_pos d]
    unfold zf_214_14
    rw [zP_ok, zp_eq, if_pos (by decide), zn_ok (by omega), z146m, zC_zi, i12]
    have e599 : (zp 576 0 0 0 u).1 599 0 0 = A.1 387 0 := h0.2.2.1.1
    have e603 : (zp 576 0 0 0 u).1 603 0 0 = 200 * aChosen A := (zp_nk (by decide)).trans e3
    rw [e599, e603, zdiv_200 t4]
    have no : ∀ m : Int, zf_214_63 0 j v (aChosen A) 0 (zp 576 0 0 0 u) = zf_214_168 0 (zp 576 0 0 0 u) := fun m => by
      unfold zf_214_63 zf_214_141
      rw [zn_ok (by omega), if_pos rfl, if_pos rfl]
    by_cases kd : aNn A j 192 = 2 ∨ aNn A j 192 = 3 ∨ aNn A j 192 = 4
    · rw [if_pos (show 2 ≤ aNn A j 192 ∧ aNn A j 192 ≤ 4 by omega), if_neg (show ¬ (1 : Int) = 0 by decide)]
      by_cases c30 : 30 ≤ A.1 387 0
      · rw [if_pos c30, no 0]
        have e : ∀ F n, sFin A F n = (.inr 1, A) := fun F n => if_neg (by omega)
        rw [e, ite_self]
        exact refuse
      · obtain ⟨st, i, f1, f2, f3, f4, ty, o0, on, ol, k4, k3, wf⟩ := (H.2.1.nd d).num W kd
        have f48 := (H.2.1.nd d).f W f4
        have RF := (H0.2.2.1.2.2 st f2.1 f2.2).2.2.2 i f3.1 f3.2
        have b8 := wf.2.2.2.2.2.2.1
        have b16 := wf.2.2.2.2.2.2.2.1
        have e87 := RF.2.2.1
        have e89 := RF.2.2.2.2.1
        have e92 := RF.2.2.2.2.2.1
        rw [← f1] at e87 e89 e92 b8 b16
        have e87 := e87 (by omega) (by omega)
        rw [if_neg f4] at i18
        rw [if_neg c30]
        unfold zf_214_63
        have fin : ∀ m, m = zshl 1 (aCt A 459 (aNn A j 198)) - 1 → mOut (zf_214_141 0 j v (aChosen A) 1 (48 * aChosen A + aNn A j 198) m (zp 576 0 0 0 u)) (if eSb A j v then sFin A (eW (aCt A) (aNn A) j v (A.1 2)) (A.1 3 0) else (.inr 1, A)).1 cd21 (if eSb A j v then sFin A (eW (aCt A) (aNn A) j v (A.1 2)) (A.1 3 0) else (.inr 1, A)).2 s := fun m hm => by
          unfold zf_214_141
          rw [if_neg (show ¬ (1 : Int) = 0 by decide), zn_ok (by omega), e92]
          by_cases r0 : aCt A 467 (aNn A j 198) = 0
          · rw [if_pos (show (if aCt A 467 (aNn A j 198) = 61 then (73 : Int) else aCt A 467 (aNn A j 198)) = 0 by rw [if_neg (by omega)]; exact r0), z146m, zC_zi]
            by_cases hv : 0 ≤ v ∧ v ≤ m
            · have hv2 : 0 ≤ v ∧ v ≤ zshl 1 (aCt A 459 (aNn A j 198)) - 1 := by rw [← hm]; exact hv
              rw [if_pos hv, if_neg (show ¬ (1 : Int) = 0 by decide), if_pos ⟨kd, r0, hv2⟩]
              have M := M214_141 (x := x) h0 ok (by omega) cn H0 zp_eq d kd hv2
              obtain ⟨q, y, m1, m2, m3, m4⟩ := M
              exact ⟨q, y, m1, m2, fr.tr m3, m4⟩
            · rw [if_neg hv, if_pos rfl, if_neg (fun z => hv (by rw [hm]; exact z.2.2))]
              exact refuse
          · rw [if_neg (show ¬ (if aCt A 467 (aNn A j 198) = 61 then (73 : Int) else aCt A 467 (aNn A j 198)) = 0 by split <;> omega), if_neg (fun z => r0 z.2.1)]
            exact refuse
        rw [zn_ok (by omega), if_neg (show ¬ (1 : Int) = 0 by decide), i18, zn_ok (by omega), e87]
        by_cases c110 : aCt A 458 (aNn A j 198) = 110
        · obtain ⟨g1, g2, g3⟩ := e89 c110
          have wb := wf.2.2.2.2.2.1
          rw [← f1] at wb
          have wb := wb c110
          have sb := zshl1_le (k := aCt A 459 (aNn A j 198)) (by omega)
          rw [if_pos c110, zn_ok (by omega), g1, zg_ok ⟨by omega, by omega⟩]
          exact fin _ rfl
        · rw [if_neg c110, zn_ok (by omega)]
          by_cases c119 : aCt A 458 (aNn A j 198) = 119
          · rw [if_pos c119]
            exact fin _ (by rw [b16 (Or.inl c119)]; decide)
          · rw [if_neg c119, zn_ok (by omega)]
            by_cases c87 : aCt A 458 (aNn A j 198) = 87
            · rw [if_pos c87]
              exact fin _ (by rw [b16 (Or.inr c87)]; decide)
            · rw [if_neg c87]
              exact fin _ (by rw [b8 (by omega)]; decide)
    · rw [if_neg (show ¬ (2 ≤ aNn A j 192 ∧ aNn A j 192 ≤ 4) by omega), if_pos rfl, no 0, if_neg (fun z => kd z.1)]
      exact refuse
  · rw [if_neg d, if_pos rfl, if_neg d]
    unfold zf_214_14
    rw [zP_ok, zp_eq, if_neg (by decide)]
    exact mEndT (e := 2) (cd := cd21) ok a2 a5.F
end
end
