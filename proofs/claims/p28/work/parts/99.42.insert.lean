section
/-! insert -/
/-- what the bytes of the file are behind what is written ahead of an edit -/
def eMa (A : aA) (J p k g e : Int) : yB := eMv (aCt A) (aNn A) (eVl (aCt A) (aNn A) (aLn A) J p k g e) (aLn A).toNat 0 (A.1 2)
def eFa (A : aA) (J p k g e : Int) : Int := eFg (aNn A) (eVl (aCt A) (aNn A) (aLn A) J p k g e) (aLn A).toNat 0
def eIns (M : yB) (q v : Int) : yB := fun i => if i < q then M i else if i = q then v else M (i - 1)
/-- how many bytes of a string can be edited -/
def aSl (A : aA) (j : Int) : Int := if aCt A 458 (aNn A j 198) = 122 then aNn A j 195 - 1 else aNn A j 195
abbrev eIb (A : aA) (j p v : Int) : Prop := aNn A j 192 = 5 ∧ (0 ≤ p ∧ p ≤ aSl A j) ∧ ¬ (v = 0 ∧ aCt A 458 (aNn A j 198) = 122)
/-- the end of insert -/
def sIns (j p v : Int) (A : aA) : (Int ⊕ Nat) × aA := if A.1 3 0 + 1 ≤ 160 ∧ eFa A j (aNn A j 194 + p) 1 1 1 = 1 then sFin A (eIns (eMa A j (aNn A j 194 + p) 1 1 1) (aNn A j 194 + p) v) (A.1 3 0 + 1) else (.inr 1, A)
def sInsert (j p v : Int) (A : aA) : (Int ⊕ Nat) × aA := if 0 ≤ j ∧ j < aLn A then (if 0 ≤ v ∧ v ≤ 255 then (if eIb A j p v then sIns j p v A else (.inr 1, A)) else (.inr 0, A)) else (.inr 2, A)
section
variable {T : yT} {B C F G : yB} {n L w : Int} {N : Int → yN} {s u z : zS} {r q : Nat} {t k v g e x j J p : Int} {A : aA}
/-- a string -/
theorem yNd.str {x : yN} (h : yNd T B n x) (kd : x 192 = 5) : x 198 ≠ -1 ∧ (T 458 (x 198) = 115 ∨ T 458 (x 198) = 122) := by
  obtain ⟨o, h⟩ := h
  rcases h with h | ⟨st, k, h1, h2, h3, h⟩
  · omega
  · rcases h with h | h | ⟨a1, a2, a3, -⟩
    · omega
    · omega
    · refine ⟨by omega, ?_⟩
      rw [kd] at a3
      unfold yKd at a3
      split at a3
      · exact absurd a3 (by decide)
      · split at a3
        · exact absurd a3 (by decide)
        · split at a3
          · exact Or.inl (by assumption)
          · split at a3
            · exact Or.inr (by assumption)
            · exact absurd a3 (by decide)
/-- all nodes of the file begin in it, or at its end -/
theorem aOf (ok : aOK A) (cn : aChosen A ≠ -1) (hj : 0 ≤ j ∧ j < aLn A) : 0 ≤ aNn A j 194 ∧ aNn A j 194 ≤ A.1 3 0 := by
  obtain ⟨x, x1, x2, x3, x4, x5⟩ := aChosen_x ok cn
  have o := ok.2.2.2.2.2 _ x4
  obtain ⟨n1, n2⟩ := aNn_e x2
  have a := yS_q (B := A.1 2) (n := A.1 3 0) o.1 o.2.2.2 6 0 (-1) (-1) (Int.le_refl 0) (by have := o.1.1; omega) (Or.inl rfl) 0 0 0 (by decide) (by decide)
  unfold aRd yTop at x1
  rw [x1] at a
  obtain ⟨-, -, a3⟩ := a _ yNs_ag
  have b := a3.2.1.2.2.1 j hj.1 (by omega)
  have d := a3.2.1.1
  have o3 := ok.2.1.1
  rw [n1]
  omega
theorem z137 : zf_137 0 p g s = if 0 ≤ p ∧ p ≤ g then zi 0 s else zt 1 s := by
  unfold zf_137
  by_cases c : p < 0
  · rw [if_pos c, if_neg (by omega)]
  · by_cases d : p ≤ g
    · rw [if_neg c, if_pos d, if_pos (by omega)]
    · rw [if_neg c, if_neg d, if_neg (by omega)]
theorem z85 (W : yWT T) (H : cTb r q T N L s) (S : ySh T B n N L w) (hk : 0 ≤ k ∧ k < L) (f : N k 198 ≠ -1) : zf_85 r k s = zi (if T 458 (N k 198) = 122 then 1 else 0) s := by
  unfold zf_85
  rw [z81 W H S hk f, zC_zi]
  by_cases c : T 458 (N k 198) = 122
  · rw [if_pos c, if_pos c]
    rfl
  · rw [if_neg c, if_neg c]
    rfl
theorem z86 (W : yWT T) (H : cTb r q T N L s) (S : ySh T B n N L w) (hn : 0 ≤ n ∧ n ≤ 160) (hk : 0 ≤ k ∧ k < L) : zf_86 r k s = zi (if N k 192 = 5 then (if T 458 (N k 198) = 122 then N k 195 - 1 else N k 195) else -1) s := by
  have hL := S.1
  have l := S.ln hn.1 hk
  have e2 := H.2.2.2.2 k hk.1 hk.2 192 (by decide) (by decide)
  have e5 := H.2.2.2.2 k hk.1 hk.2 195 (by decide) (by decide)
  unfold zf_86
  rw [z27 H.2.2.2.1, zC_zi, if_pos hk, if_neg (show ¬ (1 : Int) = 0 by decide), zn_ok (by omega), e2]
  by_cases c : N k 192 = 5
  · have st := (S.nd hk).str c
    rw [if_pos c, if_pos c, z85 W H S hk st.1, zC_zi]
    by_cases d : T 458 (N k 198) = 122
    · rw [if_pos d, if_pos d, if_neg (show ¬ (1 : Int) = 0 by decide), zn_ok (by omega), e5, zg_ok ⟨by omega, by omega⟩]
    · rw [if_neg d, if_neg d, if_pos rfl, zn_ok (by omega), e5]
  · rw [if_neg c, if_neg c]
/-- the class ends an edit -/
theorem C140e (ok : aOK A) (cn : aChosen A ≠ -1) (a2 : cR A u) (a3 : cRd A u) (a5 : cFr s u) (a6 : u.2 = s.2) (wy : cWk u z) (fz : yFile 2 F n z) : cOut (zC (zf_140 0 z) fun v s => zi v s) (sFin A F n).1 (sFin A F n).2 s := by
  obtain ⟨p, q1, q2, q3, q4, q5⟩ := C140 (a2.ef (cEf.wk wy)) ok (a3.ef ok (cEf.wk wy)) cn fz
  have fr : cFr s z := fun f n i f1 f2 => (wy.1 f n i (by omega)).trans (a5 f n i f1 f2)
  have e2 : z.2 = s.2 := wy.2.trans a6
  rw [q1]
  cases hr : (sFin A F n).1 with
  | inl x => exact ⟨p, rfl, q2, q3, fr.tr q4, by rw [e2] at q5; exact q5⟩
  | inr x => exact ⟨p, rfl, q2, q3, fr.tr q4, by rw [e2] at q5; exact q5⟩
theorem cNo (ok : aOK A) (a2 : cR A u) (a3 : cRd A u) (a5 : cFr s u) (a6 : u.2 = s.2) (wy : cWk u z) : cOut (zt 1 z) (.inr 1) A s := cEndT (e := 1) (a2.ef (cEf.wk wy)) (a3.ef ok (cEf.wk wy)) (fun f n i f1 f2 => (wy.1 f n i (by omega)).trans (a5 f n i f1 f2)) (wy.2.trans a6)
theorem z3_k (h : s.1 1 2 0 = n) (hn : n ≤ 160) : ∃ u, zf_3 2 p x s = zi 0 u ∧ cWk s u ∧ u.1 1 2 0 = n ∧ ∀ i, u.1 0 2 i = if i = p ∧ 0 ≤ p ∧ p < n then x else s.1 0 2 i := by
  unfold zf_3
  by_cases c : p < 0
  · rw [if_pos c]
    exact ⟨s, rfl, cWk.rf, h, fun i => (if_neg (by omega)).symm⟩
  · rw [if_neg c, h]
    by_cases d : n ≤ p
    · rw [if_pos d]
      exact ⟨s, rfl, cWk.rf, h, fun i => (if_neg (by omega)).symm⟩
    · rw [if_neg d, zW_ok (by rw [show zlB 2 = 160 from rfl]; omega)]
      refine ⟨_, rfl, ⟨fun f m i hn => zp_n3 (by omega), rfl⟩, (zp_nk (by decide)).trans h, fun i => ?_⟩
      by_cases y : i = p
      · rw [if_pos ⟨y, by omega, by omega⟩, y, zp_eq]
      · rw [if_neg (fun z => y z.1), zp_ni y]
theorem eMa_b (ok : aOK A) (W : yWT (aCt A)) (S : ySh (aCt A) (A.1 2) (A.1 3 0) (aNn A) (aLn A) w) (hb : eVb (aCt A) (aNn A) (aLn A) J p k g e) (hf : g ≠ 0 → eFa A J p k g e = 1) : ∀ i, 0 ≤ i → i < A.1 3 0 → 0 ≤ eMa A J p k g e i ∧ eMa A J p k g e i ≤ 255 := by
  have hL := S.1
  exact eMv_b W S (eVl_w W S hb fun z j j0 j1 kj => eFg_1 _ _ (hf z) j j0 (by omega) kj) (aLn A).toNat 0 (A.1 2) (by omega) (by decide) ok.2.1.2
theorem eIns_b {M : yB} (hM : ∀ i, 0 ≤ i → i < n → 0 ≤ M i ∧ M i ≤ 255) (hv : 0 ≤ v ∧ v ≤ 255) (hp : 0 ≤ p ∧ p ≤ n) : ∀ i, 0 ≤ i → i < n + 1 → 0 ≤ eIns M p v i ∧ eIns M p v i ≤ 255 := fun i i0 i1 => by
  unfold eIns
  split
  · exact hM i i0 (by omega)
  · split
    · exact hv
    · exact hM (i - 1) (by omega) (by omega)
/-- the place of a byte of a string -/
theorem aSp (ok : aOK A) (cn : aChosen A ≠ -1) (S : ySh (aCt A) (A.1 2) (A.1 3 0) (aNn A) (aLn A) w) (hj : 0 ≤ j ∧ j < aLn A) (hp : 0 ≤ p ∧ p ≤ aSl A j) : 0 ≤ aNn A j 194 + p ∧ aNn A j 194 + p ≤ A.1 3 0 ∧ (p < aSl A j → aNn A j 194 + p + 1 ≤ A.1 3 0 ∧ 1 ≤ aNn A j 195) := by
  have o := aOf ok cn hj
  have nd := (S.nd hj).1
  have sl : aSl A j ≤ aNn A j 195 := by
    unfold aSl
    split <;> omega
  omega
theorem eVb_ins (ok : aOK A) (W : yWT (aCt A)) (S : ySh (aCt A) (A.1 2) (A.1 3 0) (aNn A) (aLn A) w) (hj : 0 ≤ j ∧ j < aLn A) (hp : 0 ≤ p) (hk : 0 ≤ k) (h : A.1 3 0 + k ≤ 160) : eVb (aCt A) (aNn A) (aLn A) j p k 1 1 := eVl_b W S ok.2.1.1 ok.2.1.2 hj hp hk (fun z => absurd z (by decide)) (fun _ => h) ⟨by decide, fun z => absurd z (by decide)⟩
theorem C124_65 (ok : aOK A) (cn : aChosen A ≠ -1) (a2 : cR A u) (a3 : cRd A u) (a5 : cFr s u) (a6 : u.2 = s.2) {q : Nat} (H : cHo 0 q 1 (aCt A) (A.1 2) (A.1 2) (A.1 3 0) (aNn A) (aLn A) w u) (W : yWT (aCt A)) (hj : 0 ≤ j ∧ j < aLn A) (hp : 0 ≤ p ∧ p ≤ aSl A j) (hv : 0 ≤ v ∧ v ≤ 255) : cOut (zf_124_65 0 j p v u) (sIns j p v A).1 (sIns j p v A).2 s := by
  have S := H.2.2
  have hL := S.1
  have hn := ok.2.1.1
  have sp := aSp ok cn S hj hp
  have e194 := H.2.1.2 j hj.1 hj.2 194 (by decide) (by decide)
  obtain ⟨y, b1, b2, b3, b4⟩ := C10 a2 ok
  obtain ⟨g1, g2, g3, g4, g5, g6⟩ := b4
  obtain ⟨z, c1, c2, c3⟩ := C12 (k := 1) W (H.w1 b3) ⟨g2, g5⟩ hj (eVb_ins ok W S hj sp.1 (by decide)) ⟨sp.1, sp.2.1⟩ (by decide)
  unfold zf_124_65
  rw [zn_ok (by omega), b1, zC_zi, e194, zg_ok ⟨by omega, by omega⟩]
  by_cases d : A.1 3 0 + 1 ≤ 160 ∧ eFa A j (aNn A j 194 + p) 1 1 1 = 1
  · obtain ⟨d1, d2, d3, d4⟩ := c2 d
    obtain ⟨x, f1, f2, f3, f4⟩ := z3_k (p := aNn A j 194 + p) (x := v) d2 d.1
    have ei : sIns j p v A = sFin A (eIns (eMa A j (aNn A j 194 + p) 1 1 1) (aNn A j 194 + p) v) (A.1 3 0 + 1) := if_pos d
    rw [d1, zC_zi, f1, zC_zi, ei]
    unfold zf_138
    rw [if_neg (show ¬ (1 : Int) = 0 by decide), zC_zi]
    refine C140e ok cn a2 a3 a5 a6 ((b3.tr c1).tr f2) ⟨by decide, f3, by omega, d.1, fun i i0 i1 => ?_, eIns_b (eMa_b ok W S (eVb_ins ok W S hj sp.1 (by decide) d.1) fun _ => d.2) hv ⟨sp.1, sp.2.1⟩⟩
    rw [f4]
    unfold eIns
    by_cases y1 : i < aNn A j 194 + p
    · rw [if_neg (by omega), if_pos y1]
      exact d3 i i0 y1
    · rw [if_neg y1]
      by_cases y2 : i = aNn A j 194 + p
      · rw [if_pos ⟨y2, by omega, by omega⟩, if_pos y2]
      · have := d4 (i - 1) (by omega) (by omega)
        rw [show i - 1 + 1 = i by omega] at this
        rw [if_neg (fun z => y2 z.1), if_neg y2]
        exact this
  · obtain ⟨d1, d2⟩ := c3 d
    obtain ⟨x, f1, f2, f3, f4⟩ := z3_k (p := aNn A j 194 + p) (x := v) d2 hn.2
    have ei : sIns j p v A = (.inr 1, A) := if_neg d
    rw [d1, zC_zi, f1, zC_zi, ei]
    unfold zf_138
    rw [if_pos rfl]
    exact cNo ok a2 a3 a5 a6 ((b3.tr c1).tr f2)
theorem C124 (h : cR A s) (ok : aOK A) (c : cC A s) : cOut (zf_124 0 j p v s) (sInsert j p v A).1 (sInsert j p v A).2 s := by
  obtain ⟨u, a1, a2, a3, a4, a5, a6⟩ := C135 (j := j) h ok c
  have hL := aLn_b ok
  unfold zf_124 sInsert
  rw [a1]
  by_cases d : 0 ≤ j ∧ j < aLn A
  · have cn := hL.2.2 (by omega)
    obtain ⟨x, x1, x2, x3, x4, x5⟩ := aChosen_x ok cn
    have o := ok.2.2.2.2.2 _ x4
    have H := a3.H a2 ok cn x1
    have W : yWT (aCt A) := o.1
    obtain ⟨n1, n2⟩ := aNn_e x2
    rw [← n1, ← n2] at H
    have H : cHo 0 (aChosen A).toNat 1 (aCt A) (A.1 2) (A.1 2) (A.1 3 0) (aNn A) (aLn A) x.2.2.1 u := H
    rw [if_pos d, if_pos d, zC_zi]
    by_cases v0 : v < 0
    · rw [if_pos v0, if_neg (show ¬ (0 ≤ v ∧ v ≤ 255) by omega)]
      exact cEndT (e := 0) a2 a3 a5 a6
    · rw [if_neg v0]
      by_cases v1 : v ≤ 255
      · rw [if_pos v1, if_pos (show 0 ≤ v ∧ v ≤ 255 by omega), z86 W H.tb H.2.2 ok.2.1.1 d, zC_zi, z137]
        have thr : cOut (zt 1 u) (.inr 1) A s := cEndT (e := 1) a2 a3 a5 a6
        by_cases kd : aNn A j 192 = 5
        · have st := (H.2.2.nd d).str kd
          rw [if_pos kd]
          by_cases hp : 0 ≤ p ∧ p ≤ aSl A j
          · have hp' : 0 ≤ p ∧ p ≤ (if aCt A 458 (aNn A j 198) = 122 then aNn A j 195 - 1 else aNn A j 195) := hp
            have fin := C124_65 (p := p) (v := v) ok cn a2 a3 a5 a6 H W d hp ⟨by omega, v1⟩
            rw [if_pos hp', zC_zi]
            by_cases z0 : v = 0
            · rw [if_pos z0, z85 W H.tb H.2.2 d st.1, zC_zi]
              by_cases z : aCt A 458 (aNn A j 198) = 122
              · rw [if_pos z, if_neg (show ¬ (1 : Int) = 0 by decide), if_neg (fun y => y.2.2 ⟨z0, z⟩)]
                exact thr
              · rw [if_neg z, if_pos rfl, if_pos (⟨kd, hp, fun y => z y.2⟩ : eIb A j p v)]
                exact fin
            · rw [if_neg z0, if_pos (⟨kd, hp, fun y => z0 y.1⟩ : eIb A j p v)]
              exact fin
          · have hp' : ¬ (0 ≤ p ∧ p ≤ (if aCt A 458 (aNn A j 198) = 122 then aNn A j 195 - 1 else aNn A j 195)) := hp
            rw [if_neg hp', if_neg (fun y => hp y.2.1)]
            exact thr
        · rw [if_neg kd, if_neg (show ¬ (0 ≤ p ∧ p ≤ -1) by omega), if_neg (fun y => kd y.1)]
          exact thr
      · rw [if_neg v1, if_neg (show ¬ (0 ≤ v ∧ v ≤ 255) by omega)]
        exact cEndT (e := 0) a2 a3 a5 a6
  · rw [if_neg d, if_neg d]
    exact cEndT (e := 2) a2 a3 a5 a6
theorem mEd.wl (a : mWl s u) : mEd s u := ⟨fun f n i h => a.1 f n i (by omega), a.2⟩
theorem sIns_30 (h : ¬ A.1 387 0 < 30) : sIns j p v A = (.inr 1, A) := by
  unfold sIns sFin
  rw [if_neg h, ite_self]
end
end
