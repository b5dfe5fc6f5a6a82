section
/-! set -/
section
variable {T : yT} {B C F G : yB} {n L w : Int} {N : Int → yN} {s u z : zS} {r q : Nat} {t k v g e x j : Int} {A : aA}
theorem zand_l {x y : Int} (hx : 0 ≤ x ∧ x ≤ 255) : 0 ≤ zand x y ∧ zand x y ≤ 255 := by
  have hb : (Int32.ofInt x).toBitVec = BitVec.ofNat 32 x.toNat := zbv (by omega) (by omega)
  have hle : ((Int32.ofInt x).toBitVec &&& (Int32.ofInt y).toBitVec).toNat ≤ x.toNat := by
    rw [BitVec.toNat_and, hb, BitVec.toNat_ofNat]
    refine Nat.le_trans Nat.and_le_left ?_
    omega
  have e : zand x y = (((Int32.ofInt x).toBitVec &&& (Int32.ofInt y).toBitVec).toNat : Int) := by
    unfold zand
    show ((Int32.ofInt x).toBitVec &&& (Int32.ofInt y).toBitVec).toInt = _
    rw [BitVec.toInt_eq_toNat_of_lt (by omega)]
  rw [e]
  omega
theorem zor_l {x y : Int} (hx : 0 ≤ x ∧ x ≤ 255) (hy : 0 ≤ y ∧ y ≤ 255) : 0 ≤ zor x y ∧ zor x y ≤ 255 := by
  have hb : (Int32.ofInt x).toBitVec = BitVec.ofNat 32 x.toNat := zbv (by omega) (by omega)
  have hc : (Int32.ofInt y).toBitVec = BitVec.ofNat 32 y.toNat := zbv (by omega) (by omega)
  have hle : ((Int32.ofInt x).toBitVec ||| (Int32.ofInt y).toBitVec).toNat < 256 := by
    rw [BitVec.toNat_or, hb, hc, BitVec.toNat_ofNat, BitVec.toNat_ofNat, Nat.mod_eq_of_lt (by omega), Nat.mod_eq_of_lt (by omega)]
    exact Nat.or_lt_two_pow (n := 8) (by omega) (by omega)
  have e : zor x y = (((Int32.ofInt x).toBitVec ||| (Int32.ofInt y).toBitVec).toNat : Int) := by
    unfold zor
    show ((Int32.ofInt x).toBitVec ||| (Int32.ofInt y).toBitVec).toInt = _
    rw [BitVec.toInt_eq_toNat_of_lt (by omega)]
  rw [e]
  omega
theorem zshl_m {v k b : Int} (hb : 1 ≤ b) (hk : 0 ≤ k) (hs : b + k ≤ 8) (hv : 0 ≤ v ∧ v ≤ zshl 1 b - 1) : 0 ≤ zshl v k ∧ zshl v k ≤ 255 := by
  have h1 : ∀ (k : Fin 8) (y : Fin 256), zshl (y.val : Int) (k.val : Int) = ((y.val * 2 ^ k.val : Nat) : Int) := by decide +kernel
  have h2 : ∀ (b : Fin 9) (k : Fin 8), b.val + k.val ≤ 8 → (2 ^ b.val - 1) * 2 ^ k.val ≤ 255 := by decide +kernel
  rw [zshl1 (by omega)] at hv
  have h3 := h2 ⟨b.toNat, by omega⟩ ⟨k.toNat, by omega⟩ (by show b.toNat + k.toNat ≤ 8; omega)
  have h3 : (2 ^ b.toNat - 1) * 2 ^ k.toNat ≤ 255 := h3
  have p : ((2 ^ b.toNat : Nat) : Int) = 2 ^ b.toNat := by simp
  have hv2 : v.toNat ≤ 2 ^ b.toNat - 1 := by
    rw [← p] at hv
    omega
  have p8 : 2 ^ b.toNat ≤ 2 ^ 8 := Nat.pow_le_pow_right (by decide) (by omega)
  have h4 := h1 ⟨k.toNat, by omega⟩ ⟨v.toNat, by omega⟩
  have h4 : zshl (v.toNat : Int) (k.toNat : Int) = ((v.toNat * 2 ^ k.toNat : Nat) : Int) := h4
  rw [show (v.toNat : Int) = v by omega, show (k.toNat : Int) = k by omega] at h4
  have h5 := Nat.le_trans (Nat.mul_le_mul_right (2 ^ k.toNat) hv2) h3
  rw [h4]
  omega
/-- whether node j may get the value v -/
abbrev eSb (A : aA) (j v : Int) : Prop := (aNn A j 192 = 2 ∨ aNn A j 192 = 3 ∨ aNn A j 192 = 4) ∧ aCt A 467 (aNn A j 198) = 0 ∧ 0 ≤ v ∧ v ≤ zshl 1 (aCt A 459 (aNn A j 198)) - 1
def sSet (j v : Int) (A : aA) : (Int ⊕ Nat) × aA := if 0 ≤ j ∧ j < aLn A then (if eSb A j v then sFin A (eW (aCt A) (aNn A) j v (A.1 2)) (A.1 3 0) else (.inr 1, A)) else (.inr 2, A)
/-- a value that fits leaves bytes -/
theorem eW_c (W : yWT T) (BE : yBE T) (S : ySh T B n N L w) (hF : ∀ i, 0 ≤ i → i < n → 0 ≤ F i ∧ F i ≤ 255) (hk : 0 ≤ k ∧ k < L) (kd : N k 192 = 2 ∨ N k 192 = 3 ∨ N k 192 = 4) (hv : 0 ≤ v ∧ v ≤ zshl 1 (T 459 (N k 198)) - 1) : ∀ i, 0 ≤ i → i < n → 0 ≤ eW T N k v F i ∧ eW T N k v F i ≤ 255 := by
  obtain ⟨st, j, f1, f2, f3, f4, ty, o0, on, ol, k4, k3, wf⟩ := (S.nd hk).num W kd
  have b8 := wf.2.2.2.2.2.2.1
  have b16 := wf.2.2.2.2.2.2.2.1
  have wb := wf.2.2.2.2.2.1
  have be := ((BE st f2.1 f2.2).2 j f3.1 f3.2)
  have be1 := be.2.2
  rw [← f1] at b8 b16 wb be1
  by_cases c110 : T 458 (N k 198) = 110
  · have wb := wb c110
    have be1 := be1 c110
    have z := zshl_m (k := T 460 (N k 198)) wb.1 wb.2.2.1 (by omega) hv
    have y := zor_l (zand_l (y := zxor (zshl (zshl 1 (T 459 (N k 198)) - 1) (T 460 (N k 198))) (-1)) (hF (N k 194) o0 (by have := ol; rw [if_neg (by omega)] at this; omega))) z
    intro i i1 i2
    unfold eW
    rw [if_neg (by omega), if_neg (by omega), if_pos c110]
    split
    · exact y
    · exact hF i i1 i2
  · refine eW_b hF c110 (fun z => ?_) fun z => ?_
    · rw [b16 z, show zshl 1 16 = 65536 by decide] at hv
      omega
    · rw [b8 (by omega), show zshl 1 8 = 256 by decide] at hv
      omega
theorem aNn_e {x : Int × Int × Int × List yN} (h : aNodes A = x.2.2.2) : aNn A = yNs x.2.2.2 ∧ aLn A = x.2.2.2.length := by
  unfold aNn aLn
  rw [h]
  exact ⟨rfl, rfl⟩
theorem C123 (h : cR A s) (ok : aOK A) (c : cC A s) : cOut (zf_123 0 j v s) (sSet j v A).1 (sSet j v A).2 s := by
  obtain ⟨u, a1, a2, a3, a4, a5, a6⟩ := C135 (j := j) h ok c
  have hL := aLn_b ok
  unfold zf_123 sSet
  rw [a1]
  by_cases d : 0 ≤ j ∧ j < aLn A
  · have cn := hL.2.2 (by omega)
    obtain ⟨x, x1, x2, x3, x4, x5⟩ := aChosen_x ok cn
    have o := ok.2.2.2.2.2 _ x4
    have H := a3.H a2 ok cn x1
    have W := o.1
    obtain ⟨n1, n2⟩ := aNn_e x2
    rw [← n1, ← n2] at H
    have k2 := a4.2 j d.1 d.2 192 (by decide) (by decide)
    rw [if_pos d, if_pos d, zC_zi]
    unfold zf_139 zf_30
    rw [z27 a4.1, zC_zi, if_pos d, if_neg (show ¬ (1 : Int) = 0 by decide), zn_ok (by omega), k2]
    have kk : (if aNn A j 192 = 2 then zz 1 u else zn j 200 (if aNn A j 192 = 3 then zz 1 u else zn j 200 (if aNn A j 192 = 4 then zz 1 u else zz 0 u))) = zi (if aNn A j 192 = 2 ∨ aNn A j 192 = 3 ∨ aNn A j 192 = 4 then 1 else 0) u := by
      rw [zn_ok (by omega), zn_ok (by omega)]
      by_cases e2 : aNn A j 192 = 2
      · rw [if_pos e2, if_pos (Or.inl e2)]
        rfl
      · by_cases e3 : aNn A j 192 = 3
        · rw [if_neg e2, if_pos e3, if_pos (Or.inr (Or.inl e3))]
          rfl
        · by_cases e4 : aNn A j 192 = 4
          · rw [if_neg e2, if_neg e3, if_pos e4, if_pos (Or.inr (Or.inr e4))]
            rfl
          · rw [if_neg e2, if_neg e3, if_neg e4, if_neg (by omega)]
            rfl
    rw [kk, zC_zi]
    have thr : cOut (zt 1 u) (.inr 1) A s := cEndT a2 a3 a5 a6
    by_cases kd : aNn A j 192 = 2 ∨ aNn A j 192 = 3 ∨ aNn A j 192 = 4
    · obtain ⟨st, i, f1, f2, f3, f4, ty, o0, on, ol, k4, k3, wf⟩ := (H.2.2.nd d).num W kd
      have b8 := wf.2.2.2.2.2.2.1
      have b16 := wf.2.2.2.2.2.2.2.1
      have wb := wf.2.2.2.2.2.1
      rw [← f1] at b8 b16 wb
      have bb : 0 ≤ aCt A 459 (aNn A j 198) ∧ aCt A 459 (aNn A j 198) ≤ 16 := by
        by_cases c1 : aCt A 458 (aNn A j 198) = 110
        · have := wb c1
          unfold aCt
          unfold aCt at c1
          omega
        · unfold aCt
          unfold aCt at c1
          omega
      rw [if_pos kd, if_neg (show ¬ (1 : Int) = 0 by decide), z76 W H d, zC_zi, if_neg f4]
      by_cases r0 : aCt A 467 (aNn A j 198) = 0
      · rw [show (if A.2 (aChosen A).toNat 467 (aNn A j 198) = 0 then zz 1 u else zz 0 u) = zi 1 u from if_pos r0, zC_zi, if_neg (show ¬ (1 : Int) = 0 by decide)]
        by_cases v0 : v < 0
        · rw [if_pos v0, if_neg (fun z => by have := z.2.2.1; omega)]
          exact thr
        · rw [if_neg v0, z83 W H.tb H.2.2 d f4 bb, zC_zi]
          by_cases v1 : v ≤ zshl 1 (aCt A 459 (aNn A j 198)) - 1
          · obtain ⟨y, b1, b2, b3, b4⟩ := C10 a2 ok
            have hT := H.tb.wk b3
            obtain ⟨g1, g2, g3, g4, g5, g6⟩ := b4
            obtain ⟨z, c1, c2, c3⟩ := C11 W hT H.2.2 ok.2.1.1.2 ⟨g2, g5⟩ d kd (v := v)
            have wy : cWk u z := b3.tr c2
            have fz : yFile 2 (eW (aCt A) (aNn A) j v (A.1 2)) (A.1 3 0) z := ⟨by decide, c3.1, g3, g4, c3.2, eW_c W o.2.2.2 H.2.2 g6 d kd ⟨by omega, v1⟩⟩
            obtain ⟨p, q1, q2, q3, q4, q5⟩ := C140 (a2.ef (cEf.wk wy)) ok (a3.ef ok (cEf.wk wy)) cn fz
            have fr : cFr s z := fun f n i f1 f2 => (wy.1 f n i (by omega)).trans (a5 f n i f1 f2)
            have e2 : z.2 = s.2 := wy.2.trans a6
            rw [if_pos (show v ≤ zshl 1 (A.2 (aChosen A).toNat 459 (aNn A j 198)) - 1 from v1), if_pos ⟨kd, r0, by omega, v1⟩, b1, zC_zi, c1, zC_zi, q1]
            cases hr : (sFin A (eW (aCt A) (aNn A) j v (A.1 2)) (A.1 3 0)).1 with
            | inl x => exact ⟨p, rfl, q2, q3, fr.tr q4, by rw [e2] at q5; exact q5⟩
            | inr x => exact ⟨p, rfl, q2, q3, fr.tr q4, by rw [e2] at q5; exact q5⟩
          · rw [if_neg (show ¬ v ≤ zshl 1 (A.2 (aChosen A).toNat 459 (aNn A j 198)) - 1 from v1), if_neg (fun z => v1 z.2.2.2)]
            exact thr
      · rw [show (if A.2 (aChosen A).toNat 467 (aNn A j 198) = 0 then zz 1 u else zz 0 u) = zi 0 u from if_neg r0, zC_zi, if_pos rfl, if_neg (fun z => r0 z.2.1)]
        exact thr
    · rw [if_neg kd, if_pos rfl, show zC (zz 0 u) = zC (zi 0 u) from rfl, zC_zi, if_pos rfl, if_neg (fun z => kd z.1)]
      exact thr
  · rw [if_neg d, if_neg d]
    exact cEndT (e := 2) a2 a3 a5 a6
end
end
