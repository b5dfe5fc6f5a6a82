/-! the class's reader: fields without structures -/
section
variable {r q b : Nat} {T : yT} {B : yB} {n : Int} {E : yE} {st k d f fr pos : Int} {s : zS}
/-- what measuring a field leaves -/
def yMs (r : Nat) (fr pos : Int) (s : zS) (o : Int ⊕ (Int × Int)) : zR := match o with
  | .inl c => zi 0 (zp 326 r 0 pos (zp 325 r 0 c s))
  | .inr x => zi 1 (zp 330 r fr x.2 (zp 329 r fr x.1 s))
theorem C62_107 (R : yRd r q b T B n s) (hf : 0 ≤ f ∧ f < 48) (hr : 0 ≤ fr ∧ fr < 48) (hp : s.1 323 r 0 = pos) {ln v : Int} : zf_62_107 r f fr ln v s = yMs r fr pos s (if T 467 f = 61 ∧ v ≠ T 468 f then .inl 2 else .inr (ln, v)) := by
  have R' := R
  obtain ⟨r1, r2, r3, r4, r5, r6, r7, r8, r9, r10⟩ := R'
  have e145 : zf_62_145 r fr ln v s = zi 1 (zp 330 r fr v (zp 329 r fr ln s)) := by
    unfold zf_62_145
    rw [zW_ok (by omega), zW_ok (by omega)]
    rfl
  unfold zf_62_107
  rw [zO_ok r1 r2, zn_ok (by omega), r5 467 _ (by omega) (by omega), e145]
  by_cases h1 : T 467 f = 61
  · rw [if_pos h1, zO_ok r1 r2, zn_ok (by omega), r5 468 _ (by omega) (by omega)]
    by_cases h2 : v = T 468 f
    · rw [if_pos h2, if_neg (by omega)]
      rfl
    · rw [if_neg h2, if_pos ⟨h1, h2⟩, hp]
      rfl
  · rw [if_neg h1, if_neg (by omega)]
    rfl
theorem C62 (R : yRd r q b T B n s) (hf : 0 ≤ f ∧ f < 48) (hr : 0 ≤ fr ∧ fr < 48) (hp : s.1 323 r 0 = pos) (hp0 : 0 ≤ pos ∧ pos ≤ 1000) (h1 : T 458 f ≠ 115) (h2 : T 458 f ≠ 122) (h3 : T 458 f ≠ 110) (hb : T 459 f = 8 ∨ T 459 f = 16) {V : Int → Int} : zf_62 r f fr s = yMs r fr pos s (yPl T B n V f pos) := by
  have R' := R
  obtain ⟨r1, r2, r3, r4, r5, r6, r7, r8, r9, r10⟩ := R'
  unfold zf_62 yPl
  rw [zO_ok r1 r2, zn_ok (by omega), zB_ok r3 r4, r5 459 _ (by omega) (by omega), r6, hp, if_neg h1, if_neg h2, if_neg h3]
  rcases hb with hb | hb
  · rw [hb, show zdiv 8 8 = 1 by decide, zg_ok ⟨by omega, by omega⟩]
    simp only [show ¬ ((8 : Int) = 16) by decide, if_false]
    by_cases h : pos + 1 ≤ n
    · rw [if_pos h, zB_ok r3 r4, R.get (by omega), zC_zi, if_neg (by decide), if_neg (by omega), C62_107 R hf hr hp]
    · rw [if_neg h, if_pos (by omega)]
      rfl
  · rw [hb, show zdiv 16 8 = 2 by decide, zg_ok ⟨by omega, by omega⟩]
    simp only [if_true]
    by_cases h : pos + 2 ≤ n
    · have g0 := r10 pos (by omega) (by omega)
      have g1 := r10 (pos + 1) (by omega) (by omega)
      rw [if_pos h, zB_ok r3 r4, R.get (by omega), zC_zi, zB_ok r3 r4, hp, zg_ok ⟨by omega, by omega⟩, R.get (by omega), zC_zi, zO_ok r1 r2, zn_ok (by omega), r5 458 _ (by omega) (by omega), if_neg (show ¬ n < pos + 2 by omega), C62_107 R hf hr hp, C62_107 R hf hr hp, zor8 g0 g1, zor8 g1 g0]
      by_cases h6 : T 458 f = 87
      · rw [if_pos h6, if_pos h6]
      · rw [if_neg h6, if_neg h6]
        have e : 256 * B (pos + 1) + B pos = B pos + 256 * B (pos + 1) := by omega
        rw [e]
    · rw [if_neg h, if_pos (by omega)]
      rfl
theorem C63 (R : yRd r q b T B n s) (hf : 0 ≤ f ∧ f < 48) (hr : 0 ≤ fr ∧ fr < 48) (hp : s.1 323 r 0 = pos) (hp0 : 0 ≤ pos ∧ pos ≤ 1000) (h3 : T 458 f = 110) (hb : 1 ≤ T 459 f ∧ T 459 f ≤ 8) {V : Int → Int} : zf_63 r f fr s = yMs r fr pos s (yPl T B n V f pos) := by
  have R' := R
  obtain ⟨r1, r2, r3, r4, r5, r6, r7, r8, r9, r10⟩ := R'
  unfold zf_63 yPl
  rw [zB_ok r3 r4, r6, hp, if_neg (show ¬ T 458 f = 115 by omega), if_neg (show ¬ T 458 f = 122 by omega), if_pos h3]
  by_cases h : pos < n
  · have R2 : yRd r q b T B n (zp 329 r fr 1 s) := R.fr (yfr.rf.pw (by omega))
    have k1 := R2.1
    have k3 := R2.2.2.1
    have k5 := R2.2.2.2.2.1
    rw [if_pos h, zW_ok (by omega), zB_ok k3 r4, show (zp 329 r fr 1 s).1 323 r 0 = pos from hp, R2.get (by omega), zC_zi, zO_ok k1 R2.2.1, zn_ok (by omega), zO_ok k1 R2.2.1, zn_ok (by omega), k5 460 _ (by omega) (by omega), k5 459 _ (by omega) (by omega), z75 (by omega), zC_zi, zW_ok (by omega), if_neg (show ¬ n ≤ pos by omega)]
    rfl
  · rw [if_neg h, if_pos (show n ≤ pos by omega)]
    rfl
theorem C64_62 (R : yRd r q b T B n s) (hr : 0 ≤ fr ∧ fr < 48) (hp : s.1 323 r 0 = pos) (hp0 : 0 ≤ pos ∧ pos ≤ 1000) {ln : Int} (hl : 0 ≤ ln) (hn : ln = 0 ∨ pos + ln ≤ n) : zf_64_62 r fr ln s = yMs r fr pos s (.inr (ln, if ln = 0 then -1 else B pos)) := by
  have R' := R
  obtain ⟨r1, r2, r3, r4, r5, r6, r7, r8, r9, r10⟩ := R'
  have R2 : yRd r q b T B n (zp 329 r fr ln s) := R.fr (yfr.rf.pw (by omega))
  have k3 := R2.2.2.1
  unfold zf_64_62
  rw [zW_ok (by omega)]
  by_cases h : ln = 0
  · rw [if_pos h, if_pos h, zW_ok (by omega)]
    rfl
  · rw [if_neg h, if_neg h, zB_ok k3 r4, show (zp 329 r fr ln s).1 323 r 0 = pos from hp, R2.get (by omega), zC_zi, zW_ok (by omega)]
    rfl
theorem C64 (R : yRd r q b T B n s) (hd : 0 ≤ d ∧ d ≤ 5) (hs : 0 ≤ st ∧ st ≤ 5) (hk : 0 ≤ k ∧ k ≤ 7) (hF : yFr r T E st k d s) (hE : yOkE E k) (W : yWF T st k) (hp : s.1 323 r 0 = pos) (hp0 : 0 ≤ pos ∧ pos ≤ 1000) (h3 : T 458 (8 * st + k) = 115) : zf_64 r (8 * st + k) (8 * d + k) s = yMs r (8 * d + k) pos s (yPl T B n (E 330) (8 * st + k) pos) := by
  have R' := R
  obtain ⟨r1, r2, r3, r4, r5, r6, r7, r8, r9, r10⟩ := R'
  unfold zf_64 yPl
  rw [zrem8 (by omega), show 8 * d + k - (8 * d + k) % 8 = 8 * d by omega, zg_ok ⟨by omega, by omega⟩, C72 R hd hs hk hF hE W (Or.inl h3), zC_zi, if_pos h3]
  have hb := yReckon_b (T := T) (V := E 330) (f := 8 * st + k)
  generalize yReckon T (E 330) (8 * st + k) = ln at hb
  dsimp only
  have e22 : zf_64_22 r s = yMs r (8 * d + k) pos s (.inl 3) := by
    unfold zf_64_22
    rw [hp]
    rfl
  by_cases h4 : ln < 0
  · rw [if_pos h4, if_pos (Or.inl h4), e22]
  · rw [if_neg h4]
    by_cases h5 : ln ≤ 100
    · rw [if_pos h5, if_neg (show ¬ (ln < 0 ∨ 100 < ln) by omega)]
      by_cases h6 : ln ≤ 0
      · rw [if_pos h6, if_neg (show ¬ (0 < ln ∧ n < pos + ln) by omega), C64_62 R (by omega) hp hp0 (by omega) (by omega)]
      · rw [if_neg h6, zB_ok r3 r4, r6, hp, zg_ok ⟨by omega, by omega⟩]
        by_cases h7 : pos + ln ≤ n
        · rw [if_pos h7, if_neg (show ¬ (0 < ln ∧ n < pos + ln) by omega), C64_62 R (by omega) hp hp0 (by omega) (by omega)]
        · rw [if_neg h7, if_pos (show 0 < ln ∧ n < pos + ln by omega)]
          rfl
    · rw [if_neg h5, if_pos (show ln < 0 ∨ 100 < ln by omega), e22]
theorem C65_5 (R : yRd r q b T B n s) (hr : 0 ≤ fr ∧ fr < 48) (hp : s.1 323 r 0 = pos) (hp0 : 0 ≤ pos ∧ pos ≤ 1000) : ∀ (m N : Nat) (j : Int), m < N → pos ≤ j → (m = 0 → n ≤ j) → (m ≠ 0 → j + m = n) → zf_65_5 N r fr j s = yMs r fr pos s (match yZ B n m j with | some z => .inr (z + 1 - pos, B pos) | none => .inl 1) := by
  have R' := R
  obtain ⟨r1, r2, r3, r4, r5, r6, r7, r8, r9, r10⟩ := R'
  intro m
  induction m with
  | zero =>
    intro N j hN h1 h2 h3
    obtain ⟨N, rfl⟩ : ∃ M, N = M + 1 := ⟨N - 1, by omega⟩
    unfold zf_65_5 yZ
    rw [zB_ok r3 r4, r6, if_pos (h2 rfl), hp]
    rfl
  | succ m ih =>
    intro N j hN h1 h2 h3
    have h3 := h3 (by omega)
    obtain ⟨N, rfl⟩ : ∃ M, N = M + 1 := ⟨N - 1, by omega⟩
    unfold zf_65_5 yZ
    rw [zB_ok r3 r4, r6, if_neg (by omega), zB_ok r3 r4, R.get (by omega), zC_zi]
    by_cases h4 : B j = 0
    · have R2 : yRd r q b T B n (zp 329 r fr (j + 1 - pos) s) := R.fr (yfr.rf.pw (by omega))
      have k3 := R2.2.2.1
      rw [if_pos h4, if_pos h4, zg_ok ⟨by omega, by omega⟩, hp, zg_ok ⟨by omega, by omega⟩, zW_ok (by omega), zB_ok k3 r4, show (zp 329 r fr (j + 1 - pos) s).1 323 r 0 = pos from hp, R2.get (by omega), zC_zi, zW_ok (by omega)]
      rfl
    · rw [if_neg h4, if_neg h4, zg_ok ⟨by omega, by omega⟩]
      exact ih N (j + 1) (by omega) (by omega) (by omega) (by omega)
theorem C65 (R : yRd r q b T B n s) (hr : 0 ≤ fr ∧ fr < 48) (hp : s.1 323 r 0 = pos) (hp0 : 0 ≤ pos ∧ pos ≤ 1000) (h3 : T 458 f = 122) {V : Int → Int} : zf_65 r fr s = yMs r fr pos s (yPl T B n V f pos) := by
  have R' := R
  obtain ⟨r1, r2, r3, r4, r5, r6, r7, r8, r9, r10⟩ := R'
  unfold zf_65 yPl
  rw [hp, if_neg (show ¬ T 458 f = 115 by omega), if_pos h3]
  have a := C65_5 R hr hp hp0 (n - pos).toNat xfu pos (Nat.lt_of_lt_of_le (show _ < 161 by omega) (by decide)) (by omega) (by omega) (by omega)
  rw [a]
  cases yZ B n (n - pos).toNat pos <;> rfl
end
