/-! the reference's machine: numbers and bits -/
section
variable {t n : Int} {T : yT} {B : yB} {E : yE} {K J pos made cnt st k me dd g ln v bt : Int} {s u w : zS}
/-- behind a number: what is known of it, and on -/
theorem M185_231 {ty : Int} (hc : s.1 610 0 0 = cnt + 1) (hp : s.1 607 0 0 = pos) (hk : s.1 624 0 K = k) (hb : s.1 625 0 K = bt) (hc0 : 0 ≤ cnt ∧ cnt < 200) (hp0 : 0 ≤ pos ∧ pos ≤ 1000) (hk0 : 0 ≤ k ∧ k ≤ 7) (hK : 0 ≤ K ∧ K < 50) (hl : 0 ≤ ln ∧ ln ≤ 200) : zf_185_231 0 K ty ln v s = zi 0 (zp 624 0 K (k + 1) (zp 625 0 K (if bt = 8 then 0 else bt) (zp 607 0 0 (pos + (if ty = 110 ∧ bt < 8 then 0 else ln)) (zp 630 0 (8 * K + k) v (zp 616 0 cnt v (zp 615 0 cnt ln s)))))) := by
  have e303 : ∀ (x : Int) (r : zS), 0 ≤ x ∧ x ≤ 200 → r.1 625 0 K = bt → r.1 624 0 K = k → zf_185_303 0 K 0 pos x r = zi 0 (zp 624 0 K (k + 1) (zp 625 0 K (if bt = 8 then 0 else bt) (zp 607 0 0 (pos + x) r))) := by
    intro x r hx h5 h4
    have e333 : ∀ y : Int, zf_185_333 0 K 0 K y (zp 607 0 0 (pos + x) r) = zi 0 (zp 624 0 K (k + 1) (zp 625 0 K y (zp 607 0 0 (pos + x) r))) := by
      intro y
      unfold zf_185_333
      rw [zW_ok (by omega), zn_ok (by omega), show (zp 625 0 K y (zp 607 0 0 (pos + x) r)).1 624 0 K = k by rw [zp_nn (by omega), zp_nn (by omega)]; exact h4, zg_ok ⟨by omega, by omega⟩, zW_ok (by omega)]
    unfold zf_185_303
    rw [zg_ok ⟨by omega, by omega⟩, zP_ok, zn_ok (by omega), show (zp 607 0 0 (pos + x) r).1 625 0 K = bt by rw [zp_nn (by omega)]; exact h5]
    by_cases h8 : bt = 8
    · rw [if_pos h8, if_pos h8, e333]
    · rw [if_neg h8, if_neg h8, zn_ok (by omega), e333]
  unfold zf_185_231
  rw [hc, zg_ok ⟨by omega, by omega⟩, show cnt + 1 - 1 = cnt by omega, zW_ok (by omega), show (zp 615 0 cnt ln s).1 610 0 0 = cnt + 1 from (zp_nn (by omega)).trans hc, zg_ok ⟨by omega, by omega⟩, show cnt + 1 - 1 = cnt by omega, zW_ok (by omega), zn_ok (by omega), zg_ok ⟨by omega, by omega⟩, show (zp 616 0 cnt v (zp 615 0 cnt ln s)).1 624 0 K = k by rw [zp_nn (by omega), zp_nn (by omega)]; exact hk, zg_ok ⟨by omega, by omega⟩, zW_ok (by omega)]
  have a5 : (zp 630 0 (8 * K + k) v (zp 616 0 cnt v (zp 615 0 cnt ln s))).1 625 0 K = bt := by rw [zp_nn (by omega), zp_nn (by omega), zp_nn (by omega)]; exact hb
  have a7 : (zp 630 0 (8 * K + k) v (zp 616 0 cnt v (zp 615 0 cnt ln s))).1 607 0 0 = pos := by rw [zp_nn (by omega), zp_nn (by omega), zp_nn (by omega)]; exact hp
  have a4 : (zp 630 0 (8 * K + k) v (zp 616 0 cnt v (zp 615 0 cnt ln s))).1 624 0 K = k := by rw [zp_nn (by omega), zp_nn (by omega), zp_nn (by omega)]; exact hk
  by_cases h1 : ty = 110
  · rw [if_pos h1, zn_ok (by omega), a5, a7]
    by_cases h8 : 8 ≤ bt
    · rw [if_pos h8, if_neg (show ¬ (ty = 110 ∧ bt < 8) by omega), e303 ln _ hl a5 a4]
    · rw [if_neg h8, if_pos (show ty = 110 ∧ bt < 8 by omega), e303 0 _ (by omega) a5 a4]
  · rw [if_neg h1, a7, if_neg (show ¬ (ty = 110 ∧ bt < 8) by omega), e303 ln _ hl a5 a4]
/-- what a number or bits leave, where there is no fault -/
def mVal (K k cnt pos bt ln v ty : Int) (s : zS) : zS := zp 624 0 K (k + 1) (zp 625 0 K (if bt = 8 then 0 else bt) (zp 607 0 0 (pos + (if ty = 110 ∧ bt < 8 then 0 else ln)) (zp 630 0 (8 * K + k) v (zp 616 0 cnt v (zp 615 0 cnt ln s)))))
theorem M185 {f b0 : Int} (W : yWF T st k) (R : mRelF t T st k s) (hf : f = 8 * st + k) (hg : g = 48 * t + (8 * st + k)) (ht : 0 ≤ t ∧ t ≤ 3) (hst : 0 ≤ st ∧ st ≤ 5) (hc : s.1 610 0 0 = cnt + 1) (hp : s.1 607 0 0 = pos) (hk : s.1 624 0 K = k) (hb : s.1 625 0 K = b0) (hb0 : b0 = yBit T st k.toNat) (hn : s.1 594 0 0 = n) (hB : ∀ i, 0 ≤ i → i < n → s.1 595 0 i = B i) (hB2 : ∀ i, 0 ≤ i → i < n → 0 ≤ B i ∧ B i ≤ 255) (hn6 : 0 ≤ n ∧ n ≤ 160) (hc0 : 0 ≤ cnt ∧ cnt < 200) (hp0 : 0 ≤ pos ∧ pos ≤ 1000) (hk0 : 0 ≤ k ∧ k ≤ 7) (hK : 0 ≤ K ∧ K < 50) (h65 : T 458 f ≠ 65) (h91 : T 458 f ≠ 91) (h115 : T 458 f ≠ 115) (h122 : T 458 f ≠ 122) {V : Int → Int} : match yPl T B n V f pos with
    | .inl c => ∃ s', (s' = s ∨ s' = zp 619 0 cnt b0 s) ∧ ∀ w, zf_177 0 c pos s' = zi 0 w → zf_185 0 g K s = zi 0 w
    | .inr x => ∃ s', (s' = zp 619 0 cnt b0 s ∨ s' = zp 625 0 K (b0 + T 459 f) (zp 619 0 cnt b0 s)) ∧ zf_185 0 g K s = zi 0 (mVal K k cnt pos (if T 458 f = 110 then b0 + T 459 f else b0) x.1 x.2 (T 458 f) s') := by
  obtain ⟨q1, q2, q3, q4, q5, q6, q7, q8, q9, q10, q11, q12, q13⟩ := R
  have hbits := W.2.2.2.2.2
  have w1 := W.1
  subst hf
  subst hg
  have q3 := q3 h65 h91
  clear q8 q9 q10 q11 q12 q4 q2
  have e199 : ∀ (ln x : Int) (r : zS), (0 ≤ ln ∧ ln ≤ 200) → r = zp 619 0 cnt b0 s → T 458 (8 * st + k) ≠ 110 → (T 467 (8 * st + k) = 61 ∧ x ≠ T 468 (8 * st + k) → ∀ w, zf_177 0 2 pos r = zi 0 w → zf_185_199 0 (48 * t + (8 * st + k)) K (T 458 (8 * st + k)) ln x r = zi 0 w) ∧ (¬ (T 467 (8 * st + k) = 61 ∧ x ≠ T 468 (8 * st + k)) → zf_185_199 0 (48 * t + (8 * st + k)) K (T 458 (8 * st + k)) ln x r = zi 0 (mVal K k cnt pos b0 ln x (T 458 (8 * st + k)) r)) := by
    intro ln x r hl hr h110
    have a1 : r.1 592 0 (48 * t + (8 * st + k)) = if T 467 (8 * st + k) = 61 then 73 else T 467 (8 * st + k) := by rw [hr, zp_nn (by omega)]; exact q6
    have a2 : T 467 (8 * st + k) ≠ 0 → r.1 593 0 (48 * t + (8 * st + k)) = if T 467 (8 * st + k) = 61 then T 468 (8 * st + k) else T 468 (8 * st + k) - 8 * st := by intro h; rw [hr, zp_nn (by omega)]; exact q7 h
    have a3 : r.1 607 0 0 = pos := by rw [hr, zp_nn (by omega)]; exact hp
    have e231 := M185_231 (s := r) (bt := b0) (ty := T 458 (8 * st + k)) (v := x) (by rw [hr, zp_nn (by omega)]; exact hc) a3 (by rw [hr, zp_nn (by omega)]; exact hk) (by rw [hr, zp_nn (by omega)]; exact hb) hc0 hp0 hk0 hK hl
    have w73 : T 467 (8 * st + k) ≠ 73 := by
      have w9 := hbits.2.2.2
      rcases w9 with h | ⟨-, h | ⟨h, -⟩⟩
      · rw [h]; decide
      · rw [h]; decide
      · rcases h with h | h | h | h <;> rw [h] <;> decide
    unfold zf_185_199
    rw [zn_ok (by omega), a1]
    by_cases h61 : T 467 (8 * st + k) = 61
    · rw [if_pos h61, if_pos rfl, zn_ok (by omega), a2 (by omega), if_pos h61]
      constructor
      · intro h w hw
        rw [if_neg h.2, a3, hw, zC_zi]
      · intro h
        rw [if_pos (show x = T 468 (8 * st + k) by omega)]
        exact e231
    · rw [if_neg h61, if_neg w73]
      exact ⟨fun h => absurd h.1 h61, fun _ => e231⟩
  have h1616 : T 458 (8 * st + k) = 119 ∨ T 458 (8 * st + k) = 87 → T 459 (8 * st + k) = 16 := hbits.2.2.1
  have h88 : T 458 (8 * st + k) = 98 ∨ T 458 (8 * st + k) = 114 → T 459 (8 * st + k) = 8 := hbits.2.1
  have hnb := hbits.1
  have e185 : zf_185 0 (48 * t + (8 * st + k)) K s = zf_185_24 0 (48 * t + (8 * st + k)) K (T 458 (8 * st + k)) (if T 459 (8 * st + k) = 16 then 2 else 1) s := by
    unfold zf_185
    rw [zn_ok (by omega), q3]
    by_cases g1 : T 458 (8 * st + k) = 119
    · rw [if_pos g1, if_pos (h1616 (Or.inl g1))]
    · rw [if_neg g1]
      by_cases g2 : T 458 (8 * st + k) = 87
      · rw [if_pos g2, if_pos (h1616 (Or.inr g2))]
      · rw [if_neg g2, if_neg (show ¬ T 459 (8 * st + k) = 16 by
          by_cases g3 : T 458 (8 * st + k) = 110
          · have := hnb g3
            omega
          · have := h88 (by omega)
            omega)]
  rw [e185]
  clear e185
  have eP : pos + 1 ≤ n → s.1 595 0 pos = B pos := fun h => hB pos hp0.1 (by omega)
  by_cases h110 : T 458 (8 * st + k) = 110
  · obtain ⟨c1, c2, c3⟩ := q5 h110
    have c4 := hbits.1 h110
    rw [if_neg (show ¬ T 459 (8 * st + k) = 16 by omega)]
    unfold yPl
    rw [if_neg h115, if_neg h122, if_pos h110]
    unfold zf_185_24
    rw [hp, hn, zg_ok ⟨by omega, by omega⟩]
    by_cases h1 : n ≤ pos
    · rw [if_pos h1, if_neg (by omega)]
      dsimp only
      exact ⟨s, Or.inl rfl, fun w hw => by rw [hw, zC_zi]⟩
    · rw [if_neg h1, if_pos (by omega), if_neg (by omega), if_neg (by omega), zn_ok (by omega), eP (by omega)]
      dsimp only
      refine ⟨_, Or.inr rfl, ?_⟩
      unfold zf_185_127
      have d1 : (zp 619 0 cnt b0 s).1 625 0 K = b0 := (zp_nn (by omega)).trans hb
      have d2 : (zp 619 0 cnt b0 s).1 589 0 (48 * t + (8 * st + k)) = T 459 (8 * st + k) := (zp_nn (by omega)).trans c1
      have hs := zshl1_le (k := T 459 (8 * st + k)) (by omega)
      rw [zn_ok (by omega), hc, hb, zg_ok ⟨by omega, by omega⟩, show cnt + 1 - 1 = cnt by omega, zW_ok (by omega), if_pos h110, zn_ok (by omega), zn_ok (by omega), zn_ok (by omega), zn_ok (by omega), zn_ok (by omega), d1, d2, zg_ok ⟨by omega, by omega⟩, zW_ok (by omega), zg_ok ⟨by omega, by omega⟩, zg_ok ⟨by omega, by omega⟩, zg_ok ⟨by omega, by omega⟩, show 8 - b0 - T 459 (8 * st + k) = T 460 (8 * st + k) by omega, if_pos h110]
      have r0 : T 467 (8 * st + k) = 0 := by
        have w9 := hbits.2.2.2
        rcases w9 with h | ⟨h, -⟩
        · exact h
        · omega
      unfold zf_185_199
      rw [zn_ok (by omega), show (zp 625 0 K (b0 + T 459 (8 * st + k)) (zp 619 0 cnt b0 s)).1 592 0 (48 * t + (8 * st + k)) = 0 by rw [zp_nn (by omega), zp_nn (by omega), q6, if_neg (by omega), r0], if_neg (by decide)]
      exact M185_231 (by rw [zp_nn (by omega), zp_nn (by omega)]; exact hc) (by rw [zp_nn (by omega), zp_nn (by omega)]; exact hp) (by rw [zp_nn (by omega), zp_nn (by omega)]; exact hk) zp_eq hc0 hp0 hk0 hK (by omega)
  · have e127 : ∀ (ln x : Int), (0 ≤ ln ∧ ln ≤ 200) → zf_185_127 0 (48 * t + (8 * st + k)) K (T 458 (8 * st + k)) ln x s = zf_185_199 0 (48 * t + (8 * st + k)) K (T 458 (8 * st + k)) ln x (zp 619 0 cnt b0 s) := by
      intro ln x hl
      unfold zf_185_127
      rw [zn_ok (by omega), hc, hb, zg_ok ⟨by omega, by omega⟩, show cnt + 1 - 1 = cnt by omega, zW_ok (by omega), if_neg h110]
    have fin : ∀ (ln x : Int), (0 ≤ ln ∧ ln ≤ 200) → match (if T 467 (8 * st + k) = 61 ∧ x ≠ T 468 (8 * st + k) then (.inl 2 : Int ⊕ (Int × Int)) else .inr (ln, x)) with
    | .inl c => ∃ s', (s' = s ∨ s' = zp 619 0 cnt b0 s) ∧ ∀ w, zf_177 0 c pos s' = zi 0 w → zf_185_127 0 (48 * t + (8 * st + k)) K (T 458 (8 * st + k)) ln x s = zi 0 w
    | .inr x' => ∃ s', (s' = zp 619 0 cnt b0 s ∨ s' = zp 625 0 K (b0 + T 459 (8 * st + k)) (zp 619 0 cnt b0 s)) ∧ zf_185_127 0 (48 * t + (8 * st + k)) K (T 458 (8 * st + k)) ln x s = zi 0 (mVal K k cnt pos (if T 458 (8 * st + k) = 110 then b0 + T 459 (8 * st + k) else b0) x'.1 x'.2 (T 458 (8 * st + k)) s') := by
      intro ln x hl
      rw [e127 ln x hl]
      have a := e199 ln x _ hl rfl h110
      by_cases h : T 467 (8 * st + k) = 61 ∧ x ≠ T 468 (8 * st + k)
      · rw [if_pos h]
        exact ⟨_, Or.inr rfl, a.1 h⟩
      · rw [if_neg h]
        refine ⟨_, Or.inl rfl, ?_⟩
        rw [if_neg h110]
        exact a.2 h
    have out : ∀ ln : Int, (0 ≤ ln ∧ ln ≤ 200) → ¬ pos + ln ≤ n → ∃ s', (s' = s ∨ s' = zp 619 0 cnt b0 s) ∧ ∀ w, zf_177 0 1 pos s' = zi 0 w → zf_185_24 0 (48 * t + (8 * st + k)) K (T 458 (8 * st + k)) ln s = zi 0 w := by
      intro ln hl h
      refine ⟨s, Or.inl rfl, fun w hw => ?_⟩
      unfold zf_185_24
      rw [hp, hn, zg_ok ⟨by omega, by omega⟩, if_neg h, hw, zC_zi]
    unfold yPl
    rw [if_neg h115, if_neg h122, if_neg h110]
    clear hbits q5 q6 q7 e199 e127 hnb
    by_cases h16 : T 459 (8 * st + k) = 16
    · have hw : T 458 (8 * st + k) = 119 ∨ T 458 (8 * st + k) = 87 := by
        by_cases g1 : T 458 (8 * st + k) = 98 ∨ T 458 (8 * st + k) = 114
        · have := h88 g1
          omega
        · omega
      clear h1616 h88 w1
      simp only [if_pos h16]
      by_cases hl : pos + 2 ≤ n
      · have b1 := hB2 pos hp0.1 (by omega)
        have b2 := hB2 (pos + 1) (by omega) (by omega)
        have c1 := hB (pos + 1) (by omega) (by omega)
        rw [if_neg (show ¬ n < pos + 2 by omega)]
        unfold zf_185_24
        rw [hp, hn, zg_ok ⟨by omega, by omega⟩, if_pos hl]
        by_cases h119 : T 458 (8 * st + k) = 119
        · rw [if_pos h119, zn_ok (by omega), zg_ok ⟨by omega, by omega⟩, zn_ok (by omega), c1, eP (by omega), zg_ok ⟨by omega, by omega⟩, zg_ok ⟨by omega, by omega⟩]
          simp only [if_neg (show ¬ T 458 (8 * st + k) = 87 by omega)]
          exact fin 2 (B pos + 256 * B (pos + 1)) (by omega)
        · have h87 : T 458 (8 * st + k) = 87 := by omega
          rw [if_neg h119, if_pos h87, zn_ok (by omega), zg_ok ⟨by omega, by omega⟩, zn_ok (by omega), c1, eP (by omega), zg_ok ⟨by omega, by omega⟩, zg_ok ⟨by omega, by omega⟩]
          simp only [if_pos h87]
          exact fin 2 (256 * B pos + B (pos + 1)) (by omega)
      · rw [if_pos (show n < pos + 2 by omega)]
        exact out 2 (by omega) hl
    · have hw : ¬ (T 458 (8 * st + k) = 119 ∨ T 458 (8 * st + k) = 87) := fun h => h16 (h1616 h)
      clear h1616 h88 w1
      simp only [if_neg h16]
      by_cases hl : pos + 1 ≤ n
      · rw [if_neg (show ¬ n < pos + 1 by omega)]
        unfold zf_185_24
        rw [hp, hn, zg_ok ⟨by omega, by omega⟩, if_pos hl, if_neg (show ¬ T 458 (8 * st + k) = 119 by omega), if_neg (show ¬ T 458 (8 * st + k) = 87 by omega), zn_ok (by omega), eP hl]
        exact fin 1 _ (by omega)
      · rw [if_pos (show n < pos + 1 by omega)]
        exact out 1 (by omega) hl
end
