section
/-! edits: wrong lengths and counts are mended -/
/-- whether node k is a length or a count that is not as it should be -/
def eMw (T : yT) (B : yB) (N : Int → yN) (L k : Int) : Int := if (N k 198 ≠ -1 ∧ (T 467 (N k 198) = 35 ∨ T 467 (N k 198) = 37)) ∧ N k 196 ≠ yDu T B N L k then 1 else 0
/-- the bytes F behind the mending, from node k on -/
def eMd (T : yT) (B : yB) (N : Int → yN) (L : Int) : Nat → Int → yB → yB
  | 0, _, F => F
  | m + 1, k, F => eMd T B N L m (k + 1) (if eMw T B N L k = 1 then eW T N k (yDu T B N L k) F else F)
section
variable {T : yT} {B C F G : yB} {n L w : Int} {N : Int → yN} {s u : zS} {r q : Nat} {t k v : Int}
theorem zshr8 {v : Int} (h : 0 ≤ v ∧ v ≤ 65535) : 0 ≤ zshr v 8 ∧ zshr v 8 ≤ 255 := by
  have e : zshr v 8 = v / 256 := by
    unfold zshr
    show ((Int32.ofInt v).toBitVec.sshiftRight' ((Int32.ofInt 8 &&& 31).toBitVec.smod 32)).toInt = _
    rw [show ((Int32.ofInt 8 &&& 31).toBitVec.smod 32) = 8#32 by decide, zbv (by omega) (by omega)]
    show ((BitVec.ofNat 32 v.toNat).sshiftRight 8).toInt = _
    rw [BitVec.toInt_sshiftRight, BitVec.toInt_eq_toNat_of_lt (by rw [BitVec.toNat_ofNat]; omega), BitVec.toNat_ofNat, Int.shiftRight_eq_div_pow]
    omega
  omega
theorem zand255 {v : Int} : 0 ≤ zand v 255 ∧ zand v 255 ≤ 255 := by
  have h := zand_m (x := v) (k := 8) (by decide)
  have e : zshl 1 8 = 256 := by decide
  rw [e, show (256 : Int) - 1 = 255 by decide] at h
  exact ⟨h.1, by have := h.2; omega⟩
theorem eW_b (hF : ∀ i, 0 ≤ i → i < n → 0 ≤ F i ∧ F i ≤ 255) (h1 : T 458 (N k 198) ≠ 110) (h2 : T 458 (N k 198) = 119 ∨ T 458 (N k 198) = 87 → 0 ≤ v ∧ v ≤ 65535) (h3 : ¬ (T 458 (N k 198) = 119 ∨ T 458 (N k 198) = 87) → 0 ≤ v ∧ v ≤ 255) : ∀ i, 0 ≤ i → i < n → 0 ≤ eW T N k v F i ∧ eW T N k v F i ≤ 255 := fun i i1 i2 => by
  have f := hF i i1 i2
  have z := zand255 (v := v)
  unfold eW
  by_cases c1 : T 458 (N k 198) = 119
  · have z2 := zshr8 (h2 (Or.inl c1))
    rw [if_pos c1]
    split
    · exact z2
    · split
      · exact z
      · exact f
  · rw [if_neg c1]
    by_cases c2 : T 458 (N k 198) = 87
    · have z2 := zshr8 (h2 (Or.inr c2))
      rw [if_pos c2]
      split
      · exact z
      · split
        · exact z2
        · exact f
    · rw [if_neg c2, if_neg h1]
      split
      · exact h3 (by omega)
      · exact f
theorem yDu_c (h : T 467 (N k 198) = 35 ∨ T 467 (N k 198) = 37) : yDu T C N L k = yDu T B N L k := by
  unfold yDu yDue
  rcases h with h | h
  · rw [if_pos h, if_pos h]
  · have h' : ¬ T 467 (N k 198) = 35 := by omega
    rw [if_neg h', if_neg h', if_pos h, if_pos h]
theorem yDu_b (W : yWT T) (S : ySh T B n N L w) (hk : 0 ≤ k ∧ k < L) (R : yRl T (N k 198)) : (T 458 (N k 198) = 119 ∨ T 458 (N k 198) = 87 → 0 ≤ yDu T C N L k ∧ yDu T C N L k ≤ 65535) ∧ (¬ (T 458 (N k 198) = 119 ∨ T 458 (N k 198) = 87) → 0 ≤ yDu T C N L k ∧ yDu T C N L k ≤ 255) ∧ T 458 (N k 198) ≠ 110 ∧ N k 192 = 2 := by
  obtain ⟨b, -, -, -, -, ty⟩ := yNd_rel W (S.nd hk) R
  rcases (S.nd hk).2 with z | ⟨st, j, h1, h2, h3, h⟩
  · exact absurd z.1 R.1
  · have wf := (W.2.2 st h2.1 h2.2).2.2 j h3.1 h3.2
    have c8 := wf.2.2.2.2.2.2.1
    have c16 := wf.2.2.2.2.2.2.2.1
    rw [← h1] at c8 c16
    have k2 : N k 192 = 2 := by
      rcases h with h | h | ⟨a1, a2, a3, -⟩
      · omega
      · omega
      · rw [a3]
        rcases ty with z | z | z <;> rw [z] <;> rfl
    refine ⟨fun z => ?_, fun z => ?_, by omega, k2⟩
    · have m := zand_m (x := yDue C (T 467 (N k 198)) (N (yTg T N L k) 194) (N (yTg T N L k) 195) (N (yTg T N L k) 196)) (k := 16) (by decide)
      have e : zshl 1 16 = 65536 := by decide
      unfold yDu yCut
      rw [c16 z, e]
      rw [e] at m
      omega
    · have m := zand_m (x := yDue C (T 467 (N k 198)) (N (yTg T N L k) 194) (N (yTg T N L k) 195) (N (yTg T N L k) 196)) (k := 8) (by decide)
      have e : zshl 1 8 = 256 := by decide
      unfold yDu yCut
      rw [c8 (by omega), e]
      rw [e] at m
      omega
theorem eMw_1 : eMw T B N L k = 1 ↔ (N k 198 ≠ -1 ∧ (T 467 (N k 198) = 35 ∨ T 467 (N k 198) = 37)) ∧ N k 196 ≠ yDu T B N L k := by
  unfold eMw
  split
  · rename_i h
    exact ⟨fun _ => h, fun _ => rfl⟩
  · rename_i h
    exact ⟨fun z => absurd z (by decide), fun z => absurd z h⟩
theorem eMw_b : 0 ≤ eMw T B N L k ∧ eMw T B N L k ≤ 1 := by
  unfold eMw
  split <;> decide
/-- the bytes stay bytes -/
theorem eMw_w (W : yWT T) (S : ySh T B n N L w) (hk : 0 ≤ k ∧ k < L) (z : eMw T B N L k = 1) (hF : ∀ i, 0 ≤ i → i < n → 0 ≤ F i ∧ F i ≤ 255) : (N k 192 = 2 ∧ yRl T (N k 198)) ∧ ∀ i, 0 ≤ i → i < n → 0 ≤ eW T N k (yDu T B N L k) F i ∧ eW T N k (yDu T B N L k) F i ≤ 255 := by
  obtain ⟨⟨z1, z2⟩, z3⟩ := eMw_1.mp z
  have R : yRl T (N k 198) := ⟨z1, by omega, by omega⟩
  obtain ⟨d1, d2, d3, d4⟩ := yDu_b (C := B) W S hk R
  exact ⟨⟨d4, R⟩, eW_b hF d3 d1 d2⟩
theorem cHo.wr (H : cHo r q 2 T B F n N L w s) (a : cWk s u) (b : cBy 2 G n u) (g : ∀ i, 0 ≤ i → i < n → 0 ≤ G i ∧ G i ≤ 255) : cHo r q 2 T B G n N L w u := by
  have hb := H.tb.wk a
  obtain ⟨⟨h1, h2, h3, h4, h5, h6, h7, h8, h9, h10⟩, hN, S⟩ := H
  exact ⟨⟨hb.1, hb.2.1, (a.1 322 r 0 (by omega)).trans h3, h4, hb.2.2.1, b.1, h7, h8, b.2, g⟩, hb.2.2.2, S⟩
theorem cHo.by (H : cHo r q 2 T B F n N L w s) : cBy 2 F n s := ⟨H.1.2.2.2.2.2.1, H.1.2.2.2.2.2.2.2.2.1⟩
theorem C16_4 (W : yWT T) : ∀ (m M : Nat) (x i : Int) (F : yB) (s : zS), m < M → (m : Int) = L - i → 0 ≤ i → 0 ≤ x → x ≤ i → cHo r q 2 T B F n N L w s → ∃ u, zf_16_4 M 0 r x i s = zi (x + ySm (eMw T B N L) m i) u ∧ cWk s u ∧ cHo r q 2 T B (eMd T B N L m i F) n N L w u := by
  intro m
  induction m with
  | zero =>
    intro M x i F s hM hm i0 x0 xi H
    obtain ⟨M, rfl⟩ : ∃ L, M = L + 1 := ⟨M - 1, by omega⟩
    unfold zf_16_4
    rw [H.2.1.1, if_pos (by omega)]
    exact ⟨s, by show zi x s = zi (x + 0) s; rw [Int.add_zero], cWk.rf, H⟩
  | succ m ih =>
    intro M x i F s hM hm i0 x0 xi H
    obtain ⟨M, rfl⟩ : ∃ L, M = L + 1 := ⟨M - 1, by omega⟩
    have S := H.2.2
    have hL := S.1
    have hi : 0 ≤ i ∧ i < L := ⟨i0, by omega⟩
    have e6 := H.2.1.2 i hi.1 hi.2 196 (by decide) (by decide)
    unfold zf_16_4
    rw [H.2.1.1, if_neg (by omega), z76 W H hi, zC_zi, C78 W H hi, zC_zi]
    show ∃ u, _ = zi (x + (eMw T B N L i + ySm _ m (i + 1))) u ∧ cWk s u ∧ cHo r q 2 T B (eMd T B N L m (i + 1) (if eMw T B N L i = 1 then eW T N i (yDu T B N L i) F else F)) n N L w u
    by_cases c : N i 198 ≠ -1 ∧ (T 467 (N i 198) = 35 ∨ T 467 (N i 198) = 37)
    · have R : yRl T (N i 198) := ⟨c.1, by omega, by omega⟩
      rw [if_neg c.1, if_pos R, yDu_c (B := B) c.2]
      have two : ∀ Z : zR, (if T 467 (N i 198) = 35 then zf_16_43 (fun y0 y1 y2 y3 y => zf_16_4 M y0 y1 y2 y3 y) 0 r x i (yDu T B N L i) s else (if T 467 (N i 198) = 37 then zf_16_43 (fun y0 y1 y2 y3 y => zf_16_4 M y0 y1 y2 y3 y) 0 r x i (yDu T B N L i) s else Z)) = zf_16_43 (fun y0 y1 y2 y3 y => zf_16_4 M y0 y1 y2 y3 y) 0 r x i (yDu T B N L i) s := fun Z => by
        rcases c.2 with z | z
        · rw [if_pos z]
        · rw [if_neg (by omega), if_pos z]
      rw [two]
      unfold zf_16_43
      rw [zn_ok (by omega), e6]
      by_cases d : N i 196 = yDu T B N L i
      · have e : eMw T B N L i = 0 := by
          have := mt (eMw_1 (T := T) (B := B) (N := N) (L := L) (k := i)).mp fun z => z.2 d
          have := eMw_b (T := T) (B := B) (N := N) (L := L) (k := i)
          omega
        rw [if_pos d, zg_ok ⟨by omega, by omega⟩, if_neg (by omega), e, Int.zero_add]
        exact ih M x (i + 1) F s (by omega) (by omega) (by omega) x0 (by omega) H
      · have e : eMw T B N L i = 1 := eMw_1.mpr ⟨c, d⟩
        obtain ⟨⟨k2, -⟩, g⟩ := eMw_w W S hi e H.1.2.2.2.2.2.2.2.2.2
        obtain ⟨u1, a1, a2, a3⟩ := C11 W H.tb S H.1.2.2.2.2.2.2.2.1 H.by hi (Or.inl k2) (v := yDu T B N L i)
        obtain ⟨u2, b1, b2, b3⟩ := ih M (x + 1) (i + 1) _ u1 (by omega) (by omega) (by omega) (by omega) (by omega) (H.wr a2 a3 g)
        rw [if_neg d, a1, zC_zi, zg_ok ⟨by omega, by omega⟩, zg_ok ⟨by omega, by omega⟩, if_pos e, e]
        exact ⟨u2, by show zf_16_4 M 0 r (x + 1) (i + 1) u1 = _; rw [b1]; congr 1; omega, a2.tr b2, b3⟩
    · have e : eMw T B N L i = 0 := by
        have := mt (eMw_1 (T := T) (B := B) (N := N) (L := L) (k := i)).mp fun z => c z.1
        have := eMw_b (T := T) (B := B) (N := N) (L := L) (k := i)
        omega
      have c1 : ¬ (if N i 198 = -1 then (0 : Int) else T 467 (N i 198)) = 35 := by
        split
        · decide
        · exact fun z => c ⟨by assumption, Or.inl z⟩
      have c2 : ¬ (if N i 198 = -1 then (0 : Int) else T 467 (N i 198)) = 37 := by
        split
        · decide
        · exact fun z => c ⟨by assumption, Or.inr z⟩
      rw [if_neg c1, if_neg c2, zg_ok ⟨by omega, by omega⟩, if_neg (show ¬ eMw T B N L i = 1 by omega), e, Int.zero_add]
      exact ih M x (i + 1) F s (by omega) (by omega) (by omega) x0 (by omega) H
/-- how many are mended -/
def eMc (T : yT) (B : yB) (N : Int → yN) (L : Int) : Int := ySm (eMw T B N L) L.toNat 0
theorem C16 (W : yWT T) (H : cHo r q 2 T B B n N L w s) : ∃ u, zf_16 0 r s = zi (eMc T B N L) u ∧ cWk s u ∧ cHo r q 2 T B (eMd T B N L L.toNat 0 B) n N L w u := by
  have hL := H.2.2.1
  obtain ⟨u, a1, a2, a3⟩ := C16_4 W L.toNat xfu 0 0 B s (pa_fu (by omega)) (by omega) (by decide) (by decide) (by decide) H
  unfold zf_16 eMc
  exact ⟨u, by rw [a1, Int.zero_add], a2, a3⟩
end
end
