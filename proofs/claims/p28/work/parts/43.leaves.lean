/-! the class's reader: its small methods -/
theorem z57 {r : Nat} {c p : Int} {s : zS} : zf_57 r c p s = zi 0 (zp 326 r 0 p (zp 325 r 0 c s)) := rfl
theorem z67 {r : Nat} {p c w : Int} {s : zS} : zf_67 r p c w s = zi 0 (zp 327 r 0 w (zp 199 r 0 c (zp 323 r 0 p s))) := rfl
theorem z2 {b : Nat} {p : Int} {s : zS} (h : s.1 1 b 0 ≤ 160) : zf_2 b p s = zi (if 0 ≤ p ∧ p < s.1 1 b 0 then s.1 0 b p else 0) s := by
  unfold zf_2
  by_cases h1 : p < 0
  · rw [if_pos h1, if_neg (by omega)]
  · rw [if_neg h1]
    by_cases h2 : s.1 1 b 0 ≤ p
    · rw [if_pos h2, if_neg (by omega)]
    · rw [if_neg h2, if_pos (by omega)]
      unfold zn
      have : 160 ≤ zlB b := by unfold zlB; split <;> omega
      rw [if_pos (by omega)]
theorem z29 {r : Nat} {x nm ln v : Int} {s : zS} (h : 0 ≤ x ∧ x < s.1 199 r 0) (h2 : s.1 199 r 0 ≤ 200) : zf_29 r x nm ln v s = zi 0 (zp 196 r x v (zp 195 r x ln (zp 193 r x nm s))) := by
  have e : zf_27 r x s = zi 1 s := by
    unfold zf_27
    rw [if_neg (by omega), if_neg (by omega)]
    rfl
  unfold zf_29
  rw [e]
  rw [zC_zi, if_neg (by decide), zW_ok (by omega), zW_ok (by omega), zW_ok (by omega)]
theorem z29' {r : Nat} {x nm ln v : Int} {s : zS} (h : 0 ≤ x ∧ x < 200) : zf_29 r x nm ln v s = zi 0 (if x < s.1 199 r 0 then zp 196 r x v (zp 195 r x ln (zp 193 r x nm s)) else s) := by
  by_cases h1 : x < s.1 199 r 0
  · have e : zf_27 r x s = zi 1 s := by
      unfold zf_27
      rw [if_neg (by omega), if_neg (by omega)]
      rfl
    unfold zf_29
    rw [e, if_pos h1, zC_zi, if_neg (by decide), zW_ok (by omega), zW_ok (by omega), zW_ok (by omega)]
  · have e : zf_27 r x s = zi 0 s := by
      unfold zf_27
      rw [if_neg (by omega), if_pos (by omega)]
      rfl
    unfold zf_29
    rw [e, if_neg h1]
    rfl
/-- a node more -/
def yMk (r : Nat) (k f p pos made cnt : Int) (s : zS) : zS := zp 199 r 0 (cnt + 1) (zp 197 r cnt p (zp 194 r cnt pos (zp 198 r cnt f (zp 192 r cnt k (zp 324 r 0 (made + 1) s)))))
theorem z58 {r : Nat} {k f p pos made cnt : Int} {s : zS} (h1 : s.1 324 r 0 = made) (h2 : s.1 199 r 0 = cnt) (h3 : s.1 323 r 0 = pos) (h4 : 0 ≤ cnt) (h5 : cnt ≤ made) (h6 : made < 200) : zf_58 r k f p s = zi cnt (yMk r k f p pos made cnt s) := by
  have a1 : cnt < 200 := by omega
  have a2 : zrng (cnt + 1) := ⟨by omega, by omega⟩
  have a3 : zrng cnt := ⟨by omega, by omega⟩
  have a4 : zrng (made + 1) := ⟨by omega, by omega⟩
  have a5 : 0 ≤ cnt ∧ cnt < ((200 : Nat) : Int) := ⟨h4, by omega⟩
  have a6 : cnt + 1 - 1 = cnt := by omega
  unfold zf_58 zf_28 zP zg zW yMk
  rw [if_pos (by omega), h1, if_pos a4]
  have b2 : (zp 324 r 0 (made + 1) s).1 199 r 0 = cnt := h2
  have b3 : (zp 324 r 0 (made + 1) s).1 323 r 0 = pos := h3
  simp only [b2, b3, if_pos a1, if_pos a5]
  generalize e1 : zp 192 r cnt k (zp 324 r 0 (made + 1) s) = s1
  have c1 : s1.1 199 r 0 = cnt := by rw [← e1]; exact h2
  simp only [c1, if_pos a5]
  generalize e2 : zp 198 r cnt f s1 = s2
  have c2 : s2.1 199 r 0 = cnt := by rw [← e2]; exact c1
  simp only [c2, if_pos a5]
  generalize e3 : zp 194 r cnt pos s2 = s3
  have c3 : s3.1 199 r 0 = cnt := by rw [← e3]; exact c2
  simp only [c3, if_pos a5]
  generalize e4 : zp 197 r cnt p s3 = s4
  have c4 : s4.1 199 r 0 = cnt := by rw [← e4]; exact c3
  simp only [c4, if_pos a2, zp_eq, a6, if_pos a3, zC_zi]
theorem z58_m {r : Nat} {k f p pos made : Int} {s : zS} (h1 : s.1 324 r 0 = made) (h3 : s.1 323 r 0 = pos) (h6 : 200 ≤ made) : zf_58 r k f p s = zi (-1) (zp 326 r 0 pos (zp 325 r 0 5 s)) := by
  unfold zf_58 zP
  rw [if_neg (by omega)]
  simp [zp_1, h3]
theorem z75 {r : Nat} {v k : Int} {s : zS} (h : 0 ≤ k ∧ k ≤ 16) : zf_75 r v k s = zi (zand v (zshl 1 k - 1)) s := by
  have := zshl1_le h
  unfold zf_75 zg
  rw [if_pos (by constructor <;> omega)]
theorem yRd.get {r q b : Nat} {T : yT} {B : yB} {n : Int} {s : zS} (R : yRd r q b T B n s) {p : Int} (h : 0 ≤ p ∧ p < n) : zf_2 b p s = zi (B p) s := by
  obtain ⟨h1, h2, h3, h4, h5, h6, h7, h8, h9, h10⟩ := R
  rw [z2 (by omega), if_pos (by omega), h9 p h.1 h.2]
set_option maxRecDepth 100000 in
theorem zor8 {a b : Int} (ha : 0 ≤ a ∧ a ≤ 255) (hb : 0 ≤ b ∧ b ≤ 255) : zor (zshl a 8) b = 256 * a + b := by
  have h1 : ∀ y : Fin 256, zshl (y.val : Int) 8 = 256 * (y.val : Int) := by decide
  have h2 := h1 ⟨a.toNat, by omega⟩
  rw [show ((⟨a.toNat, by omega⟩ : Fin 256).val : Int) = a by simp; omega] at h2
  rw [h2]
  unfold zor
  show ((Int32.ofInt (256 * a)).toBitVec ||| (Int32.ofInt b).toBitVec).toInt = _
  rw [zbv (by omega) (by omega), zbv (by omega) (by omega)]
  have e : (BitVec.ofNat 32 (256 * a).toNat ||| BitVec.ofNat 32 b.toNat).toNat = (256 * a + b).toNat := by
    rw [BitVec.toNat_or, BitVec.toNat_ofNat, BitVec.toNat_ofNat, Nat.mod_eq_of_lt (by omega), Nat.mod_eq_of_lt (by omega)]
    have e2 : (256 * a).toNat = a.toNat <<< 8 := by
      rw [Nat.shiftLeft_eq]
      omega
    rw [e2, ← Nat.shiftLeft_add_eq_or_of_lt (by omega), ← e2]
    omega
  rw [BitVec.toInt_eq_toNat_of_lt (by rw [e]; omega), e]
  omega
section
variable {r q b : Nat} {T : yT} {B : yB} {n : Int} {E : yE} {st k d : Int} {s : zS}
/-- the frames hold what is known of the fields ahead of field k -/
def yFr (r : Nat) (T : yT) (E : yE) (st k d : Int) (s : zS) : Prop := ∀ i, 0 ≤ i → i < k → s.1 328 r (8 * d + i) = E 328 i ∧ s.1 329 r (8 * d + i) = E 329 i ∧ (T 458 (8 * st + i) ≠ 65 → s.1 330 r (8 * d + i) = E 330 i)
theorem C72_13 (R : yRd r q b T B n s) (hd : 0 ≤ d ∧ d ≤ 5) (hs : 0 ≤ st ∧ st ≤ 5) (hk : 0 ≤ k ∧ k ≤ 7) (hF : yFr r T E st k d s) (hE : yOkE E k) (ht : ∀ j, T 461 (8 * st + k) ≤ j → j < T 462 (8 * st + k) → T 454 j ≤ 999 ∧ (T 454 j < 0 → -1 - T 454 j < k ∧ T 458 (8 * st + (-1 - T 454 j)) ≠ 65)) (ha : 0 ≤ T 461 (8 * st + k) ∧ T 462 (8 * st + k) ≤ 100) : ∀ (m N : Nat) (j tot : Int), m < N → T 461 (8 * st + k) ≤ j → j + m = T 462 (8 * st + k) → (-99999 ≤ tot ∧ tot ≤ 99999) → zf_72_13 N r (8 * st + k) (8 * d) tot j s = zi (ySum T (E 330) m j tot) s := by
  obtain ⟨r1, r2, r3, r4, r5, r6, r7, r8, r9, r10⟩ := R
  have hO : ∀ K : Nat → zR, zO (s.1 321 r 0) s K = K q := by
    intro K
    unfold zO
    rw [if_pos (by omega)]
    have e : (s.1 321 r 0).toNat - 1 = q := by omega
    rw [e]
  have hT : ∀ f i, 448 ≤ f → f < 469 → s.1 f q i = T f i := r5
  intro m
  induction m with
  | zero =>
    intro N j tot hN h1 h2 h3
    obtain ⟨N, rfl⟩ : ∃ M, N = M + 1 := ⟨N - 1, by omega⟩
    unfold zf_72_13 zn
    rw [hO, if_pos (by omega), hT 462 _ (by omega) (by omega), if_pos (by omega)]
    rfl
  | succ m ih =>
    intro N j tot hN h1 h2 h3
    obtain ⟨N, rfl⟩ : ∃ M, N = M + 1 := ⟨N - 1, by omega⟩
    have hj := ht j h1 (by omega)
    have key : ∀ x : Int, -65536 ≤ x → x ≤ 65536 → zf_72_62 (fun y0 y1 y2 y3 y4 y => (zf_72_13 N y0 y1 y2 y3 y4 y)) r (8 * st + k) (8 * d) tot j (Int32.ofInt x).toInt64 s = zi (ySum T (E 330) m (j + 1) (yClamp (yStep (T 455 j) tot x))) s := by
      intro x hx1 hx2
      have e1 : (Int32.ofInt x).toInt64 = Int64.ofInt x := z3264 ⟨by omega, by omega⟩
      have e2 : (Int32.ofInt tot).toInt64 = Int64.ofInt tot := z3264 ⟨by omega, by omega⟩
      have hmul : -10000000000 ≤ tot * x ∧ tot * x ≤ 10000000000 := by
        have a1 : tot.natAbs * x.natAbs ≤ 99999 * 65536 := Nat.mul_le_mul (by omega) (by omega)
        have a2 : (tot * x).natAbs = tot.natAbs * x.natAbs := Int.natAbs_mul _ _
        omega
      have fin : ∀ y : Int, -10000000000 ≤ y ∧ y ≤ 10000000000 → zf_72_111 (fun y0 y1 y2 y3 y4 y => (zf_72_13 N y0 y1 y2 y3 y4 y)) r (8 * st + k) (8 * d) j (Int64.ofInt y) s = zi (ySum T (E 330) m (j + 1) (yClamp y)) s := by
        intro y hy
        unfold zf_72_111 zg
        rw [if_pos (by constructor <;> omega), zcl hy]
        exact ih N (j + 1) (yClamp y) (by omega) (by omega) (by omega) (yClamp_b y)
      unfold zf_72_62 zn yStep
      rw [hO, if_pos (by omega), hT 455 _ (by omega) (by omega), e1, e2, ← Int64.ofInt_add, ← Int64.ofInt_sub, ← Int64.ofInt_mul]
      split
      · exact fin _ (by omega)
      · split
        · exact fin _ (by omega)
        · exact fin _ hmul
    unfold zf_72_13 zn
    rw [hO, if_pos (by omega), hT 462 _ (by omega) (by omega), if_neg (by omega), hO, if_pos (by omega), hT 454 _ (by omega) (by omega)]
    unfold ySum
    by_cases hneg : T 454 j < 0
    · have hp := hj.2 hneg
      have ev := (hF (-1 - T 454 j) (by omega) (by omega)).2.2 hp.2
      have ei : 8 * d - 1 - T 454 j = 8 * d + (-1 - T 454 j) := by omega
      have hb := hE (-1 - T 454 j) (by omega) (by omega)
      rw [if_pos hneg, if_pos hneg]
      unfold zg
      rw [if_pos (by constructor <;> omega), if_pos (by constructor <;> omega), if_pos (by omega), ei, ev]
      exact key _ (by omega) (by omega)
    · rw [if_neg hneg, if_neg hneg]
      exact key _ (by omega) (by omega)
theorem C72 (R : yRd r q b T B n s) (hd : 0 ≤ d ∧ d ≤ 5) (hs : 0 ≤ st ∧ st ≤ 5) (hk : 0 ≤ k ∧ k ≤ 7) (hF : yFr r T E st k d s) (hE : yOkE E k) (W : yWF T st k) (ht : T 458 (8 * st + k) = 115 ∨ (T 458 (8 * st + k) = 91 ∧ (T 465 (8 * st + k) = 63 ∨ T 465 (8 * st + k) = 43))) : zf_72 r (8 * st + k) (8 * d) s = zi (yReckon T (E 330) (8 * st + k)) s := by
  obtain ⟨a1, a2, a3, a4⟩ := W.2.2.2.2.1 ht
  have R' := R
  obtain ⟨r1, r2, r3, r4, r5, r6, r7, r8, r9, r10⟩ := R'
  unfold zf_72
  rw [zO_ok r1 r2, zn_ok (by omega), r5 461 _ (by omega) (by omega)]
  exact C72_13 R hd hs hk hF hE a4 ⟨a1, a3⟩ _ _ _ _ (Nat.lt_of_lt_of_le (show _ < 101 by omega) (by decide)) (by omega) (by omega) (by omega)
end
