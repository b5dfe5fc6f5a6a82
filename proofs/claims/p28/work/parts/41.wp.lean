/-! what a run over the store comes to -/
def zw (F : zR) (Q : Int → zS → Prop) : Prop := ∃ v s', F = some (.inl v, s') ∧ Q v s'
section
variable {F Z Z1 Z2 : zR} {Q : Int → zS → Prop} {s : zS}
theorem zw_i {v : Int} (h : Q v s) : zw (zi v s) Q := ⟨v, s, rfl, h⟩
theorem zw_z0 (h : Q 0 s) : zw (zz 0 s) Q := ⟨0, s, rfl, h⟩
theorem zw_z1 (h : Q 1 s) : zw (zz 1 s) Q := ⟨1, s, rfl, h⟩
theorem zw_z {v : Int} (hv : v = 0 ∨ v = 1) (h : Q v s) : zw (zz v s) Q := ⟨v, s, if_pos hv, h⟩
theorem zw_g {v : Int} (hv : zrng v) (h : zw Z Q) : zw (zg v Z) Q := by
  unfold zg
  rw [if_pos hv]
  exact h
theorem zw_n {i : Int} {m : Nat} (hv : 0 ≤ i ∧ i < m) (h : zw Z Q) : zw (zn i m Z) Q := by
  unfold zn
  rw [if_pos hv]
  exact h
theorem zw_P {f n : Nat} {i v : Int} {K : zS → zR} (h : ∀ t, t = zp f n i v s → zw (K t) Q) : zw (zP f n i v s K) Q := h _ rfl
theorem zw_Pz {f n : Nat} {v : Int} {K : zS → zR} (hv : v = 0 ∨ v = 1) (h : ∀ t, t = zp f n 0 v s → zw (K t) Q) : zw (zPz f n v s K) Q := by
  unfold zPz
  rw [if_pos hv]
  exact h _ rfl
theorem zw_W {f n m : Nat} {i v : Int} {K : zS → zR} (hv : 0 ≤ i ∧ i < m) (h : ∀ t, t = zp f n i v s → zw (K t) Q) : zw (zW f n m i v s K) Q := by
  unfold zW
  rw [if_pos hv]
  exact h _ rfl
theorem zw_Wz {f n m : Nat} {i v : Int} {K : zS → zR} (hv : (0 ≤ i ∧ i < m) ∧ (v = 0 ∨ v = 1)) (h : ∀ t, t = zp f n i v s → zw (K t) Q) : zw (zWz f n m i v s K) Q := by
  unfold zWz
  rw [if_pos hv]
  exact h _ rfl
theorem zw_O {c : Int} {K : Nat → zR} (q : Nat) (hc : c = q + 1) (hq : q < s.2.1) (h : zw (K q) Q) : zw (zO c s K) Q := by
  unfold zO
  rw [if_pos (by omega)]
  have e : c.toNat - 1 = q := by omega
  rw [e]
  exact h
theorem zw_B {c : Int} {K : Nat → zR} (b : Nat) (hc : c = b + 1) (hb : b < 3) (h : zw (K b) Q) : zw (zB c K) Q := by
  unfold zB
  rw [if_pos (by omega)]
  have e : c.toNat - 1 = b := by omega
  rw [e]
  exact h
theorem zw_if {p : Prop} [Decidable p] (h1 : p → zw Z1 Q) (h2 : ¬ p → zw Z2 Q) : zw (if p then Z1 else Z2) Q := by
  split
  · rename_i h
    exact h1 h
  · rename_i h
    exact h2 h
theorem zw_t {p : Prop} [Decidable p] (hp : p) (h1 : zw Z1 Q) : zw (if p then Z1 else Z2) Q := by
  rw [if_pos hp]
  exact h1
theorem zw_f {p : Prop} [Decidable p] (hp : ¬ p) (h1 : zw Z2 Q) : zw (if p then Z1 else Z2) Q := by
  rw [if_neg hp]
  exact h1
theorem zw_C {K : Int → zS → zR} (h : zw F fun v t => zw (K v t) Q) : zw (zC F K) Q := by
  obtain ⟨v, t, e, h⟩ := h
  rw [e]
  exact h
theorem zw_e {v : Int} {t : zS} {K : Int → zS → zR} (e : F = zi v t) (h : zw (K v t) Q) : zw (zC F K) Q := by
  rw [e]
  exact h
theorem zw.mono {Q' : Int → zS → Prop} (h : zw F Q) (k : ∀ v t, Q v t → Q' v t) : zw F Q' := by
  obtain ⟨v, t, e, h⟩ := h
  exact ⟨v, t, e, k v t h⟩
theorem zw_C' {P : Int → zS → Prop} {K : Int → zS → zR} (h : zw F P) (k : ∀ v t, P v t → zw (K v t) Q) : zw (zC F K) Q := zw_C (h.mono k)
end
theorem zC_zi {v : Int} {s : zS} {K : Int → zS → zR} : zC (zi v s) K = K v s := rfl
theorem zW_ok {f n m : Nat} {i v : Int} {s : zS} {K : zS → zR} (h : 0 ≤ i ∧ i < m) : zW f n m i v s K = K (zp f n i v s) := if_pos h
theorem zWz_ok {f n m : Nat} {i v : Int} {s : zS} {K : zS → zR} (h : (0 ≤ i ∧ i < m) ∧ (v = 0 ∨ v = 1)) : zWz f n m i v s K = K (zp f n i v s) := if_pos h
theorem zP_ok {f n : Nat} {i v : Int} {s : zS} {K : zS → zR} : zP f n i v s K = K (zp f n i v s) := rfl
theorem zPz_ok {f n : Nat} {v : Int} {s : zS} {K : zS → zR} (h : v = 0 ∨ v = 1) : zPz f n v s K = K (zp f n 0 v s) := if_pos h
theorem zn_ok {i : Int} {m : Nat} {z : zR} (h : 0 ≤ i ∧ i < m) : zn i m z = z := if_pos h
theorem zg_ok {v : Int} {z : zR} (h : zrng v) : zg v z = z := if_pos h
theorem zO_ok {c : Int} {s : zS} {K : Nat → zR} {q : Nat} (hc : c = q + 1) (hq : q < s.2.1) : zO c s K = K q := by
  unfold zO
  rw [if_pos (by omega)]
  congr 1
  omega
theorem zB_ok {c : Int} {K : Nat → zR} {b : Nat} (hc : c = b + 1) (hb : b < 3) : zB c K = K b := by
  unfold zB
  rw [if_pos (by omega)]
  congr 1
  omega
theorem zz0 {s : zS} : zz 0 s = zi 0 s := rfl
theorem zz1 {s : zS} : zz 1 s = zi 1 s := rfl
theorem zp_eq {f n : Nat} {i v : Int} {s : zS} : (zp f n i v s).1 f n i = v := if_pos ⟨rfl, rfl, rfl⟩
theorem zp_nk {f n : Nat} {i v : Int} {s : zS} {f' n' : Nat} {i' : Int} (h : f' ≠ f) : (zp f n i v s).1 f' n' i' = s.1 f' n' i' := zp_ne fun z => h z.1
theorem zp_ni {f n : Nat} {i v : Int} {s : zS} {f' n' : Nat} {i' : Int} (h : i' ≠ i) : (zp f n i v s).1 f' n' i' = s.1 f' n' i' := if_neg fun z => h z.2.2
theorem zp_1 {f n : Nat} {i v : Int} {s : zS} {f' n' : Nat} {i' : Int} : (zp f n i v s).1 f' n' i' = if f' = f ∧ n' = n ∧ i' = i then v else s.1 f' n' i' := rfl
/-! bits and products of whole numbers -/
theorem z32 {x : Int} (h : zrng x) : (Int32.ofInt x).toInt = x := Int32.toInt_ofInt_of_le (by omega) (by omega)
theorem z64 {x : Int} (h : -9223372036854775808 ≤ x ∧ x ≤ 9223372036854775807) : (Int64.ofInt x).toInt = x := Int64.toInt_ofInt_of_le (by omega) (by omega)
theorem z3264 {x : Int} (h : zrng x) : (Int32.ofInt x).toInt64 = Int64.ofInt x := Int32.toInt64_ofInt h.1 h.2
theorem zshl1 {k : Int} (h : 0 ≤ k ∧ k ≤ 16) : zshl 1 k = 2 ^ k.toNat := by
  have c : k = 0 ∨ k = 1 ∨ k = 2 ∨ k = 3 ∨ k = 4 ∨ k = 5 ∨ k = 6 ∨ k = 7 ∨ k = 8 ∨ k = 9 ∨ k = 10 ∨ k = 11 ∨ k = 12 ∨ k = 13 ∨ k = 14 ∨ k = 15 ∨ k = 16 := by omega
  rcases c with rfl | rfl | rfl | rfl | rfl | rfl | rfl | rfl | rfl | rfl | rfl | rfl | rfl | rfl | rfl | rfl | rfl <;> decide
theorem zshl1_le {k : Int} (h : 0 ≤ k ∧ k ≤ 16) : 1 ≤ zshl 1 k ∧ zshl 1 k ≤ 65536 := by
  have c : k = 0 ∨ k = 1 ∨ k = 2 ∨ k = 3 ∨ k = 4 ∨ k = 5 ∨ k = 6 ∨ k = 7 ∨ k = 8 ∨ k = 9 ∨ k = 10 ∨ k = 11 ∨ k = 12 ∨ k = 13 ∨ k = 14 ∨ k = 15 ∨ k = 16 := by omega
  rcases c with rfl | rfl | rfl | rfl | rfl | rfl | rfl | rfl | rfl | rfl | rfl | rfl | rfl | rfl | rfl | rfl | rfl <;> decide
theorem zdiv8 {x : Int} (h : x = 8 ∨ x = 16) : zdiv x 8 = if x = 16 then 2 else 1 := by
  rcases h with rfl | rfl <;> decide
theorem zrem8 {x : Int} (h : 0 ≤ x ∧ x < 48) : zrem x 8 = x % 8 := by
  have hx : ∀ y : Fin 48, zrem (y.val : Int) 8 = (y.val : Int) % 8 := by decide
  have := hx ⟨x.toNat, by omega⟩
  rw [show ((⟨x.toNat, by omega⟩ : Fin 48).val : Int) = x by simp; omega] at this
  exact this
/-- the bits of what is not below 0 -/
theorem zbv {x : Int} (h0 : 0 ≤ x) (h1 : x < 2147483648) : (Int32.ofInt x).toBitVec = BitVec.ofNat 32 x.toNat := by
  rw [Int32.toBitVec_ofInt]
  apply BitVec.eq_of_toNat_eq
  simp only [BitVec.toNat_ofInt, BitVec.toNat_ofNat]
  omega
theorem zlt64 {x y : Int} (hx : -9223372036854775808 ≤ x ∧ x ≤ 9223372036854775807) (hy : -9223372036854775808 ≤ y ∧ y ≤ 9223372036854775807) : Int64.ofInt x < Int64.ofInt y ↔ x < y := by
  rw [Int64.lt_iff_toInt_lt, z64 hx, z64 hy]
theorem zeq64 {x y : Int} (hx : -9223372036854775808 ≤ x ∧ x ≤ 9223372036854775807) (hy : -9223372036854775808 ≤ y ∧ y ≤ 9223372036854775807) : Int64.ofInt x = Int64.ofInt y ↔ x = y := by
  rw [← Int64.toInt_inj, z64 hx, z64 hy]
/-- the order of longs -/
theorem zcmp {x y : Int} (hx : -9223372036854775808 ≤ x ∧ x ≤ 9223372036854775807) (hy : -9223372036854775808 ≤ y ∧ y ≤ 9223372036854775807) : lg_cmp (Int64.ofInt x) (Int64.ofInt y) = if y < x then 1 else if x = y then 0 else -1 := by
  unfold lg_cmp
  simp only [GT.gt, zlt64 hy hx, zeq64 hx hy]
theorem zcl {x : Int} (h : -10000000000 ≤ x ∧ x ≤ 10000000000) : (zmax64 (Int64.ofInt (-99999)) (zmin64 (Int64.ofInt 99999) (Int64.ofInt x))).toInt32.toInt = yClamp x := by
  have e1 : zmin64 (Int64.ofInt 99999) (Int64.ofInt x) = Int64.ofInt (if 99999 < x then 99999 else x) := by
    unfold zmin64
    rw [zcmp (by omega) (by omega)]
    by_cases h1 : x < 99999
    · rw [if_pos h1, if_pos (by decide), if_neg (by omega)]
    · by_cases h2 : 99999 = x
      · subst h2
        rfl
      · rw [if_neg h1, if_neg h2, if_neg (by decide), if_pos (by omega)]
  rw [e1]
  have hy : yClamp x = if (if 99999 < x then 99999 else x) < -99999 then -99999 else (if 99999 < x then 99999 else x) := by
    unfold yClamp
    by_cases h1 : x < -99999
    · rw [if_pos h1, if_neg (c := 99999 < x) (by omega), if_pos h1]
    · rw [if_neg h1]
      by_cases h2 : 99999 < x
      · rw [if_pos h2]
        rfl
      · rw [if_neg h2, if_neg h1]
  have hr : -10000000000 ≤ (if 99999 < x then 99999 else x) ∧ (if 99999 < x then 99999 else x) ≤ 99999 := by split <;> omega
  rw [hy]
  generalize (if 99999 < x then 99999 else x) = y at hr
  have e2 : zmax64 (Int64.ofInt (-99999)) (Int64.ofInt y) = Int64.ofInt (if y < -99999 then -99999 else y) := by
    unfold zmax64
    rw [zcmp (by omega) (by omega)]
    by_cases h1 : y < -99999
    · rw [if_pos h1, if_pos h1, if_neg (by decide)]
    · rw [if_neg h1, if_neg h1]
      by_cases h2 : -99999 = y
      · subst h2
        rfl
      · rw [if_neg h2, if_pos (by decide)]
  rw [e2, Int64.toInt32_ofInt, z32 (by split <;> constructor <;> omega)]
