section
/-! set -/
section
variable {T : yT} {B C F G : yB} {n L w : Int} {N : Int → yN} {s u z : zS} {r q : Nat} {t k v g e x j : Int} {A : aA}
theorem zand_l {x y : Int} (hx : 0 ≤ x ∧ x ≤ 255) : 0 ≤ zand x y ∧ zand x y ≤ 255 := by
  have hb : (Int32.ofInt x).toBitVec = BitVec.ofNat 32 x.toNat := zbv (by omega) (by omega)
  have hle : ((Int32.ofInt x).toBitVec &&& (Int32.ofInt y).toBitVec).toNat ≤ x.toNat := by
    rw [BitVec.toNat_and, hb, BitVec.toNat_ofNat]
    refine Nat.le_trans Nat.and_le_left ?_
    omega
  have e : zand x y = (((Int32.ofInt x).toBitVec &&& (Int32.ofInt y).toBitVec).toNat : Int) := by
    unfold zand
    show ((Int32.ofInt x).toBitVec &&& (Int32.ofInt y).toBitVec).toInt = _
    rw [BitVec.toInt_eq_toNat_of_lt (by omega)]
  rw [e]
  omega
theorem zor_l {x y : Int} (hx : 0 ≤ x ∧ x ≤ 255) (hy : 0 ≤ y ∧ y ≤ 255) : 0 ≤ zor x y ∧ zor x y ≤ 255 := by
  have hb : (Int32.ofInt x).toBitVec = BitVec.ofNat 32 x.toNat := zbv (by omega) (by omega)
  have hc : (Int32.ofInt y).toBitVec = BitVec.ofNat 32 y.toNat := zbv (by omega) (by omega)
  have hle : ((Int32.ofInt x).toBitVec ||| (Int32.ofInt y).toBitVec).toNat < 256 := by
    rw [BitVec.toNat_or, hb, hc, BitVec.toNat_ofNat, BitVec.toNat_ofNat, Nat.mod_eq_of_lt (by omega), Nat.mod_eq_of_lt (by omega)]
    exact Nat.or_lt_two_pow (n := 8) (by omega) (by omega)
  have e : zor x y = (((Int32.ofInt x).toBitVec ||| (Int32.ofInt y).toBitVec).toNat : Int) := by
    unfold zor
    show ((Int32.ofInt x).toBitVec ||| (Int32.ofInt y).toBitVec).toInt = _
    rw [BitVec.toInt_eq_toNat_of_lt (by omega)]
  rw [e]
  omega
theorem zshl_m {v k b : Int} (hb : 1 ≤ b) (hk : 0 ≤ k) (hs : b + k ≤ 8) (hv : 0 ≤ v ∧ v ≤ zshl 1 b - 1) : 0 ≤ zshl v k ∧ zshl v k ≤ 255 := by
  have h1 : ∀ (k : Fin 8) (y : Fin 256), zshl (y.val : Int) (k.val : Int) = ((y.val * 2 ^ k.val : Nat) : Int) := by decide +kernel
  have h2 : ∀ (b : Fin 9) (k : Fin 8), b.val + k.val ≤ 8 → (2 ^ b.val - 1) * 2 ^ k.val ≤ 255 := by decide +kernel
  rw [zshl1 (by omega)] at hv
  have h3 := h2 ⟨b.toNat, by omega⟩ ⟨k.toNat, by omega⟩ (by show b.toNat + k.toNat ≤ 8; omega)
  have h3 : (2 ^ b.toNat - 1) * 2 ^ k.toNat ≤ 255 := h3
  have p : ((2 ^ b.toNat : Nat) : Int) = 2 ^ b.toNat := by simp
  have hv2 : v.toNat ≤ 2 ^ b.toNat - 1 := by
    rw [← p] at hv
    omega
  have p8 : 2 ^ b.toNat ≤ 2 ^ 8 := Nat.pow_le_pow_right (by decide) (by omega)
  have h4 := h1 ⟨k.toNat, by omega⟩ ⟨v.toNat, by omega⟩
  have h4 : zshl (v.toNat : Int) (k.toNat : Int) = ((v.toNat * 2 ^ k.toNat : Nat) : Int) := h4
  rw [show (v.toNat : Int) = v by omega, show (k.toNat : Int) = k by omega] at h4
  have h5 := Nat.le_trans (Nat.mul_le_mul_right (2 ^ k.toNat) hv2) h3
  rw [h4]
  omega
/-- whether node j may get the value v -/
def eSb (A : aA) (j v : Int) : Prop := (aNn A j 192 = 2 ∨ aNn A j 192 = 3 ∨ aNn A j 192 = 4) ∧ aCt A 467 (aNn A j 198) = 0 ∧ 0 ≤ v ∧ v ≤ zshl 1 (aCt A 459 (aNn A j 198)) - 1
end
end
