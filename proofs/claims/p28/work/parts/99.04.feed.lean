/-! the bytes of a long; feed -/
def aByte (x : Int64) (k : Int) : Int := (((x >>> ((Int32.ofInt (8 * k)).toInt64 &&& 63)) &&& (Int64.ofInt 255))).toInt32.toInt
theorem aB_m : ∀ i : Fin 32, (255#32)[i.val] = decide (i.val < 8) := by decide
theorem aB_n : ∀ i : Fin 32, decide (i.val < 8) = (255#64)[i.val] := by decide
theorem aB_s (b : BitVec 64) (c : Nat) (hc : c ≤ 56) : BitVec.signExtend 32 (b >>> c) &&& 255#32 = BitVec.signExtend 32 (b.sshiftRight c) &&& 255#32 := by
  ext i hi
  have m := aB_m ⟨i, hi⟩
  dsimp only at m
  rw [BitVec.getElem_and, BitVec.getElem_and, m]
  by_cases d : i < 8
  · rw [decide_eq_true d, Bool.and_true, Bool.and_true, BitVec.getElem_signExtend, BitVec.getElem_signExtend, dif_pos (by omega), dif_pos (by omega)]
    rw [BitVec.getElem_ushiftRight, BitVec.getElem_sshiftRight, dif_pos (by omega), BitVec.getLsbD_eq_getElem (by omega)]
  · rw [decide_eq_false d, Bool.and_false, Bool.and_false]
theorem aB_e {k : Int} (h : 0 ≤ k ∧ k < 8) : ((Int32.ofInt (8 * k)).toInt64 &&& 63).toBitVec.smod 64 = BitVec.ofNat 64 (8 * k.toNat) ∧ ((Int32.ofInt (8 * k)).toInt64.toUInt64 &&& Int64.toUInt64 63).toBitVec % 64 = BitVec.ofNat 64 (8 * k.toNat) := by
  have c : k = 0 ∨ k = 1 ∨ k = 2 ∨ k = 3 ∨ k = 4 ∨ k = 5 ∨ k = 6 ∨ k = 7 := by omega
  rcases c with rfl | rfl | rfl | rfl | rfl | rfl | rfl | rfl <;> decide
theorem aByte_c (x : Int64) {k : Int} (h : 0 ≤ k ∧ k < 8) : ((x.toUInt64 >>> ((Int32.ofInt (8 * k)).toInt64.toUInt64 &&& Int64.toUInt64 63)).toInt64.toInt32 &&& Int32.ofInt 255) = ((x >>> ((Int32.ofInt (8 * k)).toInt64 &&& 63)) &&& (Int64.ofInt 255)).toInt32 := by
  obtain ⟨e1, e2⟩ := aB_e h
  have q : (BitVec.ofNat 64 (8 * k.toNat)).toNat = 8 * k.toNat := by
    rw [BitVec.toNat_ofNat]
    omega
  apply Int32.toBitVec.inj
  rw [Int32.toBitVec_and, Int64.toBitVec_toInt32, Int64.toBitVec_toInt32, UInt64.toBitVec_toInt64, UInt64.toBitVec_shiftRight, Int64.toBitVec_and, Int64.toBitVec_shiftRight, e1, e2, Int64.toBitVec_toUInt64]
  rw [BitVec.ushiftRight_eq', BitVec.sshiftRight', q, show (Int32.ofInt 255).toBitVec = 255#32 from rfl, aB_s x.toBitVec _ (by omega)]
  have r : (Int64.ofInt 255).toBitVec = 255#64 := rfl
  rw [r]
  ext i hi
  have m := aB_m ⟨i, hi⟩
  dsimp only at m
  rw [BitVec.getElem_and, m, BitVec.getElem_signExtend, BitVec.getElem_signExtend, dif_pos (by omega), dif_pos (by omega), BitVec.getElem_and]
  congr 1
  exact aB_n ⟨i, hi⟩
theorem aByte_b (x : Int64) (k : Int) : 0 ≤ aByte x k ∧ aByte x k ≤ 255 := by
  unfold aByte
  generalize x >>> ((Int32.ofInt (8 * k)).toInt64 &&& 63) = y
  have e : ((y &&& Int64.ofInt 255).toInt32).toBitVec = BitVec.ofNat 32 (y.toBitVec.toNat % 256) := by
    rw [Int64.toBitVec_toInt32, Int64.toBitVec_and, show (Int64.ofInt 255).toBitVec = 255#64 from rfl]
    apply BitVec.eq_of_toNat_eq
    rw [BitVec.signExtend_eq_setWidth_of_le _ (by decide), BitVec.toNat_setWidth, BitVec.toNat_and]
    have := Nat.and_two_pow_sub_one_eq_mod y.toBitVec.toNat 8
    rw [show (255#64).toNat = 2 ^ 8 - 1 from rfl, this, BitVec.toNat_ofNat]
  have l : y.toBitVec.toNat % 256 < 256 := Nat.mod_lt _ (by decide)
  have q : (BitVec.ofNat 32 (y.toBitVec.toNat % 256)).toNat = y.toBitVec.toNat % 256 := by
    rw [BitVec.toNat_ofNat]
    omega
  rw [← Int32.toInt_toBitVec, e, BitVec.toInt_eq_toNat_of_lt (by rw [q]; omega), q]
  omega
/-- what a call of the class comes to: its value or what it throws, and what it holds then -/
def cOut (F : zR) (r : Int ⊕ Nat) (A' : aA) (s : zS) : Prop := ∃ u, F = some (r, u) ∧ cR A' u ∧ cC A' u ∧ cFr s u ∧ u.2.2 ≤ s.2.2 + 1
/-- .. of the reference: cd tells what it calls a throw -/
def mOut (F : zR) (r : Int ⊕ Nat) (cd : Nat → Int) (A' : aA) (s : zS) : Prop := ∃ v u, F = some (.inl v, u) ∧ mR A' u ∧ mFr s u ∧ (match r with
  | .inl w => v = w ∧ u.1 576 0 0 = 0
  | .inr e => u.1 576 0 0 = cd e)
def aFeed (x : Int64) (m : Int) (A : aA) : aA := (fun f i => if f = 0 ∧ A.1 1 0 ≤ i ∧ i < A.1 1 0 + m then aByte x (i - A.1 1 0) else if f = 1 then A.1 1 0 + m else A.1 f i, A.2)
def sFeed (x : Int64) (m : Int) (A : aA) : (Int ⊕ Nat) × aA := if m < 1 ∨ 8 < m then (.inr 0, A) else if 200 < A.1 1 0 + m then (.inr 1, A) else (.inl (A.1 1 0 + m), aFeed x m A)
section
variable {A : aA} {s u : zS} {x : Int64} {m n : Int}
theorem aChosen_c {A' : aA} (h2 : A'.1 2 = A.1 2) (h3 : A'.1 3 0 = A.1 3 0) (h5 : A'.1 522 0 = A.1 522 0) (hT : A'.2 = A.2) : aChosen A' = aChosen A ∧ ∀ k, aRd A' k = aRd A k := by
  have R : ∀ k, aRd A' k = aRd A k := fun k => by
    unfold aRd
    rw [hT, h2, h3]
  refine ⟨?_, R⟩
  have B : ∀ (m k : Nat) (b : Int), aBest A' m k b = aBest A m k b := by
    intro m
    induction m with
    | zero =>
      intro k b
      rfl
    | succ m ih =>
      intro k b
      unfold aBest
      rw [ih, R, hT]
  unfold aChosen
  rw [B, h5]
/-- the cache, where nothing changed that it depends on -/
theorem cC.c {A' : aA} (h : cC A s) (h2 : A'.1 2 = A.1 2) (h3 : A'.1 3 0 = A.1 3 0) (h5 : A'.1 522 0 = A.1 522 0) (hT : A'.2 = A.2) (a : ∀ (f : Nat) (i : Int), f = 523 ∨ (192 ≤ f ∧ f < 200) ∨ (321 ≤ f ∧ f < 331) → u.1 f 0 i = s.1 f 0 i) : cC A' u := by
  obtain ⟨e1, e2⟩ := aChosen_c h2 h3 h5 hT
  unfold cC at h ⊢
  rw [e1, e2, a 523 0 (by omega), a 199 0 (by omega), a 321 0 (by omega), a 322 0 (by omega)]
  rcases h with h | ⟨h1, h2⟩
  · exact Or.inl h
  · right
    refine ⟨h1, ?_⟩
    by_cases c : aChosen A = -1
    · rw [if_pos c] at h2 ⊢
      exact h2
    · rw [if_neg c] at h2 ⊢
      refine ⟨h2.1, h2.2.1, ?_⟩
      have h3 := h2.2.2
      revert h3
      generalize aRd A (aChosen A).toNat = o
      unfold yTold
      cases o with
      | inl z =>
        intro h3
        exact absurd h3.1 (by decide)
      | inr x =>
        intro h3
        obtain ⟨g1, g2, g3, g4, g5, g6⟩ := h3
        refine ⟨g1, (a 323 0 (by omega)).trans g2, (a 327 0 (by omega)).trans g3, ⟨(a 199 0 (by omega)).trans g4.1, fun j y hy c c1 c2 => (a c _ (by omega)).trans (g4.2 j y hy c c1 c2)⟩, (a 325 0 (by omega)).trans g5, (a 326 0 (by omega)).trans g6⟩
theorem C105_49 (hn : 0 ≤ n) (hm : m ≤ 8 ∧ n + m ≤ 200) : ∀ (j M : Nat) (k : Int) (s : zS), j < M → j = (m - k).toNat → 0 ≤ k → k ≤ m → s.1 1 0 0 = n + k → ∃ u, zf_105_49 M 0 x m k s = zi (n + m) u ∧ (∀ (f' n' : Nat) (i' : Int), ¬ (n' = 0 ∧ (f' = 1 ∨ f' = 0 ∧ n + k ≤ i' ∧ i' < n + m)) → u.1 f' n' i' = s.1 f' n' i') ∧ u.2 = s.2 ∧ u.1 1 0 0 = n + m ∧ ∀ i, k ≤ i → i < m → u.1 0 0 (n + i) = aByte x i := by
  intro j
  induction j with
  | zero =>
    intro M k s hM hj k0 km h1
    obtain ⟨M, rfl⟩ : ∃ L, M = L + 1 := ⟨M - 1, by omega⟩
    unfold zf_105_49
    rw [if_pos (by omega), h1, show k = m by omega]
    exact ⟨s, rfl, fun _ _ _ _ => rfl, rfl, by rw [h1]; omega, fun i i1 i2 => by omega⟩
  | succ j ih =>
    intro M k s hM hj k0 km h1
    obtain ⟨M, rfl⟩ : ∃ L, M = L + 1 := ⟨M - 1, by omega⟩
    unfold zf_105_49 zf_4
    rw [if_neg (by omega), zg_ok ⟨by omega, by omega⟩, h1, show ((zlB 0 : Nat) : Int) = 200 from rfl, if_neg (by omega), zW_ok (by rw [show zlB 0 = 200 from rfl]; omega), zp_nk (by decide), h1, zg_ok ⟨by omega, by omega⟩, zP_ok, zC_zi, zg_ok ⟨by omega, by omega⟩]
    have e : zand ((x.toUInt64 >>> ((Int32.ofInt (8 * k)).toInt64.toUInt64 &&& Int64.toUInt64 63)).toInt64).toInt32.toInt 255 = aByte x k := by
      unfold zand aByte
      rw [Int32.ofInt_toInt, aByte_c x ⟨by omega, by omega⟩]
    rw [e]
    obtain ⟨u, a1, a2, a3, a4, a5⟩ := ih M (k + 1) (zp 1 0 0 (n + k + 1) (zp 0 0 (n + k) (aByte x k) s)) (by omega) (by omega) (by omega) (by omega) (by rw [zp_eq]; omega)
    refine ⟨u, a1, fun f' n' i' hn => ?_, a3, a4, fun i i1 i2 => ?_⟩
    · rw [a2 f' n' i' (by omega), zp_n3 (by omega), zp_n3 (by omega)]
    · by_cases d : i = k
      · rw [a2 0 0 _ (by omega), zp_nk (by decide), d, zp_eq]
      · exact a5 i (by omega) i2
theorem C105 (h : cR A s) (c : cC A s) (ok : aOK A) : cOut (zf_105 0 x m s) (sFeed x m A).1 (sFeed x m A).2 s := by
  obtain ⟨h1, h2, h3, h4, h5, h6, h7⟩ := id h
  have o1 := ok.1.1
  unfold zf_105 sFeed
  have thr : ∀ e : Nat, cOut (zt e s) (.inr e) A s := fun e => ⟨_, rfl, ⟨h1, h2, h3, h4, h5, h6, h7⟩, c, cFr.rf, Nat.le_refl _⟩
  by_cases c1 : m < 1
  · rw [if_pos c1, if_pos (Or.inl c1)]
    exact thr 0
  · rw [if_neg c1]
    by_cases c2 : m ≤ 8
    · rw [if_pos c2, if_neg (show ¬ (m < 1 ∨ 8 < m) by omega), h1.1, zg_ok ⟨by omega, by omega⟩]
      by_cases c3 : A.1 1 0 + m ≤ 200
      · rw [if_pos c3, if_neg (show ¬ 200 < A.1 1 0 + m by omega)]
        obtain ⟨u, a1, a2, a3, a4, a5⟩ := C105_49 (x := x) (n := A.1 1 0) (m := m) o1.1 ⟨c2, c3⟩ (m - 0).toNat xfu 0 s (pa_fu (by omega)) rfl (Int.le_refl _) (by omega) (by rw [h1.1]; omega)
        refine ⟨u, a1, ⟨⟨a4, fun i i1 i2 => ?_⟩, ⟨(a2 1 1 0 (by omega)).trans h2.1, fun i i1 i2 => (a2 0 1 i (by omega)).trans (h2.2 i i1 i2)⟩, ⟨(a2 387 0 0 (by omega)).trans h3.1, fun j j1 j2 => ?_⟩, (a2 388 0 0 (by omega)).trans h4, ⟨(a2 522 0 0 (by omega)).trans h5.1, by rw [a3]; exact h5.2⟩, fun k k1 k2 => by rw [a2 515 0 k (by omega), a3]; exact h6 k k1 k2, fun k k2 f i f1 f2 => (a2 f k i (by omega)).trans (h7 k k2 f i f1 f2)⟩, c.c rfl rfl rfl rfl fun f i hf => a2 f 0 i (by omega), fun f' n' i' f1 f2 => a2 f' n' i' (by omega), by rw [a3]; omega⟩
        · have i2 : i < A.1 1 0 + m := i2
          show _ = (if (0 : Nat) = 0 ∧ A.1 1 0 ≤ i ∧ i < A.1 1 0 + m then aByte x (i - A.1 1 0) else if (0 : Nat) = 1 then A.1 1 0 + m else A.1 0 i)
          by_cases d : A.1 1 0 ≤ i
          · rw [if_pos ⟨rfl, d, i2⟩, ← a5 (i - A.1 1 0) (by omega) (by omega), show A.1 1 0 + (i - A.1 1 0) = i by omega]
          · rw [if_neg (fun z => d z.2.1), if_neg (by decide), a2 0 0 i (by omega)]
            exact h1.2 i i1 (by omega)
        · obtain ⟨g1, g2, g3⟩ := h3.2 j j1 j2
          exact ⟨(a2 385 0 j (by omega)).trans g1, (a2 386 0 j (by omega)).trans g2, fun i i1 i2 => (a2 384 0 _ (by omega)).trans (g3 i i1 i2)⟩
      · rw [if_neg c3, if_pos (show 200 < A.1 1 0 + m by omega)]
        exact thr 1
    · rw [if_neg c2, if_pos (Or.inr (by omega))]
      exact thr 0
end
