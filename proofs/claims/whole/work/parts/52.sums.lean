/-! the reference: names, terms, sums -/
section
variable {t : Int} {T : yT} {st k K : Int} {s : zS} {V : Int → Int}
theorem M162_6 {c fi fc : Int} (ht : 0 ≤ t ∧ t ≤ 3) (hst : 0 ≤ st ∧ st ≤ 5) (hfc : s.1 585 0 (6 * t + st) = fc) (h8 : 0 ≤ fc ∧ fc ≤ 8) (hn : ∀ i, 0 ≤ i → i < fc → (s.1 586 0 (48 * t + (8 * st + i)) = c ↔ i = fi)) (hfi : fi < fc) : ∀ (m N : Nat) (j x : Int), m < N → 0 ≤ j → j + m = fc → x = (if fi < j then fi else -1) → zf_162_6 N 0 t st c x j s = zi fi s := by
  intro m
  induction m with
  | zero =>
    intro N j x hN h0 hj hx
    obtain ⟨N, rfl⟩ : ∃ M, N = M + 1 := ⟨N - 1, by omega⟩
    unfold zf_162_6
    rw [zg_ok ⟨by omega, by omega⟩, zg_ok ⟨by omega, by omega⟩, zn_ok (by omega), hfc, if_pos (by omega), hx, if_pos (by omega)]
  | succ m ih =>
    intro N j x hN h0 hj hx
    obtain ⟨N, rfl⟩ : ∃ M, N = M + 1 := ⟨N - 1, by omega⟩
    have hj2 := hn j h0 (by omega)
    unfold zf_162_6
    rw [zg_ok ⟨by omega, by omega⟩, zg_ok ⟨by omega, by omega⟩, zn_ok (by omega), hfc, if_neg (by omega), zg_ok ⟨by omega, by omega⟩, show 8 * (6 * t + st) + j = 48 * t + (8 * st + j) by omega, zg_ok ⟨by omega, by omega⟩, zn_ok (by omega)]
    by_cases he : s.1 586 0 (48 * t + (8 * st + j)) = c
    · rw [if_pos he, zg_ok ⟨by omega, by omega⟩]
      have := hj2.mp he
      exact ih N (j + 1) j (by omega) (by omega) (by omega) (by rw [if_pos (by omega)]; omega)
    · rw [if_neg he, zg_ok ⟨by omega, by omega⟩]
      have hne : j ≠ fi := fun z => he (hj2.mpr z)
      refine ih N (j + 1) x (by omega) (by omega) (by omega) ?_
      rw [hx]
      by_cases h1 : fi < j
      · rw [if_pos h1, if_pos (by omega)]
      · rw [if_neg h1, if_neg (by omega)]
theorem M162 {c fi fc : Int} (ht : 0 ≤ t ∧ t ≤ 3) (hst : 0 ≤ st ∧ st ≤ 5) (hfc : s.1 585 0 (6 * t + st) = fc) (h8 : 0 ≤ fc ∧ fc ≤ 8) (hn : ∀ i, 0 ≤ i → i < fc → (s.1 586 0 (48 * t + (8 * st + i)) = c ↔ i = fi)) (hfi : 0 ≤ fi ∧ fi < fc) : zf_162 0 t st c s = zi fi s := by
  unfold zf_162
  exact M162_6 ht hst hfc h8 hn hfi.2 fc.toNat xfu 0 (-1) (xfu_big (by omega)) (by omega) (by omega) (by rw [if_neg (by omega)])
/-- what is known of the numbers ahead of field k -/
def mKn (T : yT) (V : Int → Int) (st k K : Int) (s : zS) : Prop := ∀ i, 0 ≤ i → i < k → mNumr (T 458 (8 * st + i)) → s.1 630 0 (8 * K + i) = V i
theorem mKn.fr6 {u : zS} (h : mKn T V st k K s) (a : m6 s u) : mKn T V st k K u := fun i h1 h2 h3 => (a.1 630 0 _ (by omega)).trans (h i h1 h2 h3)
theorem mAt.fr6 {p p' : Int} {u : zS} (h : mAt t p s) (a : m6 s u) (h4 : u.1 604 0 0 = 200) (h5 : u.1 605 0 0 = p') (hp : 0 ≤ p' ∧ p' ≤ 100000) : mAt t p' u := ⟨h.1, (a.1 603 0 0 (by omega)).trans h.2.1, h4, h5, hp⟩
theorem mNum_b (X : Int → Int) : ∀ (m : Nat) (v p : Int), p ≤ (mNum X m v p).2 ∧ (mNum X m v p).2 ≤ p + m
  | 0, v, p => by
    unfold mNum
    dsimp only
    omega
  | m + 1, v, p => by
    unfold mNum
    split
    · have := mNum_b X m (10 * v + X p - 48) (p + 1)
      omega
    · dsimp only
      omega
theorem M172 {p j p' : Int} (R : mRel t T s) (W : yWT T) (hst : 0 ≤ st ∧ st < T 449 0) (hk : 0 ≤ k ∧ k ≤ T 453 st) (hK : 0 ≤ K ∧ K < 59) (hV : mKn T V st k K s) (h : mAt t p s) (hp : p ≤ 1000) (hT : mTerm (mX t s) T st k p j p') : zw (zf_172 0 t st K s) fun v u => m6 s u ∧ mAt t p' u ∧ (p < p' ∧ p' ≤ p + 3) ∧ v = (if T 454 j < 0 then V (-1 - T 454 j) else T 454 j) := by
  have h6 := W.2.1
  have hp0 := h.2.2.2.2.1
  unfold zf_172
  rw [z156 h, zC_zi, z160, zC_zi]
  rcases hT with ⟨hd, h0, h9, hn⟩ | ⟨hd, h0, hlt, hnum, hx, rfl⟩
  · rw [if_pos (show 48 ≤ mX t s p ∧ mX t s p ≤ 57 from hd), if_neg (by decide), if_neg (by omega)]
    unfold zf_161
    refine zw_C' (M161_4 3 xfu 0 p s (xfu_big (by decide)) (Nat.le_refl _) h (by omega) (by decide)) fun v u hu => ?_
    rw [hn] at hu
    have hb := mNum_b (mX t s) 2 (10 * 0 + mX t s p - 48) (p + 1)
    have e3 : mNum (mX t s) 3 0 p = mNum (mX t s) 2 (10 * 0 + mX t s p - 48) (p + 1) := by
      rw [mNum, if_pos (show 48 ≤ mX t s p ∧ mX t s p ≤ 57 from hd)]
    rw [← e3, hn] at hb
    dsimp only at hb
    exact zw_i ⟨hu.1, hu.2.2, by omega, hu.2.1⟩
  · obtain ⟨r1, r2, r3⟩ := R
    obtain ⟨q1, q2, q3, q4⟩ := r3 st hst.1 hst.2
    obtain ⟨c1, c2, c3⟩ := W.2.2 st hst.1 hst.2
    rw [if_neg (show ¬ (48 ≤ mX t s p ∧ mX t s p ≤ 57) from hd), if_pos rfl, if_pos h0, z156 h, zC_zi]
    have hfi : 0 ≤ -1 - T 454 j ∧ -1 - T 454 j < T 453 st := by omega
    have hu : ∀ i, 0 ≤ i → i < T 453 st → (s.1 586 0 (48 * t + (8 * st + i)) = mX t s p ↔ i = -1 - T 454 j) := by
      intro i g1 g2
      rw [(q4 i g1 g2).1, hx]
      constructor
      · intro e
        by_cases hi : i = -1 - T 454 j
        · exact hi
        · have d := (q4 (-1 - T 454 j) hfi.1 hfi.2)
          unfold mRelF at d
          have d2 := d.2.2.2.2.2.2.2.2.2.2.2.1 i g1 g2 hi
          exact absurd (by omega) d2
      · intro e
        rw [e]
    have hV2 := hV (-1 - T 454 j) hfi.1 hlt hnum
    rw [M162 r1 (by omega) q1 ⟨c1, c2⟩ hu hfi, zC_zi, h.2.2.2.1, zg_ok ⟨by omega, by omega⟩, zP_ok, zg_ok ⟨by omega, by omega⟩, zg_ok ⟨by omega, by omega⟩, zn_ok (by omega), zp_nn (by omega), hV2]
    exact zw_i ⟨m6.rf.pw (by omega), h.nx (by omega), by omega, rfl⟩
theorem M173_107 {x : Int} (hx : -10000000000 ≤ x ∧ x ≤ 10000000000) {k26 : Nat → Int → Int → Int → zS → zR} {n : Nat} {a b : Int} : zf_173_107 k26 n a b (Int64.ofInt x) s = k26 n a b (yClamp x) s := by
  unfold zf_173_107 yClamp
  rw [zcmp (by omega) (by omega), zcmp (by omega) (by omega)]
  by_cases h1 : x < -99999
  · rw [if_neg (show ¬ 99999 < x by omega), if_pos h1]
    by_cases h2 : x = 99999
    · omega
    · rw [if_neg h2, if_pos (by decide), if_neg (show ¬ -99999 < x by omega), if_neg (show ¬ x = -99999 by omega), if_neg (by decide)]
  · rw [if_neg h1]
    by_cases h2 : 99999 < x
    · rw [if_pos h2, if_pos h2, if_neg (by decide)]
    · rw [if_neg h2, if_neg h2]
      have e1 : (if x = 99999 then (0 : Int32) else -1).toInt ≤ 0 := by split <;> decide
      have e2 : 0 ≤ (if -99999 < x then (1 : Int32) else if x = -99999 then 0 else -1).toInt := by
        split
        · decide
        · rw [if_pos (by omega)]
          decide
      rw [if_pos e1, if_pos e2, Int64.toInt32_ofInt, z32 ⟨by omega, by omega⟩]
theorem M173_26 (R : mRel t T s) (W : yWT T) (hst : 0 ≤ st ∧ st < T 449 0) (hk : 0 ≤ k ∧ k ≤ T 453 st) (hK : 0 ≤ K ∧ K < 59) (hits : s.1 622 0 K = st) (hV : mKn T V st k K s) (hVb : ∀ i, 0 ≤ i → i < k → -65536 ≤ V i ∧ V i ≤ 65536) : ∀ (m N : Nat) (p j tot : Int) (u : zS), m < N → m6 s u → mAt t p u → p + 4 * m ≤ 900 → mTail (mX t s) T st k m p j → (-99999 ≤ tot ∧ tot ≤ 99999) → zw (zf_173_26 N 0 t K tot u) fun v w => m6 s w ∧ v = ySum T V m j tot := by
  intro m
  induction m with
  | zero =>
    intro N p j tot u hN K6 h hp hT htot
    obtain ⟨N, rfl⟩ : ∃ M, N = M + 1 := ⟨N - 1, by omega⟩
    have hop : ¬ mOp (mX t s p) := hT
    unfold zf_173_26
    rw [z156 h, zC_zi, z164, zC_zi, show mX t u p = mX t s p from mX_fr K6.fr, if_neg (show ¬ (mX t s p = 43 ∨ mX t s p = 45 ∨ mX t s p = 42) from hop), if_pos rfl]
    exact zw_i ⟨K6, rfl⟩
  | succ m ih =>
    intro N p j tot u hN K6 h hp hT htot
    obtain ⟨N, rfl⟩ : ∃ M, N = M + 1 := ⟨N - 1, by omega⟩
    obtain ⟨hop, hsg, p', hterm, htail⟩ := hT
    have hp0 := h.2.2.2.2.1
    have eX : mX t u = mX t s := funext fun p => mX_fr K6.fr
    have K7 : m6 s (zp 605 0 0 (p + 1) u) := K6.pw (by omega)
    have eX7 : mX t (zp 605 0 0 (p + 1) u) = mX t s := funext fun p => mX_fr K7.fr
    unfold zf_173_26 ySum
    rw [z156 h, zC_zi, z164, zC_zi, eX, if_pos (show mX t s p = 43 ∨ mX t s p = 45 ∨ mX t s p = 42 from hop), if_neg (by decide), z156 h, zC_zi, eX, h.2.2.2.1, zg_ok ⟨by omega, by omega⟩, zP_ok, zn_ok (by omega), (K7.1 622 0 K (by omega)).trans hits]
    refine zw_C' (M172 (R.fr K7.fr) W hst hk hK (hV.fr6 K7) (h.nx (by omega)) (by omega) (by rw [eX7]; exact hterm)) fun v w hw => ?_
    obtain ⟨w6, wat, wp, hv⟩ := hw
    have hvb : -65536 ≤ v ∧ v ≤ 65536 := by
      rw [hv]
      rcases hterm with ⟨-, h0, h9, -⟩ | ⟨-, h0, hlt, -⟩
      · rw [if_neg (by omega)]
        omega
      · rw [if_pos h0]
        exact hVb _ (by omega) hlt
    have e1 : (Int32.ofInt v).toInt64 = Int64.ofInt v := z3264 ⟨by omega, by omega⟩
    have e2 : (Int32.ofInt tot).toInt64 = Int64.ofInt tot := z3264 ⟨by omega, by omega⟩
    have hmul : -10000000000 ≤ tot * v ∧ tot * v ≤ 10000000000 := by
      have a1 : tot.natAbs * v.natAbs ≤ 99999 * 65536 := Nat.mul_le_mul (by omega) (by omega)
      have a2 : (tot * v).natAbs = tot.natAbs * v.natAbs := Int.natAbs_mul _ _
      omega
    rw [e1, e2, ← Int64.ofInt_add, ← Int64.ofInt_sub, ← Int64.ofInt_mul, ← hv, hsg]
    have fin : ∀ y : Int, -10000000000 ≤ y ∧ y ≤ 10000000000 → zw (zf_173_107 (fun y0 y1 y2 y3 y => (zf_173_26 N y0 y1 y2 y3 y)) 0 t K (Int64.ofInt y) w) fun x z => m6 s z ∧ x = ySum T V m (j + 1) (yClamp y) := by
      intro y hy
      rw [M173_107 hy]
      exact ih N p' (j + 1) (yClamp y) w (by omega) (K7.tr w6) wat (by omega) htail (yClamp_b y)
    unfold yStep
    by_cases h43 : mX t s p = 43
    · rw [if_pos h43, if_pos h43]
      exact fin _ (by omega)
    · rw [if_neg h43, if_neg h43]
      by_cases h45 : mX t s p = 45
      · rw [if_pos h45, if_pos h45]
        exact fin _ (by omega)
      · rw [if_neg h45, if_neg h45]
        exact fin _ hmul
/-- the reference's sum is the spec's -/
theorem M173 {p j : Int} {m : Nat} (R : mRel t T s) (W : yWT T) (hst : 0 ≤ st ∧ st < T 449 0) (hk : 0 ≤ k ∧ k ≤ T 453 st) (hK : 0 ≤ K ∧ K < 59) (hits : s.1 622 0 K = st) (hb : s.1 603 0 0 = 200 * t) (hV : mKn T V st k K s) (hVb : ∀ i, 0 ≤ i → i < k → 0 ≤ V i ∧ V i ≤ 65535 ∨ ¬ mNumr (T 458 (8 * st + i))) (hVc : ∀ i, 0 ≤ i → i < k → -65536 ≤ V i ∧ V i ≤ 65536) (hp : 0 ≤ p ∧ p ≤ 200) (hm : m ≤ 100) (hS : mSumAt (mX t s) T st k m p j) : zw (zf_173 0 t p K s) fun v u => m6 s u ∧ v = ySum T V (m + 1) j 0 := by
  obtain ⟨h43, p', hterm, htail⟩ := hS
  have h6 := W.2.1
  have K0 : m6 s (zp 604 0 0 200 (zp 605 0 0 p s)) := (m6.rf.pw (by omega)).pw (by omega)
  have hA : mAt t p (zp 604 0 0 200 (zp 605 0 0 p s)) := ⟨R.1, (K0.1 603 0 0 (by omega)).trans hb, zp_eq, (zp_nn (by omega)).trans zp_eq, hp.1, by omega⟩
  have eX : mX t (zp 604 0 0 200 (zp 605 0 0 p s)) = mX t s := funext fun p => mX_fr K0.fr
  unfold zf_173
  rw [zP_ok, zP_ok, zn_ok (by omega), (K0.1 622 0 K (by omega)).trans hits]
  refine zw_C' (M172 (R.fr K0.fr) W hst hk hK (hV.fr6 K0) hA (by omega) (by rw [eX]; exact hterm)) fun v u hu => ?_
  obtain ⟨u6, uat, up, hv⟩ := hu
  have K1 := K0.tr u6
  have hvb : 0 ≤ v ∧ v ≤ 65535 := by
    rw [hv]
    rcases hterm with ⟨-, h0, h9, -⟩ | ⟨-, h0, hlt, hnum, -⟩
    · rw [if_neg (by omega)]
      omega
    · rw [if_pos h0]
      rcases hVb _ (by omega) hlt with h | h
      · exact h
      · exact absurd hnum h
  refine (M173_26 R W hst hk hK hits hV hVc m xfu p' (j + 1) v u (xfu_big (by omega)) K1 uat (by omega) htail (by omega)).mono fun x w hw => ?_
  refine ⟨hw.1, ?_⟩
  rw [hw.2]
  show _ = ySum T V m (j + 1) (yClamp (yStep (T 455 j) 0 (if T 454 j < 0 then V (-1 - T 454 j) else T 454 j)))
  rw [← hv, h43]
  unfold yStep yClamp
  rw [if_pos rfl, if_neg (by omega), if_neg (by omega), Int.zero_add]
end
