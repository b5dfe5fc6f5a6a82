/-! THE LAW'S OWN METHODS that only read: low, cell, atArray, atElement, moved, byteAt -/
section
variable {w : wW} {A : aA} {B : yB} {s u : zS} {p k g : Int}
/-- the law's arrays hold w -/
def wS (w : wW) (s : zS) : Prop := (∀ i, s.1 576 0 i = w.1 i) ∧ (∀ i, s.1 577 0 i = w.2.1 i) ∧ (∀ i, s.1 578 0 i = w.2.2 i)
theorem wS.fr (h : wS w s) (a : cFr s u) : wS w u := ⟨fun i => (a 576 0 i (by decide) (by decide)).trans (h.1 i), fun i => (a 577 0 i (by decide) (by decide)).trans (h.2.1 i), fun i => (a 578 0 i (by decide) (by decide)).trans (h.2.2 i)⟩
theorem zand31 {x : Int} : 0 ≤ zand x 2147483647 ∧ zand x 2147483647 ≤ 2147483647 := by
  have hb : (Int32.ofInt 2147483647).toBitVec = BitVec.ofNat 32 2147483647 := by decide
  have hle : ((Int32.ofInt x).toBitVec &&& (Int32.ofInt 2147483647).toBitVec).toNat ≤ 2147483647 := by
    rw [BitVec.toNat_and, hb, BitVec.toNat_ofNat]
    exact Nat.le_trans Nat.and_le_right (by decide)
  have e : zand x 2147483647 = (((Int32.ofInt x).toBitVec &&& (Int32.ofInt 2147483647).toBitVec).toNat : Int) := by
    unfold zand
    show ((Int32.ofInt x).toBitVec &&& (Int32.ofInt 2147483647).toBitVec).toInt = _
    rw [BitVec.toInt_eq_toNat_of_lt (by omega)]
  rw [e]
  omega
theorem zxor_b {x y : Int} (hx : 0 ≤ x ∧ x ≤ 255) (hy : 0 ≤ y ∧ y ≤ 255) : 0 ≤ zxor x y ∧ zxor x y ≤ 255 := by
  have hb : (Int32.ofInt x).toBitVec = BitVec.ofNat 32 x.toNat := zbv (by omega) (by omega)
  have hc : (Int32.ofInt y).toBitVec = BitVec.ofNat 32 y.toNat := zbv (by omega) (by omega)
  have hle : ((Int32.ofInt x).toBitVec ^^^ (Int32.ofInt y).toBitVec).toNat < 256 := by
    rw [BitVec.toNat_xor, hb, hc, BitVec.toNat_ofNat, BitVec.toNat_ofNat, Nat.mod_eq_of_lt (by omega), Nat.mod_eq_of_lt (by omega)]
    exact Nat.xor_lt_two_pow (n := 8) (by omega) (by omega)
  have e : zxor x y = (((Int32.ofInt x).toBitVec ^^^ (Int32.ofInt y).toBitVec).toNat : Int) := by
    unfold zxor
    show ((Int32.ofInt x).toBitVec ^^^ (Int32.ofInt y).toBitVec).toInt = _
    rw [BitVec.toInt_eq_toNat_of_lt (by omega)]
  rw [e]
  omega
theorem zrem_b {x n : Int} (hx : 0 ≤ x ∧ x ≤ 2147483647) (hn : 0 < n ∧ n ≤ 2147483647) : 0 ≤ zrem x n ∧ zrem x n < n := by
  have e : Int32.ofInt x - Int32.ofInt x / Int32.ofInt n * Int32.ofInt n = Int32.ofInt x % Int32.ofInt n := by
    apply Int32.toInt_inj.mp
    have h1 := Int32.le_toInt (Int32.ofInt x % Int32.ofInt n)
    have h2 := Int32.toInt_lt (Int32.ofInt x % Int32.ofInt n)
    rw [Int32.toInt_sub, Int32.toInt_mul, Int32.toInt_div, Int.bmod_mul_bmod, Int.sub_bmod_bmod, Int.mul_comm ((Int32.ofInt x).toInt.tdiv (Int32.ofInt n).toInt), ← Int.tmod_def, ← Int32.toInt_mod]
    exact Int.bmod_eq_of_le_mul_two (by omega) (by omega)
  unfold zrem
  rw [e, Int32.toInt_mod, z32 ⟨by omega, by omega⟩, z32 ⟨by omega, by omega⟩]
  exact ⟨Int.tmod_nonneg _ hx.1, Int.tmod_lt_of_pos _ hn.1⟩
theorem l90 {x n : Int} (hn : 0 < n ∧ n ≤ 2147483647) : ∃ v, zf_90 x n s = zi v s ∧ 0 ≤ v ∧ v < n := by
  unfold zf_90
  rw [if_neg (by omega)]
  exact ⟨_, rfl, zrem_b zand31 hn⟩
theorem l89 {L : Nat} {xs : Nat → Int32} (hk : 0 ≤ k ∧ k ≤ 46) : ∃ v, zf_89 L xs k s = zi v s := by
  unfold zf_89
  by_cases c : (L : Int) ≤ k
  · rw [if_pos c, zg_ok ⟨by omega, by omega⟩, zg_ok ⟨by omega, by omega⟩, zg_ok ⟨by omega, by omega⟩]
    exact ⟨_, rfl⟩
  · rw [if_neg c, zn_ok (by omega)]
    exact ⟨_, rfl⟩
theorem l94 (h : wS w s) (K : wK w) : zf_94 0 s = zi (3 + w.2.2 0) s := by
  have := K.1
  unfold zf_94
  rw [zn_ok (by decide), h.2.2, zg_ok ⟨by omega, by omega⟩]
theorem wP_b (K : wK w) : ∀ j : Nat, j ≤ wN w → 3 + w.2.2 0 ≤ wP w j ∧ wP w j ≤ 23 + 8 * j
  | 0, _ => by
    have := K.1
    show 3 + w.2.2 0 ≤ 3 + w.2.2 0 ∧ 3 + w.2.2 0 ≤ 23 + 8 * ((0 : Nat) : Int)
    omega
  | j + 1, hj => by
    have h := wP_b K j (by omega)
    have hn := K.n
    have e := K.2.2.1 j (by omega)
    show 3 + w.2.2 0 ≤ wP w j + 1 + w.2.1 (56 + j) ∧ wP w j + 1 + w.2.1 (56 + j) ≤ 23 + 8 * ((j + 1 : Nat) : Int)
    omega
theorem l111_8 (h : wS w s) (K : wK w) {i : Nat} (hi : i ≤ wN w) : ∀ (m F j : Nat), m < F → j + m = i → zf_111_8 F i 0 (wP w j) j s = zi (wP w i) s := by
  have hn := K.n
  have h2 := K.2.1
  have k1 := K.1
  intro m
  induction m with
  | zero =>
    intro F j hF hj
    obtain ⟨F, rfl⟩ : ∃ M, F = M + 1 := ⟨F - 1, by omega⟩
    unfold zf_111_8
    rw [if_pos (by omega), show j = i by omega]
  | succ m ih =>
    intro F j hF hj
    obtain ⟨F, rfl⟩ : ∃ M, F = M + 1 := ⟨F - 1, by omega⟩
    have e := K.2.2.1 j (by omega)
    have b := wP_b K j (by omega)
    have hj7 : (j : Int) < 7 := by omega
    unfold zf_111_8
    rw [if_neg (by omega), zg_ok ⟨by omega, by omega⟩, zn_ok (by omega), h.2.1, zg_ok ⟨by omega, by omega⟩, zg_ok ⟨by omega, by omega⟩, zg_ok ⟨by omega, by omega⟩]
    rw [show wP w j + (1 + w.2.1 (56 + j)) = wP w (j + 1) from (Int.add_assoc _ _ _).symm, show (j : Int) + 1 = ((j + 1 : Nat) : Int) by omega]
    exact ih F (j + 1) (by omega) (by omega)
theorem l111 (h : wS w s) (K : wK w) {i : Nat} (hi : i ≤ wN w) : zf_111 i 0 0 s = zi (wP w i) s := by
  unfold zf_111
  rw [l94 h K, zC_zi]
  have hn := K.n
  have h2 := K.2.1
  exact l111_8 h K hi i xfu 0 (pa_fu (by omega)) (by omega)
theorem l134 (h : wS w s) (K : wK w) (hp : 0 ≤ p ∧ p ≤ 200) (hk : 0 ≤ k ∧ k ≤ 10) (hg : g = 0 ∨ g = 1) : zf_134 p k g 0 s = zi (eRv p k g (w.2.2 2)) s := by
  have k6 := K.2.2.2.2.2.1
  have z2 : ∀ z : zR, zn 2 4 z = z := fun z => zn_ok (by decide)
  unfold zf_134 eRv
  simp only [z2, h.2.2]
  rcases hg with rfl | rfl
  · rw [if_pos rfl, if_pos rfl, zg_ok ⟨by omega, by omega⟩]
    by_cases c : w.2.2 2 < p + k
    · rw [if_pos c, if_pos c]
      by_cases d : w.2.2 2 ≤ p
      · rw [if_pos d, if_pos d]
      · rw [if_neg d, if_neg d]
    · rw [if_neg c, if_neg c, zg_ok ⟨by omega, by omega⟩]
  · rw [if_neg (show ¬ (1 : Int) = 0 by decide), if_neg (show ¬ (1 : Int) = 0 by decide)]
    by_cases c : w.2.2 2 < p
    · rw [if_pos c, if_pos c]
    · rw [if_neg c, if_neg c, zg_ok ⟨by omega, by omega⟩]
/-! byteAt -/
theorem yBy_app {h : Int} : ∀ (m1 m2 : Nat) (p v : Int), yBy B h (m1 + m2) p v = yBy B h m2 (p + m1) (yBy B h m1 p v)
  | 0, m2, p, v => by
    rw [Nat.zero_add, show p + ((0 : Nat) : Int) = p by omega]
    rfl
  | m1 + 1, m2, p, v => by
    rw [show m1 + 1 + m2 = (m1 + m2) + 1 by omega]
    show yBy B h (m1 + m2) (p + 1) _ = yBy B h m2 (p + ((m1 + 1 : Nat) : Int)) (yBy B h m1 (p + 1) _)
    rw [yBy_app m1 m2 (p + 1), show p + 1 + (m1 : Int) = p + ((m1 + 1 : Nat) : Int) by omega]
theorem yBy_x {m : Nat} {v : Int} : yBy B 94 (m + 1) p v = yBy B 94 m (p + 1) (zxor v (B p)) := rfl
theorem yBy_s {m : Nat} {v : Int} : yBy B 43 (m + 1) p v = yBy B 43 m (p + 1) (v + B p) := rfl
theorem yBy94_b : ∀ (m : Nat) (p v : Int), 0 ≤ v ∧ v ≤ 255 → (∀ i, p ≤ i → i < p + m → 0 ≤ B i ∧ B i ≤ 255) → 0 ≤ yBy B 94 m p v ∧ yBy B 94 m p v ≤ 255
  | 0, _, _, hv, _ => hv
  | m + 1, p, v, hv, hB => by
    rw [yBy_x]
    exact yBy94_b m (p + 1) _ (zxor_b hv (hB p (Int.le_refl _) (by omega))) fun i i1 i2 => hB i (by omega) (by omega)
theorem l112_171 (h : wS w s) (K : wK w) (b : wB w B) {zk : Int → Nat → Nat → Int → Int → Int → Int → zS → zR} {e x5 : Int} {i : Nat} (hi : (i : Int) < w.2.2 1) : ∀ (m F : Nat) (k x6 : Int), m < F → k + m = w.2.1 (56 + i) → 0 ≤ k → zf_112_171 zk F p 0 0 e x5 x6 i k s = zk p 0 0 e x5 (yBy B 94 m (wP w i + 1 + k) x6) (i + 1) s := by
  have h2 := K.2.1
  have hE := K.2.2.1 i hi
  intro m
  induction m with
  | zero =>
    intro F k x6 hF hk k0
    obtain ⟨F, rfl⟩ : ∃ M, F = M + 1 := ⟨F - 1, by omega⟩
    unfold zf_112_171
    rw [zg_ok ⟨by omega, by omega⟩, zn_ok (by omega), h.2.1, if_pos (by omega), zg_ok ⟨by omega, by omega⟩]
    rfl
  | succ m ih =>
    intro F k x6 hF hk k0
    obtain ⟨F, rfl⟩ : ∃ M, F = M + 1 := ⟨F - 1, by omega⟩
    unfold zf_112_171
    rw [zg_ok ⟨by omega, by omega⟩, zn_ok (by omega), h.2.1, if_neg (by omega), zg_ok ⟨by omega, by omega⟩, zg_ok ⟨by omega, by omega⟩, zn_ok (by omega), zg_ok ⟨by omega, by omega⟩, h.2.1, ih F (k + 1) _ (by omega) (by omega) (by omega), yBy_x, (b.2.2.2.2.1 i hi).2 k k0 (by omega), show wP w i + 1 + k + 1 = wP w i + 1 + (k + 1) by omega]
theorem l112_156 (h : wS w s) (K : wK w) (b : wB w B) {zk : Int → Nat → Nat → Int → Int → Int → Int → zS → zR} {e x5 x6 : Int} {i : Nat} (hi : (i : Int) < w.2.2 1) : zf_112_156 zk p 0 0 e x5 x6 i s = zk p 0 0 e x5 (yBy B 94 (1 + w.2.1 (56 + i)).toNat (wP w i) x6) (i + 1) s := by
  have h2 := K.2.1
  have hE := K.2.2.1 i hi
  unfold zf_112_156
  rw [zg_ok ⟨by omega, by omega⟩, zn_ok (by omega), h.2.1, l112_171 h K b hi (w.2.1 (56 + i)).toNat xfu 0 _ (pa_fu (by omega)) (by omega) (by decide), show (1 + w.2.1 (56 + i)).toNat = (w.2.1 (56 + i)).toNat + 1 by omega, yBy_x, (b.2.2.2.2.1 i hi).1, Int.add_zero]
theorem l112_88 (h : wS w s) (K : wK w) (b : wB w B) {S X : Int} (hS : B (wP w (wN w)) = zand S 255) (hX : B (wP w (wN w) + 1) = X) (hp : p < wP w (wN w) + 5) : ∀ (m F i : Nat) (x6 : Int), m < F → i + m = wN w → wP w i ≤ p → yBy B 94 (wP w (wN w) - wP w i).toNat (wP w i) x6 = X → zf_112_88 F p 0 0 (wP w (wN w)) S x6 i s = zi (B p) s := by
  have h2 := K.2.1
  have hn := K.n
  have hPN := wP_b K (wN w) (Nat.le_refl _)
  have k1 := K.1
  intro m
  induction m with
  | zero =>
    intro F i x6 hF hi hpi hx
    obtain ⟨F, rfl⟩ : ∃ M, F = M + 1 := ⟨F - 1, by omega⟩
    have hi : i = wN w := by omega
    subst hi
    rw [show (wP w (wN w) - wP w (wN w)).toNat = 0 by omega] at hx
    have hx : x6 = X := hx
    unfold zf_112_88
    rw [zn_ok (by decide), h.2.2, if_pos (by omega)]
    by_cases c0 : p = wP w (wN w)
    · rw [if_pos c0, c0, hS]
    · rw [if_neg c0, zg_ok ⟨by omega, by omega⟩]
      by_cases c1 : p = wP w (wN w) + 1
      · rw [if_pos c1, c1, hX, hx]
      · rw [if_neg c1, zg_ok ⟨by omega, by omega⟩]
        by_cases c2 : p = wP w (wN w) + 2
        · rw [if_pos c2, zn_ok (by decide), h.2.2, c2, b.2.2.2.2.2.1]
        · rw [if_neg c2, zg_ok ⟨by omega, by omega⟩, zg_ok ⟨by omega, by omega⟩, zg_ok ⟨by omega, by omega⟩]
          by_cases c3 : p = wP w (wN w) + 3
          · rw [c3, b.2.2.2.2.2.2.1, show 200 + (wP w (wN w) + 3) - wP w (wN w) - 3 = 200 by omega]
          · have c4 : p = wP w (wN w) + 4 := by omega
            rw [c4, b.2.2.2.2.2.2.2, show 200 + (wP w (wN w) + 4) - wP w (wN w) - 3 = 201 by omega]
  | succ m ih =>
    intro F i x6 hF hi hpi hx
    obtain ⟨F, rfl⟩ : ∃ M, F = M + 1 := ⟨F - 1, by omega⟩
    have hi1 : (i : Int) < w.2.2 1 := by omega
    have hE := K.2.2.1 i hi1
    have hb := wP_b K i (by omega)
    have hb1 : wP w (i + 1) = wP w i + 1 + w.2.1 (56 + i) := rfl
    have hle : wP w (i + 1) ≤ wP w (wN w) := by
      have Y := wLY K b
      have := (Y.b (i := i + 1) (by omega)).2.1
      exact this
    obtain ⟨e1, e2⟩ := b.2.2.2.2.1 i hi1
    unfold zf_112_88
    rw [zn_ok (by decide), h.2.2, if_neg (by omega), l111 h K (i := i) (by omega), zC_zi, if_neg (by omega), zg_ok ⟨by omega, by omega⟩, zn_ok (by omega), h.2.1, zg_ok ⟨by omega, by omega⟩]
    by_cases c : wP w i + w.2.1 (56 + i) < p
    · rw [if_pos c, l112_156 h K b hi1]
      rw [show (i : Int) + 1 = ((i + 1 : Nat) : Int) by omega]
      refine ih F (i + 1) _ (by omega) (by omega) (by omega) ?_
      rw [← hx, show (wP w (wN w) - wP w i).toNat = (1 + w.2.1 (56 + i)).toNat + (wP w (wN w) - wP w (i + 1)).toNat by omega, yBy_app, show wP w i + ((1 + w.2.1 (56 + i)).toNat : Int) = wP w (i + 1) by omega]
    · rw [if_neg c]
      by_cases d : p = wP w i
      · rw [if_pos d, zn_ok (by omega), d, e1]
      · have e3 := e2 (p - (wP w i + 1)) (by omega) (by omega)
        rw [if_neg d, zg_ok ⟨by omega, by omega⟩, zg_ok ⟨by omega, by omega⟩, zg_ok ⟨by omega, by omega⟩, zg_ok ⟨by omega, by omega⟩, zn_ok (by omega), h.2.1, show 8 * (i : Int) + p - wP w i - 1 = 8 * i + (p - (wP w i + 1)) by omega, ← e3, show wP w i + 1 + (p - (wP w i + 1)) = p by omega]
theorem l112_62 (h : wS w s) (K : wK w) (b : wB w B) {e : Int} : ∀ (m F : Nat) (k x5 : Int), m < F → k + m = w.2.2 0 → 0 ≤ k → 0 ≤ x5 ∧ x5 ≤ 255 * k → zf_112_62 F p 0 0 0 e x5 0 k s = zf_112_88 xfu p 0 0 e (yBy B 43 m (3 + k) x5) 0 0 s := by
  have k1 := K.1
  intro m
  induction m with
  | zero =>
    intro F k x5 hF hk k0 hx
    obtain ⟨F, rfl⟩ : ∃ M, F = M + 1 := ⟨F - 1, by omega⟩
    unfold zf_112_62
    rw [zn_ok (by decide), h.2.2, if_pos (by omega)]
    rfl
  | succ m ih =>
    intro F k x5 hF hk k0 hx
    obtain ⟨F, rfl⟩ : ∃ M, F = M + 1 := ⟨F - 1, by omega⟩
    have hd := K.2.2.2.1 k k0 (by omega)
    unfold zf_112_62
    rw [zn_ok (by decide), h.2.2, if_neg (by omega), zn_ok (by omega), h.1, zg_ok ⟨by omega, by omega⟩, zg_ok ⟨by omega, by omega⟩, ih F (k + 1) _ (by omega) (by omega) (by omega) (by omega), yBy_s, b.2.2.2.1 k k0 (by omega), show 3 + k + 1 = 3 + (k + 1) by omega]
theorem l112 (h : wS w s) (K : wK w) (b : wB w B) (sm : LSm B (wP w) (w.2.2 0) (wN w)) (hp : 0 ≤ p ∧ p < wP w (wN w) + 5) : zf_112 p 0 0 0 s = zi (B p) s := by
  have k1 := K.1
  have h2 := K.2.1
  have hn := K.n
  have hPN := wP_b K (wN w) (Nat.le_refl _)
  have by_ := w_bytes K b sm
  obtain ⟨b0, b1, b2, b3, b4, b5, b6, b7⟩ := id b
  unfold zf_112
  rw [zn_ok (by decide), h.2.2, ← hn, l111 h K (Nat.le_refl _), zC_zi]
  by_cases c3 : 3 ≤ p
  · rw [if_pos c3, l94 h K, zC_zi]
    by_cases c : 3 + w.2.2 0 ≤ p
    · rw [if_pos c, l112_62 h K b (w.2.2 0).toNat xfu 0 0 (pa_fu (by omega)) (by omega) (by decide) (by decide), Int.add_zero]
      have hX : 0 ≤ yBy B 94 (wP w (wN w) - (3 + w.2.2 0)).toNat (3 + w.2.2 0) 0 ∧ yBy B 94 (wP w (wN w) - (3 + w.2.2 0)).toNat (3 + w.2.2 0) 0 ≤ 255 := yBy94_b _ _ _ (by decide) fun i i1 i2 => by_ i (by omega) (by omega)
      refine l112_88 h K b (X := yBy B 94 (wP w (wN w) - (3 + w.2.2 0)).toNat (3 + w.2.2 0) 0) ?_ ?_ hp.2 (wN w) xfu 0 0 (pa_fu (by omega)) (by omega) c rfl
      · rw [sm.1]
        unfold yCut
        rw [show zshl 1 8 - 1 = 255 by decide]
      · rw [sm.2]
        exact zand_s hX
    · rw [if_neg c, zg_ok ⟨by omega, by omega⟩, zn_ok (by omega), h.1, ← b3 (p - 3) (by omega) (by omega), show 3 + (p - 3) = p by omega]
  · rw [if_neg c3]
    by_cases d0 : p = 0
    · rw [if_pos d0, d0, b0]
    · rw [if_neg d0]
      by_cases d1 : p = 1
      · rw [if_pos d1, zn_ok (by decide), h.2.2, d1, b1]
      · rw [if_neg d1, zn_ok (by decide), h.2.2, show p = 2 by omega, b2]
end
