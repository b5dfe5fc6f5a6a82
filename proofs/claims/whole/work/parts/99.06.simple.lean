/-! size, byteAt, state, parent, goTo, find -/
def sByteAt (p : Int) (A : aA) : Int ⊕ Nat := if 0 ≤ p ∧ p < A.1 3 0 then .inl (A.1 2 p) else .inr 2
def sParent (j : Int) (A : aA) : Int ⊕ Nat := if 0 ≤ j ∧ j < A.1 387 0 then .inl (A.1 386 j) else .inr 2
def aGo (j : Int) (A : aA) : aA := (fun f i => if f = 2 then A.1 384 (160 * j + i) else if f = 3 then A.1 385 j else if f = 388 then j else A.1 f i, A.2)
def sGoTo (j : Int) (A : aA) : (Int ⊕ Nat) × aA := if 0 ≤ j ∧ j < A.1 387 0 then (.inl (A.1 385 j), aGo j A) else (.inr 2, A)
def aFind (B : yB) (v m : Int) : Nat → Int → Int
  | 0, _ => -1
  | k + 1, p => if zand (B p) m = zand v m then p else aFind B v m k (p + 1)
def sFind (v m f : Int) (A : aA) : Int ⊕ Nat := if (0 ≤ v ∧ v ≤ 255) ∧ (0 ≤ m ∧ m ≤ 255) ∧ 0 ≤ f ∧ f ≤ 200 then .inl (aFind (A.1 2) v m (A.1 3 0 - f).toNat f) else .inr 0
section
variable {A : aA} {s u : zS} {p j v m f : Int}
theorem cKeep (h : cR A s) (c : cC A s) : cOut (zi v s) (.inl v) A s := ⟨s, rfl, h, c, cFr.rf, by omega⟩
theorem cThr {e : Nat} (h : cR A s) (c : cC A s) : cOut (zt e s) (.inr e) A s := ⟨(s.1, s.2.1, s.2.2 + 1), rfl, h, c, cFr.rf, Nat.le_refl _⟩
theorem mKeep0 {cd : Nat → Int} (h : mR A s) (ok : aOK A) : mOut (zi v (zp 576 0 0 0 s)) (.inl v) cd A s := ⟨v, _, rfl, h.k ok fun f i hf => zp_nk (by omega), mFr.rf.pw (by decide), rfl, zp_eq⟩
theorem C108 (h : cR A s) (c : cC A s) : cOut (zf_108 0 s) (.inl (A.1 3 0)) A s := by
  unfold zf_108
  rw [h.2.1.1]
  exact cKeep h c
theorem M150 {cd : Nat → Int} (h : mR A s) (ok : aOK A) : mOut (zf_150 0 s) (.inl (A.1 3 0)) cd A s := by
  unfold zf_150
  rw [zP_ok, zp_nk (by decide), h.2.1.1]
  exact mKeep0 h ok
theorem C110 (h : cR A s) (c : cC A s) : cOut (zf_110 0 s) (.inl (A.1 388 0)) A s := by
  unfold zf_110
  rw [h.2.2.2.1]
  exact cKeep h c
theorem M152 {cd : Nat → Int} (h : mR A s) (ok : aOK A) : mOut (zf_152 0 s) (.inl (A.1 388 0)) cd A s := by
  unfold zf_152
  rw [zP_ok, zp_nk (by decide), h.2.2.2.1]
  exact mKeep0 h ok
/-- a byte of a row, 0 behind its end -/
theorem zb_2 {b : Nat} {n : Int} {B : yB} (h1 : s.1 1 b 0 = n) (h2 : ∀ i, 0 ≤ i → i < n → s.1 0 b i = B i) (hn : n ≤ zlB b) : zf_2 b p s = zi (if 0 ≤ p ∧ p < n then B p else 0) s := by
  unfold zf_2
  rw [h1]
  by_cases c1 : p < 0
  · rw [if_pos c1, if_neg (by omega)]
  · rw [if_neg c1]
    by_cases c2 : n ≤ p
    · rw [if_pos c2, if_neg (by omega)]
    · rw [if_neg c2, zn_ok (by omega), if_pos (by omega), h2 p (by omega) (by omega)]
theorem C109 (h : cR A s) (ok : aOK A) (c : cC A s) : cOut (zf_109 0 p s) (sByteAt p A) A s := by
  have o := ok.2.1.1
  unfold zf_109 sByteAt
  rw [h.2.1.1]
  by_cases c1 : p < 0
  · rw [if_pos c1, if_neg (by omega)]
    exact cThr h c
  · rw [if_neg c1]
    by_cases c2 : p < A.1 3 0
    · rw [if_pos c2, if_pos ⟨by omega, c2⟩, zb_2 h.2.1.1 h.2.1.2 (by rw [show zlB 1 = 160 from rfl]; omega), zC_zi, if_pos ⟨by omega, c2⟩]
      exact cKeep h c
    · rw [if_neg c2, if_neg (by omega)]
      exact cThr h c
theorem M151 (h : mR A s) (ok : aOK A) : mOut (zf_151 0 p s) (sByteAt p A) cd2 A s := by
  have o := ok.2.1.1
  unfold zf_151 sByteAt zf_151_20
  rw [h.2.1.1, zg_ok ⟨by omega, by omega⟩, z146, zC_zi]
  by_cases c : 0 ≤ p ∧ p < A.1 3 0
  · rw [if_pos (show 0 ≤ p ∧ p ≤ A.1 3 0 - 1 by omega), if_neg (by decide), zP_ok, if_pos (by rw [zp_eq]; decide), zn_ok (by omega), zp_nk (by decide), h.2.1.2 p c.1 c.2, if_pos c]
    exact mKeep0 h ok
  · rw [if_neg (show ¬ (0 ≤ p ∧ p ≤ A.1 3 0 - 1) by omega), if_pos rfl, zP_ok, if_neg (by rw [zp_eq]; decide), if_neg c]
    exact mThr (e := 2) (cd := cd2) h ok
theorem z134 (h : cR A s) : zf_134 0 j s = if 0 ≤ j ∧ j < A.1 387 0 then zi 0 s else zt 2 s := by
  unfold zf_134
  rw [h.2.2.1.1]
  by_cases c1 : j < 0
  · rw [if_pos c1, if_neg (by omega)]
  · rw [if_neg c1]
    by_cases c2 : j < A.1 387 0
    · rw [if_pos c2, if_pos ⟨by omega, c2⟩]
    · rw [if_neg c2, if_neg (by omega)]
theorem z89 {c : Int} (h : s.1 387 0 0 = c) : zf_89 0 j s = zi (if 0 ≤ j ∧ j < c then 1 else 0) s := by
  unfold zf_89
  rw [h]
  by_cases c1 : j < 0
  · rw [if_pos c1, if_neg (by omega)]
    rfl
  · rw [if_neg c1]
    by_cases c2 : c ≤ j
    · rw [if_pos c2, if_neg (by omega)]
      rfl
    · rw [if_neg c2, if_pos (by omega)]
      rfl
theorem z153 (h : mR A s) (ok : aOK A) : zf_153 0 j s = zi (if 0 ≤ j ∧ j < A.1 387 0 then 1 else 0) s := by
  have o := ok.2.2.1.1
  unfold zf_153
  rw [h.2.2.1.1, zg_ok ⟨by omega, by omega⟩, z146, zC_zi]
  by_cases c : 0 ≤ j ∧ j < A.1 387 0
  · rw [if_pos c, if_pos (show 0 ≤ j ∧ j ≤ A.1 387 0 - 1 by omega)]
    rfl
  · rw [if_neg c, if_neg (show ¬ (0 ≤ j ∧ j ≤ A.1 387 0 - 1) by omega)]
    rfl
theorem C111 (h : cR A s) (ok : aOK A) (c : cC A s) : cOut (zf_111 0 j s) (sParent j A) A s := by
  have o := ok.2.2.1.1
  unfold zf_111 sParent zf_90
  rw [z134 h]
  by_cases d : 0 ≤ j ∧ j < A.1 387 0
  · rw [if_pos d, zC_zi, z89 h.2.2.1.1, zC_zi, if_pos d, if_neg (by decide), zn_ok (by omega), zC_zi, (h.2.2.1.2 j d.1 d.2).2.1, if_pos d]
    exact cKeep h c
  · rw [if_neg d, if_neg d]
    exact cThr h c
theorem M154 (h : mR A s) (ok : aOK A) : mOut (zf_154 0 j s) (sParent j A) cd2 A s := by
  have o := ok.2.2.1.1
  unfold zf_154 sParent zf_154_14
  rw [z153 h ok, zC_zi]
  by_cases d : 0 ≤ j ∧ j < A.1 387 0
  · rw [if_pos d, if_neg (by decide), zP_ok, if_pos (by rw [zp_eq]; decide), zn_ok (by omega), zp_nk (by decide), (h.2.2.1.2 j d.1 d.2).2.1, if_pos d]
    exact mKeep0 h ok
  · rw [if_neg d, if_pos rfl, zP_ok, if_neg (by rw [zp_eq]; decide), if_neg d]
    exact mThr (e := 2) (cd := cd2) h ok
/-- the bytes of a state come into a row -/
theorem C94_14 {z : Int} (hz : 0 ≤ z ∧ z ≤ 160) (hj : 0 ≤ j ∧ j < 30) : ∀ (k M : Nat) (q c : Int) (s : zS), k < M → k = (z - q).toNat → 0 ≤ q → q ≤ z → s.1 387 0 0 = c → j < c → s.1 385 0 j = z → s.1 1 1 0 = q → ∃ u, zf_94_14 M 0 j 1 z q s = zi 0 u ∧ (∀ (f' n' : Nat) (i' : Int), ¬ (n' = 1 ∧ (f' = 1 ∨ f' = 0)) → u.1 f' n' i' = s.1 f' n' i') ∧ u.2 = s.2 ∧ u.1 1 1 0 = z ∧ (∀ i, q ≤ i → i < z → u.1 0 1 i = s.1 384 0 (160 * j + i)) ∧ ∀ i, i < q → u.1 0 1 i = s.1 0 1 i := by
  intro k
  induction k with
  | zero =>
    intro M q c s hM hk q0 qz h1 h2 h3 h4
    obtain ⟨M, rfl⟩ : ∃ L, M = L + 1 := ⟨M - 1, by omega⟩
    unfold zf_94_14
    rw [if_pos (by omega)]
    exact ⟨s, rfl, fun _ _ _ _ => rfl, rfl, by omega, fun i i1 i2 => by omega, fun i _ => rfl⟩
  | succ k ih =>
    intro M q c s hM hk q0 qz h1 h2 h3 h4
    obtain ⟨M, rfl⟩ : ∃ L, M = L + 1 := ⟨M - 1, by omega⟩
    unfold zf_94_14 zf_92 zf_91 zf_4
    rw [if_neg (show ¬ z ≤ q by omega), if_neg (show ¬ q < 0 by omega), z89 h1, zC_zi, if_pos (show 0 ≤ j ∧ j < c from ⟨hj.1, h2⟩), if_neg (show ¬ (1 : Int) = 0 by decide), zn_ok (by omega), h3, zC_zi, if_neg (show ¬ z ≤ q by omega), zg_ok ⟨by omega, by omega⟩, zg_ok ⟨by omega, by omega⟩, zn_ok (by omega), zC_zi, h4, show ((zlB 1 : Nat) : Int) = 160 from rfl, if_neg (show ¬ (160 : Int) ≤ q by omega), zW_ok (by rw [show zlB 1 = 160 from rfl]; omega), zp_nk (by decide), h4, zg_ok ⟨by omega, by omega⟩, zP_ok, zC_zi, zg_ok ⟨by omega, by omega⟩]
    have e : ∀ (f' n' : Nat) (i' : Int), ¬ (n' = 1 ∧ (f' = 1 ∨ f' = 0)) → (zp 1 1 0 (q + 1) (zp 0 1 q (s.1 384 0 (j * 160 + q)) s)).1 f' n' i' = s.1 f' n' i' := fun f' n' i' hn => by
      rw [zp_n3 (by omega), zp_n3 (by omega)]
    obtain ⟨u, a1, a2, a3, a4, a5, a6⟩ := ih M (q + 1) c (zp 1 1 0 (q + 1) (zp 0 1 q (s.1 384 0 (j * 160 + q)) s)) (by omega) (by omega) (by omega) (by omega) ((e 387 0 0 (by decide)).trans h1) h2 ((e 385 0 j (by decide)).trans h3) zp_eq
    refine ⟨u, a1, fun f' n' i' hn => (a2 f' n' i' hn).trans (e f' n' i' hn), a3, a4, fun i i1 i2 => ?_, fun i i1 => ?_⟩
    · by_cases d : i = q
      · rw [a6 i (by omega), zp_nk (by decide), d, zp_eq, show j * 160 + q = 160 * j + q by omega]
      · rw [a5 i (by omega) i2, e 384 0 _ (by decide)]
    · rw [a6 i (by omega), zp_nk (by decide), zp_ni (by omega)]
theorem C112 (h : cR A s) (ok : aOK A) (c : cC A s) : cOut (zf_112 0 j s) (sGoTo j A).1 (sGoTo j A).2 s := by
  have o := ok.2.2.1
  unfold zf_112 sGoTo zf_94 zf_91
  rw [z134 h]
  by_cases d : 0 ≤ j ∧ j < A.1 387 0
  · obtain ⟨h1, h2, h3, h4, h5, h6, h7⟩ := id h
    obtain ⟨g1, g2, g3⟩ := h3.2 j d.1 d.2
    have oj := (o.2 j d.1 d.2).1
    rw [if_pos d, zC_zi, zP_ok, z89 (c := A.1 387 0) ((zp_nk (by decide)).trans h3.1), zC_zi, if_pos d, if_neg (by decide), zn_ok (by omega), zC_zi, zP_ok, zp_nk (by decide), g1, if_pos d]
    have e : ∀ (f' n' : Nat) (i' : Int), f' ≠ 388 → f' ≠ 1 → (zp 1 1 0 0 (zp 388 0 0 j s)).1 f' n' i' = s.1 f' n' i' := fun f' n' i' f1 f2 => (zp_nk f2).trans (zp_nk f1)
    obtain ⟨u, a1, a2, a3, a4, a5, a6⟩ := C94_14 (j := j) (z := A.1 385 j) oj (by omega) (A.1 385 j - 0).toNat xfu 0 (A.1 387 0) (zp 1 1 0 0 (zp 388 0 0 j s)) (pa_fu (by omega)) rfl (Int.le_refl _) oj.1 ((e 387 0 0 (by decide) (by decide)).trans h3.1) d.2 ((e 385 0 j (by decide) (by decide)).trans g1) zp_eq
    have b : ∀ (f' n' : Nat) (i' : Int), f' ≠ 388 → f' ≠ 1 → f' ≠ 0 → u.1 f' n' i' = s.1 f' n' i' := fun f' n' i' f1 f2 f3 => (a2 f' n' i' (by omega)).trans (e f' n' i' f1 f2)
    rw [a1, zC_zi, zP_ok, show (zp 523 0 0 (-3) u).1 1 1 0 = A.1 385 j from (zp_nk (by decide)).trans a4]
    refine ⟨_, rfl, ?_, Or.inl zp_eq, fun f n i f1 f2 => (zp_nk (by omega)).trans (b f n i (by omega) (by omega) (by omega)), by rw [show (zp 523 0 0 (-3) u).2 = s.2 from a3]; omega⟩
    have k : ∀ (f' n' : Nat) (i' : Int), f' ≠ 523 → (zp 523 0 0 (-3) u).1 f' n' i' = u.1 f' n' i' := fun f' n' i' f1 => zp_nk f1
    refine ⟨⟨?_, fun i i1 i2 => ?_⟩, ⟨(k 1 1 0 (by decide)).trans a4, fun i i1 i2 => ?_⟩, ⟨(k 387 0 0 (by decide)).trans ((b 387 0 0 (by decide) (by decide) (by decide)).trans h3.1), fun l l1 l2 => ?_⟩, (k 388 0 0 (by decide)).trans ((a2 388 0 0 (by decide)).trans ((zp_nk (by decide)).trans zp_eq)), ⟨(k 522 0 0 (by decide)).trans ((b 522 0 0 (by decide) (by decide) (by decide)).trans h5.1), by rw [show (zp 523 0 0 (-3) u).2 = s.2 from a3]; exact h5.2⟩, fun l l1 l2 => ?_, fun l l2 f i f1 f2 => ?_⟩
    · rw [k 1 0 0 (by decide), a2 1 0 0 (by decide), zp_n3 (by decide), zp_nk (by decide)]
      exact h1.1
    · rw [k 0 0 i (by decide), a2 0 0 i (by decide), zp_nk (by decide), zp_nk (by decide)]
      exact h1.2 i i1 i2
    · have i2 : i < A.1 385 j := i2
      rw [k 0 1 i (by decide), a5 i i1 i2, e 384 0 _ (by decide) (by decide)]
      exact g3 i i1 i2
    · obtain ⟨q1, q2, q3⟩ := h3.2 l l1 l2
      rw [k 385 0 l (by decide), k 386 0 l (by decide), b 385 0 l (by decide) (by decide) (by decide), b 386 0 l (by decide) (by decide) (by decide)]
      refine ⟨q1, q2, fun i i1 i2 => ?_⟩
      rw [k 384 0 _ (by decide), b 384 0 _ (by decide) (by decide) (by decide)]
      exact q3 i i1 i2
    · rw [k 515 0 l (by decide), b 515 0 l (by decide) (by decide) (by decide), show (zp 523 0 0 (-3) u).2 = s.2 from a3]
      exact h6 l l1 l2
    · rw [k f l i (by omega), b f l i (by omega) (by omega) (by omega)]
      exact h7 l l2 f i f1 f2
  · rw [if_neg d, if_neg d]
    exact cThr h c
theorem M155_43 {z : Int} (hz : 0 ≤ z ∧ z ≤ 160) (hj : 0 ≤ j ∧ j < 30) : ∀ (k M : Nat) (q : Int) (s : zS), k < M → k = (z - q).toNat → 0 ≤ q → s.1 594 0 0 = z → ∃ u, zf_155_43 M 0 j q s = zi z u ∧ (∀ (f' n' : Nat) (i' : Int), ¬ (n' = 0 ∧ f' = 595) → u.1 f' n' i' = s.1 f' n' i') ∧ u.2 = s.2 ∧ (∀ i, q ≤ i → i < z → u.1 595 0 i = s.1 602 0 (160 * j + i)) ∧ ∀ i, i < q → u.1 595 0 i = s.1 595 0 i := by
  intro k
  induction k with
  | zero =>
    intro M q s hM hk q0 h1
    obtain ⟨M, rfl⟩ : ∃ L, M = L + 1 := ⟨M - 1, by omega⟩
    unfold zf_155_43
    rw [h1, if_pos (by omega)]
    exact ⟨s, rfl, fun _ _ _ _ => rfl, rfl, fun i i1 i2 => by omega, fun i _ => rfl⟩
  | succ k ih =>
    intro M q s hM hk q0 h1
    obtain ⟨M, rfl⟩ : ∃ L, M = L + 1 := ⟨M - 1, by omega⟩
    unfold zf_155_43
    rw [h1, if_neg (by omega), zg_ok ⟨by omega, by omega⟩, zg_ok ⟨by omega, by omega⟩, zn_ok (by omega), zW_ok (by omega), zg_ok ⟨by omega, by omega⟩]
    obtain ⟨u, a1, a2, a3, a4, a5⟩ := ih M (q + 1) (zp 595 0 q (s.1 602 0 (160 * j + q)) s) (by omega) (by omega) (by omega) ((zp_nk (by decide)).trans h1)
    refine ⟨u, a1, fun f' n' i' hn => (a2 f' n' i' hn).trans (zp_n3 (by omega)), a3, fun i i1 i2 => ?_, fun i i1 => ?_⟩
    · by_cases d : i = q
      · rw [a5 i (by omega), d, zp_eq]
      · rw [a4 i (by omega) i2, zp_nk (by decide)]
    · rw [a5 i (by omega), zp_ni (by omega)]
theorem M155 (h : mR A s) (ok : aOK A) : mOut (zf_155 0 j s) (sGoTo j A).1 cd2 (sGoTo j A).2 s := by
  have o := ok.2.2.1
  unfold zf_155 sGoTo zf_155_14
  rw [z153 h ok, zC_zi]
  by_cases d : 0 ≤ j ∧ j < A.1 387 0
  · obtain ⟨h1, h2, h3, h4, h5, h6, h7⟩ := id h
    obtain ⟨g1, g2, g3⟩ := h3.2 j d.1 d.2
    have oj := (o.2 j d.1 d.2).1
    rw [if_pos d, if_neg (by decide), zP_ok, if_pos (by rw [zp_eq]; decide), zP_ok, zn_ok (by omega), zP_ok, zp_nk (by decide), zp_nk (by decide), g1, if_pos d]
    have e : ∀ (f' n' : Nat) (i' : Int), f' ≠ 576 → f' ≠ 598 → f' ≠ 594 → (zp 594 0 0 (A.1 385 j) (zp 598 0 0 j (zp 576 0 0 0 s))).1 f' n' i' = s.1 f' n' i' := fun f' n' i' f1 f2 f3 => (zp_nk f3).trans ((zp_nk f2).trans (zp_nk f1))
    obtain ⟨u, a1, a2, a3, a4, a5⟩ := M155_43 (j := j) (z := A.1 385 j) oj (by omega) (A.1 385 j - 0).toNat xfu 0 (zp 594 0 0 (A.1 385 j) (zp 598 0 0 j (zp 576 0 0 0 s))) (pa_fu (by omega)) rfl (Int.le_refl _) zp_eq
    have b : ∀ (f' n' : Nat) (i' : Int), f' ≠ 576 → f' ≠ 598 → f' ≠ 594 → f' ≠ 595 → u.1 f' n' i' = s.1 f' n' i' := fun f' n' i' f1 f2 f3 f4 => (a2 f' n' i' (by omega)).trans (e f' n' i' f1 f2 f3)
    refine ⟨_, u, a1, ?_, ⟨fun f' n' i' hn => b f' n' i' (by omega) (by omega) (by omega) (by omega), a3⟩, rfl, (a2 576 0 0 (by decide)).trans ((zp_nk (by decide)).trans ((zp_nk (by decide)).trans zp_eq))⟩
    refine ⟨⟨(b 577 0 0 (by decide) (by decide) (by decide) (by decide)).trans h1.1, fun i i1 i2 => (b 578 0 i (by decide) (by decide) (by decide) (by decide)).trans (h1.2 i i1 i2)⟩, ⟨(a2 594 0 0 (by decide)).trans zp_eq, fun i i1 i2 => ?_⟩, ⟨(b 599 0 0 (by decide) (by decide) (by decide) (by decide)).trans h3.1, fun l l1 l2 => ?_⟩, (a2 598 0 0 (by decide)).trans ((zp_nk (by decide)).trans zp_eq), (b 579 0 0 (by decide) (by decide) (by decide) (by decide)).trans h5, fun k k2 => ?_, fun i => by rw [b 589 0 i (by decide) (by decide) (by decide) (by decide)]; exact h7 i⟩
    · have i2 : i < A.1 385 j := i2
      rw [a4 i i1 i2, e 602 0 _ (by decide) (by decide) (by decide)]
      exact g3 i i1 i2
    · obtain ⟨q1, q2, q3⟩ := h3.2 l l1 l2
      exact ⟨(b 600 0 l (by decide) (by decide) (by decide) (by decide)).trans q1, (b 601 0 l (by decide) (by decide) (by decide) (by decide)).trans q2, fun i i1 i2 => (b 602 0 _ (by decide) (by decide) (by decide) (by decide)).trans (q3 i i1 i2)⟩
    · obtain ⟨q1, q2⟩ := h6 k k2
      exact ⟨(b 580 0 k (by decide) (by decide) (by decide) (by decide)).trans q1, q2.c (ok.2.2.2.2.2 k k2).1 fun f i hf => b f 0 i (by omega) (by omega) (by omega) (by omega)⟩
  · rw [if_neg d, if_pos rfl, zP_ok, if_neg (by rw [zp_eq]; decide), if_neg d]
    exact mThr (e := 2) (cd := cd2) h ok
theorem aOK_goTo (ok : aOK A) : aOK (sGoTo j A).2 := by
  unfold sGoTo
  split
  · rename_i d
    obtain ⟨o1, o2, o3, o4, o5, o6⟩ := ok
    have oj := o3.2 j d.1 d.2
    refine ⟨o1, ⟨oj.1, fun i i1 i2 => oj.2.2 i i1 i2⟩, o3, ?_, o5, o6⟩
    show -1 ≤ j ∧ j < 30
    omega
  · exact ok
theorem C121_46 (h1 : s.1 1 1 0 = A.1 3 0) (h2 : ∀ i, 0 ≤ i → i < A.1 3 0 → s.1 0 1 i = A.1 2 i) (hn : A.1 3 0 ≤ 160) : ∀ (k M : Nat) (q : Int), k < M → k = (A.1 3 0 - q).toNat → 0 ≤ q → q ≤ 1000 → zf_121_46 M 0 v m q s = zi (aFind (A.1 2) v m k q) s := by
  intro k
  induction k with
  | zero =>
    intro M q hM hk q0 q1
    obtain ⟨M, rfl⟩ : ∃ L, M = L + 1 := ⟨M - 1, by omega⟩
    unfold zf_121_46
    rw [h1, if_pos (by omega)]
    rfl
  | succ k ih =>
    intro M q hM hk q0 q1
    obtain ⟨M, rfl⟩ : ∃ L, M = L + 1 := ⟨M - 1, by omega⟩
    unfold zf_121_46 aFind
    rw [h1, if_neg (by omega), zb_2 h1 h2 (by rw [show zlB 1 = 160 from rfl]; omega), zC_zi, if_pos (show 0 ≤ q ∧ q < A.1 3 0 from ⟨q0, by omega⟩)]
    by_cases d : zand (A.1 2 q) m = zand v m
    · rw [if_pos d, if_pos d]
    · rw [if_neg d, if_neg d, zg_ok ⟨by omega, by omega⟩]
      exact ih M (q + 1) (by omega) (by omega) (by omega) (by omega)
theorem C121 (h : cR A s) (ok : aOK A) (c : cC A s) : cOut (zf_121 0 v m f s) (sFind v m f A) A s := by
  have o := ok.2.1.1
  unfold zf_121 sFind
  by_cases d : (0 ≤ v ∧ v ≤ 255) ∧ (0 ≤ m ∧ m ≤ 255) ∧ 0 ≤ f ∧ f ≤ 200
  · rw [if_neg (show ¬ v < 0 by omega), if_neg (show ¬ 255 < v by omega), if_neg (show ¬ m < 0 by omega), if_neg (show ¬ 255 < m by omega), if_neg (show ¬ f < 0 by omega), if_pos (show f ≤ 200 by omega), if_pos d, C121_46 h.2.1.1 h.2.1.2 o.2 (A.1 3 0 - f).toNat xfu f (pa_fu (by omega)) rfl (by omega) (by omega)]
    exact cKeep h c
  · rw [if_neg d]
    have t : cOut (zt 0 s) (.inr 0) A s := cThr h c
    split
    · exact t
    · split
      · exact t
      · split
        · exact t
        · split
          · exact t
          · split
            · exact t
            · split
              · exact absurd ⟨⟨by omega, by omega⟩, ⟨by omega, by omega⟩, by omega, by omega⟩ d
              · exact t
theorem M201_54 (h1 : s.1 594 0 0 = A.1 3 0) (h2 : ∀ i, 0 ≤ i → i < A.1 3 0 → s.1 595 0 i = A.1 2 i) (hn : A.1 3 0 ≤ 160) : ∀ (k M : Nat) (q : Int), k < M → k = (A.1 3 0 - q).toNat → 0 ≤ q → q ≤ 1000 → zf_201_54 M 0 v m q s = zi (aFind (A.1 2) v m k q) s := by
  intro k
  induction k with
  | zero =>
    intro M q hM hk q0 q1
    obtain ⟨M, rfl⟩ : ∃ L, M = L + 1 := ⟨M - 1, by omega⟩
    unfold zf_201_54
    rw [h1, if_pos (by omega)]
    rfl
  | succ k ih =>
    intro M q hM hk q0 q1
    obtain ⟨M, rfl⟩ : ∃ L, M = L + 1 := ⟨M - 1, by omega⟩
    unfold zf_201_54 aFind
    rw [h1, if_neg (by omega), zn_ok (by omega), h2 q q0 (by omega)]
    by_cases d : zand (A.1 2 q) m = zand v m
    · rw [if_pos d, if_pos d]
    · rw [if_neg d, if_neg d, zg_ok ⟨by omega, by omega⟩]
      exact ih M (q + 1) (by omega) (by omega) (by omega) (by omega)
theorem M201 (h : mR A s) (ok : aOK A) : mOut (zf_201 0 v m f s) (sFind v m f A) cd01 A s := by
  have o := ok.2.1.1
  unfold zf_201 sFind
  rw [z146, zC_zi]
  have t : mOut (zf_201_39 0 v m f 0 1 s) (.inr 0) cd01 A s := by
    unfold zf_201_39
    rw [zP_ok, if_neg (by rw [zp_eq]; decide)]
    exact mThr (e := 0) (cd := cd01) h ok
  by_cases d1 : 0 ≤ v ∧ v ≤ 255
  · rw [if_pos d1, if_neg (by decide), z146, zC_zi]
    by_cases d2 : 0 ≤ m ∧ m ≤ 255
    · rw [if_pos d2, if_neg (by decide), z146, zC_zi]
      by_cases d3 : 0 ≤ f ∧ f ≤ 200
      · unfold zf_201_39
        rw [if_pos d3, if_neg (by decide), zP_ok, if_pos (by rw [zp_eq]; decide), if_pos ⟨d1, d2, d3⟩, M201_54 (A := A) ((zp_nk (by decide)).trans h.2.1.1) (fun i i1 i2 => (zp_nk (by decide)).trans (h.2.1.2 i i1 i2)) o.2 (A.1 3 0 - f).toNat xfu f (pa_fu (by omega)) rfl (by omega) (by omega)]
        exact mKeep0 h ok
      · rw [if_neg d3, if_pos rfl, if_neg (fun z => d3 z.2.2)]
        exact t
    · rw [if_neg d2, if_pos rfl, if_neg (fun z => d2 z.2.1)]
      exact t
  · rw [if_neg d1, if_pos rfl, if_neg (fun z => d1 z.1)]
    exact t
end
