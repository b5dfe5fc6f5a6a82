/-! size, byteAt, state, parent, goTo, find -/
def sByteAt (p : Int) (A : aA) : Int ⊕ Nat := if 0 ≤ p ∧ p < A.1 3 0 then .inl (A.1 2 p) else .inr 2
def sParent (j : Int) (A : aA) : Int ⊕ Nat := if 0 ≤ j ∧ j < A.1 387 0 then .inl (A.1 386 j) else .inr 2
def aGo (j : Int) (A : aA) : aA := (fun f i => if f = 2 then A.1 384 (160 * j + i) else if f = 3 then A.1 385 j else if f = 388 then j else A.1 f i, A.2)
def sGoTo (j : Int) (A : aA) : (Int ⊕ Nat) × aA := if 0 ≤ j ∧ j < A.1 387 0 then (.inl (A.1 385 j), aGo j A) else (.inr 2, A)
def aFind (B : yB) (v m : Int) : Nat → Int → Int
  | 0, _ => -1
  | k + 1, p => if zand (B p) m = zand v m then p else aFind B v m k (p + 1)
def sFind (v m f : Int) (A : aA) : Int ⊕ Nat := if (0 ≤ v ∧ v ≤ 255) ∧ (0 ≤ m ∧ m ≤ 255) ∧ 0 ≤ f ∧ f ≤ 200 then .inl (aFind (A.1 2) v m (A.1 3 0 - f).toNat f) else .inr 0
section
variable {A : aA} {s u : zS} {p j v m f : Int}
theorem cKeep (h : cR A s) (c : cC A s) : cOut (zi v s) (.inl v) A s := ⟨s, rfl, h, c, cFr.rf, by omega⟩
theorem cThr {e : Nat} (h : cR A s) (c : cC A s) : cOut (zt e s) (.inr e) A s := ⟨(s.1, s.2.1, s.2.2 + 1), rfl, h, c, cFr.rf, Nat.le_refl _⟩
theorem mKeep0 {cd : Nat → Int} (h : mR A s) (ok : aOK A) : mOut (zi v (zp 576 0 0 0 s)) (.inl v) cd A s := ⟨v, _, rfl, h.k ok fun f i hf => zp_nk (by omega), mFr.rf.pw (by decide), rfl, zp_eq⟩
theorem C108 (h : cR A s) (c : cC A s) : cOut (zf_108 0 s) (.inl (A.1 3 0)) A s := by
  unfold zf_108
  rw [h.2.1.1]
  exact cKeep h c
theorem C110 (h : cR A s) (c : cC A s) : cOut (zf_110 0 s) (.inl (A.1 388 0)) A s := by
  unfold zf_110
  rw [h.2.2.2.1]
  exact cKeep h c
/-- a byte of a row, 0 behind its end -/
theorem zb_2 {b : Nat} {n : Int} {B : yB} (h1 : s.1 1 b 0 = n) (h2 : ∀ i, 0 ≤ i → i < n → s.1 0 b i = B i) (hn : n ≤ zlB b) : zf_2 b p s = zi (if 0 ≤ p ∧ p < n then B p else 0) s := by
  unfold zf_2
  rw [h1]
  by_cases c1 : p < 0
  · rw [if_pos c1, if_neg (by omega)]
  · rw [if_neg c1]
    by_cases c2 : n ≤ p
    · rw [if_pos c2, if_neg (by omega)]
    · rw [if_neg c2, zn_ok (by omega), if_pos (by omega), h2 p (by omega) (by omega)]
theorem C109 (h : cR A s) (ok : aOK A) (c : cC A s) : cOut (zf_109 0 p s) (sByteAt p A) A s := by
  have o := ok.2.1.1
  unfold zf_109 sByteAt
  rw [h.2.1.1]
  by_cases c1 : p < 0
  · rw [if_pos c1, if_neg (by omega)]
    exact cThr h c
  · rw [if_neg c1]
    by_cases c2 : p < A.1 3 0
    · rw [if_pos c2, if_pos ⟨by omega, c2⟩, zb_2 h.2.1.1 h.2.1.2 (by rw [show zlB 1 = 160 from rfl]; omega), zC_zi, if_pos ⟨by omega, c2⟩]
      exact cKeep h c
    · rw [if_neg c2, if_neg (by omega)]
      exact cThr h c
theorem aOK_goTo (ok : aOK A) : aOK (sGoTo j A).2 := by
  unfold sGoTo
  split
  · rename_i d
    obtain ⟨o1, o2, o3, o4, o5, o6⟩ := ok
    have oj := o3.2 j d.1 d.2
    refine ⟨o1, ⟨oj.1, fun i i1 i2 => oj.2.2 i i1 i2⟩, o3, ?_, o5, o6⟩
    show -1 ≤ j ∧ j < 30
    omega
  · exact ok
theorem C121_46 (h1 : s.1 1 1 0 = A.1 3 0) (h2 : ∀ i, 0 ≤ i → i < A.1 3 0 → s.1 0 1 i = A.1 2 i) (hn : A.1 3 0 ≤ 160) : ∀ (k M : Nat) (q : Int), k < M → k = (A.1 3 0 - q).toNat → 0 ≤ q → q ≤ 1000 → zf_121_46 M 0 v m q s = zi (aFind (A.1 2) v m k q) s := by
  intro k
  induction k with
  | zero =>
    intro M q hM hk q0 q1
    obtain ⟨M, rfl⟩ : ∃ L, M = L + 1 := ⟨M - 1, by omega⟩
    unfold zf_121_46
    rw [h1, if_pos (by omega)]
    rfl
  | succ k ih =>
    intro M q hM hk q0 q1
    obtain ⟨M, rfl⟩ : ∃ L, M = L + 1 := ⟨M - 1, by omega⟩
    unfold zf_121_46 aFind
    rw [h1, if_neg (by omega), zb_2 h1 h2 (by rw [show zlB 1 = 160 from rfl]; omega), zC_zi, if_pos (show 0 ≤ q ∧ q < A.1 3 0 from ⟨q0, by omega⟩)]
    by_cases d : zand (A.1 2 q) m = zand v m
    · rw [if_pos d, if_pos d]
    · rw [if_neg d, if_neg d, zg_ok ⟨by omega, by omega⟩]
      exact ih M (q + 1) (by omega) (by omega) (by omega) (by omega)
theorem C121 (h : cR A s) (ok : aOK A) (c : cC A s) : cOut (zf_121 0 v m f s) (sFind v m f A) A s := by
  have o := ok.2.1.1
  unfold zf_121 sFind
  by_cases d : (0 ≤ v ∧ v ≤ 255) ∧ (0 ≤ m ∧ m ≤ 255) ∧ 0 ≤ f ∧ f ≤ 200
  · rw [if_neg (show ¬ v < 0 by omega), if_neg (show ¬ 255 < v by omega), if_neg (show ¬ m < 0 by omega), if_neg (show ¬ 255 < m by omega), if_neg (show ¬ f < 0 by omega), if_pos (show f ≤ 200 by omega), if_pos d, C121_46 h.2.1.1 h.2.1.2 o.2 (A.1 3 0 - f).toNat xfu f (pa_fu (by omega)) rfl (by omega) (by omega)]
    exact cKeep h c
  · rw [if_neg d]
    have t : cOut (zt 0 s) (.inr 0) A s := cThr h c
    split
    · exact t
    · split
      · exact t
      · split
        · exact t
        · split
          · exact t
          · split
            · exact t
            · split
              · exact absurd ⟨⟨by omega, by omega⟩, ⟨by omega, by omega⟩, by omega, by omega⟩ d
              · exact t
end
