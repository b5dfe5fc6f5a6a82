/-! node, findField, follow -/
def aNn (A : aA) : Int → yN := yNs (aNodes A)
def aLn (A : aA) : Int := (aNodes A).length
def aCt (A : aA) : yT := A.2 (aChosen A).toNat
def sNode (j w : Int) (A : aA) : Int ⊕ Nat := if 0 ≤ j ∧ j < aLn A then (if 0 ≤ w ∧ w ≤ 6 then .inl (if w = 6 then 1 - yWg (aCt A) (A.1 2) (aNn A) (yTg (aCt A) (aNn A) (aLn A)) j else aNn A j (192 + w.toNat)) else .inr 0) else .inr 2
def aFf (N : Int → yN) (nm v : Int) : Nat → Int → Int
  | 0, _ => -1
  | m + 1, k => if (N k 192 = 2 ∨ N k 192 = 3 ∨ N k 192 = 4) ∧ N k 193 = nm ∧ N k 196 = v then k else aFf N nm v m (k + 1)
def sFindF (nm v f : Int) (A : aA) : Int ⊕ Nat := if (0 ≤ nm ∧ nm ≤ 25) ∧ (0 ≤ v ∧ v ≤ 65535) ∧ 0 ≤ f ∧ f ≤ 200 then .inl (aFf (aNn A) nm v (aLn A - f).toNat f) else .inr 0
section
variable {A : aA} {s u : zS} {j w nm v f : Int} {T : yT} {B : yB} {n : Int}
theorem aLn_b (ok : aOK A) : 0 ≤ aLn A ∧ aLn A ≤ 200 ∧ (0 < aLn A → aChosen A ≠ -1) := by
  unfold aLn
  by_cases c : aChosen A = -1
  · unfold aNodes
    rw [if_pos c]
    exact ⟨by decide, by decide, fun z => by simp at z⟩
  · obtain ⟨x, x1, x2, x3, x4, x5⟩ := aChosen_x ok c
    have o := ok.2.2.2.2.2 _ x4
    have S := yTop_sh (st := 0) (off := 0) (B := A.1 2) o.1 o.2.2.2 ok.2.1.1.2 ok.2.1.2 ⟨by decide, by have := o.1.1; omega⟩ (by decide) x1
    rw [x2]
    exact ⟨by omega, S.1.2, fun _ => c⟩
theorem C135 (h : cR A s) (ok : aOK A) (c : cC A s) : ∃ u, zf_135 0 j s = (if 0 ≤ j ∧ j < aLn A then zi 0 u else zt 2 u) ∧ cR A u ∧ cRd A u ∧ cNd 0 (aNn A) (aLn A) u ∧ cFr s u ∧ u.2 = s.2 := by
  obtain ⟨u, a1, a2, a3, a4, a5⟩ := C133 h ok c
  have I := (a3.I ok).nds
  unfold zf_135
  rw [a1, zC_zi, z27 I.1, zC_zi]
  refine ⟨u, ?_, a2, a3, I, fun f n i f1 f2 => a4 f n i (by omega), a5⟩
  by_cases d : 0 ≤ j ∧ j < aLn A
  · have d' : 0 ≤ j ∧ j < ((aNodes A).length : Int) := d
    rw [if_pos d, if_pos d', if_neg (by decide)]
  · have d' : ¬ (0 ≤ j ∧ j < ((aNodes A).length : Int)) := d
    rw [if_neg d, if_neg d', if_pos rfl]
theorem cEnd {r : Int} (a2 : cR A u) (a3 : cRd A u) (a4 : cFr s u) (a5 : u.2 = s.2) : cOut (zi r u) (.inl r) A s := ⟨u, rfl, a2, Or.inr a3, a4, by rw [a5]; omega⟩
theorem cEndT {e : Nat} (a2 : cR A u) (a3 : cRd A u) (a4 : cFr s u) (a5 : u.2 = s.2) : cOut (zt e u) (.inr e) A s := ⟨_, rfl, a2, Or.inr a3, a4, by show u.2.2 + 1 ≤ s.2.2 + 1; rw [a5]; omega⟩
theorem C116 (h : cR A s) (ok : aOK A) (c : cC A s) : cOut (zf_116 0 j w s) (sNode j w A) A s := by
  obtain ⟨u, a1, a2, a3, a4, a5, a6⟩ := C135 (j := j) h ok c
  have hL := aLn_b ok
  unfold zf_116 sNode
  rw [a1]
  by_cases d : 0 ≤ j ∧ j < aLn A
  · rw [if_pos d, if_pos d, zC_zi]
    by_cases cw : 0 ≤ w ∧ w ≤ 6
    · have g : ∀ c : Nat, 192 ≤ c → c < 199 → u.1 c 0 j = aNn A j c := fun c c1 c2 => a4.2 j d.1 d.2 c c1 c2
      have fin : ∀ v : Int, cOut (zi v u) (.inl v) A s := fun v => cEnd a2 a3 a5 a6
      rw [if_neg (show ¬ w < 0 by omega), if_pos cw.2, if_pos cw]
      by_cases w0 : w = 0
      · rw [if_pos w0, zn_ok (by omega), g 192 (by decide) (by decide), if_neg (by omega), w0]
        exact fin _
      · rw [if_neg w0]
        by_cases w1 : w = 1
        · rw [if_pos w1, zn_ok (by omega), g 193 (by decide) (by decide), if_neg (by omega), w1]
          exact fin _
        · rw [if_neg w1]
          by_cases w2 : w = 2
          · rw [if_pos w2, zn_ok (by omega), g 194 (by decide) (by decide), if_neg (by omega), w2]
            exact fin _
          · rw [if_neg w2]
            by_cases w3 : w = 3
            · rw [if_pos w3, zn_ok (by omega), g 195 (by decide) (by decide), if_neg (by omega), w3]
              exact fin _
            · rw [if_neg w3]
              by_cases w4 : w = 4
              · rw [if_pos w4, zn_ok (by omega), g 196 (by decide) (by decide), if_neg (by omega), w4]
                exact fin _
              · rw [if_neg w4]
                by_cases w5 : w = 5
                · rw [if_pos w5, zn_ok (by omega), g 197 (by decide) (by decide), if_neg (by omega), w5]
                  exact fin _
                · have cn := hL.2.2 (by omega)
                  obtain ⟨x, x1, x2, x3, x4, x5⟩ := aChosen_x ok cn
                  have H := a3.H a2 ok cn x1
                  have e := yWg_d (T := aCt A) (N := aNn A) (C := A.1 2) (L := aLn A) (i := j)
                  have e7 := C78 (ok.2.2.2.2.2 _ x4).1 H (i := j) ⟨d.1, by have := d.2; unfold aLn at this; rw [x2] at this; exact this⟩
                  rw [← x2] at e7
                  have e7 : zf_78 0 j u = zi (if yRl (aCt A) (aNn A j 198) then yDu (aCt A) (A.1 2) (aNn A) (aLn A) j else aNn A j 196) u := e7
                  rw [if_neg w5, if_pos (show w = 6 by omega)]
                  unfold zf_79
                  rw [zn_ok (by omega), e7, zC_zi, g 196 (by decide) (by decide)]
                  generalize (if yRl (aCt A) (aNn A j 198) then yDu (aCt A) (A.1 2) (aNn A) (aLn A) j else aNn A j 196) = du at e ⊢
                  rw [← e]
                  by_cases c2 : aNn A j 196 = du
                  · rw [if_pos c2, if_pos c2, zz1, zC_zi, if_neg (by decide)]
                    exact fin _
                  · rw [if_neg c2, if_neg c2, zz0, zC_zi, if_pos rfl]
                    exact fin _
    · rw [if_neg cw]
      by_cases w0 : w < 0
      · rw [if_pos w0]
        exact cEndT a2 a3 a5 a6
      · rw [if_neg w0, if_neg (by omega)]
        exact cEndT a2 a3 a5 a6
  · rw [if_neg d, if_neg d]
    exact cEndT (e := 2) a2 a3 a5 a6
/-- behind choosing, with 576 set -/
theorem mEnd {r : Int} {cd : Nat → Int} (ok : aOK A) (a2 : mR A u) (a4 : mfb s u) (e : u.1 576 0 0 = 0) : mOut (zi r u) (.inl r) cd A s := ⟨r, u, rfl, a2, a4.F, rfl, e⟩
theorem mEndT {e : Nat} {cd : Nat → Int} (ok : aOK A) (a2 : mR A u) (a4 : mFr s u) : mOut (zi 0 (zp 576 0 0 (cd e) u)) (.inr e) cd A s := ⟨0, _, rfl, a2.k ok fun f i hf => zp_nk (by omega), a4.pw (by decide), zp_eq⟩
theorem C122_57 (I : cNd 0 (aNn A) (aLn A) u) (ok : aOK A) : ∀ (m M : Nat) (k : Int), m < M → m = (aLn A - k).toNat → 0 ≤ k → k ≤ 1000 → zf_122_57 M nm v 0 k u = zi (aFf (aNn A) nm v m k) u := by
  have hL := aLn_b ok
  intro m
  induction m with
  | zero =>
    intro M k hM hm k0 k1
    obtain ⟨M, rfl⟩ : ∃ L, M = L + 1 := ⟨M - 1, by omega⟩
    unfold zf_122_57 aFf
    rw [I.1, if_pos (by omega)]
  | succ m ih =>
    intro M k hM hm k0 k1
    obtain ⟨M, rfl⟩ : ∃ L, M = L + 1 := ⟨M - 1, by omega⟩
    have g : ∀ c : Nat, 192 ≤ c → c < 199 → u.1 c 0 k = aNn A k c := fun c c1 c2 => I.2 k k0 (by omega) c c1 c2
    have z30 : zf_30 0 k u = zi (if aNn A k 192 = 2 ∨ aNn A k 192 = 3 ∨ aNn A k 192 = 4 then 1 else 0) u := by
      unfold zf_30
      rw [z27 I.1, zC_zi, if_pos (show 0 ≤ k ∧ k < aLn A by omega), if_neg (by decide), zn_ok (by omega), g 192 (by decide) (by decide)]
      by_cases c1 : aNn A k 192 = 2
      · rw [if_pos c1, if_pos (Or.inl c1)]
        rfl
      · rw [if_neg c1, zn_ok (by omega)]
        by_cases c2 : aNn A k 192 = 3
        · rw [if_pos c2, if_pos (Or.inr (Or.inl c2))]
          rfl
        · rw [if_neg c2, zn_ok (by omega)]
          by_cases c3 : aNn A k 192 = 4
          · rw [if_pos c3, if_pos (Or.inr (Or.inr c3))]
            rfl
          · rw [if_neg c3, if_neg (by omega)]
            rfl
    have go := ih M (k + 1) (by omega) (by omega) (by omega) (by omega)
    unfold zf_122_57 aFf
    rw [I.1, if_neg (by omega), z30, zC_zi]
    by_cases c1 : aNn A k 192 = 2 ∨ aNn A k 192 = 3 ∨ aNn A k 192 = 4
    · rw [if_pos c1, if_neg (by decide), zn_ok (by omega), g 193 (by decide) (by decide)]
      by_cases c2 : aNn A k 193 = nm
      · rw [if_pos c2, zn_ok (by omega), g 196 (by decide) (by decide)]
        by_cases c3 : aNn A k 196 = v
        · rw [if_pos c3, if_pos ⟨c1, c2, c3⟩]
        · rw [if_neg c3, if_neg (fun z => c3 z.2.2), zg_ok ⟨by omega, by omega⟩]
          exact go
      · rw [if_neg c2, if_neg (fun z => c2 z.2.1), zg_ok ⟨by omega, by omega⟩]
        exact go
    · rw [if_neg c1, if_pos rfl, if_neg (fun z => c1 z.1), zg_ok ⟨by omega, by omega⟩]
      exact go
theorem C122 (h : cR A s) (ok : aOK A) (c : cC A s) : cOut (zf_122 0 nm v f s) (sFindF nm v f A) A s := by
  have hL := aLn_b ok
  unfold zf_122 sFindF
  by_cases d : (0 ≤ nm ∧ nm ≤ 25) ∧ (0 ≤ v ∧ v ≤ 65535) ∧ 0 ≤ f ∧ f ≤ 200
  · obtain ⟨u, a1, a2, a3, a4, a5⟩ := C133 h ok c
    have I := (a3.I ok).nds
    rw [if_neg (show ¬ nm < 0 by omega), if_neg (show ¬ 26 ≤ nm by omega), if_neg (show ¬ v < 0 by omega), if_neg (show ¬ 65535 < v by omega), if_neg (show ¬ f < 0 by omega), if_pos (show f ≤ 200 by omega), if_pos d, a1, zC_zi, C122_57 I ok (aLn A - f).toNat xfu f (pa_fu (by omega)) rfl (by omega) (by omega)]
    exact cEnd a2 a3 (fun f n i f1 f2 => a4 f n i (by omega)) a5
  · rw [if_neg d]
    have t : cOut (zt 0 s) (.inr 0) A s := cThr h c
    split
    · exact t
    · split
      · exact t
      · split
        · exact t
        · split
          · exact t
          · split
            · exact t
            · split
              · exact absurd ⟨⟨by omega, by omega⟩, ⟨by omega, by omega⟩, by omega, by omega⟩ d
              · exact t
end
