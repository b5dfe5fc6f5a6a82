/-! hunk -/
def aSt (A : aA) (j : Int) : yB := fun i => A.1 384 (160 * j + i)
def aHd (X Y : yB) : Nat → Int → Int
  | 0, k => k
  | m + 1, k => if X k = Y k then aHd X Y m (k + 1) else k
def aTl (X Y : yB) (a b : Int) : Nat → Int → Int
  | 0, k => k
  | m + 1, k => if X (a - 1 - k) = Y (b - 1 - k) then aTl X Y a b m (k + 1) else k
def aMin (a b : Int) : Int := if b < a then b else a
/-- how many bytes two states have in common ahead, and behind -/
def aP (A : aA) (a b : Int) : Int := aHd (aSt A a) (aSt A b) (aMin (A.1 385 a) (A.1 385 b)).toNat 0
def aE (A : aA) (a b : Int) : Int := aTl (aSt A a) (aSt A b) (A.1 385 a) (A.1 385 b) (aMin (A.1 385 a) (A.1 385 b) - aP A a b).toNat 0
def sHunk (a b w : Int) (A : aA) : Int ⊕ Nat := if (0 ≤ a ∧ a < A.1 387 0) ∧ 0 ≤ b ∧ b < A.1 387 0 then (if 0 ≤ w ∧ w ≤ 2 then .inl (if w = 0 then aP A a b else if w = 1 then A.1 385 a - aP A a b - aE A a b else A.1 385 b - aP A a b - aE A a b) else .inr 0) else .inr 2
section
variable {A : aA} {s u : zS} {a b : Int}
theorem aHd_b (X Y : yB) : ∀ (m : Nat) (k : Int), k ≤ aHd X Y m k ∧ aHd X Y m k ≤ k + m
  | 0, k => ⟨Int.le_refl _, by unfold aHd; omega⟩
  | m + 1, k => by
    have := aHd_b X Y m (k + 1)
    unfold aHd
    split <;> omega
theorem aTl_b (X Y : yB) (a b : Int) : ∀ (m : Nat) (k : Int), k ≤ aTl X Y a b m k ∧ aTl X Y a b m k ≤ k + m
  | 0, k => ⟨Int.le_refl _, by unfold aTl; omega⟩
  | m + 1, k => by
    have := aTl_b X Y a b m (k + 1)
    unfold aTl
    split <;> omega
/-- two states that there are -/
def aTwo (A : aA) (a b : Int) : Prop := (0 ≤ a ∧ a < A.1 387 0) ∧ 0 ≤ b ∧ b < A.1 387 0
theorem aPE_b (ok : aOK A) (h : aTwo A a b) : (0 ≤ aP A a b ∧ 0 ≤ aE A a b) ∧ (aP A a b + aE A a b ≤ A.1 385 a ∧ aP A a b + aE A a b ≤ A.1 385 b) ∧ (0 ≤ A.1 385 a ∧ A.1 385 a ≤ 160) ∧ 0 ≤ A.1 385 b ∧ A.1 385 b ≤ 160 := by
  have o := ok.2.2.1.2
  have oa := (o a h.1.1 h.1.2).1
  have ob := (o b h.2.1 h.2.2).1
  have p := aHd_b (aSt A a) (aSt A b) (aMin (A.1 385 a) (A.1 385 b)).toNat 0
  have e := aTl_b (aSt A a) (aSt A b) (A.1 385 a) (A.1 385 b) (aMin (A.1 385 a) (A.1 385 b) - aP A a b).toNat 0
  have mn : 0 ≤ aMin (A.1 385 a) (A.1 385 b) ∧ aMin (A.1 385 a) (A.1 385 b) ≤ A.1 385 a ∧ aMin (A.1 385 a) (A.1 385 b) ≤ A.1 385 b := by
    unfold aMin
    split <;> omega
  have p : 0 ≤ aP A a b ∧ aP A a b ≤ 0 + ((aMin (A.1 385 a) (A.1 385 b)).toNat : Int) := p
  have e : 0 ≤ aE A a b ∧ aE A a b ≤ 0 + ((aMin (A.1 385 a) (A.1 385 b) - aP A a b).toNat : Int) := e
  omega
theorem z92 {j i : Int} (h : cR A s) (ok : aOK A) (hj : 0 ≤ j ∧ j < A.1 387 0) (hi : 0 ≤ i ∧ i < A.1 385 j) : zf_92 0 j i s = zi (aSt A j i) s := by
  have o := ok.2.2.1
  have oj := (o.2 j hj.1 hj.2).1
  obtain ⟨g1, g2, g3⟩ := h.2.2.1.2 j hj.1 hj.2
  unfold zf_92 zf_91
  rw [if_neg (by omega), z89 h.2.2.1.1, zC_zi, if_pos hj, if_neg (by decide), zn_ok (by omega), g1, zC_zi, if_neg (by omega), zg_ok ⟨by omega, by omega⟩, zg_ok ⟨by omega, by omega⟩, zn_ok (by omega), show j * 160 + i = 160 * j + i by omega, g3 i hi.1 hi.2]
  rfl
theorem z91 {j : Int} (h : cR A s) (ok : aOK A) (hj : 0 ≤ j ∧ j < A.1 387 0) : zf_91 0 j s = zi (A.1 385 j) s := by
  have o := ok.2.2.1
  unfold zf_91
  rw [z89 h.2.2.1.1, zC_zi, if_pos hj, if_neg (by decide), zn_ok (by omega), (h.2.2.1.2 j hj.1 hj.2).1]
theorem C22_74 (ok : aOK A) (h2 : aTwo A a b) {p mn : Int} (hp : 0 ≤ p) (hm : mn ≤ A.1 385 a ∧ mn ≤ A.1 385 b) : ∀ (m M : Nat) (e : Int) (s : zS), m < M → m = (mn - p - e).toNat → 0 ≤ e → e + p ≤ mn → cR A s → s.1 128 0 0 = p → ∃ u, zf_22_74 M 0 0 a b (A.1 385 a) (A.1 385 b) mn e s = zi 0 u ∧ (∀ (f' n' : Nat) (i' : Int), ¬ (n' = 0 ∧ (f' = 129 ∨ f' = 130)) → u.1 f' n' i' = s.1 f' n' i') ∧ u.2 = s.2 ∧ u.1 129 0 0 = A.1 385 a - p - aTl (aSt A a) (aSt A b) (A.1 385 a) (A.1 385 b) m e ∧ u.1 130 0 0 = A.1 385 b - p - aTl (aSt A a) (aSt A b) (A.1 385 a) (A.1 385 b) m e := by
  have o := ok.2.2.1.2
  have oa := (o a h2.1.1 h2.1.2).1
  have ob := (o b h2.2.1 h2.2.2).1
  have fin : ∀ (e : Int) (s : zS), 0 ≤ e → e + p ≤ mn → s.1 128 0 0 = p → ∃ u, zf_22_119 0 (A.1 385 a) (A.1 385 b) e s = zi 0 u ∧ (∀ (f' n' : Nat) (i' : Int), ¬ (n' = 0 ∧ (f' = 129 ∨ f' = 130)) → u.1 f' n' i' = s.1 f' n' i') ∧ u.2 = s.2 ∧ u.1 129 0 0 = A.1 385 a - p - e ∧ u.1 130 0 0 = A.1 385 b - p - e := fun e s e0 e1 h => by
    unfold zf_22_119
    rw [h, zg_ok ⟨by omega, by omega⟩, zg_ok ⟨by omega, by omega⟩, zP_ok, show (zp 129 0 0 (A.1 385 a - p - e) s).1 128 0 0 = p from (zp_nk (by decide)).trans h, zg_ok ⟨by omega, by omega⟩, zg_ok ⟨by omega, by omega⟩, zP_ok]
    exact ⟨_, rfl, fun f' n' i' hn => (zp_n3 (by omega)).trans (zp_n3 (by omega)), rfl, (zp_nk (by decide)).trans zp_eq, zp_eq⟩
  intro m
  induction m with
  | zero =>
    intro M e s hM hm' e0 e1 h h8
    obtain ⟨M, rfl⟩ : ∃ L, M = L + 1 := ⟨M - 1, by omega⟩
    unfold zf_22_74 aTl
    rw [h8, zg_ok ⟨by omega, by omega⟩, if_pos (by omega)]
    exact fin e s e0 e1 h8
  | succ m ih =>
    intro M e s hM hm' e0 e1 h h8
    obtain ⟨M, rfl⟩ : ∃ L, M = L + 1 := ⟨M - 1, by omega⟩
    unfold zf_22_74 aTl
    rw [h8, zg_ok ⟨by omega, by omega⟩, if_neg (by omega), zg_ok ⟨by omega, by omega⟩, zg_ok ⟨by omega, by omega⟩, z92 h ok h2.1 ⟨by omega, by omega⟩, zC_zi, zg_ok ⟨by omega, by omega⟩, zg_ok ⟨by omega, by omega⟩, z92 h ok h2.2 ⟨by omega, by omega⟩, zC_zi]
    by_cases c : aSt A a (A.1 385 a - 1 - e) = aSt A b (A.1 385 b - 1 - e)
    · rw [if_pos c, if_pos c, zg_ok ⟨by omega, by omega⟩]
      exact ih M (e + 1) s (by omega) (by omega) (by omega) (by omega) h h8
    · rw [if_neg c, if_neg c]
      exact fin e s e0 e1 h8
theorem C22_28 (ok : aOK A) (h2 : aTwo A a b) {mn : Int} (hm : mn ≤ A.1 385 a ∧ mn ≤ A.1 385 b) : ∀ (m M : Nat) (p : Int) (s : zS), m < M → m = (mn - p).toNat → 0 ≤ p → p ≤ mn → cR A s → s.1 128 0 0 = p → ∃ u, zf_22_28 M 0 0 a b (A.1 385 a) (A.1 385 b) mn s = zi 0 u ∧ (∀ (f' n' : Nat) (i' : Int), ¬ (n' = 0 ∧ (f' = 128 ∨ f' = 129 ∨ f' = 130)) → u.1 f' n' i' = s.1 f' n' i') ∧ u.2 = s.2 ∧ u.1 128 0 0 = aHd (aSt A a) (aSt A b) m p ∧ u.1 129 0 0 = A.1 385 a - aHd (aSt A a) (aSt A b) m p - aTl (aSt A a) (aSt A b) (A.1 385 a) (A.1 385 b) (mn - aHd (aSt A a) (aSt A b) m p).toNat 0 ∧ u.1 130 0 0 = A.1 385 b - aHd (aSt A a) (aSt A b) m p - aTl (aSt A a) (aSt A b) (A.1 385 a) (A.1 385 b) (mn - aHd (aSt A a) (aSt A b) m p).toNat 0 := by
  have o := ok.2.2.1.2
  have oa := (o a h2.1.1 h2.1.2).1
  have ob := (o b h2.2.1 h2.2.2).1
  have fin : ∀ (p : Int) (s : zS), 0 ≤ p → p ≤ mn → cR A s → s.1 128 0 0 = p → ∃ u, zf_22_74 xfu 0 0 a b (A.1 385 a) (A.1 385 b) mn 0 s = zi 0 u ∧ (∀ (f' n' : Nat) (i' : Int), ¬ (n' = 0 ∧ (f' = 128 ∨ f' = 129 ∨ f' = 130)) → u.1 f' n' i' = s.1 f' n' i') ∧ u.2 = s.2 ∧ u.1 128 0 0 = p ∧ u.1 129 0 0 = A.1 385 a - p - aTl (aSt A a) (aSt A b) (A.1 385 a) (A.1 385 b) (mn - p).toNat 0 ∧ u.1 130 0 0 = A.1 385 b - p - aTl (aSt A a) (aSt A b) (A.1 385 a) (A.1 385 b) (mn - p).toNat 0 := fun p s p0 p1 h h8 => by
    obtain ⟨u, a1, a2, a3, a4, a5⟩ := C22_74 ok h2 p0 hm (mn - p - 0).toNat xfu 0 s (pa_fu (by omega)) rfl (Int.le_refl _) (by omega) h h8
    rw [show mn - p - 0 = mn - p by omega] at a4 a5
    exact ⟨u, a1, fun f' n' i' hn => a2 f' n' i' (by omega), a3, (a2 128 0 0 (by decide)).trans h8, a4, a5⟩
  intro m
  induction m with
  | zero =>
    intro M p s hM hm' p0 p1 h h8
    obtain ⟨M, rfl⟩ : ∃ L, M = L + 1 := ⟨M - 1, by omega⟩
    unfold zf_22_28 aHd
    rw [h8, if_pos (by omega)]
    exact fin p s p0 p1 h h8
  | succ m ih =>
    intro M p s hM hm' p0 p1 h h8
    obtain ⟨M, rfl⟩ : ∃ L, M = L + 1 := ⟨M - 1, by omega⟩
    unfold zf_22_28 aHd
    rw [h8, if_neg (by omega), z92 h ok h2.1 ⟨by omega, by omega⟩, zC_zi, h8, z92 h ok h2.2 ⟨by omega, by omega⟩, zC_zi]
    by_cases c : aSt A a p = aSt A b p
    · rw [if_pos c, if_pos c, h8, zg_ok ⟨by omega, by omega⟩, zP_ok]
      obtain ⟨u, a1, a2, a3, a4⟩ := ih M (p + 1) (zp 128 0 0 (p + 1) s) (by omega) (by omega) (by omega) (by omega) (h.k (fun f n i hf => zp_nk (by omega)) rfl) zp_eq
      exact ⟨u, a1, fun f' n' i' hn => (a2 f' n' i' hn).trans (zp_n3 (by omega)), a3, a4⟩
    · rw [if_neg c, if_neg c]
      exact fin p s p0 p1 h h8
theorem C22 (h : cR A s) (ok : aOK A) (h2 : aTwo A a b) : ∃ u, zf_22 0 0 a b s = zi 0 u ∧ (∀ (f' n' : Nat) (i' : Int), ¬ (n' = 0 ∧ (f' = 128 ∨ f' = 129 ∨ f' = 130)) → u.1 f' n' i' = s.1 f' n' i') ∧ u.2 = s.2 ∧ u.1 128 0 0 = aP A a b ∧ u.1 129 0 0 = A.1 385 a - aP A a b - aE A a b ∧ u.1 130 0 0 = A.1 385 b - aP A a b - aE A a b := by
  have o := ok.2.2.1.2
  have oa := (o a h2.1.1 h2.1.2).1
  have ob := (o b h2.2.1 h2.2.2).1
  unfold zf_22
  have z229 : zf_229 (A.1 385 a) (A.1 385 b) s = zi (aMin (A.1 385 a) (A.1 385 b)) s := by
    unfold zf_229 aMin
    split <;> rfl
  have mn : 0 ≤ aMin (A.1 385 a) (A.1 385 b) ∧ aMin (A.1 385 a) (A.1 385 b) ≤ A.1 385 a ∧ aMin (A.1 385 a) (A.1 385 b) ≤ A.1 385 b := by
    unfold aMin
    split <;> omega
  rw [z91 h ok h2.1, zC_zi, z91 h ok h2.2, zC_zi, z229, zC_zi, zP_ok]
  obtain ⟨u, a1, a2, a3, a4⟩ := C22_28 ok h2 mn.2 (aMin (A.1 385 a) (A.1 385 b) - 0).toNat xfu 0 (zp 128 0 0 0 s) (pa_fu (by omega)) rfl (Int.le_refl _) mn.1 (h.k (fun f n i hf => zp_nk (by omega)) rfl) zp_eq
  rw [Int.sub_zero] at a4
  exact ⟨u, a1, fun f' n' i' hn => (a2 f' n' i' hn).trans (zp_n3 (by omega)), a3, a4⟩
theorem C128 {w : Int} (h : cR A s) (ok : aOK A) (c : cC A s) : cOut (zf_128 0 a b w s) (sHunk a b w A) A s := by
  unfold zf_128 sHunk
  rw [z134 h]
  by_cases ca : 0 ≤ a ∧ a < A.1 387 0
  · rw [if_pos ca, zC_zi, z134 h]
    by_cases cb : 0 ≤ b ∧ b < A.1 387 0
    · rw [if_pos cb, zC_zi, if_pos (⟨ca, cb⟩ : (0 ≤ a ∧ a < A.1 387 0) ∧ 0 ≤ b ∧ b < A.1 387 0)]
      by_cases cw : 0 ≤ w ∧ w ≤ 2
      · obtain ⟨u, a1, a2, a3, a4, a5, a6⟩ := C22 h ok ⟨ca, cb⟩
        rw [if_neg (show ¬ w < 0 by omega), if_pos cw.2, if_pos cw, a1, zC_zi, a4, a5, a6]
        have fin : ∀ x : Int, cOut (zi x u) (.inl x) A s := fun x => ⟨u, rfl, h.k (fun f n i hf => a2 f n i (by omega)) (by rw [a3]), c.c rfl rfl rfl rfl fun f i hf => a2 f 0 i (by omega), fun f n i f1 f2 => a2 f n i (by omega), by rw [a3]; omega⟩
        by_cases w0 : w = 0
        · rw [if_pos w0, if_pos w0]
          exact fin _
        · rw [if_neg w0, if_neg w0]
          by_cases w1 : w = 1
          · rw [if_pos w1, if_pos w1]
            exact fin _
          · rw [if_neg w1, if_neg w1]
            exact fin _
      · rw [if_neg cw]
        by_cases w0 : w < 0
        · rw [if_pos w0]
          exact cThr h c
        · rw [if_neg w0, if_neg (by omega)]
          exact cThr h c
    · rw [if_neg cb, if_neg (fun z => cb z.2)]
      exact cThr h c
  · rw [if_neg ca, if_neg (fun z => ca z.1)]
    exact cThr h c
theorem z221 {j i : Int} (h : mR A s) (ok : aOK A) (hj : 0 ≤ j ∧ j < A.1 387 0) (hi : 0 ≤ i ∧ i < A.1 385 j) : zf_221 0 j i s = zi (aSt A j i) s := by
  have o := ok.2.2.1
  have oj := (o.2 j hj.1 hj.2).1
  unfold zf_221
  rw [zg_ok ⟨by omega, by omega⟩, zg_ok ⟨by omega, by omega⟩, zn_ok (by omega), (h.2.2.1.2 j hj.1 hj.2).2.2 i hi.1 hi.2]
  rfl
theorem M222_2 (h : mR A s) (ok : aOK A) (h2 : aTwo A a b) : ∀ (m M : Nat) (p : Int), m < M → m = (aMin (A.1 385 a) (A.1 385 b) - p).toNat → 0 ≤ p → p ≤ 1000 → zf_222_2 M 0 a b p s = zi (aHd (aSt A a) (aSt A b) m p) s := by
  have o := ok.2.2.1
  have oa := (o.2 a h2.1.1 h2.1.2).1
  have ob := (o.2 b h2.2.1 h2.2.2).1
  have ga := (h.2.2.1.2 a h2.1.1 h2.1.2).1
  have gb := (h.2.2.1.2 b h2.2.1 h2.2.2).1
  have h1 := h2.1
  have h3 := h2.2
  have mn : aMin (A.1 385 a) (A.1 385 b) = if A.1 385 b < A.1 385 a then A.1 385 b else A.1 385 a := rfl
  intro m
  induction m with
  | zero =>
    intro M p hM hm p0 p1
    obtain ⟨M, rfl⟩ : ∃ L, M = L + 1 := ⟨M - 1, by omega⟩
    unfold zf_222_2 aHd
    rw [zn_ok (by omega), ga]
    by_cases c : A.1 385 a ≤ p
    · rw [if_pos c]
    · rw [if_neg c, zn_ok (by omega), gb, if_pos (by omega)]
  | succ m ih =>
    intro M p hM hm p0 p1
    obtain ⟨M, rfl⟩ : ∃ L, M = L + 1 := ⟨M - 1, by omega⟩
    unfold zf_222_2 aHd
    rw [zn_ok (by omega), ga, if_neg (show ¬ A.1 385 a ≤ p by omega), zn_ok (by omega), gb, if_neg (show ¬ A.1 385 b ≤ p by omega), z221 h ok h2.1 ⟨p0, by omega⟩, zC_zi, z221 h ok h2.2 ⟨p0, by omega⟩, zC_zi]
    by_cases c : aSt A a p = aSt A b p
    · rw [if_pos c, if_pos c, zg_ok ⟨by omega, by omega⟩]
      exact ih M (p + 1) (by omega) (by omega) (by omega) (by omega)
    · rw [if_neg c, if_neg c]
theorem M222 (h : mR A s) (ok : aOK A) (h2 : aTwo A a b) : zf_222 0 a b s = zi (aP A a b) s := by
  have o := ok.2.2.1.2
  have oa := (o a h2.1.1 h2.1.2).1
  have ob := (o b h2.2.1 h2.2.2).1
  unfold zf_222 aP
  have mn : aMin (A.1 385 a) (A.1 385 b) = if A.1 385 b < A.1 385 a then A.1 385 b else A.1 385 a := rfl
  rw [M222_2 h ok h2 (aMin (A.1 385 a) (A.1 385 b) - 0).toNat xfu 0 (pa_fu (by omega)) rfl (Int.le_refl _) (by decide), Int.sub_zero]
theorem M223_3 (h : mR A s) (ok : aOK A) (h2 : aTwo A a b) {p : Int} (hp : 0 ≤ p ∧ p ≤ 160) : ∀ (m M : Nat) (e : Int), m < M → m = (aMin (A.1 385 a) (A.1 385 b) - p - e).toNat → 0 ≤ e → e ≤ 1000 → zf_223_3 M 0 a b p e s = zi (aTl (aSt A a) (aSt A b) (A.1 385 a) (A.1 385 b) m e) s := by
  have o := ok.2.2.1
  have oa := (o.2 a h2.1.1 h2.1.2).1
  have ob := (o.2 b h2.2.1 h2.2.2).1
  have ga := (h.2.2.1.2 a h2.1.1 h2.1.2).1
  have gb := (h.2.2.1.2 b h2.2.1 h2.2.2).1
  have h1 := h2.1
  have h3 := h2.2
  have mn : aMin (A.1 385 a) (A.1 385 b) = if A.1 385 b < A.1 385 a then A.1 385 b else A.1 385 a := rfl
  intro m
  induction m with
  | zero =>
    intro M e hM hm p0 p1
    obtain ⟨M, rfl⟩ : ∃ L, M = L + 1 := ⟨M - 1, by omega⟩
    unfold zf_223_3 aTl
    rw [zn_ok (by omega), ga, zg_ok ⟨by omega, by omega⟩]
    by_cases c : A.1 385 a - p ≤ e
    · rw [if_pos c]
    · rw [if_neg c, zn_ok (by omega), gb, zg_ok ⟨by omega, by omega⟩, if_pos (by omega)]
  | succ m ih =>
    intro M e hM hm p0 p1
    obtain ⟨M, rfl⟩ : ∃ L, M = L + 1 := ⟨M - 1, by omega⟩
    unfold zf_223_3 aTl
    rw [zn_ok (by omega), ga, zg_ok ⟨by omega, by omega⟩, if_neg (show ¬ A.1 385 a - p ≤ e by omega), zn_ok (by omega), gb, zg_ok ⟨by omega, by omega⟩, if_neg (show ¬ A.1 385 b - p ≤ e by omega), zn_ok (by omega), zg_ok ⟨by omega, by omega⟩, zg_ok ⟨by omega, by omega⟩, z221 h ok h2.1 ⟨by omega, by omega⟩, zC_zi, zn_ok (by omega), gb, zg_ok ⟨by omega, by omega⟩, zg_ok ⟨by omega, by omega⟩, z221 h ok h2.2 ⟨by omega, by omega⟩, zC_zi]
    by_cases c : aSt A a (A.1 385 a - 1 - e) = aSt A b (A.1 385 b - 1 - e)
    · rw [if_pos c, if_pos c, zg_ok ⟨by omega, by omega⟩]
      exact ih M (e + 1) (by omega) (by omega) (by omega) (by omega)
    · rw [if_neg c, if_neg c]
theorem M223 (h : mR A s) (ok : aOK A) (h2 : aTwo A a b) : zf_223 0 a b (aP A a b) s = zi (aE A a b) s := by
  have B := aPE_b ok h2
  unfold zf_223 aE
  have mn : aMin (A.1 385 a) (A.1 385 b) = if A.1 385 b < A.1 385 a then A.1 385 b else A.1 385 a := rfl
  rw [M223_3 h ok h2 ⟨B.1.1, by omega⟩ (aMin (A.1 385 a) (A.1 385 b) - aP A a b - 0).toNat xfu 0 (pa_fu (by omega)) rfl (Int.le_refl _) (by decide), Int.sub_zero]
theorem M224 {w : Int} (h : mR A s) (ok : aOK A) : mOut (zf_224 0 a b w s) (sHunk a b w A) cd20 A s := by
  unfold zf_224 sHunk
  have thr : ∀ (e : Nat), (e = 0 ∨ e = 2) → mOut (zf_224_35 0 a b w 0 (cd20 e) s) (.inr e) cd20 A s := fun e he => by
    unfold zf_224_35
    have : ¬ (zp 576 0 0 (cd20 e) s).1 576 0 0 ≤ 0 := by
      rw [zp_eq]
      rcases he with he | he <;> subst he <;> decide
    rw [zP_ok, if_neg this]
    exact mThr h ok
  rw [z153 h ok, zC_zi]
  by_cases ca : 0 ≤ a ∧ a < A.1 387 0
  · rw [if_pos ca, if_neg (by decide), z153 h ok, zC_zi]
    by_cases cb : 0 ≤ b ∧ b < A.1 387 0
    · rw [if_pos cb, if_neg (by decide), if_pos (⟨ca, cb⟩ : (0 ≤ a ∧ a < A.1 387 0) ∧ 0 ≤ b ∧ b < A.1 387 0), z146, zC_zi]
      by_cases cw : 0 ≤ w ∧ w ≤ 2
      · have h2 : aTwo A a b := ⟨ca, cb⟩
        have h0 : mR A (zp 576 0 0 0 s) := h.k ok fun f i hf => zp_nk (by omega)
        have B := aPE_b ok h2
        have o := ok.2.2.1.1
        unfold zf_224_35
        rw [if_pos cw, if_neg (by decide), if_pos cw, zP_ok, if_pos (by rw [zp_eq]; decide), M222 h0 ok h2, zC_zi, M223 h0 ok h2, zC_zi]
        by_cases w0 : w = 0
        · rw [if_pos w0, if_pos w0]
          exact mKeep0 h ok
        · rw [if_neg w0, if_neg w0]
          by_cases w1 : w = 1
          · rw [if_pos w1, if_pos w1, zn_ok (by omega), (h0.2.2.1.2 a ca.1 ca.2).1, zg_ok ⟨by omega, by omega⟩, zg_ok ⟨by omega, by omega⟩]
            exact mKeep0 h ok
          · rw [if_neg w1, if_neg w1, zn_ok (by omega), (h0.2.2.1.2 b cb.1 cb.2).1, zg_ok ⟨by omega, by omega⟩, zg_ok ⟨by omega, by omega⟩]
            exact mKeep0 h ok
      · rw [if_neg cw, if_neg cw, if_pos rfl]
        exact thr 0 (Or.inl rfl)
    · rw [if_neg cb, if_pos rfl, if_neg (fun z => cb z.2)]
      exact thr 2 (Or.inr rfl)
  · rw [if_neg ca, if_pos rfl, if_neg (fun z => ca z.1)]
    exact thr 2 (Or.inr rfl)
end
