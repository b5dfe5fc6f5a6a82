section
/-! edits: the end of an edit in the reference; repair -/
/-- the frames of an edit in the reference -/
def mEd (s u : zS) : Prop := (∀ (f n : Nat) (i : Int), ¬ (n = 0 ∧ (603 ≤ f ∧ f ≤ 632 ∨ f = 595 ∨ f = 594)) → u.1 f n i = s.1 f n i) ∧ u.2 = s.2
/-- the file has been saved, the work is under way -/
def mSv (A : aA) (z : zS) : Prop := (∃ s, mR A s ∧ mEd s z) ∧ z.1 596 0 0 = A.1 3 0 ∧ ∀ i, 0 ≤ i → i < A.1 3 0 → z.1 597 0 i = A.1 2 i
def sRepair (A : aA) : (Int ⊕ Nat) × aA := if aChosen A = -1 then (.inr 1, A) else sFin A (A.1 2) (A.1 3 0)
section
variable {T : yT} {B C F G : yB} {n L w : Int} {N : Int → yN} {s u z : zS} {r q : Nat} {t k v g e x : Int} {A : aA}
theorem mEd.rf : mEd s s := ⟨fun _ _ _ _ => rfl, rfl⟩
theorem mEd.tr {v : zS} (a : mEd s u) (b : mEd u v) : mEd s v := ⟨fun f n i h => (b.1 f n i h).trans (a.1 f n i h), b.2.trans a.2⟩
theorem mEd.ef (a : mEf s u) : mEd s u := ⟨fun f n i h => a.1 f n i (by omega), a.2⟩
theorem mEd.fr (a : mEd s u) : mFr s u := ⟨fun f n i h => a.1 f n i (by omega), a.2⟩
theorem mSv.tr (V : mSv A z) (a : mEd z u) : mSv A u := by
  obtain ⟨⟨s, h, b⟩, h6, h7⟩ := V
  exact ⟨⟨s, h, b.tr a⟩, (a.1 596 0 0 (by omega)).trans h6, fun i i1 i2 => (a.1 597 0 i (by omega)).trans (h7 i i1 i2)⟩
theorem mSv.R (V : mSv A z) (ok : aOK A) (c : aChosen A ≠ -1) : mRel (aChosen A) (aCt A) z := by
  obtain ⟨⟨s, h, b⟩, -, -⟩ := V
  obtain ⟨x, x1, x2, x3, x4, x5⟩ := aChosen_x ok c
  have R := (h.2.2.2.2.2.1 _ x4).2
  rw [x5] at R
  exact R.c (ok.2.2.2.2.2 _ x4).1 fun f i hf => b.1 f 0 i (by omega)
theorem aOK_fin (ok : aOK A) (hn : 0 ≤ n ∧ n ≤ 160) (hG : ∀ G, eEd (aCt A) n F = some G → ∀ i, 0 ≤ i → i < n → 0 ≤ G i ∧ G i ≤ 255) : aOK (sFin A F n).2 := by
  unfold sFin
  by_cases c30 : A.1 387 0 < 30
  · rw [if_pos c30]
    cases he : eEd (aCt A) n F with
    | none => exact ok
    | some G => exact aOK_keep (aOK_fil ok hn (hG G he)) c30
  · rw [if_neg c30]
    exact ok
/-- the class begins an edit -/
theorem C10 (h : cR A s) (ok : aOK A) : ∃ u, zf_10 0 1 s = zi 0 u ∧ cR A u ∧ cWk s u ∧ yFile 2 (A.1 2) (A.1 3 0) u := by
  have o := ok.2.1
  obtain ⟨u, a1, a2, a3, a4, a5⟩ := C5 (d := 2) (b := 1) (s := s) (by decide) (by decide) (by omega) h.2.1.1
  unfold zf_10
  rw [a1, zC_zi]
  have w : cWk s u := ⟨fun f n i hf => a2 f n i (by omega), a3⟩
  exact ⟨u, rfl, h.ef (cEf.wk w), w, by decide, a4, o.1.1, o.1.2, fun i i1 i2 => (a5 i i1 i2).trans (h.2.1.2 i i1 i2), o.2⟩
theorem cRd.ef (g : cRd A s) (ok : aOK A) (a : cEf 1 s u) : cRd A u := by
  have c2 : cC A u := cC.ef (Or.inr g) a
  rcases c2 with z | z
  · rw [a.1 523 0 0 (by omega) (by omega) (by decide), g.1] at z
    have := aChosen_b ok
    omega
  · exact z
theorem C127 (h : cR A s) (ok : aOK A) (c : cC A s) : cOut (zf_127 0 s) (sRepair A).1 (sRepair A).2 s := by
  obtain ⟨u, a1, a2, a3, a4, a5⟩ := C133 h ok c
  obtain ⟨v, b1, b2, b3, b4⟩ := C10 a2 ok
  have g := a3.ef ok (cEf.wk b3)
  have fr : cFr s v := fun f n i f1 f2 => (b3.1 f n i (by omega)).trans (a4 f n i (by omega))
  have e2 : v.2 = s.2 := b3.2.trans a5
  unfold zf_127 sRepair
  rw [a1, zC_zi, b1, zC_zi]
  by_cases d : aChosen A = -1
  · unfold zf_140 zf_132
    rw [if_pos d, g.1, d, if_pos (by decide), zC_zi]
    exact cEndT b2 g fr e2
  · obtain ⟨y, c1, c2, c3, c4, c5⟩ := C140 b2 ok g d b4
    rw [if_neg d, c1]
    cases hr : (sFin A (A.1 2) (A.1 3 0)).1 with
    | inl x => exact ⟨y, rfl, c2, c3, fr.tr c4, by rw [e2] at c5; exact c5⟩
    | inr x => exact ⟨y, rfl, c2, c3, fr.tr c4, by rw [e2] at c5; exact c5⟩
end
end
