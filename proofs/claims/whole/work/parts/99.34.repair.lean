section
/-! edits: the end of an edit in the reference; repair -/
/-- the frames of an edit in the reference -/
def mEd (s u : zS) : Prop := (∀ (f n : Nat) (i : Int), ¬ (n = 0 ∧ (603 ≤ f ∧ f ≤ 632 ∨ f = 595 ∨ f = 594)) → u.1 f n i = s.1 f n i) ∧ u.2 = s.2
/-- the file has been saved, the work is under way -/
def mSv (A : aA) (z : zS) : Prop := (∃ s, mR A s ∧ mEd s z) ∧ z.1 596 0 0 = A.1 3 0 ∧ ∀ i, 0 ≤ i → i < A.1 3 0 → z.1 597 0 i = A.1 2 i
def sRepair (A : aA) : (Int ⊕ Nat) × aA := if aChosen A = -1 then (.inr 1, A) else sFin A (A.1 2) (A.1 3 0)
section
variable {T : yT} {B C F G : yB} {n L w : Int} {N : Int → yN} {s u z : zS} {r q : Nat} {t k v g e x : Int} {A : aA}
theorem mEd.rf : mEd s s := ⟨fun _ _ _ _ => rfl, rfl⟩
theorem mEd.tr {v : zS} (a : mEd s u) (b : mEd u v) : mEd s v := ⟨fun f n i h => (b.1 f n i h).trans (a.1 f n i h), b.2.trans a.2⟩
theorem mEd.ef (a : mEf s u) : mEd s u := ⟨fun f n i h => a.1 f n i (by omega), a.2⟩
theorem mEd.fr (a : mEd s u) : mFr s u := ⟨fun f n i h => a.1 f n i (by omega), a.2⟩
theorem mSv.tr (V : mSv A z) (a : mEd z u) : mSv A u := by
  obtain ⟨⟨s, h, b⟩, h6, h7⟩ := V
  exact ⟨⟨s, h, b.tr a⟩, (a.1 596 0 0 (by omega)).trans h6, fun i i1 i2 => (a.1 597 0 i (by omega)).trans (h7 i i1 i2)⟩
theorem mSv.R (V : mSv A z) (ok : aOK A) (c : aChosen A ≠ -1) : mRel (aChosen A) (aCt A) z := by
  obtain ⟨⟨s, h, b⟩, -, -⟩ := V
  obtain ⟨x, x1, x2, x3, x4, x5⟩ := aChosen_x ok c
  have R := (h.2.2.2.2.2.1 _ x4).2
  rw [x5] at R
  exact R.c (ok.2.2.2.2.2 _ x4).1 fun f i hf => b.1 f 0 i (by omega)
/-- the file is saved -/
theorem mSv.of (h : mR A s) (ok : aOK A) : ∃ u, zf_203 0 s = zi 0 u ∧ mSv A u ∧ mR A u ∧ (∀ (f' n' : Nat) (i' : Int), ¬ (n' = 0 ∧ (f' = 596 ∨ f' = 597)) → u.1 f' n' i' = s.1 f' n' i') ∧ u.2 = s.2 := by
  have o := ok.2.1.1
  obtain ⟨u, a1, a2, a3, a4, a5⟩ := M203 (n := A.1 3 0) (by omega) h.2.1.1
  have hu : mR A u := h.k ok fun f i hf => a2 f 0 i (by omega)
  exact ⟨u, a1, ⟨⟨u, hu, mEd.rf⟩, a4, fun i i1 i2 => (a5 i i1 i2).trans (h.2.1.2 i i1 i2)⟩, hu, a2, a3⟩
theorem M204_19 (hn : n ≤ 400) : ∀ (m M : Nat) (x p : Int) (s : zS), m < M → m = (n - p).toNat → 0 ≤ p → s.1 594 0 0 = n → ∃ u, zf_204_19 M 0 x p s = zi 0 (zp 576 0 0 x u) ∧ (∀ (f' n' : Nat) (i' : Int), ¬ (n' = 0 ∧ f' = 595) → u.1 f' n' i' = s.1 f' n' i') ∧ u.2 = s.2 ∧ (∀ i, p ≤ i → i < n → u.1 595 0 i = s.1 597 0 i) ∧ ∀ i, i < p → u.1 595 0 i = s.1 595 0 i := by
  intro m
  induction m with
  | zero =>
    intro M x p s hM hm p0 h4
    obtain ⟨M, rfl⟩ : ∃ L, M = L + 1 := ⟨M - 1, by omega⟩
    unfold zf_204_19 zf_145
    rw [h4, if_pos (by omega)]
    exact ⟨s, rfl, fun _ _ _ _ => rfl, rfl, fun i i1 i2 => by omega, fun _ _ => rfl⟩
  | succ m ih =>
    intro M x p s hM hm p0 h4
    obtain ⟨M, rfl⟩ : ∃ L, M = L + 1 := ⟨M - 1, by omega⟩
    unfold zf_204_19
    rw [h4, if_neg (by omega), zn_ok (by omega), zW_ok (by omega), zg_ok ⟨by omega, by omega⟩]
    obtain ⟨u, a1, a2, a3, a4, a5⟩ := ih M x (p + 1) (zp 595 0 p (s.1 597 0 p) s) (by omega) (by omega) (by omega) ((zp_nk (by decide)).trans h4)
    refine ⟨u, a1, fun f' n' i' hn' => (a2 f' n' i' hn').trans (zp_n3 (by omega)), a3, fun i i1 i2 => ?_, fun i i1 => ?_⟩
    · by_cases c : i = p
      · rw [c, a5 p (by omega), zp_eq]
      · exact (a4 i (by omega) i2).trans (zp_nk (by decide))
    · exact (a5 i (by omega)).trans (zp_ni (by omega))
theorem mSv.end0 (V : mSv A z) (ok : aOK A) : ∃ y, zf_204 0 0 x z = zi 0 y ∧ mR A y ∧ mFr z y ∧ y.1 576 0 0 = x := by
  obtain ⟨⟨s, h, b⟩, h6, h7⟩ := V
  have o := ok.2.1.1
  obtain ⟨u, a1, a2, a3, a4, a5⟩ := M204_19 (n := A.1 3 0) (by omega) (A.1 3 0).toNat xfu x 0 (zp 594 0 0 (A.1 3 0) z) (pa_fu (by omega)) (by omega) (by decide) zp_eq
  unfold zf_204
  rw [if_pos rfl, zP_ok, h6, a1]
  have e : ∀ (f n : Nat) (i : Int), ¬ (n = 0 ∧ (f = 595 ∨ f = 594 ∨ f = 576)) → (zp 576 0 0 x u).1 f n i = z.1 f n i := fun f n i hf => (zp_n3 (by omega)).trans ((a2 f n i (by omega)).trans (zp_n3 (by omega)))
  refine ⟨_, rfl, h.file ok rfl (fun _ _ _ => rfl) ?_ (fun i i1 i2 => ?_) (fun f i hf => (e f 0 i (by omega)).trans (b.1 f 0 i (by omega))), ⟨fun f n i hf => e f n i (by omega), a3⟩, zp_eq⟩
  · exact (zp_nk (by decide)).trans ((a2 594 0 0 (by omega)).trans zp_eq)
  · exact (zp_nk (by decide)).trans ((a4 i i1 i2).trans ((zp_nk (by decide)).trans (h7 i i1 i2)))
theorem mSv.end1 (V : mSv A z) (ok : aOK A) (c30 : A.1 387 0 < 30) (hF : mFile G n z) : ∃ y, zf_204 0 1 x z = zi (A.1 387 0) y ∧ mR (aKeep (aFil A G n)) y ∧ mFr z y ∧ y.1 576 0 0 = z.1 576 0 0 := by
  obtain ⟨⟨s, h, b⟩, -, -⟩ := V
  have hz : mR (aFil A G n) z := h.file ok rfl (fun f h2 h3 => by funext i; exact (if_neg h2).trans (if_neg h3)) hF.1 (fun i i1 i2 => hF.2.2.1 i i1 i2) fun f i hf => b.1 f 0 i (by omega)
  obtain ⟨y, k1, k2, k3, k4⟩ := M148 hz (aOK_fil ok hF.2.1 hF.2.2.2) c30
  unfold zf_204
  rw [if_neg (by decide), k1, zC_zi]
  exact ⟨y, rfl, k2, k4, k3⟩
/-- behind the settling -/
theorem mSv.fin (V : mSv A u) (ok : aOK A) (c30 : A.1 387 0 < 30) (c : aChosen A ≠ -1) (hF : mFile F n u) (h0 : u.1 576 0 0 = 0) (a : mFr s u) {cd : Nat → Int} {K : Int → zS → zR} (hK : ∀ v y, K v y = zi v y) (e : x = cd 1) : mOut (zC (zf_211 0 (aChosen A) u) fun v s2 => zC (zf_204 0 v x s2) K) (sFin A F n).1 cd (sFin A F n).2 s := by
  obtain ⟨y, x1, x2, x3, x4, x5⟩ := aChosen_x ok c
  have o := ok.2.2.2.2.2 _ x4
  obtain ⟨z, a1, a2, a3⟩ := M211 (V.R ok c) o.1 o.2.2.2 hF
  have Vz := V.tr (mEd.ef a2)
  unfold sFin
  rw [if_pos c30, a1, zC_zi]
  show mOut (zC (zf_204 0 (eIs (eEd (aCt A) n F)) x z) K) _ cd _ s
  cases he : eEd (aCt A) n F with
  | none =>
    obtain ⟨y, b1, b2, b3, b4⟩ := Vz.end0 ok (x := x)
    dsimp only [eIs]
    rw [b1, zC_zi, hK]
    exact ⟨0, y, rfl, b2, a.tr ((mEd.ef a2).fr.tr b3), b4.trans e⟩
  | some G =>
    obtain ⟨y, b1, b2, b3, b4⟩ := Vz.end1 ok c30 (a3 G he) (x := x)
    dsimp only [eIs]
    rw [b1, zC_zi, hK]
    exact ⟨_, y, rfl, b2, a.tr ((mEd.ef a2).fr.tr b3), rfl, b4.trans ((a2.1 576 0 0 (by omega)).trans h0)⟩
theorem aOK_fin (ok : aOK A) (hn : 0 ≤ n ∧ n ≤ 160) (hG : ∀ G, eEd (aCt A) n F = some G → ∀ i, 0 ≤ i → i < n → 0 ≤ G i ∧ G i ≤ 255) : aOK (sFin A F n).2 := by
  unfold sFin
  by_cases c30 : A.1 387 0 < 30
  · rw [if_pos c30]
    cases he : eEd (aCt A) n F with
    | none => exact ok
    | some G => exact aOK_keep (aOK_fil ok hn (hG G he)) c30
  · rw [if_neg c30]
    exact ok
/-- the class begins an edit -/
theorem C10 (h : cR A s) (ok : aOK A) : ∃ u, zf_10 0 1 s = zi 0 u ∧ cR A u ∧ cWk s u ∧ yFile 2 (A.1 2) (A.1 3 0) u := by
  have o := ok.2.1
  obtain ⟨u, a1, a2, a3, a4, a5⟩ := C5 (d := 2) (b := 1) (s := s) (by decide) (by decide) (by omega) h.2.1.1
  unfold zf_10
  rw [a1, zC_zi]
  have w : cWk s u := ⟨fun f n i hf => a2 f n i (by omega), a3⟩
  exact ⟨u, rfl, h.ef (cEf.wk w), w, by decide, a4, o.1.1, o.1.2, fun i i1 i2 => (a5 i i1 i2).trans (h.2.1.2 i i1 i2), o.2⟩
theorem cRd.ef (g : cRd A s) (ok : aOK A) (a : cEf 1 s u) : cRd A u := by
  have c2 : cC A u := cC.ef (Or.inr g) a
  rcases c2 with z | z
  · rw [a.1 523 0 0 (by omega) (by omega) (by decide), g.1] at z
    have := aChosen_b ok
    omega
  · exact z
theorem C127 (h : cR A s) (ok : aOK A) (c : cC A s) : cOut (zf_127 0 s) (sRepair A).1 (sRepair A).2 s := by
  obtain ⟨u, a1, a2, a3, a4, a5⟩ := C133 h ok c
  obtain ⟨v, b1, b2, b3, b4⟩ := C10 a2 ok
  have g := a3.ef ok (cEf.wk b3)
  have fr : cFr s v := fun f n i f1 f2 => (b3.1 f n i (by omega)).trans (a4 f n i (by omega))
  have e2 : v.2 = s.2 := b3.2.trans a5
  unfold zf_127 sRepair
  rw [a1, zC_zi, b1, zC_zi]
  by_cases d : aChosen A = -1
  · unfold zf_140 zf_132
    rw [if_pos d, g.1, d, if_pos (by decide), zC_zi]
    exact cEndT b2 g fr e2
  · obtain ⟨y, c1, c2, c3, c4, c5⟩ := C140 b2 ok g d b4
    rw [if_neg d, c1]
    cases hr : (sFin A (A.1 2) (A.1 3 0)).1 with
    | inl x => exact ⟨y, rfl, c2, c3, fr.tr c4, by rw [e2] at c5; exact c5⟩
    | inr x => exact ⟨y, rfl, c2, c3, fr.tr c4, by rw [e2] at c5; exact c5⟩
theorem M220 (h : mR A s) (ok : aOK A) : mOut (zf_220 0 s) (sRepair A).1 (fun _ => 1) (sRepair A).2 s := by
  have h0 : mR A (zp 576 0 0 0 s) := h.k ok fun f i hf => zp_nk (by omega)
  obtain ⟨u, a1, a2, a3, a4⟩ := M187 h0 ok
  have e0 : u.1 576 0 0 = 0 := (a4.1 576 0 0 (by omega)).trans zp_eq
  have fr : mFr s u := mFr.tr (mFr.rf.pw (by decide)) a4.F
  have o3 := ok.2.2.1.1
  unfold zf_220 zf_220_24 zf_145 sRepair
  rw [zP_ok, a1, zC_zi]
  by_cases d : aChosen A = -1
  · rw [if_pos d, if_pos d, zP_ok]
    exact mEndT (e := 1) (cd := fun _ => 1) ok a2 fr
  · rw [if_neg d, if_neg d, a2.2.2.1.1]
    by_cases c : A.1 387 0 = 30
    · unfold sFin
      rw [if_pos c, if_neg (show ¬ A.1 387 0 < 30 by omega), zP_ok]
      exact mEndT (e := 1) (cd := fun _ => 1) ok a2 fr
    · obtain ⟨v, b1, b2, b3, b4, b5⟩ := mSv.of a2 ok
      rw [if_neg c, b1, zC_zi]
      exact b2.fin ok (by omega) d (b3.F ok) ((b4 576 0 0 (by omega)).trans e0) (fr.tr ⟨fun f n i hf => b4 f n i (by omega), b5⟩) (cd := fun _ => 1) (fun v y => rfl) rfl
end
end
