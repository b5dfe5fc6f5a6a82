/-! the reference's machine: arrays -/
/-- the frame A holds the elements of an array -/
def mAF (A g nd j due dd : Int) (s : zS) : Prop := s.1 620 0 0 = A + 1 ∧ s.1 621 0 A = 2 ∧ s.1 622 0 A = g ∧ s.1 623 0 A = nd ∧ s.1 624 0 A = j ∧ s.1 628 0 A = due ∧ s.1 629 0 A = dd
/-- what the elements of an array come to -/
def mArRes (t : Int) (T : yT) (A cnt nd : Int) (L : Nat) (s : zS) (o : yA) : Prop := match o with
  | .inr x => ∃ N u, N ≤ L ∧ mKeep A cnt s u ∧ u.1 620 0 0 = A + 1 ∧ u.1 623 0 A = nd ∧ u.1 624 0 A = x.1 ∧ u.1 607 0 0 = x.2.1 ∧ u.1 611 0 0 = x.2.2.1 ∧ mIn t T cnt x.2.2.2.2 u ∧ ∀ w, zf_176 0 u = zi 0 w → mRun t N s w
  | .inl e => ∃ N, N ≤ L ∧ mBad t A cnt N s e
/-- the first node of a structure tells its length -/
def yNmLen (nm : Int → Int → Int → yO) : Prop := ∀ pos made cnt x, nm pos made cnt = .inr x → ∃ y l, x.2.2.2 = y :: l ∧ y 195 = x.1 - pos
theorem yS_len {T : yT} {B : yB} {n : Int} (d : Nat) (s ow pa : Int) : yNmLen (yS T B n d s ow pa) := by
  intro pos made cnt x h
  cases d with
  | zero => cases h
  | succ d =>
    unfold yS at h
    split at h
    · cases h
    · split at h
      · cases h
      · cases h
        exact ⟨_, _, rfl, rfl⟩
theorem yNm_len {T : yT} {B : yB} {n : Int} {d : Nat} {ow pa : Int} : ∀ (m : Nat) (k : Int), yNmLen (yNm (yS T B n d) T ow pa m k)
  | 0, _ => fun _ _ _ _ h => by cases h
  | m + 1, k => fun pos made cnt x hx => by
    unfold yNm at hx
    cases hy : yS T B n d (T 456 k) ow pa pos made cnt with
    | inr y =>
      rw [hy] at hx
      cases hx
      exact yS_len d _ _ _ _ _ _ _ hy
    | inl e =>
      rw [hy] at hx
      obtain ⟨c, p, made'⟩ := e
      dsimp only at hx
      split at hx
      · cases hx
      · obtain ⟨z, l, h1, h2⟩ := yNm_len m (k + 1) _ _ _ _ hx
        exact ⟨z, l, h1, h2⟩
theorem mBad.pre {t K cnt cnt' : Int} {N N0 : Nat} {s w : zS} {e : Int × Int × Int} (h : mBad t K cnt' N w e) (r : mRun t N0 s w) (k : mKeep K cnt s w) (hc : cnt ≤ cnt') : mBad t K cnt (N + N0) s e := by
  unfold mBad at h ⊢
  by_cases h5 : e.1 = 5
  · rw [if_pos h5] at h ⊢
    obtain ⟨u, h2, h3, h4, h5, h6⟩ := h
    exact ⟨u, r.tr h2, h3, h4, h5, (mfm.of k.1).tr h6⟩
  · rw [if_neg h5] at h ⊢
    obtain ⟨u, h2, h3, h4, h5⟩ := h
    exact ⟨u, k.tr h2 (Int.le_refl _) hc, h3, h4, fun w hw => r.tr (h5 w hw)⟩
theorem mArRes.pre {t : Int} {T : yT} {A cnt nd : Int} {L L' N0 : Nat} {s w : zS} {o : yA} (h : mArRes t T A cnt nd L w o) (r : mRun t N0 s w) (k : mKeep A cnt s w) (hL : L + N0 ≤ L') : mArRes t T A cnt nd L' s o := by
  cases o with
  | inr x =>
    obtain ⟨N, u, h1, h2, h3, h4, h5, h6, h7, h8, h9⟩ := h
    exact ⟨N + N0, u, by omega, k.tr h2 (Int.le_refl _) (Int.le_refl _), h3, h4, h5, h6, h7, h8, fun w hw => r.tr (h9 w hw)⟩
  | inl e =>
    obtain ⟨N, h1, h2⟩ := h
    exact ⟨N + N0, by omega, h2.pre r k (Int.le_refl _)⟩
section
variable {t n : Int} {T : yT} {B : yB} {E : yE} {K J A pos made cnt st k me dd g nd pa way due j ln v bt : Int} {s u w : zS}
theorem M180_try (F : mAF A g nd j due dd s) (hA : 1 ≤ A ∧ A ≤ 40) (hg : 0 ≤ g ∧ g < 192) (hd : 0 ≤ dd ∧ dd ≤ 5) (P : mPre pos made cnt s) : zf_180_122 0 A g 0 s = zi 0 (zp 629 0 (A + 1) (dd + 1) (zp 628 0 (A + 1) cnt (zp 627 0 (A + 1) (s.1 588 0 g) (mPu 1 g nd pos (A + 1) s)))) := by
  obtain ⟨f1, f2, f3, f4, f5, f6, f7⟩ := F
  unfold zf_180_122
  rw [if_pos rfl, zn_ok (by omega), zn_ok (by omega), f4, f7, M178 (K := A + 1) f1 P.1 P.2.2.1 (by omega) hg (by omega), zC_zi]
/-- the state behind the step that begins an element -/
theorem M180_st (R : mRd t T B n s) (F : mAF A g nd j due dd s) (hA : 1 ≤ A ∧ A ≤ 40) (P : mPre pos made cnt s) : mKeep (A + 1) cnt s (zp 629 0 (A + 1) (dd + 1) (zp 628 0 (A + 1) cnt (zp 627 0 (A + 1) (s.1 588 0 g) (mPu 1 g nd pos (A + 1) s)))) ∧ mTF (A + 1) g nd cnt pos (s.1 588 0 g) (dd + 1) (zp 629 0 (A + 1) (dd + 1) (zp 628 0 (A + 1) cnt (zp 627 0 (A + 1) (s.1 588 0 g) (mPu 1 g nd pos (A + 1) s)))) ∧ mPre pos made cnt (zp 629 0 (A + 1) (dd + 1) (zp 628 0 (A + 1) cnt (zp 627 0 (A + 1) (s.1 588 0 g) (mPu 1 g nd pos (A + 1) s)))) := by
  obtain ⟨u1, u2, u3, u4, u5, u6, u7⟩ := mPu_get (what := 1) (st := g) (nd := nd) (pos := pos) (K := A + 1) (s := s)
  obtain ⟨p1, p2, p3, p4, p5, p6, p7⟩ := P
  refine ⟨(((mKeep.pu (cnt := cnt)).pw (by omega)).pw (by omega)).pw (by omega), ⟨?_, ?_, ?_, ?_, ?_, ?_, ?_, zp_eq⟩, ⟨?_, ?_, ?_, p4, p5, p6, p7⟩⟩
  · rw [zp_nn (by omega), zp_nn (by omega), zp_nn (by omega)]
    exact u1
  · rw [zp_nn (by omega), zp_nn (by omega), zp_nn (by omega)]
    exact u2
  · rw [zp_nn (by omega), zp_nn (by omega), zp_nn (by omega)]
    exact u3
  · rw [zp_nn (by omega), zp_nn (by omega), zp_nn (by omega)]
    exact u4
  · rw [zp_nn (by omega), zp_nn (by omega), zp_eq]
  · rw [zp_nn (by omega), zp_eq]
  · rw [zp_nn (by omega), zp_nn (by omega), zp_nn (by omega)]
    exact u7
  · rw [zp_nn (by omega), zp_nn (by omega), zp_nn (by omega), mPu_lo (by decide)]
    exact p1
  · rw [zp_nn (by omega), zp_nn (by omega), zp_nn (by omega), mPu_lo (by decide)]
    exact p2
  · rw [zp_nn (by omega), zp_nn (by omega), zp_nn (by omega), mPu_lo (by decide)]
    exact p3
theorem mAF.kp {s' : zS} {cn : Int} (F : mAF A g nd j due dd s) (k : mKeep (A + 1) cn s s') (h : s'.1 620 0 0 = A + 1) : mAF A g nd j due dd s' := by
  obtain ⟨f1, f2, f3, f4, f5, f6, f7⟩ := F
  have a := fun (f : Nat) (h1 : 621 ≤ f) (h2 : f < 630) => k.2.2.1 f A h1 h2 (by omega)
  exact ⟨h, (a 621 (by decide) (by decide)).trans f2, (a 622 (by decide) (by decide)).trans f3, (a 623 (by decide) (by decide)).trans f4, (a 624 (by decide) (by decide)).trans f5, (a 628 (by decide) (by decide)).trans f6, (a 629 (by decide) (by decide)).trans f7⟩
/-- one element: what the names come to, from the array's own frame -/
def mElRes (t : Int) (T : yT) (A g nd j due dd cnt pos : Int) (L : Nat) (s : zS) (o : yO) : Prop := match o with
  | .inr x => ∃ N u, N ≤ L ∧ mKeep (A + 1) cnt s u ∧ mAF A g nd j due dd u ∧ u.1 607 0 0 = x.1 ∧ u.1 611 0 0 = x.2.1 ∧ mIn t T cnt x.2.2.2 u ∧ (∀ w, mTl (A + 1) cnt u w → mRun t N s w)
  | .inl e => if e.1 = 5 then (∃ N w, N ≤ L ∧ mRun t N s w ∧ w.1 620 0 0 = 0 ∧ w.1 608 0 0 = 5 ∧ w.1 609 0 0 = e.2.1 ∧ mfm s w) else ∃ N u, N ≤ L ∧ mKeep (A + 1) cnt s u ∧ mAF A g nd j due dd u ∧ u.1 607 0 0 = pos ∧ u.1 610 0 0 = cnt ∧ u.1 611 0 0 = e.2.2 ∧ ∀ w, mAft (A + 1) e.1 e.2.1 u w → mRun t N s w
theorem M_el {d L : Nat} (hN : mNames t T B n d L) (W : yWT T) (hst : 0 ≤ st ∧ st < T 449 0) (hk : 0 ≤ k ∧ k < T 453 st) (h91 : T 458 (8 * st + k) = 91) (hA : 1 ≤ A ∧ A ≤ 16 - 3 * d) (hg : g = 48 * t + (8 * st + k)) (R : mRd t T B n s) (F : mAF A g nd j due (5 - d) s) (P : mPre pos made cnt s) (hj : 0 ≤ j ∧ j ≤ 500) (h5 : d ≤ 5) (step : zf_180 0 t s = zf_180_122 0 A g 0 s) : mElRes t T A g nd j due (5 - d) cnt pos (L + 1) s (yNm (yS T B n d) T (-1) nd (T 464 (8 * st + k) - T 463 (8 * st + k)).toNat (T 463 (8 * st + k)) pos made cnt) := by
  obtain ⟨c1, c2, c3⟩ := W.2.2 st hst.1 hst.2
  have h6 := W.2.1
  have ht := R.1.1
  obtain ⟨K1, F1, P1⟩ := M180_st R F (by omega) P
  rw [M180_try F (by omega) (by omega) (by omega) P] at step
  have run1 := mRun.st (t := t) F.1 (by omega) (Or.inr (Or.inr ⟨F.2.1, step⟩))
  generalize zp 629 0 (A + 1) (5 - (d : Int) + 1) (zp 628 0 (A + 1) cnt (zp 627 0 (A + 1) (s.1 588 0 g) (mPu 1 g nd pos (A + 1) s))) = q at K1 F1 P1 run1
  have e588 : s.1 588 0 g = q.1 588 0 g := (K1.1.1 588 0 g (by omega)).symm
  rw [e588, hg, show (5 : Int) - d + 1 = 6 - d by omega] at F1
  have e624 : q.1 624 0 (A + 1 - 1) = j := by
    rw [show A + 1 - 1 = A by omega, K1.2.2.1 624 A (by decide) (by decide) (by omega)]
    exact F.2.2.2.2.1
  have a := hN q (A + 1) st k nd pos made cnt (R.fr K1.1) hst hk (Or.inr h91) (by omega) F1 P1 (by omega)
  rw [if_neg (by omega)] at a
  revert a
  cases yNm (yS T B n d) T (-1) nd (T 464 (8 * st + k) - T 463 (8 * st + k)).toNat (T 463 (8 * st + k)) pos made cnt with
  | inr x =>
    intro a
    obtain ⟨N, u, h1, h2, h3, h4, h5, h6, h7⟩ := a
    have K2 := K1.tr h2 (Int.le_refl _) (Int.le_refl _)
    exact ⟨N + 1, u, by omega, K2, F.kp K2 h3, h4, h5, h6, fun w hw => run1.tr (h7 w hw)⟩
  | inl e =>
    intro a
    unfold mNmRes at a
    unfold mElRes
    dsimp only at a ⊢
    by_cases h5 : e.1 = 5
    · rw [if_pos h5] at a ⊢
      obtain ⟨N, w, h1, h2, h3, h4, h5, h6⟩ := a
      exact ⟨N + 1, w, by omega, run1.tr h2, h3, h4, h5, (mfm.of K1.1).tr h6⟩
    · rw [if_neg h5] at a ⊢
      obtain ⟨N, u, h1, h2, h3, h4, h5, h6, h7⟩ := a
      have K2 := K1.tr h2 (Int.le_refl _) (Int.le_refl _)
      exact ⟨N + 1, u, by omega, K2, F.kp K2 h3, h4, h5, h6, fun w hw => run1.tr (h7 w hw)⟩
/-- a fault in an element that is the array's own -/
theorem mBad.ar {c p m' : Int} {N : Nat} (h5 : c ≠ 5) (K1 : mKeep (A + 1) cnt s u) (F : mAF A g nd j due dd u) (hA : 1 ≤ A ∧ A ≤ 40) (hm : u.1 611 0 0 = m') (h : ∀ w, mFl (A + 1) c p u w → mRun t N s w) : mBad t A cnt N s (c, p, m') := by
  unfold mBad
  rw [if_neg h5]
  refine ⟨zp 620 0 0 A u, ((mKeep.rf (K := A) (cnt := cnt)).tr K1 (by omega) (Int.le_refl _)).pw (by omega), zp_eq, ?_, fun w hw => h w (mFl.pop F.1 (by omega) (by rw [F.2.1]; decide) hw)⟩
  rw [zp_nn (by omega)]
  exact hm
def yJoin (w1 : Int) (l1 : List yN) (o : yA) : yA := match o with
  | .inl e => .inl e
  | .inr x => .inr (x.1, x.2.1, x.2.2.1, w1 + x.2.2.2.1, l1 ++ x.2.2.2.2)
theorem mArRes.join {o : yA} {L : Nat} {w1 : Int} {l1 : List yN} {N : Nat} (h : mArRes t T A (cnt + l1.length) nd L w o) (r : mRun t N s w) (K1 : mKeep A cnt s w) (I1 : mIn t T cnt l1 w) : mArRes t T A cnt nd (L + N) s (yJoin w1 l1 o) := by
  cases o with
  | inl e =>
    obtain ⟨M, h1, h2⟩ := h
    exact ⟨M + N, by omega, h2.pre r K1 (by omega)⟩
  | inr x =>
    obtain ⟨k2, p2, m2, w2, l2⟩ := x
    obtain ⟨M, u, h1, h2, h3, h4, h5, h6, h7, h8, h9⟩ := h
    exact ⟨M + N, u, by omega, K1.tr h2 (Int.le_refl _) (by omega), h3, h4, h5, h6, h7, I1.app h2 h8, fun w hw => r.tr (h9 w hw)⟩
theorem M_ct {d L : Nat} (hN : mNames t T B n d L) (W : yWT T) (hst : 0 ≤ st ∧ st < T 449 0) (hk : 0 ≤ k ∧ k < T 453 st) (h91 : T 458 (8 * st + k) = 91) (hw : T 465 (8 * st + k) = 63 ∨ T 465 (8 * st + k) = 43) (hA : 1 ≤ A ∧ A ≤ 16 - 3 * d) (hg : g = 48 * t + (8 * st + k)) (h5 : d ≤ 5) (hdue : 0 ≤ due ∧ due ≤ 200) : ∀ (m : Nat) (j pos made cnt : Int) (s : zS), 0 ≤ j → j + m = due → mRd t T B n s → mAF A g nd j due (5 - d) s → mPre pos made cnt s → mArRes t T A cnt nd (m * (L + 1) + 1) s (match yCt (yNm (yS T B n d) T (-1) nd (T 464 (8 * st + k) - T 463 (8 * st + k)).toNat (T 463 (8 * st + k))) m pos made cnt with
    | .inl e => .inl e
    | .inr x => .inr (due, x)) := by
  obtain ⟨c1, c2, c3⟩ := W.2.2 st hst.1 hst.2
  have h6 := W.2.1
  have Wk := c3 k hk.1 hk.2
  clear c3
  intro m
  induction m with
  | zero =>
    intro j pos made cnt s h0 hj R F P
    obtain ⟨f1, f2, f3, f4, f5, f6, f7⟩ := id F
    obtain ⟨r1, r2, r3⟩ := id R.1
    have qf := ((r3 st hst.1 hst.2).2.2.2 k hk.1 hk.2).2.2.2.1
    rw [if_pos h91] at qf
    clear r3
    refine ⟨1, s, by omega, mKeep.rf, f1, f4, by rw [f5]; show j = due; omega, P.1, P.2.1, mIn.nil P.2.2.1, fun w hw => ?_⟩
    refine mRun.st (x := 0) f1 (by omega) (Or.inr (Or.inr ⟨f2, ?_⟩))
    unfold zf_180
    rw [f1, show A + 1 - 1 = A by omega, f3, f5, f6, hg, qf, zg_ok ⟨by omega, by omega⟩, zn_ok (by omega), zn_ok (by omega), if_neg (by split <;> omega), zn_ok (by omega), if_neg (by split <;> omega), zn_ok (by omega), zn_ok (by omega), if_pos (by omega)]
    unfold zf_180_56
    rw [zn_ok (by omega), qf, if_neg (by split <;> omega)]
    unfold zf_180_122
    rw [if_neg (by decide), hw, zC_zi]
  | succ m ih =>
    intro j pos made cnt s h0 hj R F P
    obtain ⟨f1, f2, f3, f4, f5, f6, f7⟩ := id F
    obtain ⟨r1, r2, r3⟩ := id R.1
    have qf := ((r3 st hst.1 hst.2).2.2.2 k hk.1 hk.2).2.2.2.1
    rw [if_pos h91] at qf
    clear r3
    have step : zf_180 0 t s = zf_180_122 0 A g 0 s := by
      unfold zf_180
      rw [f1, show A + 1 - 1 = A by omega, f3, f5, f6, hg, qf, zg_ok ⟨by omega, by omega⟩, zn_ok (by omega), zn_ok (by omega), if_neg (by split <;> omega), zn_ok (by omega), if_neg (by split <;> omega), zn_ok (by omega), zn_ok (by omega), if_neg (by omega)]
      unfold zf_180_56
      rw [zn_ok (by omega), qf, if_neg (by split <;> omega)]
    have a := M_el hN W hst hk h91 hA hg R F P (by omega) h5 step
    have ok := yNm_okW (ow := -1) (pa := nd) (yS_ok W R.2.2.2.1.2 R.2.2.2.2.2 d) Wk (Or.inr h91) pos made cnt P.2.2.2.1.1 (by have := P.2.2.2.2.1; have := P.2.2.2.2.2.1; omega) P.2.2.2.2.2.2
    rw [yCt]
    revert a ok
    cases hnm : yNm (yS T B n d) T (-1) nd (T 464 (8 * st + k) - T 463 (8 * st + k)).toNat (T 463 (8 * st + k)) pos made cnt with
    | inl e =>
      intro a ok
      unfold mElRes at a
      dsimp only at a ⊢
      by_cases h5' : e.1 = 5
      · rw [if_pos h5'] at a
        obtain ⟨N, w, b1, b2, b3, b4, b5, b6⟩ := a
        refine ⟨N, by rw [Nat.succ_mul]; omega, ?_⟩
        unfold mBad
        rw [if_pos h5']
        exact ⟨w, b2, b3, b4, b5, b6⟩
      · rw [if_neg h5'] at a
        obtain ⟨N, u, b1, b2, b3, b4, b5, b6, b7⟩ := a
        refine ⟨N, by rw [Nat.succ_mul]; omega, ?_⟩
        obtain ⟨c', p', m'⟩ := e
        have mo : u.1 590 0 (u.1 622 0 A) = if T 465 (8 * st + k) = 43 then 115 else T 465 (8 * st + k) := by rw [b3.2.2.1, hg, b2.1.1 590 0 _ (by omega)]; exact qf
        exact mBad.ar h5' b2 b3 (by omega) b6 (fun w hw => b7 w (Or.inr (Or.inl ⟨by rw [show A + 1 - 1 = A by omega]; exact b3.2.1, by rw [show A + 1 - 1 = A by omega, b3.2.2.1]; omega, by rw [show A + 1 - 1 = A by omega, mo]; split <;> omega, hw⟩)))
    | inr x =>
      intro a ok
      obtain ⟨p1, m1, w1, l1⟩ := x
      obtain ⟨N, u, b1, b2, b3, b4, b5, b6, b7⟩ := a
      dsimp only at b4 b5 b6 ⊢
      obtain ⟨o1, o2, o3, o4, o5, o6⟩ := ok
      dsimp only at o1 o2 o3 o4 o5 o6
      obtain ⟨p1', p2', p3', p4', p5', p6', p7'⟩ := P
      have n8 := R.2.2.2.1
      have mo : u.1 590 0 (u.1 622 0 A) = if T 465 (8 * st + k) = 43 then 115 else T 465 (8 * st + k) := by rw [b3.2.2.1, hg, b2.1.1 590 0 _ (by omega)]; exact qf
      have rn := b7 (zp 624 0 A (j + 1) u) (Or.inr ⟨by rw [show A + 1 - 1 = A by omega]; exact b3.2.1, by rw [show A + 1 - 1 = A by omega, b3.2.2.1]; omega, Or.inl ⟨by rw [show A + 1 - 1 = A by omega, mo]; split <;> omega, by rw [show A + 1 - 1 = A by omega, mo]; split <;> omega, by rw [show A + 1 - 1 = A by omega, b3.2.2.2.2.1]⟩⟩)
      have K3 : mKeep A cnt s (zp 624 0 A (j + 1) u) := ((mKeep.rf (K := A) (cnt := cnt)).tr b2 (by omega) (Int.le_refl _)).pw (by omega)
      have F3 : mAF A g nd (j + 1) due (5 - d) (zp 624 0 A (j + 1) u) := ⟨(zp_nn (by omega)).trans b3.1, (zp_nn (by omega)).trans b3.2.1, (zp_nn (by omega)).trans b3.2.2.1, (zp_nn (by omega)).trans b3.2.2.2.1, zp_eq, (zp_nn (by omega)).trans b3.2.2.2.2.2.1, (zp_nn (by omega)).trans b3.2.2.2.2.2.2⟩
      have hi : ∀ (f : Nat) (i : Int), f < 621 → (zp 624 0 A (j + 1) u).1 f 0 i = u.1 f 0 i := fun f i h => zp_nn (by omega)
      have I3 : mIn t T cnt l1 (zp 624 0 A (j + 1) u) := ⟨(hi 610 0 (by decide)).trans b6.1, fun j' x hx => by
        rw [hi 612 _ (by decide), hi 613 _ (by decide), hi 614 _ (by decide), hi 615 _ (by decide), hi 616 _ (by decide), hi 617 _ (by decide), hi 618 _ (by decide), hi 619 _ (by decide)]
        exact b6.2 j' x hx⟩
      have P3 : mPre p1 m1 (cnt + l1.length) (zp 624 0 A (j + 1) u) := ⟨(hi 607 0 (by decide)).trans b4, (hi 611 0 (by decide)).trans b5, I3.1, by omega, by omega, by omega, by omega⟩
      have z := ih (j + 1) p1 m1 (cnt + l1.length) _ (by omega) (by omega) (R.fr K3.1) F3 P3
      have zz := mArRes.join (w1 := w1) z rn K3 I3
      have z2 := zz.pre (L' := (m + 1) * (L + 1) + 1) mRun.rf mKeep.rf (by rw [Nat.succ_mul]; omega)
      revert z2
      cases yCt (yNm (yS T B n d) T (-1) nd (T 464 (8 * st + k) - T 463 (8 * st + k)).toNat (T 463 (8 * st + k))) m p1 m1 (cnt + l1.length) with
      | inl e => exact fun z => z
      | inr x => exact fun z => z
/-- an array by all of its elements -/
theorem M_al {d L : Nat} (hN : mNames t T B n d L) (W : yWT T) (hst : 0 ≤ st ∧ st < T 449 0) (hk : 0 ≤ k ∧ k < T 453 st) (h91 : T 458 (8 * st + k) = 91) (hw : T 465 (8 * st + k) = 42) (hA : 1 ≤ A ∧ A ≤ 16 - 3 * d) (hg : g = 48 * t + (8 * st + k)) (h5 : d ≤ 5) : ∀ (m : Nat) (j pos made cnt : Int) (s : zS), 0 ≤ j → j + m = 201 → j ≤ made → mRd t T B n s → mAF A g nd j due (5 - d) s → mPre pos made cnt s → mArRes t T A cnt nd (m * (L + 1) + 1) s (yAl (yNm (yS T B n d) T (-1) nd (T 464 (8 * st + k) - T 463 (8 * st + k)).toNat (T 463 (8 * st + k))) m j pos made cnt) := by
  obtain ⟨c1, c2, c3⟩ := W.2.2 st hst.1 hst.2
  have h6 := W.2.1
  have Wk := c3 k hk.1 hk.2
  clear c3
  intro m
  induction m with
  | zero =>
    intro j pos made cnt s h0 hj hjm R F P
    have := P.2.2.2.2.2.2
    omega
  | succ m ih =>
    intro j pos made cnt s h0 hj hjm R F P
    obtain ⟨f1, f2, f3, f4, f5, f6, f7⟩ := id F
    obtain ⟨r1, r2, r3⟩ := id R.1
    have qf := ((r3 st hst.1 hst.2).2.2.2 k hk.1 hk.2).2.2.2.1
    rw [if_pos h91, if_neg (by omega), hw] at qf
    clear r3
    have hm := P.2.2.2.2.2.2
    have step : zf_180 0 t s = zf_180_122 0 A g 0 s := by
      unfold zf_180
      rw [f1, show A + 1 - 1 = A by omega, f3, hg, qf, zg_ok ⟨by omega, by omega⟩, zn_ok (by omega), zn_ok (by omega), if_pos rfl]
      unfold zf_180_56
      rw [zn_ok (by omega), qf, if_neg (by decide)]
    have a := M_el hN W hst hk h91 hA hg R F P (by omega) h5 step
    have ok := yNm_okW (ow := -1) (pa := nd) (yS_ok W R.2.2.2.1.2 R.2.2.2.2.2 d) Wk (Or.inr h91) pos made cnt P.2.2.2.1.1 (by have := P.2.2.2.2.1; have := P.2.2.2.2.2.1; omega) P.2.2.2.2.2.2
    have len := yNm_len (T := T) (B := B) (n := n) (d := d) (ow := -1) (pa := nd) (T 464 (8 * st + k) - T 463 (8 * st + k)).toNat (T 463 (8 * st + k)) pos made cnt
    rw [yAl]
    revert a ok len
    cases hnm : yNm (yS T B n d) T (-1) nd (T 464 (8 * st + k) - T 463 (8 * st + k)).toNat (T 463 (8 * st + k)) pos made cnt with
    | inl e =>
      intro a ok _
      obtain ⟨c', p', m'⟩ := e
      unfold mElRes at a
      dsimp only at a ⊢
      by_cases h5' : c' = 5
      · rw [if_pos h5'] at a ⊢
        obtain ⟨N, w, b1, b2, b3, b4, b5, b6⟩ := a
        refine ⟨N, by rw [Nat.succ_mul]; omega, ?_⟩
        unfold mBad
        rw [if_pos h5']
        exact ⟨w, b2, b3, b4, b5, b6⟩
      · rw [if_neg h5'] at a ⊢
        obtain ⟨N, u, b1, b2, b3, b4, b5, b6, b7⟩ := a
        have mo : u.1 590 0 (u.1 622 0 A) = 42 := by rw [b3.2.2.1, hg, b2.1.1 590 0 _ (by omega)]; exact qf
        refine ⟨N, u, by rw [Nat.succ_mul]; omega, (mKeep.rf (K := A) (cnt := cnt)).tr b2 (by omega) (Int.le_refl _), b3.1, b3.2.2.2.1, b3.2.2.2.2.1, b4, b6, mIn.nil b5, fun w hw => b7 w (Or.inl ⟨?_, ?_, ?_, hw⟩)⟩
        · rw [show A + 1 - 1 = A by omega]
          exact b3.2.1
        · rw [show A + 1 - 1 = A by omega, b3.2.2.1]
          omega
        · rw [show A + 1 - 1 = A by omega]
          exact mo
    | inr x =>
      intro a ok len
      obtain ⟨p1, m1, w1, l1⟩ := x
      obtain ⟨y0, l0, hl0, hy0⟩ := len _ rfl
      obtain ⟨N, u, b1, b2, b3, b4, b5, b6, b7⟩ := a
      dsimp only at b4 b5 b6 hl0 hy0 ⊢
      obtain ⟨o1, o2, o3, o4, o5, o6⟩ := ok
      dsimp only at o1 o2 o3 o4 o5 o6
      obtain ⟨p1', p2', p3', p4', p5', p6', p7'⟩ := P
      have n8 := R.2.2.2.1
      have hlen : 1 ≤ l1.length := by
        rw [hl0]
        simp
      have mo : u.1 590 0 (u.1 622 0 A) = 42 := by rw [b3.2.2.1, hg, b2.1.1 590 0 _ (by omega)]; exact qf
      have e615 : u.1 615 0 cnt = p1 - pos := by
        have := (b6.2 0 y0 (by rw [hl0]; rfl)).2.2.2.1
        rw [show cnt + ((0 : Nat) : Int) = cnt by omega] at this
        rw [this, hy0]
      by_cases hpp : p1 = pos
      · rw [if_pos hpp]
        refine ⟨N, zp 610 0 0 cnt u, by rw [Nat.succ_mul]; omega, ((mKeep.rf (K := A) (cnt := cnt)).tr b2 (by omega) (Int.le_refl _)).pw (by omega), (zp_nn (by omega)).trans b3.1, (zp_nn (by omega)).trans b3.2.2.2.1, (zp_nn (by omega)).trans b3.2.2.2.2.1, (zp_nn (by omega)).trans (b4.trans hpp), (zp_nn (by omega)).trans b5, mIn.nil zp_eq, fun w hw' => b7 w (Or.inr ⟨by rw [show A + 1 - 1 = A by omega]; exact b3.2.1, by rw [show A + 1 - 1 = A by omega, b3.2.2.1]; omega, Or.inr ⟨by rw [show A + 1 - 1 = A by omega, mo]; exact Or.inl rfl, ?_⟩⟩)⟩
        unfold zf_181_143
        rw [show A + 1 - 1 = A by omega, mo, zn_ok (by omega), e615, if_pos (by omega), zP_ok, if_pos rfl, hw', zC_zi]
      · rw [if_neg hpp]
        have rn := b7 (zp 624 0 A (j + 1) u) (Or.inr ⟨by rw [show A + 1 - 1 = A by omega]; exact b3.2.1, by rw [show A + 1 - 1 = A by omega, b3.2.2.1]; omega, Or.inr ⟨by rw [show A + 1 - 1 = A by omega, mo]; exact Or.inl rfl, by
          unfold zf_181_143 zf_181_191
          rw [show A + 1 - 1 = A by omega, zn_ok (by omega), e615, if_neg (by omega), zn_ok (by omega), b3.2.2.2.2.1, zg_ok ⟨by omega, by omega⟩, zW_ok (by omega)]⟩⟩)
        have K3 : mKeep A cnt s (zp 624 0 A (j + 1) u) := ((mKeep.rf (K := A) (cnt := cnt)).tr b2 (by omega) (Int.le_refl _)).pw (by omega)
        have F3 : mAF A g nd (j + 1) due (5 - d) (zp 624 0 A (j + 1) u) := ⟨(zp_nn (by omega)).trans b3.1, (zp_nn (by omega)).trans b3.2.1, (zp_nn (by omega)).trans b3.2.2.1, (zp_nn (by omega)).trans b3.2.2.2.1, zp_eq, (zp_nn (by omega)).trans b3.2.2.2.2.2.1, (zp_nn (by omega)).trans b3.2.2.2.2.2.2⟩
        have hi : ∀ (f : Nat) (i : Int), f < 621 → (zp 624 0 A (j + 1) u).1 f 0 i = u.1 f 0 i := fun f i h => zp_nn (by omega)
        have I3 : mIn t T cnt l1 (zp 624 0 A (j + 1) u) := ⟨(hi 610 0 (by decide)).trans b6.1, fun j' x hx => by
          rw [hi 612 _ (by decide), hi 613 _ (by decide), hi 614 _ (by decide), hi 615 _ (by decide), hi 616 _ (by decide), hi 617 _ (by decide), hi 618 _ (by decide), hi 619 _ (by decide)]
          exact b6.2 j' x hx⟩
        have P3 : mPre p1 m1 (cnt + l1.length) (zp 624 0 A (j + 1) u) := ⟨(hi 607 0 (by decide)).trans b4, (hi 611 0 (by decide)).trans b5, I3.1, by omega, by omega, by omega, by omega⟩
        have z := ih (j + 1) p1 m1 (cnt + l1.length) _ (by omega) (by omega) (by omega) (R.fr K3.1) F3 P3
        have zz := mArRes.join (w1 := w1) z rn K3 I3
        have z2 := zz.pre (L' := (m + 1) * (L + 1) + 1) mRun.rf mKeep.rf (by rw [Nat.succ_mul]; omega)
        revert z2
        cases yAl (yNm (yS T B n d) T (-1) nd (T 464 (8 * st + k) - T 463 (8 * st + k)).toNat (T 463 (8 * st + k))) m (j + 1) p1 m1 (cnt + l1.length) with
        | inl e => exact fun z => z
        | inr x => exact fun z => z
/-- an array up to its end -/
theorem M_en {d L : Nat} {sta : Int} (hN : mNames t T B n d L) (W : yWT T) (hst : 0 ≤ st ∧ st < T 449 0) (hk : 0 ≤ k ∧ k < T 453 st) (h91 : T 458 (8 * st + k) = 91) (hw : T 465 (8 * st + k) = 33) (hA : 1 ≤ A ∧ A ≤ 16 - 3 * d) (hg : g = 48 * t + (8 * st + k)) (h5 : d ≤ 5) : ∀ (m : Nat) (j pos made cnt : Int) (s : zS), 0 ≤ j → j + m = 201 → j ≤ made → mRd t T B n s → mAF A g nd j due (5 - d) s → mPre pos made cnt s → (0 ≤ nd ∧ nd < cnt) → s.1 614 0 nd = sta → mArRes t T A cnt nd (m * (L + 1) + 1) s (yEn B n (yNm (yS T B n d) T (-1) nd (T 464 (8 * st + k) - T 463 (8 * st + k)).toNat (T 463 (8 * st + k))) due sta m j pos made cnt) := by
  obtain ⟨c1, c2, c3⟩ := W.2.2 st hst.1 hst.2
  have h6 := W.2.1
  have Wk := c3 k hk.1 hk.2
  clear c3
  intro m
  induction m with
  | zero =>
    intro j pos made cnt s h0 hj hjm R F P hnd hs
    have := P.2.2.2.2.2.2
    omega
  | succ m ih =>
    intro j pos made cnt s h0 hj hjm R F P hnd hs
    obtain ⟨f1, f2, f3, f4, f5, f6, f7⟩ := id F
    obtain ⟨r1, r2, r3⟩ := id R.1
    have qf := ((r3 st hst.1 hst.2).2.2.2 k hk.1 hk.2).2.2.2.1
    rw [if_pos h91, if_neg (by omega), hw] at qf
    clear r3
    obtain ⟨p1', p2', p3', p4', p5', p6', p7'⟩ := id P
    have n8 := R.2.2.2.1
    have hm := P.2.2.2.2.2.2
    have head : zf_180 0 t s = if pos < n then (if s.1 595 0 pos = due then zf_180_122 0 A g 1 s else zf_180_122 0 A g 0 s) else zC (zf_177 0 1 sta s) fun _ s2 => zi 0 s2 := by
      unfold zf_180
      rw [f1, show A + 1 - 1 = A by omega, f3, hg, qf, zg_ok ⟨by omega, by omega⟩, zn_ok (by omega), zn_ok (by omega), if_neg (by decide), zn_ok (by omega), if_pos rfl]
      unfold zf_180_56
      rw [zn_ok (by omega), qf, if_pos rfl, p1', R.2.2.1, f6, f4]
      by_cases hp : pos < n
      · rw [if_pos hp, if_pos hp, zn_ok (by omega), zn_ok (by omega)]
      · rw [if_neg hp, if_neg hp, zn_ok (by omega), zn_ok (by omega), hs]
    rw [yEn]
    by_cases hp : pos < n
    · rw [if_pos hp, R.2.2.2.2.1 pos p4'.1 hp] at head
      by_cases he : B pos = due
      · rw [if_pos he] at head
        rw [if_pos ⟨hp, he⟩]
        refine ⟨1, s, by rw [Nat.succ_mul]; omega, mKeep.rf, f1, f4, f5, p1', p2', mIn.nil p3', fun w hw' => mRun.st (x := 0) f1 (by omega) (Or.inr (Or.inr ⟨f2, ?_⟩))⟩
        rw [head]
        unfold zf_180_122
        rw [if_neg (by decide), hw', zC_zi]
      · rw [if_neg he] at head
        rw [if_neg (fun h => he h.2), if_neg (by omega)]
        have a := M_el hN W hst hk h91 hA hg R F P (by omega) h5 head
        have ok := yNm_okW (ow := -1) (pa := nd) (yS_ok W R.2.2.2.1.2 R.2.2.2.2.2 d) Wk (Or.inr h91) pos made cnt P.2.2.2.1.1 (by omega) P.2.2.2.2.2.2
        have len := yNm_len (T := T) (B := B) (n := n) (d := d) (ow := -1) (pa := nd) (T 464 (8 * st + k) - T 463 (8 * st + k)).toNat (T 463 (8 * st + k)) pos made cnt
        revert a ok len
        cases hnm : yNm (yS T B n d) T (-1) nd (T 464 (8 * st + k) - T 463 (8 * st + k)).toNat (T 463 (8 * st + k)) pos made cnt with
        | inl e =>
          intro a ok _
          obtain ⟨c', p', m'⟩ := e
          unfold mElRes at a
          dsimp only at a ⊢
          by_cases h5' : c' = 5
          · rw [if_pos h5'] at a
            obtain ⟨N, w, b1, b2, b3, b4, b5, b6⟩ := a
            refine ⟨N, by rw [Nat.succ_mul]; omega, ?_⟩
            unfold mBad
            rw [if_pos h5']
            exact ⟨w, b2, b3, b4, b5, b6⟩
          · rw [if_neg h5'] at a
            obtain ⟨N, u, b1, b2, b3, b4, b5, b6, b7⟩ := a
            have mo : u.1 590 0 (u.1 622 0 A) = 33 := by rw [b3.2.2.1, hg, b2.1.1 590 0 _ (by omega)]; exact qf
            refine ⟨N, by rw [Nat.succ_mul]; omega, mBad.ar h5' b2 b3 (by omega) b6 (fun w hw => b7 w (Or.inr (Or.inl ⟨?_, ?_, ?_, hw⟩)))⟩
            · rw [show A + 1 - 1 = A by omega]
              exact b3.2.1
            · rw [show A + 1 - 1 = A by omega, b3.2.2.1]
              omega
            · rw [show A + 1 - 1 = A by omega, mo]
              decide
        | inr x =>
          intro a ok len
          obtain ⟨p1, m1, w1, l1⟩ := x
          obtain ⟨y0, l0, hl0, hy0⟩ := len _ rfl
          obtain ⟨N, u, b1, b2, b3, b4, b5, b6, b7⟩ := a
          dsimp only at b4 b5 b6 hl0 hy0 ⊢
          obtain ⟨o1, o2, o3, o4, o5, o6⟩ := ok
          dsimp only at o1 o2 o3 o4 o5 o6
          have hlen : 1 ≤ l1.length := by
            rw [hl0]
            simp
          have mo : u.1 590 0 (u.1 622 0 A) = 33 := by rw [b3.2.2.1, hg, b2.1.1 590 0 _ (by omega)]; exact qf
          have e615 : u.1 615 0 cnt = p1 - pos := by
            have := (b6.2 0 y0 (by rw [hl0]; rfl)).2.2.2.1
            rw [show cnt + ((0 : Nat) : Int) = cnt by omega] at this
            rw [this, hy0]
          have e614 : u.1 614 0 nd = sta := (b2.2.1 614 nd (by decide) (by decide) hnd.2).trans hs
          by_cases hpp : p1 = pos
          · rw [if_pos hpp]
            have K4 : mKeep (A + 1) cnt s (zp 610 0 0 cnt u) := b2.pw (by omega)
            have F4 : mAF A g nd j due (5 - d) (zp 610 0 0 cnt u) := b3.kp ((mKeep.rf (K := A + 1) (cnt := cnt)).pw (by omega)) ((zp_nn (by omega)).trans b3.1)
            refine ⟨N, by rw [Nat.succ_mul]; omega, mBad.ar (by decide) K4 F4 (by omega) ((zp_nn (by omega)).trans b5) (fun w hw' => b7 w (Or.inr ⟨by rw [show A + 1 - 1 = A by omega]; exact b3.2.1, by rw [show A + 1 - 1 = A by omega, b3.2.2.1]; omega, Or.inr ⟨by rw [show A + 1 - 1 = A by omega, mo]; exact Or.inr rfl, ?_⟩⟩))⟩
            unfold zf_181_143
            rw [show A + 1 - 1 = A by omega, mo, zn_ok (by omega), e615, if_pos (by omega), zP_ok, if_neg (by decide), zn_ok (by omega), F4.2.2.2.1, zn_ok (by omega), show (zp 610 0 0 cnt u).1 614 0 nd = sta from (zp_nn (by omega)).trans e614, hw'.all (by omega), zC_zi]
          · rw [if_neg hpp]
            have rn := b7 (zp 624 0 A (j + 1) u) (Or.inr ⟨by rw [show A + 1 - 1 = A by omega]; exact b3.2.1, by rw [show A + 1 - 1 = A by omega, b3.2.2.1]; omega, Or.inr ⟨by rw [show A + 1 - 1 = A by omega, mo]; exact Or.inr rfl, by
              unfold zf_181_143 zf_181_191
              rw [show A + 1 - 1 = A by omega, zn_ok (by omega), e615, if_neg (by omega), zn_ok (by omega), b3.2.2.2.2.1, zg_ok ⟨by omega, by omega⟩, zW_ok (by omega)]⟩⟩)
            have K3 : mKeep A cnt s (zp 624 0 A (j + 1) u) := ((mKeep.rf (K := A) (cnt := cnt)).tr b2 (by omega) (Int.le_refl _)).pw (by omega)
            have F3 : mAF A g nd (j + 1) due (5 - d) (zp 624 0 A (j + 1) u) := ⟨(zp_nn (by omega)).trans b3.1, (zp_nn (by omega)).trans b3.2.1, (zp_nn (by omega)).trans b3.2.2.1, (zp_nn (by omega)).trans b3.2.2.2.1, zp_eq, (zp_nn (by omega)).trans b3.2.2.2.2.2.1, (zp_nn (by omega)).trans b3.2.2.2.2.2.2⟩
            have hi : ∀ (f : Nat) (i : Int), f < 621 → (zp 624 0 A (j + 1) u).1 f 0 i = u.1 f 0 i := fun f i h => zp_nn (by omega)
            have I3 : mIn t T cnt l1 (zp 624 0 A (j + 1) u) := ⟨(hi 610 0 (by decide)).trans b6.1, fun j' x hx => by
              rw [hi 612 _ (by decide), hi 613 _ (by decide), hi 614 _ (by decide), hi 615 _ (by decide), hi 616 _ (by decide), hi 617 _ (by decide), hi 618 _ (by decide), hi 619 _ (by decide)]
              exact b6.2 j' x hx⟩
            have P3 : mPre p1 m1 (cnt + l1.length) (zp 624 0 A (j + 1) u) := ⟨(hi 607 0 (by decide)).trans b4, (hi 611 0 (by decide)).trans b5, I3.1, by omega, by omega, by omega, by omega⟩
            have z := ih (j + 1) p1 m1 (cnt + l1.length) _ (by omega) (by omega) (by omega) (R.fr K3.1) F3 P3 (by omega) ((hi 614 nd (by decide)).trans e614)
            have zz := mArRes.join (w1 := w1) z rn K3 I3
            have z2 := zz.pre (L' := (m + 1) * (L + 1) + 1) mRun.rf mKeep.rf (by rw [Nat.succ_mul]; omega)
            revert z2
            cases yEn B n (yNm (yS T B n d) T (-1) nd (T 464 (8 * st + k) - T 463 (8 * st + k)).toNat (T 463 (8 * st + k))) due sta m (j + 1) p1 m1 (cnt + l1.length) with
            | inl e => exact fun z => z
            | inr x => exact fun z => z
    · rw [if_neg hp] at head
      rw [if_neg (fun h => hp h.1), if_pos (by omega)]
      refine ⟨1, by rw [Nat.succ_mul]; omega, mBad.ar (by decide) mKeep.rf F (by omega) p2' (fun w hw' => mRun.st (x := 0) f1 (by omega) (Or.inr (Or.inr ⟨f2, ?_⟩)))⟩
      rw [head, hw'.all (by omega), zC_zi]
end
