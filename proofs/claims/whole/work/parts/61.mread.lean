/-! the reference's machine: all fields, all structures, a file -/
section
variable {t n : Int} {T : yT} {B : yB} {E : yE} {K J A pos made cnt st k me dd g nd pa way due j ln v bt : Int} {s u w : zS}
theorem mBad.down {N : Nat} {e : Int × Int × Int} {cnt' : Int} (h : mBad t (K + 1) cnt' N s e) (h0 : s.1 621 0 K = 0) (hK : 0 ≤ K ∧ K < 50) (hc : cnt ≤ cnt') : mBad t K cnt N s e := by
  unfold mBad at h ⊢
  by_cases h5 : e.1 = 5
  · rw [if_pos h5] at h ⊢
    exact h
  · rw [if_neg h5] at h ⊢
    obtain ⟨u, h2, h3, h4, h5⟩ := h
    refine ⟨zp 620 0 0 K u, ((mKeep.rf (K := K) (cnt := cnt)).tr h2 (by omega) hc).pw (by omega), zp_eq, (zp_nn (by omega)).trans h4, fun w hw => h5 w (mFl.pop h3 (by omega) ?_ hw)⟩
    rw [h2.2.2.1 621 K (by decide) (by decide) (by omega), h0]
    decide
theorem mBad.le {N N' : Nat} {e : Int × Int × Int} (h : mBad t K cnt N s e) : mBad t K cnt N s e := h
/-- a field of structures -/
theorem M_one {d L : Nat} (hN : mNames t T B n d L) (W : yWT T) (h5 : d ≤ 5) (R : mRd t T B n s) (hst : 0 ≤ st ∧ st < T 449 0) (hk : 0 ≤ k ∧ k < T 453 st) (F : mFF T K st me k (5 - d) s) (hK : 0 ≤ K ∧ K ≤ 15 - 3 * d) (P : mPre pos made cnt s) (hV : mKn T (E 330) st k K s) (h65 : T 458 (8 * st + k) = 65) : match yNm (yS T B n d) T (8 * st + k) me (T 464 (8 * st + k) - T 463 (8 * st + k)).toNat (T 463 (8 * st + k)) pos made cnt with
    | .inl e => ∃ N, N ≤ L + 1 ∧ mBad t K cnt N s e
    | .inr x => ∃ N, N ≤ L + 1 ∧ mGood t T K cnt st me k (5 - d) N s (yeu E k pos (x.1 - pos) 0, x) := by
  obtain ⟨c1, c2, c3⟩ := W.2.2 st hst.1 hst.2
  have h6 := W.2.1
  have Wk := c3 k hk.1 hk.2
  have hnm := Wk.2.1
  have ht := R.1.1
  obtain ⟨f1, f2, f3, f4, f5, f6, f7⟩ := id F
  have q13 := ((R.1.2.2 st hst.1 hst.2).2.2.2 k hk.1 hk.2).2.2.2.2.2.2.2.2.2.2.2.2 (by omega)
  have e := M182_N R.1 hst h6 hk c2 F (by omega) hnm (Or.inl h65) (fun h => by omega)
  clear c3
  rw [if_pos h65, M178 (K := K + 1) f1 P.1 P.2.2.1 (by omega) (by omega) (by omega), zC_zi] at e
  have run1 := mRun.st (t := t) f1 (by omega) (Or.inl ⟨f2, e⟩)
  obtain ⟨K1, F1, lo⟩ := M178_st (A := K) (cnt := cnt) (g := 48 * t + (8 * st + k)) (nd := me) (pos := pos) (dd := 5 - d) (s := s)
  generalize zp 629 0 (K + 1) (5 - (d : Int) + 1) (zp 628 0 (K + 1) cnt (zp 627 0 (K + 1) (s.1 588 0 (48 * t + (8 * st + k))) (mPu 1 (48 * t + (8 * st + k)) me pos (K + 1) s))) = q at K1 F1 lo run1
  have e588 : s.1 588 0 (48 * t + (8 * st + k)) = q.1 588 0 (48 * t + (8 * st + k)) := (lo 588 _ (by decide)).symm
  rw [e588, show (5 : Int) - d + 1 = 6 - d by omega] at F1
  obtain ⟨p1, p2, p3, p4, p5, p6, p7⟩ := P
  have P1 : mPre pos made cnt q := ⟨(lo 607 0 (by decide)).trans p1, (lo 611 0 (by decide)).trans p2, (lo 610 0 (by decide)).trans p3, p4, p5, p6, p7⟩
  have e624 : q.1 624 0 (K + 1 - 1) = k := by
    rw [show K + 1 - 1 = K by omega, K1.2.2.1 624 K (by decide) (by decide) (by omega)]
    exact f5
  have a := hN q (K + 1) st k me pos made cnt (R.fr K1.1) hst hk (Or.inl h65) (by omega) F1 P1 (by omega)
  have ok := yNm_okW (ow := 8 * st + k) (pa := me) (yS_ok W R.2.2.2.1.2 R.2.2.2.2.2 d) Wk (Or.inl h65) pos made cnt p4.1 (by omega) p7
  rw [if_pos h65] at a
  revert a ok
  cases yNm (yS T B n d) T (8 * st + k) me (T 464 (8 * st + k) - T 463 (8 * st + k)).toNat (T 463 (8 * st + k)) pos made cnt with
  | inl e =>
    intro a ok
    obtain ⟨c', p', m'⟩ := e
    unfold mNmRes at a
    dsimp only at a ⊢
    by_cases h5' : c' = 5
    · rw [if_pos h5'] at a
      obtain ⟨N, w, b1, b2, b3, b4, b5, b6⟩ := a
      refine ⟨N + 1, by omega, ?_⟩
      unfold mBad
      rw [if_pos h5']
      exact ⟨w, run1.tr b2, b3, b4, b5, (mfm.of K1.1).tr b6⟩
    · rw [if_neg h5'] at a
      obtain ⟨N, u, b1, b2, b3, b4, b5, b6, b7⟩ := a
      have K2 := K1.tr b2 (Int.le_refl _) (Int.le_refl _)
      have u621 : u.1 621 0 K = 0 := (K2.2.2.1 621 K (by decide) (by decide) (by omega)).trans f2
      refine ⟨N + 1, by omega, mBad.ff h5' ((mKeep.rf (K := K) (cnt := cnt)).tr K2 (by omega) (Int.le_refl _)) b3 u621 (by omega) b6 (fun w hw => run1.tr (b7 w (Or.inr (Or.inr ⟨?_, hw⟩))))⟩
      rw [show K + 1 - 1 = K by omega, u621]
      decide
  | inr x =>
    intro a ok
    obtain ⟨N, u, b1, b2, b3, b4, b5, b6, b7⟩ := a
    obtain ⟨o1, o2, o3, o4, o5, o6⟩ := ok
    have K2 := K1.tr b2 (Int.le_refl _) (Int.le_refl _)
    have fr := fun (f : Nat) (h1 : 621 ≤ f) (h2 : f < 630) => K2.2.2.1 f K h1 h2 (by omega)
    have n8 := R.2.2.2.1
    have run2 := run1.tr (b7 (zp 624 0 K (k + 1) u) (Or.inl ⟨by rw [show K + 1 - 1 = K by omega]; exact (fr 621 (by decide) (by decide)).trans f2, by rw [show K + 1 - 1 = K by omega, (fr 624 (by decide) (by decide)).trans f5]⟩))
    have hi : ∀ (f : Nat) (i : Int), f ≠ 624 → (zp 624 0 K (k + 1) u).1 f 0 i = u.1 f 0 i := fun f i h => zp_nn (by omega)
    dsimp only
    refine ⟨N + 1, by omega, zp 624 0 K (k + 1) u, run2, ((mKeep.rf (K := K) (cnt := cnt)).tr K2 (by omega) (Int.le_refl _)).pw (by omega), ⟨(hi 620 0 (by decide)).trans b3, (hi 621 K (by decide)).trans ((fr 621 (by decide) (by decide)).trans f2), (hi 622 K (by decide)).trans ((fr 622 (by decide) (by decide)).trans f3), (hi 623 K (by decide)).trans ((fr 623 (by decide) (by decide)).trans f4), zp_eq, (hi 629 K (by decide)).trans ((fr 629 (by decide) (by decide)).trans f6), ?_⟩, ⟨(hi 607 0 (by decide)).trans b4, (hi 611 0 (by decide)).trans b5, (hi 610 0 (by decide)).trans b6.1, by dsimp only; omega, by dsimp only; omega, by dsimp only; omega, by dsimp only; omega⟩, ⟨(hi 610 0 (by decide)).trans b6.1, fun j' x hx => ?_⟩, fun i h1 h2 h3 => ?_⟩
    · rw [hi 625 K (by decide), fr 625 (by decide) (by decide), f7, yBit_s hk.1, if_neg (by omega)]
      exact q13
    · rw [hi 612 _ (by decide), hi 613 _ (by decide), hi 614 _ (by decide), hi 615 _ (by decide), hi 616 _ (by decide), hi 617 _ (by decide), hi 618 _ (by decide), hi 619 _ (by decide)]
      exact b6.2 j' x hx
    · have hne : i ≠ k := by
        intro h
        subst h
        rw [h65] at h3
        unfold mNumr at h3
        omega
      rw [hi 630 _ (by decide), K2.2.2.2 _ (by omega)]
      simp only [yeu, if_neg hne]
      exact hV i h1 (by omega) h3
/-- a field that is an array -/
theorem M_row {d L : Nat} (hN : mNames t T B n d L) (W : yWT T) (h5 : d ≤ 5) (R : mRd t T B n s) (hst : 0 ≤ st ∧ st < T 449 0) (hk : 0 ≤ k ∧ k < T 453 st) (F : mFF T K st me k (5 - d) s) (hK : 0 ≤ K ∧ K ≤ 15 - 3 * d) (P : mPre pos made cnt s) (hV : mKn T (E 330) st k K s) (hE : yOkE E k) (hON : mOkN T E st k) (h91 : T 458 (8 * st + k) = 91) : match yA68 (yS T B n d) T B n (E 330) me (8 * st + k) pos made cnt with
    | .inl e => ∃ N, N ≤ 201 * (L + 1) + 2 ∧ mBad t K cnt N s e
    | .inr x => ∃ N, N ≤ 201 * (L + 1) + 2 ∧ mGood t T K cnt st me k (5 - d) N s (yeu E k pos (x.2.1 - pos) x.1, x.2) := by
  obtain ⟨c1, c2, c3⟩ := W.2.2 st hst.1 hst.2
  have h6 := W.2.1
  have Wk := c3 k hk.1 hk.2
  have hnm := Wk.2.1
  have hway := Wk.2.2.2.1 h91
  have ht := R.1.1
  obtain ⟨f1, f2, f3, f4, f5, f6, f7⟩ := id F
  have q13 := ((R.1.2.2 st hst.1 hst.2).2.2.2 k hk.1 hk.2).2.2.2.2.2.2.2.2.2.2.2.2 (by omega)
  have e := M182_N R.1 hst h6 hk c2 F (by omega) hnm (Or.inr h91) (fun _ => hway)
  clear c3
  rw [if_neg (by omega)] at e
  obtain ⟨p1, p2, p3, p4, p5, p6, p7⟩ := id P
  unfold yA68
  by_cases hm : 200 ≤ made
  · rw [if_pos hm]
    rw [M174_m P hm, zC_zi, if_pos rfl] at e
    dsimp only
    refine ⟨1, by omega, ?_⟩
    unfold mBad
    rw [if_pos (show ((5, pos, made) : Int × Int × Int).1 = 5 from rfl)]
    refine ⟨_, mRun.st f1 (by omega) (Or.inl ⟨f2, e⟩), ?_, ?_, zp_eq, ((mfm.rf.pw (by omega)).pw (by omega)).pw (by omega)⟩
    · rw [zp_nn (by omega), zp_nn (by omega), zp_eq]
    · rw [zp_nn (by omega), zp_eq]
  · rw [if_neg hm]
    rw [M174 P hm, zC_zi, if_neg (by decide)] at e
    obtain ⟨m1, m2, m3, m4, m5, m6', m7, m8, m9⟩ := mMk_get (k := 1) (nm := T 457 (8 * st + k)) (p := me) (f := 48 * t + (8 * st + k)) (pos := pos) (made := made) (cnt := cnt) (s := s)
    have mfr' := fun (g : Nat) (i : Int) (h : 621 ≤ g) => mMk_fr (k := 1) (nm := T 457 (8 * st + k)) (p := me) (f := 48 * t + (8 * st + k)) (pos := pos) (made := made) (cnt := cnt) (s := s) (i := i) h
    have K1 : mKeep (K + 1) cnt s (mMk 1 (T 457 (8 * st + k)) me (48 * t + (8 * st + k)) pos made cnt s) := mKeep.mk'
    generalize mMk 1 (T 457 (8 * st + k)) me (48 * t + (8 * st + k)) pos made cnt s = r at e m1 m2 m3 m4 m5 m6' m7 m8 m9 mfr' K1
    have nV : mKn T (E 330) st k K r := fun i h1 h2 h3 => (mfr' 630 _ (by decide)).trans (hV i h1 h2 h3)
    obtain ⟨z1, z2⟩ := M183 (E := E) (K := K) (dd := 5 - d) (pos := pos) (cnt := cnt) W hst hk (R.fr K1.1) nV hE hON h91 (by omega) (m9.trans f1) ((mfr' 622 K (by decide)).trans f3) ((mfr' 629 K (by decide)).trans f6) (m6'.trans p1) p4 m8 (by omega)
    have r621 : r.1 621 0 K = 0 := (mfr' 621 K (by decide)).trans f2
    have r623 : r.1 623 0 K = me := (mfr' 623 K (by decide)).trans f4
    have r624 : r.1 624 0 K = k := (mfr' 624 K (by decide)).trans f5
    have r625 : r.1 625 0 K = yBit T st k.toNat := (mfr' 625 K (by decide)).trans f7
    have r622 : r.1 622 0 K = st := (mfr' 622 K (by decide)).trans f3
    have r629 : r.1 629 0 K = 5 - d := (mfr' 629 K (by decide)).trans f6
    clear mfr'
    by_cases hbad : T 465 (8 * st + k) = 43 ∧ (yCn T (E 330) (8 * st + k) < 0 ∨ 20 < yCn T (E 330) (8 * st + k))
    · rw [if_pos hbad]
      obtain ⟨s', L6, h177⟩ := z1 hbad
      have L' : ∀ (f : Nat) (i : Int), 607 ≤ f → s'.1 f 0 i = r.1 f 0 i := fun f i h => L6.1 f 0 i (by omega)
      refine ⟨1, by omega, mBad.ff (by decide) ((mKeep.rf (K := K) (cnt := cnt)).tr (K1.tr (mKeep.of6 L6) (Int.le_refl _) (Int.le_refl _)) (by omega) (Int.le_refl _)) ((L' 620 0 (by decide)).trans (m9.trans f1)) ((L' 621 K (by decide)).trans r621) (by omega) ((L' 611 0 (by decide)).trans m7) (fun w hw => mRun.st (x := 0) f1 (by omega) (Or.inl ⟨f2, ?_⟩))⟩
      rw [e, h177 w (hw.all (by omega)), zC_zi]
    · rw [if_neg hbad]
      obtain ⟨s', L6, e183⟩ := z2 hbad
      rw [e183, zC_zi] at e
      have run1 := mRun.st (t := t) f1 (by omega) (Or.inl ⟨f2, e⟩)
      have L' : ∀ (f : Nat) (i : Int), 607 ≤ f → s'.1 f 0 i = r.1 f 0 i := fun f i h => L6.1 f 0 i (by omega)
      obtain ⟨u1, u2, u3, u4, u5, u6, u7⟩ := mPu_get (what := 2) (st := 48 * t + (8 * st + k)) (nd := cnt) (pos := pos) (K := K + 1) (s := s')
      generalize hdue : (if T 465 (8 * st + k) = 33 then T 466 (8 * st + k) else yCn T (E 330) (8 * st + k)) = due at run1 e
      have FA : mAF (K + 1) (48 * t + (8 * st + k)) cnt 0 due (5 - d) (zp 629 0 (K + 1) (5 - d) (zp 628 0 (K + 1) due (mPu 2 (48 * t + (8 * st + k)) cnt pos (K + 1) s'))) := by
        refine ⟨?_, ?_, ?_, ?_, ?_, ?_, zp_eq⟩
        · rw [zp_nn (by omega), zp_nn (by omega)]
          exact u1
        · rw [zp_nn (by omega), zp_nn (by omega)]
          exact u2
        · rw [zp_nn (by omega), zp_nn (by omega)]
          exact u3
        · rw [zp_nn (by omega), zp_nn (by omega)]
          exact u4
        · rw [zp_nn (by omega), zp_nn (by omega)]
          exact u5
        · rw [zp_nn (by omega), zp_eq]
      have K2 : mKeep (K + 1) cnt s (zp 629 0 (K + 1) (5 - d) (zp 628 0 (K + 1) due (mPu 2 (48 * t + (8 * st + k)) cnt pos (K + 1) s'))) := (((K1.tr (mKeep.of6 L6) (Int.le_refl _) (Int.le_refl _)).tr (mKeep.pu (K := K + 1) (cnt := cnt)) (Int.le_refl _) (Int.le_refl _)).pw (by omega)).pw (by omega)
      have lo : ∀ (f : Nat) (i : Int), 607 ≤ f → f < 620 → (zp 629 0 (K + 1) (5 - d) (zp 628 0 (K + 1) due (mPu 2 (48 * t + (8 * st + k)) cnt pos (K + 1) s'))).1 f 0 i = r.1 f 0 i := fun f i h1 h2 => by
        rw [zp_nn (by omega), zp_nn (by omega), mPu_lo h2]
        exact L' f i h1
      generalize zp 629 0 (K + 1) (5 - (d : Int)) (zp 628 0 (K + 1) due (mPu 2 (48 * t + (8 * st + k)) cnt pos (K + 1) s')) = q at run1 FA K2 lo e
      have P2 : mPre pos (made + 1) (cnt + 1) q := ⟨(lo 607 0 (by decide) (by decide)).trans (m6'.trans p1), (lo 611 0 (by decide) (by decide)).trans m7, (lo 610 0 (by decide) (by decide)).trans m8, p4, by omega, by omega, by omega⟩
      have Rq := R.fr K2.1
      have okA := yAr_ok (me := me) (cnt := cnt) (B := B) (V := E 330) (pos := pos) (made := made) (yS_ok W R.2.2.2.1.2 R.2.2.2.2.2 d) Wk h91 (fun h => by omega) p4.1 (by omega) (by omega)
      have q614 : q.1 614 0 cnt = pos := (lo 614 cnt (by decide) (by decide)).trans m3
      have arr : mArRes t T (K + 1) (cnt + 1) cnt (201 * (L + 1) + 1) q (yAr (yS T B n d) T B n (E 330) me (8 * st + k) pos made cnt) := by
        unfold yAr
        by_cases h42 : T 465 (8 * st + k) = 42
        · rw [if_pos h42]
          exact M_al hN W hst hk h91 h42 (by omega) rfl h5 201 0 pos (made + 1) (cnt + 1) q (by omega) (by omega) (by omega) Rq FA P2
        · rw [if_neg h42]
          by_cases h33 : T 465 (8 * st + k) = 33
          · rw [if_pos h33] at hdue ⊢
            rw [hdue]
            exact M_en hN W hst hk h91 h33 (by omega) rfl h5 201 0 pos (made + 1) (cnt + 1) q (by omega) (by omega) (by omega) Rq FA P2 (by omega) q614
          · rw [if_neg h33] at hdue ⊢
            have hcb := yCn_b (T := T) (V := E 330) (f := 8 * st + k) (fun h => by omega)
            rw [hdue]
            rw [hdue] at hcb
            have z := M_ct hN W hst hk h91 (by omega) (by omega) rfl h5 (by omega) due.toNat 0 pos (made + 1) (cnt + 1) q (by omega) (by omega) Rq FA P2
            have hle : due.toNat * (L + 1) ≤ 20 * (L + 1) := Nat.mul_le_mul_right _ (by omega)
            have z2 := z.pre (L' := 201 * (L + 1) + 1) mRun.rf mKeep.rf (by omega)
            revert z2
            cases yCt (yNm (yS T B n d) T (-1) cnt (T 464 (8 * st + k) - T 463 (8 * st + k)).toNat (T 463 (8 * st + k))) due.toNat pos (made + 1) (cnt + 1) with
            | inl e => exact fun z => z
            | inr x => exact fun z => z
      revert arr okA
      cases yAr (yS T B n d) T B n (E 330) me (8 * st + k) pos made cnt with
      | inl e =>
        intro okA arr
        obtain ⟨N, h1, h2⟩ := arr
        refine ⟨N + 1, by omega, ?_⟩
        exact (h2.down ((K2.2.2.1 621 K (by decide) (by decide) (by omega)).trans f2) (by omega) (by omega : cnt ≤ cnt + 1)).pre run1 ((mKeep.rf (K := K) (cnt := cnt)).tr K2 (by omega) (Int.le_refl _)) (Int.le_refl _)
      | inr x =>
        intro okA arr
        obtain ⟨k2, p2', m2', w2', l2⟩ := x
        obtain ⟨N, u, b1, b2, b3, b4, b5, b6, b7, b8, b9⟩ := arr
        obtain ⟨o1, o2, o3, o4, o5, o6, o7, o8⟩ := okA
        dsimp only at b5 b6 b7 b8 o1 o2 o3 o4 o5 o6 o7 o8
        have n8 := R.2.2.2.1
        have K3 := K2.tr b2 (Int.le_refl _) (by omega)
        have fr := fun (f : Nat) (h1 : 621 ≤ f) (h2 : f < 630) => K3.2.2.1 f K h1 h2 (by omega)
        have nf := fun (f : Nat) (h1 : 612 ≤ f) (h2 : f < 620) => (b2.2.1 f cnt h1 h2 (by omega)).trans (lo f cnt (by omega) h2)
        have e176 := M176 (A := K + 1) (nd := cnt) (s := u) b3 (by omega) b4 (by omega) (by rw [b6]; omega) (by rw [nf 614 (by decide) (by decide), m3]; exact p4) (by rw [show K + 1 - 1 = K by omega, (fr 624 (by decide) (by decide)).trans f5]; omega)
        rw [show K + 1 - 1 = K by omega, (fr 624 (by decide) (by decide)).trans f5, b5, b6, nf 614 (by decide) (by decide), m3] at e176
        have run2 := run1.tr (b9 _ e176)
        have I2 := mIn.tell (t := t) (T := T) (cnt := cnt) (u := u) (f := 8 * st + k) (ln := p2' - pos) (v := k2) ((nf 612 (by decide) (by decide)).trans m1) ((nf 613 (by decide) (by decide)).trans m2) ((nf 614 (by decide) (by decide)).trans m3) ((nf 617 (by decide) (by decide)).trans m4) ((nf 618 (by decide) (by decide)).trans m5) (by rw [if_neg (by omega)]) (by decide) b8
        have hi : ∀ (f : Nat) (i : Int), f < 620 → (zp 624 0 K (k + 1) (zp 620 0 0 (K + 1) (zp 616 0 cnt k2 (zp 615 0 cnt (p2' - pos) u)))).1 f 0 i = (zp 616 0 cnt k2 (zp 615 0 cnt (p2' - pos) u)).1 f 0 i := fun f i h => by rw [zp_nn (by omega), zp_nn (by omega)]
        have hi2 : ∀ (f : Nat) (i : Int), 621 ≤ f → f ≠ 624 → (zp 624 0 K (k + 1) (zp 620 0 0 (K + 1) (zp 616 0 cnt k2 (zp 615 0 cnt (p2' - pos) u)))).1 f 0 i = u.1 f 0 i := fun f i h1 h2 => by rw [zp_nn (by omega), zp_nn (by omega), zp_nn (by omega), zp_nn (by omega)]
        unfold yAn
        dsimp only
        refine ⟨N + 1, by omega, zp 624 0 K (k + 1) (zp 620 0 0 (K + 1) (zp 616 0 cnt k2 (zp 615 0 cnt (p2' - pos) u))), run2, ((((mKeep.rf (K := K) (cnt := cnt)).tr K3 (by omega) (by omega)).pw (by omega)).pw (by omega)).pw (by omega) |>.pw (by omega), ⟨(zp_nn (by omega)).trans zp_eq, ?_, ?_, ?_, zp_eq, ?_, ?_⟩, ⟨?_, ?_, ?_, by dsimp only; omega, by dsimp only; rw [List.length_cons]; omega, by dsimp only; rw [List.length_cons]; omega, by dsimp only; omega⟩, ⟨?_, fun j' x hx => ?_⟩, fun i h1 h2 h3 => ?_⟩
        · rw [hi2 621 K (by decide) (by decide)]
          exact (fr 621 (by decide) (by decide)).trans f2
        · rw [hi2 622 K (by decide) (by decide)]
          exact (fr 622 (by decide) (by decide)).trans f3
        · rw [hi2 623 K (by decide) (by decide)]
          exact (fr 623 (by decide) (by decide)).trans f4
        · rw [hi2 629 K (by decide) (by decide)]
          exact (fr 629 (by decide) (by decide)).trans f6
        · rw [hi2 625 K (by decide) (by decide), fr 625 (by decide) (by decide), f7, yBit_s hk.1, if_neg (by omega)]
          exact q13
        · rw [hi 607 0 (by decide), zp_nn (by omega), zp_nn (by omega)]
          exact b6
        · rw [hi 611 0 (by decide), zp_nn (by omega), zp_nn (by omega)]
          exact b7
        · rw [hi 610 0 (by decide)]
          exact I2.1
        · rw [hi 610 0 (by decide)]
          exact I2.1
        · rw [hi 612 _ (by decide), hi 613 _ (by decide), hi 614 _ (by decide), hi 615 _ (by decide), hi 616 _ (by decide), hi 617 _ (by decide), hi 618 _ (by decide), hi 619 _ (by decide)]
          exact I2.2 j' x hx
        · have hne : i ≠ k := by
            intro h
            subst h
            rw [h91] at h3
            unfold mNumr at h3
            omega
          rw [hi2 630 _ (by decide) (by decide), K3.2.2.2 _ (by omega)]
          simp only [yeu, if_neg hne]
          exact hV i h1 (by omega) h3
end
