/-! the reference's machine: one of several structures -/
/-- what trying structures comes to -/
def mNmRes (t : Int) (T : yT) (J cnt pos : Int) (L : Nat) (s : zS) (o : yO) : Prop := match o with
  | .inr x => ∃ N u, N ≤ L ∧ mKeep J cnt s u ∧ u.1 620 0 0 = J ∧ u.1 607 0 0 = x.1 ∧ u.1 611 0 0 = x.2.1 ∧ mIn t T cnt x.2.2.2 u ∧ (∀ w, mTl J cnt u w → mRun t N s w)
  | .inl e => if e.1 = 5 then (∃ N w, N ≤ L ∧ mRun t N s w ∧ w.1 620 0 0 = 0 ∧ w.1 608 0 0 = 5 ∧ w.1 609 0 0 = e.2.1 ∧ mfm s w) else ∃ N u, N ≤ L ∧ mKeep J cnt s u ∧ u.1 620 0 0 = J ∧ u.1 607 0 0 = pos ∧ u.1 610 0 0 = cnt ∧ u.1 611 0 0 = e.2.2 ∧ ∀ w, mAft J e.1 e.2.1 u w → mRun t N s w
theorem mNmRes.pre {t : Int} {T : yT} {J cnt pos : Int} {L L' N0 : Nat} {s w : zS} {o : yO} (h : mNmRes t T J cnt pos L w o) (r : mRun t N0 s w) (k : mKeep J cnt s w) (hL : L + N0 ≤ L') : mNmRes t T J cnt pos L' s o := by
  cases o with
  | inr x =>
    obtain ⟨N, u, h1, h2, h3, h4, h5, h6, h7⟩ := h
    exact ⟨N + N0, u, by omega, k.tr h2 (Int.le_refl _) (Int.le_refl _), h3, h4, h5, h6, fun w hw => r.tr (h7 w hw)⟩
  | inl e =>
    unfold mNmRes at h ⊢
    dsimp only at h ⊢
    by_cases h5 : e.1 = 5
    · rw [if_pos h5] at h ⊢
      obtain ⟨N, u, h1, h2, h3, h4, h5, h6⟩ := h
      exact ⟨N + N0, u, by omega, r.tr h2, h3, h4, h5, (mfm.of k.1).tr h6⟩
    · rw [if_neg h5] at h ⊢
      obtain ⟨N, u, h1, h2, h3, h4, h5, h6, h7⟩ := h
      exact ⟨N + N0, u, by omega, k.tr h2 (Int.le_refl _) (Int.le_refl _), h3, h4, h5, h6, fun w hw => r.tr (h7 w hw)⟩
/-- the machine tries structures as the spec does -/
def mNames (t : Int) (T : yT) (B : yB) (n : Int) (d L : Nat) : Prop := ∀ (s : zS) (J st k pa pos made cnt : Int), mRd t T B n s → (0 ≤ st ∧ st < T 449 0) → (0 ≤ k ∧ k < T 453 st) → (T 458 (8 * st + k) = 65 ∨ T 458 (8 * st + k) = 91) → (1 ≤ J ∧ J ≤ 17 - 3 * d) → mTF J (48 * t + (8 * st + k)) pa cnt pos (s.1 588 0 (48 * t + (8 * st + k))) (6 - d) s → mPre pos made cnt s → (-1000 ≤ s.1 624 0 (J - 1) ∧ s.1 624 0 (J - 1) ≤ 1000) → mNmRes t T J cnt pos L s (yNm (yS T B n d) T (if T 458 (8 * st + k) = 65 then 8 * st + k else -1) pa (T 464 (8 * st + k) - T 463 (8 * st + k)).toNat (T 463 (8 * st + k)) pos made cnt)
/-- the machine reads the fields of a structure as the spec does -/
def mFieldsU (t : Int) (T : yT) (B : yB) (n : Int) (d L : Nat) : Prop := ∀ (s : zS) (K st me pos made cnt : Int), mRd t T B n s → (0 ≤ st ∧ st < T 449 0) → (0 ≤ K ∧ K ≤ 15 - 3 * d) → mFF T K st me 0 (5 - d) s → mPre pos made cnt s → match yFs (yS T B n d) T B n me st (T 453 st).toNat 0 (fun _ _ => 0) pos made cnt with
  | .inl e => ∃ N, N ≤ L ∧ mBad t K cnt N s e
  | .inr x => ∃ N u, N ≤ L ∧ mRun t N s u ∧ mKeep K cnt s u ∧ mFF T K st me (T 453 st) (5 - d) u ∧ mPre x.2.1 x.2.2.1 (cnt + x.2.2.2.2.length) u ∧ mIn t T cnt x.2.2.2.2 u
section
variable {t n : Int} {T : yT} {B : yB} {E : yE} {K J pos made cnt st k me dd g pa way ln v bt : Int} {s u w : zS}
/-- the node of a structure, with what is in it -/
theorem mIn.tell {kd nm ln v p f fd : Int} {l : List yN} (h612 : u.1 612 0 cnt = kd) (h613 : u.1 613 0 cnt = nm) (h614 : u.1 614 0 cnt = pos) (h617 : u.1 617 0 cnt = p) (h618 : u.1 618 0 cnt = fd) (hfd : fd = if f = -1 then -1 else 48 * t + f) (hkd : kd ≠ 4) (h : mIn t T (cnt + 1) l u) : mIn t T cnt (yn kd nm pos ln v p f :: l) (zp 616 0 cnt v (zp 615 0 cnt ln u)) := by
  refine ⟨?_, fun j x hx => ?_⟩
  · rw [zp_nn (by omega), zp_nn (by omega), h.1, List.length_cons]
    omega
  · cases j with
    | zero =>
      simp only [List.getElem?_cons_zero, Option.some.injEq] at hx
      subst hx
      rw [show cnt + ((0 : Nat) : Int) = cnt by omega]
      refine ⟨?_, ?_, ?_, ?_, ?_, ?_, ?_, fun h => absurd h hkd⟩
      · rw [zp_nn (by omega), zp_nn (by omega)]
        exact h612
      · rw [zp_nn (by omega), zp_nn (by omega)]
        exact h613
      · rw [zp_nn (by omega), zp_nn (by omega)]
        exact h614
      · rw [zp_nn (by omega), zp_eq]
        rfl
      · exact zp_eq
      · rw [zp_nn (by omega), zp_nn (by omega)]
        exact h617
      · rw [zp_nn (by omega), zp_nn (by omega), h618, hfd]
        rfl
    | succ j =>
      rw [List.getElem?_cons_succ] at hx
      have e : cnt + ((j + 1 : Nat) : Int) = cnt + 1 + (j : Int) := by omega
      rw [e, zp_nn (by omega), zp_nn (by omega), zp_nn (by omega), zp_nn (by omega), zp_nn (by omega), zp_nn (by omega), zp_nn (by omega), zp_nn (by omega), zp_nn (by omega), zp_nn (by omega), zp_nn (by omega), zp_nn (by omega), zp_nn (by omega), zp_nn (by omega), zp_nn (by omega), zp_nn (by omega)]
      exact h.2 j x hx
theorem mTF.kp {s' : zS} {cn : Int} (F : mTF J g pa cnt pos way dd s) (k : mKeep (J + 1) cn s s') (h : s'.1 620 0 0 = s.1 620 0 0) : mTF J g pa cnt pos way dd s' := by
  obtain ⟨f1, f2, f3, f4, f5, f6, f7, f8⟩ := F
  have a := fun (f : Nat) (h1 : 621 ≤ f) (h2 : f < 630) => k.2.2.1 f J h1 h2 (by omega)
  exact ⟨h.trans f1, (a 621 (by decide) (by decide)).trans f2, (a 622 (by decide) (by decide)).trans f3, (a 623 (by decide) (by decide)).trans f4, (a 627 (by decide) (by decide)).trans f5, (a 628 (by decide) (by decide)).trans f6, (a 626 (by decide) (by decide)).trans f7, (a 629 (by decide) (by decide)).trans f8⟩
theorem M_names {d Lf : Nat} (W : yWT T) (hd : d ≤ 5) (hF : mFieldsU t T B n d Lf) : mNames t T B n (d + 1) (101 * (Lf + 2)) := by
  intro s0 J st k pa pos made0 cnt R0 hst hk ht hJ F0 P0 hnx
  obtain ⟨c1, c2, c3⟩ := W.2.2 st hst.1 hst.2
  have h6 := W.2.1
  have Wk := c3 k hk.1 hk.2
  obtain ⟨a1, a2, a3, a4⟩ := Wk.2.2.1 (by omega)
  have hnm := Wk.2.1
  have hway : T 465 (8 * st + k) = 42 ∨ T 465 (8 * st + k) = 33 ∨ T 465 (8 * st + k) = 63 ∨ T 465 (8 * st + k) = 43 ∨ T 458 (8 * st + k) = 65 := by
    rcases ht with h | h
    · exact Or.inr (Or.inr (Or.inr (Or.inr h)))
    · have := Wk.2.2.2.1 h
      omega
  obtain ⟨r1, r2, r3⟩ := id R0.1
  have qf := (r3 st hst.1 hst.2).2.2.2 k hk.1 hk.2
  obtain ⟨d1, d2⟩ := qf.2.2.2.2.2.2.2.1 (by omega)
  clear qf r3 c3 Wk
  generalize hdt : s0.1 588 0 (48 * t + (8 * st + k)) = dt at *
  have loop : ∀ (m : Nat) (i made : Int) (s : zS), 0 < m → 0 ≤ i → i + m = T 464 (8 * st + k) - T 463 (8 * st + k) → mKeep J cnt s0 s → mTF J (48 * t + (8 * st + k)) pa cnt pos (dt + 2 * i) (6 - ((d + 1 : Nat) : Int)) s → mPre pos made cnt s → mNmRes t T J cnt pos (m * (Lf + 2)) s (yNm (yS T B n (d + 1)) T (if T 458 (8 * st + k) = 65 then 8 * st + k else -1) pa m (T 463 (8 * st + k) + i) pos made cnt) := by
    intro m
    induction m with
    | zero =>
      intro i made s h
      omega
    | succ m ih =>
      intro i made s _ hi him Ks F P
      have R := R0.fr Ks.1
      obtain ⟨e1, e2, e3, e4⟩ := d2 i hi (by omega)
      have x581 : ∀ p : Int, s.1 581 0 p = s0.1 581 0 p := fun p => Ks.1.1 581 0 p (by omega)
      have x583 : ∀ p : Int, s.1 583 0 p = s0.1 583 0 p := fun p => Ks.1.1 583 0 p (by omega)
      have hc2 := a4 (T 463 (8 * st + k) + i) (by omega) (by omega)
      have st1 := M179 (c := T 456 (T 463 (8 * st + k) + i)) (f := 8 * st + k) (g := 48 * t + (8 * st + k)) R hst h6 hk c2 rfl rfl hnm ht hway F (by omega) (by omega) (by omega) (by rw [x581]; exact e2) (by rw [x581, x583]; exact e3) hc2 P
      have run1 := mRun.st (t := t) F.1 (by omega) (Or.inr (Or.inl ⟨F.2.1, st1⟩))
      rw [yNm, yS]
      by_cases hm : 200 ≤ made
      · rw [if_pos hm] at run1 ⊢
        dsimp only
        rw [if_pos (Or.inl rfl)]
        unfold mNmRes
        dsimp only
        rw [if_pos rfl]
        refine ⟨1, _, by rw [Nat.succ_mul]; omega, run1, ?_, ?_, zp_eq, ((mfm.rf.pw (by omega)).pw (by omega)).pw (by omega)⟩
        · rw [zp_nn (by omega), zp_nn (by omega), zp_eq]
        · rw [zp_nn (by omega), zp_eq]
      · rw [if_neg hm] at run1 ⊢
        obtain ⟨p1, p2, p3, p4, p5, p6, p7⟩ := id P
        generalize hc : T 456 (T 463 (8 * st + k) + i) = c at hc2 run1 e3
        generalize hnm2 : (if T 458 (8 * st + k) = 65 then T 457 (8 * st + k) else T 452 c) = nm at run1
        generalize hfd : (if T 458 (8 * st + k) = 65 then 48 * t + (8 * st + k) else -1) = fd at run1
        obtain ⟨m1, m2, m3, m4, m5, m6', m7, m8, m9⟩ := mMk_get (k := 0) (nm := nm) (p := pa) (f := fd) (pos := pos) (made := made) (cnt := cnt) (s := s)
        have K1 : mKeep (J + 1) cnt s (mMk 0 nm pa fd pos made cnt s) := mKeep.mk'
        generalize mMk 0 nm pa fd pos made cnt s = r at m1 m2 m3 m4 m5 m6' m7 m8 m9 K1 run1
        obtain ⟨u1, u2, u3, u4, u5, u6, u7⟩ := mPu_get (what := 0) (st := c) (nd := cnt) (pos := pos) (K := J + 1) (s := r)
        have K2 : mKeep (J + 1) cnt s (zp 629 0 (J + 1) (6 - ((d + 1 : Nat) : Int)) (mPu 0 c cnt pos (J + 1) r)) := (K1.tr (mKeep.pu (cnt := cnt)) (Int.le_refl _) (Int.le_refl _)).pw (by omega)
        have lo : ∀ (f : Nat) (i : Int), f < 620 → (zp 629 0 (J + 1) (6 - ((d + 1 : Nat) : Int)) (mPu 0 c cnt pos (J + 1) r)).1 f 0 i = r.1 f 0 i := fun f i h => by rw [zp_nn (by omega), mPu_lo h]
        have FF : mFF T (J + 1) c cnt 0 (5 - (d : Int)) (zp 629 0 (J + 1) (6 - ((d + 1 : Nat) : Int)) (mPu 0 c cnt pos (J + 1) r)) := by
          refine ⟨(zp_nn (by omega)).trans u1, (zp_nn (by omega)).trans u2, (zp_nn (by omega)).trans u3, (zp_nn (by omega)).trans u4, (zp_nn (by omega)).trans u5, ?_, (zp_nn (by omega)).trans u6⟩
          rw [zp_eq]
          omega
        generalize zp 629 0 (J + 1) (6 - ((d + 1 : Nat) : Int)) (mPu 0 c cnt pos (J + 1) r) = q at K2 lo FF run1
        have P1 : mPre pos (made + 1) (cnt + 1) q := ⟨(lo 607 0 (by decide)).trans (m6'.trans p1), (lo 611 0 (by decide)).trans m7, (lo 610 0 (by decide)).trans m8, p4, by omega, by omega, by omega⟩
        have b := hF q (J + 1) c cnt pos (made + 1) (cnt + 1) (R.fr K2.1) hc2 (by omega) FF P1
        have hfc := W.2.2 c hc2.1 hc2.2
        have okS := yFs_ok (st := c) (me := cnt) (yS_ok W R.2.2.2.1.2 R.2.2.2.2.2 d) R.2.2.2.1.2 R.2.2.2.2.2 (T 453 c).toNat 0 (fun _ _ => 0) pos (made + 1) (cnt + 1) (by omega) (fun j h1 h2 => hfc.2.2 j h1 (by have := hfc.1; omega)) (fun i h1 h2 => by omega) p4.1 (by omega) (by omega)
        revert b okS
        cases yFs (yS T B n d) T B n cnt c (T 453 c).toNat 0 (fun _ _ => 0) pos (made + 1) (cnt + 1) with
        | inr x =>
          intro b okS
          obtain ⟨E', p', m', w', l'⟩ := x
          obtain ⟨N, u, hN, runF, Ku, FFu, Pu, Iu⟩ := b
          dsimp only at Pu Iu ⊢
          have Kq := Ku.2.1
          have n614 : u.1 614 0 cnt = pos := by rw [Kq 614 _ (by decide) (by decide) (by omega), lo 614 _ (by decide)]; exact m3
          have n612 : u.1 612 0 cnt = 0 := by rw [Kq 612 _ (by decide) (by decide) (by omega), lo 612 _ (by decide)]; exact m1
          have n613 : u.1 613 0 cnt = nm := by rw [Kq 613 _ (by decide) (by decide) (by omega), lo 613 _ (by decide)]; exact m2
          have n617 : u.1 617 0 cnt = pa := by rw [Kq 617 _ (by decide) (by decide) (by omega), lo 617 _ (by decide)]; exact m4
          have n618 : u.1 618 0 cnt = fd := by rw [Kq 618 _ (by decide) (by decide) (by omega), lo 618 _ (by decide)]; exact m5
          have K3 : mKeep (J + 1) cnt s u := K2.tr Ku (Int.le_refl _) (by omega)
          have nx : u.1 624 0 (J - 1) = s0.1 624 0 (J - 1) := by rw [K3.2.2.1 624 _ (by decide) (by decide) (by omega), Ks.2.2.1 624 _ (by decide) (by decide) (by omega)]
          have hend := M_end (pos := pos) ((R.fr K3.1).1) hc2 h6 FFu (by omega) (by omega) (by rw [Pu.1]; exact Pu.2.2.2.1) n614 p4 ⟨hfc.1, hfc.2.1⟩ (by rw [nx]; exact hnx)
          have I2 := mIn.tell (t := t) (T := T) (cnt := cnt) (u := u) (f := if T 458 (8 * st + k) = 65 then 8 * st + k else -1) (ln := u.1 607 0 0 - pos) (v := T 452 c) n612 n613 n614 n617 n618 (by
            rw [← hfd]
            by_cases z : T 458 (8 * st + k) = 65
            · rw [if_pos z, if_pos z, if_neg (by omega)]
            · rw [if_neg z, if_neg z, if_pos rfl]) (by decide) Iu
          have K4 : mKeep J cnt s (zp 620 0 0 J (zp 620 0 0 (J + 1) (zp 616 0 cnt (T 452 c) (zp 615 0 cnt (u.1 607 0 0 - pos) u)))) := (((((mKeep.rf (K := J) (cnt := cnt)).tr K3 (by omega) (Int.le_refl _)).pw (by omega)).pw (by omega)).pw (by omega)).pw (by omega)
          refine ⟨1 + (N + 1), _, ?_, K4, zp_eq, ?_, ?_, ⟨?_, fun j y hy => ?_⟩, fun w hw => (run1.tr runF).tr (hend w hw)⟩
          · rw [Nat.succ_mul]
            omega
          · rw [zp_nn (by omega), zp_nn (by omega), zp_nn (by omega), zp_nn (by omega)]
            exact Pu.1
          · rw [zp_nn (by omega), zp_nn (by omega), zp_nn (by omega), zp_nn (by omega)]
            exact Pu.2.1
          · rw [zp_nn (by omega), zp_nn (by omega), I2.1]
            rfl
          · have hi : ∀ (f : Nat) (i : Int), f ≠ 620 → (zp 620 0 0 J (zp 620 0 0 (J + 1) (zp 616 0 cnt (T 452 c) (zp 615 0 cnt (u.1 607 0 0 - pos) u)))).1 f 0 i = (zp 616 0 cnt (T 452 c) (zp 615 0 cnt (u.1 607 0 0 - pos) u)).1 f 0 i := fun f i h => by rw [zp_nn (by omega), zp_nn (by omega)]
            rw [hi 612 _ (by decide), hi 613 _ (by decide), hi 614 _ (by decide), hi 615 _ (by decide), hi 616 _ (by decide), hi 617 _ (by decide), hi 618 _ (by decide), hi 619 _ (by decide)]
            refine I2.2 j y ?_
            have e7 : u.1 607 0 0 = p' := Pu.1
            rw [e7]
            have enm : (if (if T 458 (8 * st + k) = 65 then 8 * st + k else -1) = -1 then T 452 c else T 457 (if T 458 (8 * st + k) = 65 then 8 * st + k else -1)) = nm := by
              rw [← hnm2]
              by_cases z : T 458 (8 * st + k) = 65
              · rw [if_pos z, if_pos z, if_neg (by omega)]
              · rw [if_neg z, if_neg z, if_pos rfl]
            rw [enm] at hy
            exact hy
        | inl e =>
          intro b okS
          obtain ⟨N, hN, hb⟩ := b
          obtain ⟨c', p', m'⟩ := e
          dsimp only
          unfold mBad at hb
          dsimp only at hb
          have okM : made + 1 ≤ m' ∧ m' ≤ 200 := okS.1
          by_cases h5 : c' = 5
          · rw [if_pos h5] at hb
            rw [if_pos (Or.inl h5)]
            obtain ⟨w, w1, w2, w3, w4, w5⟩ := hb
            unfold mNmRes
            dsimp only
            rw [if_pos h5]
            refine ⟨N + 1, w, ?_, run1.tr w1, w2, w3, w4, (mfm.of K2.1).tr w5⟩
            rw [Nat.succ_mul]
            omega
          · rw [if_neg h5] at hb
            obtain ⟨u, Ku, hu1, hu2, hu3⟩ := hb
            have K3 : mKeep (J + 1) cnt s u := K2.tr Ku (Int.le_refl _) (by omega)
            have Fu := F.kp K3 (hu1.trans F.1.symm)
            obtain ⟨f1, f2, f3, f4, f5, f6, f7, f8⟩ := id Fu
            have b603 : u.1 603 0 0 = 200 * t := (K3.1.1 603 0 0 (by omega)).trans R.2.1
            have sgn := e4 (by omega)
            have b581 : u.1 581 0 (200 * t + (dt + 2 * i + 1)) = s0.1 581 0 (200 * t + (dt + 2 * i + 1)) := (K3.1.1 581 0 _ (by omega)).trans (x581 _)
            by_cases hm0 : m = 0
            · rw [if_pos (Or.inr hm0)]
              unfold mNmRes
              dsimp only
              rw [if_neg h5]
              have hne : u.1 581 0 (200 * t + (dt + 2 * i + 1)) ≠ 124 := by
                rw [b581]
                intro z
                have := sgn.mp z
                omega
              refine ⟨N + 1, zp 610 0 0 (u.1 628 0 J) (zp 607 0 0 (u.1 626 0 J) (zp 620 0 0 J u)), ?_, ?_, ?_, ?_, ?_, ?_, fun w hw => run1.tr (hu3 w ?_)⟩
              · rw [Nat.succ_mul]
                omega
              · exact ((((mKeep.rf (K := J) (cnt := cnt)).tr K3 (by omega) (Int.le_refl _)).pw (by omega)).pw (by omega)).pw (by omega)
              · rw [zp_nn (by omega), zp_nn (by omega), zp_eq]
              · rw [zp_nn (by omega), zp_eq]
                exact f7
              · rw [zp_eq]
                exact f6
              · rw [zp_nn (by omega), zp_nn (by omega), zp_nn (by omega)]
                exact hu2
              · exact mFl.last f1 (by omega) f2 b603 r1 f5 (by omega) hne hw
            · rw [if_neg (show ¬ (c' = 5 ∨ m = 0) by omega)]
              have heq : u.1 581 0 (200 * t + (dt + 2 * i + 1)) = 124 := by
                rw [b581]
                exact sgn.mpr (by omega)
              have runN := run1.tr (hu3 _ (mFl.next f1 (by omega) f2 b603 r1 f5 (by omega) heq))
              have K5 : mKeep J cnt s (zp 610 0 0 (u.1 628 0 J) (zp 607 0 0 (u.1 626 0 J) (zp 627 0 J (dt + 2 * i + 2) u))) := (((((mKeep.rf (K := J) (cnt := cnt)).tr K3 (by omega) (Int.le_refl _)).pw (by omega)).pw (by omega)).pw (by omega))
              have F5 : mTF J (48 * t + (8 * st + k)) pa cnt pos (dt + 2 * (i + 1)) (6 - ((d + 1 : Nat) : Int)) (zp 610 0 0 (u.1 628 0 J) (zp 607 0 0 (u.1 626 0 J) (zp 627 0 J (dt + 2 * i + 2) u))) := by
                refine ⟨?_, ?_, ?_, ?_, ?_, ?_, ?_, ?_⟩
                · rw [zp_nn (by omega), zp_nn (by omega), zp_nn (by omega)]
                  exact f1
                · rw [zp_nn (by omega), zp_nn (by omega), zp_nn (by omega)]
                  exact f2
                · rw [zp_nn (by omega), zp_nn (by omega), zp_nn (by omega)]
                  exact f3
                · rw [zp_nn (by omega), zp_nn (by omega), zp_nn (by omega)]
                  exact f4
                · rw [zp_nn (by omega), zp_nn (by omega), zp_eq]
                  omega
                · rw [zp_nn (by omega), zp_nn (by omega), zp_nn (by omega)]
                  exact f6
                · rw [zp_nn (by omega), zp_nn (by omega), zp_nn (by omega)]
                  exact f7
                · rw [zp_nn (by omega), zp_nn (by omega), zp_nn (by omega)]
                  exact f8
              have P5 : mPre pos m' cnt (zp 610 0 0 (u.1 628 0 J) (zp 607 0 0 (u.1 626 0 J) (zp 627 0 J (dt + 2 * i + 2) u))) := by
                refine ⟨?_, ?_, ?_, p4, p5, by omega, by omega⟩
                · rw [zp_nn (by omega), zp_eq]
                  exact f7
                · rw [zp_nn (by omega), zp_nn (by omega), zp_nn (by omega)]
                  exact hu2
                · rw [zp_eq]
                  exact f6
              have z := ih (i + 1) m' _ (by omega) (by omega) (by omega) (Ks.tr K5 (Int.le_refl _) (Int.le_refl _)) F5 P5
              rw [show T 463 (8 * st + k) + (i + 1) = T 463 (8 * st + k) + i + 1 by omega] at z
              exact z.pre runN K5 (by rw [Nat.succ_mul]; omega)
  have z := loop (T 464 (8 * st + k) - T 463 (8 * st + k)).toNat 0 made0 s0 (by omega) (by omega) (by omega) mKeep.rf (by rw [show dt + 2 * 0 = dt by omega]; exact F0) P0
  rw [Int.add_zero] at z
  refine z.pre mRun.rf mKeep.rf ?_
  have : (T 464 (8 * st + k) - T 463 (8 * st + k)).toNat ≤ 101 := by omega
  exact Nat.le_trans (Nat.add_le_add_right (Nat.mul_le_mul_right _ this) 0) (Nat.le_refl _)
end
