/-! the reference's isRead is the spec -/
section
variable {t n : Int} {T : yT} {B : yB} {E : yE} {K J A pos made cnt st k me dd g nd pa way due j ln v bt : Int} {s u w : zS}
theorem M_fd {d L : Nat} (hN : mNames t T B n d L) (W : yWT T) (h5 : d ≤ 5) (R : mRd t T B n s) (hst : 0 ≤ st ∧ st < T 449 0) (hk : 0 ≤ k ∧ k < T 453 st) (F : mFF T K st me k (5 - d) s) (hK : 0 ≤ K ∧ K ≤ 15 - 3 * d) (P : mPre pos made cnt s) (hV : mKn T (E 330) st k K s) (hE : yOkE E k) (hON : mOkN T E st k) : match yFd (yS T B n d) T B n me (8 * st + k) k E pos made cnt with
    | .inl e => ∃ N, N ≤ 201 * (L + 1) + 2 ∧ mBad t K cnt N s e
    | .inr x => (∃ N, N ≤ 201 * (L + 1) + 2 ∧ mGood t T K cnt st me k (5 - d) N s x) ∧ mOkN T x.1 st (k + 1) := by
  have Wk := (W.2.2 st hst.1 hst.2).2.2 k hk.1 hk.2
  have up : ∀ a b v : Int, (mNumr (T 458 (8 * st + k)) → 0 ≤ v) → mOkN T (yeu E k a b v) st (k + 1) := by
    intro a b v hv i h1 h2 h3
    by_cases hi : i = k
    · subst hi
      simp only [yeu, if_pos]
      exact hv h3
    · simp only [yeu, if_neg hi]
      exact hON i h1 (by omega) h3
  rw [yFd_eq]
  by_cases h65 : T 458 (8 * st + k) = 65
  · rw [if_pos h65]
    have a := M_one hN W h5 R hst hk F hK P hV h65
    revert a
    cases yNm (yS T B n d) T (8 * st + k) me (T 464 (8 * st + k) - T 463 (8 * st + k)).toNat (T 463 (8 * st + k)) pos made cnt with
    | inl e =>
      intro a
      obtain ⟨N, h1, h2⟩ := a
      exact ⟨N, by omega, h2⟩
    | inr x =>
      intro a
      obtain ⟨N, h1, h2⟩ := a
      exact ⟨⟨N, by omega, h2⟩, up _ _ _ (fun h => by rw [h65] at h; unfold mNumr at h; omega)⟩
  · rw [if_neg h65]
    by_cases h91 : T 458 (8 * st + k) = 91
    · rw [if_pos h91]
      have a := M_row hN W h5 R hst hk F hK P hV hE hON h91
      revert a
      cases yA68 (yS T B n d) T B n (E 330) me (8 * st + k) pos made cnt with
      | inl e => exact fun a => a
      | inr x => exact fun a => ⟨a, up _ _ _ (fun h => by rw [h91] at h; unfold mNumr at h; omega)⟩
    · rw [if_neg h91]
      have a := M_plain (E := E) R W hst hk F (by omega) P hV hE hON h65 h91
      have hn := fun x => yPl_n (V := E 330) (x := x) Wk R.2.2.2.1.2 R.2.2.2.2.2 P.2.2.2.1.1
      revert a
      unfold yP61
      by_cases hm : 200 ≤ made
      · rw [if_pos hm]
        exact fun a => ⟨1, by omega, a⟩
      · rw [if_neg hm]
        revert hn
        cases yPl T B n (E 330) (8 * st + k) pos with
        | inl c => exact fun _ a => ⟨1, by omega, a⟩
        | inr x => exact fun hn a => ⟨⟨1, by omega, a⟩, up _ _ _ (fun h => hn x h rfl)⟩
theorem M_fs {d L : Nat} (hN : mNames t T B n d L) (W : yWT T) (h5 : d ≤ 5) (hst : 0 ≤ st ∧ st < T 449 0) (hK : 0 ≤ K ∧ K ≤ 15 - 3 * d) : ∀ (m : Nat) (k : Int) (E : yE) (pos made cnt : Int) (s : zS), 0 ≤ k → k + m = T 453 st → mRd t T B n s → mFF T K st me k (5 - d) s → mPre pos made cnt s → mKn T (E 330) st k K s → yOkE E k → mOkN T E st k → match yFs (yS T B n d) T B n me st m k E pos made cnt with
    | .inl e => ∃ N, N ≤ m * (201 * (L + 1) + 2) ∧ mBad t K cnt N s e
    | .inr x => ∃ N u, N ≤ m * (201 * (L + 1) + 2) ∧ mRun t N s u ∧ mKeep K cnt s u ∧ mFF T K st me (T 453 st) (5 - d) u ∧ mPre x.2.1 x.2.2.1 (cnt + x.2.2.2.2.length) u ∧ mIn t T cnt x.2.2.2.2 u := by
  obtain ⟨c1, c2, c3⟩ := W.2.2 st hst.1 hst.2
  intro m
  induction m with
  | zero =>
    intro k E pos made cnt s h0 hk R F P hV hE hON
    have hk : k = T 453 st := by omega
    subst hk
    unfold yFs
    refine ⟨0, s, by omega, mRun.rf, mKeep.rf, F, ?_, mIn.nil P.2.2.1⟩
    dsimp only
    rw [show cnt + ((([] : List yN).length : Nat) : Int) = cnt by simp]
    exact P
  | succ m ih =>
    intro k E pos made cnt s h0 hk R F P hV hE hON
    have a := M_fd (E := E) hN W h5 R hst ⟨h0, by omega⟩ F hK P hV hE hON
    have ok := yFd_ok (me := me) (cnt := cnt) (E := E) (yS_ok W R.2.2.2.1.2 R.2.2.2.2.2 d) (c3 k h0 (by omega)) R.2.2.2.1.2 R.2.2.2.2.2 hE P.2.2.2.1.1 (by have := P.2.2.2.2.1; have := P.2.2.2.2.2.1; omega) P.2.2.2.2.2.2
    unfold yFs
    revert a ok
    cases yFd (yS T B n d) T B n me (8 * st + k) k E pos made cnt with
    | inl e =>
      intro a ok
      obtain ⟨N, h1, h2⟩ := a
      exact ⟨N, by rw [Nat.succ_mul]; omega, h2⟩
    | inr x =>
      intro a ok
      obtain ⟨⟨N, h1, u, g1, g2, g3, g4, g5, g6⟩, hON1⟩ := a
      have okE := ok.2 x rfl
      obtain ⟨E1, p1, m1, w1, l1⟩ := x
      dsimp only at g4 g5 g6 okE hON1 ⊢
      have z := ih (k + 1) E1 p1 m1 (cnt + l1.length) u (by omega) (by omega) (R.fr g2.1) g3 g4 g6 okE hON1
      revert z
      cases yFs (yS T B n d) T B n me st m (k + 1) E1 p1 m1 (cnt + l1.length) with
      | inl e =>
        intro z
        obtain ⟨N2, z1, z2⟩ := z
        exact ⟨N2 + N, by rw [Nat.succ_mul]; omega, z2.pre g1 g2 (by omega)⟩
      | inr y =>
        intro z
        obtain ⟨E2, p2, m2, w2, l2⟩ := y
        obtain ⟨N2, u2, z1, z2, z3, z4, z5, z6⟩ := z
        dsimp only at z5 z6 ⊢
        refine ⟨N2 + N, u2, by rw [Nat.succ_mul]; omega, g1.tr z2, g2.tr z3 (Int.le_refl _) (by omega), z4, ?_, g5.app z3 z6⟩
        rw [List.length_append, show cnt + ((l1.length + l2.length : Nat) : Int) = cnt + l1.length + l2.length by omega]
        exact z5
theorem M_fieldsU {d L : Nat} (hN : mNames t T B n d L) (W : yWT T) (h5 : d ≤ 5) : mFieldsU t T B n d (8 * (201 * (L + 1) + 2)) := by
  intro s K st me pos made cnt R hst hK F P
  obtain ⟨c1, c2, c3⟩ := W.2.2 st hst.1 hst.2
  have z := M_fs (me := me) hN W h5 hst hK (T 453 st).toNat 0 (fun _ _ => 0) pos made cnt s (by omega) (by omega) R F P (fun i h1 h2 => by omega) (fun i h1 h2 => by omega) (fun i h1 h2 => by omega)
  have hm : (T 453 st).toNat * (201 * (L + 1) + 2) ≤ 8 * (201 * (L + 1) + 2) := Nat.mul_le_mul_right _ (by omega)
  revert z
  cases yFs (yS T B n d) T B n me st (T 453 st).toNat 0 (fun _ _ => 0) pos made cnt with
  | inl e =>
    intro z
    obtain ⟨N, z1, z2⟩ := z
    exact ⟨N, by omega, z2⟩
  | inr x =>
    intro z
    obtain ⟨N, u, z1, z2⟩ := z
    exact ⟨N, u, by omega, z2⟩
/-- too deep: all of several structures are -/
theorem yNm_deep {ow : Int} : ∀ (m : Nat) (k pos made cnt : Int), 0 < m → yNm (yS T B n 0) T ow pa m k pos made cnt = .inl (4, pos, made)
  | 0, _, _, _, _, h => absurd h (Nat.lt_irrefl _)
  | m + 1, k, pos, made, cnt, _ => by
    unfold yNm yS
    dsimp only
    by_cases hm : (4 : Int) = 5 ∨ m = 0
    · rw [if_pos hm]
    · rw [if_neg hm]
      exact yNm_deep m (k + 1) pos made cnt (by omega)
theorem M179_17 {dt N0 : Int} (ht : 0 ≤ t ∧ t ≤ 3) (hJ : 1 ≤ J ∧ J ≤ 50) (hdt : 0 ≤ dt) : ∀ (m N : Nat) (i : Int) (s : zS), m < N → 0 ≤ i → i + m + 1 = N0 → (∀ j, 0 ≤ j → j < N0 → dt + 2 * j + 1 < 200 ∧ (s.1 581 0 (200 * t + (dt + 2 * j + 1)) = 124 ↔ j + 1 < N0)) → s.1 603 0 0 = 200 * t → mTF J g pa cnt pos (dt + 2 * i) dd s → ∃ u, mKeep J cnt s u ∧ mTF J g pa cnt pos (dt + 2 * (N0 - 1)) dd u ∧ u.1 607 0 0 = s.1 607 0 0 ∧ u.1 610 0 0 = s.1 610 0 0 ∧ u.1 611 0 0 = s.1 611 0 0 ∧ ∀ w, zf_177 0 4 pos u = zi 0 w → zf_179_17 N 0 J s = zi 0 w := by
  intro m
  induction m with
  | zero =>
    intro N i s hN h0 hi hx hb F
    obtain ⟨N, rfl⟩ : ∃ M, N = M + 1 := ⟨N - 1, by omega⟩
    obtain ⟨f1, f2, f3, f4, f5, f6, f7, f8⟩ := id F
    have hxi := hx i h0 (by omega)
    refine ⟨s, mKeep.rf, by rw [show N0 - 1 = i by omega]; exact F, rfl, rfl, rfl, fun w hw => ?_⟩
    unfold zf_179_17
    rw [zn_ok (by omega), hb, f5, zg_ok ⟨by omega, by omega⟩, zg_ok ⟨by omega, by omega⟩, zn_ok (by omega), show 200 * t + (dt + 2 * i) + 1 = 200 * t + (dt + 2 * i + 1) by omega, if_neg (fun z => by have := hxi.2.mp z; omega), zn_ok (by omega), f7, hw, zC_zi]
  | succ m ih =>
    intro N i s hN h0 hi hx hb F
    obtain ⟨N, rfl⟩ : ∃ M, N = M + 1 := ⟨N - 1, by omega⟩
    obtain ⟨f1, f2, f3, f4, f5, f6, f7, f8⟩ := id F
    have hxi := hx i h0 (by omega)
    have F2 : mTF J g pa cnt pos (dt + 2 * (i + 1)) dd (zp 627 0 J (dt + 2 * i + 2) s) := ⟨(zp_nn (by omega)).trans f1, (zp_nn (by omega)).trans f2, (zp_nn (by omega)).trans f3, (zp_nn (by omega)).trans f4, zp_eq.trans (by omega), (zp_nn (by omega)).trans f6, (zp_nn (by omega)).trans f7, (zp_nn (by omega)).trans f8⟩
    obtain ⟨u, u1, u2, u3, u4, u5, u6⟩ := ih N (i + 1) _ (by omega) (by omega) (by omega) (fun j h1 h2 => by rw [zp_nn (by omega)]; exact hx j h1 h2) ((zp_nn (by omega)).trans hb) F2
    refine ⟨u, (mKeep.rf.pw (by omega)).tr u1 (Int.le_refl _) (Int.le_refl _), u2, u3.trans (zp_nn (by omega)), u4.trans (zp_nn (by omega)), u5.trans (zp_nn (by omega)), fun w hw => ?_⟩
    unfold zf_179_17
    rw [zn_ok (by omega), hb, f5, zg_ok ⟨by omega, by omega⟩, zg_ok ⟨by omega, by omega⟩, zn_ok (by omega), show 200 * t + (dt + 2 * i) + 1 = 200 * t + (dt + 2 * i + 1) by omega, if_pos (hxi.2.mpr (by omega)), zn_ok (by omega), zg_ok ⟨by omega, by omega⟩, zW_ok (by omega)]
    exact u6 w hw
theorem M_names0 (W : yWT T) : mNames t T B n 0 1 := by
  intro s J st k pa pos made cnt R hst hk ht hJ F P hnx
  obtain ⟨c1, c2, c3⟩ := W.2.2 st hst.1 hst.2
  have h6 := W.2.1
  have Wk := c3 k hk.1 hk.2
  obtain ⟨a1, a2, a3, a4⟩ := Wk.2.2.1 (by omega)
  obtain ⟨r1, r2, r3⟩ := id R.1
  have qf := (r3 st hst.1 hst.2).2.2.2 k hk.1 hk.2
  obtain ⟨d1, d2⟩ := qf.2.2.2.2.2.2.2.1 (by omega)
  clear qf r3 c3 Wk
  obtain ⟨p1, p2, p3, p4, p5, p6, p7⟩ := P
  rw [yNm_deep _ _ _ _ _ (by omega)]
  unfold mNmRes
  dsimp only
  rw [if_neg (by decide)]
  obtain ⟨f1, f2, f3, f4, f5, f6, f7, f8⟩ := id F
  obtain ⟨u, u1, u2, u3, u4, u5, u6⟩ := M179_17 (t := t) (J := J) (cnt := cnt) (pos := pos) (g := 48 * t + (8 * st + k)) (pa := pa) (dd := 6 - ((0 : Nat) : Int)) (dt := s.1 588 0 (48 * t + (8 * st + k))) (N0 := T 464 (8 * st + k) - T 463 (8 * st + k)) r1 (by omega) d1 (T 464 (8 * st + k) - T 463 (8 * st + k) - 1).toNat xfu 0 s (xfu_big (by omega)) (by omega) (by omega) (fun j h1 h2 => ⟨(d2 j h1 h2).1, (d2 j h1 h2).2.2.2 (by omega)⟩) R.2.1 (by rw [show s.1 588 0 (48 * t + (8 * st + k)) + 2 * 0 = s.1 588 0 (48 * t + (8 * st + k)) by omega]; exact F)
  have e := d2 (T 464 (8 * st + k) - T 463 (8 * st + k) - 1) (by omega) (by omega)
  have b581 : u.1 581 0 (200 * t + (s.1 588 0 (48 * t + (8 * st + k)) + 2 * (T 464 (8 * st + k) - T 463 (8 * st + k) - 1) + 1)) ≠ 124 := by
    rw [u1.1.1 581 0 _ (by omega)]
    intro z
    have := (e.2.2.2 (by omega)).mp z
    omega
  obtain ⟨v1, v2, v3, v4, v5, v6, v7, v8⟩ := id u2
  refine ⟨1, zp 610 0 0 (u.1 628 0 J) (zp 607 0 0 (u.1 626 0 J) (zp 620 0 0 J u)), by omega, ((u1.pw (by omega)).pw (by omega)).pw (by omega), ?_, ?_, ?_, ?_, fun w hw => ?_⟩
  · rw [zp_nn (by omega), zp_nn (by omega), zp_eq]
  · rw [zp_nn (by omega), zp_eq]
    exact v7
  · rw [zp_eq]
    exact v6
  · rw [zp_nn (by omega), zp_nn (by omega), zp_nn (by omega)]
    exact u5.trans p2
  · have hfl := mFl.last v1 (by omega) v2 ((u1.1.1 603 0 0 (by omega)).trans R.2.1) r1 v5 (by omega) b581 hw
    refine mRun.st (x := 0) f1 (by omega) (Or.inr (Or.inl ⟨f2, ?_⟩))
    unfold zf_179
    rw [f1, show J + 1 - 1 = J by omega, f8, zg_ok ⟨by omega, by omega⟩, zn_ok (by omega), if_neg (by omega)]
    exact u6 w (hfl.all (by omega))
def mL : Nat → Nat
  | 0 => 1
  | d + 1 => 101 * (8 * (201 * (mL d + 1) + 2) + 2)
theorem M_namesA (W : yWT T) : ∀ d : Nat, d ≤ 6 → mNames t T B n d (mL d)
  | 0, _ => M_names0 W
  | d + 1, h => M_names W (by omega) (M_fieldsU (M_namesA W d (by omega)) W (by omega))
/-- a fault is none of 0 -/
def yNmC0 (nm : Int → Int → Int → yO) : Prop := ∀ pos made cnt e, nm pos made cnt = .inl e → e.1 ≠ 0
theorem yNm_c {rs : Int → Int → Int → Int → Int → Int → yO} (h : ∀ s ow pa, 0 ≤ s → s < T 449 0 → yNmC0 (rs s ow pa)) {ow pa : Int} : ∀ (m : Nat) (k : Int), 0 < m → (∀ j, k ≤ j → j < k + m → 0 ≤ T 456 j ∧ T 456 j < T 449 0) → yNmC0 (yNm rs T ow pa m k)
  | 0, _, h0, _ => absurd h0 (Nat.lt_irrefl _)
  | m + 1, k, _, hj => fun pos made cnt e he => by
    unfold yNm at he
    have a := h (T 456 k) ow pa (hj k (by omega) (by omega)).1 (hj k (by omega) (by omega)).2 pos made cnt
    revert he a
    cases rs (T 456 k) ow pa pos made cnt with
    | inr x => exact fun he => by cases he
    | inl e' =>
      intro he a
      obtain ⟨c, p, m'⟩ := e'
      dsimp only at he
      by_cases hc : c = 5 ∨ m = 0
      · rw [if_pos hc] at he
        cases he
        exact a _ rfl
      · rw [if_neg hc] at he
        exact yNm_c h m (k + 1) (by omega) (fun j h1 h2 => hj j (by omega) (by omega)) _ _ _ _ he
theorem yCt_c {nm : Int → Int → Int → yO} (h : yNmC0 nm) : ∀ m : Nat, yNmC0 (yCt nm m)
  | 0 => fun _ _ _ _ he => by cases he
  | m + 1 => fun pos made cnt e he => by
    unfold yCt at he
    have a := h pos made cnt
    revert he a
    cases nm pos made cnt with
    | inl e' =>
      intro he a
      cases he
      exact a _ rfl
    | inr x =>
      intro he a
      obtain ⟨p1, m1, w1, l1⟩ := x
      have b := yCt_c h m p1 m1 (cnt + l1.length)
      revert he b
      dsimp only
      cases yCt nm m p1 m1 (cnt + l1.length) with
      | inl e' =>
        intro he b
        cases he
        exact b _ rfl
      | inr y => exact fun he => by cases he
theorem yAl_c {nm : Int → Int → Int → yO} (h : yNmC0 nm) : ∀ (m : Nat) (k pos made cnt : Int) (e : Int × Int × Int), yAl nm m k pos made cnt = .inl e → e.1 ≠ 0
  | 0, _, _, _, _, _, he => by
    cases he
    exact (by decide : (5 : Int) ≠ 0)
  | m + 1, k, pos, made, cnt, e, he => by
    unfold yAl at he
    have a := h pos made cnt
    revert he a
    cases nm pos made cnt with
    | inl e' =>
      intro he a
      obtain ⟨c, p, m'⟩ := e'
      dsimp only at he
      split at he
      · cases he
        exact a _ rfl
      · cases he
    | inr x =>
      intro he a
      obtain ⟨p1, m1, w1, l1⟩ := x
      have b := yAl_c h m (k + 1) p1 m1 (cnt + l1.length)
      revert he b
      dsimp only
      cases yAl nm m (k + 1) p1 m1 (cnt + l1.length) with
      | inl e' =>
        intro he b
        split at he
        · cases he
        · cases he
          exact b _ rfl
      | inr y =>
        intro he b
        split at he <;> cases he
theorem yEn_c {nm : Int → Int → Int → yO} (h : yNmC0 nm) {e0 st0 : Int} : ∀ (m : Nat) (k pos made cnt : Int) (e : Int × Int × Int), yEn B n nm e0 st0 m k pos made cnt = .inl e → e.1 ≠ 0
  | 0, _, _, _, _, _, he => by
    cases he
    exact (by decide : (5 : Int) ≠ 0)
  | m + 1, k, pos, made, cnt, e, he => by
    unfold yEn at he
    split at he
    · cases he
    · split at he
      · cases he
        exact (by decide : (1 : Int) ≠ 0)
      · have a := h pos made cnt
        revert he a
        cases nm pos made cnt with
        | inl e' =>
          intro he a
          cases he
          exact a _ rfl
        | inr x =>
          intro he a
          obtain ⟨p1, m1, w1, l1⟩ := x
          have b := yEn_c h m (k + 1) p1 m1 (cnt + l1.length) (e0 := e0) (st0 := st0)
          revert he b
          dsimp only
          cases yEn B n nm e0 st0 m (k + 1) p1 m1 (cnt + l1.length) with
          | inl e' =>
            intro he b
            split at he
            · cases he
              exact (by decide : (1 : Int) ≠ 0)
            · cases he
              exact b _ rfl
          | inr y =>
            intro he b
            split at he
            · cases he
              exact (by decide : (1 : Int) ≠ 0)
            · cases he
theorem yPl_c {V : Int → Int} {f c : Int} (h : yPl T B n V f pos = .inl c) : c ≠ 0 := by
  unfold yPl at h
  split at h
  · dsimp only at h
    split at h
    · cases h
      decide
    · split at h
      · cases h
        decide
      · cases h
  · split at h
    · split at h
      · cases h
      · cases h
        decide
    · split at h
      · split at h
        · cases h
          decide
        · cases h
      · dsimp only at h
        generalize (if T 459 f = 16 then if T 458 f = 87 then 256 * B pos + B (pos + 1) else B pos + 256 * B (pos + 1) else B pos) = vv at h
        generalize (if T 459 f = 16 then (2 : Int) else 1) = ll at h
        split at h
        · cases h
          decide
        · split at h
          · cases h
            decide
          · cases h
theorem yFd_c {rs : Int → Int → Int → Int → Int → Int → yO} (h : ∀ s ow pa, 0 ≤ s → s < T 449 0 → yNmC0 (rs s ow pa)) (W : yWF T st k) {e : Int × Int × Int} (he : yFd rs T B n me (8 * st + k) k E pos made cnt = .inl e) : e.1 ≠ 0 := by
  have nmc : ∀ ow pa : Int, T 458 (8 * st + k) = 65 ∨ T 458 (8 * st + k) = 91 → yNmC0 (yNm rs T ow pa (T 464 (8 * st + k) - T 463 (8 * st + k)).toNat (T 463 (8 * st + k))) := by
    intro ow pa ht
    obtain ⟨a1, a2, a3, a4⟩ := W.2.2.1 (by omega)
    exact yNm_c h _ _ (by omega) (fun j h1 h2 => a4 j h1 (by omega))
  rw [yFd_eq] at he
  by_cases h65 : T 458 (8 * st + k) = 65
  · rw [if_pos h65] at he
    have a := nmc (8 * st + k) me (Or.inl h65) pos made cnt
    revert he a
    cases yNm rs T (8 * st + k) me (T 464 (8 * st + k) - T 463 (8 * st + k)).toNat (T 463 (8 * st + k)) pos made cnt with
    | inl e' =>
      intro he a
      cases he
      exact a _ rfl
    | inr x => exact fun he => by cases he
  · rw [if_neg h65] at he
    by_cases h91 : T 458 (8 * st + k) = 91
    · rw [if_pos h91] at he
      unfold yA68 at he
      by_cases h1 : 200 ≤ made
      · rw [if_pos h1] at he
        cases he
        exact (by decide : (5 : Int) ≠ 0)
      · rw [if_neg h1] at he
        by_cases h2 : T 465 (8 * st + k) = 43 ∧ (yCn T (E 330) (8 * st + k) < 0 ∨ 20 < yCn T (E 330) (8 * st + k))
        · rw [if_pos h2] at he
          cases he
          exact (by decide : (3 : Int) ≠ 0)
        · rw [if_neg h2] at he
          have b : ∀ e', yAr rs T B n (E 330) me (8 * st + k) pos made cnt = .inl e' → e'.1 ≠ 0 := by
            intro e' he'
            unfold yAr at he'
            have c := nmc (-1) cnt (Or.inr h91)
            split at he'
            · exact yAl_c c _ _ _ _ _ _ he'
            · split at he'
              · exact yEn_c c _ _ _ _ _ _ he'
              · have dd := yCt_c c (yCn T (E 330) (8 * st + k)).toNat pos (made + 1) (cnt + 1)
                revert he' dd
                cases yCt (yNm rs T (-1) cnt (T 464 (8 * st + k) - T 463 (8 * st + k)).toNat (T 463 (8 * st + k))) (yCn T (E 330) (8 * st + k)).toNat pos (made + 1) (cnt + 1) with
                | inl e2 =>
                  intro he' dd
                  cases he'
                  exact dd _ rfl
                | inr y => exact fun he' => by cases he'
          revert he b
          cases yAr rs T B n (E 330) me (8 * st + k) pos made cnt with
          | inl e' =>
            intro he b
            cases he
            exact b _ rfl
          | inr y => exact fun he => by cases he
    · rw [if_neg h91] at he
      unfold yP61 at he
      split at he
      · cases he
        exact (by decide : (5 : Int) ≠ 0)
      · have hb := fun c => yPl_c (T := T) (B := B) (n := n) (pos := pos) (V := E 330) (f := 8 * st + k) (c := c)
        revert he hb
        cases yPl T B n (E 330) (8 * st + k) pos with
        | inl c =>
          intro he hb
          cases he
          exact hb c rfl
        | inr y => exact fun he => by cases he
theorem yFs_c {rs : Int → Int → Int → Int → Int → Int → yO} (h : ∀ s ow pa, 0 ≤ s → s < T 449 0 → yNmC0 (rs s ow pa)) : ∀ (m : Nat) (k : Int) (E : yE) (pos made cnt : Int) (e : Int × Int × Int), (∀ j, k ≤ j → j < k + m → yWF T st j) → yFs rs T B n me st m k E pos made cnt = .inl e → e.1 ≠ 0
  | 0, _, _, _, _, _, _, _, he => by cases he
  | m + 1, k, E, pos, made, cnt, e, hW, he => by
    unfold yFs at he
    have a := fun e => yFd_c (B := B) (n := n) (pos := pos) (me := me) (E := E) (made := made) (cnt := cnt) (e := e) h (hW k (by omega) (by omega))
    revert he a
    cases yFd rs T B n me (8 * st + k) k E pos made cnt with
    | inl e' =>
      intro he a
      cases he
      exact a _ rfl
    | inr x =>
      intro he a
      obtain ⟨E1, p1, m1, w1, l1⟩ := x
      dsimp only at he
      have b := fun e => yFs_c h m (k + 1) E1 p1 m1 (cnt + l1.length) e (fun j h1 h2 => hW j (by omega) (by omega))
      revert he b
      cases yFs rs T B n me st m (k + 1) E1 p1 m1 (cnt + l1.length) with
      | inl e' =>
        intro he b
        cases he
        exact b _ rfl
      | inr y => exact fun he => by cases he
theorem yS_c (W : yWT T) : ∀ (d : Nat) (s ow pa : Int), 0 ≤ s → s < T 449 0 → yNmC0 (yS T B n d s ow pa)
  | 0, _, _, _, _, _ => fun _ _ _ _ he => by
    cases he
    exact (by decide : (4 : Int) ≠ 0)
  | d + 1, s, ow, pa, hs0, hs1 => fun pos made cnt e he => by
    obtain ⟨c1, c2, c3⟩ := W.2.2 s hs0 hs1
    unfold yS at he
    split at he
    · cases he
      exact (by decide : (5 : Int) ≠ 0)
    · have a := fun e => yFs_c (B := B) (n := n) (me := cnt) (st := s) (yS_c W d) (T 453 s).toNat 0 (fun _ _ => 0) pos (made + 1) (cnt + 1) e (fun j h1 h2 => c3 j h1 (by omega))
      revert he a
      cases yFs (yS T B n d) T B n cnt s (T 453 s).toNat 0 (fun _ _ => 0) pos (made + 1) (cnt + 1) with
      | inl e' =>
        intro he a
        cases he
        exact a _ rfl
      | inr y => exact fun he => by cases he
/-- what the reference tells behind a reading -/
def mTold (t : Int) (T : yT) (o : yO) (v : Int) (u : zS) : Prop := match o with
  | .inl e => v = 0 ∧ u.1 608 0 0 = e.1 ∧ u.1 609 0 0 = e.2.1 ∧ e.1 ≠ 0
  | .inr x => v = 1 ∧ u.1 607 0 0 = x.1 ∧ mIn t T 0 x.2.2.2 u ∧ u.1 608 0 0 = 0 ∧ u.1 609 0 0 = -1
theorem M186_end {N : Nat} (h : w.1 620 0 0 = 0) (hN : 0 < N) : zf_186_72 N 0 t w = zi (if w.1 608 0 0 = 0 then 1 else 0) w := by
  obtain ⟨N, rfl⟩ : ∃ M, N = M + 1 := ⟨N - 1, by omega⟩
  rw [zf_186_72, h, if_pos (by decide)]
  split <;> rfl
end
/-- the reference has the template and the file -/
def mFile (B : yB) (n : Int) (s : zS) : Prop := s.1 594 0 0 = n ∧ (0 ≤ n ∧ n ≤ 160) ∧ (∀ i, 0 ≤ i → i < n → s.1 595 0 i = B i) ∧ ∀ i, 0 ≤ i → i < n → 0 ≤ B i ∧ B i ≤ 255
/-- nothing but what the reference's reading works with has changed -/
def mfb (s t : zS) : Prop := (∀ (f n : Nat) (i : Int), ¬ (603 ≤ f ∧ f ≤ 630 ∧ n = 0) → t.1 f n i = s.1 f n i) ∧ t.2 = s.2
theorem mfb.rf {s : zS} : mfb s s := ⟨fun _ _ _ _ => rfl, rfl⟩
theorem mfb.tr {s t u : zS} (a : mfb s t) (b : mfb t u) : mfb s u := ⟨fun f n i h => (b.1 f n i h).trans (a.1 f n i h), b.2.trans a.2⟩
theorem mfb.of {s t : zS} (a : mfm s t) : mfb s t := ⟨fun f n i h => a.1 f n i (by omega), a.2⟩
theorem mfb.pw {s t : zS} {f : Nat} {i v : Int} (a : mfb s t) (h : 603 ≤ f ∧ f ≤ 630) : mfb s (zp f 0 i v t) := by
  refine ⟨fun f' n' i' hn => ?_, a.2⟩
  rw [zp_ne (fun z => hn ⟨by omega, by omega, z.2⟩)]
  exact a.1 f' n' i' hn
theorem mRelF.frb {t st k : Int} {T : yT} {s u : zS} (h : mRelF t T st k s) (a : mfb s u) : mRelF t T st k u := by
  have hX : mX t u = mX t s := funext fun p => by unfold mX; rw [a.1 581 0 _ (by omega)]
  have e : ∀ (f : Nat) (i : Int), f < 603 → u.1 f 0 i = s.1 f 0 i := fun f i hf => a.1 f 0 i (by omega)
  unfold mRelF
  simp only [hX, e 581 _ (by decide), e 583 _ (by decide), e 586 _ (by decide), e 587 _ (by decide), e 588 _ (by decide), e 589 _ (by decide), e 590 _ (by decide), e 591 _ (by decide), e 592 _ (by decide), e 593 _ (by decide)]
  exact h
theorem mRel.frb {t : Int} {T : yT} {s u : zS} (h : mRel t T s) (a : mfb s u) : mRel t T u := by
  obtain ⟨h1, h2, h3⟩ := h
  refine ⟨h1, (a.1 582 0 t (by omega)).trans h2, fun st g1 g2 => ?_⟩
  obtain ⟨k1, k2, k3, k4⟩ := h3 st g1 g2
  exact ⟨(a.1 585 0 _ (by omega)).trans k1, (a.1 584 0 _ (by omega)).trans k2, k3, fun k g3 g4 => (k4 k g3 g4).frb a⟩
theorem mFile.frb {B : yB} {n : Int} {s u : zS} (h : mFile B n s) (a : mfb s u) : mFile B n u := by
  obtain ⟨h1, h2, h3, h4⟩ := h
  exact ⟨(a.1 594 0 0 (by omega)).trans h1, h2, fun i g1 g2 => (a.1 595 0 i (by omega)).trans (h3 i g1 g2), h4⟩
theorem mfu_big {N : Nat} (h : N ≤ mL 6 + 5) : N < xfu := Nat.lt_of_le_of_lt h (by decide +kernel)
theorem M186 {t n st off : Int} {T : yT} {B : yB} {s : zS} (R : mRel t T s) (W : yWT T) (F : mFile B n s) (hst : 0 ≤ st ∧ st < T 449 0) (ho : 0 ≤ off ∧ off ≤ 255) : zw (zf_186 0 t st off s) fun v u => mfb s u ∧ u.1 603 0 0 = 200 * t ∧ mTold t T (yTop T B n st off) v u := by
  have h6 := W.2.1
  have ht := R.1
  obtain ⟨q1, q2, q3, q4⟩ := R.2.2 st hst.1 hst.2
  clear q4
  obtain ⟨c1, c2, c3⟩ := W.2.2 st hst.1 hst.2
  clear c3
  unfold zf_186
  rw [zg_ok ⟨by omega, by omega⟩]
  simp only [zP_ok]
  have K0 : mfb s (zp 620 0 0 0 (zp 611 0 0 0 (zp 610 0 0 0 (zp 609 0 0 (-1) (zp 608 0 0 0 (zp 607 0 0 off (zp 603 0 0 (200 * t) s))))))) := ((((((mfb.rf.pw (by omega)).pw (by omega)).pw (by omega)).pw (by omega)).pw (by omega)).pw (by omega)).pw (by omega)
  generalize ha : zp 620 0 0 0 (zp 611 0 0 0 (zp 610 0 0 0 (zp 609 0 0 (-1) (zp 608 0 0 0 (zp 607 0 0 off (zp 603 0 0 (200 * t) s)))))) = a at K0
  have a603 : a.1 603 0 0 = 200 * t := by rw [← ha]; simp [zp_1]
  have a607 : a.1 607 0 0 = off := by rw [← ha]; simp [zp_1]
  have a608 : a.1 608 0 0 = 0 := by rw [← ha]; simp [zp_1]
  have a609 : a.1 609 0 0 = -1 := by rw [← ha]; simp [zp_1]
  have a610 : a.1 610 0 0 = 0 := by rw [← ha]; simp [zp_1]
  have a611 : a.1 611 0 0 = 0 := by rw [← ha]; simp [zp_1]
  have a620 : a.1 620 0 0 = 0 := by rw [← ha]; simp [zp_1]
  clear ha
  have P : mPre off 0 0 a := ⟨a607, a611, a610, by omega, by omega, by omega, by omega⟩
  rw [zg_ok ⟨by omega, by omega⟩, zg_ok ⟨by omega, by omega⟩, zn_ok (by omega), (K0.1 584 0 _ (by omega)).trans q2, M174 P (by decide), zC_zi]
  obtain ⟨m1, m2, m3, m4, m5, m6', m7, m8, m9⟩ := mMk_get (k := 0) (nm := T 452 st) (p := -1) (f := -1) (pos := off) (made := 0) (cnt := 0) (s := a)
  have K1 : mKeep 0 0 a (mMk 0 (T 452 st) (-1) (-1) off 0 0 a) := mKeep.mk'
  generalize mMk 0 (T 452 st) (-1) (-1) off 0 0 a = r at m1 m2 m3 m4 m5 m6' m7 m8 m9 K1
  rw [M175 (K := 0) (pos := off) (m9.trans a620) (m6'.trans a607) (by decide), zC_zi, zW_ok (by decide)]
  obtain ⟨u1, u2, u3, u4, u5, u6, u7⟩ := mPu_get (what := 0) (st := st) (nd := 0) (pos := off) (K := 0) (s := r)
  have K2 : mKeep 0 0 a (zp 629 0 0 0 (mPu 0 st 0 off 0 r)) := (K1.tr (mKeep.pu (K := 0) (cnt := 0)) (Int.le_refl _) (Int.le_refl _)).pw (by omega)
  have lo : ∀ (f : Nat) (i : Int), f < 620 → (zp 629 0 0 0 (mPu 0 st 0 off 0 r)).1 f 0 i = r.1 f 0 i := fun f i h => by rw [zp_nn (by omega), mPu_lo h]
  have FF : mFF T 0 st 0 0 0 (zp 629 0 0 0 (mPu 0 st 0 off 0 r)) := ⟨(zp_nn (by omega)).trans u1, (zp_nn (by omega)).trans u2, (zp_nn (by omega)).trans u3, (zp_nn (by omega)).trans u4, (zp_nn (by omega)).trans u5, zp_eq, (zp_nn (by omega)).trans u6⟩
  generalize zp 629 0 0 0 (mPu 0 st 0 off 0 r) = q at K2 lo FF
  have Rq : mRd t T B n q := ⟨(R.frb K0).fr K2.1, (K2.1.1 603 0 0 (by omega)).trans a603, ((F.frb K0).1 ▸ (K2.1.1 594 0 0 (by omega))).trans rfl, F.2.1, fun i h1 h2 => (K2.1.1 595 0 i (by omega)).trans ((F.frb K0).2.2.1 i h1 h2), F.2.2.2⟩
  have Pq : mPre off 1 1 q := ⟨(lo 607 0 (by decide)).trans (m6'.trans a607), (lo 611 0 (by decide)).trans m7, (lo 610 0 (by decide)).trans m8, by omega, by omega, by omega, by omega⟩
  have q608 : q.1 608 0 0 = 0 := (K2.1.1 608 0 0 (by omega)).trans a608
  have q609 : q.1 609 0 0 = -1 := (K2.1.1 609 0 0 (by omega)).trans a609
  have KB : mfb s q := K0.tr (mfb.of (mfm.of K2.1))
  have b := M_fieldsU (M_namesA (t := t) (B := B) (n := n) W 5 (by decide)) W (by decide) q 0 st 0 off 1 1 Rq hst (by decide) (by simpa using FF) Pq
  have okS := yFs_ok (st := st) (me := 0) (yS_ok W F.2.1.2 F.2.2.2 5) F.2.1.2 F.2.2.2 (T 453 st).toNat 0 (fun _ _ => 0) off 1 1 (by omega) (fun j h1 h2 => (W.2.2 st hst.1 hst.2).2.2 j h1 (by omega)) (fun i h1 h2 => by omega) ho.1 (by omega) (by omega)
  have big : ∀ N : Nat, N ≤ 8 * (201 * (mL 5 + 1) + 2) → N + 2 < xfu := fun N h => mfu_big (by
    have : mL 6 = 101 * (8 * (201 * (mL 5 + 1) + 2) + 2) := rfl
    omega)
  have ec := fun (e : Int × Int × Int) => yFs_c (rs := yS T B n 5) (B := B) (n := n) (me := 0) (st := st) (yS_c (B := B) (n := n) W 5) (T 453 st).toNat 0 (fun _ _ => 0) off 1 1 e (fun j h1 h2 => (W.2.2 st hst.1 hst.2).2.2 j h1 (by omega))
  unfold yTop yS
  rw [if_neg (by decide), show (0 : Int) + 1 = 1 from rfl]
  revert b okS ec
  cases yFs (yS T B n 5) T B n 0 st (T 453 st).toNat 0 (fun _ _ => 0) off 1 1 with
  | inl e =>
    intro b okS ec
    have hne := ec e rfl
    obtain ⟨N, hN, hb⟩ := b
    have hN2 := big N hN
    unfold mBad at hb
    dsimp only
    by_cases h5 : e.1 = 5
    · rw [if_pos h5] at hb
      obtain ⟨w, w1, w2, w3, w4, w5⟩ := hb
      have e1 := w1 (xfu - N)
      rw [show xfu - N + N = xfu by omega, M186_end w2 (by omega), w3, if_neg (by decide)] at e1
      rw [e1]
      exact zw_i ⟨KB.tr (mfb.of w5), (w5.1 603 0 0 (by omega)).trans Rq.2.1, rfl, w3.trans h5.symm, w4, hne⟩
    · rw [if_neg h5] at hb
      obtain ⟨u, hu1, hu2, hu3, hu4⟩ := hb
      have w1 := hu4 _ (mFl.zero (c := e.1) (p := e.2.1) hu2)
      have e1 := w1 (xfu - N)
      have h620 : (zp 609 0 0 e.2.1 (zp 608 0 0 e.1 u)).1 620 0 0 = 0 := by
        rw [zp_nn (by omega), zp_nn (by omega)]
        exact hu2
      have h608 : (zp 609 0 0 e.2.1 (zp 608 0 0 e.1 u)).1 608 0 0 = e.1 := by
        rw [zp_nn (by omega)]
        exact zp_eq
      rw [show xfu - N + N = xfu by omega, M186_end h620 (by omega), h608, if_neg hne] at e1
      rw [e1]
      refine zw_i ⟨((KB.tr (mfb.of (mfm.of hu1.1))).pw (by omega)).pw (by omega), ?_, rfl, h608, zp_eq, hne⟩
      rw [zp_nn (by omega), zp_nn (by omega), hu1.1.1 603 0 0 (by omega)]
      exact Rq.2.1
  | inr x =>
    intro b okS ec
    obtain ⟨N, u, hN, runF, Ku, FFu, Pu, Iu⟩ := b
    have hN2 := big N hN
    obtain ⟨E', p', m', w', l'⟩ := x
    dsimp only at Pu Iu ⊢
    have nf := fun (f : Nat) (h1 : 612 ≤ f) (h2 : f < 620) => (Ku.2.1 f 0 h1 h2 (by decide)).trans (lo f 0 h2)
    have e182 := M182_done (sn := 0) ((R.frb KB).fr Ku.1) hst h6 FFu (by decide) (by decide) (by rw [Pu.1]; exact Pu.2.2.2.1) (by rw [nf 614 (by decide) (by decide), m3]; omega) ⟨c1, c2⟩
    rw [if_pos rfl, zC_zi, nf 614 (by decide) (by decide), m3, Pu.1] at e182
    have run2 := runF.tr (mRun.st (t := t) FFu.1 (by decide) (Or.inl ⟨FFu.2.1, e182⟩))
    have e1 := run2 (xfu - (1 + N))
    have hi : ∀ (f : Nat) (i : Int), f ≠ 615 → f ≠ 616 → f ≠ 620 → (zp 620 0 0 0 (zp 616 0 0 (T 452 st) (zp 615 0 0 (p' - off) u))).1 f 0 i = u.1 f 0 i := fun f i h1 h2 h3 => by rw [zp_nn (by omega), zp_nn (by omega), zp_nn (by omega)]
    rw [show xfu - (1 + N) + (1 + N) = xfu by omega, M186_end zp_eq (by omega), hi 608 0 (by decide) (by decide) (by decide), (Ku.1.1 608 0 0 (by omega)).trans q608, if_pos rfl] at e1
    rw [e1]
    have I2 := mIn.tell (t := t) (T := T) (cnt := 0) (u := u) (f := -1) (ln := p' - off) (v := T 452 st) ((nf 612 (by decide) (by decide)).trans m1) ((nf 613 (by decide) (by decide)).trans m2) ((nf 614 (by decide) (by decide)).trans m3) ((nf 617 (by decide) (by decide)).trans m4) ((nf 618 (by decide) (by decide)).trans m5) (by rw [if_pos rfl]) (by decide) Iu
    refine zw_i ⟨(((KB.tr (mfb.of (mfm.of Ku.1))).pw (by omega)).pw (by omega)).pw (by omega), ?_, rfl, ?_, ⟨?_, fun j y hy => ?_⟩, ?_, ?_⟩
    · rw [hi 603 0 (by decide) (by decide) (by decide), Ku.1.1 603 0 0 (by omega)]
      exact Rq.2.1
    · rw [hi 607 0 (by decide) (by decide) (by decide)]
      exact Pu.1
    · rw [zp_nn (by omega)]
      exact I2.1
    · have h2 : ∀ (f : Nat) (i : Int), f ≠ 620 → (zp 620 0 0 0 (zp 616 0 0 (T 452 st) (zp 615 0 0 (p' - off) u))).1 f 0 i = (zp 616 0 0 (T 452 st) (zp 615 0 0 (p' - off) u)).1 f 0 i := fun f i h => zp_nn (by omega)
      rw [h2 612 _ (by decide), h2 613 _ (by decide), h2 614 _ (by decide), h2 615 _ (by decide), h2 616 _ (by decide), h2 617 _ (by decide), h2 618 _ (by decide), h2 619 _ (by decide)]
      refine I2.2 j y ?_
      rw [if_pos rfl] at hy
      exact hy
    · rw [hi 608 0 (by decide) (by decide) (by decide)]
      exact (Ku.1.1 608 0 0 (by omega)).trans q608
    · rw [hi 609 0 (by decide) (by decide) (by decide)]
      exact (Ku.1.1 609 0 0 (by omega)).trans q609
