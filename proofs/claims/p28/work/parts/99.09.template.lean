/-! template -/
/-- a template more -/
def aTpl (U : yT) (x : Int) (A : aA) : aA := (fun f i => if f = 1 then 0 else if f = 522 then A.1 522 0 + 1 else A.1 f i, fun k => if (k : Int) = A.1 522 0 then pa_w 448 0 x U else A.2 k)
def sTemplate (T : yT) (x : Int) (A : aA) : (Int ⊕ Nat) × aA := if 0 ≤ x ∧ x ≤ 9 then (if A.1 522 0 = 4 then (.inr 1, aNoTape A) else match pa_all (pa_sg (A.1 0) (A.1 1 0)) T with
  | none => (.inr 1, aNoTape A)
  | some U => (.inl (A.1 522 0), aTpl U x A)) else (.inr 0, A)
section
variable {A : aA} {s u : zS} {x t : Int} {T U : yT}
theorem yWT.w8 (h : yWT T) : yWT (pa_w 448 0 x T) := by
  have e : ∀ (f : Nat) (i : Int), f ≠ 448 → pa_w 448 0 x T f i = T f i := fun f i hf => pa_w_nk hf
  unfold yWT yWF at h ⊢
  simp only [e 449 _ (by decide), e 453 _ (by decide), e 454 _ (by decide), e 456 _ (by decide), e 457 _ (by decide), e 458 _ (by decide), e 459 _ (by decide), e 460 _ (by decide), e 461 _ (by decide), e 462 _ (by decide), e 463 _ (by decide), e 464 _ (by decide), e 465 _ (by decide), e 467 _ (by decide), e 468 _ (by decide)]
  exact h
theorem mRel.w8 (h : mRel t T s) : mRel t (pa_w 448 0 x T) s := by
  have e : ∀ (f : Nat) (i : Int), f ≠ 448 → pa_w 448 0 x T f i = T f i := fun f i hf => pa_w_nk hf
  have b : ∀ st (m : Nat), yBit (pa_w 448 0 x T) st m = yBit T st m := fun st m => yBit_c m fun i _ _ => ⟨e 458 _ (by decide), e 459 _ (by decide)⟩
  have S : ∀ {Y : Int → Int} {st k p j : Int} {m : Nat}, mSumAt Y T st k m p j → mSumAt Y (pa_w 448 0 x T) st k m p j := fun {Y st k p j m} z => mSumAt_c (fun i _ _ => ⟨e 457 _ (by decide), e 458 _ (by decide)⟩) (fun i _ _ => ⟨e 454 _ (by decide), e 455 _ (by decide)⟩) z
  obtain ⟨h1, h2, h3⟩ := h
  refine ⟨h1, by rw [e 449 _ (by decide)]; exact h2, fun st s1 s2 => ?_⟩
  rw [e 449 _ (by decide)] at s2
  obtain ⟨r1, r2, r3, r4⟩ := h3 st s1 s2
  rw [e 453 _ (by decide), e 452 _ (by decide)]
  refine ⟨r1, r2, r3, fun k k1 k2 => ?_⟩
  obtain ⟨g1, g2, g3, g4, g5, g6, g7, g8, g9, g10, g11, g12, g13⟩ := r4 k k1 k2
  unfold mRelF
  rw [b]
  simp only [e 453 _ (by decide), e 456 _ (by decide), e 457 _ (by decide), e 458 _ (by decide), e 459 _ (by decide), e 460 _ (by decide), e 461 _ (by decide), e 462 _ (by decide), e 463 _ (by decide), e 464 _ (by decide), e 465 _ (by decide), e 466 _ (by decide), e 467 _ (by decide), e 468 _ (by decide)]
  exact ⟨g1, g2, g3, g4, g5, g6, g7, g8, fun z => ⟨(g9 z).1, (g9 z).2.1, S (g9 z).2.2⟩, fun z => ⟨(g10 z).1, (g10 z).2.1, S (g10 z).2.2⟩, g11, g12, g13⟩
theorem aX (ok : aOK A) : pa_X (A.1 0) (A.1 1 0) := ⟨ok.1.1, ok.1.2⟩
/-- the tables for one more template -/
theorem C130 (h : cR A s) (ok : aOK A) (h4 : A.1 522 0 < 4) : ∃ w, zf_130 0 s = zi (A.1 522 0 + 1) w ∧ (∀ (f n : Nat) (i : Int), ¬ (448 ≤ f ∧ f < 512 ∧ (n : Int) = A.1 522 0 ∨ f = 515) → w.1 f n i = s.1 f n i) ∧ (∀ k : Int, 0 ≤ k → k < 4 → w.1 515 0 k = if k < A.1 522 0 + 1 then k + 1 else 0) ∧ (w.2.1 : Int) = A.1 522 0 + 1 ∧ w.2.2 = s.2.2 := by
  obtain ⟨h1, h2, h3, h5, ⟨h6, h7, h8⟩, h9, h10⟩ := h
  have o := ok.2.2.2.2.1
  unfold zf_130
  rw [h6, if_pos h4, zn_ok (by omega), h9 _ o.1 h4]
  rcases h7 with h7 | h7
  · rw [if_neg (show ¬ A.1 522 0 < (s.2.1 : Int) by omega), if_pos rfl, if_pos (show s.2.1 < 4 by omega), zW_ok (by omega)]
    unfold zf_130_38
    have e22 : (zp 515 0 (A.1 522 0) ((s.2.1 : Int) + 1) (zmk s)).1 522 0 0 = A.1 522 0 := by
      rw [zp_nk (by decide)]
      unfold zmk
      dsimp only
      rw [if_neg (by omega)]
      exact h6
    rw [e22, zn_ok (by omega), zp_eq, ← h7]
    refine ⟨_, rfl, fun f n i hn => ?_, fun k k1 k2 => ?_, ?_, rfl⟩
    · rw [zp_nk (by omega)]
      unfold zmk
      dsimp only
      rw [if_neg (by omega)]
    · by_cases c : k = A.1 522 0
      · rw [c, zp_eq, if_pos (by omega)]
      · rw [zp_ni c]
        unfold zmk
        dsimp only
        rw [if_neg (by omega), h9 k k1 k2]
        by_cases d : k < (s.2.1 : Int)
        · rw [if_pos d, if_pos (by omega)]
        · rw [if_neg d, if_neg (by omega)]
    · show ((s.2.1 + 1 : Nat) : Int) = _
      omega
  · rw [if_pos (show A.1 522 0 < (s.2.1 : Int) by omega), if_neg (by omega)]
    unfold zf_130_38
    rw [h6, zn_ok (by omega), h9 _ o.1 h4, if_pos (show A.1 522 0 < (s.2.1 : Int) by omega)]
    refine ⟨s, rfl, fun _ _ _ _ => rfl, fun k k1 k2 => ?_, h7.symm, rfl⟩
    rw [h9 k k1 k2, h7]
theorem C107 (h : cR A s) (ok : aOK A) (c : cC A s) : ∃ T, cOut (zf_107 0 x s) (sTemplate T x A).1 (sTemplate T x A).2 s := by
  obtain ⟨h1, h2, h3, h4, h5, h6, h7⟩ := id h
  obtain ⟨o1, o2, o3, o4, o5, o6⟩ := id ok
  have thr : cOut (zt 0 s) (.inr 0) A s := cThr h c
  unfold zf_107
  by_cases c1 : 0 ≤ x ∧ x ≤ 9
  · rw [if_neg (show ¬ x < 0 by omega), if_pos c1.2]
    by_cases c4 : A.1 522 0 = 4
    · refine ⟨fun _ _ => 0, ?_⟩
      unfold sTemplate zf_130
      rw [if_pos c1, if_pos c4, h5.1, if_neg (show ¬ A.1 522 0 < 4 by omega), zC_zi]
      unfold zIf zf_107_49
      rw [if_pos rfl, zP_ok, if_pos rfl]
      have e : ∀ (f' n' : Nat) (i' : Int), f' ≠ 1 → (zp 1 0 0 0 s).1 f' n' i' = s.1 f' n' i' := fun f' n' i' f1 => zp_nk f1
      refine ⟨_, rfl, ⟨⟨show (zp 1 0 0 0 s).1 1 0 0 = 0 from zp_eq, fun i i1 i2 => absurd i2 (Int.not_lt.mpr i1)⟩, ⟨(show (zp 1 0 0 0 s).1 1 1 0 = s.1 1 1 0 from zp_n3 (by decide)).trans h2.1, fun i i1 i2 => (e 0 1 i (by decide)).trans (h2.2 i i1 i2)⟩, ⟨(e 387 0 0 (by decide)).trans h3.1, fun j j1 j2 => ?_⟩, (e 388 0 0 (by decide)).trans h4, ⟨(e 522 0 0 (by decide)).trans h5.1, h5.2⟩, fun k k1 k2 => (e 515 0 k (by decide)).trans (h6 k k1 k2), fun k k2 f i f1 f2 => (e f k i (by omega)).trans (h7 k k2 f i f1 f2)⟩, c.c rfl rfl rfl rfl fun f i hf => zp_nk (f := 1) (by omega), fun f n i f1 f2 => zp_nk (f := 1) (by omega), Nat.le_refl _⟩
      obtain ⟨g1, g2, g3⟩ := h3.2 j j1 j2
      exact ⟨(e 385 0 j (by decide)).trans g1, (e 386 0 j (by decide)).trans g2, fun i i1 i2 => (e 384 0 _ (by decide)).trans (g3 i i1 i2)⟩
    · obtain ⟨w, a1, a2, a3, a4, a5⟩ := C130 h ok (by omega)
      obtain ⟨q, hq⟩ : ∃ q : Nat, (q : Int) = A.1 522 0 := ⟨(A.1 522 0).toNat, by omega⟩
      refine ⟨fun f i => w.1 f q i, ?_⟩
      unfold sTemplate
      rw [if_pos c1, if_neg c4, a1, zC_zi]
      unfold zIf
      rw [if_neg (by omega), zO_ok (q := q) (by omega) (by omega)]
      obtain ⟨v, u, b1, b2⟩ := pa36 (s := w) (q := q) (aX ok) (by omega) ((a2 1 0 0 (by omega)).trans h1.1) (fun i i1 i2 => (a2 0 0 i (by omega)).trans (h1.2 i i1 i2))
      rw [b1, show ∀ K : Int → zS → zR, zC (some (.inl v, u)) K = K v u from fun K => rfl]
      unfold zf_107_49
      -- the state behind the parser
      have com : pa_fr q w u → (∀ (f n : Nat) (i : Int), ¬ (n = 0 ∧ (256 ≤ f ∧ f < 262) ∨ n = q ∧ (448 ≤ f ∧ f < 512) ∨ f = 515) → u.1 f n i = s.1 f n i) ∧ (∀ k : Int, 0 ≤ k → k < 4 → u.1 515 0 k = if k < A.1 522 0 + 1 then k + 1 else 0) ∧ u.2.1 = q + 1 ∧ u.2.2 = s.2.2 := fun F => by
        refine ⟨fun f n i hn => (F.1 f n i (by omega)).trans (a2 f n i (by omega)), fun k k1 k2 => (F.1 515 0 k (by omega)).trans (a3 k k1 k2), by rw [F.2]; omega, by rw [F.2]; exact a5⟩
      revert b2
      cases e : pa_all (pa_sg (A.1 0) (A.1 1 0)) (fun f i => w.1 f q i) with
      | none =>
        intro b2
        obtain ⟨v0, F⟩ := b2
        obtain ⟨k1, k2, k3, k4⟩ := com F
        rw [if_pos v0, zP_ok, if_pos rfl]
        have e : ∀ (f' n' : Nat) (i' : Int), f' ≠ 1 → (zp 1 0 0 0 u).1 f' n' i' = u.1 f' n' i' := fun f' n' i' f1 => zp_nk f1
        refine ⟨_, rfl, ⟨⟨show (zp 1 0 0 0 u).1 1 0 0 = 0 from zp_eq, fun i i1 i2 => absurd i2 (Int.not_lt.mpr i1)⟩, ⟨(show (zp 1 0 0 0 u).1 1 1 0 = u.1 1 1 0 from zp_n3 (by decide)).trans ((k1 1 1 0 (by omega)).trans h2.1), fun i i1 i2 => (e 0 1 i (by decide)).trans ((k1 0 1 i (by omega)).trans (h2.2 i i1 i2))⟩, ⟨(e 387 0 0 (by decide)).trans ((k1 387 0 0 (by omega)).trans h3.1), fun j j1 j2 => ?_⟩, (e 388 0 0 (by decide)).trans ((k1 388 0 0 (by omega)).trans h4), ⟨(e 522 0 0 (by decide)).trans ((k1 522 0 0 (by omega)).trans h5.1), ?_⟩, fun k l1 l2 => (e 515 0 k (by decide)).trans ?_, fun k l2 f i f1 f2 => (e f k i (by omega)).trans ((k1 f k i ?_).trans (h7 k l2 f i f1 f2))⟩, c.c rfl rfl rfl rfl fun f i hf => (zp_nk (f := 1) (by omega)).trans (k1 f 0 i (by omega)), fun f n i f1 f2 => (zp_nk (f := 1) (by omega)).trans (k1 f n i (by omega)), ?_⟩
        · obtain ⟨g1, g2, g3⟩ := h3.2 j j1 j2
          exact ⟨(e 385 0 j (by decide)).trans ((k1 385 0 j (by omega)).trans g1), (e 386 0 j (by decide)).trans ((k1 386 0 j (by omega)).trans g2), fun i i1 i2 => (e 384 0 _ (by decide)).trans ((k1 384 0 _ (by omega)).trans (g3 i i1 i2))⟩
        · show (A.1 522 0 = ((zp 1 0 0 0 u).2.1 : Int) ∨ A.1 522 0 + 1 = ((zp 1 0 0 0 u).2.1 : Int)) ∧ (zp 1 0 0 0 u).2.1 ≤ 4
          rw [show (zp 1 0 0 0 u).2.1 = q + 1 from k3]
          omega
        · show u.1 515 0 k = if k < ((zp 1 0 0 0 u).2.1 : Int) then k + 1 else 0
          rw [show (zp 1 0 0 0 u).2.1 = q + 1 from k3, k2 k l1 l2, ← hq]
          rfl
        · have l2 : (k : Int) < A.1 522 0 := l2
          omega
        · show u.2.2 + 1 ≤ s.2.2 + 1
          omega
      | some U =>
        intro b2
        obtain ⟨v1, F, bU⟩ := b2
        obtain ⟨k1, k2, k3, k4⟩ := com F
        rw [if_neg (by omega), zP_ok, if_neg (by decide), zO_ok (s := zp 1 0 0 0 u) (q := q) (by omega) (by rw [show (zp 1 0 0 0 u).2.1 = q + 1 from k3]; omega), zP_ok, zP_ok]
        have e : ∀ (f' n' : Nat) (i' : Int), f' ≠ 1 → f' ≠ 523 → ¬ (f' = 448 ∧ n' = q ∧ i' = 0) → (zp 523 0 0 (-3) (zp 448 q 0 x (zp 1 0 0 0 u))).1 f' n' i' = u.1 f' n' i' := fun f' n' i' f1 f2 f3 => by
          rw [zp_nk f2, zp_n3 f3, zp_nk f1]
        have e22 : (zp 523 0 0 (-3) (zp 448 q 0 x (zp 1 0 0 0 u))).1 522 0 0 = A.1 522 0 := (e 522 0 0 (by decide) (by decide) (by omega)).trans ((k1 522 0 0 (by omega)).trans h5.1)
        rw [e22, zg_ok ⟨by omega, by omega⟩, zP_ok, show (zp 522 0 0 (A.1 522 0 + 1) (zp 523 0 0 (-3) (zp 448 q 0 x (zp 1 0 0 0 u)))).1 522 0 0 = A.1 522 0 + 1 from zp_eq, zg_ok ⟨by omega, by omega⟩, show A.1 522 0 + 1 - 1 = A.1 522 0 by omega]
        have e2 : ∀ (f' n' : Nat) (i' : Int), f' ≠ 1 → f' ≠ 523 → f' ≠ 522 → ¬ (f' = 448 ∧ n' = q ∧ i' = 0) → (zp 522 0 0 (A.1 522 0 + 1) (zp 523 0 0 (-3) (zp 448 q 0 x (zp 1 0 0 0 u)))).1 f' n' i' = u.1 f' n' i' := fun f' n' i' f1 f2 f3 f4 => (zp_nk f3).trans (e f' n' i' f1 f2 f4)
        have e3 : (zp 522 0 0 (A.1 522 0 + 1) (zp 523 0 0 (-3) (zp 448 q 0 x (zp 1 0 0 0 u)))).2 = u.2 := rfl
        have e11 : (zp 522 0 0 (A.1 522 0 + 1) (zp 523 0 0 (-3) (zp 448 q 0 x (zp 1 0 0 0 u)))).1 1 0 0 = 0 := by
          rw [zp_nk (by decide), zp_nk (by decide), zp_nk (by decide), zp_eq]
        have e12 : (zp 522 0 0 (A.1 522 0 + 1) (zp 523 0 0 (-3) (zp 448 q 0 x (zp 1 0 0 0 u)))).1 1 1 0 = A.1 3 0 := by
          rw [zp_nk (by decide), zp_nk (by decide), zp_nk (by decide), zp_n3 (by decide), k1 1 1 0 (by omega)]
          exact h2.1
        have e48 : (zp 522 0 0 (A.1 522 0 + 1) (zp 523 0 0 (-3) (zp 448 q 0 x (zp 1 0 0 0 u)))).1 448 q 0 = x := by
          rw [zp_nk (by decide), zp_nk (by decide), zp_eq]
        have e522 : (zp 522 0 0 (A.1 522 0 + 1) (zp 523 0 0 (-3) (zp 448 q 0 x (zp 1 0 0 0 u)))).1 522 0 0 = A.1 522 0 + 1 := zp_eq
        have e523 : (zp 522 0 0 (A.1 522 0 + 1) (zp 523 0 0 (-3) (zp 448 q 0 x (zp 1 0 0 0 u)))).1 523 0 0 = -3 := (zp_nk (by decide)).trans zp_eq
        generalize zp 522 0 0 (A.1 522 0 + 1) (zp 523 0 0 (-3) (zp 448 q 0 x (zp 1 0 0 0 u))) = z at e2 e3 e11 e12 e48 e522 e523 ⊢
        refine ⟨z, rfl, ⟨⟨e11, fun i i1 i2 => absurd i2 (Int.not_lt.mpr i1)⟩, ⟨e12, fun i i1 i2 => (e2 0 1 i (by decide) (by decide) (by decide) (by omega)).trans ((k1 0 1 i (by omega)).trans (h2.2 i i1 i2))⟩, ⟨(e2 387 0 0 (by decide) (by decide) (by decide) (by omega)).trans ((k1 387 0 0 (by omega)).trans h3.1), fun j j1 j2 => ?_⟩, (e2 388 0 0 (by decide) (by decide) (by decide) (by omega)).trans ((k1 388 0 0 (by omega)).trans h4), ⟨e522, ?_⟩, fun k l1 l2 => ?_, fun k l2 f i f1 f2 => ?_⟩, Or.inl e523, fun f n i f1 f2 => (e2 f n i (by omega) (by omega) (by omega) (by omega)).trans (k1 f n i (by omega)), by rw [e3, k4]; omega⟩
        · obtain ⟨g1, g2, g3⟩ := h3.2 j j1 j2
          exact ⟨(e2 385 0 j (by decide) (by decide) (by decide) (by omega)).trans ((k1 385 0 j (by omega)).trans g1), (e2 386 0 j (by decide) (by decide) (by decide) (by omega)).trans ((k1 386 0 j (by omega)).trans g2), fun i i1 i2 => (e2 384 0 _ (by decide) (by decide) (by decide) (by omega)).trans ((k1 384 0 _ (by omega)).trans (g3 i i1 i2))⟩
        · rw [e3, k3]
          show (A.1 522 0 + 1 = ((q + 1 : Nat) : Int) ∨ A.1 522 0 + 1 + 1 = ((q + 1 : Nat) : Int)) ∧ q + 1 ≤ 4
          omega
        · rw [e3, k3, e2 515 0 k (by decide) (by decide) (by decide) (by omega), k2 k l1 l2, ← hq]
          rfl
        · have l2 : (k : Int) < A.1 522 0 + 1 := l2
          show z.1 f k i = (if (k : Int) = A.1 522 0 then pa_w 448 0 x U else A.2 k) f i
          by_cases d : (k : Int) = A.1 522 0
          · have dq : k = q := by omega
            subst dq
            rw [if_pos d]
            by_cases d2 : f = 448 ∧ i = 0
            · rw [d2.1, d2.2, e48, pa_w_eq]
            · rw [e2 f k i (by omega) (by omega) (by omega) (by omega), bU f i f1 f2]
              unfold pa_w
              rw [if_neg d2]
          · rw [if_neg d, e2 f k i (by omega) (by omega) (by omega) (by omega), k1 f k i (by omega)]
            exact h7 k (by omega) f i f1 f2
  · refine ⟨fun _ _ => 0, ?_⟩
    unfold sTemplate
    rw [if_neg c1]
    by_cases c2 : x < 0
    · rw [if_pos c2]
      exact thr
    · rw [if_neg c2, if_neg (show ¬ x ≤ 9 by omega)]
      exact thr
end
