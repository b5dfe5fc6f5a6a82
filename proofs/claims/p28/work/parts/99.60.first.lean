/-! the first template of an object: its tables are 0 before the parser writes them (made by wip/p28/gen_parse.py out of parts 70 and 99.09) -/
section
variable {q : Nat} {X : Int → Int} {n p st b : Int} {T : yT} {s : zS}
theorem pa36z (hX : pa_X X n) (hq : q < s.2.1) (hn : s.1 1 0 0 = n) (hb : ∀ i, 0 ≤ i → i < n → s.1 0 0 i = X i) (hZ : ∀ (f : Nat) (i : Int), 448 ≤ f → f < 469 → s.1 f q i = 0) : zw (zf_36 0 0 (q + 1) s) (pa_QF q s (pa_all (pa_sg X n) fun _ _ => 0)) := by
  have hX1 := hX.1
  unfold zf_36 zf_37
  rw [zP_ok, zP_ok, show (zp 257 0 0 ((q : Int) + 1) (zp 256 0 0 (((0 : Nat) : Int) + 1) s)).1 257 0 0 = (q : Int) + 1 from zp_eq, zO_ok (s := zp 257 0 0 ((q : Int) + 1) (zp 256 0 0 (((0 : Nat) : Int) + 1) s)) (q := q) rfl hq]
  unfold zf_96
  rw [zP_ok, zP_ok, zP_ok, zC_zi, zP_ok, zP_ok]
  have e : ∀ (f m : Nat) (i : Int), f < 256 ∨ f = 260 → (zp 258 0 0 (-1) (zp 261 0 0 0 (zp 451 q 0 0 (zp 450 q 0 0 (zp 449 q 0 0 (zp 257 0 0 ((q : Int) + 1) (zp 256 0 0 (((0 : Nat) : Int) + 1) s))))))).1 f m i = s.1 f m i := fun f m i hf => by
    rw [zp_nk (by omega), zp_nk (by omega), zp_nk (by omega), zp_nk (by omega), zp_nk (by omega), zp_nk (by omega), zp_nk (by omega)]
  have e256 : (zp 258 0 0 (-1) (zp 261 0 0 0 (zp 451 q 0 0 (zp 450 q 0 0 (zp 449 q 0 0 (zp 257 0 0 ((q : Int) + 1) (zp 256 0 0 (((0 : Nat) : Int) + 1) s))))))).1 256 0 0 = 1 := by
    rw [zp_nk (by decide), zp_nk (by decide), zp_nk (by decide), zp_nk (by decide), zp_nk (by decide), zp_nk (by decide), zp_eq]
    rfl
  have e257 : (zp 258 0 0 (-1) (zp 261 0 0 0 (zp 451 q 0 0 (zp 450 q 0 0 (zp 449 q 0 0 (zp 257 0 0 ((q : Int) + 1) (zp 256 0 0 (((0 : Nat) : Int) + 1) s))))))).1 257 0 0 = (q : Int) + 1 := by
    rw [zp_nk (by decide), zp_nk (by decide), zp_nk (by decide), zp_nk (by decide), zp_nk (by decide), zp_eq]
  have e261 : (zp 258 0 0 (-1) (zp 261 0 0 0 (zp 451 q 0 0 (zp 450 q 0 0 (zp 449 q 0 0 (zp 257 0 0 ((q : Int) + 1) (zp 256 0 0 (((0 : Nat) : Int) + 1) s))))))).1 261 0 0 = 0 := by
    rw [zp_nk (by decide), zp_eq]
  have eT : ∀ (f : Nat) (i : Int), 448 ≤ f → f < 469 → (zp 258 0 0 (-1) (zp 261 0 0 0 (zp 451 q 0 0 (zp 450 q 0 0 (zp 449 q 0 0 (zp 257 0 0 ((q : Int) + 1) (zp 256 0 0 (((0 : Nat) : Int) + 1) s))))))).1 f q i = pa_w 451 0 0 (pa_w 450 0 0 (pa_w 449 0 0 fun _ _ => 0)) f i := fun f i f1 f2 => by
    rw [zp_nk (by omega), zp_nk (by omega)]
    unfold pa_w
    rw [zp_1]
    by_cases c1 : f = 451 ∧ i = 0
    · rw [if_pos ⟨c1.1, rfl, c1.2⟩, if_pos c1]
    · rw [if_neg (fun z => c1 ⟨z.1, z.2.2⟩), if_neg c1, zp_1]
      by_cases c2 : f = 450 ∧ i = 0
      · rw [if_pos ⟨c2.1, rfl, c2.2⟩, if_pos c2]
      · rw [if_neg (fun z => c2 ⟨z.1, z.2.2⟩), if_neg c2, zp_1]
        by_cases c3 : f = 449 ∧ i = 0
        · rw [if_pos ⟨c3.1, rfl, c3.2⟩, if_pos c3]
        · rw [if_neg (fun z => c3 ⟨z.1, z.2.2⟩), if_neg c3, zp_nk (by omega), zp_nk (by omega)]
          exact hZ f i f1 f2
  have e258 : (zp 258 0 0 (-1) (zp 261 0 0 0 (zp 451 q 0 0 (zp 450 q 0 0 (zp 449 q 0 0 (zp 257 0 0 ((q : Int) + 1) (zp 256 0 0 (((0 : Nat) : Int) + 1) s))))))).1 258 0 0 = -1 := zp_eq
  have F : pa_fr q s (zp 258 0 0 (-1) (zp 261 0 0 0 (zp 451 q 0 0 (zp 450 q 0 0 (zp 449 q 0 0 (zp 257 0 0 ((q : Int) + 1) (zp 256 0 0 (((0 : Nat) : Int) + 1) s))))))) := ((((((pa_fr.rf.pw (by decide)).pw (by decide)).qw (by decide)).qw (by decide)).qw (by decide)).pw (by decide)).pw (by decide)
  have q2 : q < (zp 258 0 0 (-1) (zp 261 0 0 0 (zp 451 q 0 0 (zp 450 q 0 0 (zp 449 q 0 0 (zp 257 0 0 ((q : Int) + 1) (zp 256 0 0 (((0 : Nat) : Int) + 1) s))))))).2.1 := hq
  generalize zp 258 0 0 (-1) (zp 261 0 0 0 (zp 451 q 0 0 (zp 450 q 0 0 (zp 449 q 0 0 (zp 257 0 0 ((q : Int) + 1) (zp 256 0 0 (((0 : Nat) : Int) + 1) s)))))) = t at e e256 e257 e261 eT e258 F q2
  have h1 : t.1 1 0 0 = n := (e 1 0 0 (by decide)).trans hn
  have h0 : ∀ i, 0 ≤ i → i < n → t.1 0 0 i = X i := fun i i1 i2 => (e 0 0 i (by decide)).trans (hb i i1 i2)
  rw [pa_adv0 e256 e258 h1 h0 (by decide) hX1.2, zC_zi, zC_zi]
  have w : ∀ (f m : Nat) (i : Int), f ≠ 258 → f ≠ 259 → (pa_nx X n (-1) t).1 f m i = t.1 f m i := fun f m i f1 f2 => by
    unfold pa_nx
    rw [zp_nk f2, zp_nk f1]
  have hA : pa_at q X n (pa_w 451 0 0 (pa_w 450 0 0 (pa_w 449 0 0 fun _ _ => 0))) 0 (t.1 260 0 0) 0 (pa_nx X n (-1) t) := by
    refine ⟨(w _ _ _ (by decide) (by decide)).trans e256, ⟨(w _ _ _ (by decide) (by decide)).trans e257, q2⟩, ?_, zp_eq, w _ _ _ (by decide) (by decide), (w _ _ _ (by decide) (by decide)).trans e261, fun f i f1 f2 => (w _ _ _ (by omega) (by omega)).trans (eT f i f1 f2), (w _ _ _ (by decide) (by decide)).trans h1, fun i i1 i2 => (w _ _ _ (by decide) (by decide)).trans (h0 i i1 i2)⟩
    unfold pa_nx
    rw [zp_nk (by decide), zp_eq]
    rfl
  have e449 : pa_w 451 0 0 (pa_w 450 0 0 (pa_w 449 0 0 fun _ _ => 0)) 449 0 = 0 := rfl
  exact (pa36_8 hX 6 xfu 0 _ _ 0 _ (pa_fu (by decide)) (by decide) (by decide) (by decide) e449 hA ⟨⟨by rw [e449]; decide, by rw [e449]; decide⟩, ⟨Int.le_refl _, show (0 : Int) ≤ 100 by decide⟩, ⟨Int.le_refl _, show (0 : Int) ≤ 100 by decide⟩⟩ (by omega)).mono fun v u g => pa_QF.fr g F.nx
end
section
variable {A : aA} {s u : zS} {x t : Int} {T U : yT}
theorem C130z (h : cR A s) (ok : aOK A) (h0 : s.2.1 = 0) : ∃ w, zf_130 0 s = zi (A.1 522 0 + 1) w ∧ A.1 522 0 = 0 ∧ (∀ (f n : Nat) (i : Int), ¬ (448 ≤ f ∧ f < 512 ∧ (n : Int) = A.1 522 0 ∨ f = 515) → w.1 f n i = s.1 f n i) ∧ (∀ k : Int, 0 ≤ k → k < 4 → w.1 515 0 k = if k < A.1 522 0 + 1 then k + 1 else 0) ∧ (w.2.1 : Int) = A.1 522 0 + 1 ∧ w.2.2 = s.2.2 ∧ ∀ (f : Nat) (i : Int), 448 ≤ f → f < 469 → w.1 f 0 i = 0 := by
  obtain ⟨h1, h2, h3, h5, ⟨h6, h7, h8⟩, h9, h10⟩ := h
  have o := ok.2.2.2.2.1
  have h4 : A.1 522 0 < 4 := by omega
  unfold zf_130
  rw [h6, if_pos h4, zn_ok (by omega), h9 _ o.1 h4]
  rcases h7 with h7 | h7
  · rw [if_neg (show ¬ A.1 522 0 < (s.2.1 : Int) by omega), if_pos rfl, if_pos (show s.2.1 < 4 by omega), zW_ok (by omega)]
    unfold zf_130_38
    have e22 : (zp 515 0 (A.1 522 0) ((s.2.1 : Int) + 1) (zmk s)).1 522 0 0 = A.1 522 0 := by
      rw [zp_nk (by decide)]
      unfold zmk
      dsimp only
      rw [if_neg (by omega)]
      exact h6
    rw [e22, zn_ok (by omega), zp_eq, ← h7]
    refine ⟨_, rfl, by omega, fun f n i hn => ?_, fun k k1 k2 => ?_, ?_, rfl, fun f i f1 f2 => ?_⟩
    · rw [zp_nk (by omega)]
      unfold zmk
      dsimp only
      rw [if_neg (by omega)]
    · by_cases c : k = A.1 522 0
      · rw [c, zp_eq, if_pos (by omega)]
      · rw [zp_ni c]
        unfold zmk
        dsimp only
        rw [if_neg (by omega), h9 k k1 k2]
        by_cases d : k < (s.2.1 : Int)
        · rw [if_pos d, if_pos (by omega)]
        · rw [if_neg d, if_neg (by omega)]
    · show ((s.2.1 + 1 : Nat) : Int) = _
      omega
    · rw [zp_nk (by omega)]
      unfold zmk
      dsimp only
      rw [if_pos ⟨by omega, by omega⟩]
  · omega
theorem C107z (h : cR A s) (ok : aOK A) (c : cC A s) (h0 : s.2.1 = 0) : cOut (zf_107 0 x s) (sTemplate (fun _ _ => 0) x A).1 (sTemplate (fun _ _ => 0) x A).2 s := by
  obtain ⟨h1, h2, h3, h4, h5, h6, h7⟩ := id h
  obtain ⟨o1, o2, o3, o4, o5, o6⟩ := id ok
  have thr : cOut (zt 0 s) (.inr 0) A s := cThr h c
  unfold zf_107
  by_cases c1 : 0 ≤ x ∧ x ≤ 9
  · rw [if_neg (show ¬ x < 0 by omega), if_pos c1.2]
    by_cases c4 : A.1 522 0 = 4
    · unfold sTemplate zf_130
      rw [if_pos c1, if_pos c4, h5.1, if_neg (show ¬ A.1 522 0 < 4 by omega), zC_zi]
      unfold zIf zf_107_49
      rw [if_pos rfl, zP_ok, if_pos rfl]
      have e : ∀ (f' n' : Nat) (i' : Int), f' ≠ 1 → (zp 1 0 0 0 s).1 f' n' i' = s.1 f' n' i' := fun f' n' i' f1 => zp_nk f1
      refine ⟨_, rfl, ⟨⟨show (zp 1 0 0 0 s).1 1 0 0 = 0 from zp_eq, fun i i1 i2 => absurd i2 (Int.not_lt.mpr i1)⟩, ⟨(show (zp 1 0 0 0 s).1 1 1 0 = s.1 1 1 0 from zp_n3 (by decide)).trans h2.1, fun i i1 i2 => (e 0 1 i (by decide)).trans (h2.2 i i1 i2)⟩, ⟨(e 387 0 0 (by decide)).trans h3.1, fun j j1 j2 => ?_⟩, (e 388 0 0 (by decide)).trans h4, ⟨(e 522 0 0 (by decide)).trans h5.1, h5.2⟩, fun k k1 k2 => (e 515 0 k (by decide)).trans (h6 k k1 k2), fun k k2 f i f1 f2 => (e f k i (by omega)).trans (h7 k k2 f i f1 f2)⟩, c.c rfl rfl rfl rfl fun f i hf => zp_nk (f := 1) (by omega), fun f n i f1 f2 => zp_nk (f := 1) (by omega), Nat.le_refl _⟩
      obtain ⟨g1, g2, g3⟩ := h3.2 j j1 j2
      exact ⟨(e 385 0 j (by decide)).trans g1, (e 386 0 j (by decide)).trans g2, fun i i1 i2 => (e 384 0 _ (by decide)).trans (g3 i i1 i2)⟩
    · obtain ⟨w, a1, a0, a2, a3, a4, a5, a6⟩ := C130z h ok h0
      obtain ⟨q, hq⟩ : ∃ q : Nat, (q : Int) = A.1 522 0 := ⟨(A.1 522 0).toNat, by omega⟩
      unfold sTemplate
      rw [if_pos c1, if_neg c4, a1, zC_zi]
      unfold zIf
      rw [if_neg (by omega), zO_ok (q := q) (by omega) (by omega)]
      obtain ⟨v, u, b1, b2⟩ := pa36z (s := w) (q := q) (aX ok) (by omega) ((a2 1 0 0 (by omega)).trans h1.1) (fun i i1 i2 => (a2 0 0 i (by omega)).trans (h1.2 i i1 i2)) (fun f i f1 f2 => by rw [show q = 0 by omega]; exact a6 f i f1 f2)
      rw [b1, show ∀ K : Int → zS → zR, zC (some (.inl v, u)) K = K v u from fun K => rfl]
      unfold zf_107_49
      -- the state behind the parser
      have com : pa_fr q w u → (∀ (f n : Nat) (i : Int), ¬ (n = 0 ∧ (256 ≤ f ∧ f < 262) ∨ n = q ∧ (448 ≤ f ∧ f < 512) ∨ f = 515) → u.1 f n i = s.1 f n i) ∧ (∀ k : Int, 0 ≤ k → k < 4 → u.1 515 0 k = if k < A.1 522 0 + 1 then k + 1 else 0) ∧ u.2.1 = q + 1 ∧ u.2.2 = s.2.2 := fun F => by
        refine ⟨fun f n i hn => (F.1 f n i (by omega)).trans (a2 f n i (by omega)), fun k k1 k2 => (F.1 515 0 k (by omega)).trans (a3 k k1 k2), by rw [F.2]; omega, by rw [F.2]; exact a5⟩
      revert b2
      cases e : pa_all (pa_sg (A.1 0) (A.1 1 0)) (fun _ _ => 0) with
      | none =>
        intro b2
        obtain ⟨v0, F⟩ := b2
        obtain ⟨k1, k2, k3, k4⟩ := com F
        rw [if_pos v0, zP_ok, if_pos rfl]
        have e : ∀ (f' n' : Nat) (i' : Int), f' ≠ 1 → (zp 1 0 0 0 u).1 f' n' i' = u.1 f' n' i' := fun f' n' i' f1 => zp_nk f1
        refine ⟨_, rfl, ⟨⟨show (zp 1 0 0 0 u).1 1 0 0 = 0 from zp_eq, fun i i1 i2 => absurd i2 (Int.not_lt.mpr i1)⟩, ⟨(show (zp 1 0 0 0 u).1 1 1 0 = u.1 1 1 0 from zp_n3 (by decide)).trans ((k1 1 1 0 (by omega)).trans h2.1), fun i i1 i2 => (e 0 1 i (by decide)).trans ((k1 0 1 i (by omega)).trans (h2.2 i i1 i2))⟩, ⟨(e 387 0 0 (by decide)).trans ((k1 387 0 0 (by omega)).trans h3.1), fun j j1 j2 => ?_⟩, (e 388 0 0 (by decide)).trans ((k1 388 0 0 (by omega)).trans h4), ⟨(e 522 0 0 (by decide)).trans ((k1 522 0 0 (by omega)).trans h5.1), ?_⟩, fun k l1 l2 => (e 515 0 k (by decide)).trans ?_, fun k l2 f i f1 f2 => (e f k i (by omega)).trans ((k1 f k i ?_).trans (h7 k l2 f i f1 f2))⟩, c.c rfl rfl rfl rfl fun f i hf => (zp_nk (f := 1) (by omega)).trans (k1 f 0 i (by omega)), fun f n i f1 f2 => (zp_nk (f := 1) (by omega)).trans (k1 f n i (by omega)), ?_⟩
        · obtain ⟨g1, g2, g3⟩ := h3.2 j j1 j2
          exact ⟨(e 385 0 j (by decide)).trans ((k1 385 0 j (by omega)).trans g1), (e 386 0 j (by decide)).trans ((k1 386 0 j (by omega)).trans g2), fun i i1 i2 => (e 384 0 _ (by decide)).trans ((k1 384 0 _ (by omega)).trans (g3 i i1 i2))⟩
        · show (A.1 522 0 = ((zp 1 0 0 0 u).2.1 : Int) ∨ A.1 522 0 + 1 = ((zp 1 0 0 0 u).2.1 : Int)) ∧ (zp 1 0 0 0 u).2.1 ≤ 4
          rw [show (zp 1 0 0 0 u).2.1 = q + 1 from k3]
          omega
        · show u.1 515 0 k = if k < ((zp 1 0 0 0 u).2.1 : Int) then k + 1 else 0
          rw [show (zp 1 0 0 0 u).2.1 = q + 1 from k3, k2 k l1 l2, ← hq]
          rfl
        · have l2 : (k : Int) < A.1 522 0 := l2
          omega
        · show u.2.2 + 1 ≤ s.2.2 + 1
          omega
      | some U =>
        intro b2
        obtain ⟨v1, F, bU⟩ := b2
        obtain ⟨k1, k2, k3, k4⟩ := com F
        rw [if_neg (by omega), zP_ok, if_neg (by decide), zO_ok (s := zp 1 0 0 0 u) (q := q) (by omega) (by rw [show (zp 1 0 0 0 u).2.1 = q + 1 from k3]; omega), zP_ok, zP_ok]
        have e : ∀ (f' n' : Nat) (i' : Int), f' ≠ 1 → f' ≠ 523 → ¬ (f' = 448 ∧ n' = q ∧ i' = 0) → (zp 523 0 0 (-3) (zp 448 q 0 x (zp 1 0 0 0 u))).1 f' n' i' = u.1 f' n' i' := fun f' n' i' f1 f2 f3 => by
          rw [zp_nk f2, zp_n3 f3, zp_nk f1]
        have e22 : (zp 523 0 0 (-3) (zp 448 q 0 x (zp 1 0 0 0 u))).1 522 0 0 = A.1 522 0 := (e 522 0 0 (by decide) (by decide) (by omega)).trans ((k1 522 0 0 (by omega)).trans h5.1)
        rw [e22, zg_ok ⟨by omega, by omega⟩, zP_ok, show (zp 522 0 0 (A.1 522 0 + 1) (zp 523 0 0 (-3) (zp 448 q 0 x (zp 1 0 0 0 u)))).1 522 0 0 = A.1 522 0 + 1 from zp_eq, zg_ok ⟨by omega, by omega⟩, show A.1 522 0 + 1 - 1 = A.1 522 0 by omega]
        have e2 : ∀ (f' n' : Nat) (i' : Int), f' ≠ 1 → f' ≠ 523 → f' ≠ 522 → ¬ (f' = 448 ∧ n' = q ∧ i' = 0) → (zp 522 0 0 (A.1 522 0 + 1) (zp 523 0 0 (-3) (zp 448 q 0 x (zp 1 0 0 0 u)))).1 f' n' i' = u.1 f' n' i' := fun f' n' i' f1 f2 f3 f4 => (zp_nk f3).trans (e f' n' i' f1 f2 f4)
        have e3 : (zp 522 0 0 (A.1 522 0 + 1) (zp 523 0 0 (-3) (zp 448 q 0 x (zp 1 0 0 0 u)))).2 = u.2 := rfl
        have e11 : (zp 522 0 0 (A.1 522 0 + 1) (zp 523 0 0 (-3) (zp 448 q 0 x (zp 1 0 0 0 u)))).1 1 0 0 = 0 := by
          rw [zp_nk (by decide), zp_nk (by decide), zp_nk (by decide), zp_eq]
        have e12 : (zp 522 0 0 (A.1 522 0 + 1) (zp 523 0 0 (-3) (zp 448 q 0 x (zp 1 0 0 0 u)))).1 1 1 0 = A.1 3 0 := by
          rw [zp_nk (by decide), zp_nk (by decide), zp_nk (by decide), zp_n3 (by decide), k1 1 1 0 (by omega)]
          exact h2.1
        have e48 : (zp 522 0 0 (A.1 522 0 + 1) (zp 523 0 0 (-3) (zp 448 q 0 x (zp 1 0 0 0 u)))).1 448 q 0 = x := by
          rw [zp_nk (by decide), zp_nk (by decide), zp_eq]
        have e522 : (zp 522 0 0 (A.1 522 0 + 1) (zp 523 0 0 (-3) (zp 448 q 0 x (zp 1 0 0 0 u)))).1 522 0 0 = A.1 522 0 + 1 := zp_eq
        have e523 : (zp 522 0 0 (A.1 522 0 + 1) (zp 523 0 0 (-3) (zp 448 q 0 x (zp 1 0 0 0 u)))).1 523 0 0 = -3 := (zp_nk (by decide)).trans zp_eq
        generalize zp 522 0 0 (A.1 522 0 + 1) (zp 523 0 0 (-3) (zp 448 q 0 x (zp 1 0 0 0 u))) = z at e2 e3 e11 e12 e48 e522 e523 ⊢
        refine ⟨z, rfl, ⟨⟨e11, fun i i1 i2 => absurd i2 (Int.not_lt.mpr i1)⟩, ⟨e12, fun i i1 i2 => (e2 0 1 i (by decide) (by decide) (by decide) (by omega)).trans ((k1 0 1 i (by omega)).trans (h2.2 i i1 i2))⟩, ⟨(e2 387 0 0 (by decide) (by decide) (by decide) (by omega)).trans ((k1 387 0 0 (by omega)).trans h3.1), fun j j1 j2 => ?_⟩, (e2 388 0 0 (by decide) (by decide) (by decide) (by omega)).trans ((k1 388 0 0 (by omega)).trans h4), ⟨e522, ?_⟩, fun k l1 l2 => ?_, fun k l2 f i f1 f2 => ?_⟩, Or.inl e523, fun f n i f1 f2 => (e2 f n i (by omega) (by omega) (by omega) (by omega)).trans (k1 f n i (by omega)), by rw [e3, k4]; omega⟩
        · obtain ⟨g1, g2, g3⟩ := h3.2 j j1 j2
          exact ⟨(e2 385 0 j (by decide) (by decide) (by decide) (by omega)).trans ((k1 385 0 j (by omega)).trans g1), (e2 386 0 j (by decide) (by decide) (by decide) (by omega)).trans ((k1 386 0 j (by omega)).trans g2), fun i i1 i2 => (e2 384 0 _ (by decide) (by decide) (by decide) (by omega)).trans ((k1 384 0 _ (by omega)).trans (g3 i i1 i2))⟩
        · rw [e3, k3]
          show (A.1 522 0 + 1 = ((q + 1 : Nat) : Int) ∨ A.1 522 0 + 1 + 1 = ((q + 1 : Nat) : Int)) ∧ q + 1 ≤ 4
          omega
        · rw [e3, k3, e2 515 0 k (by decide) (by decide) (by decide) (by omega), k2 k l1 l2, ← hq]
          rfl
        · have l2 : (k : Int) < A.1 522 0 + 1 := l2
          show z.1 f k i = (if (k : Int) = A.1 522 0 then pa_w 448 0 x U else A.2 k) f i
          by_cases d : (k : Int) = A.1 522 0
          · have dq : k = q := by omega
            subst dq
            rw [if_pos d]
            by_cases d2 : f = 448 ∧ i = 0
            · rw [d2.1, d2.2, e48, pa_w_eq]
            · rw [e2 f k i (by omega) (by omega) (by omega) (by omega), bU f i f1 f2]
              unfold pa_w
              rw [if_neg d2]
          · rw [if_neg d, e2 f k i (by omega) (by omega) (by omega) (by omega), k1 f k i (by omega)]
            exact h7 k (by omega) f i f1 f2
  · unfold sTemplate
    rw [if_neg c1]
    by_cases c2 : x < 0
    · rw [if_pos c2]
      exact thr
    · rw [if_neg c2, if_neg (show ¬ x ≤ 9 by omega)]
      exact thr
end
