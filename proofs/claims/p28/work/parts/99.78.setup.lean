/-! THE LAW'S numbers are drawn from the script; the template's text is fed -/
section
variable {w w' : wW} {A A' : aA} {B F Z : yB} {s u : zS} {m M : Nat} {R : Int → zS → Prop} {L : Nat} {xs : Nat → Int32}
/-- the numbers drawn so far: all of q and d, i elements -/
def pw (w : wW) (i : Int) : Prop := (0 ≤ w.2.2 0 ∧ w.2.2 0 ≤ 5) ∧ (0 ≤ w.2.2 1 ∧ w.2.2 1 ≤ 3) ∧ (0 ≤ w.2.2 2 ∧ w.2.2 2 ≤ 255) ∧ w.2.2 3 = 0 ∧ (∀ j, 0 ≤ j → j < w.2.2 0 → 0 ≤ w.1 j ∧ w.1 j ≤ 255) ∧ (∀ t : Nat, (t : Int) < i → (0 ≤ w.2.1 (56 + t) ∧ w.2.1 (56 + t) ≤ 3) ∧ ∀ k, 0 ≤ k → k < w.2.1 (56 + t) → 0 ≤ w.2.1 (8 * t + k) ∧ w.2.1 (8 * t + k) ≤ 255)
theorem pw.K (p : pw w (w.2.2 1)) : wK w := by
  obtain ⟨p1, p2, p3, p4, p5, p6⟩ := p
  refine ⟨by omega, by omega, fun i hi => ?_, p5, fun i hi => (p6 i hi).2, p3, by omega⟩
  have := (p6 i hi).1
  omega
/-- what stands ready for the file: the class has the template, an empty tape, no state -/
def rdy (A : aA) : Prop := A.1 1 0 = 0 ∧ A.1 522 0 = 1 ∧ tpH (A.2 0) ∧ A.1 387 0 = 0 ∧ A.1 388 0 = -1 ∧ aOK A
theorem rdy.f (r : rdy A) : fA A B 0 := ⟨r.1, fun i i0 i1 => by omega, r.2⟩
theorem l383 {zk0 : Nat → Nat → Nat → Nat → Int → Int → zS → zR} {i : Nat} (hi : (i : Int) < w.2.2 1) (fin : ∀ (w' : wW) (u : zS), (∀ j, w'.2.2 j = w.2.2 j) → pw w' (i + 1) → lQ A w' m u → zw (zk0 0 0 0 0 1 (i + 1) u) R) : ∀ (j G : Nat) (k : Int) (w1 : wW) (s : zS), j < G → (∀ j, w1.2.2 j = w.2.2 j) → pw w1 i → (0 ≤ w1.2.1 (56 + i) ∧ w1.2.1 (56 + i) ≤ 3) → (∀ c, 0 ≤ c → c < k → 0 ≤ w1.2.1 (8 * i + c) ∧ w1.2.1 (8 * i + c) ≤ 255) → k + j = w1.2.1 (56 + i) → 0 ≤ k → lQ A w1 m s → zw (zf_0_383 L xs zk0 G 0 0 0 0 1 i k s) R := by
  intro j
  induction j with
  | zero =>
    intro G k w1 s hG q p e5 eb hk k0 h
    obtain ⟨G, rfl⟩ : ∃ M, G = M + 1 := ⟨G - 1, by omega⟩
    have p2 := p.2.1
    have q1 := q 1
    unfold zf_0_383
    rw [zg_ok ⟨by omega, by omega⟩, zn_ok (by omega), h.2.2.1.2.1, if_pos (by omega), zg_ok ⟨by omega, by omega⟩]
    obtain ⟨p1, p2, p3, p4, p5, p6⟩ := p
    refine fin w1 s q ⟨p1, p2, p3, p4, p5, fun t ht => ?_⟩ h
    by_cases c : t = i
    · subst c
      exact ⟨e5, fun c c0 c1 => eb c c0 (by omega)⟩
    · exact p6 t (by omega)
  | succ j ih =>
    intro G k w1 s hG q p e5 eb hk k0 h
    obtain ⟨G, rfl⟩ : ∃ M, G = M + 1 := ⟨G - 1, by omega⟩
    have p2 := p.2.1
    have q1 := q 1
    unfold zf_0_383
    rw [zg_ok ⟨by omega, by omega⟩, zn_ok (by omega), h.2.2.1.2.1, if_neg (by omega), zg_ok ⟨by omega, by omega⟩]
    obtain ⟨y, a1⟩ := l89 (L := L) (xs := xs) (s := s) (k := 7 + i) (by omega)
    obtain ⟨v, a2, b1, b2⟩ := l90 (s := s) (x := zshr y (3 + 5 * k)) (n := 256) (by decide)
    refine lq_p a1 ?_
    rw [zg_ok ⟨by omega, by omega⟩, zg_ok ⟨by omega, by omega⟩]
    refine lq_p a2 ?_
    rw [zg_ok ⟨by omega, by omega⟩, zg_ok ⟨by omega, by omega⟩, zW_ok (by omega), zg_ok ⟨by omega, by omega⟩]
    have h1 := h.e (i0 := 8 * i + k) (v := v) (E := fun c => if c = 8 * i + k then v else w1.2.1 c) fun c => rfl
    have ne : ∀ c : Int, c ≠ 8 * i + k → (fun c => if c = 8 * (i : Int) + k then v else w1.2.1 c) c = w1.2.1 c := fun c hc => if_neg hc
    have e56 := ne (56 + i) (by omega)
    refine ih G (k + 1) (w1.1, fun c => if c = 8 * i + k then v else w1.2.1 c, w1.2.2) _ (by omega) q ?_ ?_ (fun c c0 c1 => ?_) ?_ (by omega) h1
    · obtain ⟨p1, p2, p3, p4, p5, p6⟩ := p
      refine ⟨p1, p2, p3, p4, p5, fun t ht => ?_⟩
      obtain ⟨g1, g2⟩ := p6 t ht
      have f56 := ne (56 + t) (by omega)
      refine ⟨?_, fun c c0 c1 => ?_⟩
      · show 0 ≤ (fun c => if c = 8 * (i : Int) + k then v else w1.2.1 c) (56 + (t : Int)) ∧ (fun c => if c = 8 * (i : Int) + k then v else w1.2.1 c) (56 + (t : Int)) ≤ 3
        rw [f56]
        exact g1
      · have c1 : c < (fun c => if c = 8 * (i : Int) + k then v else w1.2.1 c) (56 + (t : Int)) := c1
        rw [f56] at c1
        show 0 ≤ (fun c => if c = 8 * (i : Int) + k then v else w1.2.1 c) (8 * (t : Int) + c) ∧ (fun c => if c = 8 * (i : Int) + k then v else w1.2.1 c) (8 * (t : Int) + c) ≤ 255
        rw [ne _ (by omega)]
        exact g2 c c0 c1
    · show 0 ≤ (fun c => if c = 8 * (i : Int) + k then v else w1.2.1 c) (56 + (i : Int)) ∧ (fun c => if c = 8 * (i : Int) + k then v else w1.2.1 c) (56 + (i : Int)) ≤ 3
      rw [e56]
      exact e5
    · show 0 ≤ (if 8 * (i : Int) + c = 8 * (i : Int) + k then v else w1.2.1 (8 * i + c)) ∧ (if 8 * (i : Int) + c = 8 * (i : Int) + k then v else w1.2.1 (8 * i + c)) ≤ 255
      by_cases d : c = k
      · rw [if_pos (by omega)]
        omega
      · rw [if_neg (by omega)]
        exact eb c c0 (by omega)
    · show k + 1 + (j : Int) = (fun c => if c = 8 * (i : Int) + k then v else w1.2.1 c) (56 + (i : Int))
      rw [e56]
      omega
theorem l351 (r : rdy A) (hM : m + 100 + 401 * 36 ≤ M) : ∀ (j G i : Nat) (w : wW) (s : zS), j < G → (i : Int) + j = w.2.2 1 → pw w i → lQ A w m s → zw (zf_0_351 L xs G 0 0 0 0 1 i s) fun r u => r = 1 ∧ u.2.2 ≤ M := by
  intro j
  induction j with
  | zero =>
    intro G i w s hG hi p h
    obtain ⟨G, rfl⟩ : ∃ M, G = M + 1 := ⟨G - 1, by omega⟩
    have hi1 : (i : Int) = w.2.2 1 := by omega
    rw [hi1] at p
    have K := p.K
    have hb := wP_b K (wN w) (Nat.le_refl _)
    have hn := K.n
    have p1 := p.1
    have p2 := p.2.1
    unfold zf_0_351
    rw [zn_ok (by decide), h.2.2.1.2.2, if_pos (by omega), zn_ok (by decide), ← hn]
    refine lq_p (l111 h.2.2.1 K (Nat.le_refl _)) ?_
    rw [zg_ok ⟨by omega, by omega⟩]
    obtain ⟨B, b, sm⟩ := exB K
    exact l456 K b sm p.2.2.2.1 (wP w (wN w) + 5).toNat xfu 0 m A s (pa_fu (by omega)) (by omega) (by decide) r.f h (by omega)
  | succ j ih =>
    intro G i w s hG hi p h
    obtain ⟨G, rfl⟩ : ∃ M, G = M + 1 := ⟨G - 1, by omega⟩
    have p2 := p.2.1
    unfold zf_0_351
    rw [zn_ok (by decide), h.2.2.1.2.2, if_neg (by omega), zg_ok ⟨by omega, by omega⟩]
    obtain ⟨y, a1⟩ := l89 (L := L) (xs := xs) (s := s) (k := 7 + i) (by omega)
    obtain ⟨v, a2, b1, b2⟩ := l90 (s := s) (x := y) (n := 4) (by decide)
    refine lq_p a1 (lq_p a2 ?_)
    rw [zg_ok ⟨by omega, by omega⟩, zW_ok (by omega)]
    have h1 := h.e (i0 := 56 + i) (v := v) (E := fun c => if c = 56 + i then v else w.2.1 c) fun c => rfl
    have ne : ∀ c : Int, c ≠ 56 + i → (fun c => if c = 56 + (i : Int) then v else w.2.1 c) c = w.2.1 c := fun c hc => if_neg hc
    have ev : (fun c => if c = 56 + (i : Int) then v else w.2.1 c) (56 + i) = v := if_pos rfl
    refine l383 (w := w) (i := i) (by omega) (fun w' u q p' h' => ?_) v.toNat xfu 0 (w.1, fun c => if c = 56 + i then v else w.2.1 c, w.2.2) _ (pa_fu (by omega)) (fun j => rfl) ?_ ?_ (fun c c0 c1 => by omega) ?_ (by decide) h1
    · rw [show (i : Int) + 1 = ((i + 1 : Nat) : Int) by omega]
      rw [show (i : Int) + 1 = ((i + 1 : Nat) : Int) by omega] at p'
      exact ih G (i + 1) w' u (by omega) (by rw [q]; omega) p' h'
    · obtain ⟨p1, p2, p3, p4, p5, p6⟩ := p
      refine ⟨p1, p2, p3, p4, p5, fun t ht => ?_⟩
      obtain ⟨g1, g2⟩ := p6 t ht
      have f56 := ne (56 + t) (by omega)
      refine ⟨?_, fun c c0 c1 => ?_⟩
      · show 0 ≤ (fun c => if c = 56 + (i : Int) then v else w.2.1 c) (56 + (t : Int)) ∧ (fun c => if c = 56 + (i : Int) then v else w.2.1 c) (56 + (t : Int)) ≤ 3
        rw [f56]
        exact g1
      · have c1 : c < (fun c => if c = 56 + (i : Int) then v else w.2.1 c) (56 + (t : Int)) := c1
        rw [f56] at c1
        show 0 ≤ (fun c => if c = 56 + (i : Int) then v else w.2.1 c) (8 * (t : Int) + c) ∧ (fun c => if c = 56 + (i : Int) then v else w.2.1 c) (8 * (t : Int) + c) ≤ 255
        rw [ne _ (by omega)]
        exact g2 c c0 c1
    · show 0 ≤ (fun c => if c = 56 + (i : Int) then v else w.2.1 c) (56 + (i : Int)) ∧ (fun c => if c = 56 + (i : Int) then v else w.2.1 c) (56 + (i : Int)) ≤ 3
      rw [ev]
      omega
    · show 0 + (v.toNat : Int) = (fun c => if c = 56 + (i : Int) then v else w.2.1 c) (56 + (i : Int))
      rw [ev]
      omega
theorem l315 (r : rdy A) (hM : m + 100 + 401 * 36 ≤ M) : ∀ (j G : Nat) (k : Int) (w : wW) (s : zS), j < G → k + j = w.2.2 0 → 0 ≤ k → ((0 ≤ w.2.2 0 ∧ w.2.2 0 ≤ 5) ∧ (0 ≤ w.2.2 1 ∧ w.2.2 1 ≤ 3) ∧ (0 ≤ w.2.2 2 ∧ w.2.2 2 ≤ 255) ∧ w.2.2 3 = 0) → (∀ j, 0 ≤ j → j < k → 0 ≤ w.1 j ∧ w.1 j ≤ 255) → lQ A w m s → zw (zf_0_315 L xs G 0 0 0 0 1 k s) fun r u => r = 1 ∧ u.2.2 ≤ M := by
  intro j
  induction j with
  | zero =>
    intro G k w s hG hk k0 p d h
    obtain ⟨G, rfl⟩ : ∃ M, G = M + 1 := ⟨G - 1, by omega⟩
    have p2 := p.2.1
    unfold zf_0_315
    rw [zn_ok (by decide), h.2.2.1.2.2, if_pos (by omega)]
    exact l351 r hM (w.2.2 1).toNat xfu 0 w s (pa_fu (by omega)) (by omega) ⟨p.1, p.2.1, p.2.2.1, p.2.2.2, fun j j0 j1 => d j j0 (by omega), fun t ht => by omega⟩ h
  | succ j ih =>
    intro G k w s hG hk k0 p d h
    obtain ⟨G, rfl⟩ : ∃ M, G = M + 1 := ⟨G - 1, by omega⟩
    have p1 := p.1
    unfold zf_0_315
    rw [zn_ok (by decide), h.2.2.1.2.2, if_neg (by omega), zg_ok ⟨by omega, by omega⟩]
    obtain ⟨y, a1⟩ := l89 (L := L) (xs := xs) (s := s) (k := 1 + k) (by omega)
    obtain ⟨v, a2, b1, b2⟩ := l90 (s := s) (x := y) (n := 256) (by decide)
    refine lq_p a1 (lq_p a2 ?_)
    rw [zW_ok (by omega), zg_ok ⟨by omega, by omega⟩]
    have h1 := h.d (i0 := k) (v := v) (D := fun c => if c = k then v else w.1 c) fun c => rfl
    refine ih G (k + 1) (fun c => if c = k then v else w.1 c, w.2) _ (by omega) (show k + 1 + (j : Int) = w.2.2 0 by omega) (by omega) p (fun c c0 c1 => ?_) h1
    show 0 ≤ (if c = k then v else w.1 c) ∧ (if c = k then v else w.1 c) ≤ 255
    by_cases e : c = k
    · rw [if_pos e]
      omega
    · rw [if_neg e]
      exact d c c0 (by omega)
theorem l230 (r : rdy A) (hM : m + 100 + 401 * 36 ≤ M) (h3 : w.2.2 3 = 0) (h : lQ A w m s) : zw (zf_0_230 L xs 0 0 0 0 1 s) fun r u => r = 1 ∧ u.2.2 ≤ M := by
  unfold zf_0_230
  obtain ⟨y, a1⟩ := l89 (L := L) (xs := xs) (s := s) (k := 0) (by decide)
  obtain ⟨q0, a2, b1, b2⟩ := l90 (s := s) (x := y) (n := 6) (by decide)
  refine lq_p a1 (lq_p a2 ?_)
  rw [zW_ok (by decide)]
  have h1 := h.q (i0 := 0) (v := q0) (Q := fun c => if c = 0 then q0 else w.2.2 c) fun c => rfl
  generalize zp 578 0 0 q0 s = s1 at h1 ⊢
  obtain ⟨y, a3⟩ := l89 (L := L) (xs := xs) (s := s1) (k := 0) (by decide)
  obtain ⟨q1, a4, b3, b4⟩ := l90 (s := s1) (x := zshr y 3) (n := 4) (by decide)
  refine lq_p a3 (lq_p a4 ?_)
  rw [zW_ok (by decide)]
  have h2 := h1.q (i0 := 1) (v := q1) (Q := fun c => if c = 1 then q1 else if c = 0 then q0 else w.2.2 c) fun c => rfl
  generalize zp 578 0 1 q1 s1 = s2 at h2 ⊢
  have fin : ∀ q2 : Int, 0 ≤ q2 ∧ q2 ≤ 255 → zw (zf_0_315 L xs xfu 0 0 0 0 1 0 (zp 578 0 2 q2 s2)) fun r u => r = 1 ∧ u.2.2 ≤ M := fun q2 hq => by
    have h4 := h2.q (i0 := 2) (v := q2) (Q := fun c => if c = 2 then q2 else if c = 1 then q1 else if c = 0 then q0 else w.2.2 c) fun c => rfl
    exact l315 r hM q0.toNat xfu 0 _ _ (pa_fu (by omega)) (show 0 + (q0.toNat : Int) = q0 by omega) (by decide) (show (0 ≤ q0 ∧ q0 ≤ 5) ∧ (0 ≤ q1 ∧ q1 ≤ 3) ∧ (0 ≤ q2 ∧ q2 ≤ 255) ∧ w.2.2 3 = 0 from ⟨by omega, by omega, hq, h3⟩) (fun j j0 j1 => by omega) h4
  obtain ⟨y, a5⟩ := l89 (L := L) (xs := xs) (s := s2) (k := 0) (by decide)
  obtain ⟨v, a6, -, -⟩ := l90 (s := s2) (x := zshr y 5) (n := 4) (by decide)
  refine lq_p a5 (lq_p a6 ?_)
  by_cases c : v = 0
  · rw [if_pos c]
    obtain ⟨y, a7⟩ := l89 (L := L) (xs := xs) (s := s2) (k := 0) (by decide)
    obtain ⟨v, a8, c1, c2⟩ := l90 (s := s2) (x := zshr y 7) (n := 6) (by decide)
    refine lq_p a7 (lq_p a8 ?_)
    rw [zg_ok ⟨by omega, by omega⟩, zW_ok (by decide)]
    exact fin _ (by omega)
  · rw [if_neg c]
    obtain ⟨y, a7⟩ := l89 (L := L) (xs := xs) (s := s2) (k := 0) (by decide)
    obtain ⟨v, a8, c1, c2⟩ := l90 (s := s2) (x := zshr y 7) (n := 30) (by decide)
    refine lq_p a7 (lq_p a8 ?_)
    rw [zW_ok (by decide)]
    exact fin _ (by omega)
/-! the text of the template -/
def w00 : wW := (fun _ => 0, fun _ => 0, fun _ => 0)
/-- n signs of the text are on the tape -/
def lP (n m : Nat) (s : zS) : Prop := ∃ A, lQ A w00 m s ∧ (A.1 1 0 = n ∧ ∀ i : Int, 0 ≤ i → i < n → A.1 0 i = tpX.getD i.toNat 0) ∧ A.1 522 0 = 0 ∧ A.1 387 0 = 0 ∧ A.1 388 0 = -1 ∧ aOK A ∧ s.2.1 = 0
theorem l86 {n : Nat} {zk : Nat → Int → Int → Int → Int → Int → Int → Int → Int → Int → zS → zR} {v0 v1 v2 v3 v4 v5 v6 v7 k v : Int} (h : lP n m s) (hn : n < 150) (hv : tpX.getD n 0 = v ∧ 1 ≤ v ∧ v ≤ 255) (hk : 0 ≤ k ∧ k ≤ 8) (fin : ∀ u, lP (n + 1) (m + 1) u → zw (zk 0 v0 v1 v2 v3 v4 v5 v6 v7 (k + 1) u) R) : zw (zf_92_86 zk 0 v0 v1 v2 v3 v4 v5 v6 v7 k v s) R := by
  obtain ⟨A, h1, ⟨h2, h3⟩, h4, h5, h6, h7, h8⟩ := h
  have bv : 0 ≤ v ∧ v ≤ 255 := by omega
  unfold zf_92_86
  rw [if_neg (by omega)]
  obtain ⟨u, e1, e2, e3, e4, e5⟩ := C105z (v := v) h1.1 h1.2.1 h7 bv (by omega)
  obtain ⟨f1, f2, f3, f4⟩ := aFeed_1 (A := A) bv
  have okf := aOK_feed (A := A) (x := (Int32.ofInt v).toInt64) (m := 1) h7
  unfold sFeed at okf
  rw [if_neg (by omega), if_neg (by omega)] at okf
  rw [e1]
  show zw (zg (k + 1) _) _
  rw [zg_ok ⟨by omega, by omega⟩]
  refine fin u ⟨aFeed (Int32.ofInt v).toInt64 1 A, ⟨e2, e3, h1.2.2.1.fr e4, by rw [e5]; have := h1.2.2.2; omega⟩, ⟨by omega, fun i i0 i1 => ?_⟩, ?_, ?_, ?_, okf, by rw [e5]; exact h8⟩
  · by_cases c : i = n
    · rw [h2] at f3
      rw [c, f3, Int.toNat_natCast]
      exact hv.1.symm
    · rw [f2 i (by omega)]
      exact h3 i i0 (by omega)
  · rw [f4 522 0 (by decide) (by decide)]
    exact h4
  · rw [f4 387 0 (by decide) (by decide)]
    exact h5
  · rw [f4 388 0 (by decide) (by decide)]
    exact h6
theorem l86_0 {zk : Nat → Int → Int → Int → Int → Int → Int → Int → Int → Int → zS → zR} {v0 v1 v2 v3 v4 v5 v6 v7 k : Int} (hk : 0 ≤ k ∧ k ≤ 8) (fin : zw (zk 0 v0 v1 v2 v3 v4 v5 v6 v7 (k + 1) s) R) : zw (zf_92_86 zk 0 v0 v1 v2 v3 v4 v5 v6 v7 k 0 s) R := by
  unfold zf_92_86
  rw [if_pos (by decide), zg_ok ⟨by omega, by omega⟩]
  exact fin
theorem l_fu9 : ∃ N, xfu = N + 1 + 1 + 1 + 1 + 1 + 1 + 1 + 1 + 1 := ⟨xfu - 9, by have := pa_fu (m := 20) (by decide); omega⟩
theorem l92_2 {N : Nat} {v0 v1 v2 v3 v4 v5 v6 v7 : Int} {n : Nat} (h : lP n m s) (hn : n < 140) (h0 : tpX.getD n 0 = v0 ∧ 1 ≤ v0 ∧ v0 ≤ 255) (h1 : tpX.getD (n + 1) 0 = v1 ∧ 1 ≤ v1 ∧ v1 ≤ 255) (fin : ∀ u, lP (n + 2) (m + 2) u → zw (zf_92_3 N 0 v0 v1 v2 v3 v4 v5 v6 v7 2 u) R) : zw (zf_92_3 (N + 1 + 1) 0 v0 v1 v2 v3 v4 v5 v6 v7 0 s) R := by
  unfold zf_92_3
  rw [if_neg (by decide), if_pos rfl]
  refine l86 h (by omega) h0 (by decide) fun u h => ?_
  show zw (zf_92_3 (N + 1) 0 v0 v1 v2 v3 v4 v5 v6 v7 1 u) R
  unfold zf_92_3
  rw [if_neg (by decide), if_neg (by decide), if_pos rfl]
  exact l86 h (by omega) h1 (by decide) fun u h => fin u h
theorem l92 {v0 v1 v2 v3 v4 v5 v6 v7 : Int} {n : Nat} (h : lP n m s) (hn : n < 140) (h0 : tpX.getD n 0 = v0 ∧ 1 ≤ v0 ∧ v0 ≤ 255) (h1 : tpX.getD (n + 1) 0 = v1 ∧ 1 ≤ v1 ∧ v1 ≤ 255) (h2 : tpX.getD (n + 2) 0 = v2 ∧ 1 ≤ v2 ∧ v2 ≤ 255) (h3 : tpX.getD (n + 3) 0 = v3 ∧ 1 ≤ v3 ∧ v3 ≤ 255) (h4 : tpX.getD (n + 4) 0 = v4 ∧ 1 ≤ v4 ∧ v4 ≤ 255) (h5 : tpX.getD (n + 5) 0 = v5 ∧ 1 ≤ v5 ∧ v5 ≤ 255) (h6 : tpX.getD (n + 6) 0 = v6 ∧ 1 ≤ v6 ∧ v6 ≤ 255) (h7 : tpX.getD (n + 7) 0 = v7 ∧ 1 ≤ v7 ∧ v7 ≤ 255) : zw (zf_92 0 v0 v1 v2 v3 v4 v5 v6 v7 s) fun _ u => lP (n + 8) (m + 8) u := by
  obtain ⟨N, hN⟩ := l_fu9
  unfold zf_92
  rw [hN]
  refine l92_2 h (by omega) h0 h1 fun u h => ?_
  unfold zf_92_3
  rw [if_neg (by decide), if_neg (by decide), if_neg (by decide), if_pos rfl]
  refine l86 h (by omega) h2 (by decide) fun u h => ?_
  show zw (zf_92_3 (N + 1 + 1 + 1 + 1 + 1 + 1) 0 v0 v1 v2 v3 v4 v5 v6 v7 3 u) _
  unfold zf_92_3
  rw [if_neg (by decide), if_neg (by decide), if_neg (by decide), if_neg (by decide), if_pos rfl]
  refine l86 h (by omega) h3 (by decide) fun u h => ?_
  show zw (zf_92_3 (N + 1 + 1 + 1 + 1 + 1) 0 v0 v1 v2 v3 v4 v5 v6 v7 4 u) _
  unfold zf_92_3
  rw [if_neg (by decide), if_neg (by decide), if_neg (by decide), if_neg (by decide), if_neg (by decide), if_pos rfl]
  refine l86 h (by omega) h4 (by decide) fun u h => ?_
  show zw (zf_92_3 (N + 1 + 1 + 1 + 1) 0 v0 v1 v2 v3 v4 v5 v6 v7 5 u) _
  unfold zf_92_3
  rw [if_neg (by decide), if_neg (by decide), if_neg (by decide), if_neg (by decide), if_neg (by decide), if_neg (by decide), if_pos rfl]
  refine l86 h (by omega) h5 (by decide) fun u h => ?_
  show zw (zf_92_3 (N + 1 + 1 + 1) 0 v0 v1 v2 v3 v4 v5 v6 v7 6 u) _
  unfold zf_92_3
  rw [if_neg (by decide), if_neg (by decide), if_neg (by decide), if_neg (by decide), if_neg (by decide), if_neg (by decide), if_neg (by decide), if_pos rfl]
  refine l86 h (by omega) h6 (by decide) fun u h => ?_
  show zw (zf_92_3 (N + 1 + 1) 0 v0 v1 v2 v3 v4 v5 v6 v7 7 u) _
  unfold zf_92_3
  rw [if_neg (by decide), if_neg (by decide), if_neg (by decide), if_neg (by decide), if_neg (by decide), if_neg (by decide), if_neg (by decide), if_neg (by decide)]
  refine l86 h (by omega) h7 (by decide) fun u h => ?_
  show zw (zf_92_3 (N + 1) 0 v0 v1 v2 v3 v4 v5 v6 v7 8 u) _
  unfold zf_92_3
  rw [if_pos (by decide)]
  exact zw_i h
theorem l92_e {v0 v1 : Int} {n : Nat} (h : lP n m s) (hn : n < 140) (h0 : tpX.getD n 0 = v0 ∧ 1 ≤ v0 ∧ v0 ≤ 255) (h1 : tpX.getD (n + 1) 0 = v1 ∧ 1 ≤ v1 ∧ v1 ≤ 255) : zw (zf_92 0 v0 v1 0 0 0 0 0 0 s) fun _ u => lP (n + 2) (m + 2) u := by
  obtain ⟨N, hN⟩ := l_fu9
  unfold zf_92
  rw [hN]
  refine l92_2 h (by omega) h0 h1 fun u h => ?_
  unfold zf_92_3
  rw [if_neg (by decide), if_neg (by decide), if_neg (by decide), if_pos rfl]
  refine l86_0 (by decide) ?_
  show zw (zf_92_3 (N + 1 + 1 + 1 + 1 + 1 + 1) 0 v0 v1 0 0 0 0 0 0 3 u) _
  unfold zf_92_3
  rw [if_neg (by decide), if_neg (by decide), if_neg (by decide), if_neg (by decide), if_pos rfl]
  refine l86_0 (by decide) ?_
  show zw (zf_92_3 (N + 1 + 1 + 1 + 1 + 1) 0 v0 v1 0 0 0 0 0 0 4 u) _
  unfold zf_92_3
  rw [if_neg (by decide), if_neg (by decide), if_neg (by decide), if_neg (by decide), if_neg (by decide), if_pos rfl]
  refine l86_0 (by decide) ?_
  show zw (zf_92_3 (N + 1 + 1 + 1 + 1) 0 v0 v1 0 0 0 0 0 0 5 u) _
  unfold zf_92_3
  rw [if_neg (by decide), if_neg (by decide), if_neg (by decide), if_neg (by decide), if_neg (by decide), if_neg (by decide), if_pos rfl]
  refine l86_0 (by decide) ?_
  show zw (zf_92_3 (N + 1 + 1 + 1) 0 v0 v1 0 0 0 0 0 0 6 u) _
  unfold zf_92_3
  rw [if_neg (by decide), if_neg (by decide), if_neg (by decide), if_neg (by decide), if_neg (by decide), if_neg (by decide), if_neg (by decide), if_pos rfl]
  refine l86_0 (by decide) ?_
  show zw (zf_92_3 (N + 1 + 1) 0 v0 v1 0 0 0 0 0 0 7 u) _
  unfold zf_92_3
  rw [if_neg (by decide), if_neg (by decide), if_neg (by decide), if_neg (by decide), if_neg (by decide), if_neg (by decide), if_neg (by decide), if_neg (by decide)]
  refine l86_0 (by decide) ?_
  show zw (zf_92_3 (N + 1) 0 v0 v1 0 0 0 0 0 0 8 u) _
  unfold zf_92_3
  rw [if_pos (by decide)]
  exact zw_i h
end
