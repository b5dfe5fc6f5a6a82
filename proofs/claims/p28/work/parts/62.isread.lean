/-! the reference's isRead is the spec -/
section
variable {t n : Int} {T : yT} {B : yB} {E : yE} {K J A pos made cnt st k me dd g nd pa way due j ln v bt : Int} {s u w : zS}
/-- too deep: all of several structures are -/
theorem yNm_deep {ow : Int} : ∀ (m : Nat) (k pos made cnt : Int), 0 < m → yNm (yS T B n 0) T ow pa m k pos made cnt = .inl (4, pos, made)
  | 0, _, _, _, _, h => absurd h (Nat.lt_irrefl _)
  | m + 1, k, pos, made, cnt, _ => by
    unfold yNm yS
    dsimp only
    by_cases hm : (4 : Int) = 5 ∨ m = 0
    · rw [if_pos hm]
    · rw [if_neg hm]
      exact yNm_deep m (k + 1) pos made cnt (by omega)
def mL : Nat → Nat
  | 0 => 1
  | d + 1 => 101 * (8 * (201 * (mL d + 1) + 2) + 2)
/-- a fault is none of 0 -/
def yNmC0 (nm : Int → Int → Int → yO) : Prop := ∀ pos made cnt e, nm pos made cnt = .inl e → e.1 ≠ 0
theorem yNm_c {rs : Int → Int → Int → Int → Int → Int → yO} (h : ∀ s ow pa, 0 ≤ s → s < T 449 0 → yNmC0 (rs s ow pa)) {ow pa : Int} : ∀ (m : Nat) (k : Int), 0 < m → (∀ j, k ≤ j → j < k + m → 0 ≤ T 456 j ∧ T 456 j < T 449 0) → yNmC0 (yNm rs T ow pa m k)
  | 0, _, h0, _ => absurd h0 (Nat.lt_irrefl _)
  | m + 1, k, _, hj => fun pos made cnt e he => by
    unfold yNm at he
    have a := h (T 456 k) ow pa (hj k (by omega) (by omega)).1 (hj k (by omega) (by omega)).2 pos made cnt
    revert he a
    cases rs (T 456 k) ow pa pos made cnt with
    | inr x => exact fun he => by cases he
    | inl e' =>
      intro he a
      obtain ⟨c, p, m'⟩ := e'
      dsimp only at he
      by_cases hc : c = 5 ∨ m = 0
      · rw [if_pos hc] at he
        cases he
        exact a _ rfl
      · rw [if_neg hc] at he
        exact yNm_c h m (k + 1) (by omega) (fun j h1 h2 => hj j (by omega) (by omega)) _ _ _ _ he
theorem yCt_c {nm : Int → Int → Int → yO} (h : yNmC0 nm) : ∀ m : Nat, yNmC0 (yCt nm m)
  | 0 => fun _ _ _ _ he => by cases he
  | m + 1 => fun pos made cnt e he => by
    unfold yCt at he
    have a := h pos made cnt
    revert he a
    cases nm pos made cnt with
    | inl e' =>
      intro he a
      cases he
      exact a _ rfl
    | inr x =>
      intro he a
      obtain ⟨p1, m1, w1, l1⟩ := x
      have b := yCt_c h m p1 m1 (cnt + l1.length)
      revert he b
      dsimp only
      cases yCt nm m p1 m1 (cnt + l1.length) with
      | inl e' =>
        intro he b
        cases he
        exact b _ rfl
      | inr y => exact fun he => by cases he
theorem yAl_c {nm : Int → Int → Int → yO} (h : yNmC0 nm) : ∀ (m : Nat) (k pos made cnt : Int) (e : Int × Int × Int), yAl nm m k pos made cnt = .inl e → e.1 ≠ 0
  | 0, _, _, _, _, _, he => by
    cases he
    exact (by decide : (5 : Int) ≠ 0)
  | m + 1, k, pos, made, cnt, e, he => by
    unfold yAl at he
    have a := h pos made cnt
    revert he a
    cases nm pos made cnt with
    | inl e' =>
      intro he a
      obtain ⟨c, p, m'⟩ := e'
      dsimp only at he
      split at he
      · cases he
        exact a _ rfl
      · cases he
    | inr x =>
      intro he a
      obtain ⟨p1, m1, w1, l1⟩ := x
      have b := yAl_c h m (k + 1) p1 m1 (cnt + l1.length)
      revert he b
      dsimp only
      cases yAl nm m (k + 1) p1 m1 (cnt + l1.length) with
      | inl e' =>
        intro he b
        split at he
        · cases he
        · cases he
          exact b _ rfl
      | inr y =>
        intro he b
        split at he <;> cases he
theorem yEn_c {nm : Int → Int → Int → yO} (h : yNmC0 nm) {e0 st0 : Int} : ∀ (m : Nat) (k pos made cnt : Int) (e : Int × Int × Int), yEn B n nm e0 st0 m k pos made cnt = .inl e → e.1 ≠ 0
  | 0, _, _, _, _, _, he => by
    cases he
    exact (by decide : (5 : Int) ≠ 0)
  | m + 1, k, pos, made, cnt, e, he => by
    unfold yEn at he
    split at he
    · cases he
    · split at he
      · cases he
        exact (by decide : (1 : Int) ≠ 0)
      · have a := h pos made cnt
        revert he a
        cases nm pos made cnt with
        | inl e' =>
          intro he a
          cases he
          exact a _ rfl
        | inr x =>
          intro he a
          obtain ⟨p1, m1, w1, l1⟩ := x
          have b := yEn_c h m (k + 1) p1 m1 (cnt + l1.length) (e0 := e0) (st0 := st0)
          revert he b
          dsimp only
          cases yEn B n nm e0 st0 m (k + 1) p1 m1 (cnt + l1.length) with
          | inl e' =>
            intro he b
            split at he
            · cases he
              exact (by decide : (1 : Int) ≠ 0)
            · cases he
              exact b _ rfl
          | inr y =>
            intro he b
            split at he
            · cases he
              exact (by decide : (1 : Int) ≠ 0)
            · cases he
theorem yPl_c {V : Int → Int} {f c : Int} (h : yPl T B n V f pos = .inl c) : c ≠ 0 := by
  unfold yPl at h
  split at h
  · dsimp only at h
    split at h
    · cases h
      decide
    · split at h
      · cases h
        decide
      · cases h
  · split at h
    · split at h
      · cases h
      · cases h
        decide
    · split at h
      · split at h
        · cases h
          decide
        · cases h
      · dsimp only at h
        generalize (if T 459 f = 16 then if T 458 f = 87 then 256 * B pos + B (pos + 1) else B pos + 256 * B (pos + 1) else B pos) = vv at h
        generalize (if T 459 f = 16 then (2 : Int) else 1) = ll at h
        split at h
        · cases h
          decide
        · split at h
          · cases h
            decide
          · cases h
theorem yFd_c {rs : Int → Int → Int → Int → Int → Int → yO} (h : ∀ s ow pa, 0 ≤ s → s < T 449 0 → yNmC0 (rs s ow pa)) (W : yWF T st k) {e : Int × Int × Int} (he : yFd rs T B n me (8 * st + k) k E pos made cnt = .inl e) : e.1 ≠ 0 := by
  have nmc : ∀ ow pa : Int, T 458 (8 * st + k) = 65 ∨ T 458 (8 * st + k) = 91 → yNmC0 (yNm rs T ow pa (T 464 (8 * st + k) - T 463 (8 * st + k)).toNat (T 463 (8 * st + k))) := by
    intro ow pa ht
    obtain ⟨a1, a2, a3, a4⟩ := W.2.2.1 (by omega)
    exact yNm_c h _ _ (by omega) (fun j h1 h2 => a4 j h1 (by omega))
  rw [yFd_eq] at he
  by_cases h65 : T 458 (8 * st + k) = 65
  · rw [if_pos h65] at he
    have a := nmc (8 * st + k) me (Or.inl h65) pos made cnt
    revert he a
    cases yNm rs T (8 * st + k) me (T 464 (8 * st + k) - T 463 (8 * st + k)).toNat (T 463 (8 * st + k)) pos made cnt with
    | inl e' =>
      intro he a
      cases he
      exact a _ rfl
    | inr x => exact fun he => by cases he
  · rw [if_neg h65] at he
    by_cases h91 : T 458 (8 * st + k) = 91
    · rw [if_pos h91] at he
      unfold yA68 at he
      by_cases h1 : 200 ≤ made
      · rw [if_pos h1] at he
        cases he
        exact (by decide : (5 : Int) ≠ 0)
      · rw [if_neg h1] at he
        by_cases h2 : T 465 (8 * st + k) = 43 ∧ (yCn T (E 330) (8 * st + k) < 0 ∨ 20 < yCn T (E 330) (8 * st + k))
        · rw [if_pos h2] at he
          cases he
          exact (by decide : (3 : Int) ≠ 0)
        · rw [if_neg h2] at he
          have b : ∀ e', yAr rs T B n (E 330) me (8 * st + k) pos made cnt = .inl e' → e'.1 ≠ 0 := by
            intro e' he'
            unfold yAr at he'
            have c := nmc (-1) cnt (Or.inr h91)
            split at he'
            · exact yAl_c c _ _ _ _ _ _ he'
            · split at he'
              · exact yEn_c c _ _ _ _ _ _ he'
              · have dd := yCt_c c (yCn T (E 330) (8 * st + k)).toNat pos (made + 1) (cnt + 1)
                revert he' dd
                cases yCt (yNm rs T (-1) cnt (T 464 (8 * st + k) - T 463 (8 * st + k)).toNat (T 463 (8 * st + k))) (yCn T (E 330) (8 * st + k)).toNat pos (made + 1) (cnt + 1) with
                | inl e2 =>
                  intro he' dd
                  cases he'
                  exact dd _ rfl
                | inr y => exact fun he' => by cases he'
          revert he b
          cases yAr rs T B n (E 330) me (8 * st + k) pos made cnt with
          | inl e' =>
            intro he b
            cases he
            exact b _ rfl
          | inr y => exact fun he => by cases he
    · rw [if_neg h91] at he
      unfold yP61 at he
      split at he
      · cases he
        exact (by decide : (5 : Int) ≠ 0)
      · have hb := fun c => yPl_c (T := T) (B := B) (n := n) (pos := pos) (V := E 330) (f := 8 * st + k) (c := c)
        revert he hb
        cases yPl T B n (E 330) (8 * st + k) pos with
        | inl c =>
          intro he hb
          cases he
          exact hb c rfl
        | inr y => exact fun he => by cases he
theorem yFs_c {rs : Int → Int → Int → Int → Int → Int → yO} (h : ∀ s ow pa, 0 ≤ s → s < T 449 0 → yNmC0 (rs s ow pa)) : ∀ (m : Nat) (k : Int) (E : yE) (pos made cnt : Int) (e : Int × Int × Int), (∀ j, k ≤ j → j < k + m → yWF T st j) → yFs rs T B n me st m k E pos made cnt = .inl e → e.1 ≠ 0
  | 0, _, _, _, _, _, _, _, he => by cases he
  | m + 1, k, E, pos, made, cnt, e, hW, he => by
    unfold yFs at he
    have a := fun e => yFd_c (B := B) (n := n) (pos := pos) (me := me) (E := E) (made := made) (cnt := cnt) (e := e) h (hW k (by omega) (by omega))
    revert he a
    cases yFd rs T B n me (8 * st + k) k E pos made cnt with
    | inl e' =>
      intro he a
      cases he
      exact a _ rfl
    | inr x =>
      intro he a
      obtain ⟨E1, p1, m1, w1, l1⟩ := x
      dsimp only at he
      have b := fun e => yFs_c h m (k + 1) E1 p1 m1 (cnt + l1.length) e (fun j h1 h2 => hW j (by omega) (by omega))
      revert he b
      cases yFs rs T B n me st m (k + 1) E1 p1 m1 (cnt + l1.length) with
      | inl e' =>
        intro he b
        cases he
        exact b _ rfl
      | inr y => exact fun he => by cases he
theorem yS_c (W : yWT T) : ∀ (d : Nat) (s ow pa : Int), 0 ≤ s → s < T 449 0 → yNmC0 (yS T B n d s ow pa)
  | 0, _, _, _, _, _ => fun _ _ _ _ he => by
    cases he
    exact (by decide : (4 : Int) ≠ 0)
  | d + 1, s, ow, pa, hs0, hs1 => fun pos made cnt e he => by
    obtain ⟨c1, c2, c3⟩ := W.2.2 s hs0 hs1
    unfold yS at he
    split at he
    · cases he
      exact (by decide : (5 : Int) ≠ 0)
    · have a := fun e => yFs_c (B := B) (n := n) (me := cnt) (st := s) (yS_c W d) (T 453 s).toNat 0 (fun _ _ => 0) pos (made + 1) (cnt + 1) e (fun j h1 h2 => c3 j h1 (by omega))
      revert he a
      cases yFs (yS T B n d) T B n cnt s (T 453 s).toNat 0 (fun _ _ => 0) pos (made + 1) (cnt + 1) with
      | inl e' =>
        intro he a
        cases he
        exact a _ rfl
      | inr y => exact fun he => by cases he
/-- what the reference tells behind a reading -/
def mTold (t : Int) (T : yT) (o : yO) (v : Int) (u : zS) : Prop := match o with
  | .inl e => v = 0 ∧ u.1 608 0 0 = e.1 ∧ u.1 609 0 0 = e.2.1 ∧ e.1 ≠ 0
  | .inr x => v = 1 ∧ u.1 607 0 0 = x.1 ∧ mIn t T 0 x.2.2.2 u ∧ u.1 608 0 0 = 0 ∧ u.1 609 0 0 = -1
end
/-- the reference has the template and the file -/
def mFile (B : yB) (n : Int) (s : zS) : Prop := s.1 594 0 0 = n ∧ (0 ≤ n ∧ n ≤ 160) ∧ (∀ i, 0 ≤ i → i < n → s.1 595 0 i = B i) ∧ ∀ i, 0 ≤ i → i < n → 0 ≤ B i ∧ B i ≤ 255
/-- nothing but what the reference's reading works with has changed -/
def mfb (s t : zS) : Prop := (∀ (f n : Nat) (i : Int), ¬ (603 ≤ f ∧ f ≤ 630 ∧ n = 0) → t.1 f n i = s.1 f n i) ∧ t.2 = s.2
theorem mfb.rf {s : zS} : mfb s s := ⟨fun _ _ _ _ => rfl, rfl⟩
theorem mfb.tr {s t u : zS} (a : mfb s t) (b : mfb t u) : mfb s u := ⟨fun f n i h => (b.1 f n i h).trans (a.1 f n i h), b.2.trans a.2⟩
theorem mfb.of {s t : zS} (a : mfm s t) : mfb s t := ⟨fun f n i h => a.1 f n i (by omega), a.2⟩
theorem mfb.pw {s t : zS} {f : Nat} {i v : Int} (a : mfb s t) (h : 603 ≤ f ∧ f ≤ 630) : mfb s (zp f 0 i v t) := by
  refine ⟨fun f' n' i' hn => ?_, a.2⟩
  rw [zp_ne (fun z => hn ⟨by omega, by omega, z.2⟩)]
  exact a.1 f' n' i' hn
theorem mRelF.frb {t st k : Int} {T : yT} {s u : zS} (h : mRelF t T st k s) (a : mfb s u) : mRelF t T st k u := by
  have hX : mX t u = mX t s := funext fun p => by unfold mX; rw [a.1 581 0 _ (by omega)]
  have e : ∀ (f : Nat) (i : Int), f < 603 → u.1 f 0 i = s.1 f 0 i := fun f i hf => a.1 f 0 i (by omega)
  unfold mRelF
  simp only [hX, e 581 _ (by decide), e 583 _ (by decide), e 586 _ (by decide), e 587 _ (by decide), e 588 _ (by decide), e 589 _ (by decide), e 590 _ (by decide), e 591 _ (by decide), e 592 _ (by decide), e 593 _ (by decide)]
  exact h
theorem mRel.frb {t : Int} {T : yT} {s u : zS} (h : mRel t T s) (a : mfb s u) : mRel t T u := by
  obtain ⟨h1, h2, h3⟩ := h
  refine ⟨h1, (a.1 582 0 t (by omega)).trans h2, fun st g1 g2 => ?_⟩
  obtain ⟨k1, k2, k3, k4⟩ := h3 st g1 g2
  exact ⟨(a.1 585 0 _ (by omega)).trans k1, (a.1 584 0 _ (by omega)).trans k2, k3, fun k g3 g4 => (k4 k g3 g4).frb a⟩
theorem mFile.frb {B : yB} {n : Int} {s u : zS} (h : mFile B n s) (a : mfb s u) : mFile B n u := by
  obtain ⟨h1, h2, h3, h4⟩ := h
  exact ⟨(a.1 594 0 0 (by omega)).trans h1, h2, fun i g1 g2 => (a.1 595 0 i (by omega)).trans (h3 i g1 g2), h4⟩
theorem mfu_big {N : Nat} (h : N ≤ mL 6 + 5) : N < xfu := Nat.lt_of_le_of_lt h (by decide +kernel)