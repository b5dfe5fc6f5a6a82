/-! give -/
section
variable {A : aA} {s u : zS}
/-- a row of bytes is copied -/
theorem C5_18 {d b : Nat} {n : Int} (hd : d < 3 ∧ 1 ≤ d) (hb : b < 3 ∧ b ≠ d) (hn : n ≤ 160) : ∀ (k M : Nat) (q : Int) (s : zS), k < M → k = (n - q).toNat → 0 ≤ q → s.1 1 d 0 = n → ∃ u, zf_5_18 M d b q s = zi 0 u ∧ (∀ (f' n' : Nat) (i' : Int), ¬ (n' = d ∧ f' = 0) → u.1 f' n' i' = s.1 f' n' i') ∧ u.2 = s.2 ∧ (∀ i, q ≤ i → i < n → u.1 0 d i = s.1 0 b i) ∧ ∀ i, i < q → u.1 0 d i = s.1 0 d i := by
  have l1 : zlB d = 160 := by
    unfold zlB
    rw [if_neg (by omega)]
  have l2 : 160 ≤ zlB b := by
    unfold zlB
    split <;> decide
  intro k
  induction k with
  | zero =>
    intro M q s hM hk q0 h1
    obtain ⟨M, rfl⟩ : ∃ L, M = L + 1 := ⟨M - 1, by omega⟩
    unfold zf_5_18
    rw [h1, if_pos (by omega)]
    exact ⟨s, rfl, fun _ _ _ _ => rfl, rfl, fun i i1 i2 => by omega, fun i _ => rfl⟩
  | succ k ih =>
    intro M q s hM hk q0 h1
    obtain ⟨M, rfl⟩ : ∃ L, M = L + 1 := ⟨M - 1, by omega⟩
    unfold zf_5_18
    rw [h1, if_neg (by omega), zn_ok (by omega), zW_ok (by rw [l1]; omega), zg_ok ⟨by omega, by omega⟩]
    obtain ⟨u, a1, a2, a3, a4, a5⟩ := ih M (q + 1) (zp 0 d q (s.1 0 b q) s) (by omega) (by omega) (by omega) ((zp_nk (by decide)).trans h1)
    refine ⟨u, a1, fun f' n' i' hn => (a2 f' n' i' hn).trans (zp_n3 (by omega)), a3, fun i i1 i2 => ?_, fun i i1 => ?_⟩
    · by_cases e : i = q
      · rw [a5 i (by omega), e, zp_eq]
      · rw [a4 i (by omega) i2, zp_n3 (by omega)]
    · rw [a5 i (by omega), zp_ni (by omega)]
theorem C5 {d b : Nat} {n : Int} (hd : d < 3 ∧ 1 ≤ d) (hb : b < 3 ∧ b ≠ d) (hn : 0 ≤ n ∧ n ≤ 160) (h1 : s.1 1 b 0 = n) : ∃ u, zf_5 d b s = zi 0 u ∧ (∀ (f' n' : Nat) (i' : Int), ¬ (n' = d ∧ (f' = 0 ∨ f' = 1)) → u.1 f' n' i' = s.1 f' n' i') ∧ u.2 = s.2 ∧ u.1 1 d 0 = n ∧ ∀ i, 0 ≤ i → i < n → u.1 0 d i = s.1 0 b i := by
  have l1 : zlB d = 160 := by
    unfold zlB
    rw [if_neg (by omega)]
  unfold zf_5 zf_24
  rw [h1, l1, if_neg (by omega), zC_zi, zP_ok]
  obtain ⟨u, a1, a2, a3, a4, a5⟩ := C5_18 (n := n) hd hb hn.2 (n - 0).toNat xfu 0 (zp 1 d 0 n s) (pa_fu (by omega)) rfl (Int.le_refl _) zp_eq
  refine ⟨u, a1, fun f' n' i' hn => (a2 f' n' i' (by omega)).trans (zp_n3 (by omega)), a3, (a2 1 d 0 (by omega)).trans zp_eq, fun i i1 i2 => (a4 i i1 i2).trans (zp_nk (by decide))⟩
theorem C106 (h : cR A s) (ok : aOK A) (c : cC A s) : cOut (zf_106 0 s) (sGive A).1 (sGive A).2 s := by
  obtain ⟨h1, h2, h3, h4, h5, h6, h7⟩ := id h
  obtain ⟨o1, o2, o3, o4, o5, o6⟩ := id ok
  unfold zf_106 sGive
  -- it is refused
  have no : cOut (zf_106_28 0 0 s) (.inr 1) (aNoTape A) s := by
    unfold zf_106_28 zf_106_44
    rw [if_pos rfl, zP_ok, if_pos rfl]
    refine ⟨_, rfl, ?_, c.c rfl rfl rfl rfl fun f i hf => zp_nk (f := 1) (by omega), fun f n i f1 f2 => zp_nk (f := 1) (by omega), Nat.le_refl _⟩
    have e : ∀ (f' n' : Nat) (i' : Int), f' ≠ 1 → (zp 1 0 0 0 s).1 f' n' i' = s.1 f' n' i' := fun f' n' i' f1 => zp_nk f1
    refine ⟨⟨show (zp 1 0 0 0 s).1 1 0 0 = 0 from zp_eq, fun i i1 i2 => absurd i2 (Int.not_lt.mpr i1)⟩, ⟨(show (zp 1 0 0 0 s).1 1 1 0 = s.1 1 1 0 from zp_n3 (by decide)).trans h2.1, fun i i1 i2 => (e 0 1 i (by decide)).trans (h2.2 i i1 i2)⟩, ⟨(e 387 0 0 (by decide)).trans h3.1, fun j j1 j2 => ?_⟩, (e 388 0 0 (by decide)).trans h4, ⟨(e 522 0 0 (by decide)).trans h5.1, h5.2⟩, fun k k1 k2 => (e 515 0 k (by decide)).trans (h6 k k1 k2), fun k k2 f i f1 f2 => (e f k i (by omega)).trans (h7 k k2 f i f1 f2)⟩
    obtain ⟨g1, g2, g3⟩ := h3.2 j j1 j2
    exact ⟨(e 385 0 j (by decide)).trans g1, (e 386 0 j (by decide)).trans g2, fun i i1 i2 => (e 384 0 _ (by decide)).trans (g3 i i1 i2)⟩
  rw [h1.1]
  by_cases c1 : 160 < A.1 1 0
  · rw [if_pos c1, if_neg (fun z => by omega)]
    exact no
  · unfold zf_88
    rw [if_neg c1, h3.1]
    by_cases c2 : A.1 387 0 < 30
    · rw [if_pos c2, if_pos (show A.1 1 0 ≤ 160 ∧ A.1 387 0 ≠ 30 by omega), zz0, zC_zi, if_pos rfl]
      unfold zf_106_28 zf_106_44
      rw [if_neg (by decide)]
      obtain ⟨v, a1, a2, a3, a4, a5⟩ := C5 (d := 1) (b := 0) (s := s) (n := A.1 1 0) (by decide) (by decide) (by omega) h1.1
      rw [a1, zC_zi, zP_ok, if_neg (by decide)]
      have e : ∀ (f' n' : Nat) (i' : Int), f' ≠ 0 → f' ≠ 1 → (zp 1 0 0 0 v).1 f' n' i' = s.1 f' n' i' := fun f' n' i' f1 f2 => (zp_nk f2).trans (a2 f' n' i' (by omega))
      have cT : cR (aTake A) (zp 1 0 0 0 v) := by
        refine ⟨⟨zp_eq, fun i i1 i2 => absurd i2 (Int.not_lt.mpr i1)⟩, ⟨(zp_n3 (by omega)).trans a4, fun i i1 i2 => ?_⟩, ⟨(e 387 0 0 (by decide) (by decide)).trans h3.1, fun j j1 j2 => ?_⟩, (e 388 0 0 (by decide) (by decide)).trans h4, ⟨(e 522 0 0 (by decide) (by decide)).trans h5.1, by rw [show (zp 1 0 0 0 v).2 = s.2 from a3]; exact h5.2⟩, fun k k1 k2 => by rw [e 515 0 k (by decide) (by decide), show (zp 1 0 0 0 v).2 = s.2 from a3]; exact h6 k k1 k2, fun k k2 f i f1 f2 => (e f k i (by omega) (by omega)).trans (h7 k k2 f i f1 f2)⟩
        · have i2 : i < A.1 1 0 := i2
          rw [zp_nk (by decide), a5 i i1 i2]
          exact h1.2 i i1 i2
        · obtain ⟨g1, g2, g3⟩ := h3.2 j j1 j2
          exact ⟨(e 385 0 j (by decide) (by decide)).trans g1, (e 386 0 j (by decide) (by decide)).trans g2, fun i i1 i2 => (e 384 0 _ (by decide) (by decide)).trans (g3 i i1 i2)⟩
      have okT : aOK (aTake A) := ⟨⟨by show (0 : Int) ≤ 0 ∧ (0 : Int) ≤ 200; decide, fun i i1 i2 => absurd i2 (Int.not_lt.mpr i1)⟩, ⟨by show 0 ≤ A.1 1 0 ∧ A.1 1 0 ≤ 160; omega, o1.2⟩, o3, o4, o5, o6⟩
      obtain ⟨u, b1, b2, b3, b4, b5⟩ := C131 cT okT c2
      rw [b1, zC_zi]
      exact ⟨u, rfl, b2, Or.inl b3, fun f n i f1 f2 => (b4 f n i f1 f2).trans (e f n i (by omega) (by omega)), by rw [b5, show (zp 1 0 0 0 v).2 = s.2 from a3]; omega⟩
    · rw [if_neg c2, zz1, zC_zi, if_neg (by decide), if_neg (fun z => by omega)]
      exact no
theorem aOK_give (ok : aOK A) : aOK (sGive A).2 := by
  obtain ⟨o1, o2, o3, o4, o5, o6⟩ := id ok
  unfold sGive
  split
  · rename_i c
    refine aOK_keep ⟨⟨by show (0 : Int) ≤ 0 ∧ (0 : Int) ≤ 200; decide, fun i i1 i2 => absurd i2 (Int.not_lt.mpr i1)⟩, ⟨by show 0 ≤ A.1 1 0 ∧ A.1 1 0 ≤ 160; omega, o1.2⟩, o3, o4, o5, o6⟩ ?_
    show A.1 387 0 < 30
    omega
  · exact ⟨⟨by show (0 : Int) ≤ 0 ∧ (0 : Int) ≤ 200; decide, fun i i1 i2 => absurd i2 (Int.not_lt.mpr i1)⟩, o2, o3, o4, o5, o6⟩
end
