/-! feed: the reference; what a call keeps -/
/-- how the law tells what a method throws: 0 an argument, 1 a state, 2 an index -/
def cd01 (e : Nat) : Int := if e = 0 then 1 else 2
def cd2 (e : Nat) : Int := 1
def cd21 (e : Nat) : Int := if e = 2 then 1 else 2
def cd20 (e : Nat) : Int := if e = 2 then 1 else 2
def cd201 (e : Nat) : Int := if e = 2 then 1 else if e = 0 then 2 else 3
section
variable {A : aA} {s u : zS} {x : Int64} {m n : Int}
/-- nothing of A has changed in the class -/
theorem cR.k (h : cR A s) (a : ∀ (f n : Nat) (i : Int), (f ≤ 1 ∧ n ≤ 1 ∨ 384 ≤ f ∧ f ≤ 388 ∨ 448 ≤ f ∧ f < 469 ∨ f = 515 ∨ f = 522) → u.1 f n i = s.1 f n i) (b : u.2.1 = s.2.1) : cR A u := by
  obtain ⟨h1, h2, h3, h4, h5, h6, h7⟩ := h
  refine ⟨⟨(a 1 0 0 (by omega)).trans h1.1, fun i i1 i2 => (a 0 0 i (by omega)).trans (h1.2 i i1 i2)⟩, ⟨(a 1 1 0 (by omega)).trans h2.1, fun i i1 i2 => (a 0 1 i (by omega)).trans (h2.2 i i1 i2)⟩, ⟨(a 387 0 0 (by omega)).trans h3.1, fun j j1 j2 => ?_⟩, (a 388 0 0 (by omega)).trans h4, ⟨(a 522 0 0 (by omega)).trans h5.1, by rw [b]; exact h5.2⟩, fun k k1 k2 => by rw [a 515 0 k (by omega), b]; exact h6 k k1 k2, fun k k2 f i f1 f2 => (a f k i (by omega)).trans (h7 k k2 f i f1 f2)⟩
  obtain ⟨g1, g2, g3⟩ := h3.2 j j1 j2
  exact ⟨(a 385 0 j (by omega)).trans g1, (a 386 0 j (by omega)).trans g2, fun i i1 i2 => (a 384 0 _ (by omega)).trans (g3 i i1 i2)⟩
/-- nothing of A has changed in the reference -/
theorem mR.k (h : mR A s) (ok : aOK A) (a : ∀ (f : Nat) (i : Int), (577 ≤ f ∧ f ≤ 595 ∨ 598 ≤ f ∧ f ≤ 602) → u.1 f 0 i = s.1 f 0 i) : mR A u := by
  obtain ⟨h1, h2, h3, h4, h5, h6, h7⟩ := h
  obtain ⟨-, -, -, -, o5, o6⟩ := ok
  refine ⟨⟨(a 577 0 (by omega)).trans h1.1, fun i i1 i2 => (a 578 i (by omega)).trans (h1.2 i i1 i2)⟩, ⟨(a 594 0 (by omega)).trans h2.1, fun i i1 i2 => (a 595 i (by omega)).trans (h2.2 i i1 i2)⟩, ⟨(a 599 0 (by omega)).trans h3.1, fun j j1 j2 => ?_⟩, (a 598 0 (by omega)).trans h4, (a 579 0 (by omega)).trans h5, fun k k2 => ?_, fun i => by rw [a 589 i (by omega)]; exact h7 i⟩
  · obtain ⟨g1, g2, g3⟩ := h3.2 j j1 j2
    exact ⟨(a 600 j (by omega)).trans g1, (a 601 j (by omega)).trans g2, fun i i1 i2 => (a 602 _ (by omega)).trans (g3 i i1 i2)⟩
  · obtain ⟨g1, g2⟩ := h6 k k2
    exact ⟨(a 580 k (by omega)).trans g1, g2.c (o6 k k2).1 fun f i hf => a f i (by omega)⟩
theorem M147_47 (hn : 0 ≤ n) (hm : m ≤ 8 ∧ n + m ≤ 200) : ∀ (j M : Nat) (k : Int) (s : zS), j < M → j = (m - k).toNat → 0 ≤ k → k ≤ m → s.1 577 0 0 = n + k → ∃ u, zf_147_47 M 0 x m k s = zi (n + m) u ∧ (∀ (f' n' : Nat) (i' : Int), ¬ (n' = 0 ∧ (f' = 577 ∨ f' = 578 ∧ n + k ≤ i' ∧ i' < n + m)) → u.1 f' n' i' = s.1 f' n' i') ∧ u.2 = s.2 ∧ u.1 577 0 0 = n + m ∧ ∀ i, k ≤ i → i < m → u.1 578 0 (n + i) = aByte x i := by
  intro j
  induction j with
  | zero =>
    intro M k s hM hj k0 km h1
    obtain ⟨M, rfl⟩ : ∃ L, M = L + 1 := ⟨M - 1, by omega⟩
    unfold zf_147_47
    rw [if_pos (by omega), h1, show k = m by omega]
    exact ⟨s, rfl, fun _ _ _ _ => rfl, rfl, by rw [h1]; omega, fun i i1 i2 => by omega⟩
  | succ j ih =>
    intro M k s hM hj k0 km h1
    obtain ⟨M, rfl⟩ : ∃ L, M = L + 1 := ⟨M - 1, by omega⟩
    unfold zf_147_47
    rw [if_neg (by omega), zg_ok ⟨by omega, by omega⟩, h1, zW_ok (by omega), zp_nk (by decide), h1, zg_ok ⟨by omega, by omega⟩, zP_ok, zg_ok ⟨by omega, by omega⟩]
    obtain ⟨u, a1, a2, a3, a4, a5⟩ := ih M (k + 1) (zp 577 0 0 (n + k + 1) (zp 578 0 (n + k) (aByte x k) s)) (by omega) (by omega) (by omega) (by omega) (by rw [zp_eq]; omega)
    refine ⟨u, a1, fun f' n' i' hn => ?_, a3, a4, fun i i1 i2 => ?_⟩
    · rw [a2 f' n' i' (by omega), zp_n3 (by omega), zp_n3 (by omega)]
    · by_cases d : i = k
      · rw [a2 578 0 _ (by omega), zp_nk (by decide), d, zp_eq]
      · exact a5 i (by omega) i2
/-- the reference says that it throws -/
theorem mThr {e : Nat} {cd : Nat → Int} (h : mR A s) (ok : aOK A) : mOut (zi 0 (zp 576 0 0 (cd e) s)) (.inr e) cd A s := ⟨0, _, rfl, h.k ok fun f i hf => zp_nk (by omega), mFr.rf.pw (by decide), zp_eq⟩
theorem M147 (h : mR A s) (ok : aOK A) : mOut (zf_147 0 x m s) (sFeed x m A).1 cd01 (sFeed x m A).2 s := by
  obtain ⟨h1, h2, h3, h4, h5, h6, h7⟩ := id h
  have o1 := ok.1.1
  unfold zf_147 sFeed zf_147_32
  rw [z146, zC_zi]
  by_cases c1 : 1 ≤ m ∧ m ≤ 8
  · rw [if_pos c1, if_neg (by decide), if_neg (show ¬ (m < 1 ∨ 8 < m) by omega), h1.1, zg_ok ⟨by omega, by omega⟩]
    by_cases c3 : A.1 1 0 + m ≤ 200
    · rw [if_pos c3, if_neg (show ¬ 200 < A.1 1 0 + m by omega), zP_ok, if_pos (by rw [zp_eq]; decide)]
      obtain ⟨u, a1, a2, a3, a4, a5⟩ := M147_47 (x := x) (n := A.1 1 0) (m := m) o1.1 ⟨c1.2, c3⟩ (m - 0).toNat xfu 0 (zp 576 0 0 0 s) (pa_fu (by omega)) rfl (Int.le_refl _) (by omega) (by rw [zp_nk (by decide), h1.1]; omega)
      have b : ∀ (f n : Nat) (i : Int), f ≠ 576 → f ≠ 577 → f ≠ 578 → u.1 f n i = s.1 f n i := fun f n i f1 f2 f3 => (a2 f n i (by omega)).trans (zp_nk f1)
      refine ⟨_, u, a1, ?_, ⟨fun f' n' i' hn => b f' n' i' (by omega) (by omega) (by omega), a3⟩, rfl, (a2 576 0 0 (by omega)).trans zp_eq⟩
      refine ⟨⟨a4, fun i i1 i2 => ?_⟩, ⟨(b 594 0 0 (by decide) (by decide) (by decide)).trans h2.1, fun i i1 i2 => (b 595 0 i (by decide) (by decide) (by decide)).trans (h2.2 i i1 i2)⟩, ⟨(b 599 0 0 (by decide) (by decide) (by decide)).trans h3.1, fun j j1 j2 => ?_⟩, (b 598 0 0 (by decide) (by decide) (by decide)).trans h4, (b 579 0 0 (by decide) (by decide) (by decide)).trans h5, fun k k2 => ?_, fun i => by rw [b 589 0 i (by decide) (by decide) (by decide)]; exact h7 i⟩
      · have i2 : i < A.1 1 0 + m := i2
        show _ = (if (0 : Nat) = 0 ∧ A.1 1 0 ≤ i ∧ i < A.1 1 0 + m then aByte x (i - A.1 1 0) else if (0 : Nat) = 1 then A.1 1 0 + m else A.1 0 i)
        by_cases d : A.1 1 0 ≤ i
        · rw [if_pos ⟨rfl, d, i2⟩, ← a5 (i - A.1 1 0) (by omega) (by omega), show A.1 1 0 + (i - A.1 1 0) = i by omega]
        · rw [if_neg (fun z => d z.2.1), if_neg (by decide), a2 578 0 i (by omega), zp_nk (by decide)]
          exact h1.2 i i1 (by omega)
      · obtain ⟨g1, g2, g3⟩ := h3.2 j j1 j2
        exact ⟨(b 600 0 j (by decide) (by decide) (by decide)).trans g1, (b 601 0 j (by decide) (by decide) (by decide)).trans g2, fun i i1 i2 => (b 602 0 _ (by decide) (by decide) (by decide)).trans (g3 i i1 i2)⟩
      · obtain ⟨g1, g2⟩ := h6 k k2
        exact ⟨(b 580 0 k (by decide) (by decide) (by decide)).trans g1, g2.c (ok.2.2.2.2.2 k k2).1 fun f i hf => b f 0 i (by omega) (by omega) (by omega)⟩
    · rw [if_neg c3, if_pos (show 200 < A.1 1 0 + m by omega), zP_ok, if_neg (by rw [zp_eq]; decide)]
      exact mThr (e := 1) (cd := cd01) h ok
  · rw [if_neg c1, if_pos rfl, if_pos (show m < 1 ∨ 8 < m by omega), zP_ok, if_neg (by rw [zp_eq]; decide)]
    exact mThr (e := 0) (cd := cd01) h ok
theorem aOK_feed (ok : aOK A) : aOK (sFeed x m A).2 := by
  unfold sFeed
  split
  · exact ok
  · split
    · exact ok
    · obtain ⟨o1, o2, o3, o4, o5, o6⟩ := ok
      refine ⟨⟨?_, fun i i1 i2 => ?_⟩, o2, o3, o4, o5, o6⟩
      · show 0 ≤ A.1 1 0 + m ∧ A.1 1 0 + m ≤ 200
        omega
      · have i2 : i < A.1 1 0 + m := i2
        show 0 ≤ (if (0 : Nat) = 0 ∧ A.1 1 0 ≤ i ∧ i < A.1 1 0 + m then aByte x (i - A.1 1 0) else if (0 : Nat) = 1 then A.1 1 0 + m else A.1 0 i) ∧ (if (0 : Nat) = 0 ∧ A.1 1 0 ≤ i ∧ i < A.1 1 0 + m then aByte x (i - A.1 1 0) else if (0 : Nat) = 1 then A.1 1 0 + m else A.1 0 i) ≤ 255
        by_cases d : A.1 1 0 ≤ i
        · rw [if_pos ⟨rfl, d, i2⟩]
          exact aByte_b x _
        · rw [if_neg (fun z => d z.2.1), if_neg (by decide)]
          exact o1.2 i i1 (by omega)
end
