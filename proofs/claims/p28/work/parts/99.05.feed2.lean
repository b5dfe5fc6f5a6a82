/-! feed: the reference; what a call keeps -/
/-- how the law tells what a method throws: 0 an argument, 1 a state, 2 an index -/
def cd01 (e : Nat) : Int := if e = 0 then 1 else 2
def cd2 (e : Nat) : Int := 1
def cd21 (e : Nat) : Int := if e = 2 then 1 else 2
def cd20 (e : Nat) : Int := if e = 2 then 1 else 2
def cd201 (e : Nat) : Int := if e = 2 then 1 else if e = 0 then 2 else 3
section
variable {A : aA} {s u : zS} {x : Int64} {m n : Int}
/-- nothing of A has changed in the class -/
theorem cR.k (h : cR A s) (a : ∀ (f n : Nat) (i : Int), (f ≤ 1 ∧ n ≤ 1 ∨ 384 ≤ f ∧ f ≤ 388 ∨ 448 ≤ f ∧ f < 469 ∨ f = 515 ∨ f = 522) → u.1 f n i = s.1 f n i) (b : u.2.1 = s.2.1) : cR A u := by
  obtain ⟨h1, h2, h3, h4, h5, h6, h7⟩ := h
  refine ⟨⟨(a 1 0 0 (by omega)).trans h1.1, fun i i1 i2 => (a 0 0 i (by omega)).trans (h1.2 i i1 i2)⟩, ⟨(a 1 1 0 (by omega)).trans h2.1, fun i i1 i2 => (a 0 1 i (by omega)).trans (h2.2 i i1 i2)⟩, ⟨(a 387 0 0 (by omega)).trans h3.1, fun j j1 j2 => ?_⟩, (a 388 0 0 (by omega)).trans h4, ⟨(a 522 0 0 (by omega)).trans h5.1, by rw [b]; exact h5.2⟩, fun k k1 k2 => by rw [a 515 0 k (by omega), b]; exact h6 k k1 k2, fun k k2 f i f1 f2 => (a f k i (by omega)).trans (h7 k k2 f i f1 f2)⟩
  obtain ⟨g1, g2, g3⟩ := h3.2 j j1 j2
  exact ⟨(a 385 0 j (by omega)).trans g1, (a 386 0 j (by omega)).trans g2, fun i i1 i2 => (a 384 0 _ (by omega)).trans (g3 i i1 i2)⟩
/-- nothing of A has changed in the reference -/
theorem mR.k (h : mR A s) (ok : aOK A) (a : ∀ (f : Nat) (i : Int), (577 ≤ f ∧ f ≤ 595 ∨ 598 ≤ f ∧ f ≤ 602) → u.1 f 0 i = s.1 f 0 i) : mR A u := by
  obtain ⟨h1, h2, h3, h4, h5, h6, h7⟩ := h
  obtain ⟨-, -, -, -, o5, o6⟩ := ok
  refine ⟨⟨(a 577 0 (by omega)).trans h1.1, fun i i1 i2 => (a 578 i (by omega)).trans (h1.2 i i1 i2)⟩, ⟨(a 594 0 (by omega)).trans h2.1, fun i i1 i2 => (a 595 i (by omega)).trans (h2.2 i i1 i2)⟩, ⟨(a 599 0 (by omega)).trans h3.1, fun j j1 j2 => ?_⟩, (a 598 0 (by omega)).trans h4, (a 579 0 (by omega)).trans h5, fun k k2 => ?_, fun i => by rw [a 589 i (by omega)]; exact h7 i⟩
  · obtain ⟨g1, g2, g3⟩ := h3.2 j j1 j2
    exact ⟨(a 600 j (by omega)).trans g1, (a 601 j (by omega)).trans g2, fun i i1 i2 => (a 602 _ (by omega)).trans (g3 i i1 i2)⟩
  · obtain ⟨g1, g2⟩ := h6 k k2
    exact ⟨(a 580 k (by omega)).trans g1, g2.c (o6 k k2).1 fun f i hf => a f i (by omega)⟩
/-- the reference says that it throws -/
theorem mThr {e : Nat} {cd : Nat → Int} (h : mR A s) (ok : aOK A) : mOut (zi 0 (zp 576 0 0 (cd e) s)) (.inr e) cd A s := ⟨0, _, rfl, h.k ok fun f i hf => zp_nk (by omega), mFr.rf.pw (by decide), zp_eq⟩
theorem aOK_feed (ok : aOK A) : aOK (sFeed x m A).2 := by
  unfold sFeed
  split
  · exact ok
  · split
    · exact ok
    · obtain ⟨o1, o2, o3, o4, o5, o6⟩ := ok
      refine ⟨⟨?_, fun i i1 i2 => ?_⟩, o2, o3, o4, o5, o6⟩
      · show 0 ≤ A.1 1 0 + m ∧ A.1 1 0 + m ≤ 200
        omega
      · have i2 : i < A.1 1 0 + m := i2
        show 0 ≤ (if (0 : Nat) = 0 ∧ A.1 1 0 ≤ i ∧ i < A.1 1 0 + m then aByte x (i - A.1 1 0) else if (0 : Nat) = 1 then A.1 1 0 + m else A.1 0 i) ∧ (if (0 : Nat) = 0 ∧ A.1 1 0 ≤ i ∧ i < A.1 1 0 + m then aByte x (i - A.1 1 0) else if (0 : Nat) = 1 then A.1 1 0 + m else A.1 0 i) ≤ 255
        by_cases d : A.1 1 0 ≤ i
        · rw [if_pos ⟨rfl, d, i2⟩]
          exact aByte_b x _
        · rw [if_neg (fun z => d z.2.1), if_neg (by decide)]
          exact o1.2 i i1 (by omega)
end
