/-! WHAT CLASS AND REFERENCE HOLD between calls, as one abstract state A: A.1 by column: 0 the tape, 1 its length (at 0), 2 the file, 3 its length, 384 the states' bytes (160 a state), 385 their lengths, 386 their parents, 387 how many, 388 the present one, 522 how many templates; A.2 k: template k's tables (448: its rank) -/
abbrev aA : Type := (Nat → Int → Int) × (Nat → yT)
def aOK (A : aA) : Prop :=
  ((0 ≤ A.1 1 0 ∧ A.1 1 0 ≤ 200) ∧ ∀ i, 0 ≤ i → i < A.1 1 0 → 0 ≤ A.1 0 i ∧ A.1 0 i ≤ 255)
  ∧ ((0 ≤ A.1 3 0 ∧ A.1 3 0 ≤ 160) ∧ ∀ i, 0 ≤ i → i < A.1 3 0 → 0 ≤ A.1 2 i ∧ A.1 2 i ≤ 255)
  ∧ ((0 ≤ A.1 387 0 ∧ A.1 387 0 ≤ 30) ∧ ∀ j, 0 ≤ j → j < A.1 387 0 → (0 ≤ A.1 385 j ∧ A.1 385 j ≤ 160) ∧ (-1 ≤ A.1 386 j ∧ A.1 386 j < 30) ∧ ∀ i, 0 ≤ i → i < A.1 385 j → 0 ≤ A.1 384 (160 * j + i) ∧ A.1 384 (160 * j + i) ≤ 255)
  ∧ (-1 ≤ A.1 388 0 ∧ A.1 388 0 < 30)
  ∧ (0 ≤ A.1 522 0 ∧ A.1 522 0 ≤ 4) ∧ ∀ k : Nat, (k : Int) < A.1 522 0 → yWT (A.2 k) ∧ 0 ≤ A.2 k 448 0 ∧ A.2 k 448 0 ≤ 9 ∧ yBE (A.2 k)
/-- the class holds A -/
def cR (A : aA) (s : zS) : Prop :=
  (s.1 1 0 0 = A.1 1 0 ∧ ∀ i, 0 ≤ i → i < A.1 1 0 → s.1 0 0 i = A.1 0 i)
  ∧ (s.1 1 1 0 = A.1 3 0 ∧ ∀ i, 0 ≤ i → i < A.1 3 0 → s.1 0 1 i = A.1 2 i)
  ∧ (s.1 387 0 0 = A.1 387 0 ∧ ∀ j, 0 ≤ j → j < A.1 387 0 → s.1 385 0 j = A.1 385 j ∧ s.1 386 0 j = A.1 386 j ∧ ∀ i, 0 ≤ i → i < A.1 385 j → s.1 384 0 (160 * j + i) = A.1 384 (160 * j + i))
  ∧ s.1 388 0 0 = A.1 388 0
  ∧ (s.1 522 0 0 = A.1 522 0 ∧ (A.1 522 0 = s.2.1 ∨ A.1 522 0 + 1 = s.2.1) ∧ s.2.1 ≤ 4)
  ∧ (∀ k : Int, 0 ≤ k → k < 4 → s.1 515 0 k = if k < s.2.1 then k + 1 else 0)
  ∧ ∀ k : Nat, (k : Int) < A.1 522 0 → ∀ (f : Nat) (i : Int), 448 ≤ f → f < 469 → s.1 f k i = A.2 k f i
/-- the reference holds A -/
def mR (A : aA) (s : zS) : Prop :=
  (s.1 577 0 0 = A.1 1 0 ∧ ∀ i, 0 ≤ i → i < A.1 1 0 → s.1 578 0 i = A.1 0 i)
  ∧ (s.1 594 0 0 = A.1 3 0 ∧ ∀ i, 0 ≤ i → i < A.1 3 0 → s.1 595 0 i = A.1 2 i)
  ∧ (s.1 599 0 0 = A.1 387 0 ∧ ∀ j, 0 ≤ j → j < A.1 387 0 → s.1 600 0 j = A.1 385 j ∧ s.1 601 0 j = A.1 386 j ∧ ∀ i, 0 ≤ i → i < A.1 385 j → s.1 602 0 (160 * j + i) = A.1 384 (160 * j + i))
  ∧ s.1 598 0 0 = A.1 388 0
  ∧ s.1 579 0 0 = A.1 522 0
  ∧ (∀ k : Nat, (k : Int) < A.1 522 0 → s.1 580 0 k = A.2 k 448 0 ∧ mRel k (A.2 k) s)
  ∧ ∀ i, -48 ≤ s.1 589 0 i ∧ s.1 589 0 i ≤ 207
/-- whether the file can be read by template k -/
def aRd (A : aA) (k : Nat) : yO := yTop (A.2 k) (A.1 2) (A.1 3 0) 0 0
def aFine (o : yO) : Bool := match o with
  | .inl _ => false
  | .inr _ => true
/-- the template of the file, from template k on -/
def aBest (A : aA) : Nat → Nat → Int → Int
  | 0, _, b => b
  | m + 1, k, b => aBest A m (k + 1) (if aFine (aRd A k) = true ∧ (b = -1 ∨ A.2 b.toNat 448 0 < A.2 k 448 0) then (k : Int) else b)
def aChosen (A : aA) : Int := aBest A (A.1 522 0).toNat 0 (-1)
/-- what the class remembers of the chosen template -/
def cC (A : aA) (s : zS) : Prop := s.1 523 0 0 = -3 ∨ (s.1 523 0 0 = aChosen A ∧ (if aChosen A = -1 then s.1 199 0 0 = 0 ∧ s.1 321 0 0 = 0 else s.1 321 0 0 = aChosen A + 1 ∧ s.1 322 0 0 = 2 ∧ yTold 0 (aRd A (aChosen A).toNat) 1 s))
/-- the class's calls leave the reference as it is, the reference's calls the class -/
def cFr (s u : zS) : Prop := ∀ (f n : Nat) (i : Int), 576 ≤ f → f ≤ 640 → u.1 f n i = s.1 f n i
def mFr (s u : zS) : Prop := (∀ (f n : Nat) (i : Int), ¬ (576 ≤ f ∧ f ≤ 640) → u.1 f n i = s.1 f n i) ∧ u.2 = s.2
section
variable {A : aA} {s u v : zS}
theorem cFr.rf : cFr s s := fun _ _ _ _ _ => rfl
theorem cFr.tr (a : cFr s u) (b : cFr u v) : cFr s v := fun f n i h1 h2 => (b f n i h1 h2).trans (a f n i h1 h2)
theorem cFr.pw {f n : Nat} {i w : Int} (a : cFr s u) (h : ¬ (576 ≤ f ∧ f ≤ 640)) : cFr s (zp f n i w u) := fun f' n' i' h1 h2 => (zp_nk (by omega)).trans (a f' n' i' h1 h2)
theorem mFr.rf : mFr s s := ⟨fun _ _ _ _ => rfl, rfl⟩
theorem mFr.tr (a : mFr s u) (b : mFr u v) : mFr s v := ⟨fun f n i h => (b.1 f n i h).trans (a.1 f n i h), b.2.trans a.2⟩
theorem mFr.pw {f n : Nat} {i w : Int} (a : mFr s u) (h : 576 ≤ f ∧ f ≤ 640) : mFr s (zp f n i w u) := ⟨fun f' n' i' hn => (zp_nk (by omega)).trans (a.1 f' n' i' hn), a.2⟩
theorem mR.fr (h : mR A s) (ok : aOK A) (a : cFr s u) : mR A u := by
  obtain ⟨h1, h2, h3, h4, h5, h6, h7⟩ := h
  obtain ⟨-, -, -, -, o5, o6⟩ := ok
  refine ⟨⟨(a 577 0 0 (by decide) (by decide)).trans h1.1, fun i i1 i2 => (a 578 0 i (by decide) (by decide)).trans (h1.2 i i1 i2)⟩, ⟨(a 594 0 0 (by decide) (by decide)).trans h2.1, fun i i1 i2 => (a 595 0 i (by decide) (by decide)).trans (h2.2 i i1 i2)⟩, ⟨(a 599 0 0 (by decide) (by decide)).trans h3.1, fun j j1 j2 => ?_⟩, (a 598 0 0 (by decide) (by decide)).trans h4, (a 579 0 0 (by decide) (by decide)).trans h5, fun k k2 => ?_, fun i => by rw [a 589 0 i (by decide) (by decide)]; exact h7 i⟩
  · obtain ⟨g1, g2, g3⟩ := h3.2 j j1 j2
    exact ⟨(a 600 0 j (by decide) (by decide)).trans g1, (a 601 0 j (by decide) (by decide)).trans g2, fun i i1 i2 => (a 602 0 _ (by decide) (by decide)).trans (g3 i i1 i2)⟩
  · obtain ⟨g1, g2⟩ := h6 k k2
    exact ⟨(a 580 0 k (by decide) (by decide)).trans g1, g2.c (o6 k k2).1 fun f i hf => a f 0 i (by omega) (by omega)⟩
theorem cR.fr (h : cR A s) (a : mFr s u) : cR A u := by
  obtain ⟨h1, h2, h3, h4, h5, h6, h7⟩ := h
  have e : ∀ (f n : Nat) (i : Int), f < 576 → u.1 f n i = s.1 f n i := fun f n i hf => a.1 f n i (by omega)
  refine ⟨⟨(e 1 0 0 (by decide)).trans h1.1, fun i i1 i2 => (e 0 0 i (by decide)).trans (h1.2 i i1 i2)⟩, ⟨(e 1 1 0 (by decide)).trans h2.1, fun i i1 i2 => (e 0 1 i (by decide)).trans (h2.2 i i1 i2)⟩, ⟨(e 387 0 0 (by decide)).trans h3.1, fun j j1 j2 => ?_⟩, (e 388 0 0 (by decide)).trans h4, ⟨(e 522 0 0 (by decide)).trans h5.1, by rw [a.2]; exact h5.2⟩, fun k k1 k2 => ?_, fun k k2 f i f1 f2 => (e f k i (by omega)).trans (h7 k k2 f i f1 f2)⟩
  · obtain ⟨g1, g2, g3⟩ := h3.2 j j1 j2
    exact ⟨(e 385 0 j (by decide)).trans g1, (e 386 0 j (by decide)).trans g2, fun i i1 i2 => (e 384 0 _ (by decide)).trans (g3 i i1 i2)⟩
  · rw [e 515 0 k (by decide), a.2]
    exact h6 k k1 k2
theorem cC.fr (h : cC A s) (a : mFr s u) : cC A u := by
  have e : ∀ (f n : Nat) (i : Int), f < 576 → u.1 f n i = s.1 f n i := fun f n i hf => a.1 f n i (by omega)
  unfold cC at h ⊢
  rw [e 523 0 0 (by decide), e 199 0 0 (by decide), e 321 0 0 (by decide), e 322 0 0 (by decide)]
  rcases h with h | ⟨h1, h2⟩
  · exact Or.inl h
  · right
    refine ⟨h1, ?_⟩
    by_cases c : aChosen A = -1
    · rw [if_pos c] at h2 ⊢
      exact h2
    · rw [if_neg c] at h2 ⊢
      refine ⟨h2.1, h2.2.1, ?_⟩
      have h3 := h2.2.2
      revert h3
      generalize aRd A (aChosen A).toNat = o
      unfold yTold
      cases o with
      | inl z =>
        intro h3
        exact absurd h3.1 (by decide)
      | inr x =>
        intro h3
        obtain ⟨g1, g2, g3, g4, g5, g6⟩ := h3
        refine ⟨g1, (e 323 0 0 (by decide)).trans g2, (e 327 0 0 (by decide)).trans g3, ⟨(e 199 0 0 (by decide)).trans g4.1, fun j y hy c c1 c2 => (e c 0 _ (by omega)).trans (g4.2 j y hy c c1 c2)⟩, (e 325 0 0 (by decide)).trans g5, (e 326 0 0 (by decide)).trans g6⟩
end
