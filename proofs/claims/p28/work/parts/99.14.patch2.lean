/-! patch -/
def aPut (A : aA) (a b y : Int) : aA := (fun f i => if f = 2 then (if i < aP A a b + y then A.1 2 i else if i < aP A a b + y + aCome A a b then aSt A b (i - y) else A.1 2 (i - aCome A a b + aGo1 A a b)) else if f = 3 then A.1 3 0 - aGo1 A a b + aCome A a b else A.1 f i, A.2)
def sPatch (a b : Int) (A : aA) : (Int ⊕ Nat) × aA := if (0 ≤ a ∧ a < A.1 387 0) ∧ 0 ≤ b ∧ b < A.1 387 0 then (match aPl A a b 161 0 with
  | none => (.inr 1, A)
  | some y => if A.1 387 0 = 30 ∨ 160 < A.1 3 0 - aGo1 A a b + aCome A a b then (.inr 1, A) else (.inl (A.1 387 0), aKeep (aPut A a b y))) else (.inr 2, A)
section
variable {A : aA} {s u : zS} {a b y : Int}
theorem aAt_b (h : aAt A a b y = true) : 0 ≤ aLo A a b + y ∧ aHi A a b + y ≤ A.1 3 0 := by
  unfold aAt at h
  by_cases c : 0 ≤ aLo A a b + y ∧ aHi A a b + y ≤ A.1 3 0
  · exact c
  · rw [decide_eq_false c, Bool.false_and] at h
    cases h
theorem aPut_2 {i : Int} : (aPut A a b y).1 2 i = if i < aP A a b + y then A.1 2 i else if i < aP A a b + y + aCome A a b then aSt A b (i - y) else A.1 2 (i - aCome A a b + aGo1 A a b) := rfl
theorem aOK_put (ok : aOK A) (h2 : aTwo A a b) (hy : aAt A a b y = true) (hn : A.1 3 0 - aGo1 A a b + aCome A a b ≤ 160) : aOK (aPut A a b y) := by
  have B := aPE_b ok h2
  have H := aHL_b ok h2
  have Y := aAt_b hy
  obtain ⟨o1, o2, o3, o4, o5, o6⟩ := ok
  refine ⟨o1, ⟨?_, fun i i1 i2 => ?_⟩, o3, o4, o5, o6⟩
  · show 0 ≤ A.1 3 0 - aGo1 A a b + aCome A a b ∧ A.1 3 0 - aGo1 A a b + aCome A a b ≤ 160
    omega
  · have i2 : i < A.1 3 0 - aGo1 A a b + aCome A a b := i2
    rw [aPut_2]
    by_cases c1 : i < aP A a b + y
    · rw [if_pos c1]
      exact o2.2 i i1 (by omega)
    · rw [if_neg c1]
      by_cases c2 : i < aP A a b + y + aCome A a b
      · rw [if_pos c2]
        refine (o3.2 b h2.2.1 h2.2.2).2.2 (i - y) (by omega) ?_
        unfold aCome at c2
        omega
      · rw [if_neg c2]
        exact o2.2 _ (by omega) (by omega)
theorem cR.file {A' : aA} (h : cR A s) (h2 : A'.2 = A.2) (hA : ∀ (f : Nat), f ≠ 2 → f ≠ 3 → A'.1 f = A.1 f) (h1 : u.1 1 1 0 = A'.1 3 0) (h0 : ∀ i, 0 ≤ i → i < A'.1 3 0 → u.1 0 1 i = A'.1 2 i) (a : ∀ (f n : Nat) (i : Int), (f ≤ 1 ∧ n = 0 ∨ 384 ≤ f ∧ f ≤ 388 ∨ 448 ≤ f ∧ f < 469 ∨ f = 515 ∨ f = 522) → u.1 f n i = s.1 f n i) (b : u.2.1 = s.2.1) : cR A' u := by
  obtain ⟨g1, g2, g3, g4, g5, g6, g7⟩ := h
  unfold cR
  rw [hA 1 (by decide) (by decide), hA 0 (by decide) (by decide), hA 387 (by decide) (by decide), hA 388 (by decide) (by decide), hA 522 (by decide) (by decide), hA 385 (by decide) (by decide), hA 386 (by decide) (by decide), hA 384 (by decide) (by decide), h2]
  refine ⟨⟨(a 1 0 0 (by omega)).trans g1.1, fun i i1 i2 => (a 0 0 i (by omega)).trans (g1.2 i i1 i2)⟩, ⟨h1, h0⟩, ⟨(a 387 0 0 (by omega)).trans g3.1, fun j j1 j2 => ?_⟩, (a 388 0 0 (by omega)).trans g4, ⟨(a 522 0 0 (by omega)).trans g5.1, by rw [b]; exact g5.2⟩, fun k k1 k2 => by rw [a 515 0 k (by omega), b]; exact g6 k k1 k2, fun k k2 f i f1 f2 => (a f k i (by omega)).trans (g7 k k2 f i f1 f2)⟩
  obtain ⟨q1, q2, q3⟩ := g3.2 j j1 j2
  exact ⟨(a 385 0 j (by omega)).trans q1, (a 386 0 j (by omega)).trans q2, fun i i1 i2 => (a 384 0 _ (by omega)).trans (q3 i i1 i2)⟩
theorem aOK_patch (ok : aOK A) : aOK (sPatch a b A).2 := by
  unfold sPatch
  split
  · rename_i h2
    have o3 := ok.2.2.1.1
    cases e : aPl A a b 161 0 with
    | none => exact ok
    | some y =>
      have Y := aPl_b A a b 161 0 (by decide) y e
      dsimp only
      split
      · exact ok
      · rename_i c
        exact aOK_keep (aOK_put ok h2 Y.1 (by omega)) (show A.1 387 0 < 30 by omega)
  · exact ok
end
