/-! patch: the reference -/
section
variable {A : aA} {s u : zS} {a b y : Int}
theorem mR.file {A' : aA} (h : mR A s) (ok : aOK A) (h2 : A'.2 = A.2) (hA : ∀ (f : Nat), f ≠ 2 → f ≠ 3 → A'.1 f = A.1 f) (h1 : u.1 594 0 0 = A'.1 3 0) (h0 : ∀ i, 0 ≤ i → i < A'.1 3 0 → u.1 595 0 i = A'.1 2 i) (a : ∀ (f : Nat) (i : Int), (577 ≤ f ∧ f ≤ 593 ∨ 598 ≤ f ∧ f ≤ 602) → u.1 f 0 i = s.1 f 0 i) : mR A' u := by
  obtain ⟨g1, g2, g3, g4, g5, g6, g7⟩ := h
  unfold mR
  rw [hA 1 (by decide) (by decide), hA 0 (by decide) (by decide), hA 387 (by decide) (by decide), hA 388 (by decide) (by decide), hA 522 (by decide) (by decide), hA 385 (by decide) (by decide), hA 386 (by decide) (by decide), hA 384 (by decide) (by decide), h2]
  refine ⟨⟨(a 577 0 (by omega)).trans g1.1, fun i i1 i2 => (a 578 i (by omega)).trans (g1.2 i i1 i2)⟩, ⟨h1, h0⟩, ⟨(a 599 0 (by omega)).trans g3.1, fun j j1 j2 => ?_⟩, (a 598 0 (by omega)).trans g4, (a 579 0 (by omega)).trans g5, fun k k2 => ?_, fun i => by rw [a 589 i (by omega)]; exact g7 i⟩
  · obtain ⟨q1, q2, q3⟩ := g3.2 j j1 j2
    exact ⟨(a 600 j (by omega)).trans q1, (a 601 j (by omega)).trans q2, fun i i1 i2 => (a 602 _ (by omega)).trans (q3 i i1 i2)⟩
  · obtain ⟨q1, q2⟩ := g6 k k2
    exact ⟨(a 580 k (by omega)).trans q1, q2.c (ok.2.2.2.2.2 k k2).1 fun f i hf => a f i (by omega)⟩
end
