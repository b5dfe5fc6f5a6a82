section
/-! set by the reference -/
section
variable {T : yT} {B C F G : yB} {n L w : Int} {N : Int → yN} {s u z : zS} {t k v g e x j : Int} {A : aA}
theorem mHo.c (H : mHo t T B C n N L w s) (W : yWT T) (a : ∀ (f : Nat) (i : Int), f ≠ 576 → f ≠ 596 → f ≠ 597 → u.1 f 0 i = s.1 f 0 i) : mHo t T B C n N L w u := by
  obtain ⟨H1, S, R, F⟩ := H
  refine ⟨⟨(a 610 0 (by decide) (by decide) (by decide)).trans H1.1, fun j j1 j2 => ?_⟩, S, R.c W fun f i hf => a f i (by omega) (by omega) (by omega), (a 594 0 (by decide) (by decide) (by decide)).trans F.1, F.2.1, fun i i1 i2 => (a 595 i (by decide) (by decide) (by decide)).trans (F.2.2.1 i i1 i2), F.2.2.2⟩
  rw [a 612 j (by decide) (by decide) (by decide), a 613 j (by decide) (by decide) (by decide), a 614 j (by decide) (by decide) (by decide), a 615 j (by decide) (by decide) (by decide), a 616 j (by decide) (by decide) (by decide), a 617 j (by decide) (by decide) (by decide), a 618 j (by decide) (by decide) (by decide), a 619 j (by decide) (by decide) (by decide)]
  exact H1.2 j j1 j2
theorem mEd.wk (a : mWk s u) : mEd s u := ⟨fun f n i h => a.1 f n i (by omega), a.2⟩
end
end
