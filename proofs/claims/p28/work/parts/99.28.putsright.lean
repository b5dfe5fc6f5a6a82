section
/-! edits: the reference puts lengths and counts right -/
section
variable {T : yT} {B C F G : yB} {n L w : Int} {N : Int → yN} {s u : zS} {t k v : Int}
/-- only bytes, values and what is known of nodes have changed -/
def mWl (s u : zS) : Prop := (∀ (f n : Nat) (i : Int), ¬ (n = 0 ∧ (f = 595 ∨ f = 616 ∨ f = 631 ∨ f = 632)) → u.1 f n i = s.1 f n i) ∧ u.2 = s.2
theorem mWl.rf : mWl s s := ⟨fun _ _ _ _ => rfl, rfl⟩
theorem mWl.tr {v : zS} (a : mWl s u) (b : mWl u v) : mWl s v := ⟨fun f n i h => (b.1 f n i h).trans (a.1 f n i h), b.2.trans a.2⟩
theorem mWl.of (a : mWk s u) : mWl s u := ⟨fun f n i h => a.1 f n i (by omega), a.2⟩
theorem mWl.pw {f : Nat} {i x : Int} (a : mWl s u) (h : f = 631 ∨ f = 632) : mWl s (zp f 0 i x u) := ⟨fun f' n' i' hn => (zp_n3 (by omega)).trans (a.1 f' n' i' hn), a.2⟩
theorem mTb.wl (h : mTb t T N L s) (a : mWl s u) : mTb t T N L u := ⟨(a.1 610 0 0 (by omega)).trans h.1, fun j j1 j2 => by
  rw [a.1 612 0 j (by omega), a.1 613 0 j (by omega), a.1 614 0 j (by omega), a.1 615 0 j (by omega), a.1 617 0 j (by omega), a.1 618 0 j (by omega), a.1 619 0 j (by omega)]
  exact h.2 j j1 j2⟩
theorem mRel.wl (R : mRel t T s) (W : yWT T) (a : mWl s u) : mRel t T u := R.c W fun f i hf => a.1 f 0 i (by omega)
theorem mTb.fl (W : yWT T) (R : mRel t T s) (S : ySh T B n N L w) {i : Int} (hi : 0 ≤ i ∧ i < L) (f : N i 198 ≠ -1) : ∃ st k, N i 198 = 8 * st + k ∧ (0 ≤ st ∧ st < T 449 0) ∧ (0 ≤ k ∧ k < T 453 st) ∧ (0 ≤ N i 198 ∧ N i 198 < 48) ∧ mRelF t T st k s ∧ yWF T st k ∧ T 453 st ≤ 8 := by
  have nd := S.nd hi
  have b := nd.f W f
  rcases nd.2 with z | ⟨st, k, h1, h2, h3, -⟩
  · exact absurd z.1 f
  · exact ⟨st, k, h1, h2, h3, b, (R.2.2 st h2.1 h2.2).2.2.2 k h3.1 h3.2, (W.2.2 st h2.1 h2.2).2.2 k h3.1 h3.2, (W.2.2 st h2.1 h2.2).2.1⟩
theorem mHo.wl (H : mHo t T B C n N L w s) (W : yWT T) (a : ∀ (f : Nat) (i : Int), f ≠ 631 → f ≠ 632 → u.1 f 0 i = s.1 f 0 i) : mHo t T B C n N L w u := by
  obtain ⟨H1, S, R, F⟩ := H
  refine ⟨⟨(a 610 0 (by decide) (by decide)).trans H1.1, fun j j1 j2 => ?_⟩, S, R.c W fun f i hf => a f i (by omega) (by omega), (a 594 0 (by decide) (by decide)).trans F.1, F.2.1, fun i i1 i2 => (a 595 i (by decide) (by decide)).trans (F.2.2.1 i i1 i2), F.2.2.2⟩
  rw [a 612 j (by decide) (by decide), a 613 j (by decide) (by decide), a 614 j (by decide) (by decide), a 615 j (by decide) (by decide), a 616 j (by decide) (by decide), a 617 j (by decide) (by decide), a 618 j (by decide) (by decide), a 619 j (by decide) (by decide)]
  exact H1.2 j j1 j2
theorem mHo.tb (H : mHo t T B C n N L w s) : mTb t T N L s := H.1.tb
theorem mHo.by (H : mHo t T B C n N L w s) : mBy C n s := ⟨H.2.2.2.1, H.2.2.2.2.2.1⟩
/-- what is known of node k -/
def eKn (T : yT) (B : yB) (N : Int → yN) (L k : Int) : Int := if N k 198 ≠ -1 ∧ (T 467 (N k 198) = 35 ∨ T 467 (N k 198) = 37) then yDu T B N L k else N k 196
end
end
