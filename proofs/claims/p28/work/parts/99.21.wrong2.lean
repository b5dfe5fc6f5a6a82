/-! how many are wrong: the reference -/
/-- the reference holds these nodes; C the bytes as they are now -/
def mHo (t : Int) (T : yT) (B C : yB) (n : Int) (N : Int → yN) (L w : Int) (s : zS) : Prop := mNd t T N L s ∧ ySh T B n N L w ∧ mRel t T s ∧ mFile C n s
section
variable {T : yT} {B C : yB} {n L w t : Int} {N : Int → yN} {s u : zS} {A : aA}
theorem mHo.fl (W : yWT T) (H : mHo t T B C n N L w s) {i : Int} (hi : 0 ≤ i ∧ i < L) (f : N i 198 ≠ -1) : ∃ st k, N i 198 = 8 * st + k ∧ (0 ≤ st ∧ st < T 449 0) ∧ (0 ≤ k ∧ k < T 453 st) ∧ (0 ≤ N i 198 ∧ N i 198 < 48) ∧ mRelF t T st k s ∧ yWF T st k ∧ T 453 st ≤ 8 := by
  have nd := H.2.1.nd hi
  have b := nd.f W f
  rcases nd.2 with z | ⟨st, k, h1, h2, h3, -⟩
  · exact absurd z.1 f
  · exact ⟨st, k, h1, h2, h3, b, (H.2.2.1.2.2 st h2.1 h2.2).2.2.2 k h3.1 h3.2, (W.2.2 st h2.1 h2.2).2.2 k h3.1 h3.2, (W.2.2 st h2.1 h2.2).2.1⟩
theorem yWF.r {st k : Int} (W : yWF T st k) : T 467 (8 * st + k) ≠ 73 := by
  have := W.2.2.2.2.2.2.2.2
  omega
theorem zdiv_8 {x : Int} (h : 0 ≤ x ∧ x < 192) : zdiv x 8 = x / 8 := by
  have hx : ∀ y : Fin 192, zdiv (y.val : Int) 8 = (y.val : Int) / 8 := by decide +kernel
  have := hx ⟨x.toNat, by omega⟩
  rw [show ((⟨x.toNat, by omega⟩ : Fin 192).val : Int) = x by simp; omega] at this
  exact this
theorem mRd'.H (h : mR A s) (ok : aOK A) (g : mRd' A s) (c : aChosen A ≠ -1) {x : Int × Int × Int × List yN} (e : aRd A (aChosen A).toNat = .inr x) : mHo (aChosen A) (A.2 (aChosen A).toNat) (A.1 2) (A.1 2) (A.1 3 0) (yNs x.2.2.2) x.2.2.2.length x.2.2.1 s := by
  obtain ⟨y, y1, y2, y3, y4, y5⟩ := aChosen_x ok c
  have o := ok.2.2.2.2.2 _ y4
  have I := g.I
  rw [y2] at I
  have ex : y = x := by
    rw [y1] at e
    injection e
  subst ex
  have f := h.F ok
  have R := (h.2.2.2.2.2.1 _ y4).2
  rw [y5] at R
  exact ⟨I.nds, yTop_sh (st := 0) (off := 0) o.1 o.2.2.2 f.2.1.2 f.2.2.2 ⟨by decide, by have := o.1.1; omega⟩ (by decide) y1, R, f⟩
end
