/-! the nodes of the file; how many are wrong: the class -/
def yNs (l : List yN) : Int → yN := fun i => (l[i.toNat]?).getD (fun _ => 0)
section
variable {T : yT} {B C : yB} {n L w : Int} {N : Int → yN} {s u : zS} {r q b k : Nat} {t : Int} {A : aA} {l : List yN}
theorem yNs_ag : yAg l 0 (yNs l) := fun j x hx => by
  unfold yNs
  rw [show (0 + (j : Int)).toNat = j by omega, hx]
  rfl
theorem yNs_at {j : Int} (hj : 0 ≤ j ∧ j < l.length) : l[j.toNat]? = some (yNs l j) := by
  unfold yNs
  rw [List.getElem?_eq_getElem (by omega)]
  rfl
theorem yIn.nds (h : yIn r 0 l s) : cNd r (yNs l) l.length s := by
  refine ⟨by rw [h.1, Int.zero_add], fun j j1 j2 c c1 c2 => ?_⟩
  have := h.2 j.toNat _ (yNs_at ⟨j1, j2⟩) c c1 c2
  rw [show (0 : Int) + (j.toNat : Int) = j by omega] at this
  exact this
theorem mIn.nds (h : mIn t T 0 l s) : mNd t T (yNs l) l.length s := by
  refine ⟨by rw [h.1, Int.zero_add], fun j j1 j2 => ?_⟩
  have := h.2 j.toNat _ (yNs_at ⟨j1, j2⟩)
  rw [show (0 : Int) + (j.toNat : Int) = j by omega] at this
  exact this
/-- a structure that was read, as nodes -/
theorem yTop_sh {st off : Int} {x : Int × Int × Int × List yN} (W : yWT T) (BE : yBE T) (hn : n ≤ 160) (hB : ∀ i, 0 ≤ i → i < n → 0 ≤ B i ∧ B i ≤ 255) (hst : 0 ≤ st ∧ st < T 449 0) (ho : 0 ≤ off ∧ off ≤ 255) (e : yTop T B n st off = .inr x) : ySh T B n (yNs x.2.2.2) x.2.2.2.length x.2.2.1 := by
  have a := yS_q (B := B) (n := n) W BE 6 st (-1) (-1) hst.1 hst.2 (Or.inl rfl) off 0 0 ho.1 (by decide)
  have c := yS_ok W hn hB 6 st (-1) (-1) hst.1 hst.2 off 0 0 ho.1 (by decide) (by decide)
  unfold yTop at e
  rw [e] at a c
  obtain ⟨⟨x1, x2, x3, x4⟩, ⟨a1, a2⟩, a3⟩ := a _ yNs_ag
  obtain ⟨c1, c2, c3, c4, c5, c6⟩ := c
  have e0 : (0 : Int) + (x.2.2.2.length : Int) = (x.2.2.2.length : Int) := by omega
  rw [e0] at a2 a3
  exact ⟨⟨by omega, by omega⟩, ⟨x1, x2⟩, a2, off, x.1, ⟨ho.1, by omega⟩, a3⟩
theorem C56_rd {st off : Int} {x : Int × Int × Int × List yN} (h : cR A s) (ok : aOK A) (hk : (k : Int) < A.1 522 0) (hst : 0 ≤ st ∧ st < A.2 k 449 0) (ho : 0 ≤ off ∧ off ≤ 255) (h1 : s.1 321 r 0 = k + 1) (h2 : s.1 322 r 0 = 2) (ht : yTold r (yTop (A.2 k) (A.1 2) (A.1 3 0) st off) 1 s) (e : yTop (A.2 k) (A.1 2) (A.1 3 0) st off = .inr x) : cHo r k 1 (A.2 k) (A.1 2) (A.1 2) (A.1 3 0) (yNs x.2.2.2) x.2.2.2.length x.2.2.1 s := by
  have o := ok.2.2.2.2.2 k hk
  have f := h.F ok
  rw [e] at ht
  exact ⟨⟨h1, (h.T hk).1, h2, by decide, (h.T hk).2, f.2.1, f.2.2.1, f.2.2.2.1, f.2.2.2.2.1, f.2.2.2.2.2⟩, ht.2.2.2.1.nds, yTop_sh o.1 o.2.2.2 f.2.2.2.1 f.2.2.2.2.2 hst ho e⟩
/-- a template was chosen: the file can be read by it -/
theorem aChosen_x (ok : aOK A) (c : aChosen A ≠ -1) : ∃ x, aRd A (aChosen A).toNat = .inr x ∧ aNodes A = x.2.2.2 ∧ 0 ≤ aChosen A ∧ ((aChosen A).toNat : Int) < A.1 522 0 ∧ ((aChosen A).toNat : Int) = aChosen A := by
  rcases aChosen_b ok with z | ⟨z1, z2, z3⟩
  · exact absurd z c
  · unfold aNodes
    rw [if_neg c]
    cases e : aRd A (aChosen A).toNat with
    | inl y =>
      rw [e] at z3
      cases z3
    | inr x => exact ⟨x, rfl, rfl, z1, by omega, by omega⟩
theorem cRd.H (h : cR A s) (ok : aOK A) (g : cRd A s) (c : aChosen A ≠ -1) {x : Int × Int × Int × List yN} (e : aRd A (aChosen A).toNat = .inr x) : cHo 0 (aChosen A).toNat 1 (A.2 (aChosen A).toNat) (A.1 2) (A.1 2) (A.1 3 0) (yNs x.2.2.2) x.2.2.2.length x.2.2.1 s := by
  obtain ⟨y, y1, y2, y3, y4, y5⟩ := aChosen_x ok c
  obtain ⟨g1, g2⟩ := g
  rw [if_neg c] at g2
  exact C56_rd (st := 0) (off := 0) h ok y4 ⟨by decide, by have := (ok.2.2.2.2.2 _ y4).1.1; omega⟩ (by decide) (by rw [y5]; exact g2.1) g2.2.1 g2.2.2 e
theorem yWg_b {g : Int → Int} {i : Int} : 0 ≤ yWg T B N g i ∧ yWg T B N g i ≤ 1 := by
  unfold yWg
  split
  · decide
  · split <;> decide
theorem ySm_b {h : Int → Int} (hh : ∀ i, 0 ≤ h i ∧ h i ≤ 1) : ∀ (m : Nat) (i : Int), 0 ≤ ySm h m i ∧ ySm h m i ≤ m
  | 0, _ => ⟨Int.le_refl _, Int.le_refl _⟩
  | m + 1, i => by
    have a := ySm_b hh m (i + 1)
    have b := hh i
    show 0 ≤ h i + ySm h m (i + 1) ∧ h i + ySm h m (i + 1) ≤ ((m + 1 : Nat) : Int)
    omega
/-- whether the value of node i is due -/
theorem yWg_d {i : Int} : (if N i 196 = (if yRl T (N i 198) then yDu T C N L i else N i 196) then (0 : Int) else 1) = yWg T C N (yTg T N L) i := by
  unfold yWg
  by_cases c : N i 198 = -1 ∨ T 467 (N i 198) = 0 ∨ T 467 (N i 198) = 61
  · have nr : ¬ yRl T (N i 198) := fun z => by
      rcases c with c | c | c
      · exact z.1 c
      · exact z.2.1 c
      · exact z.2.2 c
    rw [if_pos c, if_neg nr, if_pos rfl]
  · have yr : yRl T (N i 198) := ⟨fun z => c (Or.inl z), fun z => c (Or.inr (Or.inl z)), fun z => c (Or.inr (Or.inr z))⟩
    rw [if_neg c, if_pos yr]
    rfl
theorem C78 (W : yWT T) (H : cHo r q b T B C n N L w s) {i : Int} (hi : 0 ≤ i ∧ i < L) : zf_78 r i s = zi (if yRl T (N i 198) then yDu T C N L i else N i 196) s := by
  obtain ⟨h1, h2⟩ := z78 W H hi
  by_cases c : yRl T (N i 198)
  · rw [if_pos c, h1 c]
  · rw [if_neg c, h2 c]
theorem C80_4 (W : yWT T) (H : cHo r q b T B C n N L w s) : ∀ (m M : Nat) (x i : Int), m < M → m = (L - i).toNat → 0 ≤ i → i ≤ L → 0 ≤ x → x ≤ i → zf_80_4 M r x i s = zi (x + ySm (yWg T C N (yTg T N L)) m i) s := by
  have hL := H.2.2.1
  have h9 := H.2.1.1
  intro m
  induction m with
  | zero =>
    intro M x i hM hm i0 iL x0 x1
    obtain ⟨M, rfl⟩ : ∃ L, M = L + 1 := ⟨M - 1, by omega⟩
    unfold zf_80_4
    rw [h9, if_pos (by omega)]
    show zi x s = zi (x + 0) s
    rw [Int.add_zero]
  | succ m ih =>
    intro M x i hM hm i0 iL x0 x1
    obtain ⟨M, rfl⟩ : ∃ L, M = L + 1 := ⟨M - 1, by omega⟩
    have e := yWg_d (T := T) (N := N) (C := C) (L := L) (i := i)
    unfold zf_80_4
    rw [h9, if_neg (by omega), zn_ok (by omega), C78 W H ⟨i0, by omega⟩, zC_zi, H.2.1.2 i i0 (by omega) 196 (by decide) (by decide)]
    show _ = zi (x + (yWg T C N (yTg T N L) i + ySm _ m (i + 1))) s
    rw [← e]
    by_cases c : N i 196 = (if yRl T (N i 198) then yDu T C N L i else N i 196)
    · rw [if_pos c, if_pos c, zg_ok ⟨by omega, by omega⟩, zg_ok ⟨by omega, by omega⟩, ih M (x + 0) (i + 1) (by omega) (by omega) (by omega) (by omega) (by omega) (by omega)]
      congr 1
      omega
    · rw [if_neg c, if_neg c, zg_ok ⟨by omega, by omega⟩, zg_ok ⟨by omega, by omega⟩, ih M (x + 1) (i + 1) (by omega) (by omega) (by omega) (by omega) (by omega) (by omega)]
      congr 1
      omega
/-- how many relations do not hold, by the bytes C -/
def yWs (T : yT) (C : yB) (N : Int → yN) (L : Int) : Int := ySm (yWg T C N (yTg T N L)) L.toNat 0
theorem C80 (W : yWT T) (H : cHo r q b T B C n N L w s) : zf_80 r s = zi (yWs T C N L) s := by
  have hL := H.2.2.1
  unfold zf_80 yWs
  rw [C80_4 W H (L - 0).toNat xfu 0 0 (pa_fu (by omega)) rfl (by decide) (by omega) (by decide) (by decide), Int.zero_add, Int.sub_zero]
/-- how many relations of the file do not hold -/
def aWrong (A : aA) : Int := if aChosen A = -1 then 0 else yWs (A.2 (aChosen A).toNat) (A.1 2) (yNs (aNodes A)) (aNodes A).length
theorem C117 (h : cR A s) (ok : aOK A) (c : cC A s) : cOut (zf_117 0 s) (.inl (aWrong A)) A s := by
  obtain ⟨u, a1, a2, a3, a4, a5⟩ := C133 h ok c
  unfold zf_117 aWrong
  rw [a1, zC_zi]
  have fin : ∀ v : Int, cOut (zi v u) (.inl v) A s := fun v => ⟨u, rfl, a2, Or.inr a3, fun f n i f1 f2 => a4 f n i (by omega), by rw [a5]; omega⟩
  by_cases d : aChosen A = -1
  · obtain ⟨g1, g2⟩ := a3
    rw [if_pos d] at g2 ⊢
    unfold zf_80
    have hx : (xfu : Nat) = (xfu - 1) + 1 := by
      have := pa_fu (m := 1) (by decide)
      omega
    rw [hx]
    unfold zf_80_4
    rw [g2.1, if_pos (Int.le_refl _), zC_zi]
    exact fin 0
  · obtain ⟨x, x1, x2, x3, x4, x5⟩ := aChosen_x ok d
    rw [if_neg d, C80 (ok.2.2.2.2.2 _ x4).1 (a3.H a2 ok d x1), zC_zi, x2]
    exact fin _
theorem C118 (h : cR A s) (ok : aOK A) (c : cC A s) : cOut (zf_118 0 s) (.inl (aWrong A)) A s := by
  obtain ⟨u, a1, a2, a3, a4, a5⟩ := C133 h ok c
  unfold zf_118 aWrong
  rw [a1, zC_zi]
  unfold zf_132
  have o := ok.2.2.2.2.1
  by_cases d : aChosen A = -1
  · obtain ⟨t, b1, b2, b3, b4, b5⟩ := C56_0 (r := 1) (b := 1) (st := 0) (off := 0) (s := u)
    rw [a3.1, if_pos (by omega), if_pos d, zC_zi, b1, zC_zi, if_pos rfl]
    exact ⟨t, rfl, a2.fr2 b2, cC.c (Or.inr a3) rfl rfl rfl rfl fun f i hf => b2.1 f 0 i (by omega), fun f n i f1 f2 => (b2.1 f n i (by omega)).trans (a4 f n i (by omega)), by rw [b2.2, a5]; omega⟩
  · obtain ⟨x, x1, x2, x3, x4, x5⟩ := aChosen_x ok d
    have o2 := ok.2.2.2.2.2 _ x4
    obtain ⟨v, t, b1, ⟨b2, b3, b4⟩, b5⟩ := C56' (r := 1) (k := (aChosen A).toNat) (st := 0) (off := 0) a2 ok x4 ⟨by decide, by have := o2.1.1; omega⟩ (by decide)
    have e : yTop (A.2 (aChosen A).toNat) (A.1 2) (A.1 3 0) 0 0 = .inr x := x1
    have b6 := b5
    rw [e] at b6
    obtain ⟨v1, q1, q2, q3⟩ := b6
    have H := C56_rd (r := 1) (a2.fr2 b2) ok x4 ⟨by decide, by have := o2.1.1; omega⟩ (by decide) b3 b4 (by rw [v1] at b5; exact b5) e
    have sm := H.2.2.sum o2.1
    rw [a3.1, if_neg (by omega), if_neg d, a2.2.2.2.2.1.1, if_neg (by omega), zn_ok (by omega), a2.2.2.2.2.2.1 _ x3 (by omega), if_pos (by have := a2.2.2.2.2.1.2.1; omega), zC_zi]
    rw [show aChosen A + 1 = (((aChosen A).toNat : Int)) + 1 by omega, b1, zC_zi, v1, if_neg (by decide), q2, sm, x2]
    exact ⟨t, rfl, a2.fr2 b2, cC.c (Or.inr a3) rfl rfl rfl rfl fun f i hf => b2.1 f 0 i (by omega), fun f n i f1 f2 => (b2.1 f n i (by omega)).trans (a4 f n i (by omega)), by rw [b2.2, a5]; omega⟩
end
