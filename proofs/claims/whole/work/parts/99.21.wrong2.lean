/-! how many are wrong: the reference -/
/-- the reference holds these nodes; C the bytes as they are now -/
def mHo (t : Int) (T : yT) (B C : yB) (n : Int) (N : Int → yN) (L w : Int) (s : zS) : Prop := mNd t T N L s ∧ ySh T B n N L w ∧ mRel t T s ∧ mFile C n s
section
variable {T : yT} {B C : yB} {n L w t : Int} {N : Int → yN} {s u : zS} {A : aA}
theorem mHo.fl (W : yWT T) (H : mHo t T B C n N L w s) {i : Int} (hi : 0 ≤ i ∧ i < L) (f : N i 198 ≠ -1) : ∃ st k, N i 198 = 8 * st + k ∧ (0 ≤ st ∧ st < T 449 0) ∧ (0 ≤ k ∧ k < T 453 st) ∧ (0 ≤ N i 198 ∧ N i 198 < 48) ∧ mRelF t T st k s ∧ yWF T st k ∧ T 453 st ≤ 8 := by
  have nd := H.2.1.nd hi
  have b := nd.f W f
  rcases nd.2 with z | ⟨st, k, h1, h2, h3, -⟩
  · exact absurd z.1 f
  · exact ⟨st, k, h1, h2, h3, b, (H.2.2.1.2.2 st h2.1 h2.2).2.2.2 k h3.1 h3.2, (W.2.2 st h2.1 h2.2).2.2 k h3.1 h3.2, (W.2.2 st h2.1 h2.2).2.1⟩
theorem yWF.r {st k : Int} (W : yWF T st k) : T 467 (8 * st + k) ≠ 73 := by
  have := W.2.2.2.2.2.2.2.2
  omega
theorem M192 (W : yWT T) (H : mHo t T B C n N L w s) {i : Int} (hi : 0 ≤ i ∧ i < L) : zf_192 0 i s = zi (if yRl T (N i 198) then 1 else 0) s := by
  have hL := H.2.1.1
  have h1 := H.2.2.1.1
  have e18 := (H.1.2 i hi.1 hi.2).2.2.2.2.2.2.1
  unfold zf_192
  rw [zn_ok (by omega), e18]
  by_cases c : N i 198 = -1
  · rw [if_pos c, if_pos rfl, if_neg (fun z => z.1 c)]
    rfl
  · obtain ⟨st, k, f1, f2, f3, f4, R, F, f8⟩ := H.fl W hi c
    have r := R.2.2.2.2.2.1
    have r73 := F.r
    rw [← f1] at r r73
    rw [if_neg c, if_neg (by omega), zn_ok (by omega), zn_ok (by omega), r]
    by_cases c0 : T 467 (N i 198) = 0
    · rw [if_neg (show ¬ T 467 (N i 198) = 61 by omega), if_pos c0, if_neg (fun z => z.2.1 c0)]
      rfl
    · by_cases c1 : T 467 (N i 198) = 61
      · rw [if_pos c1, if_neg (show ¬ (73 : Int) = 0 by decide), zn_ok (by omega), zn_ok (by omega), if_pos rfl, if_neg (fun z => z.2.2 c1)]
        rfl
      · rw [if_neg c1, if_neg c0, zn_ok (by omega), zn_ok (by omega), if_neg r73, if_pos (⟨c, c0, c1⟩ : yRl T (N i 198))]
        rfl
theorem zdiv_8 {x : Int} (h : 0 ≤ x ∧ x < 192) : zdiv x 8 = x / 8 := by
  have hx : ∀ y : Fin 192, zdiv (y.val : Int) 8 = (y.val : Int) / 8 := by decide +kernel
  have := hx ⟨x.toNat, by omega⟩
  rw [show ((⟨x.toNat, by omega⟩ : Fin 192).val : Int) = x by simp; omega] at this
  exact this
theorem M193_30 (W : yWT T) (H : mHo t T B C n N L w s) {k : Int} (hk : 0 ≤ k ∧ k < L) (R : yRl T (N k 198)) : ∀ (m M : Nat) (x i : Int), m < M → m = (L - i).toNat → 0 ≤ i → i ≤ L → (i ≤ yTg T N L k → x = -1) → (yTg T N L k < i → x = yTg T N L k) → zf_193_30 M 0 k (48 * t + T 468 (N k 198)) x i s = zi (yTg T N L k) s := by
  have hL := H.2.1.1
  have h10 := H.1.1
  have h1 := H.2.2.1.1
  obtain ⟨g1, g2, g3, g4, g5⟩ := H.2.1.tg W hk R
  have rr := yNd_rel W (H.2.1.nd hk) R
  intro m
  induction m with
  | zero =>
    intro M x i hM hm i0 iL x1 x2
    obtain ⟨M, rfl⟩ : ∃ L, M = L + 1 := ⟨M - 1, by omega⟩
    unfold zf_193_30
    rw [h10, if_pos (by omega), x2 (by omega)]
  | succ m ih =>
    intro M x i hM hm i0 iL x1 x2
    obtain ⟨M, rfl⟩ : ∃ L, M = L + 1 := ⟨M - 1, by omega⟩
    have ei := H.1.2 i i0 (by omega)
    have ek := H.1.2 k hk.1 hk.2
    have go : ∀ x' : Int, (i + 1 ≤ yTg T N L k → x' = -1) → (yTg T N L k < i + 1 → x' = yTg T N L k) → zg (i + 1) (zf_193_30 M 0 k (48 * t + T 468 (N k 198)) x' (i + 1) s) = zi (yTg T N L k) s := fun x' y1 y2 => by
      rw [zg_ok ⟨by omega, by omega⟩]
      exact ih M x' (i + 1) (by omega) (by omega) (by omega) (by omega) y1 y2
    unfold zf_193_30
    rw [h10, if_neg (by omega), zn_ok (by omega), zn_ok (by omega), ei.2.2.2.2.2.1, ek.2.2.2.2.2.1]
    by_cases c1 : N i 197 = N k 197
    · rw [if_pos c1, zn_ok (by omega), ei.2.2.2.2.2.2.1]
      by_cases c2 : N i 198 = T 468 (N k 198)
      · have e : i = yTg T N L k := H.2.1.un ⟨i0, by omega⟩ g1 (c1.trans g2.symm) (c2.trans g3.symm) (by omega)
        rw [if_neg (show ¬ N i 198 = -1 by omega), if_pos (by omega)]
        exact go i (fun z => by omega) (fun z => e)
      · have ne : i ≠ yTg T N L k := fun e => c2 (by rw [e]; exact g3)
        have : ¬ (if N i 198 = -1 then (-1 : Int) else 48 * t + N i 198) = 48 * t + T 468 (N k 198) := by
          split <;> omega
        rw [if_neg this]
        exact go x (fun z => x1 (by omega)) (fun z => x2 (by omega))
    · have ne : i ≠ yTg T N L k := fun e => c1 (by rw [e]; exact g2)
      rw [if_neg c1]
      exact go x (fun z => x1 (by omega)) (fun z => x2 (by omega))
theorem M193 (W : yWT T) (H : mHo t T B C n N L w s) {k : Int} (hk : 0 ≤ k ∧ k < L) (R : yRl T (N k 198)) : zf_193 0 k s = zi (yTg T N L k) s := by
  have hL := H.2.1.1
  have h1 := H.2.2.1.1
  have e18 := (H.1.2 k hk.1 hk.2).2.2.2.2.2.2.1
  obtain ⟨g1, g2, g3, g4, g5⟩ := H.2.1.tg W hk R
  obtain ⟨st, j, f1, f2, f3, f4, F, WF, f8⟩ := H.fl W hk R.1
  have hst := W.2.1
  have r := F.2.2.2.2.2.2.1
  rw [← f1] at r
  have e93 := r R.2.1
  rw [if_neg R.2.2] at e93
  unfold zf_193
  rw [zn_ok (by omega), zn_ok (by omega), e18, if_neg R.1, zn_ok (by omega), zdiv_8 (by omega), show 8 * ((48 * t + N k 198) / 8) = 48 * t + 8 * st by omega, zg_ok ⟨by omega, by omega⟩, e93, show 48 * t + 8 * st + (T 468 (N k 198) - 8 * st) = 48 * t + T 468 (N k 198) by omega]
  have rr := yNd_rel W (H.2.1.nd hk) R
  have es : N k 198 / 8 = st := by omega
  rw [es] at rr
  rw [zg_ok ⟨by omega, by omega⟩, M193_30 W H hk R (L - 0).toNat xfu (-1) 0 (pa_fu (by omega)) rfl (Int.le_refl _) (by omega) (fun _ => rfl) (fun z => by omega)]
/-- the bytes of a row, by the reference -/
theorem M194_59 (hF : mFile C n s) {k g h off ln fl : Int} (hg : 0 ≤ g ∧ g < 201) (hk : 0 ≤ k ∧ k < 201) (e14 : s.1 614 0 g = off) (e15 : s.1 615 0 g = ln) (e18 : s.1 618 0 k = fl) (hfl : 0 ≤ fl ∧ fl < 192) (ho : 0 ≤ off ∧ off ≤ 1000) (hl : 0 ≤ ln ∧ ln ≤ 160) (hn : ln = 0 ∨ off + ln ≤ n) : ∀ (m M : Nat) (p v : Int), m < M → off ≤ p → p + m = off + ln → (h = 43 → 0 ≤ v ∧ v ≤ 255 * (p - off)) → zf_194_59 M 0 k g h v p s = zi (zand (if h = 43 ∨ h = 94 then yBy C h m p v else v) (if s.1 587 0 fl = 98 then 255 else 65535)) s := by
  obtain ⟨q1, q2, q3, q4⟩ := hF
  intro m
  induction m with
  | zero =>
    intro M p v hM h1 h2 h3
    obtain ⟨M, rfl⟩ : ∃ L, M = L + 1 := ⟨M - 1, by omega⟩
    unfold zf_194_59 yBy
    rw [zn_ok (by omega), zn_ok (by omega), e14, e15, zg_ok ⟨by omega, by omega⟩, if_pos (by omega), zn_ok (by omega), e18, zn_ok (by omega), show (if h = 43 ∨ h = 94 then v else v) = v by split <;> rfl]
    by_cases c : s.1 587 0 fl = 98
    · rw [if_pos c, if_pos c]
    · rw [if_neg c, if_neg c]
  | succ m ih =>
    intro M p v hM h1 h2 h3
    obtain ⟨M, rfl⟩ : ∃ L, M = L + 1 := ⟨M - 1, by omega⟩
    have hb := q4 p (by omega) (by omega)
    unfold zf_194_59 yBy
    rw [zn_ok (by omega), zn_ok (by omega), e14, e15, zg_ok ⟨by omega, by omega⟩, if_neg (by omega)]
    by_cases c1 : h = 43
    · have h3 := h3 c1
      rw [if_pos c1, if_pos (Or.inl c1), if_pos c1, zn_ok (by omega), q3 p (by omega) (by omega), zg_ok ⟨by omega, by omega⟩, zg_ok ⟨by omega, by omega⟩, ih M (p + 1) (v + C p) (by omega) (by omega) (by omega) (fun _ => by omega), if_pos (Or.inl c1)]
    · rw [if_neg c1]
      by_cases c2 : h = 94
      · rw [if_pos c2, if_pos (Or.inr c2), if_neg c1, zn_ok (by omega), q3 p (by omega) (by omega), zg_ok ⟨by omega, by omega⟩, ih M (p + 1) (zxor v (C p)) (by omega) (by omega) (by omega) (fun z => absurd z c1), if_pos (Or.inr c2)]
      · rw [if_neg c2, zg_ok ⟨by omega, by omega⟩, if_neg (fun z => z.elim c1 c2), ih M (p + 1) v (by omega) (by omega) (by omega) (fun z => absurd z c1), if_neg (fun z => z.elim c1 c2)]
theorem M194 (W : yWT T) (H : mHo t T B C n N L w s) {k : Int} (hk : 0 ≤ k ∧ k < L) (R : yRl T (N k 198)) : zf_194 0 k s = zi (yDu T C N L k) s := by
  have hL := H.2.1.1
  have h1 := H.2.2.1.1
  have e18 := (H.1.2 k hk.1 hk.2).2.2.2.2.2.2.1
  rw [if_neg R.1] at e18
  obtain ⟨g1, g2, g3, g4, g5⟩ := H.2.1.tg W hk R
  obtain ⟨st, j, f1, f2, f3, f4, F, WF, f8⟩ := H.fl W hk R.1
  have r := F.2.2.2.2.2.1
  have ty := F.2.2.1
  have rr := yNd_rel W (H.2.1.nd hk) R
  have b8 := WF.2.2.2.2.2.2.1
  have b16 := WF.2.2.2.2.2.2.2.1
  rw [← f1] at r ty b8 b16
  rw [if_neg R.2.2] at r
  have ty := ty (by omega) (by omega)
  have eg := H.1.2 _ g1.1 g1.2
  have nt := (H.2.1.nd g1).1
  have ot := H.2.1.of g1
  have nn := H.2.2.2.2.1
  have bits : (if s.1 587 0 (48 * t + N k 198) = 98 then (255 : Int) else 65535) = zshl 1 (T 459 (N k 198)) - 1 := by
    rw [ty]
    by_cases c : T 458 (N k 198) = 98
    · rw [if_pos c, b8 (Or.inl c)]
      decide
    · rw [if_neg c, b16 (by omega)]
      decide
  unfold zf_194
  rw [M193 W H hk R, zC_zi, zn_ok (by omega), e18, zn_ok (by omega), r]
  have key : ∀ v : Int, zf_194_49 0 k (yTg T N L k) (T 467 (N k 198)) v s = zi (zand (if T 467 (N k 198) = 43 ∨ T 467 (N k 198) = 94 then yBy C (T 467 (N k 198)) (N (yTg T N L k) 195).toNat (N (yTg T N L k) 194) v else v) (zshl 1 (T 459 (N k 198)) - 1)) s ∨ (T 467 (N k 198) = 43 ∧ v ≠ 0) := fun v => by
    by_cases c : T 467 (N k 198) = 43 ∧ v ≠ 0
    · exact Or.inr c
    · left
      unfold zf_194_49
      rw [zn_ok (by omega), eg.2.2.1, M194_59 H.2.2.2 (k := k) (g := yTg T N L k) (h := T 467 (N k 198)) (off := N (yTg T N L k) 194) (ln := N (yTg T N L k) 195) (fl := 48 * t + N k 198) (by omega) (by omega) eg.2.2.1 eg.2.2.2.1 e18 (by omega) ot (by omega) nt.2.2 (N (yTg T N L k) 195).toNat xfu (N (yTg T N L k) 194) v (pa_fu (by omega)) (Int.le_refl _) (by omega) (fun z => by
        have : v = 0 := by
          by_cases y : v = 0
          · exact y
          · exact absurd ⟨z, y⟩ c
        omega), bits]
  unfold yDu yCut yDue
  by_cases c1 : T 467 (N k 198) = 35
  · rw [if_pos c1, zn_ok (by omega), eg.2.2.2.1, if_pos c1]
    rcases key (N (yTg T N L k) 195) with z | z
    · rw [z, if_neg (by omega)]
    · omega
  · rw [if_neg c1, if_neg c1]
    by_cases c2 : T 467 (N k 198) = 37
    · rw [if_pos c2, zn_ok (by omega), eg.2.2.2.2.1, if_pos c2]
      rcases key (N (yTg T N L k) 196) with z | z
      · rw [z, if_neg (by omega)]
      · omega
    · rw [if_neg c2, if_neg c2]
      rcases key 0 with z | z
      · rw [z, if_pos (by omega)]
      · exact absurd rfl z.2
theorem M195_4 (W : yWT T) (H : mHo t T B C n N L w s) : ∀ (m M : Nat) (x i : Int), m < M → m = (L - i).toNat → 0 ≤ i → i ≤ L → 0 ≤ x → x ≤ i → zf_195_4 M 0 x i s = zi (x + ySm (yWg T C N (yTg T N L)) m i) s := by
  have hL := H.2.1.1
  have h9 := H.1.1
  intro m
  induction m with
  | zero =>
    intro M x i hM hm i0 iL x0 x1
    obtain ⟨M, rfl⟩ : ∃ L, M = L + 1 := ⟨M - 1, by omega⟩
    unfold zf_195_4
    rw [h9, if_pos (by omega)]
    show zi x s = zi (x + 0) s
    rw [Int.add_zero]
  | succ m ih =>
    intro M x i hM hm i0 iL x0 x1
    obtain ⟨M, rfl⟩ : ∃ L, M = L + 1 := ⟨M - 1, by omega⟩
    have e := yWg_d (T := T) (N := N) (C := C) (L := L) (i := i)
    have go0 : yWg T C N (yTg T N L) i = 0 → zg (x + 0) (zg (i + 1) (zf_195_4 M 0 (x + 0) (i + 1) s)) = zi (x + (yWg T C N (yTg T N L) i + ySm (yWg T C N (yTg T N L)) m (i + 1))) s := fun z => by
      rw [zg_ok ⟨by omega, by omega⟩, zg_ok ⟨by omega, by omega⟩, ih M (x + 0) (i + 1) (by omega) (by omega) (by omega) (by omega) (by omega) (by omega), z]
      congr 1
      omega
    have go1 : yWg T C N (yTg T N L) i = 1 → zg (x + 1) (zg (i + 1) (zf_195_4 M 0 (x + 1) (i + 1) s)) = zi (x + (yWg T C N (yTg T N L) i + ySm (yWg T C N (yTg T N L)) m (i + 1))) s := fun z => by
      rw [zg_ok ⟨by omega, by omega⟩, zg_ok ⟨by omega, by omega⟩, ih M (x + 1) (i + 1) (by omega) (by omega) (by omega) (by omega) (by omega) (by omega), z]
      congr 1
      omega
    unfold zf_195_4
    rw [h9, if_neg (by omega), M192 W H ⟨i0, by omega⟩, zC_zi]
    show _ = zi (x + (yWg T C N (yTg T N L) i + ySm _ m (i + 1))) s
    by_cases c : yRl T (N i 198)
    · rw [if_pos c] at e ⊢
      rw [if_neg (by decide), zn_ok (by omega), M194 W H ⟨i0, by omega⟩ c, zC_zi, (H.1.2 i i0 (by omega)).2.2.2.2.1]
      by_cases c2 : N i 196 = yDu T C N L i
      · rw [if_pos c2] at e ⊢
        exact go0 e.symm
      · rw [if_neg c2] at e ⊢
        exact go1 e.symm
    · rw [if_neg c] at e ⊢
      rw [if_pos rfl] at e ⊢
      exact go0 e.symm
theorem M195 (W : yWT T) (H : mHo t T B C n N L w s) : zf_195 0 s = zi (yWs T C N L) s := by
  have hL := H.2.1.1
  unfold zf_195 yWs
  rw [M195_4 W H (L - 0).toNat xfu 0 0 (pa_fu (by omega)) rfl (by decide) (by omega) (by decide) (by decide), Int.zero_add, Int.sub_zero]
theorem mRd'.H (h : mR A s) (ok : aOK A) (g : mRd' A s) (c : aChosen A ≠ -1) {x : Int × Int × Int × List yN} (e : aRd A (aChosen A).toNat = .inr x) : mHo (aChosen A) (A.2 (aChosen A).toNat) (A.1 2) (A.1 2) (A.1 3 0) (yNs x.2.2.2) x.2.2.2.length x.2.2.1 s := by
  obtain ⟨y, y1, y2, y3, y4, y5⟩ := aChosen_x ok c
  have o := ok.2.2.2.2.2 _ y4
  have I := g.I
  rw [y2] at I
  have ex : y = x := by
    rw [y1] at e
    injection e
  subst ex
  have f := h.F ok
  have R := (h.2.2.2.2.2.1 _ y4).2
  rw [y5] at R
  exact ⟨I.nds, yTop_sh (st := 0) (off := 0) o.1 o.2.2.2 f.2.1.2 f.2.2.2 ⟨by decide, by have := o.1.1; omega⟩ (by decide) y1, R, f⟩
theorem M197 {cd : Nat → Int} (h : mR A s) (ok : aOK A) : mOut (zf_197 0 s) (.inl (aWrong A)) cd A s := by
  have h0 : mR A (zp 576 0 0 0 s) := h.k ok fun f i hf => zp_nk (by omega)
  obtain ⟨u, a1, a2, a3, a4⟩ := M187 h0 ok
  unfold zf_197 aWrong
  rw [zP_ok, a1, zC_zi]
  have fin : ∀ v : Int, mOut (zi v u) (.inl v) cd A s := fun v => ⟨v, u, rfl, a2, mFr.tr (mFr.rf.pw (by decide)) a4.F, rfl, (a4.1 576 0 0 (by omega)).trans zp_eq⟩
  by_cases d : aChosen A = -1
  · unfold mRd' at a3
    rw [if_pos d] at a3 ⊢
    unfold zf_195
    have hx : (xfu : Nat) = (xfu - 1) + 1 := by
      have := pa_fu (m := 1) (by decide)
      omega
    rw [hx]
    unfold zf_195_4
    rw [a3, if_pos (Int.le_refl _), zC_zi]
    exact fin 0
  · obtain ⟨x, x1, x2, x3, x4, x5⟩ := aChosen_x ok d
    rw [if_neg d, M195 (ok.2.2.2.2.2 _ x4).1 (a3.H a2 ok d x1), zC_zi, x2]
    exact fin _
theorem M198 {cd : Nat → Int} (h : mR A s) (ok : aOK A) : mOut (zf_198 0 s) (.inl (aWrong A)) cd A s := by
  obtain ⟨v, u, a1, a2, a3, a4⟩ := M197 (cd := cd) h ok
  unfold zf_198
  rw [a1]
  exact ⟨v, u, rfl, a2, a3, a4⟩
end
