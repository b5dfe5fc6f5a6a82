section
/-! edits: the reference puts lengths and counts right -/
section
variable {T : yT} {B C F G : yB} {n L w : Int} {N : Int → yN} {s u : zS} {t k v : Int}
/-- only bytes, values and what is known of nodes have changed -/
def mWl (s u : zS) : Prop := (∀ (f n : Nat) (i : Int), ¬ (n = 0 ∧ (f = 595 ∨ f = 616 ∨ f = 631 ∨ f = 632)) → u.1 f n i = s.1 f n i) ∧ u.2 = s.2
theorem mWl.rf : mWl s s := ⟨fun _ _ _ _ => rfl, rfl⟩
theorem mWl.tr {v : zS} (a : mWl s u) (b : mWl u v) : mWl s v := ⟨fun f n i h => (b.1 f n i h).trans (a.1 f n i h), b.2.trans a.2⟩
theorem mWl.of (a : mWk s u) : mWl s u := ⟨fun f n i h => a.1 f n i (by omega), a.2⟩
theorem mWl.pw {f : Nat} {i x : Int} (a : mWl s u) (h : f = 631 ∨ f = 632) : mWl s (zp f 0 i x u) := ⟨fun f' n' i' hn => (zp_n3 (by omega)).trans (a.1 f' n' i' hn), a.2⟩
theorem mTb.wl (h : mTb t T N L s) (a : mWl s u) : mTb t T N L u := ⟨(a.1 610 0 0 (by omega)).trans h.1, fun j j1 j2 => by
  rw [a.1 612 0 j (by omega), a.1 613 0 j (by omega), a.1 614 0 j (by omega), a.1 615 0 j (by omega), a.1 617 0 j (by omega), a.1 618 0 j (by omega), a.1 619 0 j (by omega)]
  exact h.2 j j1 j2⟩
theorem mRel.wl (R : mRel t T s) (W : yWT T) (a : mWl s u) : mRel t T u := R.c W fun f i hf => a.1 f 0 i (by omega)
theorem mTb.fl (W : yWT T) (R : mRel t T s) (S : ySh T B n N L w) {i : Int} (hi : 0 ≤ i ∧ i < L) (f : N i 198 ≠ -1) : ∃ st k, N i 198 = 8 * st + k ∧ (0 ≤ st ∧ st < T 449 0) ∧ (0 ≤ k ∧ k < T 453 st) ∧ (0 ≤ N i 198 ∧ N i 198 < 48) ∧ mRelF t T st k s ∧ yWF T st k ∧ T 453 st ≤ 8 := by
  have nd := S.nd hi
  have b := nd.f W f
  rcases nd.2 with z | ⟨st, k, h1, h2, h3, -⟩
  · exact absurd z.1 f
  · exact ⟨st, k, h1, h2, h3, b, (R.2.2 st h2.1 h2.2).2.2.2 k h3.1 h3.2, (W.2.2 st h2.1 h2.2).2.2 k h3.1 h3.2, (W.2.2 st h2.1 h2.2).2.1⟩
theorem M192w (W : yWT T) (H : mTb t T N L s) (R : mRel t T s) (S : ySh T B n N L w) {i : Int} (hi : 0 ≤ i ∧ i < L) : zf_192 0 i s = zi (if yRl T (N i 198) then 1 else 0) s := by
  have hL := S.1
  have h1 := R.1
  have e18 := (H.2 i hi.1 hi.2).2.2.2.2.2.1
  unfold zf_192
  rw [zn_ok (by omega), e18]
  by_cases c : N i 198 = -1
  · rw [if_pos c, if_pos rfl, if_neg (fun z => z.1 c)]
    rfl
  · obtain ⟨st, k, f1, f2, f3, f4, RF, F, f8⟩ := mTb.fl W R S hi c
    have r := RF.2.2.2.2.2.1
    have r73 := F.r
    rw [← f1] at r r73
    rw [if_neg c, if_neg (by omega), zn_ok (by omega), zn_ok (by omega), r]
    by_cases c0 : T 467 (N i 198) = 0
    · rw [if_neg (show ¬ T 467 (N i 198) = 61 by omega), if_pos c0, if_neg (fun z => z.2.1 c0)]
      rfl
    · by_cases c1 : T 467 (N i 198) = 61
      · rw [if_pos c1, if_neg (show ¬ (73 : Int) = 0 by decide), zn_ok (by omega), zn_ok (by omega), if_pos rfl, if_neg (fun z => z.2.2 c1)]
        rfl
      · rw [if_neg c1, if_neg c0, zn_ok (by omega), zn_ok (by omega), if_neg r73, if_pos (⟨c, c0, c1⟩ : yRl T (N i 198))]
        rfl
theorem M210 (W : yWT T) (H : mTb t T N L s) (R : mRel t T s) (S : ySh T B n N L w) {i : Int} (hi : 0 ≤ i ∧ i < L) (c : yRl T (N i 198)) : zf_210 0 i s = zi (if T 467 (N i 198) = 35 ∨ T 467 (N i 198) = 37 then 1 else 0) s := by
  have hL := S.1
  have h1 := R.1
  have e18 := (H.2 i hi.1 hi.2).2.2.2.2.2.1
  obtain ⟨st, k, f1, f2, f3, f4, RF, F, f8⟩ := mTb.fl W R S hi c.1
  have r := RF.2.2.2.2.2.1
  rw [← f1] at r
  rw [if_neg c.1] at e18
  unfold zf_210
  rw [zn_ok (by omega), zn_ok (by omega), zn_ok (by omega), zn_ok (by omega), e18, r, if_neg c.2.2]
  by_cases a : T 467 (N i 198) = 35
  · rw [if_pos a, if_pos (Or.inl a)]
    rfl
  · by_cases b : T 467 (N i 198) = 37
    · rw [if_neg a, if_pos b, if_pos (Or.inr b)]
      rfl
    · rw [if_neg a, if_neg b, if_neg (by omega)]
      rfl
theorem mHo.wl (H : mHo t T B C n N L w s) (W : yWT T) (a : ∀ (f : Nat) (i : Int), f ≠ 631 → f ≠ 632 → u.1 f 0 i = s.1 f 0 i) : mHo t T B C n N L w u := by
  obtain ⟨H1, S, R, F⟩ := H
  refine ⟨⟨(a 610 0 (by decide) (by decide)).trans H1.1, fun j j1 j2 => ?_⟩, S, R.c W fun f i hf => a f i (by omega) (by omega), (a 594 0 (by decide) (by decide)).trans F.1, F.2.1, fun i i1 i2 => (a 595 i (by decide) (by decide)).trans (F.2.2.1 i i1 i2), F.2.2.2⟩
  rw [a 612 j (by decide) (by decide), a 613 j (by decide) (by decide), a 614 j (by decide) (by decide), a 615 j (by decide) (by decide), a 616 j (by decide) (by decide), a 617 j (by decide) (by decide), a 618 j (by decide) (by decide), a 619 j (by decide) (by decide)]
  exact H1.2 j j1 j2
theorem mHo.tb (H : mHo t T B C n N L w s) : mTb t T N L s := H.1.tb
theorem mHo.by (H : mHo t T B C n N L w s) : mBy C n s := ⟨H.2.2.2.1, H.2.2.2.2.2.1⟩
/-- what is known of node k -/
def eKn (T : yT) (B : yB) (N : Int → yN) (L k : Int) : Int := if N k 198 ≠ -1 ∧ (T 467 (N k 198) = 35 ∨ T 467 (N k 198) = 37) then yDu T B N L k else N k 196
/-- the second loop -/
theorem M212_56 (W : yWT T) (S : ySh T B n N L w) (hn : n ≤ 160) : ∀ (m M : Nat) (x i : Int) (F : yB) (s : zS), m < M → (m : Int) = L - i → 0 ≤ i → (x = 0 ∨ x = 1) → mTb t T N L s → mRel t T s → mBy F n s → (∀ j, 0 ≤ j → j < L → s.1 631 0 j = eKn T B N L j) → (∀ j, i ≤ j → j < L → s.1 616 0 j = N j 196) → (∀ i, 0 ≤ i → i < n → 0 ≤ F i ∧ F i ≤ 255) → ∃ u, zf_212_56 M 0 x i s = zi (if x = 0 ∧ ySm (eMw T B N L) m i = 0 then 0 else 1) u ∧ mWl s u ∧ mBy (eMd T B N L m i F) n u ∧ ∀ p, 0 ≤ p → p < n → 0 ≤ eMd T B N L m i F p ∧ eMd T B N L m i F p ≤ 255 := by
  intro m
  have hL := S.1
  have nn : ∀ (m : Nat) (k : Int), 0 ≤ ySm (eMw T B N L) m k := fun m => by
    induction m with
    | zero => exact fun k => Int.le_refl 0
    | succ m ih => exact fun k => Int.add_nonneg eMw_b.1 (ih (k + 1))
  induction m with
  | zero =>
    intro M x i F s hM hm i0 x0 H R hB h31 h16 g
    obtain ⟨M, rfl⟩ : ∃ L, M = L + 1 := ⟨M - 1, by omega⟩
    unfold zf_212_56
    rw [H.1, if_pos (by omega)]
    refine ⟨s, ?_, mWl.rf, hB, g⟩
    rcases x0 with rfl | rfl
    · rw [if_pos ⟨rfl, rfl⟩]
      rfl
    · rw [if_neg (fun z => absurd z.1 (by decide))]
      rfl
  | succ m ih =>
    intro M x i F s hM hm i0 x0 H R hB h31 h16 g
    obtain ⟨M, rfl⟩ : ∃ L, M = L + 1 := ⟨M - 1, by omega⟩
    have hi : 0 ≤ i ∧ i < L := ⟨i0, by omega⟩
    unfold zf_212_56
    rw [H.1, if_neg (by omega), M192w W H R S hi, zC_zi]
    show ∃ u, _ = zi (if x = 0 ∧ eMw T B N L i + ySm _ m (i + 1) = 0 then 0 else 1) u ∧ mWl s u ∧ mBy (eMd T B N L m (i + 1) (if eMw T B N L i = 1 then eW T N i (yDu T B N L i) F else F)) n u ∧ ∀ j, 0 ≤ j → j < n → 0 ≤ eMd T B N L m (i + 1) (if eMw T B N L i = 1 then eW T N i (yDu T B N L i) F else F) j ∧ eMd T B N L m (i + 1) (if eMw T B N L i = 1 then eW T N i (yDu T B N L i) F else F) j ≤ 255
    have skip : eMw T B N L i = 0 → ∃ u, zf_212_56 M 0 x (i + 1) s = zi (if x = 0 ∧ eMw T B N L i + ySm (eMw T B N L) m (i + 1) = 0 then 0 else 1) u ∧ mWl s u ∧ mBy (eMd T B N L m (i + 1) (if eMw T B N L i = 1 then eW T N i (yDu T B N L i) F else F)) n u ∧ ∀ j, 0 ≤ j → j < n → 0 ≤ eMd T B N L m (i + 1) (if eMw T B N L i = 1 then eW T N i (yDu T B N L i) F else F) j ∧ eMd T B N L m (i + 1) (if eMw T B N L i = 1 then eW T N i (yDu T B N L i) F else F) j ≤ 255 := fun e => by
      rw [if_neg (show ¬ eMw T B N L i = 1 by omega), e, Int.zero_add]
      exact ih M x (i + 1) F s (by omega) (by omega) (by omega) x0 H R hB h31 (fun j j1 j2 => h16 j (by omega) j2) g
    by_cases c : yRl T (N i 198)
    · rw [if_pos c, if_neg (show ¬ (1 : Int) = 0 by decide), zn_ok (by omega), zn_ok (by omega), h31 i hi.1 hi.2, h16 i (Int.le_refl _) hi.2]
      by_cases d : eKn T B N L i = N i 196
      · rw [if_pos d, zg_ok ⟨by omega, by omega⟩]
        refine skip ?_
        have : ¬ eMw T B N L i = 1 := fun z => by
          obtain ⟨z1, z2⟩ := eMw_1.mp z
          unfold eKn at d
          rw [if_pos z1] at d
          exact z2 d.symm
        have := eMw_b (T := T) (B := B) (N := N) (L := L) (k := i)
        omega
      · have c2 : N i 198 ≠ -1 ∧ (T 467 (N i 198) = 35 ∨ T 467 (N i 198) = 37) := by
          by_cases z : N i 198 ≠ -1 ∧ (T 467 (N i 198) = 35 ∨ T 467 (N i 198) = 37)
          · exact z
          · unfold eKn at d
            rw [if_neg z] at d
            exact absurd rfl d
        have ek : eKn T B N L i = yDu T B N L i := if_pos c2
        rw [ek] at d
        have e : eMw T B N L i = 1 := eMw_1.mpr ⟨c2, fun z => d z.symm⟩
        obtain ⟨⟨k2, -⟩, gw⟩ := eMw_w W S hi e g
        obtain ⟨u1, a1, a2, a3, a4⟩ := M205 W H R S hn hB hi (Or.inl k2) (v := yDu T B N L i)
        have l := mWl.of a2
        obtain ⟨u2, b1, b2, b3, b4⟩ := ih M 1 (i + 1) _ u1 (by omega) (by omega) (by omega) (Or.inr rfl) (H.wl l) (R.wl W l) a3 (fun j j1 j2 => (a2.1 631 0 j (by omega)).trans (h31 j j1 j2)) (fun j j1 j2 => by rw [a4, if_neg (by omega)]; exact h16 j (by omega) j2) gw
        have := nn m (i + 1)
        rw [ek, if_neg d, zn_ok (by omega), a1, zC_zi, zg_ok ⟨by omega, by omega⟩, if_pos e, e, if_neg (show ¬ (x = 0 ∧ 1 + ySm (eMw T B N L) m (i + 1) = 0) from fun z => by have := z.2; omega)]
        rw [if_neg (fun z => absurd z.1 (by decide))] at b1
        exact ⟨u2, b1, l.tr b2, b3, b4⟩
    · rw [if_neg c, if_pos rfl, zg_ok ⟨by omega, by omega⟩]
      refine skip ?_
      have : ¬ eMw T B N L i = 1 := fun z => by
        obtain ⟨z1, z2⟩ := eMw_1.mp z
        exact c ⟨z1.1, by omega, by omega⟩
      have := eMw_b (T := T) (B := B) (N := N) (L := L) (k := i)
      omega
/-- the first loop -/
theorem M212_4 (W : yWT T) (x : Int) : ∀ (m M : Nat) (i : Int) (s : zS), m < M → (m : Int) = L - i → 0 ≤ i → mHo t T B B n N L w s → (∀ j, 0 ≤ j → j < i → s.1 631 0 j = eKn T B N L j) → ∃ u, zf_212_4 M 0 x i s = zf_212_56 xfu 0 x 0 u ∧ mWl s u ∧ mHo t T B B n N L w u ∧ ∀ j, 0 ≤ j → j < L → u.1 631 0 j = eKn T B N L j := by
  intro m
  induction m with
  | zero =>
    intro M i s hM hm i0 H h31
    obtain ⟨M, rfl⟩ : ∃ L, M = L + 1 := ⟨M - 1, by omega⟩
    unfold zf_212_4
    rw [H.1.1, if_pos (by omega)]
    exact ⟨s, rfl, mWl.rf, H, fun j j1 j2 => h31 j j1 (by omega)⟩
  | succ m ih =>
    intro M i s hM hm i0 H h31
    obtain ⟨M, rfl⟩ : ∃ L, M = L + 1 := ⟨M - 1, by omega⟩
    have S := H.2.1
    have hL := S.1
    have hi : 0 ≤ i ∧ i < L := ⟨i0, by omega⟩
    have e16 := (H.1.2 i hi.1 hi.2).2.2.2.2.1
    unfold zf_212_4
    rw [H.1.1, if_neg (by omega), M192 W H hi, zC_zi]
    have go : ∀ v, v = eKn T B N L i → ∃ u, zf_212_4 M 0 x (i + 1) (zp 631 0 i v s) = zf_212_56 xfu 0 x 0 u ∧ mWl s u ∧ mHo t T B B n N L w u ∧ ∀ j, 0 ≤ j → j < L → u.1 631 0 j = eKn T B N L j := fun v hv => by
      obtain ⟨u, a1, a2, a3, a4⟩ := ih M (i + 1) (zp 631 0 i v s) (by omega) (by omega) (by omega) (H.wl W fun f i h1 h2 => zp_nk (by omega)) fun j j1 j2 => by
        by_cases e : j = i
        · rw [e, zp_eq, hv]
        · rw [zp_ni e]
          exact h31 j j1 (by omega)
      exact ⟨u, a1, (mWl.rf.pw (Or.inl rfl)).tr a2, a3, a4⟩
    by_cases c : yRl T (N i 198)
    · rw [if_pos c, if_neg (show ¬ (1 : Int) = 0 by decide), M210 W H.tb H.2.2.1 S hi c, zC_zi]
      by_cases d : T 467 (N i 198) = 35 ∨ T 467 (N i 198) = 37
      · rw [if_pos d, if_neg (show ¬ (1 : Int) = 0 by decide), M194 W H hi c, zC_zi, zW_ok (by omega), zg_ok ⟨by omega, by omega⟩]
        exact go _ (if_pos ⟨c.1, d⟩).symm
      · rw [if_neg d, if_pos rfl, zn_ok (by omega), zW_ok (by omega), zg_ok ⟨by omega, by omega⟩, e16]
        exact go _ (if_neg fun z => d z.2).symm
    · rw [if_neg c, if_pos rfl, zn_ok (by omega), zW_ok (by omega), zg_ok ⟨by omega, by omega⟩, e16]
      exact go _ (if_neg fun z => c ⟨z.1, by omega, by omega⟩).symm
theorem M212 (W : yWT T) (H : mHo t T B B n N L w s) : ∃ u, zf_212 0 s = zi (if eMc T B N L = 0 then 0 else 1) u ∧ mWl s u ∧ mRel t T u ∧ mFile (eMd T B N L L.toNat 0 B) n u := by
  have hL := H.2.1.1
  obtain ⟨u, a1, a2, a3, a4⟩ := M212_4 W 0 L.toNat xfu 0 s (pa_fu (by omega)) (by omega) (by decide) H fun j j1 j2 => by omega
  obtain ⟨v, b1, b2, b3, b4⟩ := M212_56 W a3.2.1 H.2.2.2.2.1.2 L.toNat xfu 0 0 B u (pa_fu (by omega)) (by omega) (by decide) (Or.inl rfl) a3.tb a3.2.2.1 a3.by a4 (fun j j1 j2 => (a3.1.2 j j1 j2).2.2.2.2.1) H.2.2.2.2.2.2
  unfold zf_212
  rw [a1, b1]
  refine ⟨v, ?_, a2.tr b2, a3.2.2.1.wl W b2, b3.1, H.2.2.2.2.1, b3.2, b4⟩
  unfold eMc
  by_cases z : ySm (eMw T B N L) L.toNat 0 = 0
  · rw [if_pos ⟨rfl, z⟩, if_pos z]
  · rw [if_neg (fun y => z y.2), if_neg z]
end
end
