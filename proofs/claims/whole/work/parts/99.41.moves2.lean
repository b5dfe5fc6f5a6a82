section
/-! edits: bytes are put in or taken out: the reference -/
/-- what the reference has reckoned for node i -/
def eV1 (T : yT) (N : Int → yN) (L J p k g e i : Int) : Int :=
  if N i 192 = 3 then eVl T N L J p k g e i
  else if yRl T (N i 198) then (if (T 467 (N i 198) = 35 ∧ eLi N (yTg T N L i) 201 J = 1) ∨ (T 467 (N i 198) = 37 ∧ yTg T N L i = J) then eVl T N L J p k g e i else N i 196)
  else -1
section
variable {T : yT} {B C F G : yB} {n L w t : Int} {N : Int → yN} {s u : zS} {i k p v x g J e c : Int}
theorem M206_e (H : mTb t T N L s) (hL : L ≤ 200) (up : ∀ k, 0 ≤ k → k < L → -1 ≤ N k 197 ∧ N k 197 < k) (hg : 0 ≤ g) : ∀ (m M : Nat) (c : Int), m < M → c < m → -1 ≤ c → c < L → zf_206_2 M 0 g c s = zi (eLi N g m c) s := by
  intro m
  induction m with
  | zero =>
    intro M c hM h1 h2 h3
    obtain ⟨M, rfl⟩ : ∃ L, M = L + 1 := ⟨M - 1, by omega⟩
    have e : c = -1 := by omega
    unfold zf_206_2 zf_206_22
    rw [if_pos e, if_neg (by omega)]
    rfl
  | succ m ih =>
    intro M c hM h1 h2 h3
    obtain ⟨M, rfl⟩ : ∃ L, M = L + 1 := ⟨M - 1, by omega⟩
    unfold zf_206_2 zf_206_22 eLi
    by_cases e : c = -1
    · rw [if_pos e, if_neg (show ¬ c = g by omega), if_pos (show c < 0 by omega)]
      rfl
    · rw [if_neg e, if_neg (show ¬ c < 0 by omega)]
      by_cases d : c = g
      · simp only [if_pos d]
        rfl
      · have up := up c (by omega) h3
        simp only [if_neg d]
        rw [zn_ok (by omega), (H.2 c (by omega) h3).2.2.2.2.1]
        exact ih M (N c 197) (by omega) (by omega) (by omega) (by omega)
theorem M207_249 (W : yWT T) (S : ySh T B n N L w) (hn : n ≤ 160) (hB : ∀ i, 0 ≤ i → i < n → 0 ≤ B i ∧ B i ≤ 255) : ∀ (m M : Nat) (i : Int) (F : yB) (s : zS), m < M → (m : Int) = L - i → 0 ≤ i → mTb t T N L s → mRel t T s → mBy F n s → (∀ j, 0 ≤ j → j < L → s.1 631 0 j = eV1 T N L J p k g e j) → (∀ j, i ≤ j → j < L → s.1 616 0 j = N j 196) → eAg N L B i F → ∃ u, zf_207_249 M 0 1 i s = zi 1 u ∧ mWl s u ∧ mBy (eMv T N (eVl T N L J p k g e) m i F) n u := by
  have hL := S.1
  intro m
  induction m with
  | zero =>
    intro M i F s hM hm i0 H R hF h31 h16 a
    obtain ⟨M, rfl⟩ : ∃ L, M = L + 1 := ⟨M - 1, by omega⟩
    unfold zf_207_249
    rw [H.1, if_pos (by omega)]
    exact ⟨s, rfl, mWl.rf, hF⟩
  | succ m ih =>
    intro M i F s hM hm i0 H R hF h31 h16 a
    obtain ⟨M, rfl⟩ : ∃ L, M = L + 1 := ⟨M - 1, by omega⟩
    have hi : 0 ≤ i ∧ i < L := ⟨i0, by omega⟩
    have e31 := h31 i hi.1 hi.2
    have e16 := h16 i (Int.le_refl _) hi.2
    have e12 := (H.2 i hi.1 hi.2).1
    show ∃ u, _ = zi 1 u ∧ mWl s u ∧ mBy (eMv T N (eVl T N L J p k g e) m (i + 1) (if eVl T N L J p k g e i = -1 then F else eW T N i (eVl T N L J p k g e i) F)) n u
    have skip : (if eVl T N L J p k g e i = -1 then F else eW T N i (eVl T N L J p k g e i) F) = F → ∃ u, zg (i + 1) (zf_207_249 M 0 1 (i + 1) s) = zi 1 u ∧ mWl s u ∧ mBy (eMv T N (eVl T N L J p k g e) m (i + 1) (if eVl T N L J p k g e i = -1 then F else eW T N i (eVl T N L J p k g e i) F)) n u := fun z => by
      rw [z, zg_ok ⟨by omega, by omega⟩]
      exact ih M (i + 1) F s (by omega) (by omega) (by omega) H R hF h31 (fun j j1 j2 => h16 j (by omega) j2) a.sk
    have go : (N i 192 = 2 ∨ N i 192 = 3) → eV1 T N L J p k g e i = eVl T N L J p k g e i → eVl T N L J p k g e i ≠ -1 → ∃ u, zf_207_302 (fun y0 y1 y2 y => zf_207_249 M y0 y1 y2 y) 0 1 i s = zi 1 u ∧ mWl s u ∧ mBy (eMv T N (eVl T N L J p k g e) m (i + 1) (if eVl T N L J p k g e i = -1 then F else eW T N i (eVl T N L J p k g e i) F)) n u := fun kd z1 z2 => by
      obtain ⟨u1, a1, a2, a3, a4⟩ := M205 W H R S hn hF hi (by omega) (v := eVl T N L J p k g e i)
      have l := mWl.of a2
      obtain ⟨u, b1, b2, b3⟩ := ih M (i + 1) _ u1 (by omega) (by omega) (by omega) (H.wl l) (R.wl W l) a3 (fun j j1 j2 => (a2.1 631 0 j (by omega)).trans (h31 j j1 j2)) (fun j j1 j2 => by rw [a4, if_neg (by omega)]; exact h16 j (by omega) j2) (a.nx W S hi kd)
      unfold zf_207_302
      rw [zn_ok (by omega), e31, z1, a1, zC_zi, zg_ok ⟨by omega, by omega⟩, if_neg z2]
      exact ⟨u, b1, l.tr b2, b3⟩
    unfold zf_207_249
    rw [H.1, if_neg (by omega), if_neg (show ¬ (1 : Int) = 0 by decide), zn_ok (by omega), e31, zn_ok (by omega), e12, zn_ok (by omega), zn_ok (by omega), e16]
    by_cases c3 : N i 192 = 3
    · have e1 : eV1 T N L J p k g e i = eVl T N L J p k g e i := if_pos c3
      rw [if_pos c3, e1]
      by_cases z : eVl T N L J p k g e i = -1
      · rw [if_pos z]
        exact skip (if_pos z)
      · rw [if_neg z]
        exact go (Or.inr c3) e1 z
    · rw [if_neg c3]
      by_cases R1 : yRl T (N i 198)
      · have k2 := R1.k2 W S hi
        by_cases q : (T 467 (N i 198) = 35 ∧ eLi N (yTg T N L i) 201 J = 1) ∨ (T 467 (N i 198) = 37 ∧ yTg T N L i = J)
        · have e1 : eV1 T N L J p k g e i = eVl T N L J p k g e i := by
            unfold eV1
            rw [if_neg c3, if_pos R1, if_pos q]
          rw [e1]
          by_cases z : eVl T N L J p k g e i = -1
          · rw [if_pos z]
            exact skip (if_pos z)
          · rw [if_neg z]
            by_cases y : eVl T N L J p k g e i = N i 196
            · rw [if_pos y]
              refine skip ?_
              rw [if_neg z, y]
              exact eW_own W S hB hi (Or.inl k2) (a i (Int.le_refl _) hi.2 (Or.inl k2))
            · rw [if_neg y]
              exact go (Or.inl k2) e1 z
        · have e1 : eV1 T N L J p k g e i = N i 196 := by
            unfold eV1
            rw [if_neg c3, if_pos R1, if_neg q]
          have ev : eVl T N L J p k g e i = -1 := by
            unfold eVl
            rw [if_neg c3, if_neg (fun z => q (Or.inl z.2)), if_neg (fun z => q (Or.inr z.2))]
          rw [e1]
          by_cases z : N i 196 = -1
          · rw [if_pos z]
            exact skip (if_pos ev)
          · rw [if_neg z, if_pos rfl]
            exact skip (if_pos ev)
      · have e1 : eV1 T N L J p k g e i = -1 := by
          unfold eV1
          rw [if_neg c3, if_neg R1]
        have ev : eVl T N L J p k g e i = -1 := by
          unfold eVl
          rw [if_neg c3, if_neg (fun z => R1 z.1), if_neg (fun z => R1 z.1)]
        rw [e1, if_pos rfl]
        exact skip (if_pos ev)
theorem M207_6 (W : yWT T) (hJ : 0 ≤ J ∧ J < L) (hp : 0 ≤ p ∧ p ≤ 1000) (hk : 0 ≤ k ∧ k ≤ 1000) (hg : g = 0 ∨ g = 1) (he : -1 ≤ e ∧ e ≤ 1) : ∀ (m M : Nat) (i x : Int) (s : zS), m < M → (m : Int) = L - i → 0 ≤ i → (x = 0 ∨ x = 1) → mHo t T B B n N L w s → (∀ j, 0 ≤ j → j < i → s.1 631 0 j = eV1 T N L J p k g e j) → ∃ u, zf_207_6 M 0 J p k g e x i s = zf_207_249 xfu 0 (if x = 0 then 0 else eFg N (eVl T N L J p k g e) m i) 0 u ∧ mWl s u ∧ mHo t T B B n N L w u ∧ ∀ j, 0 ≤ j → j < L → u.1 631 0 j = eV1 T N L J p k g e j := by
  intro m
  induction m with
  | zero =>
    intro M i x s hM hm i0 x01 H h31
    obtain ⟨M, rfl⟩ : ∃ L, M = L + 1 := ⟨M - 1, by omega⟩
    unfold zf_207_6
    rw [H.1.1, if_pos (by omega)]
    refine ⟨s, ?_, mWl.rf, H, fun j j1 j2 => h31 j j1 (by omega)⟩
    show _ = zf_207_249 xfu 0 (if x = 0 then 0 else 1) 0 s
    rcases x01 with rfl | rfl <;> rfl
  | succ m ih =>
    intro M i x s hM hm i0 x01 H h31
    obtain ⟨M, rfl⟩ : ∃ L, M = L + 1 := ⟨M - 1, by omega⟩
    have S := H.2.1
    have hL := S.1
    have hn := H.2.2.2.2.1
    have hi : 0 ≤ i ∧ i < L := ⟨i0, by omega⟩
    have hh := H.1.2 i hi.1 hi.2
    have e12 := hh.1
    have e16 := hh.2.2.2.2.1
    have e18 := hh.2.2.2.2.2.2.1
    have fg : eFg N (eVl T N L J p k g e) (m + 1) i = if N i 192 = 3 ∧ 255 < eVl T N L J p k g e i then 0 else eFg N (eVl T N L J p k g e) m (i + 1) := rfl
    have go : ∀ x' v : Int, (x' = 0 ∨ x' = 1) → v = eV1 T N L J p k g e i → (if x' = 0 then 0 else eFg N (eVl T N L J p k g e) m (i + 1)) = (if x = 0 then 0 else eFg N (eVl T N L J p k g e) (m + 1) i) → ∃ u, zf_207_6 M 0 J p k g e x' (i + 1) (zp 631 0 i v s) = zf_207_249 xfu 0 (if x = 0 then 0 else eFg N (eVl T N L J p k g e) (m + 1) i) 0 u ∧ mWl s u ∧ mHo t T B B n N L w u ∧ ∀ j, 0 ≤ j → j < L → u.1 631 0 j = eV1 T N L J p k g e j := fun x' v h1 hv hx => by
      obtain ⟨u, a1, a2, a3, a4⟩ := ih M (i + 1) x' (zp 631 0 i v s) (by omega) (by omega) (by omega) h1 (H.wl W fun f i h1 h2 => zp_nk (by omega)) fun j j1 j2 => by
        by_cases z : j = i
        · rw [z, zp_eq, hv]
        · rw [zp_ni z]
          exact h31 j j1 (by omega)
      rw [hx] at a1
      exact ⟨u, a1, (mWl.rf.pw (Or.inl rfl)).tr a2, a3, a4⟩
    unfold zf_207_6
    rw [H.1.1, if_neg (by omega), zn_ok (by omega), e12]
    by_cases c3 : N i 192 = 3
    · have e1 : eV1 T N L J p k g e i = eVl T N L J p k g e i := if_pos c3
      have rv := S.rv W H.2.2.2.2.2.2 hi c3
      have key : ∀ y : Int, y = eVl T N L J p k g e i → ∃ u, zf_207_85 (fun y0 y1 y2 y3 y4 y5 y6 y7 y => zf_207_6 M y0 y1 y2 y3 y4 y5 y6 y7 y) 0 J p k g e x i y s = zf_207_249 xfu 0 (if x = 0 then 0 else eFg N (eVl T N L J p k g e) (m + 1) i) 0 u ∧ mWl s u ∧ mHo t T B B n N L w u ∧ ∀ j, 0 ≤ j → j < L → u.1 631 0 j = eV1 T N L J p k g e j := fun y hy => by
        unfold zf_207_85 zf_207_105
        rcases x01 with rfl | rfl
        · rw [if_pos rfl, zW_ok (by omega), zg_ok ⟨by omega, by omega⟩]
          exact go 0 y (Or.inl rfl) (hy.trans e1.symm) rfl
        · rw [if_neg (show ¬ (1 : Int) = 0 by decide)]
          by_cases o : 255 < y
          · rw [if_pos o, zW_ok (by omega), zg_ok ⟨by omega, by omega⟩]
            refine go 0 y (Or.inl rfl) (hy.trans e1.symm) ?_
            rw [if_pos rfl, if_neg (by decide), fg, if_pos ⟨c3, by omega⟩]
          · rw [if_neg o, zW_ok (by omega), zg_ok ⟨by omega, by omega⟩]
            refine go 1 y (Or.inr rfl) (hy.trans e1.symm) ?_
            rw [if_neg (by decide), if_neg (by decide), fg, if_neg (fun z => by have := z.2; omega)]
      have ev : eVl T N L J p k g e i = eRv p k g (N i 196) := if_pos c3
      unfold eRv at ev
      rw [if_pos c3, zn_ok (by omega), e16]
      by_cases g0 : g = 0
      · rw [if_pos g0] at ev
        rw [if_pos g0, zg_ok ⟨by omega, by omega⟩]
        by_cases d : N i 196 < p + k
        · rw [if_pos d] at ev
          rw [if_pos d]
          by_cases d2 : N i 196 ≤ p
          · rw [if_pos d2] at ev
            rw [if_pos d2]
            exact key _ ev.symm
          · rw [if_neg d2] at ev
            rw [if_neg d2]
            exact key _ ev.symm
        · rw [if_neg d] at ev
          rw [if_neg d, zg_ok ⟨by omega, by omega⟩]
          exact key _ ev.symm
      · rw [if_neg g0] at ev
        rw [if_neg g0]
        by_cases d : N i 196 < p
        · rw [if_pos d] at ev
          rw [if_pos d]
          exact key _ ev.symm
        · rw [if_neg d] at ev
          rw [if_neg d, zg_ok ⟨by omega, by omega⟩]
          exact key _ ev.symm
    · have fe : (if x = 0 then 0 else eFg N (eVl T N L J p k g e) m (i + 1)) = (if x = 0 then 0 else eFg N (eVl T N L J p k g e) (m + 1) i) := by
        rw [fg, if_neg (show ¬ (N i 192 = 3 ∧ 255 < eVl T N L J p k g e i) from fun z => c3 z.1)]
      rw [if_neg c3, M192 W H hi, zC_zi]
      by_cases R1 : yRl T (N i 198)
      · have tg := S.tg W hi R1
        have et := H.1.2 _ tg.1.1 tg.1.2
        have l1 := S.ln hn.1 tg.1
        obtain ⟨st, j, f1, f2, f3, f4, RF, WF, f8⟩ := H.fl W hi R1.1
        have r := RF.2.2.2.2.2.1
        rw [← f1] at r
        rw [if_neg R1.2.2] at r
        rw [if_neg R1.1] at e18
        have h1 := H.2.2.1.1
        have own : ¬ ((T 467 (N i 198) = 35 ∧ eLi N (yTg T N L i) 201 J = 1) ∨ (T 467 (N i 198) = 37 ∧ yTg T N L i = J)) → N i 196 = eV1 T N L J p k g e i := fun z => by
          unfold eV1
          rw [if_neg c3, if_pos R1, if_neg z]
        have new : ∀ v : Int, ((T 467 (N i 198) = 35 ∧ eLi N (yTg T N L i) 201 J = 1) ∨ (T 467 (N i 198) = 37 ∧ yTg T N L i = J)) → v = eVl T N L J p k g e i → v = eV1 T N L J p k g e i := fun v z y => by
          unfold eV1
          rw [if_neg c3, if_pos R1, if_pos z]
          exact y
        rw [if_pos R1, if_neg (show ¬ (1 : Int) = 0 by decide), M193 W H hi R1, zC_zi, zn_ok (by omega), e18, zn_ok (by omega), r]
        by_cases c35 : T 467 (N i 198) = 35
        · rw [if_pos c35]
          unfold zf_206
          rw [M206_e H.tb hL.2 (fun k k0 k1 => S.up ⟨k0, k1⟩) tg.1.1 201 xfu J (pa_fu (by decide)) (by omega) (by omega) hJ.2, zC_zi]
          rcases eLi_01 (N := N) (g := yTg T N L i) 201 J with li | li
          · rw [li, if_pos rfl]
            unfold zf_207_195
            rw [if_neg (show ¬ T 467 (N i 198) = 37 by omega), zn_ok (by omega), zW_ok (by omega), zg_ok ⟨by omega, by omega⟩, e16]
            exact go x _ x01 (own fun z => by omega) fe
          · have ev : eVl T N L J p k g e i = N (yTg T N L i) 195 + (if g = 0 then -k else k) := by
              unfold eVl
              rw [if_neg c3, if_pos ⟨R1, c35, li⟩]
            rw [li, if_neg (show ¬ (1 : Int) = 0 by decide), zn_ok (by omega), et.2.2.2.1]
            rcases hg with rfl | rfl
            · rw [if_pos rfl] at ev
              rw [if_pos rfl, zg_ok ⟨by omega, by omega⟩, zg_ok ⟨by omega, by omega⟩, zW_ok (by omega), zg_ok ⟨by omega, by omega⟩]
              exact go x _ x01 (new _ (Or.inl ⟨c35, li⟩) ev.symm) fe
            · rw [if_neg (by decide)] at ev
              rw [if_neg (show ¬ (1 : Int) = 0 by decide), zg_ok ⟨by omega, by omega⟩, zW_ok (by omega), zg_ok ⟨by omega, by omega⟩]
              exact go x _ x01 (new _ (Or.inl ⟨c35, li⟩) ev.symm) fe
        · rw [if_neg c35]
          unfold zf_207_195
          by_cases c37 : T 467 (N i 198) = 37
          · have ar := S.ar W hi R1 c37
            rw [if_pos c37]
            by_cases tJ : yTg T N L i = J
            · have ev : eVl T N L J p k g e i = N (yTg T N L i) 196 + e := by
                unfold eVl
                rw [if_neg c3, if_neg (fun z => c35 z.2.1), if_pos ⟨R1, c37, tJ⟩]
              rw [if_pos tJ, zn_ok (by omega), et.2.2.2.2.1, zg_ok ⟨by omega, by omega⟩, zW_ok (by omega), zg_ok ⟨by omega, by omega⟩]
              exact go x _ x01 (new _ (Or.inr ⟨c37, tJ⟩) ev.symm) fe
            · rw [if_neg tJ, zn_ok (by omega), zW_ok (by omega), zg_ok ⟨by omega, by omega⟩, e16]
              exact go x _ x01 (own fun z => z.elim (fun y => c35 y.1) (fun y => tJ y.2)) fe
          · rw [if_neg c37, zn_ok (by omega), zW_ok (by omega), zg_ok ⟨by omega, by omega⟩, e16]
            exact go x _ x01 (own fun z => z.elim (fun y => c35 y.1) (fun y => c37 y.1)) fe
      · have e1 : eV1 T N L J p k g e i = -1 := by
          unfold eV1
          rw [if_neg c3, if_neg R1]
        rw [if_neg R1, if_pos rfl, zW_ok (by omega), zg_ok ⟨by omega, by omega⟩]
        exact go x _ x01 e1.symm fe
/-- what is written ahead of an edit, by the reference -/
theorem M207 (W : yWT T) (H : mHo t T B B n N L w s) (hJ : 0 ≤ J ∧ J < L) (hp : 0 ≤ p ∧ p ≤ 1000) (hk : 0 ≤ k ∧ k ≤ 1000) (hg : g = 0 ∨ g = 1) (he : -1 ≤ e ∧ e ≤ 1) : ∃ u, zf_207 0 J p k g e s = zi (eFg N (eVl T N L J p k g e) L.toNat 0) u ∧ mWl s u ∧ (eFg N (eVl T N L J p k g e) L.toNat 0 = 1 → mBy (eMv T N (eVl T N L J p k g e) L.toNat 0 B) n u) := by
  have S := H.2.1
  have hL := S.1
  obtain ⟨u, a1, a2, a3, a4⟩ := M207_6 W hJ hp hk hg he L.toNat xfu 0 1 s (pa_fu (by omega)) (by omega) (by decide) (Or.inr rfl) H fun j j1 j2 => by omega
  unfold zf_207
  rw [a1, if_neg (by decide)]
  rcases eFg_01 (N := N) (V := eVl T N L J p k g e) L.toNat 0 with z | z
  · rw [z]
    have hx : (xfu : Nat) = (xfu - 1) + 1 := by
      have := pa_fu (m := 1) (by decide)
      omega
    rw [hx]
    unfold zf_207_249
    rw [a3.1.1, if_neg (by omega), if_pos rfl]
    exact ⟨u, rfl, a2, fun y => absurd y (by decide)⟩
  · rw [z]
    obtain ⟨v, b1, b2, b3⟩ := M207_249 W S H.2.2.2.2.1.2 H.2.2.2.2.2.2 L.toNat xfu 0 B u (pa_fu (by omega)) (by omega) (by decide) a3.tb a3.2.2.1 a3.by a4 (fun j j1 j2 => (a3.1.2 j j1 j2).2.2.2.2.1) (fun _ _ _ _ _ _ _ => rfl)
    exact ⟨v, b1, a2.tr b2, fun _ => b3⟩
end
end
