section
/-! edits: bytes are put in or taken out: the class -/
section
variable {T : yT} {B C F G : yB} {n L w : Int} {N : Int → yN} {s u : zS} {r q : Nat} {i k p v x g J e c : Int}
theorem cHo.w1 (H : cHo r q 1 T B C n N L w s) (a : cWk s u) : cHo r q 1 T B C n N L w u := by
  have hb := H.tb.wk a
  obtain ⟨⟨h1, h2, h3, h4, h5, h6, h7, h8, h9, h10⟩, hN, S⟩ := H
  exact ⟨⟨hb.1, hb.2.1, (a.1 322 r 0 (by omega)).trans h3, h4, hb.2.2.1, (a.1 1 1 0 (by omega)).trans h6, h7, h8, fun i i1 i2 => (a.1 0 1 i (by omega)).trans (h9 i i1 i2), h10⟩, hb.2.2.2, S⟩
theorem C34_5 (I : cNd r N L s) (hL : L ≤ 200) (up : ∀ k, 0 ≤ k → k < L → -1 ≤ N k 197 ∧ N k 197 < k) : ∀ (m M : Nat) (c x : Int), m < M → c < m → -1 ≤ c → c < L → 0 ≤ x → x + c < 200 → zf_34_5 M r g c x s = zi (eLi N g m c) s := by
  intro m
  induction m with
  | zero =>
    intro M c x hM h1 h2 h3 x0 xc
    obtain ⟨M, rfl⟩ : ∃ L, M = L + 1 := ⟨M - 1, by omega⟩
    unfold zf_34_5 eLi
    by_cases d : 200 ≤ x
    · rw [if_pos d]
      rfl
    · rw [if_neg d, z27 I.1, zC_zi, if_neg (show ¬ (0 ≤ c ∧ c < L) by omega), if_pos rfl]
      rfl
  | succ m ih =>
    intro M c x hM h1 h2 h3 x0 xc
    obtain ⟨M, rfl⟩ : ∃ L, M = L + 1 := ⟨M - 1, by omega⟩
    unfold zf_34_5 eLi
    by_cases c0 : c < 0
    · rw [if_pos c0]
      by_cases d : 200 ≤ x
      · rw [if_pos d]
        rfl
      · rw [if_neg d, z27 I.1, zC_zi, if_neg (show ¬ (0 ≤ c ∧ c < L) by omega), if_pos rfl]
        rfl
    · have up := up c (by omega) h3
      rw [if_neg c0, if_neg (show ¬ 200 ≤ x by omega), z27 I.1, zC_zi, if_pos (show 0 ≤ c ∧ c < L by omega), if_neg (show ¬ (1 : Int) = 0 by decide)]
      by_cases d : c = g
      · rw [if_pos d, if_pos d]
        rfl
      · rw [if_neg d, if_neg d, zn_ok (by omega), I.2 c (by omega) h3 197 (by decide) (by decide), zg_ok ⟨by omega, by omega⟩]
        exact ih M (N c 197) (x + 1) (by omega) (by omega) (by omega) (by omega) (by omega) (by omega)
/-- the new lengths and counts -/
theorem C14_9 (W : yWT T) (hb : eVb T N L J p k g e) (hJ : 0 ≤ J ∧ J < L) (hk : 0 ≤ k ∧ k ≤ 160) (he : -1 ≤ e ∧ e ≤ 1) : ∀ (m M : Nat) (i : Int) (F : yB) (s : zS), m < M → (m : Int) = L - i → 0 ≤ i → cHo r q 1 T B C n N L w s → cBy 2 F n s → ∃ u, zf_14_9 M 0 r J (if g = 0 then -k else k) e r i s = zi 0 u ∧ cWk s u ∧ cBy 2 (eMv T N (eVB N (eVl T N L J p k g e)) m i F) n u := by
  intro m
  induction m with
  | zero =>
    intro M i F s hM hm i0 H hF
    obtain ⟨M, rfl⟩ : ∃ L, M = L + 1 := ⟨M - 1, by omega⟩
    unfold zf_14_9
    rw [H.2.1.1, if_pos (by omega)]
    exact ⟨s, rfl, cWk.rf, hF⟩
  | succ m ih =>
    intro M i F s hM hm i0 H hF
    obtain ⟨M, rfl⟩ : ∃ L, M = L + 1 := ⟨M - 1, by omega⟩
    have S := H.2.2
    have hL := S.1
    have hn := H.1.2.2.2.2.2.2
    have hi : 0 ≤ i ∧ i < L := ⟨i0, by omega⟩
    obtain ⟨-, b2, b3, b4⟩ := hb i hi.1 hi.2
    show ∃ u, _ = zi 0 u ∧ cWk s u ∧ cBy 2 (eMv T N (eVB N (eVl T N L J p k g e)) m (i + 1) (if eVB N (eVl T N L J p k g e) i = -1 then F else eW T N i (eVB N (eVl T N L J p k g e) i) F)) n u
    have go0 : eVB N (eVl T N L J p k g e) i = -1 → ∃ u, zf_14_9 M 0 r J (if g = 0 then -k else k) e r (i + 1) s = zi 0 u ∧ cWk s u ∧ cBy 2 (eMv T N (eVB N (eVl T N L J p k g e)) m (i + 1) (if eVB N (eVl T N L J p k g e) i = -1 then F else eW T N i (eVB N (eVl T N L J p k g e) i) F)) n u := fun z => by
      rw [if_pos z]
      exact ih M (i + 1) F s (by omega) (by omega) (by omega) H hF
    have go1 : ∀ s1 : zS, cWk s s1 → cBy 2 (eW T N i (eVl T N L J p k g e i) F) n s1 → eVl T N L J p k g e i ≠ -1 → N i 192 ≠ 3 → ∃ u, zf_14_9 M 0 r J (if g = 0 then -k else k) e r (i + 1) s1 = zi 0 u ∧ cWk s u ∧ cBy 2 (eMv T N (eVB N (eVl T N L J p k g e)) m (i + 1) (if eVB N (eVl T N L J p k g e) i = -1 then F else eW T N i (eVB N (eVl T N L J p k g e) i) F)) n u := fun s1 a1 a2 z1 z2 => by
      have z3 : eVB N (eVl T N L J p k g e) i = eVl T N L J p k g e i := if_neg z2
      rw [z3, if_neg z1]
      obtain ⟨u, b1, b2, b3⟩ := ih M (i + 1) _ s1 (by omega) (by omega) (by omega) (H.w1 a1) a2
      exact ⟨u, b1, a1.tr b2, b3⟩
    unfold zf_14_9
    rw [H.2.1.1, if_neg (by omega), z76 W H hi, zC_zi]
    by_cases c : yRl T (N i 198)
    · have k2 := c.k2 W S hi
      have c3 : N i 192 ≠ 3 := by omega
      have tg := S.tg W hi c
      have e3 : eVB N (eVl T N L J p k g e) i = eVl T N L J p k g e i := if_neg c3
      rw [if_neg c.1, (z77 W H hi).1 c, zC_zi]
      by_cases c35 : T 467 (N i 198) = 35
      · rw [if_pos c35]
        unfold zf_34
        rw [C34_5 H.2.1 hL.2 (fun k k0 k1 => S.up ⟨k0, k1⟩) 201 xfu J 0 (pa_fu (by decide)) (by omega) (by omega) hJ.2 (by decide) (by omega), zC_zi]
        rcases eLi_01 (N := N) (g := yTg T N L i) 201 J with li | li
        · rw [li, if_pos rfl]
          unfold zf_14_70
          rw [if_neg (show ¬ T 467 (N i 198) = 37 by omega), zg_ok ⟨by omega, by omega⟩]
          exact go0 (e3.trans (b4 c3 (fun z => by have := z.2.2; omega) (fun z => by have := z.2.1; omega)))
        · obtain ⟨v1, v2, v3⟩ := b2 c3 c c35 li
          obtain ⟨u1, a1, a2, a3⟩ := C11 W H.tb S hn.2.1 hF hi (Or.inl k2) (v := eVl T N L J p k g e i)
          rw [li, if_neg (show ¬ (1 : Int) = 0 by decide), zn_ok (by omega), H.2.1.2 _ tg.1.1 tg.1.2 195 (by decide) (by decide), ← v1, zg_ok ⟨by omega, by omega⟩, a1, zC_zi]
          unfold zf_14_70
          rw [if_neg (show ¬ T 467 (N i 198) = 37 by omega), zg_ok ⟨by omega, by omega⟩]
          exact go1 u1 a2 a3 (by omega) c3
      · rw [if_neg c35]
        unfold zf_14_70
        by_cases c37 : T 467 (N i 198) = 37
        · rw [if_pos c37]
          by_cases tJ : yTg T N L i = J
          · obtain ⟨v1, v2, v3⟩ := b3 c3 c c37 tJ
            obtain ⟨u1, a1, a2, a3⟩ := C11 W H.tb S hn.2.1 hF hi (Or.inl k2) (v := eVl T N L J p k g e i)
            rw [if_pos tJ, zn_ok (by omega), H.2.1.2 _ tg.1.1 tg.1.2 196 (by decide) (by decide), ← v1, zg_ok ⟨by omega, by omega⟩, a1, zC_zi, zg_ok ⟨by omega, by omega⟩]
            exact go1 u1 a2 a3 (by omega) c3
          · rw [if_neg tJ, zg_ok ⟨by omega, by omega⟩]
            exact go0 (e3.trans (b4 c3 (fun z => c35 z.2.1) (fun z => tJ z.2.2)))
        · rw [if_neg c37, zg_ok ⟨by omega, by omega⟩]
          exact go0 (e3.trans (b4 c3 (fun z => c35 z.2.1) (fun z => c37 z.2.1)))
    · have c1 : ¬ (if N i 198 = -1 then (0 : Int) else T 467 (N i 198)) = 35 := by
        split
        · decide
        · exact fun z => c ⟨by assumption, by omega, by omega⟩
      have c2 : ¬ (if N i 198 = -1 then (0 : Int) else T 467 (N i 198)) = 37 := by
        split
        · decide
        · exact fun z => c ⟨by assumption, by omega, by omega⟩
      rw [(z77 W H hi).2 c, zC_zi, if_neg c1]
      unfold zf_14_70
      rw [if_neg c2, zg_ok ⟨by omega, by omega⟩]
      refine go0 ?_
      unfold eVB
      by_cases c3 : N i 192 = 3
      · rw [if_pos c3]
      · rw [if_neg c3]
        exact b4 c3 (fun z => c z.1) (fun z => c z.1)
theorem C12_27 (W : yWT T) (hb : eVb T N L J p k 1 1) (hp : 0 ≤ p) (hk : 0 ≤ k ∧ k ≤ 160) : ∀ (m M : Nat) (i : Int) (F : yB) (s : zS), m < M → (m : Int) = L - i → 0 ≤ i → cHo r q 1 T B B n N L w s → cBy 2 F n s → eAg N L B i F → ∃ u, cWk s u ∧ u.1 1 2 0 = n ∧ (eFg N (eVl T N L J p k 1 1) m i = 0 → zf_12_27 M 0 r J p k r i s = zi 0 u) ∧ (eFg N (eVl T N L J p k 1 1) m i = 1 → zf_12_27 M 0 r J p k r i s = zC (zf_14 0 r J k 1 u) (fun _ s2 => zC (zf_6 2 p k s2) fun v5 s4 => zz v5 s4) ∧ cBy 2 (eMv T N (eVA N (eVl T N L J p k 1 1)) m i F) n u) := by
  intro m
  induction m with
  | zero =>
    intro M i F s hM hm i0 H hF a
    obtain ⟨M, rfl⟩ : ∃ L, M = L + 1 := ⟨M - 1, by omega⟩
    unfold zf_12_27
    rw [H.2.1.1, if_pos (by omega)]
    exact ⟨s, cWk.rf, hF.1, fun z => absurd (show (1 : Int) = 0 from z) (by decide), fun _ => ⟨rfl, hF⟩⟩
  | succ m ih =>
    intro M i F s hM hm i0 H hF a
    obtain ⟨M, rfl⟩ : ∃ L, M = L + 1 := ⟨M - 1, by omega⟩
    have S := H.2.2
    have hL := S.1
    have hn := H.1.2.2.2.2.2.2
    have hB := hn.2.2.2
    have hi : 0 ≤ i ∧ i < L := ⟨i0, by omega⟩
    have e2 := H.2.1.2 i hi.1 hi.2 192 (by decide) (by decide)
    have e6 := H.2.1.2 i hi.1 hi.2 196 (by decide) (by decide)
    have fg : eFg N (eVl T N L J p k 1 1) (m + 1) i = if N i 192 = 3 ∧ 255 < eVl T N L J p k 1 1 i then 0 else eFg N (eVl T N L J p k 1 1) m (i + 1) := rfl
    have mv : eMv T N (eVA N (eVl T N L J p k 1 1)) (m + 1) i F = eMv T N (eVA N (eVl T N L J p k 1 1)) m (i + 1) (if eVA N (eVl T N L J p k 1 1) i = -1 then F else eW T N i (eVA N (eVl T N L J p k 1 1) i) F) := rfl
    have nx : ∀ (G : yB) (s1 : zS), cWk s s1 → cBy 2 G n s1 → eAg N L B (i + 1) G → ¬ (N i 192 = 3 ∧ 255 < eVl T N L J p k 1 1 i) → (if eVA N (eVl T N L J p k 1 1) i = -1 then F else eW T N i (eVA N (eVl T N L J p k 1 1) i) F) = G → ∃ u, cWk s u ∧ u.1 1 2 0 = n ∧ (eFg N (eVl T N L J p k 1 1) (m + 1) i = 0 → zf_12_27 M 0 r J p k r (i + 1) s1 = zi 0 u) ∧ (eFg N (eVl T N L J p k 1 1) (m + 1) i = 1 → zf_12_27 M 0 r J p k r (i + 1) s1 = zC (zf_14 0 r J k 1 u) (fun _ s2 => zC (zf_6 2 p k s2) fun v5 s4 => zz v5 s4) ∧ cBy 2 (eMv T N (eVA N (eVl T N L J p k 1 1)) (m + 1) i F) n u) := fun G s1 a1 a2 a3 a4 a5 => by
      obtain ⟨u, b1, b2, b3, b4⟩ := ih M (i + 1) G s1 (by omega) (by omega) (by omega) (H.w1 a1) a2 a3
      rw [fg, if_neg a4, mv, a5]
      exact ⟨u, a1.tr b1, b2, b3, b4⟩
    unfold zf_12_27
    rw [H.2.1.1, if_neg (by omega), zn_ok (by omega), e2]
    by_cases c3 : N i 192 = 3
    · have rv := S.rv W hB hi c3
      have eA : eVA N (eVl T N L J p k 1 1) i = eVl T N L J p k 1 1 i := if_pos c3
      have eV : eVl T N L J p k 1 1 i = if N i 196 < p then N i 196 else N i 196 + k := by
        unfold eVl eRv
        rw [if_pos c3, if_neg (by decide)]
      rw [if_pos c3, zn_ok (by omega), e6]
      by_cases d : N i 196 < p
      · rw [if_pos d] at eV
        rw [if_pos d, zg_ok ⟨by omega, by omega⟩]
        refine nx F s cWk.rf hF a.sk (fun z => by have := z.2; omega) ?_
        rw [eA, eV, if_neg (by omega)]
        exact eW_own W S hB hi (Or.inr c3) (a i (Int.le_refl _) hi.2 (Or.inr c3))
      · rw [if_neg d] at eV
        rw [if_neg d, zn_ok (by omega), zg_ok ⟨by omega, by omega⟩]
        by_cases o : N i 196 + k ≤ 255
        · obtain ⟨u1, a1, a2, a3⟩ := C11 W H.tb S hn.2.1 hF hi (Or.inr (Or.inl c3)) (v := N i 196 + k)
          rw [if_pos o, zn_ok (by omega), a1, zC_zi, zg_ok ⟨by omega, by omega⟩]
          refine nx _ u1 a2 a3 (a.nx W S hi (Or.inr c3)) (fun z => by have := z.2; omega) ?_
          rw [eA, eV, if_neg (by omega)]
        · rw [if_neg o]
          refine ⟨s, cWk.rf, hF.1, fun _ => rfl, fun z => ?_⟩
          rw [fg, if_pos ⟨c3, by omega⟩] at z
          exact absurd z (by decide)
    · have eA : eVA N (eVl T N L J p k 1 1) i = -1 := if_neg c3
      rw [if_neg c3, zg_ok ⟨by omega, by omega⟩]
      refine nx F s cWk.rf hF a.sk (fun z => c3 z.1) ?_
      rw [if_pos eA]
/-- bytes are put in -/
theorem C12 (W : yWT T) (H : cHo r q 1 T B B n N L w s) (hF : cBy 2 B n s) (hJ : 0 ≤ J ∧ J < L) (hb : n + k ≤ 160 → eVb T N L J p k 1 1) (hp : 0 ≤ p ∧ p ≤ n) (hk : 0 ≤ k ∧ k ≤ 160) : ∃ u, cWk s u ∧ (n + k ≤ 160 ∧ eFg N (eVl T N L J p k 1 1) L.toNat 0 = 1 → zf_12 0 r J p k s = zi 1 u ∧ u.1 1 2 0 = n + k ∧ (∀ i, 0 ≤ i → i < p → u.1 0 2 i = eMv T N (eVl T N L J p k 1 1) L.toNat 0 B i) ∧ ∀ i, p ≤ i → i < n → u.1 0 2 (i + k) = eMv T N (eVl T N L J p k 1 1) L.toNat 0 B i) ∧ (¬ (n + k ≤ 160 ∧ eFg N (eVl T N L J p k 1 1) L.toNat 0 = 1) → zf_12 0 r J p k s = zi 0 u ∧ u.1 1 2 0 = n) := by
  have S := H.2.2
  have hL := S.1
  have hn := H.1.2.2.2.2.2.2
  unfold zf_12
  rw [hF.1, zg_ok ⟨by omega, by omega⟩]
  by_cases c : n + k ≤ 160
  · obtain ⟨u, a1, a2, a3, a4⟩ := C12_27 W (hb c) hp.1 hk L.toNat xfu 0 B s (pa_fu (by omega)) (by omega) (by decide) H hF (fun _ _ _ _ _ _ _ => rfl)
    rw [if_pos c]
    rcases eFg_01 (N := N) (V := eVl T N L J p k 1 1) L.toNat 0 with z | z
    · exact ⟨u, a1, fun y => by omega, fun _ => ⟨a3 z, a2⟩⟩
    · obtain ⟨b1, b2⟩ := a4 z
      obtain ⟨u1, d1, d2, d3⟩ := C14_9 W (hb c) hJ hk (by decide) L.toNat xfu 0 _ u (pa_fu (by omega)) (by omega) (by decide) (H.w1 a1) b2
      rw [if_neg (show ¬ (1 : Int) = 0 by decide)] at d1
      rw [eMv_sp W S (eVl_k W S) L.toNat 0 B (by omega) (by decide)] at d3
      obtain ⟨y, g1, g2, g3, g4, g5, g6⟩ := C6 (d := 2) (p := p) (k := k) (n := n) (s := u1) (by decide) hp ⟨hk.1, c⟩ d3.1
      refine ⟨y, (a1.tr d2).tr ⟨fun f n i hf => g2 f n i (by omega), g3⟩, fun _ => ⟨?_, g4, fun i i0 i1 => (g6 i i1).trans (d3.2 i i0 (by omega)), fun i i0 i1 => (g5 i i0 i1).trans (d3.2 i (by omega) i1)⟩, fun y => absurd ⟨c, z⟩ y⟩
      unfold zf_14 at b1
      rw [b1, d1, zC_zi, g1, zC_zi, zz1]
  · rw [if_neg c]
    exact ⟨s, cWk.rf, fun y => absurd y.1 c, fun _ => ⟨rfl, hF.1⟩⟩
theorem C13_9 (W : yWT T) (hb : eVb T N L J p k 0 (-1)) (hp : 0 ≤ p ∧ p ≤ 160) (hk : 0 ≤ k ∧ k ≤ 160) : ∀ (m M : Nat) (i : Int) (F : yB) (s : zS), m < M → (m : Int) = L - i → 0 ≤ i → cHo r q 1 T B B n N L w s → cBy 2 F n s → eAg N L B i F → ∃ u, zf_13_9 M 0 r J p k r i s = zC (zf_14 0 r J (-k) (-1) u) (fun _ s3 => zC (zf_7 2 p k s3) fun _ s5 => zi 0 s5) ∧ cWk s u ∧ cBy 2 (eMv T N (eVA N (eVl T N L J p k 0 (-1))) m i F) n u := by
  intro m
  induction m with
  | zero =>
    intro M i F s hM hm i0 H hF a
    obtain ⟨M, rfl⟩ : ∃ L, M = L + 1 := ⟨M - 1, by omega⟩
    unfold zf_13_9
    rw [H.2.1.1, if_pos (by omega), zg_ok ⟨by omega, by omega⟩]
    exact ⟨s, rfl, cWk.rf, hF⟩
  | succ m ih =>
    intro M i F s hM hm i0 H hF a
    obtain ⟨M, rfl⟩ : ∃ L, M = L + 1 := ⟨M - 1, by omega⟩
    have S := H.2.2
    have hL := S.1
    have hn := H.1.2.2.2.2.2.2
    have hB := hn.2.2.2
    have hi : 0 ≤ i ∧ i < L := ⟨i0, by omega⟩
    have e2 := H.2.1.2 i hi.1 hi.2 192 (by decide) (by decide)
    have e6 := H.2.1.2 i hi.1 hi.2 196 (by decide) (by decide)
    have mv : eMv T N (eVA N (eVl T N L J p k 0 (-1))) (m + 1) i F = eMv T N (eVA N (eVl T N L J p k 0 (-1))) m (i + 1) (if eVA N (eVl T N L J p k 0 (-1)) i = -1 then F else eW T N i (eVA N (eVl T N L J p k 0 (-1)) i) F) := rfl
    have nx : ∀ (G : yB) (s1 : zS), cWk s s1 → cBy 2 G n s1 → eAg N L B (i + 1) G → (if eVA N (eVl T N L J p k 0 (-1)) i = -1 then F else eW T N i (eVA N (eVl T N L J p k 0 (-1)) i) F) = G → ∃ u, zf_13_9 M 0 r J p k r (i + 1) s1 = zC (zf_14 0 r J (-k) (-1) u) (fun _ s3 => zC (zf_7 2 p k s3) fun _ s5 => zi 0 s5) ∧ cWk s u ∧ cBy 2 (eMv T N (eVA N (eVl T N L J p k 0 (-1))) (m + 1) i F) n u := fun G s1 a1 a2 a3 a5 => by
      obtain ⟨u, b1, b2, b3⟩ := ih M (i + 1) G s1 (by omega) (by omega) (by omega) (H.w1 a1) a2 a3
      rw [mv, a5]
      exact ⟨u, b1, a1.tr b2, b3⟩
    unfold zf_13_9
    rw [H.2.1.1, if_neg (by omega), zn_ok (by omega), e2]
    by_cases c3 : N i 192 = 3
    · have rv := S.rv W hB hi c3
      have eA : eVA N (eVl T N L J p k 0 (-1)) i = eVl T N L J p k 0 (-1) i := if_pos c3
      have eV : eVl T N L J p k 0 (-1) i = if N i 196 < p + k then (if N i 196 ≤ p then N i 196 else p) else N i 196 - k := by
        unfold eVl eRv
        rw [if_pos c3, if_pos rfl]
      rw [if_pos c3, zn_ok (by omega), e6]
      by_cases d : N i 196 ≤ p
      · have eV : eVl T N L J p k 0 (-1) i = N i 196 := by
          rw [eV]
          split
          · rfl
          · omega
        rw [if_pos d, zg_ok ⟨by omega, by omega⟩]
        refine nx F s cWk.rf hF a.sk ?_
        rw [eA, eV, if_neg (by omega)]
        exact eW_own W S hB hi (Or.inr c3) (a i (Int.le_refl _) hi.2 (Or.inr c3))
      · rw [if_neg d] at eV
        have e227 : zf_22 (N i 196 - k) p s = zi (eVl T N L J p k 0 (-1) i) s := by
          unfold zf_22
          by_cases y : N i 196 - k < p
          · rw [if_pos y, eV, if_pos (by omega)]
          · rw [if_neg y, eV, if_neg (by omega)]
        have v0 : 0 ≤ eVl T N L J p k 0 (-1) i := by
          rw [eV]
          split <;> omega
        obtain ⟨u1, a1, a2, a3⟩ := C11 W H.tb S hn.2.1 hF hi (Or.inr (Or.inl c3)) (v := eVl T N L J p k 0 (-1) i)
        rw [if_neg d, zn_ok (by omega), zg_ok ⟨by omega, by omega⟩, e227, zC_zi, a1, zC_zi, zg_ok ⟨by omega, by omega⟩]
        refine nx _ u1 a2 a3 (a.nx W S hi (Or.inr c3)) ?_
        rw [eA, if_neg (by omega)]
    · have eA : eVA N (eVl T N L J p k 0 (-1)) i = -1 := if_neg c3
      rw [if_neg c3, zg_ok ⟨by omega, by omega⟩]
      refine nx F s cWk.rf hF a.sk ?_
      rw [if_pos eA]
/-- bytes are taken out -/
theorem C13 (W : yWT T) (H : cHo r q 1 T B B n N L w s) (hF : cBy 2 B n s) (hJ : 0 ≤ J ∧ J < L) (hb : eVb T N L J p k 0 (-1)) (hp : 0 ≤ p) (hk : 0 ≤ k ∧ p + k ≤ n) : ∃ u, zf_13 0 r J p k s = zi 0 u ∧ cWk s u ∧ u.1 1 2 0 = n - k ∧ (∀ i, 0 ≤ i → i < p → u.1 0 2 i = eMv T N (eVl T N L J p k 0 (-1)) L.toNat 0 B i) ∧ ∀ i, p ≤ i → i < n - k → u.1 0 2 i = eMv T N (eVl T N L J p k 0 (-1)) L.toNat 0 B (i + k) := by
  have S := H.2.2
  have hL := S.1
  have hn := H.1.2.2.2.2.2.2
  unfold zf_13
  obtain ⟨u, a1, a2, a3⟩ := C13_9 W hb ⟨hp, by omega⟩ ⟨hk.1, by omega⟩ L.toNat xfu 0 B s (pa_fu (by omega)) (by omega) (by decide) H hF (fun _ _ _ _ _ _ _ => rfl)
  obtain ⟨u1, d1, d2, d3⟩ := C14_9 W hb hJ ⟨hk.1, by omega⟩ (by decide) L.toNat xfu 0 _ u (pa_fu (by omega)) (by omega) (by decide) (H.w1 a2) a3
  rw [if_pos rfl] at d1
  rw [eMv_sp W S (eVl_k W S) L.toNat 0 B (by omega) (by decide)] at d3
  obtain ⟨y, g1, g2, g3, g4, g5, g6⟩ := C7 (d := 2) (p := p) (k := k) (n := n) (s := u1) (by decide) hn.2.1 hp hk d3.1
  unfold zf_14 at a1
  rw [a1, d1, zC_zi, g1, zC_zi]
  exact ⟨y, rfl, (a2.tr d2).tr ⟨fun f n i hf => g2 f n i (by omega), g3⟩, g4, fun i i0 i1 => (g6 i i1).trans (d3.2 i i0 (by omega)), fun i i0 i1 => (g5 i i0 i1).trans (d3.2 (i + k) (by omega) (by omega))⟩
end
end
