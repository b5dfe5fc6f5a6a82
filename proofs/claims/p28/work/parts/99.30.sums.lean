section
/-! edits: sums settle (class) -/
/-- whether one that is left lies ahead of the place e, from node j on -/
def eRd (N : Int → yN) (h : Int → Int) (e : Int) : Nat → Int → Int
  | 0, _ => 0
  | m + 1, j => if h j = 1 ∧ N j 194 < e then 1 else eRd N h e m (j + 1)
/-- the first node from k on that is left and has no left one in its field -/
def eFs (T : yT) (N : Int → yN) (L : Int) (h : Int → Int) : Nat → Int → Int
  | 0, _ => -1
  | m + 1, k => if h k = 1 ∧ eRd N h (N (yTg T N L k) 194 + N (yTg T N L k) 195) (L - yTg T N L k).toNat (yTg T N L k) = 0 then k else eFs T N L h m (k + 1)
/-- the sums, m of which are left -/
def eSu (T : yT) (N : Int → yN) (L : Int) : Nat → (Int → Int) → yB → Option yB
  | 0, _, F => some F
  | m + 1, h, F => if eFs T N L h L.toNat 0 = -1 then none else eSu T N L m (fun i => if i = eFs T N L h L.toNat 0 then 0 else h i) (eW T N (eFs T N L h L.toNat 0) (yDu T F N L (eFs T N L h L.toNat 0)) F)
section
variable {T : yT} {B C F G : yB} {n L w : Int} {N : Int → yN} {s u : zS} {r q : Nat} {t k v g e : Int} {h : Int → Int}
theorem ySh.mo (S : ySh T B n N L w) {i k : Int} (h1 : 0 ≤ i) (h2 : i ≤ k) (h3 : k < L) : N i 194 ≤ N k 194 := by
  obtain ⟨-, -, -, off, p, -, -, ⟨-, -, -, m, -⟩, -⟩ := S
  exact m i k h1 h2 h3
theorem eRd_b : ∀ (m : Nat) (j : Int), eRd N h e m j = 0 ∨ eRd N h e m j = 1
  | 0, _ => Or.inl rfl
  | m + 1, j => by
    unfold eRd
    split
    · exact Or.inr rfl
    · exact eRd_b m (j + 1)
theorem eRd_0 : ∀ (m : Nat) (j : Int), (∀ i, j ≤ i → i < j + m → ¬ (h i = 1 ∧ N i 194 < e)) → eRd N h e m j = 0
  | 0, _, _ => rfl
  | m + 1, j, H => by
    unfold eRd
    rw [if_neg (H j (Int.le_refl _) (by omega))]
    exact eRd_0 m (j + 1) fun i i1 i2 => H i (by omega) (by omega)
theorem eFs_b : ∀ (m : Nat) (k : Int), eFs T N L h m k = -1 ∨ (k ≤ eFs T N L h m k ∧ eFs T N L h m k < k + m) ∧ h (eFs T N L h m k) = 1
  | 0, _ => Or.inl rfl
  | m + 1, k => by
    unfold eFs
    split
    · rename_i c
      exact Or.inr ⟨⟨Int.le_refl _, by omega⟩, c.1⟩
    · rcases eFs_b m (k + 1) with z | ⟨z1, z2⟩
      · exact Or.inl z
      · exact Or.inr ⟨⟨by omega, by omega⟩, z2⟩
theorem C19_2 (I : cNd r N L s) (S : ySh T B n N L w) (hn : n ≤ 160) (hh : ∀ j, 0 ≤ j → j < L → s.1 65 0 j = h j) (h01 : ∀ j, h j = 0 ∨ h j = 1) (hg : 0 ≤ g ∧ g < L) : ∀ (m M : Nat) (k : Int), m < M → m = (L - k).toNat → g ≤ k → k ≤ L → zf_19_2 M 0 r g k s = zi (eRd N h (N g 194 + N g 195) m k) s := by
  have hL := S.1
  have og := S.of hg
  have lg := (S.nd hg).1
  have a4 := I.2 g hg.1 hg.2 194 (by decide) (by decide)
  have a5 := I.2 g hg.1 hg.2 195 (by decide) (by decide)
  intro m
  induction m with
  | zero =>
    intro M k hM hm k1 k2
    obtain ⟨M, rfl⟩ : ∃ L, M = L + 1 := ⟨M - 1, by omega⟩
    unfold zf_19_2
    rw [z27 I.1, zC_zi, if_neg (show ¬ (0 ≤ k ∧ k < L) by omega), if_pos rfl]
    rfl
  | succ m ih =>
    intro M k hM hm k1 k2
    obtain ⟨M, rfl⟩ : ∃ L, M = L + 1 := ⟨M - 1, by omega⟩
    have hk : 0 ≤ k ∧ k < L := by omega
    have b4 := I.2 k hk.1 hk.2 194 (by decide) (by decide)
    unfold zf_19_2
    rw [z27 I.1, zC_zi, if_pos hk, if_neg (show ¬ (1 : Int) = 0 by decide), zn_ok (by omega), zn_ok (by omega), zn_ok (by omega), a4, a5, b4, zg_ok ⟨by omega, by omega⟩]
    by_cases c : N g 194 + N g 195 ≤ N k 194
    · rw [if_pos c, eRd_0 (m + 1) k fun i i1 i2 z => by
        have := S.mo hk.1 i1 (by omega)
        have := z.2
        omega]
      rfl
    · rw [if_neg c, zn_ok (by omega), hh k hk.1 hk.2]
      unfold eRd
      rcases h01 k with z | z
      · rw [if_pos z, if_neg (fun y => by have := y.1; omega), zg_ok ⟨by omega, by omega⟩]
        exact ih M (k + 1) (by omega) (by omega) (by omega) (by omega)
      · rw [if_neg (by omega), if_pos ⟨z, by omega⟩]
        rfl
theorem C18_2 (W : yWT T) (H : cHo r q 2 T B F n N L w s) (hh : ∀ j, 0 ≤ j → j < L → s.1 65 0 j = h j) (h01 : ∀ j, h j = 0 ∨ h j = 1) (hr : ∀ j, 0 ≤ j → j < L → h j = 1 → yRl T (N j 198)) : ∀ (m M : Nat) (k : Int), m < M → m = (L - k).toNat → 0 ≤ k → k ≤ L → zf_18_2 M 0 r k s = zi (eFs T N L h m k) s := by
  have S := H.2.2
  have hL := S.1
  intro m
  induction m with
  | zero =>
    intro M k hM hm k1 k2
    obtain ⟨M, rfl⟩ : ∃ L, M = L + 1 := ⟨M - 1, by omega⟩
    unfold zf_18_2
    rw [H.2.1.1, if_pos (by omega)]
    rfl
  | succ m ih =>
    intro M k hM hm k1 k2
    obtain ⟨M, rfl⟩ : ∃ L, M = L + 1 := ⟨M - 1, by omega⟩
    have hk : 0 ≤ k ∧ k < L := by omega
    unfold zf_18_2 eFs
    rw [H.2.1.1, if_neg (by omega), zn_ok (by omega), hh k hk.1 hk.2]
    rcases h01 k with z | z
    · rw [if_pos z, if_neg (fun y => by have := y.1; omega), zg_ok ⟨by omega, by omega⟩]
      exact ih M (k + 1) (by omega) (by omega) (by omega) (by omega)
    · have R := hr k hk.1 hk.2 z
      have tg := S.tg W hk R
      rw [if_neg (by omega), (z77 W H hk).1 R, zC_zi]
      unfold zf_19
      rw [C19_2 H.2.1 S H.1.2.2.2.2.2.2.2.1 hh h01 tg.1 (L - yTg T N L k).toNat xfu (yTg T N L k) (pa_fu (by omega)) rfl (Int.le_refl _) (by omega), zC_zi]
      rcases eRd_b (N := N) (h := h) (e := N (yTg T N L k) 194 + N (yTg T N L k) 195) (L - yTg T N L k).toNat (yTg T N L k) with y | y
      · rw [if_pos y, if_pos ⟨z, y⟩]
      · rw [if_neg (by omega), if_neg (fun x => by have := x.2; omega), zg_ok ⟨by omega, by omega⟩]
        exact ih M (k + 1) (by omega) (by omega) (by omega) (by omega)
theorem cHo.c65 (H : cHo r q 2 T B F n N L w s) {i x : Int} : cHo r q 2 T B F n N L w (zp 65 0 i x s) := by
  obtain ⟨⟨h1, h2, h3, h4, h5, h6, h7, h8, h9, h10⟩, hN, S⟩ := H
  exact ⟨⟨(zp_nk (by decide)).trans h1, h2, (zp_nk (by decide)).trans h3, h4, fun f i f1 f2 => (zp_nk (by omega)).trans (h5 f i f1 f2), (zp_nk (by decide)).trans h6, h7, h8, fun i i1 i2 => (zp_nk (by decide)).trans (h9 i i1 i2), h10⟩, ⟨(zp_nk (by decide)).trans hN.1, fun j j1 j2 c c1 c2 => (zp_nk (by omega)).trans (hN.2 j j1 j2 c c1 c2)⟩, S⟩
theorem cEf.c65 {i x : Int} (a : cEf r s u) : cEf r s (zp 65 0 i x u) := ⟨fun f n i h1 h2 h3 => (zp_nk (by omega)).trans (a.1 f n i h1 h2 h3), a.2⟩
theorem cHo.tp (H : cHo r q 2 T B F n N L w s) : yTpl q T s := ⟨H.1.2.1, H.1.2.2.2.2.1⟩
theorem C17_80 (W : yWT T) : ∀ (m M : Nat) (h : Int → Int) (F : yB) (s : zS), m < M → m ≤ 200 → cHo r q 2 T B F n N L w s → (∀ j, 0 ≤ j → j < L → s.1 65 0 j = h j) → (∀ j, h j = 0 ∨ h j = 1) → (∀ j, 0 ≤ j → j < L → h j = 1 → yRl T (N j 198)) → (eSu T N L m h F = none → ∃ u, zf_17_80 M 0 r m s = zi 0 u ∧ cEf r s u) ∧ ∀ G, eSu T N L m h F = some G → ∃ u, zf_17_80 M 0 r m s = zi 1 u ∧ cEf r s u ∧ cHo r q 2 T B G n N L w u := by
  intro m
  induction m with
  | zero =>
    intro M h F s hM h2 H hh h01 hr
    obtain ⟨M, rfl⟩ : ∃ L, M = L + 1 := ⟨M - 1, by omega⟩
    unfold zf_17_80
    rw [if_pos (by omega)]
    refine ⟨fun z => (by cases z), fun G z => ?_⟩
    injection z with z
    subst z
    exact ⟨s, rfl, cEf.rf, H⟩
  | succ m ih =>
    intro M h F s hM h2 H hh h01 hr
    obtain ⟨M, rfl⟩ : ∃ L, M = L + 1 := ⟨M - 1, by omega⟩
    have S := H.2.2
    have hL := S.1
    unfold zf_17_80 zf_18 eSu
    rw [if_neg (show ¬ ((m + 1 : Nat) : Int) ≤ 0 by omega), C18_2 W H hh h01 hr L.toNat xfu 0 (pa_fu (by omega)) (by omega) (by decide) (by omega), zC_zi]
    generalize ek : eFs T N L h L.toNat 0 = k
    by_cases c : k = -1
    · rw [if_pos c, if_pos c]
      exact ⟨fun _ => ⟨s, rfl, cEf.rf⟩, fun G z => by cases z⟩
    · have b := eFs_b (T := T) (N := N) (L := L) (h := h) L.toNat 0
      rw [ek] at b
      have b := b.resolve_left c
      have hk : 0 ≤ k ∧ k < L := by omega
      have R := hr k hk.1 hk.2 b.2
      obtain ⟨d1, d2, d3, d4⟩ := yDu_b (C := F) W S hk R
      have gw := eW_b (F := F) (n := n) H.1.2.2.2.2.2.2.2.2.2 d3 d1 d2
      obtain ⟨u1, a1, a2, a3⟩ := C11 W H.tb S H.1.2.2.2.2.2.2.2.1 H.by hk (Or.inl d4) (v := yDu T F N L k)
      have H1 := (H.wr a2 a3 gw).c65 (i := k) (x := 0)
      obtain ⟨i1, i2⟩ := ih M (fun i => if i = k then 0 else h i) _ (zp 65 0 k 0 u1) (by omega) (by omega) H1 (fun j j1 j2 => by
        by_cases z : j = k
        · rw [if_pos z, z, zp_eq]
        · rw [if_neg z, zp_ni z, a2.1 65 0 j (by omega)]
          exact hh j j1 j2) (fun j => by
        split
        · exact Or.inl rfl
        · exact h01 j) (fun j j1 j2 z => by
        by_cases y : j = k
        · rw [if_pos y] at z
          exact absurd z (by decide)
        · rw [if_neg y] at z
          exact hr j j1 j2 z)
      have fr : cEf r s (zp 65 0 k 0 u1) := (cEf.wk a2).c65
      rw [if_neg c, if_neg c, C78 W H hk, if_pos R, zC_zi, a1, zC_zi, zWz_ok ⟨by omega, Or.inl rfl⟩, zg_ok ⟨by omega, by omega⟩, show ((m + 1 : Nat) : Int) + (-1) = (m : Int) by omega]
      refine ⟨fun z => ?_, fun G z => ?_⟩
      · obtain ⟨u2, c1, c2⟩ := i1 z
        exact ⟨u2, c1, fr.tr c2⟩
      · obtain ⟨u2, c1, c2, c3⟩ := i2 G z
        exact ⟨u2, c1, fr.tr c2, c3⟩
theorem eLf_b {j : Int} : eLf T N j = 0 ∨ eLf T N j = 1 := by
  unfold eLf
  split
  · exact Or.inr rfl
  · exact Or.inl rfl
theorem C17_10 (W : yWT T) : ∀ (m M : Nat) (x i : Int) (s : zS), m < M → (m : Int) = L - i → 0 ≤ i → 0 ≤ x → x ≤ i → cHo r q 2 T B F n N L w s → (∀ j, 0 ≤ j → j < i → s.1 65 0 j = eLf T N j) → ∃ u, zf_17_10 M 0 r r x i s = zf_17_80 xfu 0 r (x + ySm (eLf T N) m i) u ∧ cEf r s u ∧ cHo r q 2 T B F n N L w u ∧ ∀ j, 0 ≤ j → j < L → u.1 65 0 j = eLf T N j := by
  intro m
  induction m with
  | zero =>
    intro M x i s hM hm i0 x0 xi H h65
    obtain ⟨M, rfl⟩ : ∃ L, M = L + 1 := ⟨M - 1, by omega⟩
    unfold zf_17_10
    rw [H.2.1.1, if_pos (by omega)]
    exact ⟨s, by show _ = zf_17_80 xfu 0 r (x + 0) s; rw [Int.add_zero], cEf.rf, H, fun j j1 j2 => h65 j j1 (by omega)⟩
  | succ m ih =>
    intro M x i s hM hm i0 x0 xi H h65
    obtain ⟨M, rfl⟩ : ∃ L, M = L + 1 := ⟨M - 1, by omega⟩
    have S := H.2.2
    have hL := S.1
    have hi : 0 ≤ i ∧ i < L := ⟨i0, by omega⟩
    unfold zf_17_10
    rw [H.2.1.1, if_neg (by omega), z76 W H hi, zC_zi]
    have go : ∀ v, v = eLf T N i → ∃ u, zf_17_52 (fun y0 y1 y2 y3 y4 y => zf_17_10 M y0 y1 y2 y3 y4 y) 0 r r x i 0 i v s = zf_17_80 xfu 0 r (x + ySm (eLf T N) (m + 1) i) u ∧ cEf r s u ∧ cHo r q 2 T B F n N L w u ∧ ∀ j, 0 ≤ j → j < L → u.1 65 0 j = eLf T N j := fun v hv => by
      have v01 := eLf_b (T := T) (N := N) (j := i)
      rw [← hv] at v01
      have nx : ∀ j, 0 ≤ j → j < i + 1 → (zp 65 0 i v s).1 65 0 j = eLf T N j := fun j j1 j2 => by
        by_cases z : j = i
        · rw [z, zp_eq, hv]
        · rw [zp_ni z]
          exact h65 j j1 (by omega)
      obtain ⟨u, a1, a2, a3, a4⟩ := ih M (x + v) (i + 1) (zp 65 0 i v s) (by omega) (by omega) (by omega) (by omega) (by omega) H.c65 nx
      unfold zf_17_52
      rw [zWz_ok ⟨by omega, v01⟩, zn_ok (by omega), zp_eq]
      refine ⟨u, ?_, cEf.rf.c65.tr a2, a3, a4⟩
      have e : x + ySm (eLf T N) (m + 1) i = x + v + ySm (eLf T N) m (i + 1) := by
        show x + (eLf T N i + ySm (eLf T N) m (i + 1)) = _
        rw [← hv]
        omega
      rw [e, ← a1]
      rcases v01 with z | z
      · rw [if_pos z, zg_ok ⟨by omega, by omega⟩, zg_ok ⟨by omega, by omega⟩, z]
      · rw [if_neg (by omega), zg_ok ⟨by omega, by omega⟩, zg_ok ⟨by omega, by omega⟩, z]
    generalize ec : (if N i 198 = -1 then (0 : Int) else T 467 (N i 198)) = c
    by_cases c1 : c = 43
    · rw [if_pos c1]
      refine go 1 (if_pos ?_).symm
      by_cases z : N i 198 = -1
      · rw [if_pos z] at ec
        omega
      · rw [if_neg z] at ec
        exact ⟨z, Or.inl (by omega)⟩
    · rw [if_neg c1]
      by_cases c2 : c = 94
      · rw [if_pos c2]
        refine go 1 (if_pos ?_).symm
        by_cases z : N i 198 = -1
        · rw [if_pos z] at ec
          omega
        · rw [if_neg z] at ec
          exact ⟨z, Or.inr (by omega)⟩
      · rw [if_neg c2]
        refine go 0 (if_neg fun y => ?_).symm
        rw [if_neg y.1] at ec
        have := y.2
        omega
/-- how many sums there are -/
def eLc (T : yT) (N : Int → yN) (L : Int) : Nat := (ySm (eLf T N) L.toNat 0).toNat
theorem C17 (W : yWT T) (H : cHo r q 2 T B F n N L w s) : (eSu T N L (eLc T N L) (eLf T N) F = none → ∃ u, zf_17 0 r s = zi 0 u ∧ cEf r s u) ∧ ∀ G, eSu T N L (eLc T N L) (eLf T N) F = some G → ∃ u, zf_17 0 r s = zi 1 u ∧ cEf r s u ∧ cHo r q 2 T B G n N L w u := by
  have hL := H.2.2.1
  obtain ⟨u, a1, a2, a3, a4⟩ := C17_10 W L.toNat xfu 0 0 s (pa_fu (by omega)) (by omega) (by decide) (by decide) (by decide) H fun j j1 j2 => by omega
  have cb : ∀ (m : Nat) (k : Int), 0 ≤ ySm (eLf T N) m k ∧ ySm (eLf T N) m k ≤ m := fun m => by
    induction m with
    | zero => exact fun k => ⟨Int.le_refl 0, Int.le_refl 0⟩
    | succ m ih =>
      intro k
      have := ih (k + 1)
      have := eLf_b (T := T) (N := N) (j := k)
      show 0 ≤ eLf T N k + ySm (eLf T N) m (k + 1) ∧ eLf T N k + ySm (eLf T N) m (k + 1) ≤ _
      omega
  have c := cb L.toNat 0
  have e : (0 : Int) + ySm (eLf T N) L.toNat 0 = ((eLc T N L : Nat) : Int) := by
    unfold eLc
    omega
  rw [e] at a1
  obtain ⟨i1, i2⟩ := C17_80 W (eLc T N L) xfu (eLf T N) F u (pa_fu (by omega)) (by omega) a3 a4 (fun j => eLf_b) fun j j1 j2 z => by
    unfold eLf at z
    split at z
    · rename_i y
      exact ⟨y.1, by have := y.2; omega, by have := y.2; omega⟩
    · exact absurd z (by decide)
  unfold zf_17
  rw [a1]
  refine ⟨fun z => ?_, fun G z => ?_⟩
  · obtain ⟨u2, c1, c2⟩ := i1 z
    exact ⟨u2, c1, a2.tr c2⟩
  · obtain ⟨u2, c1, c2, c3⟩ := i2 G z
    exact ⟨u2, c1, a2.tr c2, c3⟩
end
end
