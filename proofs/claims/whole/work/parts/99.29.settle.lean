section
/-! edits: lengths and counts settle -/
/-- what the bytes F are when lengths and counts have settled, within m readings -/
def eSt (T : yT) (n : Int) : Nat → yB → Option yB
  | 0, _ => none
  | m + 1, F => match yTop T F n 0 0 with
    | .inl _ => none
    | .inr x => if eMc T F (yNs x.2.2.2) x.2.2.2.length = 0 then some F else eSt T n m (eMd T F (yNs x.2.2.2) x.2.2.2.length (x.2.2.2.length : Int).toNat 0 F)
/-- the frames of an edit -/
def cEf (r : Nat) (s u : zS) : Prop := (∀ (f n : Nat) (i : Int), ¬ (n = 2 ∧ f ≤ 1) → ¬ (n = r ∧ (192 ≤ f ∧ f < 200 ∨ 321 ≤ f ∧ f < 331)) → f ≠ 65 → u.1 f n i = s.1 f n i) ∧ u.2 = s.2
def mEf (s u : zS) : Prop := (∀ (f n : Nat) (i : Int), ¬ (n = 0 ∧ (603 ≤ f ∧ f ≤ 632 ∨ f = 595)) → u.1 f n i = s.1 f n i) ∧ u.2 = s.2
/-- node j has a sum -/
def eLf (T : yT) (N : Int → yN) (j : Int) : Int := if N j 198 ≠ -1 ∧ (T 467 (N j 198) = 43 ∨ T 467 (N j 198) = 94) then 1 else 0
section
variable {T : yT} {B C F G : yB} {n L w : Int} {N : Int → yN} {s u : zS} {r q : Nat} {t k v : Int}
theorem cEf.rf : cEf r s s := ⟨fun _ _ _ _ _ _ => rfl, rfl⟩
theorem cEf.tr {v : zS} (a : cEf r s u) (b : cEf r u v) : cEf r s v := ⟨fun f n i h h2 h3 => (b.1 f n i h h2 h3).trans (a.1 f n i h h2 h3), b.2.trans a.2⟩
theorem cEf.wk (a : cWk s u) : cEf r s u := ⟨fun f n i h _ _ => a.1 f n i h, a.2⟩
theorem cEf.rd (a : yfr2 r s u) : cEf r s u := ⟨fun f n i _ h _ => a.1 f n i h, a.2⟩
theorem mEf.rf : mEf s s := ⟨fun _ _ _ _ => rfl, rfl⟩
theorem mEf.tr {v : zS} (a : mEf s u) (b : mEf u v) : mEf s v := ⟨fun f n i h => (b.1 f n i h).trans (a.1 f n i h), b.2.trans a.2⟩
theorem mEf.wl (a : mWl s u) : mEf s u := ⟨fun f n i h => a.1 f n i (by omega), a.2⟩
theorem mEf.rd (a : mfb s u) : mEf s u := ⟨fun f n i h => a.1 f n i (by omega), a.2⟩
theorem yTpl.ef (h : yTpl q T s) (a : cEf r s u) : yTpl q T u := ⟨by rw [a.2]; exact h.1, fun f i f1 f2 => (a.1 f q i (by omega) (by omega) (by omega)).trans (h.2 f i f1 f2)⟩
theorem mRel.ef (R : mRel t T s) (W : yWT T) (a : mEf s u) : mRel t T u := R.c W fun f i hf => a.1 f 0 i (by omega)
/-- the work is read -/
theorem C56w (hT : yTpl q T s) (W : yWT T) (BE : yBE T) (hF : yFile 2 F n s) : ∃ v u, zf_56 r ((q : Int) + 1) 2 0 0 s = zi v u ∧ yfr2 r s u ∧ (∀ e, yTop T F n 0 0 = .inl e → v = 0) ∧ ∀ x, yTop T F n 0 0 = .inr x → v = 1 ∧ cHo r q 2 T F F n (yNs x.2.2.2) x.2.2.2.length x.2.2.1 u := by
  have st0 : (0 : Int) ≤ 0 ∧ 0 < T 449 0 := ⟨Int.le_refl _, by have := W.1; omega⟩
  obtain ⟨v, u, a1, ⟨a2, a3, a4⟩, a5⟩ := C56 (r := r) hT W hF st0 (by decide : (0 : Int) ≤ 0 ∧ (0 : Int) ≤ 255)
  refine ⟨v, u, a1, a2, fun e he => ?_, fun x hx => ?_⟩
  · rw [he] at a5
    exact a5.1
  · rw [hx] at a5
    obtain ⟨b1, b2, b3, b4, b5, b6⟩ := a5
    obtain ⟨f1, f2, f3, f4, f5, f6⟩ := hF
    exact ⟨b1, ⟨a3, by rw [a2.2]; exact hT.1, a4, by decide, fun f i g1 g2 => (a2.1 f q i (by omega)).trans (hT.2 f i g1 g2), (a2.1 1 2 0 (by omega)).trans f2, f3, f4, fun i i1 i2 => (a2.1 0 2 i (by omega)).trans (f5 i i1 i2), f6⟩, b4.nds, yTop_sh W BE f4 f6 st0 (by decide) hx⟩
theorem M186w (R : mRel t T s) (W : yWT T) (BE : yBE T) (hF : mFile F n s) : ∃ v u, zf_186 0 t 0 0 s = zi v u ∧ mfb s u ∧ u.1 603 0 0 = 200 * t ∧ (∀ e, yTop T F n 0 0 = .inl e → v = 0) ∧ ∀ x, yTop T F n 0 0 = .inr x → v = 1 ∧ mHo t T F F n (yNs x.2.2.2) x.2.2.2.length x.2.2.1 u := by
  have st0 : (0 : Int) ≤ 0 ∧ 0 < T 449 0 := ⟨Int.le_refl _, by have := W.1; omega⟩
  obtain ⟨v, u, a1, a2, a3, a5⟩ := M186 R W hF st0 (by decide : (0 : Int) ≤ 0 ∧ (0 : Int) ≤ 255)
  refine ⟨v, u, a1, a2, a3, fun e he => ?_, fun x hx => ?_⟩
  · rw [he] at a5
    exact a5.1
  · rw [hx] at a5
    obtain ⟨b1, b2, b3, b4, b5⟩ := a5
    obtain ⟨f1, f2, f3, f4⟩ := hF
    exact ⟨b1, b3.nds, yTop_sh W BE f2.2 f4 st0 (by decide) hx, R.c W fun f i hf => a2.1 f 0 i (by omega), (a2.1 594 0 0 (by omega)).trans f1, f2, fun i i1 i2 => (a2.1 595 0 i (by omega)).trans (f3 i i1 i2), f4⟩
theorem cHo.fi (H : cHo r q 2 T B F n N L w s) : yFile 2 F n s := by
  obtain ⟨⟨h1, h2, h3, h4, h5, h6, h7, h8, h9, h10⟩, hN, S⟩ := H
  exact ⟨h4, h6, h7, h8, h9, h10⟩
theorem eMw_n : ∀ (m : Nat) (k : Int), 0 ≤ ySm (eMw T B N L) m k
  | 0, _ => Int.le_refl 0
  | m + 1, k => Int.add_nonneg eMw_b.1 (eMw_n m (k + 1))
theorem eMd_0 : ∀ (m : Nat) (i : Int) (F : yB), ySm (eMw T B N L) m i = 0 → eMd T B N L m i F = F
  | 0, _, _, _ => rfl
  | m + 1, i, F, h => by
    have h : eMw T B N L i + ySm (eMw T B N L) m (i + 1) = 0 := h
    have p1 := eMw_b (T := T) (B := B) (N := N) (L := L) (k := i)
    have p2 := eMw_n (T := T) (B := B) (N := N) (L := L) m (i + 1)
    show eMd T B N L m (i + 1) (if eMw T B N L i = 1 then _ else F) = F
    rw [if_neg (by omega)]
    exact eMd_0 m (i + 1) F (by omega)
/-- the class: lengths and counts settle -/
theorem C15_2 (W : yWT T) (BE : yBE T) : ∀ (m M : Nat) (k : Int) (F : yB) (s : zS), m < M → (m : Int) = 5 - k → 0 ≤ k → yTpl q T s → yFile 2 F n s → (eSt T n m F = none → ∃ u, zf_15_2 M 0 r ((q : Int) + 1) k s = zi 0 u ∧ cEf r s u) ∧ ∀ G, eSt T n m F = some G → ∃ u x, zf_15_2 M 0 r ((q : Int) + 1) k s = zi 1 u ∧ cEf r s u ∧ yTop T G n 0 0 = .inr x ∧ cHo r q 2 T G G n (yNs x.2.2.2) x.2.2.2.length x.2.2.1 u := by
  intro m
  induction m with
  | zero =>
    intro M k F s hM hm k0 hT hF
    obtain ⟨M, rfl⟩ : ∃ L, M = L + 1 := ⟨M - 1, by omega⟩
    unfold zf_15_2
    rw [if_pos (by omega)]
    exact ⟨fun _ => ⟨s, rfl, cEf.rf⟩, fun G h => by cases h⟩
  | succ m ih =>
    intro M k F s hM hm k0 hT hF
    obtain ⟨M, rfl⟩ : ∃ L, M = L + 1 := ⟨M - 1, by omega⟩
    obtain ⟨v, u, a1, a2, a3, a4⟩ := C56w (r := r) hT W BE hF
    unfold zf_15_2 eSt
    rw [if_neg (by omega), a1, zC_zi]
    cases hx : yTop T F n 0 0 with
    | inl e =>
      dsimp only
      rw [a3 e hx, if_pos rfl]
      exact ⟨fun _ => ⟨u, rfl, cEf.rd a2⟩, fun G h => by cases h⟩
    | inr x =>
      dsimp only
      obtain ⟨v1, H⟩ := a4 x hx
      obtain ⟨u1, b1, b2, b3⟩ := C16 W H
      have fr : cEf r s u1 := (cEf.rd a2).tr (cEf.wk b2)
      rw [v1, if_neg (show ¬ (1 : Int) = 0 by decide), b1, zC_zi]
      by_cases z : eMc T F (yNs x.2.2.2) x.2.2.2.length = 0
      · rw [if_pos z, if_pos z]
        refine ⟨fun h => (by cases h), fun G h => ?_⟩
        injection h with h
        subst h
        rw [eMd_0 _ _ _ z] at b3
        exact ⟨u1, x, rfl, fr, hx, b3⟩
      · rw [if_neg z, if_neg z, zg_ok ⟨by omega, by omega⟩]
        obtain ⟨i1, i2⟩ := ih M (k + 1) _ u1 (by omega) (by omega) (by omega) (hT.ef fr) b3.fi
        refine ⟨fun h => ?_, fun G h => ?_⟩
        · obtain ⟨u2, c1, c2⟩ := i1 h
          exact ⟨u2, c1, fr.tr c2⟩
        · obtain ⟨u2, y, c1, c2, c3, c4⟩ := i2 G h
          exact ⟨u2, y, c1, fr.tr c2, c3, c4⟩
/-- the reference: no length and no count is wrong -/
theorem M211_70 (W : yWT T) : ∀ (m M : Nat) (i : Int) (s : zS), m < M → (m : Int) = L - i → 0 ≤ i → mHo t T B B n N L w s → (∀ j, 0 ≤ j → j < i → s.1 632 0 j = eLf T N j) → (ySm (eMw T B N L) m i ≠ 0 → ∃ u, zf_211_70 M 0 t i s = zi 0 u ∧ mWl s u) ∧ (ySm (eMw T B N L) m i = 0 → ∃ u, zf_211_70 M 0 t i s = zC (zf_213 0 u) (fun v y => zf_211_149 xfu 0 t v y) ∧ mWl s u ∧ mHo t T B B n N L w u ∧ ∀ j, 0 ≤ j → j < L → u.1 632 0 j = eLf T N j) := by
  intro m
  induction m with
  | zero =>
    intro M i s hM hm i0 H h32
    obtain ⟨M, rfl⟩ : ∃ L, M = L + 1 := ⟨M - 1, by omega⟩
    unfold zf_211_70
    rw [H.1.1, if_pos (by omega)]
    exact ⟨fun h => absurd rfl h, fun _ => ⟨s, rfl, mWl.rf, H, fun j j1 j2 => h32 j j1 (by omega)⟩⟩
  | succ m ih =>
    intro M i s hM hm i0 H h32
    obtain ⟨M, rfl⟩ : ∃ L, M = L + 1 := ⟨M - 1, by omega⟩
    have S := H.2.1
    have hL := S.1
    have hi : 0 ≤ i ∧ i < L := ⟨i0, by omega⟩
    have e16 := (H.1.2 i hi.1 hi.2).2.2.2.2.1
    have es : ySm (eMw T B N L) (m + 1) i = eMw T B N L i + ySm (eMw T B N L) m (i + 1) := rfl
    have wb := eMw_b (T := T) (B := B) (N := N) (L := L) (k := i)
    have nm := eMw_n (T := T) (B := B) (N := N) (L := L) m (i + 1)
    unfold zf_211_70
    rw [H.1.1, if_neg (by omega), M192 W H hi, zC_zi, es]
    have go : ∀ v : Int, v = eLf T N i → eMw T B N L i = 0 → (eMw T B N L i + ySm (eMw T B N L) m (i + 1) ≠ 0 → ∃ u, zf_211_70 M 0 t (i + 1) (zp 632 0 i v s) = zi 0 u ∧ mWl s u) ∧ (eMw T B N L i + ySm (eMw T B N L) m (i + 1) = 0 → ∃ u, zf_211_70 M 0 t (i + 1) (zp 632 0 i v s) = zC (zf_213 0 u) (fun v y => zf_211_149 xfu 0 t v y) ∧ mWl s u ∧ mHo t T B B n N L w u ∧ ∀ j, 0 ≤ j → j < L → u.1 632 0 j = eLf T N j) := fun v hv e0 => by
      obtain ⟨i1, i2⟩ := ih M (i + 1) (zp 632 0 i v s) (by omega) (by omega) (by omega) (H.wl W fun f i h1 h2 => zp_nk (by omega)) fun j j1 j2 => by
        by_cases e : j = i
        · rw [e, zp_eq, hv]
        · rw [zp_ni e]
          exact h32 j j1 (by omega)
      rw [e0, Int.zero_add]
      refine ⟨fun h => ?_, fun h => ?_⟩
      · obtain ⟨u, a1, a2⟩ := i1 h
        exact ⟨u, a1, (mWl.rf.pw (Or.inr rfl)).tr a2⟩
      · obtain ⟨u, a1, a2, a3⟩ := i2 h
        exact ⟨u, a1, (mWl.rf.pw (Or.inr rfl)).tr a2, a3⟩
    by_cases c : yRl T (N i 198)
    · have R4 := (yNd_rel W (S.nd hi) c).2.2.2.1
      rw [if_pos c, if_neg (show ¬ (1 : Int) = 0 by decide), M210 W H.tb H.2.2.1 S hi c, zC_zi]
      by_cases d : T 467 (N i 198) = 35 ∨ T 467 (N i 198) = 37
      · rw [if_pos d, if_neg (show ¬ (1 : Int) = 0 by decide), M194 W H hi c, zn_ok (by omega), zC_zi, e16]
        by_cases z : N i 196 = yDu T B N L i
        · have e0 : eMw T B N L i = 0 := by
            have := mt (eMw_1 (T := T) (B := B) (N := N) (L := L) (k := i)).mp fun y => y.2 z
            omega
          unfold zf_211_114
          rw [if_pos z, if_neg (show ¬ (1 : Int) = 0 by decide), M210 W H.tb H.2.2.1 S hi c, zC_zi, if_pos d, if_neg (show ¬ (1 : Int) = 0 by decide), zWz_ok ⟨by omega, Or.inl rfl⟩, zg_ok ⟨by omega, by omega⟩]
          exact go 0 (if_neg fun y => by have := y.2; omega).symm e0
        · have e1 : eMw T B N L i = 1 := eMw_1.mpr ⟨⟨c.1, d⟩, z⟩
          rw [if_neg z]
          exact ⟨fun _ => ⟨s, rfl, mWl.rf⟩, fun h => by omega⟩
      · have e0 : eMw T B N L i = 0 := by
          have := mt (eMw_1 (T := T) (B := B) (N := N) (L := L) (k := i)).mp fun y => d y.1.2
          omega
        unfold zf_211_114
        rw [if_neg d, if_pos rfl, if_neg (show ¬ (1 : Int) = 0 by decide), M210 W H.tb H.2.2.1 S hi c, zC_zi, if_neg d, if_pos rfl, zWz_ok ⟨by omega, Or.inr rfl⟩, zg_ok ⟨by omega, by omega⟩]
        exact go 1 (if_pos ⟨c.1, by omega⟩).symm e0
    · have e0 : eMw T B N L i = 0 := by
        have := mt (eMw_1 (T := T) (B := B) (N := N) (L := L) (k := i)).mp fun y => c ⟨y.1.1, by have := y.1.2; omega, by have := y.1.2; omega⟩
        omega
      unfold zf_211_114
      rw [if_neg c, if_pos rfl, if_pos rfl, zWz_ok ⟨by omega, Or.inl rfl⟩, zg_ok ⟨by omega, by omega⟩]
      exact go 0 (if_neg fun y => c ⟨y.1, by have := y.2; omega, by have := y.2; omega⟩).symm e0
/-- what the reference comes to behind settled lengths and counts -/
def mSe (t : Int) (T : yT) (n : Int) (o : Option yB) (Z : zR) (s : zS) : Prop := (o = none → ∃ u, Z = zi 0 u ∧ mEf s u) ∧ ∀ G, o = some G → ∃ u x, Z = zC (zf_213 0 u) (fun v y => zf_211_149 xfu 0 t v y) ∧ mEf s u ∧ yTop T G n 0 0 = .inr x ∧ mHo t T G G n (yNs x.2.2.2) x.2.2.2.length x.2.2.1 u ∧ ∀ j, 0 ≤ j → j < (x.2.2.2.length : Int) → u.1 632 0 j = eLf T (yNs x.2.2.2) j
theorem mSe.tr {o : Option yB} {Z : zR} (a : mEf s u) (h : mSe t T n o Z u) : mSe t T n o Z s := ⟨fun e => by
  obtain ⟨v, h1, h2⟩ := h.1 e
  exact ⟨v, h1, a.tr h2⟩, fun G e => by
  obtain ⟨v, x, h1, h2, h3⟩ := h.2 G e
  exact ⟨v, x, h1, a.tr h2, h3⟩⟩
theorem M211_56 (W : yWT T) (BE : yBE T) (R : mRel t T s) (hF : mFile F n s) : mSe t T n (eSt T n 1 F) (zf_211_56 0 t s) s := by
  obtain ⟨v, u, a1, a2, a3, a4, a5⟩ := M186w R W BE hF
  unfold zf_211_56 eSt mSe
  rw [a1, zC_zi]
  cases hx : yTop T F n 0 0 with
  | inl e =>
    dsimp only
    rw [a4 e hx, if_pos rfl]
    exact ⟨fun _ => ⟨u, rfl, mEf.rd a2⟩, fun G h => by cases h⟩
  | inr x =>
    dsimp only
    obtain ⟨v1, H⟩ := a5 x hx
    have hL := H.2.1.1
    obtain ⟨g1, g2⟩ := M211_70 W (x.2.2.2.length : Int).toNat xfu 0 u (pa_fu (by omega)) (by omega) (by decide) H fun j j1 j2 => by omega
    rw [v1, if_neg (show ¬ (1 : Int) = 0 by decide)]
    by_cases z : eMc T F (yNs x.2.2.2) x.2.2.2.length = 0
    · rw [if_pos z]
      refine ⟨fun h => (by cases h), fun G h => ?_⟩
      injection h with h
      subst h
      obtain ⟨u1, b1, b2, b3, b4⟩ := g2 z
      exact ⟨u1, x, b1, (mEf.rd a2).tr (mEf.wl b2), hx, b3, b4⟩
    · rw [if_neg z]
      refine ⟨fun h => ?_, fun G h => by cases h⟩
      obtain ⟨u1, b1, b2⟩ := g1 z
      exact ⟨u1, b1, (mEf.rd a2).tr (mEf.wl b2)⟩
theorem M211_24 (W : yWT T) (BE : yBE T) : ∀ (m M : Nat) (k : Int) (F : yB) (s : zS), m + 1 < M → (m : Int) = 4 - k → 0 ≤ k → mRel t T s → mFile F n s → mSe t T n (eSt T n (m + 1) F) (zf_211_24 M 0 t 1 k s) s := by
  intro m
  induction m with
  | zero =>
    intro M k F s hM hm k0 R hF
    obtain ⟨M, rfl⟩ : ∃ L, M = L + 1 := ⟨M - 1, by omega⟩
    unfold zf_211_24
    rw [if_pos (by omega)]
    exact M211_56 W BE R hF
  | succ m ih =>
    intro M k F s hM hm k0 R hF
    obtain ⟨M, rfl⟩ : ∃ L, M = L + 1 := ⟨M - 1, by omega⟩
    obtain ⟨v, u, a1, a2, a3, a4, a5⟩ := M186w R W BE hF
    unfold zf_211_24
    rw [if_neg (by omega), if_neg (show ¬ (1 : Int) = 0 by decide), a1, zC_zi, eSt]
    cases hx : yTop T F n 0 0 with
    | inl e =>
      dsimp only
      rw [a4 e hx, if_pos rfl]
      exact ⟨fun _ => ⟨u, rfl, mEf.rd a2⟩, fun G h => by cases h⟩
    | inr x =>
      dsimp only
      obtain ⟨v1, H⟩ := a5 x hx
      obtain ⟨u1, b1, b2, b3, b4⟩ := M212 W H
      have fr : mEf s u1 := (mEf.rd a2).tr (mEf.wl b2)
      rw [v1, if_neg (show ¬ (1 : Int) = 0 by decide), b1, zC_zi, zg_ok ⟨by omega, by omega⟩]
      by_cases z : eMc T F (yNs x.2.2.2) x.2.2.2.length = 0
      · rw [if_pos z, if_pos z]
        obtain ⟨M, rfl⟩ : ∃ L, M = L + 1 := ⟨M - 1, by omega⟩
        have e1 : zf_211_24 (M + 1) 0 t 0 (k + 1) u1 = zf_211_56 0 t u1 := by
          unfold zf_211_24
          by_cases c : 4 ≤ k + 1
          · rw [if_pos c]
          · rw [if_neg c, if_pos rfl]
        rw [eMd_0 _ _ _ z] at b4
        have e2 : eSt T n 1 F = some F := by
          unfold eSt
          rw [hx]
          exact if_pos z
        have := M211_56 W BE b3 b4
        rw [e2] at this
        rw [e1]
        exact this.tr fr
      · rw [if_neg z, if_neg z]
        exact (ih M (k + 1) _ u1 (by omega) (by omega) (by omega) b3 b4).tr fr
end
end
