section
/-! edits: sums settle (reference), and the file is read once more (both) -/
/-- whether the bytes G can be read and all relations hold -/
def eFi (T : yT) (n : Int) (G : yB) : Int := match yTop T G n 0 0 with
  | .inl _ => 0
  | .inr y => if yWs T G (yNs y.2.2.2) y.2.2.2.length = 0 then 1 else 0
/-- the bytes F behind an edit's settling -/
def eEd (T : yT) (n : Int) (F : yB) : Option yB := match eSt T n 5 F with
  | none => none
  | some G => match yTop T G n 0 0 with
    | .inl _ => none
    | .inr x => match eSu T (yNs x.2.2.2) x.2.2.2.length (eLc T (yNs x.2.2.2) x.2.2.2.length) (eLf T (yNs x.2.2.2)) G with
      | none => none
      | some Z => if eFi T n Z = 1 then some Z else none
/-- the reference's last check -/
def mCk (t : Int) (s : zS) : zR := zC (zf_186 0 t 0 0 s) fun v3 s2 => if v3 = 0 then (zz 0 s2) else (zC (zf_195 0 s2) fun v6 s5 => if v6 = 0 then (zz 1 s5) else (zz 0 s5))
section
variable {T : yT} {B C F G : yB} {n L w : Int} {N : Int → yN} {s u : zS} {r q : Nat} {t k v g e : Int} {h : Int → Int}
theorem eRd_z : ∀ (m : Nat) (j : Int), eRd N h e m j = 0 → ∀ i, j ≤ i → i < j + m → ¬ (h i = 1 ∧ N i 194 < e)
  | 0, _, _ => fun i i1 i2 => by omega
  | m + 1, j, z => fun i i1 i2 => by
    unfold eRd at z
    split at z
    · exact absurd z (by decide)
    · rename_i y
      by_cases c : i = j
      · rw [c]
        exact y
      · exact eRd_z m (j + 1) z i (by omega) (by omega)
/-- the one that is the first -/
def eFx (T : yT) (N : Int → yN) (L : Int) (h : Int → Int) : Int := if eFs T N L h L.toNat 0 = -1 then (if ySm h L.toNat 0 = 0 then -1 else -2) else eFs T N L h L.toNat 0
theorem ySm_01 (h01 : ∀ j, h j = 0 ∨ h j = 1) : ∀ (m : Nat) (k : Int), 0 ≤ ySm h m k ∧ ySm h m k ≤ m
  | 0, _ => ⟨Int.le_refl 0, Int.le_refl 0⟩
  | m + 1, k => by
    have := ySm_01 h01 m (k + 1)
    have := h01 k
    show 0 ≤ h k + ySm h m (k + 1) ∧ h k + ySm h m (k + 1) ≤ _
    omega
theorem M213_11 (W : yWT T) (H : mHw t T B C n N L w s) (hh : ∀ j, 0 ≤ j → j < L → s.1 632 0 j = h j) (h01 : ∀ j, h j = 0 ∨ h j = 1) (hr : ∀ j, 0 ≤ j → j < L → h j = 1 → yRl T (N j 198)) : ∀ (k M : Nat) (x a : Int), k < M → (k : Int) ≤ L → a = (k : Int) - 1 → x = (if ySm h (L - k).toNat k = 0 then 0 else 1) → zf_213_11 M 0 (eFs T N L h (L - k).toNat k) x a s = zi (eFx T N L h) s := by
  have S := H.2.1
  have hL := S.1
  obtain ⟨sz, Z⟩ := S.szs
  intro k
  induction k with
  | zero =>
    intro M x a hM kL ha hx
    obtain ⟨M, rfl⟩ : ∃ L, M = L + 1 := ⟨M - 1, by omega⟩
    have e0 : (L - ((0 : Nat) : Int)).toNat = L.toNat := by omega
    rw [e0] at hx ⊢
    have hx : x = if ySm h L.toNat 0 = 0 then 0 else 1 := hx
    show zf_213_11 (M + 1) 0 (eFs T N L h L.toNat 0) x a s = _
    unfold zf_213_11 eFx
    rw [if_pos (show a < 0 by omega)]
    by_cases c : eFs T N L h L.toNat 0 = -1
    · rw [if_pos c, if_pos c]
      by_cases d : ySm h L.toNat 0 = 0
      · rw [if_pos d] at hx
        rw [if_pos hx, if_pos d, c]
      · rw [if_neg d] at hx
        rw [if_neg (by omega), if_neg d]
    · rw [if_neg c, if_neg c]
  | succ k ih =>
    intro M x a hM kL ha hx
    obtain ⟨M, rfl⟩ : ∃ L, M = L + 1 := ⟨M - 1, by omega⟩
    have ha : a = (k : Int) := by omega
    subst ha
    have hk : 0 ≤ (k : Int) ∧ (k : Int) < L := by omega
    have e1 : (L - (k : Int)).toNat = (L - ((k + 1 : Nat) : Int)).toNat + 1 := by omega
    have ec : ((k + 1 : Nat) : Int) = (k : Int) + 1 := by omega
    have s1 : ySm h (L - (k : Int)).toNat k = h k + ySm h (L - ((k + 1 : Nat) : Int)).toNat ((k : Int) + 1) := by
      rw [e1]
      rfl
    rw [ec] at hx
    rw [ec] at s1
    have f1 : eFs T N L h (L - (k : Int)).toNat k = if h k = 1 ∧ eRd N h (N (yTg T N L k) 194 + N (yTg T N L k) 195) (L - yTg T N L k).toNat (yTg T N L k) = 0 then (k : Int) else eFs T N L h (L - ((k : Int) + 1)).toNat ((k : Int) + 1) := by
      rw [e1, ec]
      rfl
    have nn := ySm_01 h01 (L - ((k : Int) + 1)).toNat ((k : Int) + 1)
    rw [ec]
    unfold zf_213_11
    rw [if_neg (by omega), zn_ok (by omega), hh k hk.1 hk.2]
    rcases h01 k with z | z
    · rw [if_pos z, zg_ok ⟨by omega, by omega⟩]
      have := ih M x ((k : Int) + (-1)) (by omega) (by omega) (by omega) (by rw [s1, z, Int.zero_add]; exact hx)
      rw [f1, if_neg (fun y => by have := y.1; omega)] at this
      exact this
    · have R := hr k hk.1 hk.2 z
      have tg := S.tg W hk R
      have one : (1 : Int) = if ySm h (L - (k : Int)).toNat k = 0 then 0 else 1 := by
        rw [s1, if_neg (by omega)]
      have key := ih M 1 ((k : Int) + (-1)) (by omega) (by omega) (by omega) one
      have kg : ¬ (yTg T N L k ≤ (k : Int) ∧ N k 194 < N (yTg T N L k) 194 + N (yTg T N L k) 195) := fun y => by
        have kd := (yDu_b (C := C) W S hk R).2.2.2
        have y := (eIn W S Z tg.1 hk kd).mpr y
        have := (Z _ tg.1.1 tg.1.2).2.1 k (by have := tg.2.2.2.1; omega) y.2
        have := tg.2.2.2.2
        omega
      obtain ⟨i1, i2⟩ := M213_37 W H hh h01 hr hk tg.1 kg (zk := fun y0 y1 y2 y3 y => zf_213_11 M y0 y1 y2 y3 y) (x := eFs T N L h (L - ((k : Int) + 1)).toNat ((k : Int) + 1)) L.toNat xfu 1 0 (pa_fu (by omega)) (by omega) (by decide) (Or.inr rfl)
      rw [if_neg (by omega), M193w W H hk R, zC_zi]
      rcases eRd_b (N := N) (h := h) (e := N (yTg T N L k) 194 + N (yTg T N L k) 195) (L - yTg T N L k).toNat (yTg T N L k) with y | y
      · rw [f1, if_pos ⟨z, y⟩] at key
        rw [i1 rfl fun i a1 a2 a3 a4 => eRd_z _ _ y i a4.1 (by omega) ⟨a3, a4.2⟩]
        exact key
      · rw [f1, if_neg (fun x => by have := x.2; omega)] at key
        obtain ⟨i, a1, a2, a3⟩ := eRd_1 _ _ y
        rw [i2 (Or.inr ⟨i, by omega, a2, a1.1, a3⟩)]
        exact key
theorem M213 (W : yWT T) (H : mHw t T B C n N L w s) (hh : ∀ j, 0 ≤ j → j < L → s.1 632 0 j = h j) (h01 : ∀ j, h j = 0 ∨ h j = 1) (hr : ∀ j, 0 ≤ j → j < L → h j = 1 → yRl T (N j 198)) : zf_213 0 s = zi (eFx T N L h) s := by
  have hL := H.2.1.1
  have k := M213_11 W H hh h01 hr L.toNat xfu 0 (L - 1) (pa_fu (by omega)) (by omega) (by omega) (by
    rw [show (L - (L.toNat : Int)).toNat = 0 by omega]
    rfl)
  rw [show (L - (L.toNat : Int)).toNat = 0 by omega] at k
  unfold zf_213
  rw [H.1.1, zg_ok ⟨by omega, by omega⟩]
  exact k
theorem M211_149 (W : yWT T) : ∀ (m M : Nat) (h : Int → Int) (C : yB) (s : zS), m < M → mHw t T B C n N L w s → (∀ j, 0 ≤ j → j < L → s.1 632 0 j = h j) → (∀ j, h j = 0 ∨ h j = 1) → (∀ j, 0 ≤ j → j < L → h j = 1 → yRl T (N j 198) ∧ T 467 (N j 198) ≠ 37) → ySm h L.toNat 0 = m → (eSu T N L m h C = none → ∃ u, zC (zf_213 0 s) (fun v y => zf_211_149 M 0 t v y) = zi 0 u ∧ mEf s u) ∧ ∀ G, eSu T N L m h C = some G → ∃ u, zC (zf_213 0 s) (fun v y => zf_211_149 M 0 t v y) = mCk t u ∧ mEf s u ∧ mRel t T u ∧ mFile G n u := by
  intro m
  induction m with
  | zero =>
    intro M h C s hM H hh h01 hr hm
    obtain ⟨M, rfl⟩ : ∃ L, M = L + 1 := ⟨M - 1, by omega⟩
    have hL := H.2.1.1
    have hm : ySm h L.toNat 0 = 0 := hm
    have e : eFx T N L h = -1 := by
      unfold eFx
      by_cases c : eFs T N L h L.toNat 0 = -1
      · rw [if_pos c, if_pos hm]
      · have b := (eFs_b (T := T) (N := N) (L := L) (h := h) L.toNat 0).resolve_left c
        have : ∀ (m : Nat) (k i : Int), k ≤ i → i < k + m → h i = 1 → 1 ≤ ySm h m k := fun m => by
          induction m with
          | zero => exact fun k i i1 i2 _ => by omega
          | succ m ih =>
            intro k i i1 i2 z
            have p := ySm_01 h01 m (k + 1)
            have q := h01 k
            show 1 ≤ h k + ySm h m (k + 1)
            by_cases y : i = k
            · rw [y] at z
              omega
            · have := ih (k + 1) i (by omega) (by omega) z
              omega
        have := this L.toNat 0 _ b.1.1 b.1.2 b.2
        omega
    rw [M213 W H hh h01 fun j j1 j2 z => (hr j j1 j2 z).1, zC_zi, e]
    unfold zf_211_149
    rw [if_pos (by decide), if_pos rfl]
    refine ⟨fun z => (by cases z), fun G z => ?_⟩
    injection z with z
    subst z
    exact ⟨s, rfl, mEf.rf, H.2.2.1, H.2.2.2⟩
  | succ m ih =>
    intro M h C s hM H hh h01 hr hm
    obtain ⟨M, rfl⟩ : ∃ L, M = L + 1 := ⟨M - 1, by omega⟩
    have S := H.2.1
    have hL := S.1
    rw [M213 W H hh h01 fun j j1 j2 z => (hr j j1 j2 z).1, zC_zi]
    unfold zf_211_149 eSu eFx
    generalize ek : eFs T N L h L.toNat 0 = k
    by_cases c : k = -1
    · rw [if_pos c, if_pos c, if_neg (show ¬ ySm h L.toNat 0 = 0 by omega), if_pos (by decide), if_neg (by decide)]
      exact ⟨fun _ => ⟨s, rfl, mEf.rf⟩, fun G z => by cases z⟩
    · have b := eFs_b (T := T) (N := N) (L := L) (h := h) L.toNat 0
      rw [ek] at b
      have b := b.resolve_left c
      have hk : 0 ≤ k ∧ k < L := by omega
      obtain ⟨R, R5⟩ := hr k hk.1 hk.2 b.2
      obtain ⟨d1, d2, d3, d4⟩ := yDu_b (C := C) W S hk R
      have gw := eW_b (F := C) (n := n) H.2.2.2.2.2.2 d3 d1 d2
      obtain ⟨u1, a1, a2, a3, a4⟩ := M205 W H.1 H.2.2.1 S H.2.2.2.2.1.2 ⟨H.2.2.2.1, H.2.2.2.2.2.1⟩ hk (Or.inl d4) (v := yDu T C N L k)
      have fr : mWl s (zp 632 0 k 0 u1) := (mWl.of a2).pw (Or.inr rfl)
      have H1 : mHw t T B (eW T N k (yDu T C N L k) C) n N L w (zp 632 0 k 0 u1) := ⟨H.1.wl fr, S, H.2.2.1.wl W fr, (zp_nk (by decide)).trans a3.1, H.2.2.2.2.1, fun i i1 i2 => (zp_nk (by decide)).trans (a3.2 i i1 i2), gw⟩
      have up := ySm_up (h := fun i => if i = k then 0 else h i) (c := k) (if_pos rfl) L.toNat 0 hk.1 (by omega)
      have he : (fun i => if i = k then (1 : Int) else (fun i => if i = k then 0 else h i) i) = h := by
        funext i
        by_cases z : i = k
        · rw [if_pos z, z, b.2]
        · dsimp only
          rw [if_neg z, if_neg z]
      rw [he] at up
      obtain ⟨i1, i2⟩ := ih M (fun i => if i = k then 0 else h i) _ (zp 632 0 k 0 u1) (by omega) H1 (fun j j1 j2 => by
        by_cases z : j = k
        · rw [if_pos z, z, zp_eq]
        · rw [if_neg z, zp_ni z, a2.1 632 0 j (by omega)]
          exact hh j j1 j2) (fun j => by
        split
        · exact Or.inl rfl
        · exact h01 j) (fun j j1 j2 z => by
        by_cases y : j = k
        · rw [if_pos y] at z
          exact absurd z (by decide)
        · rw [if_neg y] at z
          exact hr j j1 j2 z) (by omega)
      rw [if_neg c, if_neg c, if_neg (by omega), M194w W H hk R R5, zC_zi, a1, zC_zi, zWz_ok ⟨by omega, Or.inl rfl⟩]
      refine ⟨fun z => ?_, fun G z => ?_⟩
      · obtain ⟨u2, c1, c2⟩ := i1 z
        exact ⟨u2, c1, (mEf.wl fr).tr c2⟩
      · obtain ⟨u2, c1, c2, c3⟩ := i2 G z
        exact ⟨u2, c1, (mEf.wl fr).tr c2, c3⟩
theorem eFi_m (W : yWT T) (BE : yBE T) (R : mRel t T s) (hF : mFile F n s) : ∃ u, mCk t s = zi (eFi T n F) u ∧ mEf s u ∧ mFile F n u := by
  obtain ⟨v, u, a1, a2, a3, a4, a5⟩ := M186w R W BE hF
  have f : mFile F n u := ⟨(a2.1 594 0 0 (by omega)).trans hF.1, hF.2.1, fun i i1 i2 => (a2.1 595 0 i (by omega)).trans (hF.2.2.1 i i1 i2), hF.2.2.2⟩
  unfold mCk eFi
  rw [a1, zC_zi]
  cases hx : yTop T F n 0 0 with
  | inl e =>
    dsimp only
    rw [a4 e hx, if_pos rfl]
    exact ⟨u, rfl, mEf.rd a2, f⟩
  | inr x =>
    dsimp only
    obtain ⟨v1, H⟩ := a5 x hx
    rw [v1, if_neg (show ¬ (1 : Int) = 0 by decide), M195 W H, zC_zi]
    by_cases c : yWs T F (yNs x.2.2.2) x.2.2.2.length = 0
    · rw [if_pos c, if_pos c]
      exact ⟨u, rfl, mEf.rd a2, f⟩
    · rw [if_neg c, if_neg c]
      exact ⟨u, rfl, mEf.rd a2, f⟩
theorem C20 (hT : yTpl q T s) (W : yWT T) (BE : yBE T) (hF : yFile 2 F n s) : ∃ u, zf_20 0 r ((q : Int) + 1) s = zi (eFi T n F) u ∧ cEf r s u ∧ yFile 2 F n u := by
  obtain ⟨v, u, a1, a2, a3, a4⟩ := C56w (r := r) hT W BE hF
  have f : yFile 2 F n u := by
    obtain ⟨f1, f2, f3, f4, f5, f6⟩ := hF
    exact ⟨f1, (a2.1 1 2 0 (by omega)).trans f2, f3, f4, fun i i1 i2 => (a2.1 0 2 i (by omega)).trans (f5 i i1 i2), f6⟩
  unfold zf_20 eFi
  rw [a1, zC_zi]
  cases hx : yTop T F n 0 0 with
  | inl e =>
    dsimp only
    rw [a3 e hx, if_pos rfl]
    exact ⟨u, rfl, cEf.rd a2, f⟩
  | inr x =>
    dsimp only
    obtain ⟨v1, H⟩ := a4 x hx
    rw [v1, if_neg (show ¬ (1 : Int) = 0 by decide), C80 W H, zC_zi]
    by_cases c : yWs T F (yNs x.2.2.2) x.2.2.2.length = 0
    · rw [if_pos c, if_pos c]
      exact ⟨u, rfl, cEf.rd a2, f⟩
    · rw [if_neg c, if_neg c]
      exact ⟨u, rfl, cEf.rd a2, f⟩
end
end
