/-! bounds of what is read -/
theorem yClamp_b (x : Int) : -99999 ≤ yClamp x ∧ yClamp x ≤ 99999 := by
  unfold yClamp
  split
  · omega
  · split <;> omega
theorem ySum_b {T : yT} {V : Int → Int} : ∀ (m : Nat) (k tot : Int), -99999 ≤ tot ∧ tot ≤ 99999 → -99999 ≤ ySum T V m k tot ∧ ySum T V m k tot ≤ 99999
  | 0, _, _, h => h
  | m + 1, k, tot, _ => ySum_b m (k + 1) _ (yClamp_b _)
theorem yReckon_b {T : yT} {V : Int → Int} {f : Int} : -99999 ≤ yReckon T V f ∧ yReckon T V f ≤ 99999 := ySum_b _ _ _ (by omega)
theorem yZ_b {B : yB} {n : Int} : ∀ (m : Nat) (k z : Int), yZ B n m k = some z → k ≤ z ∧ z < k + m
  | 0, _, _, h => by cases h
  | m + 1, k, z, h => by
    unfold yZ at h
    split at h
    · cases h
      omega
    · have := yZ_b m (k + 1) z h
      omega
theorem zand_m {x k : Int} (hk : 0 ≤ k ∧ k ≤ 16) : 0 ≤ zand x (zshl 1 k - 1) ∧ zand x (zshl 1 k - 1) < zshl 1 k := by
  have hs := zshl1_le hk
  have hb : (Int32.ofInt (zshl 1 k - 1)).toBitVec = BitVec.ofNat 32 (zshl 1 k - 1).toNat := zbv (by omega) (by omega)
  have hle : ((Int32.ofInt x).toBitVec &&& (Int32.ofInt (zshl 1 k - 1)).toBitVec).toNat ≤ (zshl 1 k - 1).toNat := by
    rw [BitVec.toNat_and, hb, BitVec.toNat_ofNat]
    refine Nat.le_trans Nat.and_le_right ?_
    omega
  have e : zand x (zshl 1 k - 1) = (((Int32.ofInt x).toBitVec &&& (Int32.ofInt (zshl 1 k - 1)).toBitVec).toNat : Int) := by
    unfold zand
    show ((Int32.ofInt x).toBitVec &&& (Int32.ofInt (zshl 1 k - 1)).toBitVec).toInt = _
    rw [BitVec.toInt_eq_toNat_of_lt (by omega)]
  rw [e]
  omega
/-- a field's length and value are as they may be -/
theorem yPl_b {T : yT} {B : yB} {n : Int} {V : Int → Int} {st k pos : Int} (W : yWF T st k) (hn : n ≤ 160) (hB : ∀ i, 0 ≤ i → i < n → 0 ≤ B i ∧ B i ≤ 255) (hp : 0 ≤ pos) : match yPl T B n V (8 * st + k) pos with
    | .inl c => c = 1 ∨ c = 2 ∨ c = 3
    | .inr (ln, v) => 0 ≤ ln ∧ ln ≤ 160 ∧ (ln = 0 ∨ pos + ln ≤ n) ∧ -1 ≤ v ∧ v ≤ 65535 := by
  obtain ⟨w1, w2, w3, w4, w5, w6, w7, w8, w9⟩ := W
  generalize 8 * st + k = f at *
  unfold yPl
  by_cases h1 : T 458 f = 115
  · rw [if_pos h1]
    dsimp only
    generalize yReckon T V f = ln
    by_cases h2 : ln < 0 ∨ 100 < ln
    · rw [if_pos h2]
      omega
    · rw [if_neg h2]
      by_cases h3 : 0 < ln ∧ n < pos + ln
      · rw [if_pos h3]
        omega
      · rw [if_neg h3]
        dsimp only
        by_cases h4 : ln = 0
        · rw [if_pos h4]
          omega
        · rw [if_neg h4]
          have := hB pos hp (by omega)
          omega
  · rw [if_neg h1]
    by_cases h2 : T 458 f = 122
    · rw [if_pos h2]
      cases hz : yZ B n (n - pos).toNat pos with
      | none =>
        dsimp only
        omega
      | some z =>
        dsimp only
        have := yZ_b _ _ _ hz
        have := hB pos hp (by omega)
        omega
    · rw [if_neg h2]
      by_cases h3 : T 458 f = 110
      · rw [if_pos h3]
        by_cases h4 : n ≤ pos
        · rw [if_pos h4]
          omega
        · rw [if_neg h4]
          dsimp only
          have a := w6 h3
          have b := zand_m (x := zshr (B pos) (T 460 f)) (k := T 459 f) (by omega)
          have c := zshl1_le (k := T 459 f) (by omega)
          omega
      · rw [if_neg h3]
        dsimp only
        by_cases h4 : T 459 f = 16
        · simp only [h4, if_true]
          by_cases h5 : n < pos + 2
          · rw [if_pos h5]
            omega
          · rw [if_neg h5]
            have a := hB pos hp (by omega)
            have b := hB (pos + 1) (by omega) (by omega)
            by_cases h6 : T 458 f = 87
            · simp only [h6, if_true]
              by_cases h7 : T 467 f = 61 ∧ 256 * B pos + B (pos + 1) ≠ T 468 f
              · rw [if_pos h7]
                dsimp only
                omega
              · rw [if_neg h7]
                dsimp only
                omega
            · simp only [h6, if_false]
              by_cases h7 : T 467 f = 61 ∧ B pos + 256 * B (pos + 1) ≠ T 468 f
              · rw [if_pos h7]
                dsimp only
                omega
              · rw [if_neg h7]
                dsimp only
                omega
        · simp only [h4, if_false]
          by_cases h5 : n < pos + 1
          · rw [if_pos h5]
            omega
          · rw [if_neg h5]
            have a := hB pos hp (by omega)
            by_cases h7 : T 467 f = 61 ∧ B pos ≠ T 468 f
            · rw [if_pos h7]
              dsimp only
              omega
            · rw [if_neg h7]
              dsimp only
              omega
/-- what a reading comes to, as it may be -/
def yOkO (n pos made : Int) (o : yO) : Prop := match o with
  | .inl e => made ≤ e.2.2 ∧ e.2.2 ≤ 200
  | .inr x => pos ≤ x.1 ∧ (x.1 = pos ∨ x.1 ≤ n) ∧ made + x.2.2.2.length ≤ x.2.1 ∧ x.2.1 ≤ 200 ∧ 0 ≤ x.2.2.1 ∧ x.2.2.1 ≤ 8 * x.2.2.2.length
def yOkA (n pos made : Int) (o : yA) : Prop := match o with
  | .inl e => made ≤ e.2.2 ∧ e.2.2 ≤ 200
  | .inr x => pos ≤ x.2.1 ∧ (x.2.1 = pos ∨ x.2.1 ≤ n) ∧ made + x.2.2.2.2.length ≤ x.2.2.1 ∧ x.2.2.1 ≤ 200 ∧ 0 ≤ x.2.2.2.1 ∧ x.2.2.2.1 ≤ 8 * x.2.2.2.2.length ∧ 0 ≤ x.1 ∧ x.1 ≤ 200
def yOkF (n pos made : Int) (o : yF) : Prop := match o with
  | .inl e => made ≤ e.2.2 ∧ e.2.2 ≤ 200
  | .inr x => pos ≤ x.2.1 ∧ (x.2.1 = pos ∨ x.2.1 ≤ n) ∧ made + x.2.2.2.2.length ≤ x.2.2.1 ∧ x.2.2.1 ≤ 200 ∧ 0 ≤ x.2.2.2.1 ∧ x.2.2.2.1 ≤ 8 * x.2.2.2.2.length
/-- what is known of the fields ahead of field k -/
def yOkE (E : yE) (k : Int) : Prop := ∀ i, 0 ≤ i → i < k → -1 ≤ E 330 i ∧ E 330 i ≤ 65535
theorem yOkE.up {E : yE} {k st ln v : Int} (h : yOkE E k) (hv : -1 ≤ v ∧ v ≤ 65535) : yOkE (yeu E k st ln v) (k + 1) := by
  intro i h0 h1
  by_cases hi : i = k
  · subst hi
    simpa [yeu] using hv
  · have e : yeu E k st ln v 330 i = E 330 i := by simp [yeu, hi]
    rw [e]
    exact h i h0 (by omega)
def yNmOk (n : Int) (nm : Int → Int → Int → yO) : Prop := ∀ pos made cnt, 0 ≤ pos → 0 ≤ made → made ≤ 200 → yOkO n pos made (nm pos made cnt)
def yRsOk (T : yT) (n : Int) (rs : Int → Int → Int → Int → Int → Int → yO) : Prop := ∀ s ow pa, 0 ≤ s → s < T 449 0 → yNmOk n (rs s ow pa)
section
variable {rs : Int → Int → Int → Int → Int → Int → yO} {T : yT} {B : yB} {n : Int}
theorem yNm_ok (hr : yRsOk T n rs) {ow pa : Int} : ∀ (m : Nat) (k pos made cnt : Int), (∀ j, k ≤ j → j < k + m → 0 ≤ T 456 j ∧ T 456 j < T 449 0) → 0 ≤ pos → 0 ≤ made → made ≤ 200 → yOkO n pos made (yNm rs T ow pa m k pos made cnt)
  | 0, _, _, _, _, _, _, _, h => ⟨by exact Int.le_refl _, h⟩
  | m + 1, k, pos, made, cnt, hj, hp, h0, h2 => by
    have a := hr (T 456 k) ow pa (hj k (by omega) (by omega)).1 (hj k (by omega) (by omega)).2 pos made cnt hp h0 h2
    unfold yNm
    cases hx : rs (T 456 k) ow pa pos made cnt with
    | inr x =>
      rw [hx] at a
      exact a
    | inl e =>
      rw [hx] at a
      obtain ⟨c, p, made'⟩ := e
      have a : made ≤ made' ∧ made' ≤ 200 := a
      dsimp only
      by_cases hc : c = 5 ∨ m = 0
      · rw [if_pos hc]
        exact a
      · rw [if_neg hc]
        have b := yNm_ok hr (ow := ow) (pa := pa) m (k + 1) pos made' cnt (fun j h1 h2 => hj j (by omega) (by omega)) hp (by omega) (by omega)
        revert b
        cases yNm rs T ow pa m (k + 1) pos made' cnt with
        | inl e =>
          intro b
          exact ⟨Int.le_trans a.1 b.1, b.2⟩
        | inr x =>
          intro b
          exact ⟨b.1, b.2.1, by have := b.2.2.1; omega, b.2.2.2⟩
theorem yCt_ok {nm : Int → Int → Int → yO} (hn : yNmOk n nm) : ∀ (m : Nat) (pos made cnt : Int), 0 ≤ pos → 0 ≤ made → made ≤ 200 → yOkO n pos made (yCt nm m pos made cnt)
  | 0, pos, made, _, _, h0, h2 => ⟨Int.le_refl _, Or.inl rfl, by simp [yCt], h2, Int.le_refl _, by simp⟩
  | m + 1, pos, made, cnt, hp, h0, h2 => by
    have a := hn pos made cnt hp h0 h2
    unfold yCt
    cases hx : nm pos made cnt with
    | inl e =>
      rw [hx] at a
      exact a
    | inr x =>
      rw [hx] at a
      obtain ⟨p1, m1, w1, l1⟩ := x
      obtain ⟨a1, a2, a3, a4, a5, a6⟩ := a
      dsimp only at a1 a2 a3 a4 a5 a6 ⊢
      have b := yCt_ok hn m p1 m1 (cnt + l1.length) (by omega) (by omega) (by omega)
      cases hy : yCt nm m p1 m1 (cnt + l1.length) with
      | inl e =>
        rw [hy] at b
        exact ⟨by have := b.1; omega, b.2⟩
      | inr x =>
        rw [hy] at b
        obtain ⟨p2, m2, w2, l2⟩ := x
        obtain ⟨b1, b2, b3, b4, b5, b6⟩ := b
        dsimp only at b1 b2 b3 b4 b5 b6 ⊢
        refine ⟨?_, ?_, ?_, ?_, ?_, ?_⟩ <;> dsimp only <;> (try rw [List.length_append]) <;> omega
theorem yAl_ok {nm : Int → Int → Int → yO} (hn : yNmOk n nm) : ∀ (m : Nat) (k pos made cnt : Int), 0 ≤ k → k + m ≤ 201 → 0 ≤ pos → 0 ≤ made → made ≤ 200 → yOkA n pos made (yAl nm m k pos made cnt)
  | 0, _, pos, made, _, _, _, _, h0, h2 => ⟨Int.le_refl _, h2⟩
  | m + 1, k, pos, made, cnt, hk, hkm, hp, h0, h2 => by
    have a := hn pos made cnt hp h0 h2
    unfold yAl
    cases hx : nm pos made cnt with
    | inl e =>
      rw [hx] at a
      obtain ⟨c, p, made'⟩ := e
      have a : made ≤ made' ∧ made' ≤ 200 := a
      dsimp only
      split
      · exact a
      · exact ⟨Int.le_refl _, Or.inl rfl, by simpa using a.1, a.2, Int.le_refl _, by simp, hk, by show k ≤ 200; omega⟩
    | inr x =>
      rw [hx] at a
      obtain ⟨p1, m1, w1, l1⟩ := x
      obtain ⟨a1, a2, a3, a4, a5, a6⟩ := a
      dsimp only at a1 a2 a3 a4 a5 a6 ⊢
      split
      · exact ⟨Int.le_refl _, Or.inl rfl, by show made + 0 ≤ m1; omega, a4, Int.le_refl _, by simp, hk, by show k ≤ 200; omega⟩
      · have b := yAl_ok hn m (k + 1) p1 m1 (cnt + l1.length) (by omega) (by omega) (by omega) (by omega) (by omega)
        cases hy : yAl nm m (k + 1) p1 m1 (cnt + l1.length) with
        | inl e =>
          rw [hy] at b
          exact ⟨by have := b.1; omega, b.2⟩
        | inr x =>
          rw [hy] at b
          obtain ⟨k2, p2, m2, w2, l2⟩ := x
          obtain ⟨b1, b2, b3, b4, b5, b6, b7⟩ := b
          dsimp only at b1 b2 b3 b4 b5 b6 b7 ⊢
          refine ⟨?_, ?_, ?_, ?_, ?_, ?_, ?_⟩ <;> dsimp only <;> (try rw [List.length_append]) <;> omega
theorem yEn_ok {nm : Int → Int → Int → yO} (hn : yNmOk n nm) {e st : Int} : ∀ (m : Nat) (k pos made cnt : Int), 0 ≤ k → k + m ≤ 201 → 0 ≤ pos → 0 ≤ made → made ≤ 200 → yOkA n pos made (yEn B n nm e st m k pos made cnt)
  | 0, _, pos, made, _, _, _, _, h0, h2 => ⟨Int.le_refl _, h2⟩
  | m + 1, k, pos, made, cnt, hk, hkm, hp, h0, h2 => by
    have a := hn pos made cnt hp h0 h2
    unfold yEn
    split
    · exact ⟨Int.le_refl _, Or.inl rfl, by show made + 0 ≤ made; omega, h2, Int.le_refl _, by simp, hk, by show k ≤ 200; omega⟩
    · split
      · exact ⟨Int.le_refl _, h2⟩
      · cases hx : nm pos made cnt with
        | inl e =>
          rw [hx] at a
          exact a
        | inr x =>
          rw [hx] at a
          obtain ⟨p1, m1, w1, l1⟩ := x
          obtain ⟨a1, a2, a3, a4, a5, a6⟩ := a
          dsimp only at a1 a2 a3 a4 a5 a6 ⊢
          split
          · exact ⟨by show made ≤ m1; omega, a4⟩
          · have b := yEn_ok hn (e := e) (st := st) m (k + 1) p1 m1 (cnt + l1.length) (by omega) (by omega) (by omega) (by omega) (by omega)
            cases hy : yEn B n nm e st m (k + 1) p1 m1 (cnt + l1.length) with
            | inl e =>
              rw [hy] at b
              exact ⟨by have := b.1; omega, b.2⟩
            | inr x =>
              rw [hy] at b
              obtain ⟨k2, p2, m2, w2, l2⟩ := x
              obtain ⟨b1, b2, b3, b4, b5, b6, b7⟩ := b
              dsimp only at b1 b2 b3 b4 b5 b6 b7 ⊢
              refine ⟨?_, ?_, ?_, ?_, ?_, ?_, ?_⟩ <;> dsimp only <;> (try rw [List.length_append]) <;> omega
theorem yNm_okW {st k ow pa : Int} (hr : yRsOk T n rs) (W : yWF T st k) (ht : T 458 (8 * st + k) = 65 ∨ T 458 (8 * st + k) = 91) : yNmOk n (yNm rs T ow pa (T 464 (8 * st + k) - T 463 (8 * st + k)).toNat (T 463 (8 * st + k))) := by
  intro pos made cnt hp h0 h2
  obtain ⟨a1, a2, a3, a4⟩ := W.2.2.1 (by omega)
  exact yNm_ok hr _ _ _ _ _ (fun j h1 h2 => a4 j h1 (by omega)) hp h0 h2
theorem yCn_b {V : Int → Int} {f : Int} (h : T 465 f = 43 → 0 ≤ yCn T V f ∧ yCn T V f ≤ 20) : 0 ≤ yCn T V f ∧ yCn T V f ≤ 20 := by
  by_cases h1 : T 465 f = 43
  · exact h h1
  · unfold yCn
    rw [if_neg h1]
    split
    · split <;> omega
    · omega
theorem yAr_ok {st k me pos made cnt : Int} {V : Int → Int} (hr : yRsOk T n rs) (W : yWF T st k) (ht : T 458 (8 * st + k) = 91) (hc : T 465 (8 * st + k) = 43 → 0 ≤ yCn T V (8 * st + k) ∧ yCn T V (8 * st + k) ≤ 20) (hp : 0 ≤ pos) (h0 : 0 ≤ made) (h2 : made < 200) : yOkA n pos (made + 1) (yAr rs T B n V me (8 * st + k) pos made cnt) := by
  have hnm := fun (ow pa : Int) => yNm_okW (ow := ow) (pa := pa) hr W (Or.inr ht)
  unfold yAr
  split
  · exact yAl_ok (hnm _ _) _ _ _ _ _ (by omega) (by omega) hp (by omega) (by omega)
  · split
    · exact yEn_ok (hnm _ _) _ _ _ _ _ (by omega) (by omega) hp (by omega) (by omega)
    · have a := yCt_ok (hnm (-1) cnt) (yCn T V (8 * st + k)).toNat pos (made + 1) (cnt + 1) hp (by omega) (by omega)
      have b := yCn_b hc
      revert a
      cases yCt _ (yCn T V (8 * st + k)).toNat pos (made + 1) (cnt + 1) with
      | inl e => exact fun a => a
      | inr x =>
        intro a
        obtain ⟨a1, a2, a3, a4, a5, a6⟩ := a
        exact ⟨a1, a2, a3, a4, a5, a6, b.1, by show yCn T V (8 * st + k) ≤ 200; omega⟩
theorem yFd_ok {st k me pos made cnt : Int} {E : yE} (hr : yRsOk T n rs) (W : yWF T st k) (hn : n ≤ 160) (hB : ∀ i, 0 ≤ i → i < n → 0 ≤ B i ∧ B i ≤ 255) (hE : yOkE E k) (hp : 0 ≤ pos) (h0 : 0 ≤ made) (h2 : made ≤ 200) : yOkF n pos made (yFd rs T B n me (8 * st + k) k E pos made cnt) ∧ ∀ x, yFd rs T B n me (8 * st + k) k E pos made cnt = .inr x → yOkE x.1 (k + 1) := by
  unfold yFd
  by_cases h1 : T 458 (8 * st + k) = 65
  · rw [if_pos h1]
    have a := yNm_okW (ow := 8 * st + k) (pa := me) hr W (Or.inl h1) pos made cnt hp h0 h2
    revert a
    cases yNm rs T (8 * st + k) me (T 464 (8 * st + k) - T 463 (8 * st + k)).toNat (T 463 (8 * st + k)) pos made cnt with
    | inl e => exact fun a => ⟨a, fun _ h => by cases h⟩
    | inr x =>
      intro a
      refine ⟨a, fun _ h => ?_⟩
      cases h
      exact hE.up (by omega)
  · rw [if_neg h1]
    by_cases h3 : 200 ≤ made
    · rw [if_pos h3]
      exact ⟨⟨Int.le_refl _, h2⟩, fun _ h => by cases h⟩
    · rw [if_neg h3]
      by_cases h4 : T 458 (8 * st + k) = 91
      · rw [if_pos h4]
        by_cases h5 : T 465 (8 * st + k) = 43 ∧ (yCn T (E 330) (8 * st + k) < 0 ∨ 20 < yCn T (E 330) (8 * st + k))
        · rw [if_pos h5]
          exact ⟨⟨by show made ≤ made + 1; omega, by show made + 1 ≤ 200; omega⟩, fun _ h => by cases h⟩
        · rw [if_neg h5]
          have a := yAr_ok (me := me) (cnt := cnt) (B := B) (V := E 330) hr W h4 (fun h => by omega) hp h0 (by omega)
          revert a
          cases yAr rs T B n (E 330) me (8 * st + k) pos made cnt with
          | inl e => exact fun a => ⟨⟨by have := a.1; omega, a.2⟩, fun _ h => by cases h⟩
          | inr x =>
            intro a
            obtain ⟨k2, p2, m2, w2, l2⟩ := x
            obtain ⟨a1, a2, a3, a4, a5, a6, a7, a8⟩ := a
            dsimp only at a1 a2 a3 a4 a5 a6 a7 a8
            refine ⟨⟨a1, a2, ?_, a4, a5, ?_⟩, fun _ h => ?_⟩
            · dsimp only
              rw [List.length_cons]
              omega
            · dsimp only
              rw [List.length_cons]
              omega
            · cases h
              exact hE.up (by omega)
      · rw [if_neg h4]
        have a := yPl_b (V := E 330) (B := B) W hn hB hp
        revert a
        cases yPl T B n (E 330) (8 * st + k) pos with
        | inl c => exact fun _ => ⟨⟨by show made ≤ made + 1; omega, by show made + 1 ≤ 200; omega⟩, fun _ h => by cases h⟩
        | inr x =>
          intro a
          obtain ⟨ln, v⟩ := x
          dsimp only at a
          refine ⟨⟨?_, ?_, ?_, ?_, ?_, ?_⟩, fun _ h => ?_⟩
          · dsimp only
            split <;> omega
          · dsimp only
            split <;> omega
          · simp
          · dsimp only
            omega
          · simp
          · simp
          · cases h
            exact hE.up (by omega)
theorem yFs_ok {st me : Int} (hr : yRsOk T n rs) (hn : n ≤ 160) (hB : ∀ i, 0 ≤ i → i < n → 0 ≤ B i ∧ B i ≤ 255) : ∀ (m : Nat) (k : Int) (E : yE) (pos made cnt : Int), 0 ≤ k → (∀ j, k ≤ j → j < k + m → yWF T st j) → yOkE E k → 0 ≤ pos → 0 ≤ made → made ≤ 200 → yOkF n pos made (yFs rs T B n me st m k E pos made cnt) ∧ ∀ x, yFs rs T B n me st m k E pos made cnt = .inr x → yOkE x.1 (k + m)
  | 0, k, E, pos, made, _, _, _, hE, _, _, h2 => ⟨⟨Int.le_refl _, Or.inl rfl, by show made + 0 ≤ made; omega, h2, Int.le_refl _, by simp⟩, fun _ h => by
      cases h
      simpa using hE⟩
  | m + 1, k, E, pos, made, cnt, hk, hW, hE, hp, h0, h2 => by
    have a := yFd_ok (me := me) (cnt := cnt) hr (hW k (by omega) (by omega)) hn hB hE hp h0 h2
    unfold yFs
    cases hx : yFd rs T B n me (8 * st + k) k E pos made cnt with
    | inl e =>
      rw [hx] at a
      exact ⟨a.1, fun _ h => by cases h⟩
    | inr x =>
      rw [hx] at a
      obtain ⟨E1, p1, m1, w1, l1⟩ := x
      obtain ⟨⟨a1, a2, a3, a4, a5, a6⟩, aE⟩ := a
      have aE := aE _ rfl
      dsimp only at a1 a2 a3 a4 a5 a6 aE ⊢
      have b := yFs_ok (st := st) (me := me) hr hn hB m (k + 1) E1 p1 m1 (cnt + l1.length) (by omega) (fun j h1 h2 => hW j (by omega) (by omega)) aE (by omega) (by omega) (by omega)
      cases hy : yFs rs T B n me st m (k + 1) E1 p1 m1 (cnt + l1.length) with
      | inl e =>
        rw [hy] at b
        exact ⟨⟨by have := b.1.1; omega, b.1.2⟩, fun _ h => by cases h⟩
      | inr x =>
        rw [hy] at b
        obtain ⟨E2, p2, m2, w2, l2⟩ := x
        obtain ⟨⟨b1, b2, b3, b4, b5, b6⟩, bE⟩ := b
        have bE := bE _ rfl
        dsimp only at b1 b2 b3 b4 b5 b6 bE ⊢
        refine ⟨⟨?_, ?_, ?_, ?_, ?_, ?_⟩, fun _ h => ?_⟩
        any_goals (dsimp only; (try rw [List.length_append]); omega)
        cases h
        intro i h1 h2
        exact bE i h1 (by omega)
theorem yWr_b {E : yE} {s : Int} : ∀ (m : Nat) (k : Int), 0 ≤ yWr T B E s m k ∧ yWr T B E s m k ≤ m
  | 0, _ => by simp [yWr]
  | m + 1, k => by
    have a := yWr_b (E := E) (s := s) m (k + 1)
    unfold yWr
    split
    · omega
    · split <;> omega
end
theorem yS_ok {T : yT} {B : yB} {n : Int} (W : yWT T) (hn : n ≤ 160) (hB : ∀ i, 0 ≤ i → i < n → 0 ≤ B i ∧ B i ≤ 255) : ∀ d : Nat, yRsOk T n (yS T B n d)
  | 0 => fun _ _ _ _ _ _ _ _ _ _ h2 => ⟨Int.le_refl _, h2⟩
  | d + 1 => by
    intro s ow pa hs0 hs1 pos made cnt hp h0 h2
    obtain ⟨c1, c2, c3⟩ := W.2.2 s hs0 hs1
    unfold yS
    by_cases h3 : 200 ≤ made
    · rw [if_pos h3]
      exact ⟨Int.le_refl _, h2⟩
    · rw [if_neg h3]
      have a := yFs_ok (st := s) (me := cnt) (yS_ok W hn hB d) hn hB (T 453 s).toNat 0 (fun _ _ => 0) pos (made + 1) (cnt + 1) (by omega) (fun j h1 h2 => c3 j h1 (by omega)) (fun i h1 h2 => by omega) hp (by omega) (by omega)
      cases hy : yFs (yS T B n d) T B n cnt s (T 453 s).toNat 0 (fun _ _ => 0) pos (made + 1) (cnt + 1) with
      | inl e =>
        rw [hy] at a
        exact ⟨by have := a.1.1; omega, a.1.2⟩
      | inr x =>
        rw [hy] at a
        obtain ⟨E, p1, m1, w1, l1⟩ := x
        obtain ⟨⟨a1, a2, a3, a4, a5, a6⟩, -⟩ := a
        dsimp only at a1 a2 a3 a4 a5 a6 ⊢
        have b := yWr_b (T := T) (B := B) (E := E) (s := s) (T 453 s).toNat 0
        refine ⟨?_, ?_, ?_, ?_, ?_, ?_⟩ <;> dsimp only <;> (try rw [List.length_cons]) <;> omega
