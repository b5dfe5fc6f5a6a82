/-! the reference's machine: a field without structures, whole -/
section
variable {t n : Int} {T : yT} {B : yB} {E : yE} {K J pos made cnt st k me dd g ln v bt : Int} {s u w : zS}
/-- numbers that are known are not below 0 -/
def mOkN (T : yT) (E : yE) (st k : Int) : Prop := ∀ i, 0 ≤ i → i < k → mNumr (T 458 (8 * st + i)) → 0 ≤ E 330 i
theorem yPl_n {V : Int → Int} (W : yWF T st k) (hn : n ≤ 160) (hB : ∀ i, 0 ≤ i → i < n → 0 ≤ B i ∧ B i ≤ 255) (hp : 0 ≤ pos) (hN : mNumr (T 458 (8 * st + k))) {x : Int × Int} (h : yPl T B n V (8 * st + k) pos = .inr x) : 0 ≤ x.2 := by
  have hw := W.2.2.2.2.2.1
  unfold mNumr at hN
  clear W
  unfold yPl at h
  rw [if_neg (by omega), if_neg (by omega)] at h
  by_cases h3 : T 458 (8 * st + k) = 110
  · rw [if_pos h3] at h
    split at h
    · cases h
    · cases h
      have a := hw h3
      exact (zand_m (by omega)).1
  · rw [if_neg h3] at h
    by_cases h4 : T 459 (8 * st + k) = 16
    · simp only [if_pos h4] at h
      by_cases h5 : n < pos + 2
      · rw [if_pos h5] at h
        cases h
      · rw [if_neg h5] at h
        have a := hB pos hp (by omega)
        have b := hB (pos + 1) (by omega) (by omega)
        have hv : 0 ≤ (if T 458 (8 * st + k) = 87 then 256 * B pos + B (pos + 1) else B pos + 256 * B (pos + 1)) := by split <;> omega
        generalize (if T 458 (8 * st + k) = 87 then 256 * B pos + B (pos + 1) else B pos + 256 * B (pos + 1)) = vv at h hv
        split at h
        · cases h
        · cases h
          exact hv
    · simp only [if_neg h4] at h
      by_cases h5 : n < pos + 1
      · rw [if_pos h5] at h
        cases h
      · rw [if_neg h5] at h
        have a := hB pos hp (by omega)
        split at h
        · cases h
        · cases h
          exact a.1
theorem M182_pl (R : mRel t T s) (hst : 0 ≤ st ∧ st < T 449 0) (h6 : T 449 0 ≤ 6) (hk : 0 ≤ k ∧ k < T 453 st) (h8 : T 453 st ≤ 8) (F : mFF T K st me k dd s) (hK : 0 ≤ K ∧ K < 50) (hnm : 0 ≤ T 457 (8 * st + k) ∧ T 457 (8 * st + k) ≤ 25) (h65 : T 458 (8 * st + k) ≠ 65) (h91 : T 458 (8 * st + k) ≠ 91) (h78 : T 458 (8 * st + k) ≠ 78) : zf_182 0 t s = zC (zf_174 0 (yKd (T 458 (8 * st + k))) (T 457 (8 * st + k)) me (48 * t + (8 * st + k)) s) (fun v s2 => if v = 0 then zi 0 s2 else zC (if T 458 (8 * st + k) = 115 ∨ T 458 (8 * st + k) = 122 then zf_184 0 t (48 * t + (8 * st + k)) K s2 else zf_185 0 (48 * t + (8 * st + k)) K s2) fun _ s5 => zi 0 s5) := by
  obtain ⟨r1, r2, r3⟩ := R
  obtain ⟨q1, q2, q3, q4⟩ := r3 st hst.1 hst.2
  have qf := q4 k hk.1 hk.2
  have g1 := qf.1
  have g3 := qf.2.2.1 h65 h91
  clear qf q4 r3
  obtain ⟨f1, f2, f3, f4, f5, f6, f7⟩ := F
  unfold zf_182
  rw [f1, show K + 1 - 1 = K by omega, f3, f5, f4, f6, q1, zg_ok ⟨by omega, by omega⟩, zn_ok (by omega), zn_ok (by omega), zg_ok ⟨by omega, by omega⟩, zg_ok ⟨by omega, by omega⟩, zn_ok (by omega), if_neg (by omega), zn_ok (by omega), zg_ok ⟨by omega, by omega⟩, show 8 * (6 * t + st) + k = 48 * t + (8 * st + k) by omega, zg_ok ⟨by omega, by omega⟩, zn_ok (by omega), zn_ok (by omega), g3, g1, if_neg h78, show T 457 (8 * st + k) + 97 - 97 = T 457 (8 * st + k) by omega]
  have e160 : zf_182_160 0 t K (48 * t + (8 * st + k)) (T 457 (8 * st + k)) s = zC (zf_174 0 5 (T 457 (8 * st + k)) me (48 * t + (8 * st + k)) s) (fun v s2 => if v = 0 then zi 0 s2 else zC (zf_184 0 t (48 * t + (8 * st + k)) K s2) fun _ s5 => zi 0 s5) := by
    unfold zf_182_160
    rw [zn_ok (by omega), f4]
  have e213 : ∀ x : Int, zf_182_213 0 K (48 * t + (8 * st + k)) (T 457 (8 * st + k)) 0 x s = zC (zf_174 0 x (T 457 (8 * st + k)) me (48 * t + (8 * st + k)) s) (fun v s2 => if v = 0 then zi 0 s2 else zC (zf_185 0 (48 * t + (8 * st + k)) K s2) fun _ s5 => zi 0 s5) := by
    intro x
    unfold zf_182_213
    rw [zn_ok (by omega), f4]
  unfold yKd
  by_cases h115 : T 458 (8 * st + k) = 115
  · simp only [if_pos h115, if_neg (show ¬ T 458 (8 * st + k) = 110 by omega), if_neg (show ¬ T 458 (8 * st + k) = 114 by omega), if_pos (Or.inl h115 : T 458 (8 * st + k) = 115 ∨ T 458 (8 * st + k) = 122)]
    rw [zg_ok ⟨by omega, by omega⟩, e160]
  · by_cases h122 : T 458 (8 * st + k) = 122
    · simp only [if_neg h115, if_pos h122, if_neg (show ¬ T 458 (8 * st + k) = 110 by omega), if_neg (show ¬ T 458 (8 * st + k) = 114 by omega), if_pos (Or.inr h122 : T 458 (8 * st + k) = 115 ∨ T 458 (8 * st + k) = 122)]
      rw [zg_ok ⟨by omega, by omega⟩, e160]
    · simp only [if_neg h115, if_neg h122, if_neg (show ¬ (T 458 (8 * st + k) = 115 ∨ T 458 (8 * st + k) = 122) by omega)]
      by_cases h114 : T 458 (8 * st + k) = 114
      · simp only [if_pos h114, if_neg (show ¬ T 458 (8 * st + k) = 110 by omega)]
        rw [zg_ok ⟨by omega, by omega⟩, e213]
      · simp only [if_neg h114]
        by_cases h110 : T 458 (8 * st + k) = 110
        · simp only [if_pos h110]
          rw [zg_ok ⟨by omega, by omega⟩, e213]
        · simp only [if_neg h110]
          rw [zg_ok ⟨by omega, by omega⟩, e213]
/-- what a field leaves where there is no fault -/
def mGood (t : Int) (T : yT) (K cnt st me k dd : Int) (N : Nat) (s : zS) (x : yE × Int × Int × Int × List yN) : Prop := ∃ u, mRun t N s u ∧ mKeep K cnt s u ∧ mFF T K st me (k + 1) dd u ∧ mPre x.2.1 x.2.2.1 (cnt + x.2.2.2.2.length) u ∧ mIn t T cnt x.2.2.2.2 u ∧ mKn T (x.1 330) st (k + 1) K u
theorem yBit_s (hk : 0 ≤ k) : yBit T st (k + 1).toNat = if T 458 (8 * st + k) = 110 then (if yBit T st k.toNat + T 459 (8 * st + k) = 8 then 0 else yBit T st k.toNat + T 459 (8 * st + k)) else 0 := by
  obtain ⟨m, rfl⟩ := Int.eq_ofNat_of_zero_le hk
  rw [show ((m : Int) + 1).toNat = m + 1 by omega]
  rfl
theorem M_plain (R : mRd t T B n s) (W : yWT T) (hst : 0 ≤ st ∧ st < T 449 0) (hk : 0 ≤ k ∧ k < T 453 st) (F : mFF T K st me k dd s) (hK : 0 ≤ K ∧ K < 50) (P : mPre pos made cnt s) (hV : mKn T (E 330) st k K s) (hE : yOkE E k) (hN : mOkN T E st k) (h65 : T 458 (8 * st + k) ≠ 65) (h91 : T 458 (8 * st + k) ≠ 91) : match yP61 T B n E me (8 * st + k) k pos made with
    | .inl e => mBad t K cnt 1 s e
    | .inr x => mGood t T K cnt st me k dd 1 s x := by
  obtain ⟨c1, c2, c3⟩ := W.2.2 st hst.1 hst.2
  have h6 := W.2.1
  have Wk := c3 k hk.1 hk.2
  have hnm := Wk.2.1
  have h78 : T 458 (8 * st + k) ≠ 78 := by have := Wk.1; omega
  obtain ⟨r1, r2, r3⟩ := id R.1
  obtain ⟨q1, q2, q3, q4⟩ := r3 st hst.1 hst.2
  have qf := q4 k hk.1 hk.2
  clear q4 r3 c3
  obtain ⟨p1, p2, p3, p4, p5, p6, p7⟩ := id P
  obtain ⟨f1, f2, f3, f4, f5, f6, f7⟩ := id F
  have hn6 := R.2.2.2.1
  have step : ∀ u, zf_182 0 t s = zi 0 u → mRun t 1 s u := fun u e => mRun.st f1 (by omega) (Or.inl ⟨f2, e⟩)
  have e182 := M182_pl R.1 hst h6 hk c2 F hK hnm h65 h91 h78
  unfold yP61
  by_cases hm : 200 ≤ made
  · rw [if_pos hm]
    rw [M174_m P hm, zC_zi, if_pos rfl] at e182
    dsimp only
    unfold mBad
    rw [if_pos (show ((5, pos, made) : Int × Int × Int).1 = 5 from rfl)]
    refine ⟨_, step _ e182, ?_, ?_, zp_eq, ((mfm.rf.pw (by omega)).pw (by omega)).pw (by omega)⟩
    · rw [zp_nn (by omega), zp_nn (by omega), zp_eq]
    · rw [zp_nn (by omega), zp_eq]
  · rw [if_neg hm]
    rw [M174 P hm, zC_zi, if_neg (by decide)] at e182
    obtain ⟨m1, m2, m3, m4, m5, m6', m7, m8, m9⟩ := mMk_get (k := yKd (T 458 (8 * st + k))) (nm := T 457 (8 * st + k)) (p := me) (f := 48 * t + (8 * st + k)) (pos := pos) (made := made) (cnt := cnt) (s := s)
    have mfr' := fun (g : Nat) (i : Int) (h : 621 ≤ g) => mMk_fr (k := yKd (T 458 (8 * st + k))) (nm := T 457 (8 * st + k)) (p := me) (f := 48 * t + (8 * st + k)) (pos := pos) (made := made) (cnt := cnt) (s := s) (i := i) h
    have K1 : mKeep K cnt s (mMk (yKd (T 458 (8 * st + k))) (T 457 (8 * st + k)) me (48 * t + (8 * st + k)) pos made cnt s) := mKeep.mk'
    generalize mMk (yKd (T 458 (8 * st + k))) (T 457 (8 * st + k)) me (48 * t + (8 * st + k)) pos made cnt s = r at e182 m1 m2 m3 m4 m5 m6' m7 m8 m9 mfr' K1
    have R1 := R.fr K1.1
    have n1 : r.1 607 0 0 = pos := m6'.trans p1
    have n2 : r.1 620 0 0 = K + 1 := m9.trans f1
    have n3 : r.1 621 0 K = 0 := (mfr' 621 K (by decide)).trans f2
    have n4 : r.1 622 0 K = st := (mfr' 622 K (by decide)).trans f3
    have n5 : r.1 623 0 K = me := (mfr' 623 K (by decide)).trans f4
    have n6 : r.1 624 0 K = k := (mfr' 624 K (by decide)).trans f5
    have n7 : r.1 629 0 K = dd := (mfr' 629 K (by decide)).trans f6
    have n8 : r.1 625 0 K = yBit T st k.toNat := (mfr' 625 K (by decide)).trans f7
    have nV : mKn T (E 330) st k K r := fun i h1 h2 h3 => (mfr' 630 _ (by decide)).trans (hV i h1 h2 h3)
    clear mfr'
    have hb := yPl_b (V := E 330) (B := B) (pos := pos) Wk hn6.2 R.2.2.2.2.2 p4.1
    have bit' := yBit_s (T := T) (st := st) hk.1
    -- a fault
    have bad : ∀ (c : Int) (r' : zS), c ≠ 5 → mKeep K cnt s r' → r'.1 620 0 0 = K + 1 → r'.1 621 0 K = 0 → r'.1 611 0 0 = made + 1 → (∀ w, zf_177 0 c pos r' = zi 0 w → zf_182 0 t s = zi 0 w) → mBad t K cnt 1 s (c, pos, made + 1) := by
      intro c r' h5 Kr h1 h2 h3 h4
      exact mBad.ff h5 Kr h1 h2 hK h3 (fun w hw => step w (h4 w (hw.all (by omega))))
    -- the end, with the node told
    have good : ∀ (ln v : Int) (r2 : zS), zf_182 0 t s = zi 0 r2 → yPl T B n (E 330) (8 * st + k) pos = .inr (ln, v) → mKeep K cnt s r2 → r2.1 620 0 0 = K + 1 → r2.1 621 0 K = 0 → r2.1 622 0 K = st → r2.1 623 0 K = me → r2.1 624 0 K = k + 1 → r2.1 629 0 K = dd → r2.1 625 0 K = yBit T st (k + 1).toNat → r2.1 607 0 0 = (if T 458 (8 * st + k) = 110 ∧ T 460 (8 * st + k) ≠ 0 then pos else pos + ln) → r2.1 611 0 0 = made + 1 → r2.1 610 0 0 = cnt + 1 → r2.1 612 0 cnt = yKd (T 458 (8 * st + k)) → r2.1 613 0 cnt = T 457 (8 * st + k) → r2.1 614 0 cnt = pos → r2.1 615 0 cnt = ln → r2.1 616 0 cnt = v → r2.1 617 0 cnt = me → r2.1 618 0 cnt = 48 * t + (8 * st + k) → (T 458 (8 * st + k) = 110 → r2.1 619 0 cnt = 8 - T 460 (8 * st + k) - T 459 (8 * st + k)) → mKn T (E 330) st k K r2 → (mNumr (T 458 (8 * st + k)) → r2.1 630 0 (8 * K + k) = v) → mGood t T K cnt st me k dd 1 s (yeu E k pos ln v, if T 458 (8 * st + k) = 110 ∧ T 460 (8 * st + k) ≠ 0 then pos else pos + ln, made + 1, 0, [yn (yKd (T 458 (8 * st + k))) (T 457 (8 * st + k)) pos ln v me (8 * st + k)]) := by
      intro ln v r2 e hpl Kr a1 a2 a3 a4 a5 a6 a7 a8 a9 a10 b1 b2 b3 b4 b5 b6 b7 b8 b9 b10
      rw [hpl] at hb
      dsimp only at hb
      refine ⟨r2, step _ e, Kr, ⟨a1, a2, a3, a4, a5, a6, a7⟩, ⟨a8, a9, ?_, ?_, ?_, ?_, ?_⟩, ⟨?_, fun j x hx => ?_⟩, fun i h1 h2 h3 => ?_⟩
      · simpa using a10
      · dsimp only
        split <;> omega
      · simp
        omega
      · simp
        omega
      · dsimp only
        omega
      · simpa using a10
      · cases j with
        | zero =>
          simp only [List.getElem?_cons_zero, Option.some.injEq] at hx
          subst hx
          rw [show cnt + ((0 : Nat) : Int) = cnt by omega]
          refine ⟨b1, b2, b3, b4, b5, b6, ?_, fun h => ?_⟩
          · rw [b7]
            show _ = if 8 * st + k = -1 then _ else _
            rw [if_neg (by omega)]
            rfl
          · have h110 : T 458 (8 * st + k) = 110 := by
              have h : yKd (T 458 (8 * st + k)) = 4 := h
              by_cases z : T 458 (8 * st + k) = 110
              · exact z
              · exfalso
                unfold yKd at h
                rw [if_neg z] at h
                split at h
                · omega
                · split at h
                  · omega
                  · split at h <;> omega
            exact b8 h110
        | succ j => simp at hx
      · by_cases hi : i = k
        · subst hi
          rw [b10 h3]
          simp [yeu]
        · rw [b9 i h1 (by omega) h3]
          simp [yeu, hi]
    by_cases hs : T 458 (8 * st + k) = 115 ∨ T 458 (8 * st + k) = 122
    · rw [if_pos hs] at e182
      have s110 : T 458 (8 * st + k) ≠ 110 := by omega
      have hg3 := qf.2.2.1 h65 h91
      have hbk : yBit T st k.toNat = 0 := qf.2.2.2.2.2.2.2.2.2.2.2.2 s110
      have nNum : ¬ mNumr (T 458 (8 * st + k)) := by
        unfold mNumr
        omega
      -- the length is known: many
      have tail : ∀ (ln : Int) (r1 : zS), m6 r r1 → (0 ≤ ln ∧ ln ≤ 200) → zf_182 0 t s = zC (zf_184_87 0 K ln r1) (fun _ s5 => zi 0 s5) → (yPl T B n (E 330) (8 * st + k) pos = if 0 < ln ∧ n < pos + ln then .inl 1 else .inr (ln, if ln = 0 then -1 else B pos)) → (match (match yPl T B n (E 330) (8 * st + k) pos with
    | .inl c => .inl (c, pos, made + 1)
    | .inr x => .inr (yeu E k pos x.1 x.2, if T 458 (8 * st + k) = 110 ∧ T 460 (8 * st + k) ≠ 0 then pos else pos + x.1, made + 1, 0, [yn (yKd (T 458 (8 * st + k))) (T 457 (8 * st + k)) pos x.1 x.2 me (8 * st + k)]) : yF) with
    | .inl e => mBad t K cnt 1 s e
    | .inr x => mGood t T K cnt st me k dd 1 s x) := by
        intro ln r1 L6 hl e hpl
        have Kr1 : mKeep K cnt s r1 := K1.tr (mKeep.of6 L6) (Int.le_refl _) (Int.le_refl _)
        have L : ∀ (f : Nat) (i : Int), 607 ≤ f → r1.1 f 0 i = r.1 f 0 i := fun f i h => L6.1 f 0 i (by omega)
        by_cases hbad : 0 < ln ∧ n < pos + ln
        · rw [hpl, if_pos hbad]
          refine bad 1 r1 (by decide) Kr1 ((L 620 0 (by decide)).trans n2) ((L 621 K (by decide)).trans n3) ((L 611 0 (by decide)).trans m7) (fun w hw => ?_)
          rw [e, M184_87 (cnt := cnt) (k := k) (w := w) (fun _ => hw) ((L 610 0 (by decide)).trans m8) ((L 607 0 (by decide)).trans n1) ((L 624 K (by decide)).trans n6) ((L6.1 594 0 0 (by omega)).trans R1.2.2.1) (fun i h1 h2 => (L6.1 595 0 i (by omega)).trans (R1.2.2.2.2.1 i h1 h2)) hn6 (by omega) p4 (by omega) hK hl, zC_zi, if_neg (by omega)]
        · rw [hpl, if_neg hbad]
          have e2 := e
          rw [M184_87 (cnt := cnt) (k := k) (w := r1) (fun h => absurd h (by omega)) ((L 610 0 (by decide)).trans m8) ((L 607 0 (by decide)).trans n1) ((L 624 K (by decide)).trans n6) ((L6.1 594 0 0 (by omega)).trans R1.2.2.1) (fun i h1 h2 => (L6.1 595 0 i (by omega)).trans (R1.2.2.2.2.1 i h1 h2)) hn6 (by omega) p4 (by omega) hK hl, zC_zi, if_pos (by omega)] at e2
          refine good ln _ _ e2 (by rw [hpl, if_neg hbad]) ?_ ?_ ?_ ?_ ?_ zp_eq ?_ ?_ ?_ ?_ ?_ ?_ ?_ ?_ ?_ ?_ ?_ ?_ (fun h => absurd h s110) ?_ (fun h => absurd h nNum)
          · exact (((Kr1.pw (by omega)).pw (by omega)).pw (by omega)).pw (by omega)
          · rw [zp_nn (by omega), zp_nn (by omega), zp_nn (by omega), zp_nn (by omega), L 620 0 (by decide)]
            exact n2
          · rw [zp_nn (by omega), zp_nn (by omega), zp_nn (by omega), zp_nn (by omega), L 621 K (by decide)]
            exact n3
          · rw [zp_nn (by omega), zp_nn (by omega), zp_nn (by omega), zp_nn (by omega), L 622 K (by decide)]
            exact n4
          · rw [zp_nn (by omega), zp_nn (by omega), zp_nn (by omega), zp_nn (by omega), L 623 K (by decide)]
            exact n5
          · rw [zp_nn (by omega), zp_nn (by omega), zp_nn (by omega), zp_nn (by omega), L 629 K (by decide)]
            exact n7
          · rw [zp_nn (by omega), zp_nn (by omega), zp_nn (by omega), zp_nn (by omega), L 625 K (by decide), n8, bit', if_neg s110, hbk]
          · rw [zp_nn (by omega), zp_eq, if_neg (by omega)]
          · rw [zp_nn (by omega), zp_nn (by omega), zp_nn (by omega), zp_nn (by omega), L 611 0 (by decide)]
            exact m7
          · rw [zp_nn (by omega), zp_nn (by omega), zp_nn (by omega), zp_nn (by omega), L 610 0 (by decide)]
            exact m8
          · rw [zp_nn (by omega), zp_nn (by omega), zp_nn (by omega), zp_nn (by omega), L 612 cnt (by decide)]
            exact m1
          · rw [zp_nn (by omega), zp_nn (by omega), zp_nn (by omega), zp_nn (by omega), L 613 cnt (by decide)]
            exact m2
          · rw [zp_nn (by omega), zp_nn (by omega), zp_nn (by omega), zp_nn (by omega), L 614 cnt (by decide)]
            exact m3
          · rw [zp_nn (by omega), zp_nn (by omega), zp_nn (by omega), zp_eq]
          · rw [zp_nn (by omega), zp_nn (by omega), zp_eq]
          · rw [zp_nn (by omega), zp_nn (by omega), zp_nn (by omega), zp_nn (by omega), L 617 cnt (by decide)]
            exact m4
          · rw [zp_nn (by omega), zp_nn (by omega), zp_nn (by omega), zp_nn (by omega), L 618 cnt (by decide)]
            exact m5
          · intro i h1 h2 h3
            rw [zp_nn (by omega), zp_nn (by omega), zp_nn (by omega), zp_nn (by omega), L 630 _ (by decide)]
            exact nV i h1 h2 h3
      have hg588 : r.1 588 0 (48 * t + (8 * st + k)) = s.1 588 0 (48 * t + (8 * st + k)) := K1.1.1 588 0 _ (by omega)
      have hg587 : r.1 587 0 (48 * t + (8 * st + k)) = T 458 (8 * st + k) := (K1.1.1 587 0 _ (by omega)).trans hg3
      unfold zf_184 at e182
      rw [zn_ok (by omega), hg587] at e182
      by_cases h115 : T 458 (8 * st + k) = 115
      · obtain ⟨s1, s2, s3⟩ := qf.2.2.2.2.2.2.2.2.1 h115
        have eX : mX t r = mX t s := funext fun p => mX_fr K1.1
        have hsums := Wk.2.2.2.2.1 (Or.inl h115)
        rw [if_pos h115, zn_ok (by omega), hg588] at e182
        have hp588 : s.1 588 0 (48 * t + (8 * st + k)) ≤ 200 := by
          obtain ⟨-, p', hterm, -⟩ := s3
          by_cases z : s.1 588 0 (48 * t + (8 * st + k)) < 200
          · omega
          · exfalso
            have x0 : mX t s (s.1 588 0 (48 * t + (8 * st + k))) = 0 := by unfold mX; rw [if_neg z]
            rcases hterm with ⟨hd, -⟩ | ⟨-, h0, hlt, hnum, hx, -⟩
            · unfold mDig at hd
              rw [x0] at hd
              omega
            · rw [x0] at hx
              have := (W.2.2 st hst.1 hst.2).2.2 (-1 - T 454 (T 461 (8 * st + k))) (by omega) (by omega)
              have := this.2.1
              omega
        obtain ⟨v, r1, hrun, L6, hv⟩ := M173 (V := E 330) (m := (T 462 (8 * st + k) - T 461 (8 * st + k) - 1).toNat) (p := s.1 588 0 (48 * t + (8 * st + k))) R1.1 W hst (by omega) (by omega) n4 R1.2.1 nV (fun i h1 h2 => by
          by_cases hz : mNumr (T 458 (8 * st + i))
          · exact Or.inl ⟨hN i h1 h2 hz, (hE i h1 h2).2⟩
          · exact Or.inr hz) (fun i h1 h2 => by have := hE i h1 h2; omega) ⟨s1, hp588⟩ (by omega) (by rw [eX]; exact s3)
        have hv2 : v = yReckon T (E 330) (8 * st + k) := by
          rw [hv]
          unfold yReckon
          rw [show (T 462 (8 * st + k) - T 461 (8 * st + k) - 1).toNat + 1 = (T 462 (8 * st + k) - T 461 (8 * st + k)).toNat by omega]
        have hv3 := yReckon_b (T := T) (V := E 330) (f := 8 * st + k)
        rw [← hv2] at hv3
        have hrun : zf_173 0 t (s.1 588 0 (48 * t + (8 * st + k))) K r = zi v r1 := hrun
        rw [hrun, zC_zi, z146, zC_zi] at e182
        by_cases hr : 0 ≤ v ∧ v ≤ 100
        · rw [if_pos hr, if_neg (by decide)] at e182
          exact tail v r1 L6 (by omega) e182 (by
            unfold yPl
            rw [if_pos h115, ← hv2]
            dsimp only
            rw [if_neg (show ¬ (v < 0 ∨ 100 < v) by omega)])
        · rw [if_neg hr, if_pos rfl] at e182
          have e3 : yPl T B n (E 330) (8 * st + k) pos = .inl 3 := by
            unfold yPl
            rw [if_pos h115, ← hv2]
            dsimp only
            rw [if_pos (show v < 0 ∨ 100 < v by omega)]
          rw [e3]
          have L : ∀ (f : Nat) (i : Int), 607 ≤ f → r1.1 f 0 i = r.1 f 0 i := fun f i h => L6.1 f 0 i (by omega)
          refine bad 3 r1 (by decide) (K1.tr (mKeep.of6 L6) (Int.le_refl _) (Int.le_refl _)) ((L 620 0 (by decide)).trans n2) ((L 621 K (by decide)).trans n3) ((L 611 0 (by decide)).trans m7) (fun w hw => ?_)
          rw [e182, (L 607 0 (by decide)).trans n1, hw, zC_zi, zC_zi]
      · have h122 : T 458 (8 * st + k) = 122 := by omega
        rw [if_neg h115, M184_49 (B := B) n1 R1.2.2.1 R1.2.2.2.2.1 hn6 p4 (n - pos).toNat xfu 0 (xfu_big (by omega)) (by omega) (by omega) (by omega) (by omega), show pos + 0 = pos by omega] at e182
        have hz := yZ_b (B := B) (n := n) (n - pos).toNat pos
        have e4 : yPl T B n (E 330) (8 * st + k) pos = match yZ B n (n - pos).toNat pos with
          | some k => .inr (k + 1 - pos, B pos)
          | none => .inl 1 := by
          unfold yPl
          rw [if_neg h115, if_pos h122]
          cases yZ B n (n - pos).toNat pos <;> rfl
        revert e182 hz e4
        cases yZ B n (n - pos).toNat pos with
        | some z =>
          intro e182 hz e4
          have hz := hz z rfl
          dsimp only at e182 e4
          exact tail (z + 1 - pos) r m6.rf (by omega) e182 (by rw [e4, if_neg (by omega), if_neg (by omega)])
        | none =>
          intro e182 hz e4
          dsimp only at e182 e4
          exact tail (0 + ((n - pos).toNat : Int) + 1) r m6.rf (by omega) e182 (by rw [e4, if_pos (by omega)])
    · rw [if_neg hs] at e182
      have a := M185 (V := E 330) (g := 48 * t + (8 * st + k)) (f := 8 * st + k) (s := r) (cnt := cnt) (n := n) (B := B) Wk (qf.fr K1.1) rfl rfl r1 (by omega) m8 n1 n6 n8 rfl R1.2.2.1 R1.2.2.2.2.1 R.2.2.2.2.2 hn6 (by omega) p4 (by omega) hK h65 h91 (by omega) (by omega)
      have q5 := qf.2.2.2.2.1
      have q13 := qf.2.2.2.2.2.2.2.2.2.2.2.2
      have hnm' : mNumr (T 458 (8 * st + k)) := by
        have := Wk.1
        unfold mNumr
        omega
      have w110 := Wk.2.2.2.2.2.1
      clear qf Wk
      revert a
      cases hpl : yPl T B n (E 330) (8 * st + k) pos with
      | inl c =>
        intro a
        obtain ⟨s', hs', hw⟩ := a
        rw [hpl] at hb
        have hb : c = 1 ∨ c = 2 ∨ c = 3 := hb
        have Ks : mKeep K cnt r s' := by
          rcases hs' with rfl | rfl
          · exact mKeep.rf
          · exact mKeep.rf.pw (by omega)
        have same : ∀ (f : Nat) (i : Int), 605 ≤ f → f ≠ 619 → s'.1 f 0 i = r.1 f 0 i := by
          intro f i h1 h2
          rcases hs' with rfl | rfl
          · rfl
          · exact zp_nn (by omega)
        dsimp only
        refine bad c s' (by omega) (K1.tr Ks (Int.le_refl _) (Int.le_refl _)) ((same 620 0 (by decide) (by decide)).trans n2) ((same 621 K (by decide) (by decide)).trans n3) ((same 611 0 (by decide) (by decide)).trans m7) (fun w h => ?_)
        rw [e182, hw w h, zC_zi]
      | inr x =>
        intro a
        obtain ⟨s', hs', e185⟩ := a
        obtain ⟨ln, v⟩ := x
        rw [hpl] at hb
        dsimp only at hb e185 ⊢
        rw [e185, zC_zi] at e182
        have Ks : mKeep K cnt r s' := by
          rcases hs' with rfl | rfl
          · exact mKeep.rf.pw (by omega)
          · exact (mKeep.rf.pw (by omega)).pw (by omega)
        have same : ∀ (f : Nat) (i : Int), 605 ≤ f → f ≠ 619 → f ≠ 625 → s'.1 f 0 i = r.1 f 0 i := by
          intro f i h1 h2 h3
          rcases hs' with rfl | rfl
          · exact zp_nn (by omega)
          · rw [zp_nn (by omega), zp_nn (by omega)]
        have s619 : s'.1 619 0 cnt = yBit T st k.toNat := by
          rcases hs' with rfl | rfl
          · exact zp_eq
          · rw [zp_nn (by omega)]
            exact zp_eq
        have hlow : ∀ (f : Nat) (i : Int), 605 ≤ f → f ≠ 619 → f ≠ 625 → f ≠ 624 → f ≠ 607 → f ≠ 630 → f ≠ 616 → f ≠ 615 → (mVal K k cnt pos (if T 458 (8 * st + k) = 110 then yBit T st k.toNat + T 459 (8 * st + k) else yBit T st k.toNat) ln v (T 458 (8 * st + k)) s').1 f 0 i = r.1 f 0 i := by
          intro f i h1 h2 h3 h4 h5 h6 h7 h8
          unfold mVal
          rw [zp_nn (by omega), zp_nn (by omega), zp_nn (by omega), zp_nn (by omega), zp_nn (by omega), zp_nn (by omega)]
          exact same f i h1 h2 h3
        refine good ln v _ e182 hpl ?_ ((hlow 620 0 (by decide) (by decide) (by decide) (by decide) (by decide) (by decide) (by decide) (by decide)).trans n2) ((hlow 621 K (by decide) (by decide) (by decide) (by decide) (by decide) (by decide) (by decide) (by decide)).trans n3) ((hlow 622 K (by decide) (by decide) (by decide) (by decide) (by decide) (by decide) (by decide) (by decide)).trans n4) ((hlow 623 K (by decide) (by decide) (by decide) (by decide) (by decide) (by decide) (by decide) (by decide)).trans n5) zp_eq ((hlow 629 K (by decide) (by decide) (by decide) (by decide) (by decide) (by decide) (by decide) (by decide)).trans n7) ?_ ?_ ((hlow 611 0 (by decide) (by decide) (by decide) (by decide) (by decide) (by decide) (by decide) (by decide)).trans m7) ((hlow 610 0 (by decide) (by decide) (by decide) (by decide) (by decide) (by decide) (by decide) (by decide)).trans m8) ((hlow 612 cnt (by decide) (by decide) (by decide) (by decide) (by decide) (by decide) (by decide) (by decide)).trans m1) ((hlow 613 cnt (by decide) (by decide) (by decide) (by decide) (by decide) (by decide) (by decide) (by decide)).trans m2) ((hlow 614 cnt (by decide) (by decide) (by decide) (by decide) (by decide) (by decide) (by decide) (by decide)).trans m3) ?_ ?_ ((hlow 617 cnt (by decide) (by decide) (by decide) (by decide) (by decide) (by decide) (by decide) (by decide)).trans m4) ((hlow 618 cnt (by decide) (by decide) (by decide) (by decide) (by decide) (by decide) (by decide) (by decide)).trans m5) (fun h => ?_) (fun i h1 h2 h3 => ?_) (fun _ => ?_)
        · unfold mVal
          exact ((((((K1.tr Ks (Int.le_refl _) (Int.le_refl _)).pw (by omega)).pw (by omega)).pw (by omega)).pw (by omega)).pw (by omega)).pw (by omega)
        · unfold mVal
          rw [zp_nn (by omega), zp_eq, bit']
          by_cases z : T 458 (8 * st + k) = 110
          · rw [if_pos z, if_pos z]
          · rw [if_neg z, if_neg z, q13 z]
            rfl
        · unfold mVal
          rw [zp_nn (by omega), zp_nn (by omega), zp_eq]
          by_cases z : T 458 (8 * st + k) = 110
          · have z5 := q5 z
            have z6 := w110 z
            rw [if_pos z]
            by_cases z2 : yBit T st k.toNat + T 459 (8 * st + k) < 8
            · rw [if_pos ⟨z, z2⟩, if_pos ⟨z, by omega⟩, Int.add_zero]
            · rw [if_neg (fun h => z2 h.2), if_neg (fun h => h.2 (by omega))]
          · rw [if_neg (fun h => z h.1), if_neg (fun h => z h.1)]
        · unfold mVal
          rw [zp_nn (by omega), zp_nn (by omega), zp_nn (by omega), zp_nn (by omega), zp_nn (by omega), zp_eq]
        · unfold mVal
          rw [zp_nn (by omega), zp_nn (by omega), zp_nn (by omega), zp_nn (by omega), zp_eq]
        · have z5 := q5 h
          unfold mVal
          rw [zp_nn (by omega), zp_nn (by omega), zp_nn (by omega), zp_nn (by omega), zp_nn (by omega), zp_nn (by omega), s619]
          omega
        · unfold mVal
          rw [zp_nn (by omega), zp_nn (by omega), zp_nn (by omega), zp_nn (by omega), zp_nn (by omega), zp_nn (by omega), same 630 _ (by decide) (by decide) (by decide)]
          exact nV i h1 h2 h3
        · unfold mVal
          rw [zp_nn (by omega), zp_nn (by omega), zp_nn (by omega), zp_eq]
end
