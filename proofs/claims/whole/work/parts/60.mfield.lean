/-! the reference's machine: a field, whatever it is -/
section
variable {t n : Int} {T : yT} {B : yB} {E : yE} {K J A pos made cnt st k me dd g nd pa way due j ln v bt : Int} {s u w : zS}
theorem M178_st : mKeep (A + 1) cnt s (zp 629 0 (A + 1) (dd + 1) (zp 628 0 (A + 1) cnt (zp 627 0 (A + 1) (s.1 588 0 g) (mPu 1 g nd pos (A + 1) s)))) ∧ mTF (A + 1) g nd cnt pos (s.1 588 0 g) (dd + 1) (zp 629 0 (A + 1) (dd + 1) (zp 628 0 (A + 1) cnt (zp 627 0 (A + 1) (s.1 588 0 g) (mPu 1 g nd pos (A + 1) s)))) ∧ (∀ (f : Nat) (i : Int), f < 620 → (zp 629 0 (A + 1) (dd + 1) (zp 628 0 (A + 1) cnt (zp 627 0 (A + 1) (s.1 588 0 g) (mPu 1 g nd pos (A + 1) s)))).1 f 0 i = s.1 f 0 i) := by
  obtain ⟨u1, u2, u3, u4, u5, u6, u7⟩ := mPu_get (what := 1) (st := g) (nd := nd) (pos := pos) (K := A + 1) (s := s)
  refine ⟨(((mKeep.pu (cnt := cnt)).pw (by omega)).pw (by omega)).pw (by omega), ⟨?_, ?_, ?_, ?_, ?_, ?_, ?_, zp_eq⟩, fun f i h => ?_⟩
  · rw [zp_nn (by omega), zp_nn (by omega), zp_nn (by omega)]
    exact u1
  · rw [zp_nn (by omega), zp_nn (by omega), zp_nn (by omega)]
    exact u2
  · rw [zp_nn (by omega), zp_nn (by omega), zp_nn (by omega)]
    exact u3
  · rw [zp_nn (by omega), zp_nn (by omega), zp_nn (by omega)]
    exact u4
  · rw [zp_nn (by omega), zp_nn (by omega), zp_eq]
  · rw [zp_nn (by omega), zp_eq]
  · rw [zp_nn (by omega), zp_nn (by omega), zp_nn (by omega)]
    exact u7
  · rw [zp_nn (by omega), zp_nn (by omega), zp_nn (by omega), mPu_lo h]
theorem M182_N (R : mRel t T s) (hst : 0 ≤ st ∧ st < T 449 0) (h6 : T 449 0 ≤ 6) (hk : 0 ≤ k ∧ k < T 453 st) (h8 : T 453 st ≤ 8) (F : mFF T K st me k dd s) (hK : 0 ≤ K ∧ K < 50) (hnm : 0 ≤ T 457 (8 * st + k) ∧ T 457 (8 * st + k) ≤ 25) (ht : T 458 (8 * st + k) = 65 ∨ T 458 (8 * st + k) = 91) (hway : T 458 (8 * st + k) = 91 → T 465 (8 * st + k) = 42 ∨ T 465 (8 * st + k) = 33 ∨ T 465 (8 * st + k) = 63 ∨ T 465 (8 * st + k) = 43) : zf_182 0 t s = if T 458 (8 * st + k) = 65 then zC (zf_178 0 (48 * t + (8 * st + k)) me dd s) (fun _ s18 => zi 0 s18) else zC (zf_174 0 1 (T 457 (8 * st + k)) me (48 * t + (8 * st + k)) s) (fun v s2 => if v = 0 then zi 0 s2 else zC (zf_183 0 t (48 * t + (8 * st + k)) K s2) fun _ s5 => zi 0 s5) := by
  obtain ⟨r1, r2, r3⟩ := R
  obtain ⟨q1, q2, q3, q4⟩ := r3 st hst.1 hst.2
  have qf := q4 k hk.1 hk.2
  have g1 := qf.1
  have g3 := qf.2.1 ht
  have g4 := qf.2.2.2.1
  clear qf q4 r3
  obtain ⟨f1, f2, f3, f4, f5, f6, f7⟩ := F
  unfold zf_182
  rw [f1, show K + 1 - 1 = K by omega, f3, f5, f4, f6, q1, zg_ok ⟨by omega, by omega⟩, zn_ok (by omega), zn_ok (by omega), zg_ok ⟨by omega, by omega⟩, zg_ok ⟨by omega, by omega⟩, zn_ok (by omega), if_neg (by omega), zn_ok (by omega), zg_ok ⟨by omega, by omega⟩, show 8 * (6 * t + st) + k = 48 * t + (8 * st + k) by omega, zg_ok ⟨by omega, by omega⟩, zn_ok (by omega), zn_ok (by omega), g3, g1, if_pos rfl, zn_ok (by omega), g4, show T 457 (8 * st + k) + 97 - 97 = T 457 (8 * st + k) by omega]
  by_cases h65 : T 458 (8 * st + k) = 65
  · rw [if_pos h65, if_neg (show ¬ T 458 (8 * st + k) = 91 by omega), if_pos rfl, zn_ok (by omega), zn_ok (by omega)]
  · have h91 : T 458 (8 * st + k) = 91 := by omega
    have hw := hway h91
    rw [if_neg h65, if_pos h91, if_neg (show ¬ (if T 465 (8 * st + k) = 43 then 115 else T 465 (8 * st + k)) = 0 by split <;> omega), zn_ok (by omega), zg_ok ⟨by omega, by omega⟩]
/-- an array begins -/
theorem M183 (W : yWT T) (hst : 0 ≤ st ∧ st < T 449 0) (hk : 0 ≤ k ∧ k < T 453 st) (R : mRd t T B n s) (hV : mKn T (E 330) st k K s) (hE : yOkE E k) (hN : mOkN T E st k) (h91 : T 458 (8 * st + k) = 91) (hK : 0 ≤ K ∧ K < 50) (h620 : s.1 620 0 0 = K + 1) (h622 : s.1 622 0 K = st) (h629 : s.1 629 0 K = dd) (hp : s.1 607 0 0 = pos) (hp0 : 0 ≤ pos ∧ pos ≤ 1000) (hc : s.1 610 0 0 = cnt + 1) (hc0 : 0 ≤ cnt ∧ cnt ≤ 199) : (T 465 (8 * st + k) = 43 ∧ (yCn T (E 330) (8 * st + k) < 0 ∨ 20 < yCn T (E 330) (8 * st + k)) → ∃ s', m6 s s' ∧ ∀ w, zf_177 0 3 pos s' = zi 0 w → zf_183 0 t (48 * t + (8 * st + k)) K s = zi 0 w) ∧ (¬ (T 465 (8 * st + k) = 43 ∧ (yCn T (E 330) (8 * st + k) < 0 ∨ 20 < yCn T (E 330) (8 * st + k))) → ∃ s', m6 s s' ∧ zf_183 0 t (48 * t + (8 * st + k)) K s = zi 0 (zp 629 0 (K + 1) dd (zp 628 0 (K + 1) (if T 465 (8 * st + k) = 33 then T 466 (8 * st + k) else yCn T (E 330) (8 * st + k)) (mPu 2 (48 * t + (8 * st + k)) cnt pos (K + 1) s')))) := by
  obtain ⟨c1, c2, c3⟩ := W.2.2 st hst.1 hst.2
  have h6 := W.2.1
  have Wk := c3 k hk.1 hk.2
  have hway := Wk.2.2.2.1 h91
  obtain ⟨r1, r2, r3⟩ := id R.1
  have qf := (r3 st hst.1 hst.2).2.2.2 k hk.1 hk.2
  have g4 := qf.2.2.2.1
  rw [if_pos h91] at g4
  have e93 : ∀ (x : Int) (s' : zS), m6 s s' → (x = if T 465 (8 * st + k) = 33 then T 466 (8 * st + k) else if T 465 (8 * st + k) = 63 then yReckon T (E 330) (8 * st + k) else yCn T (E 330) (8 * st + k)) → zf_183_93 0 (48 * t + (8 * st + k)) K (if T 465 (8 * st + k) = 43 then 115 else T 465 (8 * st + k)) x s' = zi 0 (zp 629 0 (K + 1) dd (zp 628 0 (K + 1) (if T 465 (8 * st + k) = 33 then T 466 (8 * st + k) else yCn T (E 330) (8 * st + k)) (mPu 2 (48 * t + (8 * st + k)) cnt pos (K + 1) s'))) := by
    intro x s' L6 hx
    have L : ∀ (f : Nat) (i : Int), 607 ≤ f → s'.1 f 0 i = s.1 f 0 i := fun f i h => L6.1 f 0 i (by omega)
    have e133 : ∀ y : Int, zf_183_133 0 K 0 (K + 1) y (mPu 2 (48 * t + (8 * st + k)) cnt pos (K + 1) s') = zi 0 (zp 629 0 (K + 1) dd (zp 628 0 (K + 1) y (mPu 2 (48 * t + (8 * st + k)) cnt pos (K + 1) s'))) := by
      intro y
      obtain ⟨u1, u2, u3, u4, u5, u6, u7⟩ := mPu_get (what := 2) (st := 48 * t + (8 * st + k)) (nd := cnt) (pos := pos) (K := K + 1) (s := s')
      have u8 : (mPu 2 (48 * t + (8 * st + k)) cnt pos (K + 1) s').1 629 0 K = dd := by
        unfold mPu
        rw [zp_nn (by omega), zp_nn (by omega), zp_nn (by omega), zp_nn (by omega), zp_nn (by omega), zp_nn (by omega), zp_nn (by omega), L 629 K (by decide)]
        exact h629
      unfold zf_183_133
      rw [zW_ok (by omega), zn_ok (by omega), show (zp 628 0 (K + 1) y (mPu 2 (48 * t + (8 * st + k)) cnt pos (K + 1) s')).1 620 0 0 = K + 1 + 1 from (zp_nn (by omega)).trans u1, zg_ok ⟨by omega, by omega⟩, show K + 1 + 1 - 1 = K + 1 by omega, show (zp 628 0 (K + 1) y (mPu 2 (48 * t + (8 * st + k)) cnt pos (K + 1) s')).1 629 0 K = dd from (zp_nn (by omega)).trans u8, zW_ok (by omega)]
    unfold zf_183_93
    rw [(L 610 0 (by decide)).trans hc, zg_ok ⟨by omega, by omega⟩, show cnt + 1 - 1 = cnt by omega, M175 (K := K + 1) (pos := pos) ((L 620 0 (by decide)).trans h620) ((L 607 0 (by decide)).trans hp) (by omega), zC_zi, (mPu_get (what := 2) (st := 48 * t + (8 * st + k)) (nd := cnt) (pos := pos) (K := K + 1) (s := s')).1, zg_ok ⟨by omega, by omega⟩, show K + 1 + 1 - 1 = K + 1 by omega, e133, e133]
    by_cases h43 : T 465 (8 * st + k) = 43
    · have hx2 : x = yCn T (E 330) (8 * st + k) := by rw [hx, if_neg (by omega), if_neg (by omega)]
      rw [if_pos h43, if_neg (by decide), hx2, if_neg (show ¬ T 465 (8 * st + k) = 33 by omega)]
    · rw [if_neg h43]
      by_cases h63 : T 465 (8 * st + k) = 63
      · have hx2 : x = yReckon T (E 330) (8 * st + k) := by rw [hx, if_neg (by omega), if_pos h63]
        rw [if_pos h63, hx2, if_neg (show ¬ T 465 (8 * st + k) = 33 by omega)]
        unfold yCn
        rw [if_neg h43, if_pos h63]
        by_cases h0 : yReckon T (E 330) (8 * st + k) = 0
        · rw [if_pos h0, if_pos h0, h0]
        · rw [if_neg h0, if_neg h0, zg_ok ⟨by omega, by omega⟩]
      · rw [if_neg h63, hx, if_neg h63]
  have sum : T 465 (8 * st + k) = 43 ∨ T 465 (8 * st + k) = 63 → ∃ s', m6 s s' ∧ zf_173 0 t (s.1 591 0 (48 * t + (8 * st + k))) K s = zi (yReckon T (E 330) (8 * st + k)) s' := by
    intro hw
    obtain ⟨s1, s2, s3⟩ := qf.2.2.2.2.2.2.2.2.2.1 ⟨h91, hw⟩
    have hsums := Wk.2.2.2.2.1 (Or.inr ⟨h91, by omega⟩)
    have hp588 : s.1 591 0 (48 * t + (8 * st + k)) ≤ 200 := by
      obtain ⟨-, p', hterm, -⟩ := s3
      by_cases z : s.1 591 0 (48 * t + (8 * st + k)) < 200
      · omega
      · exfalso
        have x0 : mX t s (s.1 591 0 (48 * t + (8 * st + k))) = 0 := by unfold mX; rw [if_neg z]
        rcases hterm with ⟨hd, -⟩ | ⟨-, h0, hlt, hnum, hx, -⟩
        · unfold mDig at hd
          rw [x0] at hd
          omega
        · rw [x0] at hx
          have := (W.2.2 st hst.1 hst.2).2.2 (-1 - T 454 (T 461 (8 * st + k))) (by omega) (by omega)
          have := this.2.1
          omega
    obtain ⟨v, r1', hrun, L6, hv⟩ := M173 (V := E 330) (m := (T 462 (8 * st + k) - T 461 (8 * st + k) - 1).toNat) (p := s.1 591 0 (48 * t + (8 * st + k))) R.1 W hst (by omega) (by omega) h622 R.2.1 hV (fun i h1 h2 => by
      by_cases hz : mNumr (T 458 (8 * st + i))
      · exact Or.inl ⟨hN i h1 h2 hz, (hE i h1 h2).2⟩
      · exact Or.inr hz) (fun i h1 h2 => by have := hE i h1 h2; omega) ⟨s1, hp588⟩ (by omega) s3
    have hv2 : v = yReckon T (E 330) (8 * st + k) := by
      rw [hv]
      unfold yReckon
      rw [show (T 462 (8 * st + k) - T 461 (8 * st + k) - 1).toNat + 1 = (T 462 (8 * st + k) - T 461 (8 * st + k)).toNat by omega]
    rw [← hv2]
    exact ⟨r1', L6, hrun⟩
  have num := qf.2.2.2.2.2.2.2.2.2.2.1
  clear qf r3 c3 Wk
  unfold zf_183
  rw [zn_ok (by omega), g4]
  by_cases h33 : T 465 (8 * st + k) = 33
  · refine ⟨fun h => absurd h.1 (by omega), fun _ => ?_⟩
    obtain ⟨n1, n2⟩ := num ⟨h91, h33⟩
    have h115 : (if T 465 (8 * st + k) = 43 then 115 else T 465 (8 * st + k)) = 33 := by rw [if_neg (by omega)]; exact h33
    rw [h115] at e93 ⊢
    have K0 : m6 s (zp 604 0 0 200 (zp 605 0 0 (s.1 591 0 (48 * t + (8 * st + k))) s)) := (m6.rf.pw (by omega)).pw (by omega)
    have hA : mAt t (s.1 591 0 (48 * t + (8 * st + k))) (zp 604 0 0 200 (zp 605 0 0 (s.1 591 0 (48 * t + (8 * st + k))) s)) := ⟨R.1.1, (K0.1 603 0 0 (by omega)).trans R.2.1, zp_eq, (zp_nn (by omega)).trans zp_eq, n1.1, by omega⟩
    obtain ⟨v, s', hrun, L6, hv, -⟩ := M161_4 3 xfu 0 _ _ (xfu_big (by decide)) (Nat.le_refl _) hA (by omega) (by decide)
    have eX : mX t (zp 604 0 0 200 (zp 605 0 0 (s.1 591 0 (48 * t + (8 * st + k))) s)) = mX t s := funext fun p => mX_fr K0.fr
    rw [eX, n2] at hv
    have hrun : zf_161 0 (zp 604 0 0 200 (zp 605 0 0 (s.1 591 0 (48 * t + (8 * st + k))) s)) = zi v s' := hrun
    refine ⟨s', K0.tr L6, ?_⟩
    rw [if_pos rfl, zn_ok (by omega), zP_ok, zP_ok, hrun, zC_zi]
    unfold zf_183_65
    rw [if_neg (by decide)]
    exact e93 v s' (K0.tr L6) (by rw [if_pos h33]; exact hv)
  · rw [if_neg (show ¬ (if T 465 (8 * st + k) = 43 then 115 else T 465 (8 * st + k)) = 33 by split <;> omega)]
    by_cases h42 : T 465 (8 * st + k) = 42
    · refine ⟨fun h => absurd h.1 (by omega), fun _ => ⟨s, m6.rf, ?_⟩⟩
      rw [if_pos (show (if T 465 (8 * st + k) = 43 then 115 else T 465 (8 * st + k)) = 42 by rw [if_neg (by omega)]; exact h42)]
      unfold zf_183_65
      rw [if_neg (show ¬ (if T 465 (8 * st + k) = 43 then 115 else T 465 (8 * st + k)) = 115 by split <;> omega)]
      refine e93 0 s m6.rf ?_
      rw [if_neg h33, if_neg (by omega)]
      unfold yCn
      rw [if_neg (by omega), if_neg (by omega)]
    · rw [if_neg (show ¬ (if T 465 (8 * st + k) = 43 then 115 else T 465 (8 * st + k)) = 42 by split <;> omega), zn_ok (by omega)]
      obtain ⟨s', L6, hrun⟩ := sum (by omega)
      have L : ∀ (f : Nat) (i : Int), 607 ≤ f → s'.1 f 0 i = s.1 f 0 i := fun f i h => L6.1 f 0 i (by omega)
      rw [hrun, zC_zi]
      unfold zf_183_65
      by_cases h43 : T 465 (8 * st + k) = 43
      · have ec : yCn T (E 330) (8 * st + k) = yReckon T (E 330) (8 * st + k) := by
          unfold yCn
          rw [if_pos h43]
        have e93' := e93 (yReckon T (E 330) (8 * st + k)) s' L6 (by rw [if_neg h33, if_neg (by omega), ec])
        rw [if_pos h43] at e93' ⊢
        rw [if_pos rfl, z146, zC_zi]
        constructor
        · intro h
          rw [ec] at h
          refine ⟨s', L6, fun w hw => ?_⟩
          rw [if_neg (show ¬ (0 ≤ yReckon T (E 330) (8 * st + k) ∧ yReckon T (E 330) (8 * st + k) ≤ 20) by omega), if_pos rfl, (L 607 0 (by decide)).trans hp, hw, zC_zi]
        · intro h
          rw [ec] at h
          refine ⟨s', L6, ?_⟩
          rw [if_pos (show 0 ≤ yReckon T (E 330) (8 * st + k) ∧ yReckon T (E 330) (8 * st + k) ≤ 20 by omega), if_neg (by decide)]
          exact e93'
      · refine ⟨fun h => absurd h.1 h43, fun _ => ⟨s', L6, ?_⟩⟩
        rw [if_neg (show ¬ (if T 465 (8 * st + k) = 43 then 115 else T 465 (8 * st + k)) = 115 by split <;> omega)]
        exact e93 _ s' L6 (by rw [if_neg h33, if_pos (by omega)])
end
