/-! the class's reader: a field whole -/
section
variable {r q b : Nat} {T : yT} {B : yB} {n dep : Int} {zrs : Nat → Int → Int → Int → Int → zS → zR} {rs : Int → Int → Int → Int → Int → Int → yO} {E : yE} {st k d me pos made cnt : Int} {s : zS}
def yResF (r : Nat) (cnt w0 : Int) (T : yT) (f fr k : Int) (o : yF) (v : Int) (t : zS) : Prop := match o with
  | .inl e => v = 0 ∧ t.1 325 r 0 = e.1 ∧ t.1 326 r 0 = e.2.1 ∧ t.1 324 r 0 = e.2.2 ∧ (0 ≤ t.1 323 r 0 ∧ t.1 323 r 0 ≤ 1000)
  | .inr x => v = 1 ∧ t.1 323 r 0 = x.2.1 ∧ t.1 324 r 0 = x.2.2.1 ∧ t.1 327 r 0 = w0 + x.2.2.2.1 ∧ yIn r cnt x.2.2.2.2 t ∧ t.1 328 r fr = x.1 328 k ∧ t.1 329 r fr = x.1 329 k ∧ (T 458 f ≠ 65 → t.1 330 r fr = x.1 330 k)
theorem z100 (R : yRd r q b T B n s) {f : Int} (hf : 0 ≤ f ∧ f < 48) : zf_100 q f s = zi (yKd (T 458 f)) s := by
  unfold zf_100 yKd
  rw [zn_ok (by omega), R.2.2.2.2.1 458 _ (by omega) (by omega)]
  split
  · rfl
  · split
    · rfl
    · split
      · rfl
      · split <;> rfl
/-- a field without structures, with its node -/
def yP61 (T : yT) (B : yB) (n : Int) (E : yE) (me f k pos made : Int) : yF := if 200 ≤ made then .inl (5, pos, made) else match yPl T B n (E 330) f pos with
    | .inl c => .inl (c, pos, made + 1)
    | .inr x => .inr (yeu E k pos x.1 x.2, if T 458 f = 110 ∧ T 460 f ≠ 0 then pos else pos + x.1, made + 1, 0, [yn (yKd (T 458 f)) (T 457 f) pos x.1 x.2 me f])
theorem yWF_bits (W : yWF T st k) (h1 : T 458 (8 * st + k) ≠ 65) (h2 : T 458 (8 * st + k) ≠ 91) (h3 : T 458 (8 * st + k) ≠ 110) (h4 : T 458 (8 * st + k) ≠ 115) (h5 : T 458 (8 * st + k) ≠ 122) : T 459 (8 * st + k) = 8 ∨ T 459 (8 * st + k) = 16 := by
  obtain ⟨w1, -, -, -, -, -, w7, w8, -⟩ := W
  omega
theorem C61_112 {f fr : Int} (hf : 0 ≤ f ∧ f < 48) (hr : 0 ≤ fr ∧ fr < 48) (hp : 0 ≤ pos ∧ pos ≤ 1000) (hc : 0 ≤ cnt ∧ cnt < 200) {ln x : Int} (hl : 0 ≤ ln ∧ ln ≤ 160) {t : zS} (R : yRd r q b T B n t) (h323 : t.1 323 r 0 = pos) (h199 : t.1 199 r 0 = cnt + 1) : zf_61_112 r f fr (yKd (T 458 f)) cnt 1 (zp 330 r fr x (zp 329 r fr ln t)) = zi 1 (zp 323 r 0 (if T 458 f = 110 ∧ T 460 f ≠ 0 then pos else pos + ln) (zp 196 r cnt x (zp 195 r cnt ln (zp 193 r cnt (T 457 f) (zp 330 r fr x (zp 329 r fr ln t)))))) := by
  have a1 : (zp 330 r fr x (zp 329 r fr ln t)).1 329 r fr = ln := by simp [zp_1]
  have a2 : (zp 330 r fr x (zp 329 r fr ln t)).1 330 r fr = x := by simp [zp_1]
  have a3 : (zp 330 r fr x (zp 329 r fr ln t)).1 323 r 0 = pos := by simpa [zp_1] using h323
  have a4 : (zp 330 r fr x (zp 329 r fr ln t)).1 199 r 0 = cnt + 1 := by simpa [zp_1] using h199
  have R2 := R.fr ((yfr.rf.pw (f := 329) (i := fr) (v := ln) (by omega)).pw (f := 330) (i := fr) (v := x) (by omega))
  generalize zp 330 r fr x (zp 329 r fr ln t) = u at a1 a2 a3 a4 R2
  unfold zf_61_112
  rw [if_neg (by decide), zO_ok R2.1 R2.2.1, zn_ok (by omega), zn_ok (by omega), zn_ok (by omega), R2.2.2.2.2.1 457 _ (by omega) (by omega), a1, a2, z29 (by omega) (by omega), zC_zi]
  have R3 := R2.fr (((yfr.rf.pw (f := 193) (i := cnt) (v := T 457 f) (by omega)).pw (f := 195) (i := cnt) (v := ln) (by omega)).pw (f := 196) (i := cnt) (v := x) (by omega))
  have b1 : (zp 196 r cnt x (zp 195 r cnt ln (zp 193 r cnt (T 457 f) u))).1 329 r fr = ln := by simpa [zp_1] using a1
  have b3 : (zp 196 r cnt x (zp 195 r cnt ln (zp 193 r cnt (T 457 f) u))).1 323 r 0 = pos := by simpa [zp_1] using a3
  generalize zp 196 r cnt x (zp 195 r cnt ln (zp 193 r cnt (T 457 f) u)) = w at b1 b3 R3
  rw [b1, b3]
  by_cases h110 : T 458 f = 110
  · have e : yKd (T 458 f) = 4 := by rw [h110]; rfl
    rw [e, if_pos rfl, zO_ok R3.1 R3.2.1, zn_ok (by omega), R3.2.2.2.2.1 460 _ (by omega) (by omega)]
    by_cases h0 : T 460 f = 0
    · rw [if_pos h0, zn_ok (by omega), zg_ok ⟨by omega, by omega⟩, zP_ok, if_neg (by omega)]
      rfl
    · rw [if_neg h0, zg_ok ⟨by omega, by omega⟩, zP_ok, if_pos ⟨h110, h0⟩, Int.add_zero]
      rfl
  · have e : yKd (T 458 f) ≠ 4 := by
      unfold yKd
      rw [if_neg h110]
      split
      · decide
      · split
        · decide
        · split <;> decide
    rw [if_neg e, zn_ok (by omega), zg_ok ⟨by omega, by omega⟩, zP_ok, if_neg (by omega)]
    rfl
theorem C61 (R : yRd r q b T B n s) (P : yPre r pos made cnt s) (W : yWF T st k) (hd : 0 ≤ d ∧ d ≤ 5) (hs : 0 ≤ st ∧ st ≤ 5) (hk : 0 ≤ k ∧ k ≤ 7) (hF : yFr r T E st k d s) (hE : yOkE E k) (h328 : s.1 328 r (8 * d + k) = pos) (ht : T 458 (8 * st + k) ≠ 65) (ht2 : T 458 (8 * st + k) ≠ 91) : zw (zf_61 r (8 * st + k) me (8 * d + k) s) fun v t => yKeep r cnt (8 * d + k) s t ∧ yResF r cnt (s.1 327 r 0) T (8 * st + k) (8 * d + k) k (yP61 T B n E me (8 * st + k) k pos made) v t := by
  obtain ⟨p1, p2, p3, p4, p5, p6, p7, p8, p9⟩ := id P
  have n8 := R.2.2.2.2.2.2.2.1
  unfold zf_61 yP61
  rw [zO_ok R.1 R.2.1, z100 R (by omega), zC_zi]
  by_cases hm : 200 ≤ made
  · rw [if_pos hm, z58_m p2 p1 hm, zC_zi, if_pos rfl]
    refine zw_z0 ⟨(yKeep.rf.pw (by omega)).pw (by omega), rfl, ?_, ?_, ?_, ?_⟩
    · rw [zp_nn (by omega), zp_eq]
    · rw [zp_eq]
    · rw [zp_nn (by omega), zp_nn (by omega)]
      exact p2
    · rw [zp_nn (by omega), zp_nn (by omega), p1]
      exact p4
  · rw [if_neg hm, z58 p2 p3 p1 p5 p6 (by omega), zC_zi, if_neg (by omega)]
    obtain ⟨g1, g2, g3, g4, g5, g6, g7, g8⟩ := yMk_get (r := r) (kd := yKd (T 458 (8 * st + k))) (f := 8 * st + k) (p := me) (pos := pos) (made := made) (cnt := cnt) (s := s)
    have K1 : yKeep r cnt (8 * d + k) s (yMk r (yKd (T 458 (8 * st + k))) (8 * st + k) me pos made cnt s) := yKeep.mk'
    have h3 : (yMk r (yKd (T 458 (8 * st + k))) (8 * st + k) me pos made cnt s).1 328 r (8 * d + k) = pos := by
      unfold yMk
      rw [zp_nn (by omega), zp_nn (by omega), zp_nn (by omega), zp_nn (by omega), zp_nn (by omega), zp_nn (by omega)]
      exact h328
    have hF1 : yFr r T E st k d (yMk r (yKd (T 458 (8 * st + k))) (8 * st + k) me pos made cnt s) := by
      intro i h1 h2
      have a := hF i h1 h2
      rw [K1.2.2 328 _ (by omega) (by omega) (by omega), K1.2.2 329 _ (by omega) (by omega) (by omega), K1.2.2 330 _ (by omega) (by omega) (by omega)]
      exact a
    generalize yMk r (yKd (T 458 (8 * st + k))) (8 * st + k) me pos made cnt s = t at g1 g2 g3 g4 g5 g6 g7 g8 K1 h3 hF1
    have R1 := R.fr K1.1
    have hp1 : t.1 323 r 0 = pos := g5.trans p1
    rw [zO_ok R1.1 R1.2.1, zn_ok (by omega), R1.2.2.2.2.1 458 _ (by omega) (by omega)]
    have hb := yPl_b (V := E 330) (B := B) W n8 R.2.2.2.2.2.2.2.2.2 p4.1
    have fin : ∀ F : zR, F = yMs r (8 * d + k) pos t (yPl T B n (E 330) (8 * st + k) pos) → zw (zC F fun v26 s25 => zf_61_112 r (8 * st + k) (8 * d + k) (yKd (T 458 (8 * st + k))) cnt v26 s25) fun v t => yKeep r cnt (8 * d + k) s t ∧ yResF r cnt (s.1 327 r 0) T (8 * st + k) (8 * d + k) k (match yPl T B n (E 330) (8 * st + k) pos with
    | .inl c => .inl (c, pos, made + 1)
    | .inr x => .inr (yeu E k pos x.1 x.2, if T 458 (8 * st + k) = 110 ∧ T 460 (8 * st + k) ≠ 0 then pos else pos + x.1, made + 1, 0, [yn (yKd (T 458 (8 * st + k))) (T 457 (8 * st + k)) pos x.1 x.2 me (8 * st + k)])) v t := by
      intro F e
      rw [e]
      revert hb
      cases yPl T B n (E 330) (8 * st + k) pos with
      | inl c =>
        intro _
        unfold yMs
        dsimp only
        rw [zC_zi]
        unfold zf_61_112
        rw [if_pos rfl]
        refine zw_z0 ⟨(K1.pw (by omega)).pw (by omega), rfl, ?_, ?_, ?_, ?_⟩
        · rw [zp_nn (by omega), zp_eq]
        · rw [zp_eq]
        · rw [zp_nn (by omega), zp_nn (by omega)]
          exact g6
        · rw [zp_nn (by omega), zp_nn (by omega), hp1]
          exact p4
      | inr x =>
        intro hb
        obtain ⟨ln, v⟩ := x
        dsimp only at hb
        unfold yMs
        dsimp only
        rw [zC_zi, C61_112 (by omega) (by omega) p4 (by omega) (by omega) R1 hp1 g7]
        have K2 := (K1.pw (f := 329) (i := 8 * d + k) (v := ln) (by omega)).pw (f := 330) (i := 8 * d + k) (v := v) (by omega)
        have K3 := ((K2.pw (f := 193) (i := cnt) (v := T 457 (8 * st + k)) (by omega)).pw (f := 195) (i := cnt) (v := ln) (by omega)).pw (f := 196) (i := cnt) (v := v) (by omega)
        have I : yIn r cnt [yn (yKd (T 458 (8 * st + k))) (T 457 (8 * st + k)) pos ln v me (8 * st + k)] (zp 196 r cnt v (zp 195 r cnt ln (zp 193 r cnt (T 457 (8 * st + k)) (zp 330 r (8 * d + k) v (zp 329 r (8 * d + k) ln t))))) := by
          refine yIn.tell ?_ ?_ ?_ ?_ (yIn.nil ?_)
          · rw [zp_nn (by omega), zp_nn (by omega)]
            exact g1
          · rw [zp_nn (by omega), zp_nn (by omega)]
            exact g2
          · rw [zp_nn (by omega), zp_nn (by omega)]
            exact g3
          · rw [zp_nn (by omega), zp_nn (by omega)]
            exact g4
          · rw [zp_nn (by omega), zp_nn (by omega)]
            exact g7
        refine zw_i ⟨K3.pw (by omega), rfl, zp_eq, ?_, ?_, ⟨?_, fun j x hx c h1 h2 => ?_⟩, ?_, ?_, fun _ => ?_⟩
        · rw [zp_nn (by omega), zp_nn (by omega), zp_nn (by omega), zp_nn (by omega), zp_nn (by omega), zp_nn (by omega)]
          exact g6
        · rw [zp_nn (by omega), zp_nn (by omega), zp_nn (by omega), zp_nn (by omega), zp_nn (by omega), zp_nn (by omega), g8]
          exact (Int.add_zero _).symm
        · rw [zp_nn (by omega)]
          exact I.1
        · rw [zp_nn (by omega)]
          exact I.2 j x hx c h1 h2
        · rw [zp_nn (by omega), zp_nn (by omega), zp_nn (by omega), zp_nn (by omega), zp_nn (by omega), zp_nn (by omega), h3]
          simp [yeu]
        · rw [zp_nn (by omega), zp_nn (by omega), zp_nn (by omega), zp_nn (by omega), zp_nn (by omega), zp_eq]
          simp [yeu]
        · rw [zp_nn (by omega), zp_nn (by omega), zp_nn (by omega), zp_nn (by omega), zp_eq]
          simp [yeu]
    by_cases h110 : T 458 (8 * st + k) = 110
    · rw [if_pos h110]
      exact fin _ (C63 R1 (by omega) (by omega) hp1 p4 h110 (by have := W.2.2.2.2.2.1 h110; omega))
    · rw [if_neg h110]
      by_cases h115 : T 458 (8 * st + k) = 115
      · rw [if_pos h115]
        exact fin _ (C64 R1 hd hs hk hF1 hE W hp1 p4 h115)
      · rw [if_neg h115]
        by_cases h122 : T 458 (8 * st + k) = 122
        · rw [if_pos h122]
          exact fin _ (C65 R1 (by omega) hp1 p4 h122)
        · rw [if_neg h122]
          exact fin _ (C62 R1 (by omega) (by omega) hp1 p4 h115 h122 h110 (yWF_bits W ht ht2 h110 h115 h122))
theorem yFd_eq {f : Int} : yFd rs T B n me f k E pos made cnt = if T 458 f = 65 then (match yNm rs T f me (T 464 f - T 463 f).toNat (T 463 f) pos made cnt with
    | .inl e => .inl e
    | .inr x => .inr (yeu E k pos (x.1 - pos) 0, x)) else if T 458 f = 91 then (match yA68 rs T B n (E 330) me f pos made cnt with
    | .inl e => .inl e
    | .inr x => .inr (yeu E k pos (x.2.1 - pos) x.1, x.2)) else yP61 T B n E me f k pos made := by
  unfold yFd yA68 yP61
  by_cases h1 : T 458 f = 65
  · rw [if_pos h1, if_pos h1]
    cases yNm rs T f me (T 464 f - T 463 f).toNat (T 463 f) pos made cnt <;> rfl
  · rw [if_neg h1, if_neg h1]
    by_cases h2 : T 458 f = 91
    · rw [if_pos h2, if_pos h2]
      by_cases h3 : 200 ≤ made
      · rw [if_pos h3, if_pos h3]
      · rw [if_neg h3, if_neg h3]
        split
        · rfl
        · unfold yAn
          cases yAr rs T B n (E 330) me f pos made cnt <;> rfl
    · rw [if_neg h2, if_neg h2]
      split
      · rfl
      · cases yPl T B n (E 330) f pos <;> rfl
theorem C60_92 {fr v : Int} {t : zS} (hr : 0 ≤ fr ∧ fr < 48) (h328 : t.1 328 r fr = pos) (hp : 0 ≤ pos ∧ pos ≤ 1000) (hv : v = 0 ∨ v = 1) (h323 : 0 ≤ t.1 323 r 0 ∧ t.1 323 r 0 ≤ 1000) : zf_60_92 zrs r fr v t = zi v (zp 329 r fr (t.1 323 r 0 - pos) t) := by
  unfold zf_60_92
  rw [zn_ok (by omega), h328, zg_ok ⟨by omega, by omega⟩, zW_ok (by omega)]
  exact if_pos hv
theorem C60 (hC : yRsC r q b T B n (d + 1) zrs rs) (hok : yRsOk T n rs) (hne : yRsNe rs) (R : yRd r q b T B n s) (P : yPre r pos made cnt s) (W : yWF T st k) (hd : 0 ≤ d ∧ d ≤ 5) (hs : 0 ≤ st ∧ st ≤ 5) (hk : 0 ≤ k ∧ k ≤ 7) (hF : yFr r T E st k d s) (hE : yOkE E k) : zw (zf_60 zrs r (8 * st + k) me d s) fun v t => yKeep r cnt (8 * d + k) s t ∧ yResF r cnt (s.1 327 r 0) T (8 * st + k) (8 * d + k) k (yFd rs T B n me (8 * st + k) k E pos made cnt) v t := by
  obtain ⟨p1, p2, p3, p4, p5, p6, p7, p8, p9⟩ := id P
  have n8 := R.2.2.2.2.2.2.2.1
  have K0 : yKeep r cnt (8 * d + k) s (zp 328 r (8 * d + k) pos s) := yKeep.rf.pw (by omega)
  have h3 : (zp 328 r (8 * d + k) pos s).1 328 r (8 * d + k) = pos := zp_eq
  have P0 : yPre r pos made cnt (zp 328 r (8 * d + k) pos s) := by
    refine ⟨?_, ?_, ?_, p4, p5, p6, p7, ?_, ?_⟩
    · rw [zp_nn (by omega)]
      exact p1
    · rw [zp_nn (by omega)]
      exact p2
    · rw [zp_nn (by omega)]
      exact p3
    · rw [zp_nn (by omega)]
      exact p8
    · rw [zp_nn (by omega)]
      exact p9
  have h7 : (zp 328 r (8 * d + k) pos s).1 327 r 0 = s.1 327 r 0 := zp_nn (by omega)
  have hF0 : yFr r T E st k d (zp 328 r (8 * d + k) pos s) := by
    intro i h1 h2
    rw [K0.2.2 328 _ (by omega) (by omega) (by omega), K0.2.2 329 _ (by omega) (by omega) (by omega), K0.2.2 330 _ (by omega) (by omega) (by omega)]
    exact hF i h1 h2
  have R0 := R.fr K0.1
  unfold zf_60
  rw [zg_ok ⟨by omega, by omega⟩, zrem8 (by omega), show (8 * st + k) % 8 = k by omega, show d * 8 + k = 8 * d + k by omega, zg_ok ⟨by omega, by omega⟩, zW_ok (by omega), p1]
  generalize zp 328 r (8 * d + k) pos s = t at K0 h3 P0 h7 hF0 R0
  rw [zO_ok R0.1 R0.2.1, zn_ok (by omega), R0.2.2.2.2.1 458 _ (by omega) (by omega), yFd_eq]
  have end92 : ∀ (o : yF) (v : Int) (u : zS), yKeep r cnt (8 * d + k) t u → u.1 328 r (8 * d + k) = pos → (v = 0 ∨ v = 1) → (0 ≤ u.1 323 r 0 ∧ u.1 323 r 0 ≤ 1000) → (yResF r cnt (t.1 327 r 0) T (8 * st + k) (8 * d + k) k o v (zp 329 r (8 * d + k) (u.1 323 r 0 - pos) u)) → zw (zf_60_92 zrs r (8 * d + k) v u) fun v t => yKeep r cnt (8 * d + k) s t ∧ yResF r cnt (s.1 327 r 0) T (8 * st + k) (8 * d + k) k o v t := by
    intro o v u Ku h328 hv h323 hr
    rw [C60_92 (by omega) h328 p4 hv h323, ← h7]
    exact zw_i ⟨K0.tr (Ku.pw (by omega)) (Int.le_refl _) (Int.le_refl _), hr⟩
  by_cases h65 : T 458 (8 * st + k) = 65
  · rw [if_pos h65, if_pos h65, zg_ok ⟨by omega, by omega⟩]
    have a := C66 hC hok R0 P0 W hs hk (ow := 8 * st + k) (pa := me) (Or.inr (by omega)) (Or.inl h65)
    have ok := yNm_okW (ow := 8 * st + k) (pa := me) hok W (Or.inl h65) pos made cnt p4.1 (by omega) p7
    refine zw_C' a fun v u hu => ?_
    have h328 : u.1 328 r (8 * d + k) = pos := by
      rw [hu.1.2.2 328 _ (by omega) (by omega) (by omega)]
      exact h3
    have Ku := hu.1.wk (Int.le_refl cnt) (show 8 * d + k ≤ 8 * (d + 1) by omega)
    have hr := hu.2
    revert hr ok
    cases yNm rs T (8 * st + k) me (T 464 (8 * st + k) - T 463 (8 * st + k)).toNat (T 463 (8 * st + k)) pos made cnt with
    | inl e =>
      intro ok hr
      refine end92 (.inl e) v u Ku h328 (Or.inl hr.1) hr.2.2.2.2 ⟨hr.1, ?_, ?_, ?_, ?_⟩
      · rw [zp_nn (by omega)]
        exact hr.2.1
      · rw [zp_nn (by omega)]
        exact hr.2.2.1
      · rw [zp_nn (by omega)]
        exact hr.2.2.2.1
      · rw [zp_nn (by omega)]
        exact hr.2.2.2.2
    | inr x =>
      intro ok hr
      obtain ⟨o1, o2, o3, o4, o5, o6⟩ := ok
      obtain ⟨g1, g2, g3, g4, g5⟩ := hr
      refine end92 (.inr (yeu E k pos (x.1 - pos) 0, x)) v u Ku h328 (Or.inr g1) (by rw [g2]; omega) ⟨g1, ?_, ?_, ?_, ⟨?_, fun j y hy c h1 h2 => ?_⟩, ?_, ?_, fun h => absurd h65 h⟩
      · rw [zp_nn (by omega)]
        exact g2
      · rw [zp_nn (by omega)]
        exact g3
      · rw [zp_nn (by omega)]
        exact g4
      · rw [zp_nn (by omega)]
        exact g5.1
      · rw [zp_nn (by omega)]
        exact g5.2 j y hy c h1 h2
      · rw [zp_nn (by omega), h328]
        simp [yeu]
      · rw [zp_eq, g2]
        simp [yeu]
  · rw [if_neg h65, if_neg h65]
    by_cases h91 : T 458 (8 * st + k) = 91
    · rw [if_pos h91, if_pos h91]
      have a := C68 (me := me) hC hok hne R0 P0 W hd hs hk hF0 hE h91
      have ok : ∀ x, yA68 rs T B n (E 330) me (8 * st + k) pos made cnt = .inr x → 0 ≤ x.2.1 ∧ x.2.1 ≤ 1000 := by
        intro x hx
        unfold yA68 at hx
        by_cases h1 : 200 ≤ made
        · rw [if_pos h1] at hx
          cases hx
        · rw [if_neg h1] at hx
          by_cases h2 : T 465 (8 * st + k) = 43 ∧ (yCn T (E 330) (8 * st + k) < 0 ∨ 20 < yCn T (E 330) (8 * st + k))
          · rw [if_pos h2] at hx
            cases hx
          · rw [if_neg h2] at hx
            have okA := yAr_ok (me := me) (cnt := cnt) (B := B) (V := E 330) hok W h91 (by omega) p4.1 (by omega) (by omega : made < 200)
            revert okA hx
            cases yAr rs T B n (E 330) me (8 * st + k) pos made cnt with
            | inl e =>
              intro hx
              cases hx
            | inr y =>
              intro hx okA
              cases hx
              have o1 := okA.1
              have o2 := okA.2.1
              dsimp only
              omega
      refine zw_C' a fun v u hu => ?_
      have h328 : u.1 328 r (8 * d + k) = pos := hu.2.1.trans h3
      have hr := hu.2.2
      have Ku := hu.1
      revert hr ok
      cases yA68 rs T B n (E 330) me (8 * st + k) pos made cnt with
      | inl e =>
        intro ok hr
        refine end92 (.inl e) v u Ku h328 (Or.inl hr.1) hr.2.2.2.2 ⟨hr.1, ?_, ?_, ?_, ?_⟩
        · rw [zp_nn (by omega)]
          exact hr.2.1
        · rw [zp_nn (by omega)]
          exact hr.2.2.1
        · rw [zp_nn (by omega)]
          exact hr.2.2.2.1
        · rw [zp_nn (by omega)]
          exact hr.2.2.2.2
      | inr x =>
        intro ok hr
        have ok := ok x rfl
        obtain ⟨g1, g2, g3, g4, g5, g6⟩ := hr
        refine end92 (.inr (yeu E k pos (x.2.1 - pos) x.1, x.2)) v u Ku h328 (Or.inr g1) (by rw [g2]; exact ok) ⟨g1, ?_, ?_, ?_, ⟨?_, fun j y hy c h1 h2 => ?_⟩, ?_, ?_, fun h => ?_⟩
        · rw [zp_nn (by omega)]
          exact g2
        · rw [zp_nn (by omega)]
          exact g3
        · rw [zp_nn (by omega)]
          exact g4
        · rw [zp_nn (by omega)]
          exact g5.1
        · rw [zp_nn (by omega)]
          exact g5.2 j y hy c h1 h2
        · rw [zp_nn (by omega), h328]
          simp [yeu]
        · rw [zp_eq, g2]
          simp [yeu]
        · rw [zp_nn (by omega), g6]
          simp [yeu]
    · rw [if_neg h91, if_neg h91]
      have a := C61 (me := me) R0 P0 W hd hs hk hF0 hE h3 h65 h91
      refine zw_C' a fun v u hu => ?_
      have hv : v = 0 ∨ v = 1 := by
        have hr := hu.2
        revert hr
        cases yP61 T B n E me (8 * st + k) k pos made with
        | inl e => exact fun hr => Or.inl hr.1
        | inr x => exact fun hr => Or.inr hr.1
      rw [← h7]
      exact zw_z hv ⟨K0.tr hu.1 (Int.le_refl _) (Int.le_refl _), hu.2⟩
end
