/-! the class's reader: a field -/
section
variable {r q b : Nat} {T : yT} {B : yB} {n dep : Int} {zrs : Nat → Int → Int → Int → Int → zS → zR} {rs : Int → Int → Int → Int → Int → Int → yO} {E : yE} {st k d me pos made cnt : Int} {s : zS}
theorem yMk_get {kd f p : Int} : (yMk r kd f p pos made cnt s).1 192 r cnt = kd ∧ (yMk r kd f p pos made cnt s).1 198 r cnt = f ∧ (yMk r kd f p pos made cnt s).1 194 r cnt = pos ∧ (yMk r kd f p pos made cnt s).1 197 r cnt = p ∧ (yMk r kd f p pos made cnt s).1 323 r 0 = s.1 323 r 0 ∧ (yMk r kd f p pos made cnt s).1 324 r 0 = made + 1 ∧ (yMk r kd f p pos made cnt s).1 199 r 0 = cnt + 1 ∧ (yMk r kd f p pos made cnt s).1 327 r 0 = s.1 327 r 0 := by
  unfold yMk
  refine ⟨?_, ?_, ?_, ?_, ?_, ?_, ?_, ?_⟩ <;> simp [zp_1]
/-- a node is told, with those behind it -/
theorem yIn.tell {kd nm ln v p f : Int} {l : List yN} {t : zS} (h192 : t.1 192 r cnt = kd) (h198 : t.1 198 r cnt = f) (h194 : t.1 194 r cnt = pos) (h197 : t.1 197 r cnt = p) (h : yIn r (cnt + 1) l t) : yIn r cnt (yn kd nm pos ln v p f :: l) (zp 196 r cnt v (zp 195 r cnt ln (zp 193 r cnt nm t))) := by
  refine ⟨?_, fun j x hx c h1 h2 => ?_⟩
  · rw [zp_nn (by omega), zp_nn (by omega), zp_nn (by omega), h.1, List.length_cons]
    omega
  · cases j with
    | zero =>
      simp only [List.getElem?_cons_zero, Option.some.injEq] at hx
      subst hx
      have e : cnt + ((0 : Nat) : Int) = cnt := by omega
      rw [e]
      have c7 : c = 192 ∨ c = 193 ∨ c = 194 ∨ c = 195 ∨ c = 196 ∨ c = 197 ∨ c = 198 := by omega
      rcases c7 with rfl | rfl | rfl | rfl | rfl | rfl | rfl <;> simp [zp_1, yn, h192, h194, h197, h198]
    | succ j =>
      rw [List.getElem?_cons_succ] at hx
      have e : cnt + ((j + 1 : Nat) : Int) = cnt + 1 + (j : Int) := by omega
      rw [e, zp_nn (by omega), zp_nn (by omega), zp_nn (by omega)]
      exact h.2 j x hx c h1 h2
def yRes68 (r : Nat) (cnt w0 fr : Int) (o : yA) (v : Int) (t : zS) : Prop := match o with
  | .inl e => v = 0 ∧ t.1 325 r 0 = e.1 ∧ t.1 326 r 0 = e.2.1 ∧ t.1 324 r 0 = e.2.2 ∧ (0 ≤ t.1 323 r 0 ∧ t.1 323 r 0 ≤ 1000)
  | .inr x => v = 1 ∧ t.1 323 r 0 = x.2.1 ∧ t.1 324 r 0 = x.2.2.1 ∧ t.1 327 r 0 = w0 + x.2.2.2.1 ∧ yIn r cnt x.2.2.2.2 t ∧ t.1 330 r fr = x.1
def yAn (T : yT) (f pos me : Int) (o : yA) : yA := match o with
  | .inl e => .inl e
  | .inr x => .inr (x.1, x.2.1, x.2.2.1, x.2.2.2.1, yn 1 (T 457 f) pos (x.2.1 - pos) x.1 me f :: x.2.2.2.2)
/-- an array with its own node -/
def yA68 (rs : Int → Int → Int → Int → Int → Int → yO) (T : yT) (B : yB) (n : Int) (V : Int → Int) (me f pos made cnt : Int) : yA := if 200 ≤ made then .inl (5, pos, made) else if T 465 f = 43 ∧ (yCn T V f < 0 ∨ 20 < yCn T V f) then .inl (3, pos, made + 1) else yAn T f pos me (yAr rs T B n V me f pos made cnt)
theorem C68_166 {f : Int} (hf : 0 ≤ f ∧ f < 48) (hd : 0 ≤ d ∧ d ≤ 5) (hk : 0 ≤ f % 8) (hp : 0 ≤ pos ∧ pos ≤ 1000) (hc : 0 ≤ cnt ∧ cnt < 200) {w0 : Int} {t : zS} {o : yA} {v : Int} (R : yRd r q b T B n t) (K : yKeep r cnt (8 * d + f % 8) s t) (h328 : t.1 328 r (8 * d + f % 8) = s.1 328 r (8 * d + f % 8)) (g1 : t.1 192 r cnt = 1) (g2 : t.1 198 r cnt = f) (g3 : t.1 194 r cnt = pos) (g4 : t.1 197 r cnt = me) (hr : yResA r (cnt + 1) w0 o v t) (hrng : ∀ x, o = .inr x → 0 ≤ x.2.1 ∧ x.2.1 ≤ 1000 ∧ 0 ≤ x.1 ∧ x.1 ≤ 200 ∧ cnt + 1 + x.2.2.2.2.length ≤ 200) : zw (zf_68_166 zrs r f pos (8 * d) cnt v t) fun v u => yKeep r cnt (8 * d + f % 8) s u ∧ u.1 328 r (8 * d + f % 8) = s.1 328 r (8 * d + f % 8) ∧ yRes68 r cnt w0 (8 * d + f % 8) (yAn T f pos me o) v u := by
  unfold zf_68_166
  have h323 : 0 ≤ t.1 323 r 0 ∧ t.1 323 r 0 ≤ 1000 := by
    cases o with
    | inl e => exact hr.2.2.2.2
    | inr x =>
      have a := hrng x rfl
      have b := hr.2.1
      omega
  rw [zO_ok R.1 R.2.1, zn_ok (by omega), zg_ok ⟨by omega, by omega⟩, R.2.2.2.2.1 457 _ (by omega) (by omega), z29' (by omega), zC_zi, zrem8 (by omega), zg_ok ⟨by omega, by omega⟩, zW_ok (by omega)]
  cases o with
  | inl e =>
    obtain ⟨rfl, h5, h6, h7, h8⟩ := hr
    rw [if_pos rfl]
    have K2 : yKeep r cnt (8 * d + f % 8) s (if cnt < t.1 199 r 0 then zp 196 r cnt (-1) (zp 195 r cnt (t.1 323 r 0 - pos) (zp 193 r cnt (T 457 f) t)) else t) := by
      split
      · exact ((K.pw (by omega)).pw (by omega)).pw (by omega)
      · exact K
    have key : ∀ c : Nat, 323 ≤ c → c < 331 → ∀ i, (if cnt < t.1 199 r 0 then zp 196 r cnt (-1) (zp 195 r cnt (t.1 323 r 0 - pos) (zp 193 r cnt (T 457 f) t)) else t).1 c r i = t.1 c r i := by
      intro c h1 h2 i
      split
      · rw [zp_nn (by omega), zp_nn (by omega), zp_nn (by omega)]
      · rfl
    generalize (if cnt < t.1 199 r 0 then zp 196 r cnt (-1) (zp 195 r cnt (t.1 323 r 0 - pos) (zp 193 r cnt (T 457 f) t)) else t) = u at K2 key
    refine zw_z0 ⟨K2.pw (by omega), ?_, rfl, ?_, ?_, ?_, ?_⟩
    · rw [zp_nn (by omega), key 328 (by omega) (by omega)]
      exact h328
    · rw [zp_nn (by omega), key 325 (by omega) (by omega)]
      exact h5
    · rw [zp_nn (by omega), key 326 (by omega) (by omega)]
      exact h6
    · rw [zp_nn (by omega), key 324 (by omega) (by omega)]
      exact h7
    · rw [zp_nn (by omega), key 323 (by omega) (by omega)]
      exact h8
  | inr x =>
    obtain ⟨k2, p2, m2, w2, l2⟩ := x
    obtain ⟨a0, a1, a2, a3, a4⟩ := hr
    have a0 : v = k2 := a0
    subst a0
    have hx := hrng _ rfl
    dsimp only at a1 a2 a3 a4 hx ⊢
    have ha4 := a4.1
    rw [if_pos (show cnt < t.1 199 r 0 by omega), if_neg (by omega), a1]
    have I := yIn.tell (nm := T 457 f) (ln := p2 - pos) (v := v) g1 g2 g3 g4 a4
    have K2 := ((K.pw (f := 193) (i := cnt) (v := T 457 f) (by omega)).pw (f := 195) (i := cnt) (v := p2 - pos) (by omega)).pw (f := 196) (i := cnt) (v := v) (by omega)
    refine zw_z1 ⟨K2.pw (by omega), ?_, rfl, ?_, ?_, ?_, ⟨?_, fun j x hx c h1 h2 => ?_⟩, zp_eq⟩
    · rw [zp_nn (by omega), zp_nn (by omega), zp_nn (by omega), zp_nn (by omega)]
      exact h328
    · rw [zp_nn (by omega), zp_nn (by omega), zp_nn (by omega), zp_nn (by omega)]
      exact a1
    · rw [zp_nn (by omega), zp_nn (by omega), zp_nn (by omega), zp_nn (by omega)]
      exact a2
    · rw [zp_nn (by omega), zp_nn (by omega), zp_nn (by omega), zp_nn (by omega)]
      exact a3
    · rw [zp_nn (by omega)]
      exact I.1
    · rw [zp_nn (by omega)]
      exact I.2 j x hx c h1 h2
def yRsNe (rs : Int → Int → Int → Int → Int → Int → yO) : Prop := ∀ s ow pa, yNmNe (rs s ow pa)
theorem yNm_ne (h : yRsNe rs) {ow pa : Int} : ∀ (m : Nat) (k : Int), yNmNe (yNm rs T ow pa m k)
  | 0, _ => fun _ _ _ _ h => by cases h
  | m + 1, k => fun pos made cnt x hx => by
    unfold yNm at hx
    cases hy : rs (T 456 k) ow pa pos made cnt with
    | inr y =>
      rw [hy] at hx
      cases hx
      exact h _ _ _ _ _ _ _ hy
    | inl e =>
      rw [hy] at hx
      obtain ⟨c, p, made'⟩ := e
      dsimp only at hx
      split at hx
      · cases hx
      · exact yNm_ne h m (k + 1) _ _ _ _ hx
theorem C68 (hC : yRsC r q b T B n (d + 1) zrs rs) (hok : yRsOk T n rs) (hne : yRsNe rs) (R : yRd r q b T B n s) (P : yPre r pos made cnt s) (W : yWF T st k) (hd : 0 ≤ d ∧ d ≤ 5) (hs : 0 ≤ st ∧ st ≤ 5) (hk : 0 ≤ k ∧ k ≤ 7) (hF : yFr r T E st k d s) (hE : yOkE E k) (ht : T 458 (8 * st + k) = 91) : zw (zf_68 zrs r (8 * st + k) me d s) fun v t => yKeep r cnt (8 * d + k) s t ∧ t.1 328 r (8 * d + k) = s.1 328 r (8 * d + k) ∧ yRes68 r cnt (s.1 327 r 0) (8 * d + k) (yA68 rs T B n (E 330) me (8 * st + k) pos made cnt) v t := by
  have hw := W.2.2.2.1 ht
  have hnm := fun (ow pa : Int) => yNm_okW (ow := ow) (pa := pa) hok W (Or.inr ht)
  have hnc : ∀ pa : Int, yNmC r q b T B n (8 * (d + 1)) (fun s => zf_66 zrs r (8 * st + k) (-1) pa (d + 1) s) (yNm rs T (-1) pa (T 464 (8 * st + k) - T 463 (8 * st + k)).toNat (T 463 (8 * st + k))) := fun pa t pos made cnt R P => C66 hC hok R P W hs hk (Or.inl rfl) (Or.inr ht)
  obtain ⟨p1, p2, p3, p4, p5, p6, p7, p8, p9⟩ := id P
  have n8 := R.2.2.2.2.2.2.2.1
  have hm8 : (8 * st + k) % 8 = k := by omega
  unfold zf_68 yA68
  rw [zO_ok R.1 R.2.1, zn_ok (by omega)]
  by_cases hm : 200 ≤ made
  · rw [if_pos hm, z58_m p2 p1 hm, zC_zi, if_pos rfl]
    refine zw_z0 ⟨(yKeep.rf.pw (by omega)).pw (by omega), ?_, rfl, ?_, ?_, ?_, ?_⟩
    · rw [zp_nn (by omega), zp_nn (by omega)]
    · rw [zp_nn (by omega), zp_eq]
    · rw [zp_eq]
    · rw [zp_nn (by omega), zp_nn (by omega)]
      exact p2
    · rw [zp_nn (by omega), zp_nn (by omega), p1]
      exact p4
  · rw [if_neg hm, z58 p2 p3 p1 p5 p6 (by omega), zC_zi, if_neg (by omega), R.2.2.2.2.1 465 _ (by omega) (by omega), p1]
    obtain ⟨g1, g2, g3, g4, g5, g6, g7, g8⟩ := yMk_get (r := r) (kd := 1) (f := 8 * st + k) (p := me) (pos := pos) (made := made) (cnt := cnt) (s := s)
    have K1 : yKeep r cnt (8 * d + k) s (yMk r 1 (8 * st + k) me pos made cnt s) := yKeep.mk'
    have h328 : (yMk r 1 (8 * st + k) me pos made cnt s).1 328 r (8 * d + k) = s.1 328 r (8 * d + k) := by
      unfold yMk
      rw [zp_nn (by omega), zp_nn (by omega), zp_nn (by omega), zp_nn (by omega), zp_nn (by omega), zp_nn (by omega)]
    have hF1 : yFr r T E st k d (yMk r 1 (8 * st + k) me pos made cnt s) := by
      intro i h1 h2
      have a := hF i h1 h2
      rw [K1.2.2 328 _ (by omega) (by omega) (by omega), K1.2.2 329 _ (by omega) (by omega) (by omega), K1.2.2 330 _ (by omega) (by omega) (by omega)]
      exact a
    generalize yMk r 1 (8 * st + k) me pos made cnt s = t at g1 g2 g3 g4 g5 g6 g7 g8 K1 h328 hF1
    have R1 := R.fr K1.1
    have P1 : yPre r pos (made + 1) (cnt + 1) t := ⟨g5.trans p1, g6, g7, p4, by omega, by omega, by omega, by omega, by omega⟩
    -- the loops
    have hj : zrng (d * 8) := ⟨by omega, by omega⟩
    have h85 : zw (zf_68_85 zrs r t) fun v u => yKeep r cnt (8 * d + k) s u ∧ u.1 328 r (8 * d + k) = s.1 328 r (8 * d + k) ∧ yRes68 r cnt (s.1 327 r 0) (8 * d + k) (.inl (3, pos, made + 1)) v u := by
      unfold zf_68_85
      rw [z57, zC_zi]
      refine zw_z0 ⟨(K1.pw (by omega)).pw (by omega), ?_, rfl, ?_, ?_, ?_, ?_⟩
      · rw [zp_nn (by omega), zp_nn (by omega)]
        exact h328
      · rw [zp_nn (by omega), zp_eq]
      · rw [zp_eq, g5]
        exact p1
      · rw [zp_nn (by omega), zp_nn (by omega)]
        exact g6
      · rw [zp_nn (by omega), zp_nn (by omega), g5, p1]
        exact p4
    have fin : ∀ (o : yA) (v : Int) (u : zS), yKeep r (cnt + 1) (8 * (d + 1)) t u → yResA r (cnt + 1) (t.1 327 r 0) o v u → yOkA n pos (made + 1) o → zw (zf_68_166 zrs r (8 * st + k) pos (8 * d) cnt v u) fun v u => yKeep r cnt (8 * d + k) s u ∧ u.1 328 r (8 * d + k) = s.1 328 r (8 * d + k) ∧ yRes68 r cnt (s.1 327 r 0) (8 * d + k) (yAn T (8 * st + k) pos me o) v u := by
      intro o v u Ku hu ok
      have e := C68_166 (zrs := zrs) (f := 8 * st + k) (d := d) (s := s) (t := u) (me := me) (T := T) (by omega) hd (by omega) p4 (by omega) (R1.fr Ku.1) (by rw [hm8]; exact K1.tr Ku (by omega) (by omega)) (by rw [hm8, Ku.2.2 328 _ (by omega) (by omega) (by omega)]; exact h328) (by rw [Ku.2.1 192 _ (by omega) (by omega) (by omega)]; exact g1) (by rw [Ku.2.1 198 _ (by omega) (by omega) (by omega)]; exact g2) (by rw [Ku.2.1 194 _ (by omega) (by omega) (by omega)]; exact g3) (by rw [Ku.2.1 197 _ (by omega) (by omega) (by omega)]; exact g4) hu (fun x hx => by
        subst hx
        obtain ⟨o1, o2, o3, o4, o5, o6, o7, o8⟩ := ok
        refine ⟨?_, ?_, o7, o8, ?_⟩ <;> omega)
      rw [hm8, g8] at e
      exact e
    have arr : ∀ c : Int, (T 465 (8 * st + k) = 43 → 0 ≤ c ∧ c ≤ 20) → c = yCn T (E 330) (8 * st + k) → zw (zf_68_110 zrs r (8 * st + k) d pos (8 * d) (T 465 (8 * st + k)) cnt c t) fun v u => yKeep r cnt (8 * d + k) s u ∧ u.1 328 r (8 * d + k) = s.1 328 r (8 * d + k) ∧ yRes68 r cnt (s.1 327 r 0) (8 * d + k) (yAn T (8 * st + k) pos me (yAr rs T B n (E 330) me (8 * st + k) pos made cnt)) v u := by
      intro c hc he
      have okA := yAr_ok (me := me) (cnt := cnt) (B := B) (V := E 330) hok W ht (by rw [← he]; exact hc) p4.1 (by omega) (by omega : made < 200)
      unfold zf_68_110
      revert okA
      unfold yAr
      by_cases h42 : T 465 (8 * st + k) = 42
      · rw [if_pos h42, if_pos h42]
        intro okA
        unfold zf_70
        refine zw_C' (C70_3 (by omega) (hnc cnt) (hnm _ _) (yNm_ne hne _ _) 201 _ 0 pos (made + 1) (cnt + 1) t (xfu_big (by decide)) (by omega) (by omega) (by omega) R1 P1) fun v u hu => ?_
        exact fin _ v u hu.1 hu.2 okA
      · rw [if_neg h42, if_neg h42]
        by_cases h33 : T 465 (8 * st + k) = 33
        · rw [if_pos h33, if_pos h33]
          intro okA
          unfold zf_71
          rw [show t.1 323 r 0 = pos from g5.trans p1]
          refine zw_C' (C71_9 (by omega) (by omega) (hnc cnt) (hnm _ _) (yNm_ne hne _ _) 201 _ 0 pos (made + 1) (cnt + 1) t (xfu_big (by decide)) (by omega) (by omega) (by omega) R1 P1) fun v u hu => ?_
          exact fin _ v u hu.1 hu.2 okA
        · rw [if_neg h33, if_neg h33]
          have hcb := yCn_b (T := T) (V := E 330) (f := 8 * st + k) (by rw [← he]; exact hc)
          unfold zf_69
          have a := C69_3 (count := c) (by omega) (hnc cnt) (hnm _ _) (by omega) (yCn T (E 330) (8 * st + k)).toNat xfu 0 pos (made + 1) (cnt + 1) t (xfu_big (by omega)) (by omega) (by omega) R1 P1
          revert a
          cases yCt (yNm rs T (-1) cnt (T 464 (8 * st + k) - T 463 (8 * st + k)).toNat (T 463 (8 * st + k))) (yCn T (E 330) (8 * st + k)).toNat pos (made + 1) (cnt + 1) with
          | inl e =>
            intro a okA
            refine zw_C' a fun v u hu => ?_
            rw [hu.2.1, if_pos rfl]
            exact fin (.inl e) (-1) u hu.1 ⟨rfl, hu.2.2⟩ okA
          | inr x =>
            intro a okA
            refine zw_C' a fun v u hu => ?_
            rw [hu.2.1, if_neg (by decide)]
            exact fin (.inr (yCn T (E 330) (8 * st + k), x)) c u hu.1 ⟨he, hu.2.2⟩ okA
    have hd8 : d * 8 = 8 * d := Int.mul_comm _ _
    by_cases h43 : T 465 (8 * st + k) = 43
    · rw [if_pos h43, zg_ok hj]
      unfold zf_68_57
      rw [hd8, C72 R1 hd hs hk hF1 hE W (Or.inr ⟨ht, Or.inr h43⟩), zC_zi]
      have ec : yReckon T (E 330) (8 * st + k) = yCn T (E 330) (8 * st + k) := by
        unfold yCn
        rw [if_pos h43]
      rw [ec]
      unfold zf_68_66
      rw [if_pos h43]
      by_cases h1 : yCn T (E 330) (8 * st + k) < 0
      · rw [if_pos h1, if_pos ⟨h43, Or.inl h1⟩]
        exact h85
      · rw [if_neg h1]
        by_cases h2 : yCn T (E 330) (8 * st + k) ≤ 20
        · rw [if_pos h2, if_neg (show ¬ (T 465 (8 * st + k) = 43 ∧ (yCn T (E 330) (8 * st + k) < 0 ∨ 20 < yCn T (E 330) (8 * st + k))) by omega)]
          unfold zf_68_95
          rw [if_neg (by omega)]
          exact arr _ (fun _ => by omega) rfl
        · rw [if_neg h2, if_pos ⟨h43, Or.inr (by omega)⟩]
          exact h85
    · rw [if_neg h43, if_neg (show ¬ (T 465 (8 * st + k) = 43 ∧ (yCn T (E 330) (8 * st + k) < 0 ∨ 20 < yCn T (E 330) (8 * st + k))) by omega)]
      by_cases h63 : T 465 (8 * st + k) = 63
      · rw [if_pos h63, zg_ok hj]
        unfold zf_68_57
        rw [hd8, C72 R1 hd hs hk hF1 hE W (Or.inr ⟨ht, Or.inl h63⟩), zC_zi]
        unfold zf_68_66 zf_68_95
        rw [if_neg h43, if_pos h63]
        by_cases h0 : yReckon T (E 330) (8 * st + k) = 0
        · rw [if_pos h0, h0]
          exact arr 0 (fun _ => by omega) (by unfold yCn; rw [if_neg h43, if_pos h63, if_pos h0])
        · rw [if_neg h0]
          exact arr 1 (fun _ => by omega) (by unfold yCn; rw [if_neg h43, if_pos h63, if_neg h0])
      · rw [if_neg h63, zg_ok hj, hd8]
        unfold zf_68_66 zf_68_95
        rw [if_neg h43, if_neg h63]
        exact arr 0 (fun _ => by omega) (by unfold yCn; rw [if_neg h43, if_neg h63])
end
