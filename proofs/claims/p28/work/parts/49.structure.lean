/-! the class's reader: relations, a structure, a file -/
/-- where the fields ahead of field k lie -/
def yOkL (E : yE) (n k : Int) : Prop := ∀ i, 0 ≤ i → i < k → (0 ≤ E 328 i ∧ E 328 i ≤ 1000) ∧ (0 ≤ E 329 i ∧ E 329 i ≤ 160) ∧ (E 329 i = 0 ∨ E 328 i + E 329 i ≤ n)
section
variable {r q b : Nat} {T : yT} {B : yB} {n dep : Int} {zrs : Nat → Int → Int → Int → Int → zS → zR} {rs : Int → Int → Int → Int → Int → Int → yO} {E : yE} {st k d me pos made cnt : Int} {s : zS}
theorem z74_23 (R : yRd r q b T B n s) {h off ln : Int} (hh : h = 43 ∨ h ≠ 43) (ho : 0 ≤ off ∧ off ≤ 1000) (hl : 0 ≤ ln ∧ ln ≤ 160) (hn : off + ln ≤ n) : ∀ (m N : Nat) (p v : Int), m < N → off ≤ p → p + m = off + ln → (h = 43 → 0 ≤ v ∧ v ≤ 255 * (p - off)) → zf_74_23 N r h off ln v p s = zi (yBy B h m p v) s := by
  obtain ⟨r1, r2, r3, r4, r5, r6, r7, r8, r9, r10⟩ := id R
  intro m
  induction m with
  | zero =>
    intro N p v hN h1 h2 h3
    obtain ⟨N, rfl⟩ : ∃ M, N = M + 1 := ⟨N - 1, by omega⟩
    unfold zf_74_23
    rw [zg_ok ⟨by omega, by omega⟩, if_pos (by omega)]
    rfl
  | succ m ih =>
    intro N p v hN h1 h2 h3
    obtain ⟨N, rfl⟩ : ∃ M, N = M + 1 := ⟨N - 1, by omega⟩
    have hb := r10 p (by omega) (by omega)
    unfold zf_74_23 yBy
    rw [zg_ok ⟨by omega, by omega⟩, if_neg (by omega)]
    by_cases h43 : h = 43
    · have h3 := h3 h43
      rw [if_pos h43, if_pos h43, zB_ok r3 r4, R.get (by omega), zC_zi, zg_ok ⟨by omega, by omega⟩, zg_ok ⟨by omega, by omega⟩]
      exact ih N (p + 1) (v + B p) (by omega) (by omega) (by omega) (fun _ => by omega)
    · rw [if_neg h43, if_neg h43, zB_ok r3 r4, R.get (by omega), zC_zi, zg_ok ⟨by omega, by omega⟩]
      exact ih N (p + 1) (zxor v (B p)) (by omega) (by omega) (by omega) (fun h => absurd h h43)
theorem z74_0 {h off ln v p : Int} {N : Nat} (hN : 0 < N) (hr : zrng (off + ln)) (hp : off + ln ≤ p) : zf_74_23 N r h off ln v p s = zi v s := by
  obtain ⟨N, rfl⟩ : ∃ M, N = M + 1 := ⟨N - 1, by omega⟩
  unfold zf_74_23
  rw [zg_ok hr, if_pos hp]
theorem z74 (R : yRd r q b T B n s) {h off ln els els' : Int} (ho : 0 ≤ off ∧ off ≤ 1000) (hl : 0 ≤ ln ∧ ln ≤ 160) (hn : ln = 0 ∨ off + ln ≤ n) (he : h = 37 → els = els') : zf_74 r h off ln els s = zi (yDue B h off ln els') s := by
  unfold zf_74 yDue
  by_cases h35 : h = 35
  · rw [if_pos h35, if_pos h35]
  · rw [if_neg h35, if_neg h35]
    by_cases h37 : h = 37
    · rw [if_pos h37, if_pos h37, he h37]
    · rw [if_neg h37, if_neg h37]
      by_cases h0 : ln = 0
      · rw [h0, z74_0 (xfu_big (by decide)) ⟨by omega, by omega⟩ (by omega)]
        rfl
      · exact z74_23 R (Classical.em _) ho hl (by omega) ln.toNat xfu off 0 (xfu_big (by omega)) (by omega) (by omega) (fun _ => by omega)
/-- nothing but the count of wrong relations has changed -/
def yW7 (r : Nat) (s t : zS) (w : Int) : Prop := (∀ (f n : Nat) (i : Int), ¬ (f = 327 ∧ n = r) → t.1 f n i = s.1 f n i) ∧ t.2 = s.2 ∧ t.1 327 r 0 = s.1 327 r 0 + w
theorem yW7.fr {t : zS} {w : Int} (h : yW7 r s t w) : yfr r s t := ⟨fun f n i hn => h.1 f n i (by omega), h.2.1⟩
theorem yW7.keep {t : zS} {w c D : Int} (h : yW7 r s t w) : yKeep r c D s t := ⟨h.fr, fun c i h1 h2 h3 => h.1 c r i (by omega), fun c i h1 h2 h3 => h.1 c r i (by omega)⟩
theorem yW7.fF {t : zS} {w : Int} (h : yW7 r s t w) (hF : yFr r T E st k d s) : yFr r T E st k d t := by
  intro i h1 h2
  rw [h.1 328 r _ (by omega), h.1 329 r _ (by omega), h.1 330 r _ (by omega)]
  exact hF i h1 h2
theorem C73_2 (hst : 0 ≤ st ∧ st ≤ 5) (hd : 0 ≤ d ∧ d ≤ 5) {fc : Int} (hfc : T 453 st = fc) (hfc8 : 0 ≤ fc ∧ fc ≤ 8) (hW : ∀ j, 0 ≤ j → j < fc → yWF T st j) (hL : yOkL E n fc) : ∀ (m N : Nat) (k : Int) (s : zS), m < N → 0 ≤ k → k + m = fc → yRd r q b T B n s → yFr r T E st fc d s → (0 ≤ s.1 327 r 0 ∧ s.1 327 r 0 ≤ 10000 + k) → zw (zf_73_2 N r st d k s) fun _ t => yW7 r s t (yWr T B E st m k) := by
  intro m
  induction m with
  | zero =>
    intro N k s hN h0 hk R hF h7
    obtain ⟨N, rfl⟩ : ∃ M, N = M + 1 := ⟨N - 1, by omega⟩
    unfold zf_73_2
    rw [zO_ok R.1 R.2.1, zn_ok (by omega), R.2.2.2.2.1 453 _ (by omega) (by omega), hfc, if_pos (by omega)]
    exact zw_i ⟨fun _ _ _ _ => rfl, rfl, (Int.add_zero _).symm⟩
  | succ m ih =>
    intro N k s hN h0 hk R hF h7
    obtain ⟨N, rfl⟩ : ∃ M, N = M + 1 := ⟨N - 1, by omega⟩
    obtain ⟨w1, -, -, -, -, -, w7, w8, w9⟩ := hW k h0 (by omega)
    have w9' : T 467 (8 * st + k) = 0 ∨ T 467 (8 * st + k) = 61 ∨ ((T 459 (8 * st + k) = 8 ∨ T 459 (8 * st + k) = 16) ∧ T 458 (8 * st + k) ≠ 65 ∧ 8 * st ≤ T 468 (8 * st + k) ∧ T 468 (8 * st + k) < 8 * st + fc ∧ (T 467 (8 * st + k) = 37 → T 458 (T 468 (8 * st + k)) = 91)) := by
      rw [hfc] at w9
      rcases w9 with h | ⟨ht, h | ⟨h2, h3, h4, h5, h6⟩⟩
      · exact Or.inl h
      · exact Or.inr (Or.inl h)
      · refine Or.inr (Or.inr ⟨?_, ?_, h3, h4, h6⟩)
        · rcases ht with ht | ht | ht
          · exact Or.inl (w7 (Or.inl ht))
          · exact Or.inr (w8 (Or.inl ht))
          · exact Or.inr (w8 (Or.inr ht))
        · rcases ht with ht | ht | ht <;> rw [ht] <;> decide
    clear w1 w7 w8 w9
    have hT := R.2.2.2.2.1
    unfold zf_73_2 yWr
    simp only [Int.mul_comm st 8, Int.mul_comm d 8]
    rw [zO_ok R.1 R.2.1, zn_ok (by omega), hT 453 _ (by omega) (by omega), hfc, if_neg (by omega), zO_ok R.1 R.2.1, zg_ok ⟨by omega, by omega⟩, zg_ok ⟨by omega, by omega⟩, zn_ok (by omega), hT 467 _ (by omega) (by omega)]
    by_cases hz : T 467 (8 * st + k) = 0
    · rw [if_pos hz, if_pos (Or.inl hz), zg_ok ⟨by omega, by omega⟩, Int.zero_add]
      exact ih N (k + 1) s (by omega) (by omega) (by omega) R hF (by omega)
    · rw [if_neg hz]
      by_cases h61 : T 467 (8 * st + k) = 61
      · rw [if_pos h61, if_pos (Or.inr h61), zg_ok ⟨by omega, by omega⟩, Int.zero_add]
        exact ih N (k + 1) s (by omega) (by omega) (by omega) R hF (by omega)
      · have w := w9'.resolve_left hz |>.resolve_left h61
        obtain ⟨wb, wt, wo1, wo2, wr⟩ := w
        have ho : zrem (T 468 (8 * st + k)) 8 = T 468 (8 * st + k) % 8 := zrem8 (by omega)
        have hi : 0 ≤ T 468 (8 * st + k) % 8 ∧ T 468 (8 * st + k) % 8 < fc := by omega
        have hj : T 468 (8 * st + k) = 8 * st + T 468 (8 * st + k) % 8 := by omega
        obtain ⟨f1, f2, f3⟩ := hF _ hi.1 hi.2
        obtain ⟨l1, l2, l3⟩ := hL _ hi.1 hi.2
        have own := (hF k h0 (by omega)).2.2 wt
        rw [if_neg h61, if_neg (show ¬ (T 467 (8 * st + k) = 0 ∨ T 467 (8 * st + k) = 61) from fun z => z.elim hz h61), zO_ok R.1 R.2.1, zn_ok (by omega), zg_ok ⟨by omega, by omega⟩, hT 468 _ (by omega) (by omega), ho]
        generalize ho2 : T 468 (8 * st + k) % 8 = o at hi hj f1 f2 f3 l1 l2 l3
        rw [zg_ok ⟨by omega, by omega⟩, zn_ok (by omega), zn_ok (by omega), zn_ok (by omega), f1, f2, z74 R (els' := E 330 o) l1 l2 l3 (fun h37 => f3 (by rw [← hj, wr h37]; decide)), zC_zi, zg_ok ⟨by omega, by omega⟩, zn_ok (by omega), zO_ok R.1 R.2.1, zn_ok (by omega), hT 459 _ (by omega) (by omega), z75 (by omega), zC_zi, own]
        unfold yCut
        generalize zand (yDue B (T 467 (8 * st + k)) (E 328 o) (E 329 o) (E 330 o)) (zshl 1 (T 459 (8 * st + k)) - 1) = due
        by_cases he : E 330 k = due
        · rw [if_pos he, if_pos he, zg_ok ⟨by omega, by omega⟩, Int.zero_add]
          exact ih N (k + 1) s (by omega) (by omega) (by omega) R hF (by omega)
        · rw [if_neg he, if_neg he, zg_ok ⟨by omega, by omega⟩, zP_ok, zg_ok ⟨by omega, by omega⟩]
          have K1 : yW7 r s (zp 327 r 0 (s.1 327 r 0 + 1) s) 1 := ⟨fun f n i h => zp_ne (by omega), rfl, zp_eq⟩
          have e7 := K1.2.2
          refine (ih N (k + 1) _ (by omega) (by omega) (by omega) (R.fr K1.fr) (K1.fF hF) (by omega)).mono fun v t ht => ?_
          refine ⟨fun f n i h => (ht.1 f n i h).trans (K1.1 f n i h), ht.2.1.trans K1.2.1, ?_⟩
          rw [ht.2.2, e7]
          omega
theorem C73 (W : yWT T) (hst : 0 ≤ st ∧ st < T 449 0) (hd : 0 ≤ d ∧ d ≤ 5) (hL : yOkL E n (T 453 st)) (R : yRd r q b T B n s) (hF : yFr r T E st (T 453 st) d s) (h7 : 0 ≤ s.1 327 r 0 ∧ s.1 327 r 0 ≤ 10000) : zw (zf_73 r st d s) fun _ t => yW7 r s t (yWr T B E st (T 453 st).toNat 0) := by
  obtain ⟨c1, c2, c3⟩ := W.2.2 st hst.1 hst.2
  have c6 := W.2.1
  unfold zf_73
  exact C73_2 (by omega) hd rfl ⟨c1, c2⟩ c3 hL _ _ _ _ (xfu_big (by omega)) (by omega) (by omega) R hF (by omega)
theorem yFd_E {f : Int} {x : yE × Int × Int × Int × List yN} (h : yFd rs T B n me f k E pos made cnt = .inr x) : (∃ a c v, x.1 = yeu E k a c v) := by
  rw [yFd_eq] at h
  split at h
  · revert h
    cases yNm rs T f me (T 464 f - T 463 f).toNat (T 463 f) pos made cnt with
    | inl e => exact fun h => by cases h
    | inr y =>
      intro h
      cases h
      exact ⟨_, _, _, rfl⟩
  · split at h
    · revert h
      cases yA68 rs T B n (E 330) me f pos made cnt with
      | inl e => exact fun h => by cases h
      | inr y =>
        intro h
        cases h
        exact ⟨_, _, _, rfl⟩
    · unfold yP61 at h
      split at h
      · cases h
      · revert h
        cases yPl T B n (E 330) f pos with
        | inl e => exact fun h => by cases h
        | inr y =>
          intro h
          cases h
          exact ⟨_, _, _, rfl⟩
theorem yFd_L {x : yE × Int × Int × Int × List yN} (hr : yRsOk T n rs) (W : yWF T st k) (hn : 0 ≤ n ∧ n ≤ 160) (hB : ∀ i, 0 ≤ i → i < n → 0 ≤ B i ∧ B i ≤ 255) (hp : 0 ≤ pos) (h0 : 0 ≤ made) (h2 : made ≤ 200) (h : yFd rs T B n me (8 * st + k) k E pos made cnt = .inr x) : x.1 328 k = pos ∧ (0 ≤ x.1 329 k ∧ x.1 329 k ≤ 160) ∧ (x.1 329 k = 0 ∨ x.1 328 k + x.1 329 k ≤ n) := by
  rw [yFd_eq] at h
  by_cases h65 : T 458 (8 * st + k) = 65
  · rw [if_pos h65] at h
    have ok := yNm_okW (ow := 8 * st + k) (pa := me) hr W (Or.inl h65) pos made cnt hp h0 h2
    revert h ok
    cases yNm rs T (8 * st + k) me (T 464 (8 * st + k) - T 463 (8 * st + k)).toNat (T 463 (8 * st + k)) pos made cnt with
    | inl e => exact fun h => by cases h
    | inr y =>
      intro h ok
      cases h
      have o1 := ok.1
      have o2 := ok.2.1
      simp [yeu]
      omega
  · rw [if_neg h65] at h
    by_cases h91 : T 458 (8 * st + k) = 91
    · rw [if_pos h91] at h
      unfold yA68 at h
      by_cases h1 : 200 ≤ made
      · rw [if_pos h1] at h
        cases h
      · rw [if_neg h1] at h
        by_cases h3 : T 465 (8 * st + k) = 43 ∧ (yCn T (E 330) (8 * st + k) < 0 ∨ 20 < yCn T (E 330) (8 * st + k))
        · rw [if_pos h3] at h
          cases h
        · rw [if_neg h3] at h
          have okA := yAr_ok (me := me) (cnt := cnt) (B := B) (V := E 330) hr W h91 (by omega) hp (by omega) (by omega : made < 200)
          revert okA h
          cases yAr rs T B n (E 330) me (8 * st + k) pos made cnt with
          | inl e =>
            intro h
            cases h
          | inr y =>
            intro h okA
            cases h
            have o1 := okA.1
            have o2 := okA.2.1
            simp [yeu]
            omega
    · rw [if_neg h91] at h
      unfold yP61 at h
      split at h
      · cases h
      · have hb := yPl_b (V := E 330) (B := B) W hn.2 hB hp
        revert h hb
        cases yPl T B n (E 330) (8 * st + k) pos with
        | inl e => exact fun h => by cases h
        | inr y =>
          intro h hb
          cases h
          dsimp only at hb
          simp [yeu]
          omega
/-- as yKeep, but of one node what is told of it at its end -/
def yKeep' (r : Nat) (cnt nd D : Int) (s t : zS) : Prop := yfr r s t ∧ (∀ (c : Nat) (i : Int), 192 ≤ c → c < 199 → i < cnt → (i ≠ nd ∨ (c ≠ 193 ∧ c ≠ 195 ∧ c ≠ 196)) → t.1 c r i = s.1 c r i) ∧ (∀ (c : Nat) (i : Int), 328 ≤ c → c < 331 → i < D → t.1 c r i = s.1 c r i)
theorem yKeep'.of {cnt' nd D D' : Int} {t u : zS} (a : yKeep r cnt D' s t) (b : yKeep' r cnt' nd D t u) (h : cnt ≤ cnt') (hD : D ≤ D') : yKeep' r cnt nd D s u :=
  ⟨a.1.tr b.1, fun c i h1 h2 h3 h4 => (b.2.1 c i h1 h2 (by omega) h4).trans (a.2.1 c i h1 h2 h3), fun c i h1 h2 h3 => (b.2.2 c i h1 h2 h3).trans (a.2.2 c i h1 h2 (by omega))⟩
theorem yKeep'.rf {nd D : Int} {t : zS} (a : yKeep r cnt D s t) : yKeep' r cnt nd D s t := ⟨a.1, fun c i h1 h2 h3 _ => a.2.1 c i h1 h2 h3, a.2.2⟩
theorem yKeep'.pw {nd D : Int} {t : zS} {f : Nat} {v : Int} (a : yKeep' r cnt nd D s t) (h : f = 193 ∨ f = 195 ∨ f = 196) : yKeep' r cnt nd D s (zp f r nd v t) := by
  refine ⟨a.1.pw (by omega), fun c j h1 h2 h3 h4 => ?_, fun c j h1 h2 h3 => ?_⟩
  · rw [zp_nn (by omega)]
    exact a.2.1 c j h1 h2 h3 h4
  · rw [zp_nn (by omega)]
    exact a.2.2 c j h1 h2 h3
theorem yIn.app' {nd D : Int} {l1 l2 : List yN} {t u : zS} (a : yIn r cnt l1 t) (k : yKeep' r (cnt + l1.length) nd D t u) (hnd : nd < cnt) (b : yIn r (cnt + l1.length) l2 u) : yIn r cnt (l1 ++ l2) u := by
  refine ⟨?_, fun j x h c h1 h2 => ?_⟩
  · rw [b.1, List.length_append]
    omega
  · by_cases hj : j < l1.length
    · rw [List.getElem?_append_left hj] at h
      rw [k.2.1 c _ h1 h2 (by omega) (by omega)]
      exact a.2 j x h c h1 h2
    · rw [List.getElem?_append_right (by omega)] at h
      have e := b.2 (j - l1.length) x h c h1 h2
      rw [show cnt + (j : Int) = cnt + l1.length + ((j - l1.length : Nat) : Int) by omega]
      exact e
/-- what the fields of a structure and its end leave -/
def yResS (r : Nat) (T : yT) (B : yB) (st f nd pos0 cnt w0 : Int) (o : yF) (v : Int) (t : zS) : Prop := match o with
  | .inl e => v = 0 ∧ t.1 325 r 0 = e.1 ∧ t.1 326 r 0 = e.2.1 ∧ t.1 324 r 0 = e.2.2 ∧ (0 ≤ t.1 323 r 0 ∧ t.1 323 r 0 ≤ 1000)
  | .inr x => v = 1 ∧ t.1 323 r 0 = x.2.1 ∧ t.1 324 r 0 = x.2.2.1 ∧ t.1 327 r 0 = w0 + (x.2.2.2.1 + yWr T B x.1 st (T 453 st).toNat 0) ∧ yIn r cnt x.2.2.2.2 t ∧ t.1 193 r nd = (if f = -1 then T 452 st else T 457 f) ∧ t.1 195 r nd = x.2.1 - pos0 ∧ t.1 196 r nd = T 452 st
theorem C59_42 (W : yWT T) (hC : yRsC r q b T B n (d + 1) zrs rs) (hok : yRsOk T n rs) (hne : yRsNe rs) (hst : 0 ≤ st ∧ st < T 449 0) (hd : 0 ≤ d ∧ d ≤ 5) {f nd pos0 : Int} (hf : f = -1 ∨ 0 ≤ f ∧ f < 48) (hp0 : 0 ≤ pos0 ∧ pos0 ≤ 1000) (hnd : 0 ≤ nd) : ∀ (m N : Nat) (k : Int) (E : yE) (pos made cnt : Int) (s : zS), m < N → 0 ≤ k → k + m = T 453 st → nd < cnt → yRd r q b T B n s → yPre r pos made cnt s → yFr r T E st k d s → yOkE E k → yOkL E n k → zw (zf_59_42 zrs N r st f d pos0 nd k s) fun v t => yKeep' r cnt nd (8 * d) s t ∧ yResS r T B st f nd pos0 cnt (s.1 327 r 0) (yFs rs T B n nd st m k E pos made cnt) v t := by
  obtain ⟨c1, c2, c3⟩ := W.2.2 st hst.1 hst.2
  have c6 := W.2.1
  intro m
  induction m with
  | zero =>
    intro N k E pos made cnt s hN h0 hk hnc R P hF hE hL
    obtain ⟨N, rfl⟩ : ∃ M, N = M + 1 := ⟨N - 1, by omega⟩
    obtain ⟨p1, p2, p3, p4, p5, p6, p7, p8, p9⟩ := id P
    have hk : k = T 453 st := by omega
    subst hk
    unfold zf_59_42
    rw [zO_ok R.1 R.2.1, zn_ok (by omega), R.2.2.2.2.1 453 _ (by omega) (by omega), if_pos (by omega)]
    refine zw_C' (C73 W hst hd hL R hF (by omega)) fun v t ht => ?_
    have R1 := R.fr ht.fr
    have h125 : ∀ nm : Int, nm = (if f = -1 then T 452 st else T 457 f) → zw (zf_59_125 zrs r pos0 (T 452 st) r nd nm t) fun v t => yKeep' r cnt nd (8 * d) s t ∧ yResS r T B st f nd pos0 cnt (s.1 327 r 0) (yFs rs T B n nd st 0 (T 453 st) E pos made cnt) v t := by
      intro nm hnm
      unfold zf_59_125
      have t1 : t.1 323 r 0 = pos := (ht.1 323 r 0 (by omega)).trans p1
      have t2 : t.1 199 r 0 = cnt := (ht.1 199 r 0 (by omega)).trans p3
      have t3 : t.1 324 r 0 = made := (ht.1 324 r 0 (by omega)).trans p2
      rw [t1, zg_ok ⟨by omega, by omega⟩, z29 (by omega) (by omega), zC_zi]
      have K : yKeep' r cnt nd (8 * d) s (zp 196 r nd (T 452 st) (zp 195 r nd (pos - pos0) (zp 193 r nd nm t))) := (((yKeep'.rf ht.keep).pw (by omega)).pw (by omega)).pw (by omega)
      refine zw_z1 ⟨K, rfl, ?_, ?_, ?_, yIn.nil ?_, ?_, ?_, zp_eq⟩
      · rw [zp_nn (by omega), zp_nn (by omega), zp_nn (by omega)]
        exact t1
      · rw [zp_nn (by omega), zp_nn (by omega), zp_nn (by omega)]
        exact t3
      · rw [zp_nn (by omega), zp_nn (by omega), zp_nn (by omega), ht.2.2]
        show _ = _ + (0 + yWr T B E st (T 453 st).toNat 0)
        omega
      · rw [zp_nn (by omega), zp_nn (by omega), zp_nn (by omega)]
        exact t2
      · rw [zp_nn (by omega), zp_nn (by omega), zp_eq]
        exact hnm
      · rw [zp_nn (by omega), zp_eq]
    rw [zO_ok R1.1 R1.2.1, zn_ok (by omega), R1.2.2.2.2.1 452 _ (by omega) (by omega)]
    by_cases hf1 : f = -1
    · rw [if_pos hf1]
      exact h125 _ (by rw [if_pos hf1])
    · rw [if_neg hf1, zO_ok R1.1 R1.2.1, zn_ok (by omega), R1.2.2.2.2.1 457 _ (by omega) (by omega)]
      exact h125 _ (by rw [if_neg hf1])
  | succ m ih =>
    intro N k E pos made cnt s hN h0 hk hnc R P hF hE hL
    obtain ⟨N, rfl⟩ : ∃ M, N = M + 1 := ⟨N - 1, by omega⟩
    obtain ⟨p1, p2, p3, p4, p5, p6, p7, p8, p9⟩ := id P
    have n7 := R.2.2.2.2.2.2.1
    have n8 := R.2.2.2.2.2.2.2.1
    have hB := R.2.2.2.2.2.2.2.2.2
    have hWk := c3 k h0 (by omega)
    unfold zf_59_42 yFs
    rw [zO_ok R.1 R.2.1, zn_ok (by omega), R.2.2.2.2.1 453 _ (by omega) (by omega), if_neg (by omega), zg_ok ⟨by omega, by omega⟩, Int.mul_comm st 8, zg_ok ⟨by omega, by omega⟩]
    have a := C60 (me := nd) hC hok hne R P hWk hd (by omega) (by omega) hF hE
    have ok := yFd_ok (me := nd) (cnt := cnt) (B := B) hok hWk n8 hB hE p4.1 (by omega) p7
    have okE := fun x => yFd_E (rs := rs) (T := T) (B := B) (n := n) (me := nd) (k := k) (E := E) (pos := pos) (made := made) (cnt := cnt) (f := 8 * st + k) (x := x)
    have okL := fun x => yFd_L (me := nd) (cnt := cnt) (E := E) (x := x) hok hWk ⟨n7, n8⟩ hB p4.1 (by omega) p7
    refine zw_C' a fun v t ht => ?_
    have hr := ht.2
    have K := ht.1
    revert hr ok okE okL
    cases yFd rs T B n nd (8 * st + k) k E pos made cnt with
    | inl e =>
      intro ok okE okL hr
      rw [hr.1, if_pos rfl]
      exact zw_z0 ⟨yKeep'.rf (K.wk (Int.le_refl _) (by omega)), rfl, hr.2⟩
    | inr x =>
      intro ok okE okL hr
      obtain ⟨ea, ec, ev, hx⟩ := okE x rfl
      obtain ⟨hl1, hl2, hl3⟩ := okL x rfl
      have okE2 := ok.2 x rfl
      obtain ⟨E1, p1', m1, w1, l1⟩ := x
      obtain ⟨⟨o1, o2, o3, o4, o5, o6⟩, -⟩ := ok
      obtain ⟨g1, g2, g3, g4, g5, g6, g7, g8⟩ := hr
      dsimp only at o1 o2 o3 o4 o5 o6 g2 g3 g4 g5 g6 g7 g8 hx hl1 hl2 hl3 okE2 ⊢
      have same : ∀ (c : Nat) (i : Int), i ≠ k → E1 c i = E c i := by
        intro c i hi
        rw [hx]
        simp [yeu, hi]
      rw [g1, if_neg (by decide), zg_ok ⟨by omega, by omega⟩]
      have hF1 : yFr r T E1 st (k + 1) d t := by
        intro i h1 h2
        by_cases hi : i = k
        · subst hi
          exact ⟨g6, g7, g8⟩
        · rw [same 328 i hi, same 329 i hi, same 330 i hi, K.2.2 328 _ (by omega) (by omega) (by omega), K.2.2 329 _ (by omega) (by omega) (by omega), K.2.2 330 _ (by omega) (by omega) (by omega)]
          exact hF i h1 (by omega)
      have hL1 : yOkL E1 n (k + 1) := by
        intro i h1 h2
        by_cases hi : i = k
        · subst hi
          exact ⟨by omega, hl2, hl3⟩
        · rw [same 328 i hi, same 329 i hi]
          exact hL i h1 (by omega)
      have P1 : yPre r p1' m1 (cnt + l1.length) t := ⟨g2, g3, g5.1, by omega, by omega, by omega, by omega, by omega, by omega⟩
      refine (ih N (k + 1) E1 p1' m1 (cnt + l1.length) t (by omega) (by omega) (by omega) (by omega) (R.fr K.1) P1 hF1 okE2 hL1).mono fun v u hu => ?_
      have K2 := yKeep'.of K hu.1 (by omega) (by omega : 8 * d ≤ 8 * d + k)
      have hr2 := hu.2
      revert hr2
      cases yFs rs T B n nd st m (k + 1) E1 p1' m1 (cnt + l1.length) with
      | inl e => exact fun hr2 => ⟨K2, hr2⟩
      | inr y =>
        intro hr2
        obtain ⟨E2, p2', m2, w2, l2⟩ := y
        obtain ⟨u1, u2, u3, u4, u5, u6, u7, u8⟩ := hr2
        dsimp only at u2 u3 u4 u5 u7
        exact ⟨K2, u1, u2, u3, by dsimp only; omega, g5.app' hu.1 hnc u5, u6, u7, u8⟩
end
