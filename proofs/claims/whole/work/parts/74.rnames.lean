/-! the reference's parser: names, with their counts -/
theorem mNum_p (G : Int → Int) : ∀ (m : Nat) (v p : Int), 0 ≤ v → 0 ≤ (mNum G m v p).1
  | 0, v, p, h => h
  | m + 1, v, p, h => by
    unfold mNum
    split
    · exact mNum_p G m _ _ (by omega)
    · exact h
section
variable {t st n N p w : Int} {X G : Int → Int} {T U : yT} {s u : zS} {o : Option Int}
theorem pa_cnt_b {f : Int} : (pa_cnt G st f U p).map (fun x => x.2) = (pa_cb G st f U (p + 1)).bind fun q => if G q = 93 then some (q + 1) else none := by
  have acc : ∀ z : Option (yT × Int), (pa_acc G 93 z).map (fun x => x.2) = (z.map fun x => x.2).bind fun q => if G q = 93 then some (q + 1) else none := fun z => by
    cases z with
    | none => rfl
    | some y =>
      unfold pa_acc
      dsimp only [Option.bind, Option.map]
      by_cases c : G y.2 = 93
      · rw [if_pos c, if_pos c]
      · rw [if_neg c, if_neg c]
  unfold pa_cnt pa_cb
  by_cases c1 : G (p + 1) = 42
  · rw [if_pos c1, if_pos c1, acc]
    rfl
  · rw [if_neg c1, if_neg c1]
    by_cases c2 : G (p + 1) = 33
    · rw [if_pos c2, if_pos c2]
      unfold pa_int
      by_cases c3 : 48 ≤ G (p + 1 + 1) ∧ G (p + 1 + 1) ≤ 57
      · have := mNum_p G 3 0 (p + 1 + 1) (by decide)
        rw [if_pos c3, if_pos c3, if_neg (by omega), acc]
        rfl
      · rw [if_neg c3, if_neg c3, if_pos rfl]
        rfl
    · rw [if_neg c2, if_neg c2]
      by_cases c3 : G (p + 1) = 63
      · rw [if_pos c3, if_pos c3, acc]
      · rw [if_neg c3, if_neg c3, acc]
theorem r166_267 {f : Int} (hX : pa_X X n) (hf : f = 8 * st + T 453 st) (hw : w = 48 * t + f) (h8 : T 453 st < 8) (hk : pa_kp f T U) (hT : rT t st T s) (h : rS t X n N o s) (hN : n ≤ N ∧ N ≤ 50000) (ho : ∀ p, o = some p → 1 ≤ p ∧ 0 ≤ U 450 0 ∧ 2 * U 450 0 ≤ p) : zw (zf_166_267 0 t st w s) fun _ u => rkf w s u ∧ rS t X n (N + 7) (o.bind fun p => (if pa_sg X n p = 91 then pa_cnt (pa_sg X n) st f U p else some (U, p)).map fun x => x.2) u ∧ ∀ p, o = some p → u.1 587 0 w = s.1 587 0 w ∧ u.1 588 0 w = s.1 588 0 w ∧ u.1 586 0 w = s.1 586 0 w ∧ (pa_sg X n p = 91 → u.1 590 0 w = pm (pa_sg X n (p + 1)) ∧ u.1 591 0 w = pe (pa_sg X n) (p + 1)) ∧ (pa_sg X n p ≠ 91 → u.1 590 0 w = s.1 590 0 w) := by
  have h4 := h.2.2.2.1
  have hc := ra_c (X := X) (n := n) (p := s.1 605 0 0) h4.1
  have pp : ∀ p, o = some p → s.1 605 0 0 = p := fun p ep => by
    rw [ep] at h
    exact h.p5
  unfold zf_166_267
  rw [r156 h hX.1.2 (by omega), zC_zi]
  by_cases c : ra_sg X n (s.1 605 0 0) = 91
  · have c2 : pa_sg X n (s.1 605 0 0) = 91 := by omega
    have l := pa_lt (X := X) (n := n) (p := s.1 605 0 0) (by omega)
    have hB := h.at (q := 1) (by decide)
    rw [if_pos c, zg_ok ⟨by omega, by omega⟩, zP_ok]
    have F : rkf w s (zp 605 0 0 (s.1 605 0 0 + 1) s) := rkf.rf.pw (Or.inl rfl)
    refine zw_C' (r167 hX hf hw h8 hk (hT.rkf F (by omega)) hB ⟨by omega, by omega⟩ (fun p ep => ?_)) fun v u ⟨g1, g2, g3⟩ => ?_
    · cases o with
      | none => cases ep
      | some p2 =>
        have ep : p2 + 1 = p := Option.some.inj ep
        have := pp p2 rfl
        have := ho p2 rfl
        omega
    · refine zw_C' (r157 hX (by decide) g2 (by omega)) fun v2 u2 ⟨k1, k2, k3⟩ => zw_i ⟨(F.tr g1).tr (rkf.of k1), ?_, fun p ep => ?_⟩
      · cases o with
        | none => exact k2.up (by omega)
        | some p =>
          have := pp p rfl
          have k2 := k2.up (M := N + 7) (by omega)
          rw [show ((some p : Option Int).bind fun p => (if pa_sg X n p = 91 then pa_cnt (pa_sg X n) st f U p else some (U, p)).map fun x => x.2) = (if pa_sg X n p = 91 then pa_cnt (pa_sg X n) st f U p else some (U, p)).map (fun x => x.2) from rfl, if_pos (show pa_sg X n p = 91 by rw [← this]; exact c2), pa_cnt_b]
          exact k2
      · have q := g3 (p + 1) (by rw [ep]; rfl)
        have := pp p ep
        rw [k1.1 590 0 w (by omega), k1.1 591 0 w (by omega), k1.1 587 0 w (by omega), k1.1 588 0 w (by omega), k1.1 586 0 w (by omega)]
        obtain ⟨q1, q2, q3, q4, q5⟩ := q
        exact ⟨q3.trans (zp_nk (by decide)), q4.trans (zp_nk (by decide)), q5.trans (zp_nk (by decide)), fun _ => ⟨q1, q2⟩, fun z => absurd c2 (by rw [this]; exact z)⟩
  · have c2 : ¬ pa_sg X n (s.1 605 0 0) = 91 := by omega
    rw [if_neg c]
    refine zw_i ⟨rkf.rf, ?_, fun p ep => ?_⟩
    · cases o with
      | none => exact h.up (by omega)
      | some p =>
        have := pp p rfl
        rw [show ((some p : Option Int).bind fun p => (if pa_sg X n p = 91 then pa_cnt (pa_sg X n) st f U p else some (U, p)).map fun x => x.2) = (if pa_sg X n p = 91 then pa_cnt (pa_sg X n) st f U p else some (U, p)).map (fun x => x.2) from rfl, if_neg (show ¬ pa_sg X n p = 91 by rw [← this]; exact c2)]
        exact h.up (by omega)
    · have := pp p ep
      rw [this] at c2
      exact ⟨rfl, rfl, rfl, fun z => absurd z c2, fun _ => rfl⟩
theorem z159' {c : Int} : zf_159 c s = zi (if 65 ≤ c ∧ c ≤ 90 ∧ c ≠ 87 then 1 else 0) s := by
  unfold zf_159
  rw [z146, zC_zi]
  by_cases h1 : 65 ≤ c ∧ c ≤ 90
  · rw [if_pos h1, if_neg (by decide)]
    by_cases h2 : c = 87
    · rw [if_pos h2, if_neg (by omega)]
      rfl
    · rw [if_neg h2, if_pos (by omega)]
      rfl
  · rw [if_neg h1, if_pos rfl, if_neg (by omega)]
    rfl
/-- names behind the first one, and the count -/
def pa_mc (G : Int → Int) (st f : Int) (m : Nat) (U : yT) (p : Int) : Option (yT × Int) := (pa_more G f m U p).bind fun x => if G x.2 = 91 then pa_cnt G st f x.1 x.2 else some x
theorem r166_217 {f : Int} (hX : pa_X X n) (hf : f = 8 * st + T 453 st) (hw : w = 48 * t + f) (h8 : T 453 st < 8) : ∀ (m M : Nat) (p : Int) (U : yT) (s : zS), m < M → m ≤ 100 → p ≤ n → 2 * (100 - m) + 1 ≤ p → 0 ≤ U 451 0 → 2 * U 451 0 ≤ p → 0 ≤ U 450 0 → 2 * U 450 0 ≤ p → pa_kp f T U → rT t st T s → rS t X n (n + 10) (some p) s →
    zw (zf_166_217 M 0 t st w s) fun _ u => rkf w s u ∧ rS t X n (n + 20) ((pa_mc (pa_sg X n) st f m U p).map fun x => x.2) u ∧ ∀ x, pa_more (pa_sg X n) f m U p = some x → u.1 587 0 w = s.1 587 0 w ∧ u.1 588 0 w = s.1 588 0 w ∧ u.1 586 0 w = s.1 586 0 w ∧ (pa_sg X n x.2 = 91 → u.1 590 0 w = pm (pa_sg X n (x.2 + 1)) ∧ u.1 591 0 w = pe (pa_sg X n) (x.2 + 1)) ∧ (pa_sg X n x.2 ≠ 91 → u.1 590 0 w = s.1 590 0 w) := by
  intro m
  have hn := hX.1
  induction m with
  | zero =>
    intro M p U s hM h1 pn h2 c0 c1 d0 d1 hk hT h
    omega
  | succ m ih =>
    intro M p U s hM h1 pn h2 c0 c1 d0 d1 hk hT h
    obtain ⟨M, rfl⟩ : ∃ L, M = L + 1 := ⟨M - 1, by omega⟩
    have e6 := h.2.2.2.2.2.1
    have e5 := h.p5
    have hc := ra_c (X := X) (n := n) (p := p) (by omega)
    unfold zf_166_217
    rw [if_neg (show ¬ s.1 606 0 0 = 0 by omega), r156 h hn.2 (by omega), zC_zi, e5]
    unfold pa_mc
    rw [pa_more]
    by_cases c : pa_sg X n p = 124
    · have c2 : ra_sg X n p = 124 := by omega
      have l := pa_lt (X := X) (n := n) (p := p) (by omega)
      have hB := h.at (q := 1) (by decide)
      rw [e5] at hB
      have hc2 := ra_c (X := X) (n := n) (p := p + 1) (by omega)
      rw [if_pos c2, if_pos c, zg_ok ⟨by omega, by omega⟩, zP_ok, r156 hB hn.2 (by omega), zC_zi, show (zp 605 0 0 (p + 1) s).1 605 0 0 = p + 1 from zp_eq, z159', zC_zi]
      have F : rk s (zp 605 0 0 (p + 1) s) := rk.rf.pw (Or.inl rfl)
      unfold pa_cho
      by_cases d : 65 ≤ pa_sg X n (p + 1) ∧ pa_sg X n (p + 1) ≤ 90 ∧ pa_sg X n (p + 1) ≠ 87
      · have d2 : 65 ≤ ra_sg X n (p + 1) ∧ ra_sg X n (p + 1) ≤ 90 ∧ ra_sg X n (p + 1) ≠ 87 := by omega
        have l2 := pa_lt (X := X) (n := n) (p := p + 1) (by omega)
        obtain ⟨a1, a2, a3⟩ := r_step (K := fun s16 => zf_166_217 M 0 t st w s16) hB (by omega) (Or.inr rfl : (1 : Int) = 0 ∨ (1 : Int) = 1)
        have e65 : (zp 605 0 0 (p + 1) s).1 605 0 0 = p + 1 := zp_eq
        rw [e65] at a1 a2 a3
        rw [if_pos d2, a1, if_pos ⟨d, by omega⟩]
        rw [if_neg (by decide)] at a3
        have a3' : rS t X n (n + 10) (some (p + 1 + 1)) (zp 605 0 0 (p + 1 + 1) (zp 606 0 0 1 (zp 605 0 0 (p + 1) s))) := ⟨a3.1, a3.2.1, a3.2.2.1, by have := a3.p5; omega, a3.2.2.2.2⟩
        have hk2 : pa_kp f T (pa_w 451 0 (U 451 0 + 1) (pa_w 456 (U 451 0) (pa_sg X n (p + 1) - 65) U)) := hk.tr (pa_kp.cho (G := pa_sg X n) (p := p + 1) (x := (pa_w 451 0 (U 451 0 + 1) (pa_w 456 (U 451 0) (pa_sg X n (p + 1) - 65) U), p + 1 + 1)) (by unfold pa_cho; rw [if_pos ⟨d, by omega⟩]))
        have r := ih M (p + 1 + 1) (pa_w 451 0 (U 451 0 + 1) (pa_w 456 (U 451 0) (pa_sg X n (p + 1) - 65) U)) _ (by omega) (by omega) (by omega) (by omega) (by rw [pa_w_eq]; omega) (by rw [pa_w_eq]; omega) (by rw [pa_w_nk (by decide), pa_w_nk (by decide)]; exact d0) (by rw [pa_w_nk (by decide), pa_w_nk (by decide)]; omega) hk2 ((hT.rk F).rk a2) a3'
        refine r.mono fun v u ⟨g1, g2, g3⟩ => ⟨(rkf.of (F.tr a2)).tr g1, g2, fun x hx => ?_⟩
        have e := g3 x hx
        have z : ∀ g : Nat, g ≠ 605 → g ≠ 606 → (zp 605 0 0 (p + 1 + 1) (zp 606 0 0 1 (zp 605 0 0 (p + 1) s))).1 g 0 w = s.1 g 0 w := fun g y1 y2 => by rw [zp_nk y1, zp_nk y2, zp_nk y1]
        rw [z 587 (by decide) (by decide), z 588 (by decide) (by decide), z 586 (by decide) (by decide), z 590 (by decide) (by decide)] at e
        exact e
      · have d2 : ¬ (65 ≤ ra_sg X n (p + 1) ∧ ra_sg X n (p + 1) ≤ 90 ∧ ra_sg X n (p + 1) ≠ 87) := by omega
        obtain ⟨a1, a2, a3⟩ := r_step (K := fun s16 => zf_166_217 M 0 t st w s16) hB (by omega) (Or.inl rfl : (0 : Int) = 0 ∨ (0 : Int) = 1)
        rw [if_neg d2, a1, if_neg (fun z => d z.1)]
        rw [if_pos rfl] at a3
        have M1 : ∃ L, M = L + 1 := ⟨M - 1, by omega⟩
        obtain ⟨M, rfl⟩ := M1
        unfold zf_166_217
        have z6 : (zp 605 0 0 ((zp 605 0 0 (p + 1) s).1 605 0 0 + 1) (zp 606 0 0 0 (zp 605 0 0 (p + 1) s))).1 606 0 0 = 0 := a3.2.2.2.2.2
        rw [if_pos z6]
        refine (r166_267 hX hf hw h8 hk ((hT.rk F).rk a2) a3 ⟨by omega, by omega⟩ (fun p e => by cases e)).mono fun v u ⟨g1, g2, g3⟩ => ⟨(rkf.of (F.tr a2)).tr g1, g2.up (by omega), fun x hx => by cases hx⟩
    · have c2 : ¬ ra_sg X n p = 124 := by omega
      rw [if_neg c2, if_neg c]
      refine (r166_267 (U := pa_w 464 f (U 451 0) U) hX hf hw h8 (hk.w (by decide)) hT h ⟨by omega, by omega⟩ (fun p2 e => ?_)).mono fun v u ⟨g1, g2, g3⟩ => ⟨g1, g2.up (by omega), fun x hx => ?_⟩
      · injection e with e
        rw [pa_w_nk (by decide)]
        omega
      · injection hx with hx
        rw [← hx]
        exact g3 p rfl
end
