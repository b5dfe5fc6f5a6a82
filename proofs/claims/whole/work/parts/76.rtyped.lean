/-! the reference's parser: a type -/
def rF (w : Int) (G : Int → Int) (st f : Int) (T : yT) (p : Int) (U : yT) (u : zS) : Prop :=
  u.1 587 0 w = (if U 458 f = 65 ∨ U 458 f = 91 then 78 else U 458 f)
  ∧ u.1 588 0 w = (if U 458 f = 65 ∨ U 458 f = 91 then p else if U 458 f = 115 then p + 1 + 1 else p + 1)
  ∧ (U 458 f = 110 → u.1 589 0 w = U 459 f)
  ∧ u.1 590 0 w = (if U 458 f = 91 then (if U 465 f = 43 then 115 else U 465 f) else 0)
  ∧ (U 458 f = 91 → ∃ y q, pa_names G f (pa_w 458 f 65 T) p = some y ∧ G y.2 = 91 ∧ pa_cnt G st f y.1 y.2 = some (U, q) ∧ u.1 591 0 w = pe G (y.2 + 1))
section
variable {t st n N p w f : Int} {X : Int → Int} {T : yT} {s u : zS} {o : Option Int}
/-- behind the first writes -/
def rW (w c : Int) (s : zS) : zS := zp 590 0 w 0 (zp 588 0 w (s.1 605 0 0 + 1) (zp 587 0 w c (zp 605 0 0 (s.1 605 0 0 + 1) s)))
theorem rW_f {c : Int} : rkf w s (rW w c s) := (((rkf.rf.pw (Or.inl rfl)).qw (by decide)).qw (by decide)).qw (by decide)
theorem rW_s {c : Int} (h : rS t X n N o s) : rS t X n (N + 1) (o.map fun p => p + 1) (rW w c s) := (((h.at (q := 1) (by decide)).qw (by decide)).qw (by decide)).qw (by decide)
theorem rW_5 {c : Int} : (rW w c s).1 605 0 0 = s.1 605 0 0 + 1 := by
  unfold rW
  rw [zp_nk (by decide), zp_nk (by decide), zp_nk (by decide), zp_eq]
theorem rW_8 {c : Int} : (rW w c s).1 588 0 w = s.1 605 0 0 + 1 := by
  unfold rW
  rw [zp_nk (by decide), zp_eq]
theorem rW_7 {c : Int} : (rW w c s).1 587 0 w = c := by
  unfold rW
  rw [zp_nk (by decide), zp_nk (by decide), zp_eq]
theorem rW_0 {c : Int} : (rW w c s).1 590 0 w = 0 := zp_eq
theorem rW_6 {c : Int} : (rW w c s).1 586 0 w = s.1 586 0 w := by
  unfold rW
  rw [zp_nk (by decide), zp_nk (by decide), zp_nk (by decide), zp_nk (by decide)]
theorem rg (hX : pa_X X n) (hp : 0 ≤ p) : 0 ≤ ra_sg X n p ∧ ra_sg X n p ≤ 255 := by
  unfold ra_sg
  split
  · omega
  · exact hX.2 p hp (by omega)
theorem r166_bad (hX : pa_X X n) (hf : f = 8 * st + T 453 st) (hw : w = 48 * t + f) (h8 : T 453 st < 8) (hT : rT t st T s) (h : rS t X n N none s) (hN : n ≤ N ∧ N ≤ 40000) : zw (zf_166 0 t st w s) fun _ u => rkf w s u ∧ rS t X n (N + 20) none u := by
  have h4 := h.2.2.2.1
  have h1 := h.1
  have t1 := hT.1
  have t3 := hT.2.2.1
  have hw2 : 0 ≤ w ∧ w < 192 := by omega
  unfold zf_166
  rw [r156 h hX.1.2 (by omega), zC_zi, zg_ok ⟨by omega, by omega⟩, zP_ok, zW_ok hw2, show (zp 587 0 w (ra_sg X n (s.1 605 0 0)) (zp 605 0 0 (s.1 605 0 0 + 1) s)).1 605 0 0 = s.1 605 0 0 + 1 from rfl, zW_ok hw2, zW_ok hw2]
  have hS := rW_s (w := w) (c := ra_sg X n (s.1 605 0 0)) h
  have hF := rW_f (w := w) (c := ra_sg X n (s.1 605 0 0)) (s := s)
  have e5 := rW_5 (w := w) (c := ra_sg X n (s.1 605 0 0)) (s := s)
  have e6 := rW_6 (w := w) (c := ra_sg X n (s.1 605 0 0)) (s := s)
  have hS : rS t X n (N + 1) none (rW w (ra_sg X n (s.1 605 0 0)) s) := hS
  change zw (if ra_sg X n (s.1 605 0 0) = 114 then (if (rW w (ra_sg X n (s.1 605 0 0)) s).1 606 0 0 = 0 then zf_166_71 0 0 0 (rW w (ra_sg X n (s.1 605 0 0)) s) else _) else _) _
  generalize ra_sg X n (s.1 605 0 0) = c at hS hF e5 e6 ⊢
  generalize hv : rW w c s = v at hS hF e5 e6 ⊢
  have hvs : zp 590 0 w 0 (zp 588 0 w (s.1 605 0 0 + 1) (zp 587 0 w c (zp 605 0 0 (s.1 605 0 0 + 1) s))) = v := hv
  rw [hvs]
  have v6 : v.1 606 0 0 = 0 := hS.2.2.2.2.2
  have v4 := hS.2.2.2.1
  have hTv := hT.rkf hF (by omega)
  by_cases c1 : c = 114
  · rw [if_pos c1, if_pos v6]
    unfold zf_166_71
    obtain ⟨a1, a2, a3⟩ := r_step (K := fun s4 => zi 0 s4) hS (by omega) (Or.inl rfl : (0 : Int) = 0 ∨ (0 : Int) = 1)
    rw [a1]
    exact zw_i ⟨hF.tr (rkf.of a2), a3.up (by omega)⟩
  · rw [if_neg c1]
    by_cases c2 : c = 110
    · have g := rg (p := v.1 605 0 0) hX v4.1
      rw [if_pos c2, r156 hS hX.1.2 (by omega), zC_zi, zg_ok ⟨by omega, by omega⟩, zW_ok hw2, if_pos ((zp_nk (by decide)).trans v6)]
      have hS2 : rS t X n (N + 1) none (zp 589 0 w (ra_sg X n (v.1 605 0 0) - 48) v) := hS.qw (by decide)
      unfold zf_166_135
      obtain ⟨a1, a2, a3⟩ := r_step (K := fun s4 => zi 0 s4) hS2 (by omega) (Or.inl rfl : (0 : Int) = 0 ∨ (0 : Int) = 1)
      rw [a1]
      exact zw_i ⟨(hF.qw9 ⟨by omega, by omega⟩).tr (rkf.of a2), a3.up (by omega)⟩
    · rw [if_neg c2]
      by_cases c3 : c = 115
      · rw [if_pos c3]
        refine zw_C' (r157 hX (by decide) hS (by omega)) fun x u1 ⟨k1, k2, k3⟩ => ?_
        rw [zW_ok hw2]
        have F2 : rkf w s (zp 588 0 w (u1.1 605 0 0) u1) := (hF.tr (rkf.of k1)).qw (by decide)
        have k2 : rS t X n (N + 1 + 1) none u1 := k2
        refine zw_C' (r165' (f := f) (U := T) hX hf pa_kp.rf (hT.rkf F2 (by omega)) (k2.qw (w := w) (f := 588) (v := u1.1 605 0 0) (by decide)) ⟨by omega, by omega⟩ (fun p e => by cases e)) fun x u2 ⟨l1, l2⟩ => ?_
        refine zw_C' (r157 hX (by decide) l2 (by omega)) fun x u3 ⟨m1, m2, m3⟩ => zw_i ⟨(F2.tr (rkf.of l1)).tr (rkf.of m1), m2.up (by omega)⟩
      · rw [if_neg c3, z159', zC_zi]
        by_cases c4 : 65 ≤ c ∧ c ≤ 90 ∧ c ≠ 87
        · rw [if_pos c4, if_neg (by decide), zW_ok hw2, show (zp 587 0 w 78 v).1 605 0 0 = v.1 605 0 0 from rfl, zg_ok ⟨by omega, by omega⟩, zW_ok hw2]
          have F2 : rkf w s (zp 588 0 w (v.1 605 0 0 - 1) (zp 587 0 w 78 v)) := (hF.qw (by decide)).qw (by decide)
          have hS2 : rS t X n (N + 1) none (zp 588 0 w (v.1 605 0 0 - 1) (zp 587 0 w 78 v)) := (hS.qw (by decide)).qw (by decide)
          have : (xfu : Nat) = (xfu - 1) + 1 := by
            have := pa_fu (m := 1) (by decide)
            omega
          rw [this, zf_166_217, if_pos (show (zp 588 0 w (v.1 605 0 0 - 1) (zp 587 0 w 78 v)).1 606 0 0 = 0 from v6)]
          refine (r166_267 (U := T) hX hf hw h8 pa_kp.rf (hT.rkf F2 (by omega)) hS2 ⟨by omega, by omega⟩ (fun p e => by cases e)).mono fun x u ⟨g1, g2, g3⟩ => ⟨F2.tr g1, g2.up (by omega)⟩
        · rw [if_neg c4, if_pos rfl, if_pos v6, zPz_ok (by decide)]
          have m := hS.mk2 (rk.rf.pw (f := 606) (i := 0) (v := 0) (Or.inr rfl)) (zp_nk (by decide)) zp_eq (Or.inl rfl) v4
          rw [if_pos rfl] at m
          exact zw_i ⟨hF.pw (Or.inr rfl), m.up (by omega)⟩
theorem rF_plain {G : Int → Int} {U : yT} {k : Int} (hk : U 458 f = k) (k1 : k ≠ 65) (k2 : k ≠ 91) (a : u.1 587 0 w = k) (b : u.1 588 0 w = if k = 115 then p + 1 + 1 else p + 1) (c : k = 110 → u.1 589 0 w = U 459 f) (d : u.1 590 0 w = 0) : rF w G st f T p U u := by
  have n1 : ¬ (U 458 f = 65 ∨ U 458 f = 91) := by omega
  have n2 : ¬ U 458 f = 91 := by omega
  refine ⟨?_, ?_, fun z => c (by omega), ?_, fun z => absurd z n2⟩
  · rw [if_neg n1, hk]
    exact a
  · rw [if_neg n1, b, hk]
  · rw [if_neg n2]
    exact d
theorem pa_type0 {G : Int → Int} : pa_type G st f T p 0 = if 65 ≤ G p ∧ G p ≤ 90 ∧ G p ≠ 87 then ((pa_names G f (pa_w 458 f 65 T) p).bind fun x => if G x.2 = 91 then pa_cnt G st f x.1 x.2 else some x).map fun x => (x.1, x.2, 0)
  else pa_plain G st f (pa_w 459 f (if G p = 119 ∨ G p = 87 then 16 else 8) (pa_w 458 f (G p) T)) p 0 := by
  unfold pa_type
  rw [if_neg (fun z => z.2 rfl)]
theorem r166_good (hX : pa_X X n) (hf : f = 8 * st + T 453 st) (hw : w = 48 * t + f) (h8 : T 453 st < 8) (hT : rT t st T s) (h : rS t X n n (some p) s) (h0 : 1 ≤ p ∧ (0 ≤ T 450 0 ∧ 2 * T 450 0 ≤ p) ∧ 0 ≤ T 451 0 ∧ 2 * T 451 0 + 1 ≤ p) : zw (zf_166 0 t st w s) fun _ u => rkf w s u ∧ rS t X n (n + 20) ((pa_type (pa_sg X n) st f T p 0).map fun x => x.2.1) u ∧ ∀ x, pa_type (pa_sg X n) st f T p 0 = some x → u.1 586 0 w = s.1 586 0 w ∧ rF w (pa_sg X n) st f T p x.1 u := by
  have hn := hX.1
  have h4 := h.2.2.2.1
  have hp := h.p5
  have h1 := h.1
  have t1 := hT.1
  have t3 := hT.2.2.1
  have hw2 : 0 ≤ w ∧ w < 192 := by omega
  have hc := ra_c (X := X) (n := n) (p := p) (by omega)
  unfold zf_166
  rw [r156 h hn.2 (by omega), zC_zi, zg_ok ⟨by omega, by omega⟩, zP_ok, zW_ok hw2, show (zp 587 0 w (ra_sg X n (s.1 605 0 0)) (zp 605 0 0 (s.1 605 0 0 + 1) s)).1 605 0 0 = s.1 605 0 0 + 1 from rfl, zW_ok hw2, zW_ok hw2]
  have hS := rW_s (w := w) (c := ra_sg X n (s.1 605 0 0)) h
  have hF := rW_f (w := w) (c := ra_sg X n (s.1 605 0 0)) (s := s)
  have e5 := rW_5 (w := w) (c := ra_sg X n (s.1 605 0 0)) (s := s)
  have e6 := rW_6 (w := w) (c := ra_sg X n (s.1 605 0 0)) (s := s)
  have e7 := rW_7 (w := w) (c := ra_sg X n (s.1 605 0 0)) (s := s)
  have e8 := rW_8 (w := w) (c := ra_sg X n (s.1 605 0 0)) (s := s)
  have e0 := rW_0 (w := w) (c := ra_sg X n (s.1 605 0 0)) (s := s)
  have hS : rS t X n (n + 1) (some (p + 1)) (rW w (ra_sg X n (s.1 605 0 0)) s) := hS
  rw [hp] at hS hF e5 e6 e7 e8 e0 ⊢
  have hvs : zp 590 0 w 0 (zp 588 0 w (p + 1) (zp 587 0 w (ra_sg X n p) (zp 605 0 0 (p + 1) s))) = rW w (ra_sg X n p) s := by
    unfold rW
    rw [hp]
  rw [hvs, pa_type0]
  generalize rW w (ra_sg X n p) s = v at hS hF e5 e6 e7 e8 e0 ⊢
  have v6 : v.1 606 0 0 = 1 := hS.2.2.2.2.2.1
  have hTv := hT.rkf hF (by omega)
  generalize hr : ra_sg X n p = c at hc e7 ⊢
  have two := ra_c (X := X) (n := n) (p := p + 1) (by omega)
  have lt : c ≠ 0 → p < n ∧ c = pa_sg X n p := fun z => by omega
  have U58 : ∀ a : Int, (pa_w 459 f a (pa_w 458 f (pa_sg X n p) T)) 458 f = pa_sg X n p := fun a => by rw [pa_w_nk (by decide), pa_w_eq]
  by_cases c1 : c = 114
  · obtain ⟨l1, l2⟩ := lt (by omega)
    rw [if_pos c1, if_neg (show ¬ v.1 606 0 0 = 0 by omega), r156 hS hn.2 (by omega), zC_zi, e5, z159', zC_zi, if_neg (show ¬ (65 ≤ pa_sg X n p ∧ pa_sg X n p ≤ 90 ∧ pa_sg X n p ≠ 87) by omega)]
    unfold pa_plain
    rw [if_neg (show ¬ (pa_sg X n p = 98 ∨ pa_sg X n p = 119 ∨ pa_sg X n p = 87 ∨ pa_sg X n p = 122) by omega), if_pos (show pa_sg X n p = 114 by omega)]
    unfold zf_166_71
    by_cases d : 65 ≤ pa_sg X n (p + 1) ∧ pa_sg X n (p + 1) ≤ 90 ∧ pa_sg X n (p + 1) ≠ 87
    · have d2 : 65 ≤ ra_sg X n (p + 1) ∧ ra_sg X n (p + 1) ≤ 90 ∧ ra_sg X n (p + 1) ≠ 87 := by omega
      have l3 := pa_lt (X := X) (n := n) (p := p + 1) (by omega)
      obtain ⟨a1, a2, a3⟩ := r_step (K := fun s4 => zi 0 s4) hS (by omega) (Or.inr rfl : (1 : Int) = 0 ∨ (1 : Int) = 1)
      rw [if_neg (by decide), e5] at a3
      rw [e5] at a1 a2
      rw [if_pos d2, if_neg (by decide), a1]
      cases e : pa_cho (pa_sg X n) (pa_w 464 f ((pa_w 459 f (if pa_sg X n p = 119 ∨ pa_sg X n p = 87 then 16 else 8) (pa_w 458 f (pa_sg X n p) T)) 451 0 + 1) (pa_w 463 f ((pa_w 459 f (if pa_sg X n p = 119 ∨ pa_sg X n p = 87 then 16 else 8) (pa_w 458 f (pa_sg X n p) T)) 451 0) (pa_w 459 f (if pa_sg X n p = 119 ∨ pa_sg X n p = 87 then 16 else 8) (pa_w 458 f (pa_sg X n p) T)))) (p + 1) with
      | none =>
        unfold pa_cho at e
        rw [if_pos ⟨d, by rw [pa_w_nk (by decide), pa_w_nk (by decide), pa_w_nk (by decide), pa_w_nk (by decide)]; omega⟩] at e
        cases e
      | some x =>
        obtain ⟨q1, q2, q3, q4, q5, q6⟩ := pa_cho_k e
        refine zw_i ⟨hF.tr (rkf.of a2), ?_, fun y hy => ⟨(a2.1 586 0 w (by omega)).trans e6, ?_⟩⟩
        · rw [show ((some x).map fun x : yT × Int => (x.1, x.2, (0 : Int))).map (fun x => x.2.1) = some x.2 from rfl, q2]
          exact a3.up (by omega)
        · injection hy with hy
          rw [← hy]
          have g58 : x.1 458 f = 114 := by
            rw [q1 458 f (by decide) (by decide), pa_w_nk (by decide), pa_w_nk (by decide), U58]
            omega
          unfold rF
          dsimp only
          rw [g58, if_neg (by decide), if_neg (by decide), if_neg (by decide), if_neg (by decide), a2.1 587 0 w (by omega), a2.1 588 0 w (by omega), a2.1 590 0 w (by omega), e7, e8, e0]
          exact ⟨c1, rfl, fun z => absurd z (by decide), rfl, fun z => absurd z (by decide)⟩
    · have d2 : ¬ (65 ≤ ra_sg X n (p + 1) ∧ ra_sg X n (p + 1) ≤ 90 ∧ ra_sg X n (p + 1) ≠ 87) := by omega
      obtain ⟨a1, a2, a3⟩ := r_step (K := fun s4 => zi 0 s4) hS (by omega) (Or.inl rfl : (0 : Int) = 0 ∨ (0 : Int) = 1)
      rw [if_pos rfl] at a3
      rw [if_neg d2, if_pos rfl, a1]
      unfold pa_cho
      rw [if_neg (fun z => d z.1)]
      exact zw_i ⟨hF.tr (rkf.of a2), a3.up (by omega), fun y hy => by cases hy⟩
  · rw [if_neg c1]
    by_cases c2 : c = 110
    · obtain ⟨l1, l2⟩ := lt (by omega)
      have g := rg (p := p + 1) hX (by omega)
      rw [if_pos c2, r156 hS hn.2 (by omega), zC_zi, e5, zg_ok ⟨by omega, by omega⟩, zW_ok hw2, if_neg (show ¬ (zp 589 0 w (ra_sg X n (p + 1) - 48) v).1 606 0 0 = 0 by rw [zp_nk (by decide)]; omega), zn_ok hw2, zp_eq, z146, zC_zi, if_neg (show ¬ (65 ≤ pa_sg X n p ∧ pa_sg X n p ≤ 90 ∧ pa_sg X n p ≠ 87) by omega)]
      unfold pa_plain
      rw [if_neg (show ¬ (pa_sg X n p = 98 ∨ pa_sg X n p = 119 ∨ pa_sg X n p = 87 ∨ pa_sg X n p = 122) by omega), if_neg (show ¬ pa_sg X n p = 114 by omega), if_pos (show pa_sg X n p = 110 by omega)]
      have hS2 : rS t X n (n + 1) (some (p + 1)) (zp 589 0 w (ra_sg X n (p + 1) - 48) v) := hS.qw (by decide)
      have e52 : (zp 589 0 w (ra_sg X n (p + 1) - 48) v).1 605 0 0 = p + 1 := (zp_nk (by decide)).trans e5
      unfold zf_166_135
      by_cases d : 1 ≤ ra_sg X n (p + 1) - 48 ∧ ra_sg X n (p + 1) - 48 ≤ 8
      · have d3 : pa_sg X n (p + 1) = ra_sg X n (p + 1) := by omega
        obtain ⟨a1, a2, a3⟩ := r_step (K := fun s4 => zi 0 s4) hS2 (by omega) (Or.inr rfl : (1 : Int) = 0 ∨ (1 : Int) = 1)
        rw [if_neg (by decide), e52] at a3
        rw [e52] at a1 a2
        rw [if_pos d, if_neg (by decide), a1, d3, if_neg (show ¬ (ra_sg X n (p + 1) - 48 < 1 ∨ 8 - 0 < ra_sg X n (p + 1) - 48) by omega)]
        refine zw_i ⟨(hF.qw9 ⟨by omega, by omega⟩).tr (rkf.of a2), a3.up (by omega), fun y hy => ⟨((a2.1 586 0 w (by omega)).trans (zp_nk (by decide))).trans e6, ?_⟩⟩
        injection hy with hy
        rw [← hy]
        dsimp only
        refine rF_plain (k := 110) (by rw [pa_w_nk (by decide), pa_w_nk (by decide), U58]; omega) (by decide) (by decide) ?_ ?_ (fun _ => ?_) ?_
        · rw [a2.1 587 0 w (by omega), zp_nk (by decide), e7, c2]
        · rw [a2.1 588 0 w (by omega), zp_nk (by decide), e8, if_neg (by decide)]
        · rw [a2.1 589 0 w (by omega), zp_eq, pa_w_nk (by decide), pa_w_eq]
        · rw [a2.1 590 0 w (by omega), zp_nk (by decide), e0]
      · obtain ⟨a1, a2, a3⟩ := r_step (K := fun s4 => zi 0 s4) hS2 (by omega) (Or.inl rfl : (0 : Int) = 0 ∨ (0 : Int) = 1)
        rw [if_pos rfl] at a3
        rw [if_neg d, if_pos rfl, a1, if_pos (show pa_sg X n (p + 1) - 48 < 1 ∨ 8 - 0 < pa_sg X n (p + 1) - 48 by omega)]
        exact zw_i ⟨(hF.qw9 ⟨by omega, by omega⟩).tr (rkf.of a2), a3.up (by omega), fun y hy => by cases hy⟩
    · rw [if_neg c2]
      by_cases c3 : c = 115
      · obtain ⟨l1, l2⟩ := lt (by omega)
        rw [if_pos c3, if_neg (show ¬ (65 ≤ pa_sg X n p ∧ pa_sg X n p ≤ 90 ∧ pa_sg X n p ≠ 87) by omega)]
        unfold pa_plain
        rw [if_neg (show ¬ (pa_sg X n p = 98 ∨ pa_sg X n p = 119 ∨ pa_sg X n p = 87 ∨ pa_sg X n p = 122) by omega), if_neg (show ¬ pa_sg X n p = 114 by omega), if_neg (show ¬ pa_sg X n p = 110 by omega)]
        rw [show (if pa_sg X n p = 119 ∨ pa_sg X n p = 87 then (16 : Int) else 8) = 8 from if_neg (by omega)]
        refine zw_C' (r157 hX (by decide) hS (by omega)) fun x u1 ⟨k1, k2, k3⟩ => ?_
        rw [zW_ok hw2]
        have F2 : rkf w s (zp 588 0 w (u1.1 605 0 0) u1) := (hF.tr (rkf.of k1)).qw (by decide)
        have k2 : rS t X n (n + 1 + 1) (if pa_sg X n (p + 1) = 40 then some (p + 1 + 1) else none) u1 := k2
        refine zw_C' (r165' (f := f) (U := pa_w 459 f 8 (pa_w 458 f (pa_sg X n p) T)) hX hf ((pa_kp.rf.w (by decide)).w (by decide)) (hT.rkf F2 (by omega)) (k2.qw (w := w) (f := 588) (v := u1.1 605 0 0) (by decide)) ⟨by omega, by omega⟩ (fun p2 e => ?_)) fun x u2 ⟨l1, l2⟩ => ?_
        · by_cases d : pa_sg X n (p + 1) = 40
          · rw [if_pos d] at e
            have e : p + 1 + 1 = p2 := Option.some.inj e
            have l3 := pa_lt (X := X) (n := n) (p := p + 1) (by omega)
            rw [pa_w_nk (by decide), pa_w_nk (by decide)]
            omega
          · rw [if_neg d] at e
            cases e
        · refine zw_C' (r157 hX (by decide) l2 (by omega)) fun x u3 ⟨m1, m2, m3⟩ => zw_i ⟨(F2.tr (rkf.of l1)).tr (rkf.of m1), ?_, fun y hy => ?_⟩
          · by_cases d : pa_sg X n (p + 1) = 40
            · rw [if_pos ⟨by omega, d⟩]
              rw [if_pos d] at m2
              have m2 := m2.up (M := n + 20) (by omega)
              revert m2
              unfold pa_acc
              dsimp only [Option.bind, Option.map]
              cases pa_sum (pa_sg X n) st f (pa_w 459 f 8 (pa_w 458 f (pa_sg X n p) T)) (p + 1 + 1) with
              | none => exact fun z => z
              | some y =>
                dsimp only
                intro m2
                by_cases d3 : pa_sg X n y.2 = 41
                · rw [if_pos d3] at m2 ⊢
                  exact m2
                · rw [if_neg d3] at m2 ⊢
                  exact m2
            · rw [if_neg (fun z => d z.2)]
              rw [if_neg d] at m2
              exact m2.up (by omega)
          · by_cases d : pa_sg X n (p + 1) = 40
            · rw [if_pos ⟨by omega, d⟩] at hy
              cases e : pa_acc (pa_sg X n) 41 (pa_sum (pa_sg X n) st f (pa_w 459 f 8 (pa_w 458 f (pa_sg X n p) T)) (p + 1 + 1)) with
              | none => rw [e] at hy; cases hy
              | some z =>
                rw [e] at hy
                injection hy with hy
                rw [← hy]
                obtain ⟨z2, e2, rfl, -⟩ := pa_kp.acc e
                have k := pa_sum_k e2
                dsimp only
                rw [m1.1 586 0 w (by omega), l1.1 586 0 w (by omega), zp_nk (by decide), k1.1 586 0 w (by omega)]
                refine ⟨e6, ?_⟩
                unfold rF
                rw [k 458 f (by decide) (by decide) (by decide) (by omega), U58, show pa_sg X n p = 115 by omega, if_neg (by decide), if_neg (by decide), if_pos rfl, if_neg (by decide), m1.1 587 0 w (by omega), l1.1 587 0 w (by omega), zp_nk (by decide), k1.1 587 0 w (by omega), m1.1 588 0 w (by omega), l1.1 588 0 w (by omega), zp_eq, m1.1 590 0 w (by omega), l1.1 590 0 w (by omega), zp_nk (by decide), k1.1 590 0 w (by omega), e7, e0, k3, e5]
                exact ⟨c3, rfl, fun z => absurd z (by decide), rfl, fun z => absurd z (by decide)⟩
            · rw [if_neg (fun z => d z.2)] at hy
              cases hy
      · rw [if_neg c3, z159', zC_zi]
        by_cases c4 : 65 ≤ c ∧ c ≤ 90 ∧ c ≠ 87
        · obtain ⟨l1, l2⟩ := lt (by omega)
          have d : 65 ≤ pa_sg X n p ∧ pa_sg X n p ≤ 90 ∧ pa_sg X n p ≠ 87 := by omega
          have e52 : (zp 587 0 w 78 v).1 605 0 0 = p + 1 := e5
          rw [if_pos c4, if_neg (by decide), zW_ok hw2, e52, show p + 1 - 1 = p by omega, zg_ok ⟨by omega, by omega⟩, zW_ok hw2, if_pos d]
          have F2 : rkf w s (zp 588 0 w p (zp 587 0 w 78 v)) := (hF.qw (by decide)).qw (by decide)
          have hS2 : rS t X n (n + 10) (some (p + 1)) (zp 588 0 w p (zp 587 0 w 78 v)) := ((hS.qw (by decide)).qw (by decide)).up (by omega)
          cases e : pa_cho (pa_sg X n) (pa_w 463 f ((pa_w 458 f 65 T) 451 0) (pa_w 458 f 65 T)) p with
          | none =>
            unfold pa_cho at e
            rw [if_pos ⟨d, by rw [pa_w_nk (by decide), pa_w_nk (by decide)]; omega⟩] at e
            cases e
          | some x =>
            obtain ⟨q1, q2, q3, q4, q5, q6⟩ := pa_cho_k e
            rw [pa_w_nk (by decide), pa_w_nk (by decide)] at q5
            have K := pa_kp.cho (f := f) e
            have E : pa_names (pa_sg X n) f (pa_w 458 f 65 T) p = pa_more (pa_sg X n) f 100 x.1 x.2 := by
              unfold pa_names
              rw [e]
              rfl
            rw [E, q2]
            refine (r166_217 hX hf hw h8 100 xfu (p + 1) x.1 _ (pa_fu (by decide)) (by decide) (by omega) (by omega) (by omega) (by omega) (by rw [q1 450 0 (by decide) (by decide), pa_w_nk (by decide), pa_w_nk (by decide)]; omega) (by rw [q1 450 0 (by decide) (by decide), pa_w_nk (by decide), pa_w_nk (by decide)]; omega) (((pa_kp.rf.w (by decide)).w (by decide)).tr K) (hT.rkf F2 (by omega)) hS2).mono fun r u ⟨g1, g2, g3⟩ => ⟨F2.tr g1, ?_, fun y hy => ?_⟩
            · unfold pa_mc at g2
              revert g2
              cases ((pa_more (pa_sg X n) f 100 x.1 (p + 1)).bind fun x => if pa_sg X n x.2 = 91 then pa_cnt (pa_sg X n) st f x.1 x.2 else some x) with
              | none => exact fun z => z
              | some z => exact fun z => z
            · cases e2 : pa_more (pa_sg X n) f 100 x.1 (p + 1) with
              | none => rw [e2] at hy; cases hy
              | some z =>
                rw [e2] at hy
                obtain ⟨b1, b2, b3, b4, b5⟩ := g3 z e2
                have N := pa_names_k (E.trans (by rw [q2]; exact e2))
                have b1 : u.1 587 0 w = 78 := b1.trans ((zp_nk (by decide)).trans zp_eq)
                have b2 : u.1 588 0 w = p := b2.trans zp_eq
                have b3 : u.1 586 0 w = s.1 586 0 w := b3.trans (((zp_nk (by decide)).trans (zp_nk (by decide))).trans e6)
                have hy : (if pa_sg X n z.2 = 91 then pa_cnt (pa_sg X n) st f z.1 z.2 else some z).map (fun x => (x.1, x.2, (0 : Int))) = some y := hy
                refine ⟨b3, ?_⟩
                unfold rF
                by_cases d3 : pa_sg X n z.2 = 91
                · rw [if_pos d3] at hy
                  cases e3 : pa_cnt (pa_sg X n) st f z.1 z.2 with
                  | none => rw [e3] at hy; cases hy
                  | some a =>
                    rw [e3] at hy
                    injection hy with hy
                    rw [← hy]
                    dsimp only
                    obtain ⟨k1, k2, k3⟩ := pa_cnt_k e3
                    obtain ⟨b4, b6⟩ := b4 d3
                    rw [k1, if_pos (Or.inr rfl), if_pos (Or.inr rfl), if_pos rfl, b1, b2, b4, b6, k2]
                    refine ⟨rfl, rfl, fun z => absurd z (by decide), ?_, fun _ => ⟨z, a.2, E.trans (by rw [q2]; exact e2), d3, e3, rfl⟩⟩
                    unfold pm
                    by_cases d4 : pa_sg X n (z.2 + 1) = 42 ∨ pa_sg X n (z.2 + 1) = 33 ∨ pa_sg X n (z.2 + 1) = 63
                    · rw [if_pos d4, if_pos d4, if_neg (by omega)]
                    · rw [if_neg d4, if_neg d4, if_pos rfl]
                · rw [if_neg d3] at hy
                  injection hy with hy
                  rw [← hy]
                  dsimp only
                  have k1 : z.1 458 f = 65 := by
                    rw [N.1 458 f (by decide) (by decide) (by omega), pa_w_eq]
                  have b5 := (b5 d3).trans (((zp_nk (by decide)).trans (zp_nk (by decide))).trans e0)
                  rw [k1, if_pos (Or.inl rfl), if_pos (Or.inl rfl), if_neg (by decide), b1, b2, b5]
                  exact ⟨rfl, rfl, fun z => absurd z (by decide), rfl, fun z => absurd z (by decide)⟩
        · rw [if_neg c4, if_pos rfl, if_neg (show ¬ v.1 606 0 0 = 0 by omega), if_neg (show ¬ (65 ≤ pa_sg X n p ∧ pa_sg X n p ≤ 90 ∧ pa_sg X n p ≠ 87) by omega)]
          unfold pa_plain
          have v4 := hS.2.2.2.1
          have yes : ∀ (c2 : c = 98 ∨ c = 119 ∨ c = 87 ∨ c = 122), zw (zPz 606 0 1 v fun s17 => zi 0 s17) fun _ u => rkf w s u ∧ rS t X n (n + 20) ((if pa_sg X n p = 98 ∨ pa_sg X n p = 119 ∨ pa_sg X n p = 87 ∨ pa_sg X n p = 122 then some ((pa_w 459 f (if pa_sg X n p = 119 ∨ pa_sg X n p = 87 then 16 else 8) (pa_w 458 f (pa_sg X n p) T)), p + 1, (0 : Int)) else none).map fun x => x.2.1) u ∧ ∀ x, (if pa_sg X n p = 98 ∨ pa_sg X n p = 119 ∨ pa_sg X n p = 87 ∨ pa_sg X n p = 122 then some ((pa_w 459 f (if pa_sg X n p = 119 ∨ pa_sg X n p = 87 then 16 else 8) (pa_w 458 f (pa_sg X n p) T)), p + 1, (0 : Int)) else none) = some x → u.1 586 0 w = s.1 586 0 w ∧ rF w (pa_sg X n) st f T p x.1 u := by
            intro c2
            obtain ⟨l1, l2⟩ := lt (by omega)
            have m := hS.mk2 (M := n + 20) (rk.rf.pw (f := 606) (i := 0) (v := 1) (Or.inr rfl)) ((zp_nk (by decide)).trans e5) zp_eq (Or.inr rfl) (by omega)
            rw [if_neg (by decide)] at m
            rw [zPz_ok (by decide), if_pos (by omega)]
            refine zw_i ⟨hF.pw (Or.inr rfl), m, fun y hy => ⟨(zp_nk (by decide)).trans e6, ?_⟩⟩
            injection hy with hy
            rw [← hy]
            dsimp only
            refine rF_plain (k := c) ((U58 _).trans l2.symm) (by omega) (by omega) ?_ ?_ (fun z => by omega) ?_
            · rw [zp_nk (by decide), e7]
            · rw [zp_nk (by decide), e8, if_neg (by omega)]
            · rw [zp_nk (by decide), e0]
          rw [if_neg (show ¬ pa_sg X n p = 114 by omega), if_neg (show ¬ pa_sg X n p = 110 by omega), if_neg (show ¬ (pa_sg X n p = 115 ∧ pa_sg X n (p + 1) = 40) by omega)]
          by_cases d1 : c = 98
          · rw [if_pos d1]
            exact yes (by omega)
          · rw [if_neg d1]
            by_cases d2 : c = 119
            · rw [if_pos d2]
              exact yes (by omega)
            · rw [if_neg d2]
              by_cases d3 : c = 87
              · rw [if_pos d3]
                exact yes (by omega)
              · rw [if_neg d3]
                by_cases d4 : c = 122
                · rw [if_pos d4]
                  exact yes (by omega)
                · have m := hS.mk2 (M := n + 20) (rk.rf.pw (f := 606) (i := 0) (v := 0) (Or.inr rfl)) ((zp_nk (by decide)).trans e5) zp_eq (Or.inl rfl) (by omega)
                  rw [if_pos rfl] at m
                  rw [if_neg d4, zPz_ok (by decide), if_neg (by omega)]
                  exact zw_i ⟨hF.pw (Or.inr rfl), m, fun y hy => by cases hy⟩
end
