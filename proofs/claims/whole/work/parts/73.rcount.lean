/-! the reference's parser: counts -/
def rkf (w : Int) (s u : zS) : Prop := (∀ (f n : Nat) (i : Int), ¬ (n = 0 ∧ (f = 605 ∨ f = 606 ∨ 586 ≤ f ∧ f ≤ 593 ∧ i = w)) → u.1 f n i = s.1 f n i) ∧ u.2 = s.2 ∧ (-48 ≤ s.1 589 0 w ∧ s.1 589 0 w ≤ 207 → -48 ≤ u.1 589 0 w ∧ u.1 589 0 w ≤ 207)
theorem rkf.rf {w : Int} {s : zS} : rkf w s s := ⟨fun _ _ _ _ => rfl, rfl, fun h => h⟩
theorem rkf.tr {w : Int} {s t u : zS} (a : rkf w s t) (b : rkf w t u) : rkf w s u := ⟨fun f n i h => (b.1 f n i h).trans (a.1 f n i h), b.2.1.trans a.2.1, fun h => b.2.2 (a.2.2 h)⟩
theorem rkf.of {w : Int} {s t : zS} (a : rk s t) : rkf w s t := ⟨fun f n i h => a.1 f n i (by omega), a.2, fun h => by
  rw [a.1 589 0 w (by omega)]
  exact h⟩
theorem rkf.pw {w : Int} {s t : zS} {f : Nat} {i v : Int} (a : rkf w s t) (h : f = 605 ∨ f = 606) : rkf w s (zp f 0 i v t) := by
  refine ⟨fun f' n' i' hn => ?_, a.2.1, fun h2 => ?_⟩
  · rw [zp_ne (fun z => hn ⟨z.2, by omega⟩)]
    exact a.1 f' n' i' hn
  · rw [zp_nk (by omega)]
    exact a.2.2 h2
theorem zp_fr {w : Int} {s t : zS} {f : Nat} {v : Int} (a : ∀ (f n : Nat) (i : Int), ¬ (n = 0 ∧ (f = 605 ∨ f = 606 ∨ 586 ≤ f ∧ f ≤ 593 ∧ i = w)) → t.1 f n i = s.1 f n i) (h : 586 ≤ f ∧ f ≤ 593) : ∀ (f' n : Nat) (i : Int), ¬ (n = 0 ∧ (f' = 605 ∨ f' = 606 ∨ 586 ≤ f' ∧ f' ≤ 593 ∧ i = w)) → (zp f 0 w v t).1 f' n i = s.1 f' n i := fun f' n' i' hn => by
  by_cases c : f' = f ∧ n' = 0
  · rw [zp_1, if_neg (fun z => hn ⟨c.2, by omega⟩)]
    exact a f' n' i' hn
  · rw [zp_ne c]
    exact a f' n' i' hn
theorem rkf.qw {w : Int} {s t : zS} {f : Nat} {v : Int} (a : rkf w s t) (h : (586 ≤ f ∧ f ≤ 593) ∧ f ≠ 589) : rkf w s (zp f 0 w v t) := ⟨zp_fr a.1 h.1, a.2.1, fun h2 => by
  rw [zp_nk (by omega)]
  exact a.2.2 h2⟩
theorem rkf.qw9 {w : Int} {s t : zS} {v : Int} (a : rkf w s t) (h : -48 ≤ v ∧ v ≤ 207) : rkf w s (zp 589 0 w v t) := ⟨zp_fr a.1 (by decide), a.2.1, fun _ => by
  rw [zp_eq]
  exact h⟩
section
variable {t st n N p w : Int} {X : Int → Int} {T U : yT} {s u : zS} {o : Option Int}
theorem rT.rkf (h : rT t st T s) (a : rkf w s u) (hw : w = 48 * t + (8 * st + T 453 st)) : rT t st T u := by
  obtain ⟨h1, h2, h3, h4, h5⟩ := h
  refine ⟨h1, (a.1 585 0 _ (by omega)).trans h2, h3, fun k k1 k2 => ?_, h5⟩
  rw [a.1 586 0 _ (by omega), a.1 587 0 _ (by omega)]
  exact h4 k k1 k2
theorem rS.up {M : Int} (h : rS t X n N o s) (hM : N ≤ M) : rS t X n M o s := ⟨h.1, h.2.1, h.2.2.1, by have := h.2.2.2.1; omega, h.2.2.2.2⟩
/-- a state in which other tables have changed -/
theorem rS.kf (h : rS t X n N o s) (a : ∀ (f n : Nat) (i : Int), ¬ (n = 0 ∧ (f = 605 ∨ f = 606 ∨ 586 ≤ f ∧ f ≤ 593 ∧ i = w)) → u.1 f n i = s.1 f n i) (e5 : u.1 605 0 0 = s.1 605 0 0) (e6 : u.1 606 0 0 = s.1 606 0 0) : rS t X n N o u := by
  obtain ⟨h1, h2, h3, h4, h5, h6⟩ := h
  refine ⟨h1, (a 603 0 _ (by omega)).trans h2, (a 604 0 _ (by omega)).trans h3, by rw [e5]; exact h4, fun i i1 i2 => (a 581 0 _ (by omega)).trans (h5 i i1 i2), ?_⟩
  cases o with
  | none => exact e6.trans h6
  | some p => exact ⟨e6.trans h6.1, e5.trans h6.2⟩
theorem rS.qw {f : Nat} {v : Int} (h : rS t X n N o s) (hf : 586 ≤ f ∧ f ≤ 593) : rS t X n N o (zp f 0 w v s) := h.kf (w := w) (zp_fr (fun _ _ _ _ => rfl) hf) (zp_nk (by omega)) (zp_nk (by omega))
/-- at goes on -/
theorem rS.at {q : Int} (h : rS t X n N o s) (hq : 0 ≤ q) : rS t X n (N + q) (o.map fun p => p + q) (zp 605 0 0 (s.1 605 0 0 + q) s) := by
  have h4 := h.2.2.2.1
  have m := h.mk2 (M := N + q) (rk.rf.pw (Or.inl rfl)) zp_eq (zp_nk (by decide)) (by rcases h.ob with g | g <;> omega) (show 0 ≤ s.1 605 0 0 + q ∧ s.1 605 0 0 + q ≤ N + q by omega)
  rcases h.ob with ⟨e1, e2⟩ | ⟨e1, e2⟩
  · rw [if_pos e1] at m
    rw [e2]
    exact m
  · rw [if_neg (show ¬ s.1 606 0 0 = 0 by omega)] at m
    rw [e2]
    exact m
theorem rS.p5 (h : rS t X n N (some p) s) : s.1 605 0 0 = p := h.2.2.2.2.2.2
theorem r165' {f : Int} (hX : pa_X X n) (hf : f = 8 * st + T 453 st) (hk : pa_kp f T U) (hT : rT t st T s) (h : rS t X n N o s) (hN : n ≤ N ∧ N ≤ 70000) (ho : ∀ p, o = some p → p ≤ n ∧ 1 ≤ p ∧ 0 ≤ U 450 0 ∧ 2 * U 450 0 + 1 ≤ p) : zw (zf_165 0 t st s) fun _ u => rk s u ∧ rS t X n (N + 4) (o.bind fun p => (pa_sum (pa_sg X n) st f U p).map fun x => x.2) u := by
  unfold zf_165
  cases o with
  | none =>
    refine zw_C' (r163 hX hT h ⟨hN.1, by omega⟩) fun v u ⟨g1, g2⟩ => ?_
    have e6 : u.1 606 0 0 = 0 := g2.2.2.2.2.2
    have : (xfu : Nat) = (xfu - 1) + 1 := by
      have := pa_fu (m := 1) (by decide)
      omega
    rw [this, zf_165_6, if_pos e6]
    exact zw_i ⟨g1, g2.up (by omega)⟩
  | some p =>
    obtain ⟨h1, h2, h0, h3⟩ := ho p rfl
    have e5 := h.p5
    have hs : rS t X n (n + 1) (some p) s := ⟨h.1, h.2.1, h.2.2.1, by have := h.2.2.2.1; omega, h.2.2.2.2⟩
    refine (r165 hX hf 100 xfu 43 p (pa_w 461 f (U 450 0) U) s (pa_fu (by decide)) (by decide) h1 (by omega) (by rw [pa_w_nk (by decide)]; exact h0) (by rw [pa_w_nk (by decide)]; exact h3) (hk.w (by decide)) hT hs).mono fun v u ⟨g1, g2⟩ => ⟨g1, ?_⟩
    exact g2.up (by omega)
/-- the place where a count's sum or number stands -/
def pe (G : Int → Int) (p : Int) : Int := if G p = 42 ∨ G p = 33 ∨ G p = 63 then p + 1 else p
def pm (c : Int) : Int := if c = 42 ∨ c = 33 ∨ c = 63 then c else 115
/-- a count, without its closing sign -/
def pa_cb (G : Int → Int) (st f : Int) (U : yT) (p : Int) : Option Int :=
  if G p = 42 then some (p + 1) else if G p = 33 then (if 48 ≤ G (p + 1) ∧ G (p + 1) ≤ 57 then some (mNum G 3 0 (p + 1)).2 else none)
  else if G p = 63 then (pa_sum G st f (pa_w 465 f 63 (pa_w 465 f 43 (pa_w 458 f 91 U))) (p + 1)).map fun x => x.2 else (pa_sum G st f (pa_w 465 f 43 (pa_w 458 f 91 U)) p).map fun x => x.2
theorem r167 {f : Int} (hX : pa_X X n) (hf : f = 8 * st + T 453 st) (hw : w = 48 * t + f) (h8 : T 453 st < 8) (hk : pa_kp f T U) (hT : rT t st T s) (h : rS t X n N o s) (hN : n ≤ N ∧ N ≤ 60000) (ho : ∀ p, o = some p → p ≤ n ∧ 1 ≤ p ∧ 0 ≤ U 450 0 ∧ 2 * U 450 0 + 1 ≤ p) : zw (zf_167 0 t st w s) fun _ u => rkf w s u ∧ rS t X n (N + 5) (o.bind fun p => pa_cb (pa_sg X n) st f U p) u ∧ ∀ p, o = some p → u.1 590 0 w = pm (pa_sg X n p) ∧ u.1 591 0 w = pe (pa_sg X n) p ∧ u.1 587 0 w = s.1 587 0 w ∧ u.1 588 0 w = s.1 588 0 w ∧ u.1 586 0 w = s.1 586 0 w := by
  have h4 := h.2.2.2.1
  have h1 := h.1
  have t1 := hT.1
  have t3 := hT.2.2.1
  have hw2 : 0 ≤ w ∧ w < 192 := by omega
  have hc := ra_c (X := X) (n := n) (p := s.1 605 0 0) h4.1
  unfold zf_167
  rw [r156 h hX.1.2 (by omega), zC_zi]
  have main : ∀ (c m q : Int), c = ra_sg X n (s.1 605 0 0) → (m = 115 ∧ q = 0 ∧ c ≠ 42 ∧ c ≠ 33 ∧ c ≠ 63 ∨ m = c ∧ q = 1 ∧ (c = 42 ∨ c = 33 ∨ c = 63)) → zw (zf_167_39 0 t st w c 0 w m s) fun _ u => rkf w s u ∧ rS t X n (N + 5) (o.bind fun p => pa_cb (pa_sg X n) st f U p) u ∧ ∀ p, o = some p → u.1 590 0 w = pm (pa_sg X n p) ∧ u.1 591 0 w = pe (pa_sg X n) p ∧ u.1 587 0 w = s.1 587 0 w ∧ u.1 588 0 w = s.1 588 0 w ∧ u.1 586 0 w = s.1 586 0 w := by
    intro c m q e hm
    unfold zf_167_39
    rw [zW_ok hw2, zn_ok hw2, zp_eq]
    have e5 : (zp 590 0 w m s).1 605 0 0 = s.1 605 0 0 := zp_nk (by decide)
    have hA : rS t X n N o (zp 590 0 w m s) := h.qw (by decide)
    have hB := hA.at (q := q) (by omega)
    have hC : rS t X n (N + q) (o.map fun p => p + q) (zp 591 0 w (s.1 605 0 0 + q) (zp 605 0 0 (s.1 605 0 0 + q) (zp 590 0 w m s))) := by
      rw [e5] at hB
      exact hB.qw (by decide)
    have FC : rkf w s (zp 591 0 w (s.1 605 0 0 + q) (zp 605 0 0 (s.1 605 0 0 + q) (zp 590 0 w m s))) := ((rkf.rf.qw (by decide)).pw (Or.inl rfl)).qw (by decide)
    have hT2 := hT.rkf FC (by omega)
    have c590 : (zp 591 0 w (s.1 605 0 0 + q) (zp 605 0 0 (s.1 605 0 0 + q) (zp 590 0 w m s))).1 590 0 w = m := by
      rw [zp_nk (by decide), zp_nk (by decide), zp_eq]
    have c591 : (zp 591 0 w (s.1 605 0 0 + q) (zp 605 0 0 (s.1 605 0 0 + q) (zp 590 0 w m s))).1 591 0 w = s.1 605 0 0 + q := zp_eq
    have cl : ∀ g : Nat, g ≠ 590 → g ≠ 591 → g ≠ 605 → (zp 591 0 w (s.1 605 0 0 + q) (zp 605 0 0 (s.1 605 0 0 + q) (zp 590 0 w m s))).1 g 0 w = s.1 g 0 w := fun g g1 g2 g3 => by
      rw [zp_nk g2, zp_nk g3, zp_nk g1]
    have two : (if m = 115 then zf_167_61 0 t st w c 0 ((zp 590 0 w m s).1 605 0 0) 0 (zp 590 0 w m s) else zf_167_61 0 t st w c 0 ((zp 590 0 w m s).1 605 0 0) 1 (zp 590 0 w m s)) = zf_167_61 0 t st w c 0 (s.1 605 0 0) q (zp 590 0 w m s) := by
      rw [e5]
      rcases hm with ⟨m1, m2, m3⟩ | ⟨m1, m2, m3⟩
      · rw [if_pos m1, m2]
      · rw [if_neg (show ¬ m = 115 by omega), m2]
    rw [two]
    unfold zf_167_61
    rw [zg_ok ⟨by omega, by omega⟩, zP_ok, zp_eq, zW_ok hw2]
    have fin : ∀ u : zS, rk (zp 591 0 w (s.1 605 0 0 + q) (zp 605 0 0 (s.1 605 0 0 + q) (zp 590 0 w m s))) u → rS t X n (N + 5) (o.bind fun p => pa_cb (pa_sg X n) st f U p) u → rkf w s u ∧ rS t X n (N + 5) (o.bind fun p => pa_cb (pa_sg X n) st f U p) u ∧ ∀ p, o = some p → u.1 590 0 w = pm (pa_sg X n p) ∧ u.1 591 0 w = pe (pa_sg X n) p ∧ u.1 587 0 w = s.1 587 0 w ∧ u.1 588 0 w = s.1 588 0 w ∧ u.1 586 0 w = s.1 586 0 w := by
      intro u a b
      refine ⟨FC.tr (rkf.of a), b, fun p ep => ?_⟩
      have pp : s.1 605 0 0 = p := by
        rw [ep] at h
        exact h.p5
      rw [a.1 590 0 w (by omega), a.1 591 0 w (by omega), a.1 587 0 w (by omega), a.1 588 0 w (by omega), a.1 586 0 w (by omega), c590, c591, cl 587 (by decide) (by decide) (by decide), cl 588 (by decide) (by decide) (by decide), cl 586 (by decide) (by decide) (by decide)]
      refine ⟨?_, ?_, rfl, rfl, rfl⟩
      · unfold pm
        rw [← pp]
        split <;> omega
      · unfold pe
        rw [← pp]
        split <;> omega
    generalize zp 591 0 w (s.1 605 0 0 + q) (zp 605 0 0 (s.1 605 0 0 + q) (zp 590 0 w m s)) = v at hC FC hT2 fin ⊢
    have pp : ∀ p, o = some p → s.1 605 0 0 = p := fun p ep => by
      rw [ep] at h
      exact h.p5
    by_cases c1 : c = 33
    · rw [if_pos c1]
      refine zw_C' (r161 hX hC ⟨by omega, by omega⟩) fun x u ⟨g1, g2, g3, g4⟩ => zw_i (fin u g1 ?_)
      cases o with
      | none => exact g2.up (by omega)
      | some p =>
        have := pp p rfl
        have g2 := g2.up (M := N + 5) (by omega)
        dsimp only [Option.bind, Option.map] at g2 ⊢
        unfold pa_cb
        rw [if_neg (show ¬ pa_sg X n p = 42 by rw [← this]; omega), if_pos (show pa_sg X n p = 33 by rw [← this]; omega)]
        rw [show q = 1 by omega] at g2
        exact g2
    · rw [if_neg c1]
      by_cases c2 : c = 42
      · rw [if_pos c2]
        refine zw_i (fin v rk.rf ?_)
        cases o with
        | none => exact hC.up (by omega)
        | some p =>
          have := pp p rfl
          have g2 := hC.up (M := N + 5) (by omega)
          dsimp only [Option.bind, Option.map] at g2 ⊢
          unfold pa_cb
          rw [if_pos (show pa_sg X n p = 42 by rw [← this]; omega)]
          rw [show q = 1 by omega] at g2
          exact g2
      · rw [if_neg c2]
        have ho2 : ∀ p, o = some p → p + q ≤ n ∧ 1 ≤ p + q ∧ 0 ≤ U 450 0 ∧ 2 * U 450 0 + 1 ≤ p + q := fun p ep => by
          have := ho p ep
          have := pp p ep
          by_cases z : q = 0
          · omega
          · have l := pa_lt (X := X) (n := n) (p := p) (by rw [← this]; omega)
            omega
        by_cases c3 : c = 63
        · refine zw_C' (r165' (U := pa_w 465 f 63 (pa_w 465 f 43 (pa_w 458 f 91 U))) hX hf (((hk.w (by decide)).w (by decide)).w (by decide)) hT2 hC ⟨by omega, by omega⟩ (fun p ep => ?_)) fun x u ⟨g1, g2⟩ => zw_i (fin u g1 ?_)
          · rw [pa_w_nk (by decide), pa_w_nk (by decide), pa_w_nk (by decide)]
            cases o with
            | none => cases ep
            | some p2 =>
              injection ep with ep
              rw [← ep]
              exact ho2 p2 rfl
          · cases o with
            | none => exact g2.up (by omega)
            | some p =>
              have := pp p rfl
              have g2 := g2.up (M := N + 5) (by omega)
              dsimp only [Option.bind, Option.map] at g2 ⊢
              unfold pa_cb
              rw [if_neg (show ¬ pa_sg X n p = 42 by rw [← this]; omega), if_neg (show ¬ pa_sg X n p = 33 by rw [← this]; omega), if_pos (show pa_sg X n p = 63 by rw [← this]; omega)]
              rw [show q = 1 by omega] at g2
              exact g2
        · refine zw_C' (r165' (U := pa_w 465 f 43 (pa_w 458 f 91 U)) hX hf ((hk.w (by decide)).w (by decide)) hT2 hC ⟨by omega, by omega⟩ (fun p ep => ?_)) fun x u ⟨g1, g2⟩ => zw_i (fin u g1 ?_)
          · rw [pa_w_nk (by decide), pa_w_nk (by decide)]
            cases o with
            | none => cases ep
            | some p2 =>
              injection ep with ep
              rw [← ep]
              exact ho2 p2 rfl
          · cases o with
            | none => exact g2.up (by omega)
            | some p =>
              have := pp p rfl
              have g2 := g2.up (M := N + 5) (by omega)
              dsimp only [Option.bind, Option.map] at g2 ⊢
              unfold pa_cb
              rw [if_neg (show ¬ pa_sg X n p = 42 by rw [← this]; omega), if_neg (show ¬ pa_sg X n p = 33 by rw [← this]; omega), if_neg (show ¬ pa_sg X n p = 63 by rw [← this]; omega)]
              rw [show q = 0 by omega, Int.add_zero] at g2
              exact g2
  generalize hce : ra_sg X n (s.1 605 0 0) = c at hc main ⊢
  by_cases c1 : c = 42
  · rw [if_pos c1]
    exact main c c 1 rfl (Or.inr ⟨rfl, rfl, by omega⟩)
  · rw [if_neg c1]
    by_cases c2 : c = 33
    · rw [if_pos c2]
      exact main c c 1 rfl (Or.inr ⟨rfl, rfl, by omega⟩)
    · rw [if_neg c2]
      by_cases c3 : c = 63
      · rw [if_pos c3]
        exact main c c 1 rfl (Or.inr ⟨rfl, rfl, by omega⟩)
      · rw [if_neg c3]
        exact main c 115 0 rfl (Or.inl ⟨rfl, rfl, c1, c2, c3⟩)
end
