/-! the reference's parser: a relation -/
section
variable {t st n N p w f : Int} {X : Int → Int} {T U : yT} {s u : zS} {o : Option Int}
theorem rS.g {g : Int} (h : rS t X n N o s) (hg : g = 0 ∨ g = 1) : rS t X n N (if g = 0 then none else some (s.1 605 0 0)) (zp 606 0 0 g s) := h.mk2 (rk.rf.pw (Or.inr rfl)) (zp_nk (by decide)) zp_eq hg h.2.2.2.1
theorem r168_145 {c g : Int} (hX : pa_X X n) (hw2 : 0 ≤ w ∧ w < 192) (h : rS t X n N o s) (hN : n ≤ N ∧ N ≤ 70000) (hg : g = 0 ∨ g = 1) : zw (zf_168_145 0 w c 0 g s) fun _ u => rkf w s u ∧ rS t X n (N + 2) (if g = 1 ∧ 97 ≤ pa_sg X n (s.1 605 0 0 + 1) ∧ pa_sg X n (s.1 605 0 0 + 1) ≤ 122 then some (s.1 605 0 0 + 1 + 1) else none) u ∧ (∀ i : Nat, 586 ≤ i → i ≤ 591 → u.1 i 0 w = s.1 i 0 w) ∧ u.1 592 0 w = c ∧ u.1 593 0 w = ra_sg X n (s.1 605 0 0 + 1) := by
  have h4 := h.2.2.2.1
  have hc := ra_c (X := X) (n := n) (p := s.1 605 0 0 + 1) (by omega)
  have hn := hX.1
  unfold zf_168_145
  have e5 : (zp 592 0 w c (zp 606 0 0 g s)).1 605 0 0 = s.1 605 0 0 := rfl
  have h1 : rS t X n N (if g = 0 then none else some (s.1 605 0 0)) (zp 592 0 w c (zp 606 0 0 g s)) := (h.g hg).qw (by decide)
  have h2 := h1.at (q := 1) (by decide)
  rw [e5] at h2
  have e5' : (zp 605 0 0 (s.1 605 0 0 + 1) (zp 592 0 w c (zp 606 0 0 g s))).1 605 0 0 = s.1 605 0 0 + 1 := zp_eq
  rw [zPz_ok hg, zW_ok hw2, e5, zg_ok ⟨by omega, by omega⟩, zP_ok, r156 h2 hn.2 (by omega), zC_zi, zW_ok hw2, e5']
  have h3 : rS t X n (N + 1) ((if g = 0 then none else some (s.1 605 0 0)).map fun p => p + 1) (zp 593 0 w (ra_sg X n (s.1 605 0 0 + 1)) (zp 605 0 0 (s.1 605 0 0 + 1) (zp 592 0 w c (zp 606 0 0 g s)))) := h2.qw (by decide)
  have F : rkf w s (zp 593 0 w (ra_sg X n (s.1 605 0 0 + 1)) (zp 605 0 0 (s.1 605 0 0 + 1) (zp 592 0 w c (zp 606 0 0 g s)))) := (((rkf.rf.pw (Or.inr rfl)).qw (by decide)).pw (Or.inl rfl)).qw (by decide)
  have v5 : (zp 593 0 w (ra_sg X n (s.1 605 0 0 + 1)) (zp 605 0 0 (s.1 605 0 0 + 1) (zp 592 0 w c (zp 606 0 0 g s)))).1 605 0 0 = s.1 605 0 0 + 1 := (zp_nk (by decide)).trans zp_eq
  have v6 : (zp 593 0 w (ra_sg X n (s.1 605 0 0 + 1)) (zp 605 0 0 (s.1 605 0 0 + 1) (zp 592 0 w c (zp 606 0 0 g s)))).1 606 0 0 = g := by
    rw [zp_nk (by decide), zp_nk (by decide), zp_nk (by decide), zp_eq]
  have v592 : (zp 593 0 w (ra_sg X n (s.1 605 0 0 + 1)) (zp 605 0 0 (s.1 605 0 0 + 1) (zp 592 0 w c (zp 606 0 0 g s)))).1 592 0 w = c := by
    rw [zp_nk (by decide), zp_nk (by decide), zp_eq]
  have v593 : (zp 593 0 w (ra_sg X n (s.1 605 0 0 + 1)) (zp 605 0 0 (s.1 605 0 0 + 1) (zp 592 0 w c (zp 606 0 0 g s)))).1 593 0 w = ra_sg X n (s.1 605 0 0 + 1) := zp_eq
  have vk : ∀ i : Nat, 586 ≤ i → i ≤ 591 → (zp 593 0 w (ra_sg X n (s.1 605 0 0 + 1)) (zp 605 0 0 (s.1 605 0 0 + 1) (zp 592 0 w c (zp 606 0 0 g s)))).1 i 0 w = s.1 i 0 w := fun i i1 i2 => by
    rw [zp_nk (by omega), zp_nk (by omega), zp_nk (by omega), zp_nk (by omega)]
  generalize zp 593 0 w (ra_sg X n (s.1 605 0 0 + 1)) (zp 605 0 0 (s.1 605 0 0 + 1) (zp 592 0 w c (zp 606 0 0 g s))) = v at h3 F v5 v6 v592 v593 vk ⊢
  have fin : ∀ (d : Int) (o2 : Option Int), (d = 0 ∨ d = 1) → (if d = 0 then none else some (s.1 605 0 0 + 1 + 1)) = o2 → zw (zf_168_198 0 0 d v) fun _ u => rkf w s u ∧ rS t X n (N + 2) o2 u ∧ (∀ i : Nat, 586 ≤ i → i ≤ 591 → u.1 i 0 w = s.1 i 0 w) ∧ u.1 592 0 w = c ∧ u.1 593 0 w = ra_sg X n (s.1 605 0 0 + 1) := by
    intro d o2 hd e
    unfold zf_168_198
    obtain ⟨a1, a2, a3⟩ := r_step (K := fun s4 => zi 0 s4) h3 (by omega) hd
    rw [v5, e] at a3
    rw [v5] at a1 a2
    rw [a1]
    refine zw_i ⟨F.tr (rkf.of a2), a3.up (by omega), fun i i1 i2 => (a2.1 i 0 w (by omega)).trans (vk i i1 i2), (a2.1 592 0 w (by omega)).trans v592, (a2.1 593 0 w (by omega)).trans v593⟩
  rw [v6]
  by_cases g0 : g = 0
  · rw [if_pos g0]
    exact fin 0 _ (Or.inl rfl) (by rw [if_pos rfl, if_neg (by omega)])
  · rw [if_neg g0, r156 h3 hn.2 (by omega), zC_zi, v5]
    unfold zf_158
    rw [z146, zC_zi]
    by_cases d : 97 ≤ ra_sg X n (s.1 605 0 0 + 1) ∧ ra_sg X n (s.1 605 0 0 + 1) ≤ 122
    · rw [if_pos d, zz1, zC_zi, if_neg (by decide)]
      exact fin 1 _ (Or.inr rfl) (by rw [if_neg (by decide), if_pos (by omega)])
    · rw [if_neg d, zz0, zC_zi, if_pos rfl]
      exact fin 0 _ (Or.inl rfl) (by rw [if_pos rfl, if_neg (by omega)])
theorem r168_77 {c g : Int} (hX : pa_X X n) (hw2 : 0 ≤ w ∧ w < 192) (h : rS t X n N o s) (hN : n ≤ N ∧ N ≤ 70000) (hg : g = 0 ∨ g = 1) (hc : c = ra_sg X n (s.1 605 0 0)) : zw (zf_168_77 0 w c 0 g s) fun _ u => rkf w s u ∧ rS t X n (N + 3) (if 48 ≤ c ∧ c ≤ 57 then (if g = 1 then some (mNum (pa_sg X n) 3 0 (s.1 605 0 0)).2 else none) else if (g = 1 ∧ (c = 35 ∨ c = 37 ∨ c = 43 ∨ c = 94)) ∧ 97 ≤ pa_sg X n (s.1 605 0 0 + 1) ∧ pa_sg X n (s.1 605 0 0 + 1) ≤ 122 then some (s.1 605 0 0 + 1 + 1) else none) u ∧ (∀ i : Nat, 586 ≤ i → i ≤ 591 → u.1 i 0 w = s.1 i 0 w) ∧ u.1 592 0 w = (if 48 ≤ c ∧ c ≤ 57 then 73 else c) ∧ (g = 1 → u.1 593 0 w = (if 48 ≤ c ∧ c ≤ 57 then (mNum (pa_sg X n) 3 0 (s.1 605 0 0)).1 else ra_sg X n (s.1 605 0 0 + 1))) := by
  have h4 := h.2.2.2.1
  have hr := ra_c (X := X) (n := n) (p := s.1 605 0 0) h4.1
  have hn := hX.1
  unfold zf_168_77
  have h1 := h.g hg
  have e5 : (zp 606 0 0 g s).1 605 0 0 = s.1 605 0 0 := zp_nk (by decide)
  have e6 : (zp 606 0 0 g s).1 606 0 0 = g := zp_eq
  have F : rkf w s (zp 606 0 0 g s) := rkf.rf.pw (Or.inr rfl)
  have vk : ∀ i : Nat, 586 ≤ i → i ≤ 591 → (zp 606 0 0 g s).1 i 0 w = s.1 i 0 w := fun i i1 i2 => zp_nk (by omega)
  rw [zPz_ok hg, z160, zC_zi]
  by_cases d : 48 ≤ c ∧ c ≤ 57
  · rw [if_pos d, if_neg (by decide), zW_ok hw2, if_pos d, if_pos d]
    have h2 : rS t X n N (if g = 0 then none else some (s.1 605 0 0)) (zp 592 0 w 73 (zp 606 0 0 g s)) := h1.qw (by decide)
    refine zw_C' (r161 hX h2 ⟨hN.1, by omega⟩) fun x u ⟨g1, g2, g3, g4⟩ => ?_
    rw [zW_ok hw2]
    have q : rS t X n (N + 3) (if g = 1 then some (mNum (pa_sg X n) 3 0 (s.1 605 0 0)).2 else none) u := by
      rcases hg with hg | hg
      · rw [if_pos hg] at g2
        rw [if_neg (by omega)]
        exact g2
      · rw [if_neg (show ¬ g = 0 by omega)] at g2
        rw [if_pos hg]
        rw [show ((some (s.1 605 0 0)).bind fun p => if 48 ≤ pa_sg X n p ∧ pa_sg X n p ≤ 57 then some (mNum (pa_sg X n) 3 0 p).2 else none) = (if 48 ≤ pa_sg X n (s.1 605 0 0) ∧ pa_sg X n (s.1 605 0 0) ≤ 57 then some (mNum (pa_sg X n) 3 0 (s.1 605 0 0)).2 else none) from rfl, if_pos (by omega)] at g2
        exact g2
    refine zw_i ⟨((F.qw (by decide)).tr (rkf.of g1)).qw (by decide), q.qw (by decide), fun i i1 i2 => ?_, ?_, fun hg1 => ?_⟩
    · rw [zp_nk (by omega), g1.1 i 0 w (by omega), zp_nk (by omega)]
      exact vk i i1 i2
    · rw [zp_nk (by decide), g1.1 592 0 w (by omega), zp_eq]
    · rw [zp_eq, if_pos d]
      exact g4 _ (if_neg (by omega))
  · rw [if_neg d, if_pos rfl, e6, if_neg d, if_neg d]
    have go : ∀ g2 : Int, (g2 = 0 ∨ g2 = 1) → (g2 = 1 ↔ g = 1 ∧ (c = 35 ∨ c = 37 ∨ c = 43 ∨ c = 94)) → zw (zf_168_145 0 w c 0 g2 (zp 606 0 0 g s)) fun _ u => rkf w s u ∧ rS t X n (N + 3) (if (g = 1 ∧ (c = 35 ∨ c = 37 ∨ c = 43 ∨ c = 94)) ∧ 97 ≤ pa_sg X n (s.1 605 0 0 + 1) ∧ pa_sg X n (s.1 605 0 0 + 1) ≤ 122 then some (s.1 605 0 0 + 1 + 1) else none) u ∧ (∀ i : Nat, 586 ≤ i → i ≤ 591 → u.1 i 0 w = s.1 i 0 w) ∧ u.1 592 0 w = c ∧ (g = 1 → u.1 593 0 w = (if 48 ≤ c ∧ c ≤ 57 then (mNum (pa_sg X n) 3 0 (s.1 605 0 0)).1 else ra_sg X n (s.1 605 0 0 + 1))) := by
      intro g2 hg2 e
      refine (r168_145 (c := c) hX hw2 h1 hN hg2).mono fun r u ⟨k1, k2, k3, k4, k5⟩ => ⟨F.tr k1, ?_, fun i i1 i2 => (k3 i i1 i2).trans (vk i i1 i2), k4, fun _ => ?_⟩
      · rw [e5] at k2
        have k2 := k2.up (M := N + 3) (by omega)
        simp only [e] at k2
        exact k2
      · rw [e5] at k5
        rw [if_neg d]
        exact k5
    by_cases g0 : g = 0
    · rw [if_pos g0]
      exact go 0 (Or.inl rfl) (by omega)
    · rw [if_neg g0]
      by_cases c1 : c = 35
      · rw [if_pos c1]
        exact go 1 (Or.inr rfl) (by omega)
      · rw [if_neg c1]
        by_cases c2 : c = 37
        · rw [if_pos c2]
          exact go 1 (Or.inr rfl) (by omega)
        · rw [if_neg c2]
          by_cases c3 : c = 43
          · rw [if_pos c3]
            exact go 1 (Or.inr rfl) (by omega)
          · rw [if_neg c3]
            by_cases c4 : c = 94
            · rw [if_pos c4]
              exact go 1 (Or.inr rfl) (by omega)
            · rw [if_neg c4]
              exact go 0 (Or.inl rfl) (by omega)
theorem r168_bad (hw2 : 0 ≤ w ∧ w < 192) (h : rS t X n N none s) : zw (zf_168 0 w s) fun _ u => rkf w s u ∧ rS t X n N none u := by
  unfold zf_168
  have h6 : (zp 592 0 w 0 s).1 606 0 0 = 0 := (zp_nk (by decide)).trans h.2.2.2.2.2
  rw [zW_ok hw2, if_pos h6]
  exact zw_i ⟨rkf.rf.qw (by decide), h.qw (by decide)⟩
/-- a relation whose argument is a name or a number -/
def pa_rok (f : Int) (U : yT) : Prop := U 467 f = 0 ∨ U 467 f = 61 ∨ (0 ≤ U 468 f ∧ U 468 f ≤ 25)
theorem r168_good (hX : pa_X X n) (hw2 : 0 ≤ w ∧ w < 192) (hU : U 467 f = 0) (h7 : s.1 587 0 w = (if U 458 f = 65 ∨ U 458 f = 91 then 78 else U 458 f)) (h : rS t X n N (some p) s) (hN : n ≤ N ∧ N ≤ 60000) :
    zw (zf_168 0 w s) fun _ u => rkf w s u ∧ (∀ i : Nat, 586 ≤ i → i ≤ 591 → u.1 i 0 w = s.1 i 0 w) ∧
      (match (if pa_sg X n p = 61 then pa_rel (pa_sg X n) f U p else some (U, p)) with
      | none => rS t X n (N + 4) none u
      | some x => (pa_rok f x.1 ∧ rS t X n (N + 4) (some x.2) u ∧ u.1 592 0 w = (if x.1 467 f = 61 then 73 else x.1 467 f) ∧ (x.1 467 f ≠ 0 → u.1 593 0 w = (if x.1 467 f = 61 then x.1 468 f else x.1 468 f + 97))) ∨ (¬ pa_rok f x.1 ∧ rS t X n (N + 4) none u)) := by
  have h4 := h.2.2.2.1
  have h5 := h.p5
  have hn := hX.1
  have hr := ra_c (X := X) (n := n) (p := p) (by omega)
  have e6 : (zp 592 0 w 0 s).1 606 0 0 = 1 := (zp_nk (by decide)).trans h.2.2.2.2.2.1
  have e5 : (zp 592 0 w 0 s).1 605 0 0 = p := (zp_nk (by decide)).trans h5
  have h1 : rS t X n N (some p) (zp 592 0 w 0 s) := h.qw (by decide)
  have F : rkf w s (zp 592 0 w 0 s) := rkf.rf.qw (by decide)
  unfold zf_168
  rw [zW_ok hw2, if_neg (show ¬ (zp 592 0 w 0 s).1 606 0 0 = 0 by omega), r156 h1 hn.2 (by omega), zC_zi, e5]
  by_cases c : ra_sg X n p = 61
  · have h2 := h1.at (q := 1) (by decide)
    rw [e5] at h2
    have hr2 := ra_c (X := X) (n := n) (p := p + 1) (by omega)
    have hr3 := ra_c (X := X) (n := n) (p := p + 1 + 1) (by omega)
    have v5 : (zp 605 0 0 (p + 1) (zp 592 0 w 0 s)).1 605 0 0 = p + 1 := zp_eq
    have v7 : (zp 605 0 0 (p + 1) (zp 592 0 w 0 s)).1 587 0 w = (if U 458 f = 65 ∨ U 458 f = 91 then 78 else U 458 f) := ((zp_nk (by decide)).trans (zp_nk (by decide))).trans h7
    have F2 : rkf w s (zp 605 0 0 (p + 1) (zp 592 0 w 0 s)) := F.pw (Or.inl rfl)
    rw [if_pos c, zg_ok ⟨by omega, by omega⟩, zP_ok, r156 h2 hn.2 (by omega), zC_zi, v5, zn_ok hw2, v7, if_pos (show pa_sg X n p = 61 by omega)]
    unfold pa_rel
    have go : ∀ g : Int, (g = 0 ∨ g = 1) → (g = 1 ↔ (U 458 f = 98 ∨ U 458 f = 119 ∨ U 458 f = 87)) → zw (zf_168_77 0 w (ra_sg X n (p + 1)) 0 g (zp 605 0 0 (p + 1) (zp 592 0 w 0 s))) fun _ u => rkf w s u ∧ (∀ i : Nat, 586 ≤ i → i ≤ 591 → u.1 i 0 w = s.1 i 0 w) ∧
      (match (if U 458 f = 98 ∨ U 458 f = 119 ∨ U 458 f = 87 then
    (if 48 ≤ pa_sg X n (p + 1) ∧ pa_sg X n (p + 1) ≤ 57 then some (pa_w 468 f (mNum (pa_sg X n) 3 0 (p + 1)).1 (pa_w 467 f 61 U), (mNum (pa_sg X n) 3 0 (p + 1)).2)
    else if pa_sg X n (p + 1) = 35 ∨ pa_sg X n (p + 1) = 37 ∨ pa_sg X n (p + 1) = 43 ∨ pa_sg X n (p + 1) = 94 then some (pa_w 468 f (pa_sg X n (p + 1 + 1) - 97) (pa_w 467 f (pa_sg X n (p + 1)) U), p + 1 + 1 + 1)
    else none)
  else none) with
      | none => rS t X n (N + 4) none u
      | some x => (pa_rok f x.1 ∧ rS t X n (N + 4) (some x.2) u ∧ u.1 592 0 w = (if x.1 467 f = 61 then 73 else x.1 467 f) ∧ (x.1 467 f ≠ 0 → u.1 593 0 w = (if x.1 467 f = 61 then x.1 468 f else x.1 468 f + 97))) ∨ (¬ pa_rok f x.1 ∧ rS t X n (N + 4) none u)) := by
      intro g hg hgi
      refine (r168_77 (c := ra_sg X n (p + 1)) hX hw2 h2 ⟨by omega, by omega⟩ hg (by rw [v5])).mono fun r u ⟨k1, k2, k3, k4, k5⟩ => ⟨F2.tr k1, fun i i1 i2 => (k3 i i1 i2).trans ((zp_nk (by omega)).trans (zp_nk (by omega))), ?_⟩
      rw [v5] at k2 k5
      have k2 := k2.up (M := N + 4) (by omega)
      by_cases a : U 458 f = 98 ∨ U 458 f = 119 ∨ U 458 f = 87
      · have g1 := hgi.mpr a
        have k5 := k5 g1
        rw [if_pos a]
        by_cases d : 48 ≤ pa_sg X n (p + 1) ∧ pa_sg X n (p + 1) ≤ 57
        · have d2 : 48 ≤ ra_sg X n (p + 1) ∧ ra_sg X n (p + 1) ≤ 57 := by omega
          rw [if_pos d2] at k2 k4 k5
          rw [if_pos g1] at k2
          rw [if_pos d]
          dsimp only
          have w7 : (pa_w 468 f (mNum (pa_sg X n) 3 0 (p + 1)).1 (pa_w 467 f 61 U)) 467 f = 61 := by rw [pa_w_nk (by decide), pa_w_eq]
          refine Or.inl ⟨Or.inr (Or.inl w7), k2, ?_, fun _ => ?_⟩
          · rw [if_pos w7]
            exact k4
          · rw [if_pos w7, pa_w_eq]
            exact k5
        · have d2 : ¬ (48 ≤ ra_sg X n (p + 1) ∧ ra_sg X n (p + 1) ≤ 57) := by omega
          rw [if_neg d2] at k2 k4 k5
          rw [if_neg d]
          by_cases d3 : pa_sg X n (p + 1) = 35 ∨ pa_sg X n (p + 1) = 37 ∨ pa_sg X n (p + 1) = 43 ∨ pa_sg X n (p + 1) = 94
          · rw [if_pos d3]
            dsimp only
            have w7 : (pa_w 468 f (pa_sg X n (p + 1 + 1) - 97) (pa_w 467 f (pa_sg X n (p + 1)) U)) 467 f = pa_sg X n (p + 1) := by rw [pa_w_nk (by decide), pa_w_eq]
            have w9 : ¬ (pa_w 468 f (pa_sg X n (p + 1 + 1) - 97) (pa_w 467 f (pa_sg X n (p + 1)) U)) 467 f = 61 := by rw [w7]; omega
            have w8 : (pa_w 468 f (pa_sg X n (p + 1 + 1) - 97) (pa_w 467 f (pa_sg X n (p + 1)) U)) 468 f = pa_sg X n (p + 1 + 1) - 97 := pa_w_eq
            by_cases d4 : 97 ≤ pa_sg X n (p + 1 + 1) ∧ pa_sg X n (p + 1 + 1) ≤ 122
            · rw [if_pos ⟨⟨g1, by omega⟩, d4⟩] at k2
              refine Or.inl ⟨Or.inr (Or.inr (by rw [w8]; omega)), k2, ?_, fun _ => ?_⟩
              · rw [if_neg w9, w7, k4]
                omega
              · rw [if_neg w9, w8, k5]
                omega
            · rw [if_neg (fun z => d4 z.2)] at k2
              refine Or.inr ⟨fun z => ?_, k2⟩
              unfold pa_rok at z
              rw [w7, w8] at z
              omega
          · rw [if_neg d3]
            rw [if_neg (fun z => d3 (by omega))] at k2
            exact k2
      · rw [if_neg a]
        have g0 : ¬ g = 1 := fun z => a (hgi.mp z)
        simp only [g0, false_and, if_false, ite_self] at k2
        exact k2
    by_cases d1 : (if U 458 f = 65 ∨ U 458 f = 91 then 78 else U 458 f) = 98
    · rw [if_pos d1]
      exact go 1 (Or.inr rfl) (by split at d1 <;> omega)
    · rw [if_neg d1, zn_ok hw2]
      by_cases d2 : (if U 458 f = 65 ∨ U 458 f = 91 then 78 else U 458 f) = 119
      · rw [if_pos d2]
        exact go 1 (Or.inr rfl) (by split at d2 <;> omega)
      · rw [if_neg d2, zn_ok hw2]
        by_cases d3 : (if U 458 f = 65 ∨ U 458 f = 91 then 78 else U 458 f) = 87
        · rw [if_pos d3]
          exact go 1 (Or.inr rfl) (by split at d3 <;> omega)
        · rw [if_neg d3]
          exact go 0 (Or.inl rfl) (by split at d1 <;> omega)
  · rw [if_neg c, if_neg (show ¬ pa_sg X n p = 61 by omega)]
    refine zw_i ⟨F, fun i i1 i2 => zp_nk (by omega), ?_⟩
    dsimp only
    refine Or.inl ⟨Or.inl hU, h1.up (by omega), ?_, fun z => absurd hU z⟩
    rw [if_neg (show ¬ U 467 f = 61 by omega), hU]
    exact zp_eq
end
