/-! the class's parser: types, relations, fields -/
section
variable {q : Nat} {X : Int → Int} {n p st b : Int} {T : yT} {s : zS}
theorem pa47_20 {f c : Int} (hX : pa_X X n) (hf : 0 ≤ f ∧ f < 48) (h6 : 0 ≤ st ∧ st < 6) (hb : 0 ≤ b ∧ b ≤ 7) (hc : c = pa_sg X n p) (h : pa_at q X n T p st b s) (ok : pa_ok T st) (p1 : 0 ≤ p ∧ p ≤ n + 1) : zw (zf_47_20 0 f c s) (pa_Q3 q X n s st (if 65 ≤ pa_sg X n p ∧ pa_sg X n p ≤ 90 ∧ pa_sg X n p ≠ 87 then ((pa_names (pa_sg X n) f (pa_w 458 f 65 T) p).bind fun x => if pa_sg X n x.2 = 91 then pa_cnt (pa_sg X n) st f x.1 x.2 else some x).map fun x => (x.1, x.2, b)
  else pa_plain (pa_sg X n) st f (pa_w 459 f (if pa_sg X n p = 119 ∨ pa_sg X n p = 87 then 16 else 8) (pa_w 458 f (pa_sg X n p) T)) p b)) := by
  unfold zf_47_20
  rw [pa40, zC_zi, h.2.2.2.1]
  by_cases c1 : 65 ≤ pa_sg X n p ∧ pa_sg X n p ≤ 90 ∧ pa_sg X n p ≠ 87
  · rw [if_pos c1, if_pos c1, if_neg (by decide), h.O, zW_ok hf]
    refine (pa_bind (f := fun x => if pa_sg X n x.2 = 91 then pa_cnt (pa_sg X n) st f x.1 x.2 else some x) (pa50 hX hf (h.qw (f := 458) (i := f) (v := 65) (by decide)) (ok.w (by decide))) (fun u => by rw [if_pos rfl]; rfl) fun y u hy a o y1 y2 => ?_).mono fun v t g => pa_Q3.fr (pa_Q.q3 g hb) (pa_fr.rf.qw (by decide))
    rw [if_neg (by decide), a.2.2.2.1]
    by_cases c2 : pa_sg X n y.2 = 91
    · have := pa_lt (X := X) (n := n) (p := y.2) (by omega)
      rw [if_pos c2, if_pos c2]
      exact pa_zi (pa51 hX hf h6 a o this)
    · rw [if_neg c2, if_neg c2]
      exact pa_fin a pa_fr.rf o ⟨y1, y2⟩
  · have h1 := h.qw (f := 458) (i := f) (v := c) (by decide)
    rw [if_neg c1, if_neg c1, if_pos rfl, h.O, zW_ok hf, h1.O, ← hc]
    have d := fun w => (pa47_106 hX hf h6 hb hc w h1 (ok.w (by decide)) p1).mono fun v t g => pa_Q3.fr g (pa_fr.rf.qw (by decide))
    by_cases c2 : c = 119
    · rw [if_pos c2, if_pos (Or.inl c2)]
      exact d 16
    · by_cases c3 : c = 87
      · rw [if_neg c2, if_pos c3, if_pos (Or.inr c3)]
        exact d 16
      · rw [if_neg c2, if_neg c3, if_neg (by omega)]
        exact d 8
theorem pa47 {f : Int} (hX : pa_X X n) (hf : 0 ≤ f ∧ f < 48) (h6 : 0 ≤ st ∧ st < 6) (hb : 0 ≤ b ∧ b ≤ 7) (h : pa_at q X n T p st b s) (ok : pa_ok T st) (p1 : 0 ≤ p ∧ p ≤ n + 1) : zw (zf_47 0 f s) (pa_Q3 q X n s st (pa_type (pa_sg X n) st f T p b)) := by
  unfold zf_47 pa_type
  rw [h.2.2.2.1, h.2.2.2.2.2.1]
  have d := pa47_20 hX hf h6 hb rfl h ok p1
  by_cases c1 : pa_sg X n p = 110
  · rw [if_pos c1, if_neg (fun z => z.1 c1)]
    exact d
  · rw [if_neg c1]
    by_cases c2 : b = 0
    · rw [if_pos c2, if_neg (fun z => z.2 c2)]
      exact d
    · rw [if_neg c2, if_pos ⟨c1, c2⟩]
      exact zw_z0 ⟨rfl, pa_fr.rf⟩
theorem pa54_88 {f : Int} (hX : pa_X X n) (hf : 0 ≤ f ∧ f < 48) (h : pa_at q X n T p st b s) (ok : pa_ok T st) (p1 : 0 ≤ p ∧ p < n) : zw (zf_54_88 0 f s) (pa_Q q X n s st b (some (pa_w 468 f (pa_sg X n (p + 1) - 97) (pa_w 467 f (pa_sg X n p) T), p + 1 + 1))) := by
  have hn := hX.1
  have hG := hX.r (p + 1)
  unfold zf_54_88
  have h1 := h.qw (f := 467) (i := f) (v := pa_sg X n p) (by decide)
  have h2 := h1.nx
  have h3 := h2.qw (f := 468) (i := f) (v := pa_sg X n (p + 1) - 97) (by decide)
  rw [h.O, zW_ok hf, h.2.2.2.1, pa_adv h1 (by omega) hn.2, zC_zi, h2.O, h2.2.2.2.1, zg_ok ⟨by omega, by omega⟩, zW_ok hf, pa_adv h3 (by omega) hn.2, zC_zi]
  exact zw_z1 ⟨rfl, h3.nx, (((pa_fr.rf.qw (by decide)).nx).qw (by decide)).nx, (ok.w (by decide)).w (by decide), by dsimp only; omega, by dsimp only; omega⟩
theorem pa54 {f : Int} (hX : pa_X X n) (hf : 0 ≤ f ∧ f < 48) (h : pa_at q X n T p st b s) (ok : pa_ok T st) (p1 : 0 ≤ p ∧ p < n) : zw (zf_54 0 f s) (pa_Q q X n s st b (pa_rel (pa_sg X n) f T p)) := by
  have hn := hX.1
  unfold zf_54 pa_rel
  rw [h.O, pa101 hf, zC_zi, h.2.2.2.2.2.2.1 458 _ (by decide) (by decide)]
  by_cases c1 : T 458 f = 98 ∨ T 458 f = 119 ∨ T 458 f = 87
  · have h1 := h.nx
    rw [if_pos c1, if_pos c1, if_neg (by decide), pa_adv h (by omega) hn.2, zC_zi, pa41, zC_zi, h1.2.2.2.1]
    have F : pa_fr q s (pa_nx X n p s) := pa_fr.rf.nx
    by_cases c2 : 48 ≤ pa_sg X n (p + 1) ∧ pa_sg X n (p + 1) ≤ 57
    · have h2 := h1.qw (f := 467) (i := f) (v := 61) (by decide)
      rw [if_pos c2, if_pos c2, if_neg (by decide), h1.O, zW_ok hf, h2.O]
      refine zw_C' (pa53 hX h2 (by omega)) fun w u ⟨g1, g2, g3, g4, g5, g6⟩ => ?_
      have e1 : pa_int (pa_sg X n) (p + 1) = mNum (pa_sg X n) 3 0 (p + 1) := by
        unfold pa_int
        rw [if_pos c2]
      rw [e1] at g1 g2 g5 g6
      rw [zW_ok hf, g1]
      exact zw_z1 ⟨rfl, g2.qw (by decide), ((F.qw (by decide)).tr g3).qw (by decide), (ok.w (by decide)).w (by decide), g5, g6⟩
    · rw [if_neg c2, if_neg c2, if_pos rfl]
      have d : ∀ c, pa_sg X n (p + 1) = c → c ≠ -1 → zw (zf_54_88 0 f (pa_nx X n p s)) (pa_Q q X n s st b (some (pa_w 468 f (pa_sg X n (p + 1 + 1) - 97) (pa_w 467 f (pa_sg X n (p + 1)) T), p + 1 + 1 + 1))) := fun c e e2 => by
        have := pa_lt (X := X) (n := n) (p := p + 1) (by omega)
        exact (pa54_88 hX hf h1 ok this).mono fun v t g => pa_Q.fr g F
      by_cases d1 : pa_sg X n (p + 1) = 35
      · rw [if_pos d1, if_pos (Or.inl d1)]
        exact d _ d1 (by decide)
      · by_cases d2 : pa_sg X n (p + 1) = 37
        · rw [if_neg d1, if_pos d2, if_pos (Or.inr (Or.inl d2))]
          exact d _ d2 (by decide)
        · by_cases d3 : pa_sg X n (p + 1) = 43
          · rw [if_neg d1, if_neg d2, if_pos d3, if_pos (Or.inr (Or.inr (Or.inl d3)))]
            exact d _ d3 (by decide)
          · by_cases d4 : pa_sg X n (p + 1) = 94
            · rw [if_neg d1, if_neg d2, if_neg d3, if_pos d4, if_pos (Or.inr (Or.inr (Or.inr d4)))]
              exact d _ d4 (by decide)
            · rw [if_neg d1, if_neg d2, if_neg d3, if_neg d4, if_neg (by omega)]
              exact zw_z0 ⟨rfl, F⟩
  · rw [if_neg c1, if_neg c1, if_pos rfl]
    exact zw_z0 ⟨rfl, pa_fr.rf⟩
/-- what is so behind a field's type and relation -/
def pa_okf (U : yT) (st : Int) : Prop := pa_ok U st ∧ U 453 st < 8 ∧ 0 ≤ U 457 (8 * st + U 453 st) ∧ U 457 (8 * st + U 453 st) ≤ 25
theorem pa46_98 (hX : pa_X X n) (h6 : 0 ≤ st ∧ st < 6) (hb : 0 ≤ b ∧ b ≤ 7) (h : pa_at q X n T p st b s) (ok : pa_okf T st) (p1 : 0 ≤ p ∧ p ≤ n + 1) : zw (zf_46_98 0 s) (pa_Q3 q X n s st (if pa_sg X n p = 59 then some (pa_w 453 st (T 453 st + 1) T, p + 1, b) else none)) := by
  obtain ⟨⟨o1, o2, o3, o4, o5⟩, k1, k2⟩ := ok
  unfold zf_46_98
  rw [h.O, h.2.2.2.2.1, zn_ok (by omega), h.2.2.2.2.2.2.1 453 _ (by decide) (by decide), zg_ok ⟨by omega, by omega⟩, zW_ok (by omega)]
  have d := pa_zz (pa_due (c := 59) hX (by decide) (h.qw (f := 453) (i := st) (v := T 453 st + 1) (by decide)) ⟨?_, ?_, ?_, ?_, ?_⟩ p1)
  · refine d.mono fun v t g => ?_
    by_cases c : pa_sg X n p = 59
    · rw [if_pos c] at g
      rw [if_pos c]
      exact pa_Q3.fr (pa_Q.q3 g hb) (pa_fr.rf.qw (by decide))
    · rw [if_neg c] at g
      rw [if_neg c]
      exact ⟨g.1, (pa_fr.rf.qw (by decide)).tr g.2⟩
  · rw [pa_w_nk (by decide)]
    exact o1
  · rw [pa_w_nk (by decide)]
    exact o2
  · rw [pa_w_nk (by decide)]
    exact o3
  · rw [pa_w_eq]
    omega
  · intro k h1 h2
    rw [pa_w_eq] at h2
    rw [pa_w_nk (by decide)]
    by_cases e : k = T 453 st
    · rw [e]
      exact k2
    · exact o5 k h1 (by omega)
theorem pa46 {k : Int} (hX : pa_X X n) (hk : k = T 453 st) (hk8 : k < 8) (h6 : 0 ≤ st ∧ st < 6) (hb : 0 ≤ b ∧ b ≤ 7) (h : pa_at q X n T p st b s) (ok : pa_ok T st) (p1 : 0 ≤ p ∧ p ≤ n + 1) : zw (zf_46 0 (8 * st + k) s) (pa_Q3 q X n s st (pa_field (pa_sg X n) st k T p b)) := by
  have hn := hX.1
  have hG := hX.r p
  have o4 := ok.2.2.2.1
  unfold zf_46 pa_field
  rw [h.2.2.2.1, zg_ok ⟨by omega, by omega⟩]
  by_cases c1 : pa_sg X n p - 97 < 0
  · rw [if_pos c1, if_neg (by omega)]
    exact pa_no3 pa_fr.rf
  · rw [if_neg c1]
    by_cases c2 : 26 ≤ pa_sg X n p - 97
    · rw [if_pos c2, if_neg (by omega)]
      exact pa_no3 pa_fr.rf
    · rw [if_neg c2, h.O, h.2.2.2.2.1, pa98 h h6 o4.2, zC_zi]
      by_cases c3 : pa_pl T st (pa_sg X n p - 97) = -1
      · have hp := pa_lt (X := X) (n := n) (p := p) (by omega)
        rw [if_pos c3, pa_adv h (by omega) hn.2, zC_zi, pa39 h.nx (by omega) hn.2]
        by_cases c4 : pa_sg X n (p + 1) = 58
        · have hp2 := pa_lt (X := X) (n := n) (p := p + 1) (by omega)
          rw [if_pos c4, zC_zi, if_neg (by decide), if_pos ⟨⟨by omega, by omega, c3⟩, c4⟩]
          have F : pa_fr q s (pa_nx X n (p + 1) (pa_nx X n p s)) := pa_fr.rf.nx.nx
          have h2 := h.nx.nx
          generalize pa_nx X n (p + 1) (pa_nx X n p s) = s2 at F h2
          refine zw_C' (pa47 hX (f := 8 * st + k) (by omega) h6 hb h2 ok (by omega)) fun v u g => ?_
          cases e : pa_type (pa_sg X n) st (8 * st + k) T (p + 1 + 1) b with
          | none =>
            rw [e] at g
            rw [g.1, if_pos rfl]
            exact zw_z0 ⟨rfl, F.tr g.2⟩
          | some y =>
            rw [e] at g
            obtain ⟨g1, g2, g3, g4, g5, g6⟩ := g
            have K := pa_kp.type e
            have h3 := g2.qw (f := 457) (i := 8 * st + k) (v := pa_sg X n p - 97) (by decide)
            have h4 := h3.qw (f := 467) (i := 8 * st + k) (v := 0) (by decide)
            rw [g1, if_neg (by decide), g2.O, zW_ok (by omega), h3.O, zW_ok (by omega), h4.2.2.2.1]
            have F4 := ((F.tr g3).qw (f := 457) (i := 8 * st + k) (v := pa_sg X n p - 97) (by decide)).qw (f := 467) (i := 8 * st + k) (v := 0) (by decide)
            dsimp only [Option.bind]
            obtain ⟨T2, p2, b2⟩ := y
            dsimp only at *
            have e453 : T2 453 st = k := (K.1 453 st (by omega)).trans hk.symm
            have o5 : pa_okf (pa_w 467 (8 * st + k) 0 (pa_w 457 (8 * st + k) (pa_sg X n p - 97) T2)) st := by
              have w : ∀ (g : Nat) (i : Int), g ≠ 467 → g ≠ 457 → pa_w 467 (8 * st + k) 0 (pa_w 457 (8 * st + k) (pa_sg X n p - 97) T2) g i = T2 g i := fun g i h1 h2 => by rw [pa_w_nk h1, pa_w_nk h2]
              refine ⟨⟨?_, ?_, ?_, ?_, fun j j1 j2 => ?_⟩, ?_, ?_⟩
              · rw [w _ _ (by decide) (by decide)]
                exact g4.1
              · rw [w _ _ (by decide) (by decide)]
                exact g4.2.1
              · rw [w _ _ (by decide) (by decide)]
                exact g4.2.2.1
              · rw [w _ _ (by decide) (by decide)]
                exact g4.2.2.2.1
              · rw [w _ _ (by decide) (by decide)] at j2
                rw [pa_w_nk (by decide), pa_w_ni (by omega)]
                exact g4.2.2.2.2 j j1 j2
              · rw [w _ _ (by decide) (by decide)]
                omega
              · rw [w 453 _ (by decide) (by decide), e453, pa_w_nk (by decide), pa_w_eq]
                omega
            generalize pa_w 467 (8 * st + k) 0 (pa_w 457 (8 * st + k) (pa_sg X n p - 97) T2) = U at h4 o5 ⊢
            generalize zp 467 q (8 * st + k) 0 (zp 457 q (8 * st + k) (pa_sg X n p - 97) u) = t at h4 F4 ⊢
            by_cases c5 : pa_sg X n p2 = 61
            · have hp3 := pa_lt (X := X) (n := n) (p := p2) (by omega)
              rw [if_pos c5, if_pos c5]
              refine zw_C' (pa54 hX (f := 8 * st + k) (by omega) h4 o5.1 hp3) fun v u g => ?_
              cases e : pa_rel (pa_sg X n) (8 * st + k) U p2 with
              | none =>
                rw [e] at g
                rw [g.1, if_pos rfl]
                exact zw_z0 ⟨rfl, F4.tr g.2⟩
              | some y =>
                rw [e] at g
                obtain ⟨m1, m2, m3, m4, m5⟩ := g
                have K2 := pa_kp.rel e
                rw [m1, if_neg (by decide)]
                refine (pa46_98 hX h6 g6 m2 ⟨m4, ?_, ?_⟩ m5).mono fun v t g => pa_Q3.fr g (F4.tr m3)
                · rw [K2.1 453 st (by omega)]
                  exact o5.2.1
                · rw [K2.1 453 st (by omega), K2.1 457 _ (by omega)]
                  exact o5.2.2
            · rw [if_neg c5, if_neg c5]
              exact (pa46_98 hX h6 g6 h4 o5 g5).mono fun v t g => pa_Q3.fr g F4
        · rw [if_neg c4, zC_zi, if_pos rfl, if_neg (fun z => c4 z.2)]
          exact zw_z0 ⟨rfl, pa_fr.rf.nx⟩
      · rw [if_neg c3, if_neg (fun z => c3 z.1.2.2)]
        exact zw_z0 ⟨rfl, pa_fr.rf⟩
end
