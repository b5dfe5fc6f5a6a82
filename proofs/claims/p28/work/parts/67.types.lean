/-! the class's parser: counts, types, relations, fields -/
def pa_Q3 (q : Nat) (X : Int → Int) (n : Int) (s : zS) (st : Int) (x : Option (yT × Int × Int)) (v : Int) (u : zS) : Prop :=
  match x with
  | none => v = 0 ∧ pa_fr q s u
  | some y => v = 1 ∧ pa_at q X n y.1 y.2.1 st y.2.2 u ∧ pa_fr q s u ∧ pa_ok y.1 st ∧ (0 ≤ y.2.1 ∧ y.2.1 ≤ n + 1) ∧ 0 ≤ y.2.2 ∧ y.2.2 ≤ 7
section
variable {q : Nat} {X : Int → Int} {n p st b : Int} {T : yT} {s : zS}
theorem pa_Q3.fr {x : Option (yT × Int × Int)} {v : Int} {s0 u : zS} (h : pa_Q3 q X n s st x v u) (a : pa_fr q s0 s) : pa_Q3 q X n s0 st x v u := by
  cases x with
  | none => exact ⟨h.1, a.tr h.2⟩
  | some y => exact ⟨h.1, h.2.1, a.tr h.2.2.1, h.2.2.2⟩
theorem pa_Q.q3 {x : Option (yT × Int)} {v : Int} {u : zS} (h : pa_Q q X n s st b x v u) (hb : 0 ≤ b ∧ b ≤ 7) : pa_Q3 q X n s st (x.map fun x => (x.1, x.2, b)) v u := by
  cases x with
  | none => exact h
  | some y => exact ⟨h.1, h.2.1, h.2.2.1, h.2.2.2.1, h.2.2.2.2, hb⟩
theorem pa_no3 {u : zS} (f : pa_fr q s u) : zw (zi 0 u) (pa_Q3 q X n s st none) := zw_i ⟨rfl, f⟩
theorem pa_zz {F : zR} {x : Option (yT × Int)} (h : zw F (pa_Q q X n s st b x)) : zw (zC F fun v u => zz v u) (pa_Q q X n s st b x) := by
  refine zw_C' h fun v u g => ?_
  cases x with
  | none =>
    rw [g.1]
    exact zw_z0 ⟨rfl, g.2⟩
  | some y =>
    rw [g.1]
    exact zw_z1 ⟨rfl, g.2⟩
theorem pa_zi {F : zR} {x : Option (yT × Int)} (h : zw F (pa_Q q X n s st b x)) : zw (zC F fun v u => if v = 0 then zz 0 u else zz 1 u) (pa_Q q X n s st b x) := by
  refine zw_C' h fun v u g => ?_
  cases x with
  | none =>
    rw [g.1]
    exact zw_z0 ⟨rfl, g.2⟩
  | some y =>
    rw [g.1]
    exact zw_z1 ⟨rfl, g.2⟩
theorem pa51_70 {f : Int} (hX : pa_X X n) (hf : 0 ≤ f ∧ f < 48) (h6 : 0 ≤ st ∧ st < 6) (h : pa_at q X n T p st b s) (ok : pa_ok T st) (p1 : 0 ≤ p ∧ p ≤ n + 1) : zw (zf_51_70 0 f s) (pa_Q q X n s st b (if T 465 f = 42 then pa_acc (pa_sg X n) 93 (some (T, p)) else if T 465 f = 33 then (if (pa_int (pa_sg X n) p).1 = -1 then none else pa_acc (pa_sg X n) 93 (some (pa_w 466 f (pa_int (pa_sg X n) p).1 T, (pa_int (pa_sg X n) p).2))) else pa_acc (pa_sg X n) 93 (pa_sum (pa_sg X n) st f T p))) := by
  unfold zf_51_70
  rw [h.O, zn_ok hf, h.2.2.2.2.2.2.1 465 _ (by decide) (by decide)]
  by_cases c1 : T 465 f = 42
  · rw [if_pos c1, if_pos c1]
    exact pa_zz (pa_due hX (by decide) h ok p1)
  · rw [if_neg c1, if_neg c1, h.O, zn_ok hf, h.2.2.2.2.2.2.1 465 _ (by decide) (by decide)]
    by_cases c2 : T 465 f = 33
    · rw [if_pos c2, if_pos c2, h.O]
      refine zw_C' (pa53 hX h p1) fun w u ⟨g1, g2, g3, g4, g5, g6⟩ => ?_
      rw [zW_ok hf, (g2.qw (f := 466) (i := f) (v := w) (by decide)).O, zn_ok hf, zp_eq, g1]
      rw [g1] at g4
      by_cases c3 : (pa_int (pa_sg X n) p).1 = -1
      · rw [if_pos c3, if_pos c3]
        exact pa_no (g3.qw (by decide))
      · rw [if_neg c3, if_neg c3]
        exact (pa_zi (pa_due hX (by decide) (g2.qw (by decide)) (ok.w (by decide)) ⟨g5, g6⟩)).mono fun v t g => pa_Q.fr g (g3.qw (by decide))
    · rw [if_neg c2, if_neg c2]
      refine pa_bind (pa52 hX hf h6 h ok p1) (fun u => by rw [if_pos rfl]; rfl) fun y u hy a o y1 y2 => ?_
      rw [if_neg (by decide)]
      exact pa_zi (pa_due hX (by decide) a o ⟨y1, y2⟩)
theorem pa51_53 {f c : Int} (hX : pa_X X n) (hf : 0 ≤ f ∧ f < 48) (h6 : 0 ≤ st ∧ st < 6) (h : pa_at q X n T p st b s) (ok : pa_ok T st) (hc : pa_sg X n p = c) (hc2 : c ≠ -1) : zw (zf_51_53 0 f s) (pa_Q q X n s st b (if c = 42 then pa_acc (pa_sg X n) 93 (some (pa_w 465 f c T, p + 1)) else if c = 33 then (if (pa_int (pa_sg X n) (p + 1)).1 = -1 then none else pa_acc (pa_sg X n) 93 (some (pa_w 466 f (pa_int (pa_sg X n) (p + 1)).1 (pa_w 465 f c T), (pa_int (pa_sg X n) (p + 1)).2))) else pa_acc (pa_sg X n) 93 (pa_sum (pa_sg X n) st f (pa_w 465 f c T) (p + 1)))) := by
  have hn := hX.1
  have := pa_lt (X := X) (n := n) (p := p) (by omega)
  unfold zf_51_53
  rw [h.O, zW_ok hf, h.2.2.2.1, hc, pa_adv (h.qw (by decide)) (by omega) hn.2, zC_zi]
  have d := pa51_70 hX hf h6 (h.qw (f := 465) (i := f) (v := c) (by decide)).nx (ok.w (by decide)) (by omega)
  rw [pa_w_eq] at d
  exact d.mono fun v t g => pa_Q.fr g (pa_fr.rf.qw (by decide)).nx
theorem pa51 {f : Int} (hX : pa_X X n) (hf : 0 ≤ f ∧ f < 48) (h6 : 0 ≤ st ∧ st < 6) (h : pa_at q X n T p st b s) (ok : pa_ok T st) (p1 : 0 ≤ p ∧ p < n) : zw (zf_51 0 f s) (pa_Q q X n s st b (pa_cnt (pa_sg X n) st f T p)) := by
  have hn := hX.1
  unfold zf_51 pa_cnt
  have h1 := (h.qw (f := 458) (i := f) (v := 91) (by decide)).qw (f := 465) (i := f) (v := 43) (by decide)
  rw [h.O, zW_ok hf, (h.qw (by decide)).O, zW_ok hf, pa_adv h1 (by omega) hn.2, zC_zi, h1.nx.2.2.2.1]
  have o1 : pa_ok (pa_w 465 f 43 (pa_w 458 f 91 T)) st := (ok.w (by decide)).w (by decide)
  have F : pa_fr q s (pa_nx X n p (zp 465 q f 43 (zp 458 q f 91 s))) := ((pa_fr.rf.qw (by decide)).qw (by decide)).nx
  by_cases c1 : pa_sg X n (p + 1) = 42
  · rw [if_pos c1, if_pos c1]
    exact (pa51_53 hX hf h6 h1.nx o1 c1 (by decide)).mono fun v t g => pa_Q.fr g F
  · rw [if_neg c1, if_neg c1]
    by_cases c2 : pa_sg X n (p + 1) = 33
    · rw [if_pos c2, if_pos c2]
      exact (pa51_53 hX hf h6 h1.nx o1 c2 (by decide)).mono fun v t g => pa_Q.fr g F
    · rw [if_neg c2, if_neg c2]
      by_cases c3 : pa_sg X n (p + 1) = 63
      · rw [if_pos c3, if_pos c3]
        exact (pa51_53 hX hf h6 h1.nx o1 c3 (by decide)).mono fun v t g => pa_Q.fr g F
      · rw [if_neg c3, if_neg c3]
        have d := pa51_70 hX hf h6 h1.nx o1 (by omega)
        rw [pa_w_eq] at d
        exact d.mono fun v t g => pa_Q.fr g F
theorem pa_at.bw {v : Int} (h : pa_at q X n T p st b s) : pa_at q X n T p st v (zp 261 0 0 v s) := by
  obtain ⟨h1, h2, h3, h4, h5, h6, h7, h8, h9⟩ := h
  have e : ∀ (g m : Nat) (j : Int), g ≠ 261 → (zp 261 0 0 v s).1 g m j = s.1 g m j := fun g m j g1 => zp_nk g1
  exact ⟨(e _ _ _ (by decide)).trans h1, ⟨(e _ _ _ (by decide)).trans h2.1, h2.2⟩, (e _ _ _ (by decide)).trans h3, (e _ _ _ (by decide)).trans h4, (e _ _ _ (by decide)).trans h5, zp_eq, fun g j g1 g2 => (e _ _ _ (by omega)).trans (h7 g j g1 g2), (e _ _ _ (by decide)).trans h8, fun j j1 j2 => (e _ _ _ (by decide)).trans (h9 j j1 j2)⟩
theorem pa49_80 {v : Int} (h : pa_at q X n T p st b s) (hX : pa_X X n) (ok : pa_ok T st) (p1 : 0 ≤ p ∧ p < n) (hv : 0 ≤ v ∧ v ≤ 7) : zw (zf_49_80 0 0 v s) (pa_Q3 q X n s st (some (T, p + 1, v))) := by
  have hn := hX.1
  unfold zf_49_80
  rw [zP_ok, pa_adv (h.bw (v := v)) (by omega) hn.2, zC_zi]
  exact zw_z1 ⟨rfl, h.bw.nx, (pa_fr.rf.pw (by decide)).nx, ok, ⟨by dsimp only; omega, by dsimp only; omega⟩, hv.1, hv.2⟩
theorem pa49 {f : Int} (hX : pa_X X n) (hf : 0 ≤ f ∧ f < 48) (h : pa_at q X n T p st b s) (ok : pa_ok T st) (hb : 0 ≤ b ∧ b ≤ 7) : zw (zf_49 0 f s) (pa_Q3 q X n s st (if pa_sg X n p - 48 < 1 ∨ 8 - b < pa_sg X n p - 48 then none else some (pa_w 460 f (8 - (b + (pa_sg X n p - 48))) (pa_w 459 f (pa_sg X n p - 48) T), p + 1, if b + (pa_sg X n p - 48) = 8 then 0 else b + (pa_sg X n p - 48)))) := by
  have hG := hX.r p
  unfold zf_49
  rw [h.2.2.2.1, zg_ok ⟨by omega, by omega⟩]
  by_cases c1 : pa_sg X n p - 48 < 1
  · rw [if_pos c1, if_pos (Or.inl c1)]
    exact pa_no3 pa_fr.rf
  · rw [if_neg c1, h.2.2.2.2.2.1, zg_ok ⟨by omega, by omega⟩]
    by_cases c2 : pa_sg X n p - 48 ≤ 8 - b
    · have hp := pa_lt (X := X) (n := n) (p := p) (by omega)
      rw [if_pos c2, if_neg (by omega), zg_ok ⟨by omega, by omega⟩, zP_ok]
      have h1 := h.bw (v := b + (pa_sg X n p - 48))
      have h2 := h1.qw (f := 459) (i := f) (v := pa_sg X n p - 48) (by decide)
      have h3 := h2.qw (f := 460) (i := f) (v := 8 - (b + (pa_sg X n p - 48))) (by decide)
      rw [h1.O, zW_ok hf, h2.O, h2.2.2.2.2.2.1, zg_ok ⟨by omega, by omega⟩, zW_ok hf, h3.2.2.2.2.2.1]
      have F : pa_fr q s (zp 460 q f (8 - (b + (pa_sg X n p - 48))) (zp 459 q f (pa_sg X n p - 48) (zp 261 0 0 (b + (pa_sg X n p - 48)) s))) := ((pa_fr.rf.pw (by decide)).qw (by decide)).qw (by decide)
      have o3 : pa_ok (pa_w 460 f (8 - (b + (pa_sg X n p - 48))) (pa_w 459 f (pa_sg X n p - 48) T)) st := (ok.w (by decide)).w (by decide)
      by_cases c3 : b + (pa_sg X n p - 48) = 8
      · rw [if_pos c3, if_pos c3]
        exact (pa49_80 h3 hX o3 hp (by decide)).mono fun v t g => pa_Q3.fr g F
      · rw [if_neg c3, if_neg c3]
        exact (pa49_80 h3 hX o3 hp (by omega)).mono fun v t g => pa_Q3.fr g F
    · rw [if_neg c2, if_pos (by omega)]
      exact pa_no3 pa_fr.rf
theorem pa47_106 {f c : Int} (hX : pa_X X n) (hf : 0 ≤ f ∧ f < 48) (h6 : 0 ≤ st ∧ st < 6) (hb : 0 ≤ b ∧ b ≤ 7) (hc : c = pa_sg X n p) (w : Int) (h : pa_at q X n T p st b s) (ok : pa_ok T st) (p1 : 0 ≤ p ∧ p ≤ n + 1) : zw (zf_47_106 0 f c q f w s) (pa_Q3 q X n s st (pa_plain (pa_sg X n) st f (pa_w 459 f w T) p b)) := by
  have hn := hX.1
  have h1 := h.qw (f := 459) (i := f) (v := w) (by decide)
  have o1 : pa_ok (pa_w 459 f w T) st := ok.w (by decide)
  have F : pa_fr q s (pa_nx X n p (zp 459 q f w s)) := (pa_fr.rf.qw (by decide)).nx
  unfold zf_47_106 pa_plain
  rw [zW_ok hf, pa_adv h1 (by omega) hn.2, zC_zi, ← hc]
  have h2 := h1.nx
  generalize pa_nx X n p (zp 459 q f w s) = u at h2 F
  generalize pa_w 459 f w T = U at h2 o1 ⊢
  have lt : c ≠ -1 → 0 ≤ p ∧ p < n := fun e => pa_lt (by rw [← hc]; exact e)
  have yes : c ≠ -1 → zw (zz 1 u) (pa_Q3 q X n s st (some (U, p + 1, b))) := fun e => zw_z1 ⟨rfl, h2, F, o1, by have := lt e; dsimp only; omega, hb⟩
  by_cases c1 : c = 87
  · rw [if_pos c1, if_pos (by omega)]
    exact yes (by omega)
  · rw [if_neg c1]
    by_cases c2 : c = 98
    · rw [if_pos c2, if_pos (by omega)]
      exact yes (by omega)
    · rw [if_neg c2]
      by_cases c3 : c = 110
      · rw [if_pos c3, if_neg (by omega), if_neg (by omega), if_pos c3]
        refine zw_C' (pa49 hX hf h2 o1 hb) fun v t g => ?_
        revert g
        generalize (if pa_sg X n (p + 1) - 48 < 1 ∨ 8 - b < pa_sg X n (p + 1) - 48 then none else some (pa_w 460 f (8 - (b + (pa_sg X n (p + 1) - 48))) (pa_w 459 f (pa_sg X n (p + 1) - 48) U), p + 1 + 1, if b + (pa_sg X n (p + 1) - 48) = 8 then 0 else b + (pa_sg X n (p + 1) - 48))) = x
        intro g
        cases x with
        | none =>
          rw [g.1]
          exact zw_z0 ⟨rfl, F.tr g.2⟩
        | some y =>
          rw [g.1]
          exact zw_z1 ⟨rfl, g.2.1, F.tr g.2.2.1, g.2.2.2⟩
      · rw [if_neg c3]
        by_cases c4 : c = 114
        · rw [if_pos c4, if_neg (by omega), if_pos c4, h2.O, h2.O, zW_ok hf]
          have h3 := h2.qw (f := 463) (i := f) (v := U 451 0) (by decide)
          have o3 := o1.2.2.1
          rw [h2.2.2.2.2.2.2.1 451 0 (by decide) (by decide), h3.O, h3.O, zp_nk (by decide), h2.2.2.2.2.2.2.1 451 0 (by decide) (by decide), zg_ok ⟨by omega, by omega⟩, zW_ok hf]
          exact (pa_zz (pa48 (h3.qw (f := 464) (i := f) (v := U 451 0 + 1) (by decide)) hX ((o1.w (by decide)).w (by decide)))).mono fun v t g => pa_Q3.fr (pa_Q.q3 g hb) ((F.qw (by decide)).qw (by decide))
        · rw [if_neg c4]
          by_cases c5 : c = 115
          · have := lt (by omega)
            rw [if_pos c5, if_neg (by omega), if_neg c4, if_neg c3]
            have d := pa_bind (f := fun y => pa_acc (pa_sg X n) 41 (pa_sum (pa_sg X n) st f y.1 y.2)) (pa_due (c := 40) hX (by decide) h2 o1 (by omega)) (K := fun v7 s6 => if v7 = 0 then (zz 0 s6) else (zC (zf_52 0 f s6) fun v10 s9 => if v10 = 0 then (zz 0 s9) else (zC (zf_39 0 41 s9) fun v13 s12 => if v13 = 0 then (zz 0 s12) else (zz 1 s12)))) (fun u => by rw [if_pos rfl]; rfl) (fun y t hy a o y1 y2 => by
              rw [if_neg (by decide)]
              refine pa_bind (pa52 hX hf h6 a o ⟨y1, y2⟩) (fun u => by rw [if_pos rfl]; rfl) fun y u hy a o y1 y2 => ?_
              rw [if_neg (by decide)]
              exact pa_zi (pa_due hX (by decide) a o ⟨y1, y2⟩))
            refine d.mono fun v t g => ?_
            by_cases c6 : pa_sg X n (p + 1) = 40
            · rw [if_pos ⟨c5, c6⟩]
              rw [if_pos c6] at g
              exact pa_Q3.fr (pa_Q.q3 g hb) F
            · rw [if_neg (fun z => c6 z.2)]
              rw [if_neg c6] at g
              exact ⟨g.1, F.tr g.2⟩
          · rw [if_neg c5]
            by_cases c6 : c = 119
            · rw [if_pos c6, if_pos (by omega)]
              exact yes (by omega)
            · rw [if_neg c6]
              by_cases c7 : c = 122
              · rw [if_pos c7, if_pos (by omega)]
                exact yes (by omega)
              · rw [if_neg c7, if_neg (by omega), if_neg c4, if_neg c3, if_neg (fun z => c5 z.1)]
                exact zw_z0 ⟨rfl, F⟩
end
