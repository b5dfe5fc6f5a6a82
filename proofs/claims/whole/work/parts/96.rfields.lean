/-! the reference's parser: the fields of a structure -/
section
variable {t st n N p b : Int} {X Y G : Int → Int} {T : yT} {s u : zS}
theorem z158 {c : Int} : zf_158 c s = zi (if 97 ≤ c ∧ c ≤ 122 then 1 else 0) s := by
  unfold zf_158
  rw [z146, zC_zi]
  split <;> rfl
theorem rS.dn (h : rS t X n N (some p) s) (hp : p ≤ n) : rS t X n n (some p) s := ⟨h.1, h.2.1, h.2.2.1, by have := h.2.2.2.1; have := h.p5; omega, h.2.2.2.2⟩
theorem r169_128_bad {M : Nat} (hX : pa_X X n) (h6 : 0 ≤ st ∧ st ≤ 5) (h82 : 0 ≤ s.1 582 0 t ∧ s.1 582 0 t ≤ 6) (h : rS t X n N none s) (hN : n ≤ N ∧ N ≤ 60000) : ∃ u, zf_169_128 (M + 1) 0 t st b s = zi 0 u ∧ rkl t st s u ∧ u.1 582 0 t = s.1 582 0 t + 1 ∧ rS t X n (N + 1) none u := by
  obtain ⟨u, v, a1, a2, a3, a4⟩ := r169_359_bad (b := b) hX h6 h82 h hN
  subst a3
  unfold zf_169_128
  rw [if_pos h.2.2.2.2.2]
  refine ⟨_, a4, ⟨fun f' n' i' hn => ?_, a1.2, fun z i => ?_⟩, zp_eq, ?_⟩
  · rw [zp_n3 (by omega)]
    exact a1.1 f' n' i' (by omega)
  · rw [zp_nk (by decide), a1.1 589 0 i (by omega)]
    exact z i
  · have m := a2.mk3 (u := zp 582 0 t (s.1 582 0 t + 1) v) (g := 0) (fun f i hf => zp_nk (by omega)) ((zp_nk (by decide)).trans a2.2.2.2.2.2) (Or.inl rfl)
    rw [if_pos rfl] at m
    exact m
/-- what the fields' loop comes to -/
def rLL (t st : Int) (X Y : Int → Int) (n : Int) (s : zS) (R : Option (yT × Int)) (u : zS) : Prop := rkl t st s u ∧ u.1 582 0 t = s.1 582 0 t + 1 ∧
    (match R with
    | none => rS t X n (n + 200) none u
    | some y => rS t X n (n + 1) (some y.2) u ∧ rT t st y.1 u ∧ rR t st (y.1 453 st) y.1 u ∧ ∀ j, 0 ≤ j → j < y.1 453 st → rQ t Y n st j y.1 u ∧ pRR st y.1 j)
theorem rLL.of {R : Option (yT × Int)} {v : zS} (h : rLL t st X Y n u R v) (a : rkl t st s u) (e : u.1 582 0 t = s.1 582 0 t) : rLL t st X Y n s R v := ⟨a.tr h.1, by rw [h.2.1, e], h.2.2⟩
/-- the loop at its end -/
theorem r169_128_end (hX : pa_X X n) (hT : rT t st T s) (hR : rR t st 0 T s) (hQ : ∀ j, 0 ≤ j → j < T 453 st → rQ t Y n st j T s) (h : rS t X n n (some p) s) (h82 : 0 ≤ s.1 582 0 t ∧ s.1 582 0 t ≤ 6) : ∃ u, zf_169_359 0 t st b s = zi 0 u ∧ rLL t st X Y n s (pa_close (pa_sg X n) st T p b) u := by
  have t3 := hT.2.2.1
  obtain ⟨u, a1, a2, a3, a4⟩ := r169_359_good (b := b) hX h82 hT hR h
  refine ⟨u, a1, a2.l, a3, ?_⟩
  revert a4
  cases e : pa_close (pa_sg X n) st T p b with
  | none =>
    intro a4
    exact rS.up a4 (by omega)
  | some y =>
    intro a4
    obtain ⟨b1, b2, b3⟩ := a4
    obtain ⟨c1, c2, c3, c4⟩ := pa_close_k e
    have K := pa_rels_k _ _ _ c4
    have P := pa_rels_P _ _ _ c4 t3.1
    have e3 : y.1 453 st = T 453 st := K 453 st (by omega)
    have E : pE st (T 453 st) T y.1 := ⟨fun g i g1 g2 i1 i2 => K g _ (by omega), ⟨by rw [K 450 0 (by omega)]; exact Int.le_refl _, fun i _ => ⟨K 454 i (by omega), K 455 i (by omega)⟩⟩, by rw [K 451 0 (by omega)]; exact Int.le_refl _, fun i _ => K 456 i (by omega)⟩
    refine ⟨b1, b2, by rw [e3]; exact b3, fun j j1 j2 => ?_⟩
    rw [e3] at j2
    exact ⟨(hQ j j1 j2).E E ⟨j1, j2⟩ fun i i1 i2 => a2.1 i 0 _ (by omega), P j j1 (by omega)⟩
theorem r169_128 (hX : pa_X X n) (hY : ∀ p, 0 ≤ p → p < n → Y p = pa_sg X n p) : ∀ (m M : Nat) (T : yT) (p b : Int) (s : zS), m + 2 ≤ M → (m : Int) = 8 - T 453 st → rT t st T s → rR t st 0 T s → (∀ j, 0 ≤ j → j < T 453 st → rQ t Y n st j T s) → rS t X n n (some p) s → (b = yBit T st (T 453 st).toNat ∧ 0 ≤ b ∧ b ≤ 7) → ((0 ≤ T 450 0 ∧ 2 * T 450 0 ≤ p) ∧ 0 ≤ T 451 0 ∧ 2 * T 451 0 ≤ p) → (0 ≤ s.1 582 0 t ∧ s.1 582 0 t ≤ 5) → (∀ i, -48 ≤ s.1 589 0 i ∧ s.1 589 0 i ≤ 207) →
    ∃ u, zf_169_128 M 0 t st b s = zi 0 u ∧ rLL t st X Y n s ((pa_fields (pa_sg X n) st m (T 453 st) T p b).bind fun x => pa_close (pa_sg X n) st x.1 x.2.1 x.2.2) u := by
  have hn := hX.1
  have bad : ∀ (s v : zS) (M : Nat) (b' N : Int) , 1 ≤ M → rkl t st s v → v.1 582 0 t = s.1 582 0 t → (0 ≤ st ∧ st ≤ 5) → (0 ≤ s.1 582 0 t ∧ s.1 582 0 t ≤ 5) → rS t X n N none v → n ≤ N ∧ N ≤ n + 100 → ∃ u, zf_169_128 M 0 t st b' v = zi 0 u ∧ rLL t st X Y n s none u := by
    intro s v M b' N hM a e h6 h82 h hN
    obtain ⟨M, rfl⟩ : ∃ L, M = L + 1 := ⟨M - 1, by omega⟩
    obtain ⟨u, g1, g2, g3, g4⟩ := r169_128_bad (M := M) (b := b') hX h6 (by rw [e]; omega) h ⟨hN.1, by omega⟩
    exact ⟨u, g1, a.tr g2, by rw [g3, e], g4.up (by omega)⟩
  intro m
  induction m with
  | zero =>
    intro M T p b s hM hm hT hR hQ h hb h0 h82 h89
    obtain ⟨M, rfl⟩ : ∃ L, M = L + 1 := ⟨M - 1, by omega⟩
    have h1 := h.1
    have h4 := h.2.2.2.1
    have h5 := h.p5
    have t1 := hT.1
    have t2 := hT.2.1
    have hr := ra_c (X := X) (n := n) (p := p) (by omega)
    unfold zf_169_128
    rw [if_neg (show ¬ s.1 606 0 0 = 0 by have := h.2.2.2.2.2.1; omega), r156 h hn.2 (by omega), zC_zi, h5]
    by_cases c : pa_sg X n p = 125
    · rw [if_pos (show ra_sg X n p = 125 by omega)]
      exact r169_128_end hX hT hR hQ h ⟨h82.1, by omega⟩
    · rw [if_neg (show ¬ ra_sg X n p = 125 by omega), zg_ok ⟨by omega, by omega⟩, zg_ok ⟨by omega, by omega⟩, zn_ok (by omega), t2, if_pos (by omega), zg_ok ⟨by omega, by omega⟩, zg_ok ⟨by omega, by omega⟩]
      unfold zf_169_208
      rw [zPz_ok (by decide), if_pos zp_eq]
      have e : ((pa_fields (pa_sg X n) st 0 (T 453 st) T p b).bind fun x => pa_close (pa_sg X n) st x.1 x.2.1 x.2.2) = none := by
        show pa_close (pa_sg X n) st T p b = none
        unfold pa_close
        exact pa_close_no (fun z => c z.2)
      rw [e]
      have m := h.g (g := 0) (Or.inl rfl)
      rw [if_pos rfl] at m
      exact bad s _ M b n (by omega) (rk.z (rk.rf.pw (Or.inr rfl))).l (zp_nk (by decide)) t1 h82 m ⟨Int.le_refl _, by omega⟩
  | succ m ih =>
    intro M T p b s hM hm hT hR hQ h hb h0 h82 h89
    obtain ⟨M, rfl⟩ : ∃ L, M = L + 1 := ⟨M - 1, by omega⟩
    have h1 := h.1
    have h4 := h.2.2.2.1
    have h5 := h.p5
    have t1 := hT.1
    have t2 := hT.2.1
    have t3 := hT.2.2.1
    have hr := ra_c (X := X) (n := n) (p := p) (by omega)
    have hrr := r156 h hn.2 (by omega)
    rw [h5] at hrr
    unfold zf_169_128 pa_fields
    rw [if_neg (show ¬ s.1 606 0 0 = 0 by have := h.2.2.2.2.2.1; omega), hrr, zC_zi]
    by_cases c : pa_sg X n p = 125
    · rw [if_pos (show ra_sg X n p = 125 by omega), if_pos c]
      exact r169_128_end hX hT hR hQ h ⟨h82.1, by omega⟩
    · rw [if_neg (show ¬ ra_sg X n p = 125 by omega), if_neg c, zg_ok ⟨by omega, by omega⟩, zg_ok ⟨by omega, by omega⟩, zn_ok (by omega), t2, if_neg (show ¬ 8 ≤ T 453 st by omega), hrr, zC_zi, z158, zC_zi]
      have no : ∀ (w : Int), pa_field (pa_sg X n) st (T 453 st) T p b = none → ∃ u, zf_169_208 (fun y0 y1 y2 y3 y => zf_169_128 M y0 y1 y2 y3 y) 0 t st b w 0 0 s = zi 0 u ∧ rLL t st X Y n s (((pa_field (pa_sg X n) st (T 453 st) T p b).bind fun x => pa_fields (pa_sg X n) st m (T 453 st + 1) x.1 x.2.1 x.2.2).bind fun x => pa_close (pa_sg X n) st x.1 x.2.1 x.2.2) u := by
        intro w e
        unfold zf_169_208
        rw [e, zPz_ok (by decide), if_pos zp_eq]
        have m := h.g (g := 0) (Or.inl rfl)
        rw [if_pos rfl] at m
        exact bad s _ M b n (by omega) (rk.z (rk.rf.pw (Or.inr rfl))).l (zp_nk (by decide)) t1 h82 m ⟨Int.le_refl _, by omega⟩
      by_cases c1 : 97 ≤ pa_sg X n p ∧ pa_sg X n p ≤ 122
      · rw [if_pos (show 97 ≤ ra_sg X n p ∧ ra_sg X n p ≤ 122 by omega), if_neg (by decide), hrr, zC_zi, r162 hT h1, zC_zi, show ra_sg X n p = pa_sg X n p by omega]
        have ew : 8 * (6 * t + st) + T 453 st = 48 * t + (8 * st + T 453 st) := by omega
        by_cases c2 : pa_pl T st (pa_sg X n p - 97) = -1
        · rw [if_pos c2, zg_ok ⟨by omega, by omega⟩, zg_ok ⟨by omega, by omega⟩, ew]
          have hw2 : 0 ≤ 48 * t + (8 * st + T 453 st) ∧ 48 * t + (8 * st + T 453 st) < 192 := by omega
          obtain ⟨v, a1, a2, a3, a4⟩ := r169_A (zk := fun y0 y1 y2 y3 y => zf_169_128 M y0 y1 y2 y3 y) (t := t) (st := st) (b := b) hX hw2 h c1
          rw [a1]
          have Fl := a2.l (t := t) (st := st) ⟨t3.1, by omega⟩
          have v82 : v.1 582 0 t = s.1 582 0 t := a2.1 582 0 t (by omega)
          have hTv : rT t st T v := hT.rkf a2 rfl
          by_cases c3 : pa_sg X n (p + 1) = 58
          · rw [if_pos c3] at a3
            have l3 := pa_lt (X := X) (n := n) (p := p + 1) (by omega)
            have a3 := a3.dn (by omega)
            obtain ⟨u, b', g1, g2, g3, g4⟩ := r169_good (zk := fun y0 y1 y2 y3 y => zf_169_128 M y0 y1 y2 y3 y) hX rfl rfl (by omega) hTv hb.2 (Fl.2.2 h89 _) (by omega) ⟨⟨c1.1, c1.2, c2⟩, c3⟩ h0 a3
            have G2 := Fl.tr (g2.l ⟨t3.1, by omega⟩)
            have u82 : u.1 582 0 t = s.1 582 0 t := (g2.1 582 0 t (by omega)).trans v82
            rw [g1]
            revert g4
            cases e : pa_field (pa_sg X n) st (T 453 st) T p b with
            | none =>
              intro g4
              exact bad s u M b' (n + 30) (by omega) G2 u82 t1 h82 g4 ⟨by omega, by omega⟩
            | some x =>
              intro g4
              have K := pa_field_k e
              rcases g4 with ⟨k1, k2, k3, k4, k5⟩ | ⟨k1, k2⟩
              · obtain ⟨P, C, R, B, xn⟩ := pa_field_P (Y := Y) hY (fun p h => pa_lt h) rfl rfl t3.1 (by omega) h0.1.1 h0.2.1 hb e
                have x1 := pa_field_1 e
                have hTu : rT t st x.1 u := rT.nx hTv rfl rfl (by omega) g2 g3 (k4.trans a4) e k5
                have CC : ∀ (g : Nat) (j : Int), 586 ≤ g → g ≤ 593 → j ≠ T 453 st → u.1 g 0 (48 * t + (8 * st + j)) = s.1 g 0 (48 * t + (8 * st + j)) := fun g j g1 g3 hj => (g2.1 g 0 _ (by omega)).trans (a2.1 g 0 _ (by omega))
                have hRu : rR t st 0 x.1 u := hR.nx rfl K k5 R (fun z => by have := (P.2.2.2.1 z).1; omega) CC
                have hQu : ∀ j, 0 ≤ j → j < x.1 453 st → rQ t Y n st j x.1 u := fun j j1 j2 => by
                  rw [K.2.2.2] at j2
                  by_cases ej : j = T 453 st
                  · rw [ej]
                    exact rQ_mk k5 (by omega) P R
                  · exact (hQ j j1 (by omega)).E (K.E (K := T 453 st) (Or.inl ⟨rfl, Int.le_refl _⟩)) ⟨j1, by omega⟩ fun i i1 i2 => CC i j (by omega) (by omega) ej
                subst k3
                have IH := ih M x.1 x.2.1 x.2.2 u (by omega) (by rw [K.2.2.2]; omega) hTu hRu hQu (k2.dn xn) ⟨by rw [K.2.2.2]; exact B.1, B.2⟩ (by have := K.2.1.1; have := K.2.2.1.1; omega) (by rw [u82]; exact h82) (G2.2.2 h89)
                obtain ⟨y, i1, i2⟩ := IH
                rw [K.2.2.2] at i2
                exact ⟨y, i1, i2.of G2 u82⟩
              · have e2 : (((some x : Option (yT × Int × Int)).bind fun x => pa_fields (pa_sg X n) st m (T 453 st + 1) x.1 x.2.1 x.2.2).bind fun x => pa_close (pa_sg X n) st x.1 x.2.1 x.2.2) = none := by
                  refine pa_poison m (T 453 st + 1) x.1 x.2.1 x.2.2 (pa_let.nx ⟨t3.1, fun k k1 k2 => (hT.2.2.2.1 k k1 k2).2.2⟩ rfl e) (by rw [K.2.2.2]) t3.1 (by omega) k1
                rw [e2]
                exact bad s u M b' (n + 30) (by omega) G2 u82 t1 h82 k2 ⟨by omega, by omega⟩
          · rw [if_neg c3] at a3
            obtain ⟨u, b', g1, g2, g3, g4⟩ := r169_bad (zk := fun y0 y1 y2 y3 y => zf_169_128 M y0 y1 y2 y3 y) hX rfl rfl (by omega) hTv (b := b) (by omega) (Fl.2.2 h89 _) a3 ⟨by omega, by omega⟩
            have e : pa_field (pa_sg X n) st (T 453 st) T p b = none := by
              unfold pa_field
              rw [if_neg (fun z => c3 z.2)]
            rw [g1, e]
            exact bad s u M b' (n + 2 + 21) (by omega) (Fl.tr (g2.l ⟨t3.1, by omega⟩)) ((g2.1 582 0 t (by omega)).trans v82) t1 h82 g4 ⟨by omega, by omega⟩
        · rw [if_neg c2, zg_ok ⟨by omega, by omega⟩, zg_ok ⟨by omega, by omega⟩]
          refine no _ ?_
          unfold pa_field
          rw [if_neg (fun z => c2 z.1.2.2)]
      · rw [if_neg (show ¬ (97 ≤ ra_sg X n p ∧ ra_sg X n p ≤ 122) by omega), if_pos rfl, zg_ok ⟨by omega, by omega⟩, zg_ok ⟨by omega, by omega⟩]
        refine no _ ?_
        unfold pa_field
        rw [if_neg (fun z => c1 ⟨z.1.1, z.1.2.1⟩)]
end
