/-! what a type lays, as text -/
def pP (Y : Int → Int) (n st k f : Int) (T : yT) (p b : Int) : Prop :=
  (T 458 f = 65 ∨ T 458 f = 91 ∨ T 458 f = 98 ∨ T 458 f = 119 ∨ T 458 f = 87 ∨ T 458 f = 114 ∨ T 458 f = 110 ∨ T 458 f = 115 ∨ T 458 f = 122)
  ∧ (T 458 f = 65 ∨ T 458 f = 91 → qN Y n f T p)
  ∧ (T 458 f = 114 → qN Y n f T (p + 1) ∧ T 464 f = T 463 f + 1)
  ∧ (T 458 f = 91 → (T 465 f = 42 ∨ T 465 f = 33 ∨ T 465 f = 63 ∨ T 465 f = 43) ∧ (T 465 f = 43 → qS Y st k f T (p + 2 * (T 464 f - T 463 f))) ∧ (T 465 f = 63 → qS Y st k f T (p + 2 * (T 464 f - T 463 f) + 1)) ∧ (T 465 f = 33 → p + 2 * (T 464 f - T 463 f) + 1 < n ∧ (mNum Y 3 0 (p + 2 * (T 464 f - T 463 f) + 1)).1 = T 466 f))
  ∧ (T 458 f = 115 → qS Y st k f T (p + 2))
  ∧ (T 458 f = 110 → (1 ≤ T 459 f ∧ T 459 f ≤ 8) ∧ T 460 f = 8 - (b + T 459 f) ∧ 0 ≤ T 460 f ∧ T 460 f ≤ 7)
  ∧ (T 458 f = 98 ∨ T 458 f = 114 → T 459 f = 8) ∧ (T 458 f = 119 ∨ T 458 f = 87 → T 459 f = 16) ∧ (T 458 f ≠ 110 → b = 0)
/-- the choices that came are the field's -/
def pC (f : Int) (T U : yT) : Prop := ((U 458 f = 65 ∨ U 458 f = 91 ∨ U 458 f = 114) ∧ U 463 f = T 451 0 ∧ U 464 f = U 451 0) ∨ U 451 0 = T 451 0
section
variable {Y G : Int → Int} {n f st k p b : Int} {T U : yT}
theorem names_qN {y : yT × Int} {Z : yT} (hY : ∀ p, 0 ≤ p → p < n → Y p = G p) (e : pa_names G f T p = some y) (p0 : 0 ≤ p) (t1 : 0 ≤ T 451 0) (h1 : Z 463 f = y.1 463 f) (h2 : Z 464 f = y.1 464 f) (h3 : Z 451 0 = y.1 451 0) (h4 : ∀ i, Z 456 i = y.1 456 i) (hE : G y.2 ≠ 124 ∧ y.2 < n) : qN Y n f Z p := by
  obtain ⟨n1, n2, n3, n4, n5, n6⟩ := pa_names_k e
  unfold qN
  rw [h1, h2, h3, n2, n4]
  refine ⟨t1, n3, Int.le_refl _, fun j j1 j2 => ?_⟩
  obtain ⟨a1, a2, a3⟩ := n6 j j1 j2
  rw [h4, a2, hY (p + 2 * j) (by omega) (by omega), hY (p + 2 * j + 1) (by omega) (by omega)]
  refine ⟨by omega, a1, rfl, fun _ => ⟨fun z => ?_, fun z => ?_⟩⟩
  · by_cases c : j + 1 < y.1 451 0 - T 451 0
    · exact c
    · rw [show p + 2 * j + 1 = y.2 by omega] at z
      exact absurd z hE.1
  · have := (n6 (j + 1) (by omega) z).2.2 (by omega)
    rw [show p + 2 * (j + 1) - 1 = p + 2 * j + 1 by omega] at this
    exact this
theorem pa_type_P {x : yT × Int × Int} (hY : ∀ p, 0 ≤ p → p < n → Y p = G p) (hG : ∀ p, G p ≠ -1 → 0 ≤ p ∧ p < n) (hf : f = 8 * st + k) (hk : T 453 st = k) (k0 : 0 ≤ k) (p0 : 0 ≤ p) (t0 : 0 ≤ T 450 0) (t1 : 0 ≤ T 451 0) (b0 : 0 ≤ b) (h : pa_type G st f T p b = some x) (hE : G x.2.1 = 59 ∨ G x.2.1 = 61) : pP Y n st k f x.1 p b ∧ pC f T x.1 := by
  have lx := hG x.2.1 (by omega)
  unfold pa_type at h
  by_cases c1 : G p ≠ 110 ∧ b ≠ 0
  · rw [if_pos c1] at h
    cases h
  rw [if_neg c1] at h
  by_cases c2 : 65 ≤ G p ∧ G p ≤ 90 ∧ G p ≠ 87
  · rw [if_pos c2] at h
    have b1 : b = 0 := by
      by_cases z : b = 0
      · exact z
      · exact absurd ⟨by omega, z⟩ c1
    cases e : pa_names G f (pa_w 458 f 65 T) p with
    | none => rw [e] at h; cases h
    | some y =>
      rw [e] at h
      obtain ⟨n1, n2, n3, n4, n5, n6⟩ := pa_names_k e
      rw [pa_w_nk (by decide)] at n2 n3 n5
      have n58 := n1 458 f (by decide) (by decide) (by omega)
      rw [pa_w_eq] at n58
      have h : (if G y.2 = 91 then pa_cnt G st f y.1 y.2 else some y).map (fun x => (x.1, x.2, b)) = some x := h
      by_cases d : G y.2 = 91
      · rw [if_pos d] at h
        cases e2 : pa_cnt G st f y.1 y.2 with
        | none => rw [e2] at h; cases h
        | some z =>
          rw [e2] at h
          injection h with h
          have x1 : x.1 = z.1 := by rw [← h]
          rw [x1]
          obtain ⟨m1, m2, m3⟩ := pa_cnt_k e2
          have z3 := m3 463 f (by decide) (by decide) (by decide) (by omega)
          have z4 := m3 464 f (by decide) (by decide) (by decide) (by omega)
          have z51 := m3 451 0 (by decide) (by decide) (by decide) (by omega)
          have z56 : ∀ i, z.1 456 i = y.1 456 i := fun i => m3 456 i (by decide) (by decide) (by decide) (by omega)
          have cn := pa_cnt_P hY hG hf e2 (by rw [n1 453 st (by decide) (by decide) (by omega), pa_w_nk (by decide)]; exact hk) k0 (by omega) (by rw [n1 450 0 (by decide) (by decide) (by omega), pa_w_nk (by decide)]; exact t0)
          have ly := hG y.2 (by omega)
          refine ⟨⟨Or.inr (Or.inl m1), fun _ => names_qN hY e p0 (by rw [pa_w_nk (by decide)]; exact t1) z3 z4 z51 z56 ⟨by omega, ly.2⟩, fun q => by omega, fun _ => ⟨?_, fun q => ?_, fun q => ?_, fun q => ?_⟩, fun q => by omega, fun q => by omega, fun q => by omega, fun q => by omega, fun _ => b1⟩, Or.inl ⟨Or.inr (Or.inl m1), z3.trans n2, by omega⟩⟩
          · rw [m2]
            split <;> omega
          · rw [show p + 2 * (z.1 464 f - z.1 463 f) = y.2 + 1 by omega]
            exact cn.1 q
          · rw [show p + 2 * (z.1 464 f - z.1 463 f) + 1 = y.2 + 1 + 1 by omega]
            exact cn.2.1 q
          · rw [show p + 2 * (z.1 464 f - z.1 463 f) + 1 = y.2 + 1 + 1 by omega]
            exact cn.2.2 q
      · rw [if_neg d] at h
        injection h with h
        have x1 : x.1 = y.1 := by rw [← h]
        have x2 : x.2.1 = y.2 := by rw [← h]
        rw [x2] at hE lx
        rw [x1]
        refine ⟨⟨Or.inl n58, fun _ => names_qN hY e p0 (by rw [pa_w_nk (by decide)]; exact t1) rfl rfl rfl (fun _ => rfl) ⟨by omega, lx.2⟩, fun q => by omega, fun q => by omega, fun q => by omega, fun q => by omega, fun q => by omega, fun q => by omega, fun _ => b1⟩, Or.inl ⟨Or.inl n58, n2, n4⟩⟩
  · rw [if_neg c2] at h
    unfold pa_plain at h
    have e58 : pa_w 459 f (if G p = 119 ∨ G p = 87 then 16 else 8) (pa_w 458 f (G p) T) 458 f = G p := by rw [pa_w_nk (by decide), pa_w_eq]
    have e59 : pa_w 459 f (if G p = 119 ∨ G p = 87 then 16 else 8) (pa_w 458 f (G p) T) 459 f = (if G p = 119 ∨ G p = 87 then 16 else 8) := pa_w_eq
    have eo : ∀ (g : Nat) (i : Int), g ≠ 458 → g ≠ 459 → pa_w 459 f (if G p = 119 ∨ G p = 87 then 16 else 8) (pa_w 458 f (G p) T) g i = T g i := fun g i g1 g2 => by rw [pa_w_nk g2, pa_w_nk g1]
    generalize pa_w 459 f (if G p = 119 ∨ G p = 87 then 16 else 8) (pa_w 458 f (G p) T) = T' at h e58 e59 eo
    have b1 : G p ≠ 110 → b = 0 := fun q => by
      by_cases z : b = 0
      · exact z
      · exact absurd ⟨q, z⟩ c1
    by_cases d1 : G p = 98 ∨ G p = 119 ∨ G p = 87 ∨ G p = 122
    · rw [if_pos d1] at h
      injection h with h
      have x1 : x.1 = T' := by rw [← h]
      rw [x1]
      unfold pP
      rw [e58]
      refine ⟨⟨by omega, fun q => by omega, fun q => by omega, fun q => by omega, fun q => by omega, fun q => by omega, fun q => ?_, fun q => ?_, b1⟩, Or.inr (eo 451 0 (by decide) (by decide))⟩
      · rw [e59, if_neg (by omega)]
      · rw [e59, if_pos q]
    · rw [if_neg d1] at h
      by_cases d2 : G p = 114
      · rw [if_pos d2] at h
        cases e : pa_cho G (pa_w 464 f (T' 451 0 + 1) (pa_w 463 f (T' 451 0) T')) (p + 1) with
        | none => rw [e] at h; cases h
        | some y =>
          rw [e] at h
          injection h with h
          have x1 : x.1 = y.1 := by rw [← h]
          have x2 : x.2.1 = y.2 := by rw [← h]
          obtain ⟨k1, k2, k3, k4, k5, k6⟩ := pa_cho_k e
          rw [pa_w_nk (by decide), pa_w_nk (by decide), eo 451 0 (by decide) (by decide)] at k4 k5 k6
          have f3 : y.1 463 f = T 451 0 := by rw [k1 463 f (by decide) (by decide), pa_w_nk (by decide), pa_w_eq, eo 451 0 (by decide) (by decide)]
          have f4 : y.1 464 f = T 451 0 + 1 := by rw [k1 464 f (by decide) (by decide), pa_w_eq, eo 451 0 (by decide) (by decide)]
          have f8 : y.1 458 f = 114 := by rw [k1 458 f (by decide) (by decide), pa_w_nk (by decide), pa_w_nk (by decide), e58, d2]
          have f9 : y.1 459 f = 8 := by rw [k1 459 f (by decide) (by decide), pa_w_nk (by decide), pa_w_nk (by decide), e59, if_neg (by omega)]
          rw [x2] at lx
          rw [x1]
          refine ⟨⟨by omega, fun q => by omega, fun _ => ⟨⟨by omega, by omega, by omega, fun j j1 j2 => ?_⟩, by omega⟩, fun q => by omega, fun q => by omega, fun q => by omega, fun _ => f9, fun q => by omega, fun _ => b1 (by omega)⟩, Or.inl ⟨Or.inr (Or.inr f8), f3, by omega⟩⟩
          have j0 : j = 0 := by omega
          subst j0
          rw [show p + 1 + 2 * 0 = p + 1 by omega, hY (p + 1) (by omega) (by omega), f3, Int.add_zero, k6]
          exact ⟨by omega, ⟨k3.1, k3.2.1⟩, rfl, fun z => absurd f8 z⟩
      · rw [if_neg d2] at h
        by_cases d3 : G p = 110
        · rw [if_pos d3] at h
          split at h
          · cases h
          · rename_i d4
            injection h with h
            have x1 : x.1 = pa_w 460 f (8 - (b + (G (p + 1) - 48))) (pa_w 459 f (G (p + 1) - 48) T') := by rw [← h]
            have f8 : x.1 458 f = 110 := by rw [x1, pa_w_nk (by decide), pa_w_nk (by decide), e58, d3]
            have f9 : x.1 459 f = G (p + 1) - 48 := by rw [x1, pa_w_nk (by decide), pa_w_eq]
            have f0 : x.1 460 f = 8 - (b + (G (p + 1) - 48)) := by rw [x1, pa_w_eq]
            refine ⟨⟨by omega, fun q => by omega, fun q => by omega, fun q => by omega, fun q => by omega, fun q => by omega, fun q => by omega, fun q => by omega, fun q => absurd f8 q⟩, Or.inr ?_⟩
            rw [x1, pa_w_nk (by decide), pa_w_nk (by decide), eo 451 0 (by decide) (by decide)]
        · rw [if_neg d3] at h
          split at h
          · rename_i d4
            cases e : pa_acc G 41 (pa_sum G st f T' (p + 1 + 1)) with
            | none => rw [e] at h; cases h
            | some y =>
              rw [e] at h
              injection h with h
              have x1 : x.1 = y.1 := by rw [← h]
              obtain ⟨z, e2, rfl, g⟩ := pa_kp.acc e
              have lz := hG z.2 (by omega)
              have K := pa_sum_k e2
              have P := pa_sum_P hY hf e2 (by rw [eo 453 st (by decide) (by decide)]; exact hk) k0 (by omega) lz.2 (by rw [eo 450 0 (by decide) (by decide)]; exact t0)
              have f8 : z.1 458 f = 115 := by rw [K 458 f (by decide) (by decide) (by decide) (by omega), e58, d4.1]
              rw [x1]
              dsimp only
              refine ⟨⟨by omega, fun q => by omega, fun q => by omega, fun q => by omega, fun _ => ?_, fun q => by omega, fun q => by omega, fun q => by omega, fun q => b1 d3⟩, Or.inr ?_⟩
              · rw [show p + 2 = p + 1 + 1 by omega]
                exact P
              · rw [K 451 0 (by decide) (by decide) (by decide) (by omega), eo 451 0 (by decide) (by decide)]
          · cases h
end
