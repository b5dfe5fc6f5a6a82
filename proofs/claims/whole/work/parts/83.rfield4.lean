/-! the reference's parser: a good field, from its type on -/
/-- what the reference's tables hold of a field that is taken: x the tables, p the place of its type -/
def rFF (w : Int) (G : Int → Int) (st f : Int) (T : yT) (p b : Int) (x : yT) (u : zS) : Prop :=
  (∃ V, rF w G st f T p V u ∧ ∀ (g : Nat) (i : Int), g ≠ 453 → g ≠ 457 → g ≠ 467 → g ≠ 468 → g ≠ 460 → x g i = V g i)
  ∧ (x 458 f = 110 → x 460 f = 8 - (b + x 459 f)) ∧ u.1 592 0 w = (if x 467 f = 61 then 73 else x 467 f) ∧ (x 467 f ≠ 0 → u.1 593 0 w = (if x 467 f = 61 then x 468 f else x 468 f + 97))
section
variable {t st n N p w f b : Int} {X : Int → Int} {T : yT} {s : zS}
theorem pa_rel_k {G : Int → Int} {U : yT} {z : yT × Int} (h : pa_rel G f U p = some z) : ∀ (g : Nat) (i : Int), g ≠ 467 → g ≠ 468 → z.1 g i = U g i := fun g i g1 g2 => by
  unfold pa_rel at h
  split at h
  · split at h
    · injection h with h
      rw [← h]
      dsimp only
      rw [pa_w_nk g2, pa_w_nk g1]
    · split at h
      · injection h with h
        rw [← h]
        dsimp only
        rw [pa_w_nk g2, pa_w_nk g1]
      · cases h
  · cases h
theorem pa_R_k {G : Int → Int} {U : yT} {z : yT × Int} (h : (if G p = 61 then pa_rel G f U p else some (U, p)) = some z) : ∀ (g : Nat) (i : Int), g ≠ 467 → g ≠ 468 → z.1 g i = U g i := fun g i g1 g2 => by
  split at h
  · exact pa_rel_k h g i g1 g2
  · injection h with h
    rw [← h]
theorem rF.tr {G : Int → Int} {V : yT} {u : zS} (h : rF w G st f T p V s) (a : ∀ i : Nat, 586 ≤ i → i ≤ 591 → u.1 i 0 w = s.1 i 0 w) : rF w G st f T p V u := by
  unfold rF at h ⊢
  rw [a 587 (by decide) (by decide), a 588 (by decide) (by decide), a 589 (by decide) (by decide), a 590 (by decide) (by decide), a 591 (by decide) (by decide)]
  exact h
theorem pa_rok.c {U V : yT} (a : U 467 f = V 467 f) (c : U 468 f = V 468 f) (h : pa_rok f U) : pa_rok f V := by
  unfold pa_rok at h ⊢
  rw [← a, ← c]
  exact h
theorem r169_good {zk : Nat → Int → Int → Int → zS → zR} (hX : pa_X X n) (hf : f = 8 * st + T 453 st) (hw : w = 48 * t + f) (h8 : T 453 st < 8) (hT : rT t st T s) (hb : 0 ≤ b ∧ b ≤ 7) (h89 : -48 ≤ s.1 589 0 w ∧ s.1 589 0 w ≤ 207) (hp : 0 ≤ p)
    (hc : (97 ≤ pa_sg X n p ∧ pa_sg X n p ≤ 122 ∧ pa_pl T st (pa_sg X n p - 97) = -1) ∧ pa_sg X n (p + 1) = 58) (h0 : (0 ≤ T 450 0 ∧ 2 * T 450 0 ≤ p) ∧ 0 ≤ T 451 0 ∧ 2 * T 451 0 ≤ p) (h : rS t X n n (some (p + 1 + 1)) s) :
    ∃ u b', r169_r zk t st b w s = zk 0 t st b' u ∧ rkg w (6 * t + st) s u ∧ u.1 585 0 (6 * t + st) = T 453 st + 1 ∧
      (match pa_field (pa_sg X n) st (T 453 st) T p b with
      | none => rS t X n (n + 30) none u
      | some x => (pa_rok f x.1 ∧ rS t X n (n + 30) (some x.2.1) u ∧ b' = x.2.2 ∧ u.1 586 0 w = s.1 586 0 w ∧ rFF w (pa_sg X n) st f T (p + 1 + 1) b x.1 u) ∨ (¬ pa_rok f x.1 ∧ rS t X n (n + 30) none u)) := by
  have hn := hX.1
  have h1 := h.1
  have t1 := hT.1
  have t2 := hT.2.1
  have t3 := hT.2.2.1
  have hw2 : 0 ≤ w ∧ w < 192 := by omega
  unfold r169_r pa_field
  rw [if_pos hc, ← hf]
  obtain ⟨v1, s1, e1, k1, k2, k3⟩ := r166_good hX hf hw h8 hT h (by omega)
  rw [e1, show ∀ K : Int → zS → zR, zC (some (.inl v1, s1)) K = K v1 s1 from fun K => rfl]
  -- what follows a bad related
  have bad : ∀ s2 : zS, rkf w s s2 → rS t X n (n + 24) none s2 → ∃ u b', (zC (zf_157 0 59 s2) fun _ s18 => zg (6 * t) (zg ((6 * t) + st) (zn ((6 * t) + st) 24 (zg ((s18.1 585 0 ((6 * t) + st)) + 1) (zW 585 0 24 ((6 * t) + st) ((s18.1 585 0 ((6 * t) + st)) + 1) s18 fun s23 => zn w 192 (if (s23.1 587 0 w) = 110 then (zn w 192 (zg (b + (s23.1 589 0 w)) ((zf_169_316 zk 0 t st (b + (s23.1 589 0 w)) s23)))) else (if b = 0 then ((zf_169_316 zk 0 t st 0 s23)) else ((zf_169_316 zk 0 t st 99 s23))))))))) = zk 0 t st b' u ∧ rkg w (6 * t + st) s u ∧ u.1 585 0 (6 * t + st) = T 453 st + 1 ∧ rS t X n (n + 30) none u := by
    intro s2 F h2
    have e85 : s2.1 585 0 (6 * t + st) = T 453 st := (F.1 585 0 _ (by omega)).trans t2
    obtain ⟨u, b', g1, g2, g3, g4, g5, g6⟩ := r169_tail (zk := zk) (b := b) hX t1 hw2 (by omega) (by rw [e85]; omega) (F.2.2 h89) h2 ⟨by omega, by omega⟩
    exact ⟨u, b', g1, ⟨fun f' n' i' hn => (g2.1 f' n' i' hn).trans (F.1 f' n' i' (by omega)), g2.2.1.trans F.2.1, fun z => g2.2.2 (F.2.2 z)⟩, by rw [g3, e85], g6.up (by omega)⟩
  cases e : pa_type (pa_sg X n) st f T (p + 1 + 1) 0 with
  | none =>
    rw [e] at k2
    obtain ⟨v2, s2, e2, l1, l2⟩ := r168_bad hw2 k2
    rw [pa_type_0n e hb.1, e2, show ∀ K : Int → zS → zR, zC (some (.inl v2, s2)) K = K v2 s2 from fun K => rfl]
    exact bad s2 (k1.tr l1) (l2.up (by omega))
  | some y =>
    rw [e] at k2
    obtain ⟨k4, k5⟩ := k3 y e
    obtain ⟨us1, us2⟩ := pa_type_u e hb.1
    obtain ⟨y8, y9⟩ := pa_type_58 e
    have k2 : rS t X n (n + 20) (some y.2.1) s1 := k2
    obtain ⟨v2, s2, e2, l1, l2, l3⟩ := r168_good (f := f) (U := pa_w 467 f 0 (pa_w 457 f (pa_sg X n p - 97) y.1)) hX hw2 pa_w_eq (by rw [pa_w_nk (by decide), pa_w_nk (by decide)]; exact k5.1) k2 ⟨by omega, by omega⟩
    rw [e2, show ∀ K : Int → zS → zR, zC (some (.inl v2, s2)) K = K v2 s2 from fun K => rfl]
    have F := k1.tr l1
    have q7 : s2.1 587 0 w = (if y.1 458 f = 65 ∨ y.1 458 f = 91 then 78 else y.1 458 f) := (l2 587 (by decide) (by decide)).trans k5.1
    have q9 : y.1 458 f = 110 → s2.1 589 0 w = y.1 459 f := fun z => (l2 589 (by decide) (by decide)).trans (k5.2.2.1 z)
    have eu : (if s2.1 587 0 w = 110 then b + s2.1 589 0 w else if b = 0 then 0 else 99) = pa_us (pa_sg X n) b (p + 1 + 1) := by
      unfold pa_us
      rcases pa_type_s e with ⟨a1, -⟩ | ⟨a1, a2, a3, a4, a5, a6, a7, a8, a9⟩
      · have : ¬ s2.1 587 0 w = 110 := by
          rw [q7]
          by_cases c : 65 ≤ pa_sg X n (p + 1 + 1) ∧ pa_sg X n (p + 1 + 1) ≤ 90 ∧ pa_sg X n (p + 1 + 1) ≠ 87
          · rw [if_pos (y9 c)]
            decide
          · rw [if_neg c] at y8
            rw [y8]
            split
            · decide
            · exact a1
        rw [if_neg this, if_neg a1]
      · rw [if_pos (show s2.1 587 0 w = 110 by rw [q7, a7]; rfl), if_pos a1, q9 a7, a8]
    have e85 : s2.1 585 0 (6 * t + st) = T 453 st := (F.1 585 0 _ (by omega)).trans t2
    have X2 : ∀ (x : yT × Int × Int), pa_type (pa_sg X n) st f T (p + 1 + 1) b = some x → x.2.1 = y.2.1 ∧ pa_us (pa_sg X n) b (p + 1 + 1) ≤ 8 ∧ x.2.2 = (if pa_us (pa_sg X n) b (p + 1 + 1) = 8 then 0 else pa_us (pa_sg X n) b (p + 1 + 1)) ∧ pa_s4 y.1 x.1 ∧ (pa_sg X n (p + 1 + 1) = 110 → x.1 460 f = 8 - (b + (pa_sg X n (p + 1 + 1 + 1) - 48))) := fun x hx => by
      by_cases c : pa_us (pa_sg X n) b (p + 1 + 1) ≤ 8
      · obtain ⟨x2, c1, c2, c3, c4, c5⟩ := us1 c
        rw [hx] at c1
        injection c1 with c1
        subst c1
        exact ⟨c2, c, c3, c4, c5⟩
      · rw [us2 c] at hx
        cases hx
    have RC : ∀ (x : yT × Int × Int), pa_type (pa_sg X n) st f T (p + 1 + 1) b = some x → match (if pa_sg X n y.2.1 = 61 then pa_rel (pa_sg X n) f (pa_w 467 f 0 (pa_w 457 f (pa_sg X n p - 97) y.1)) y.2.1 else some (pa_w 467 f 0 (pa_w 457 f (pa_sg X n p - 97) y.1), y.2.1)) with
        | none => (if pa_sg X n x.2.1 = 61 then pa_rel (pa_sg X n) f (pa_w 467 f 0 (pa_w 457 f (pa_sg X n p - 97) x.1)) x.2.1 else some (pa_w 467 f 0 (pa_w 457 f (pa_sg X n p - 97) x.1), x.2.1)) = none
        | some z => ∃ z', (if pa_sg X n x.2.1 = 61 then pa_rel (pa_sg X n) f (pa_w 467 f 0 (pa_w 457 f (pa_sg X n p - 97) x.1)) x.2.1 else some (pa_w 467 f 0 (pa_w 457 f (pa_sg X n p - 97) x.1), x.2.1)) = some z' ∧ z'.2 = z.2 ∧ pa_s4 z.1 z'.1 := fun x hx => by
      obtain ⟨c1, c2, c3, c4, c5⟩ := X2 x hx
      rw [c1]
      by_cases d : pa_sg X n y.2.1 = 61
      · rw [if_pos d, if_pos d]
        exact pa_rel_c c4.pw.pw
      · rw [if_neg d, if_neg d]
        exact ⟨_, rfl, rfl, c4.pw.pw⟩
    revert l3 RC
    cases eR : (if pa_sg X n y.2.1 = 61 then pa_rel (pa_sg X n) f (pa_w 467 f 0 (pa_w 457 f (pa_sg X n p - 97) y.1)) y.2.1 else some (pa_w 467 f 0 (pa_w 457 f (pa_sg X n p - 97) y.1), y.2.1)) with
    | none =>
      intro l3 RC
      have l3 : rS t X n (n + 20 + 4) none s2 := l3
      obtain ⟨u, b', g1, g2, g3, g4⟩ := bad s2 F (l3.up (by omega))
      refine ⟨u, b', g1, g2, g3, ?_⟩
      cases ex : pa_type (pa_sg X n) st f T (p + 1 + 1) b with
      | none => exact g4
      | some x =>
        have := RC x ex
        dsimp only [Option.bind]
        rw [this]
        exact g4
    | some z =>
      intro l3 RC
      have l3 : (pa_rok f z.1 ∧ rS t X n (n + 20 + 4) (some z.2) s2 ∧ s2.1 592 0 w = (if z.1 467 f = 61 then 73 else z.1 467 f) ∧ (z.1 467 f ≠ 0 → s2.1 593 0 w = (if z.1 467 f = 61 then z.1 468 f else z.1 468 f + 97))) ∨ (¬ pa_rok f z.1 ∧ rS t X n (n + 20 + 4) none s2) := l3
      have cc : ∀ (z' : yT × Int) (v : Int), pa_s4 z.1 z'.1 → (pa_w 453 st v z'.1) 467 f = z.1 467 f ∧ (pa_w 453 st v z'.1) 468 f = z.1 468 f := fun z' v hz => ⟨(pa_w_nk (by decide)).trans (hz 467 f (by decide)), (pa_w_nk (by decide)).trans (hz 468 f (by decide))⟩
      rcases l3 with ⟨m1, m2, m3, m4⟩ | ⟨m1, m2⟩
      · obtain ⟨u, b', g1, g2, g3, g4, g5, g6⟩ := r169_tail (zk := zk) (b := b) hX t1 hw2 (by omega) (by rw [e85]; omega) (F.2.2 h89) m2 ⟨by omega, by omega⟩
        refine ⟨u, b', g1, ⟨fun f' n' i' hn => (g2.1 f' n' i' hn).trans (F.1 f' n' i' (by omega)), g2.2.1.trans F.2.1, fun z => g2.2.2 (F.2.2 z)⟩, by rw [g3, e85], ?_⟩
        rw [eu] at g5 g6
        have g6 := g6.up (M := n + 30) (by omega)
        cases ex : pa_type (pa_sg X n) st f T (p + 1 + 1) b with
        | none =>
          have nu : ¬ pa_us (pa_sg X n) b (p + 1 + 1) ≤ 8 := fun c => by
            obtain ⟨x2, c1, -⟩ := us1 c
            rw [ex] at c1
            cases c1
          dsimp only [Option.bind] at g6 ⊢
          by_cases c : pa_sg X n z.2 = 59
          · rw [if_pos c] at g6
            dsimp only at g6
            rw [if_neg nu] at g6
            exact g6
          · rw [if_neg c] at g6
            exact g6
        | some x =>
          obtain ⟨c1, c2, c3, c4, c5⟩ := X2 x ex
          obtain ⟨z', d1, d2, d3⟩ := RC x ex
          have R1 := pa_R_k eR
          have R2 := pa_R_k d1
          dsimp only [Option.bind] at g6 ⊢
          rw [d1]
          dsimp only
          rw [d2]
          by_cases c : pa_sg X n z.2 = 59
          · rw [if_pos c] at g6
            dsimp only at g6
            rw [if_pos c2] at g6
            rw [if_pos c]
            dsimp only
            obtain ⟨cc1, cc2⟩ := cc z' (z'.1 453 st + 1) d3
            left
            refine ⟨pa_rok.c cc1.symm cc2.symm m1, g6, g5.trans c3.symm, (g4 586 (by decide) (by decide)).trans ((l2 586 (by decide) (by decide)).trans k4), ⟨y.1, k5.tr fun i i1 i2 => (g4 i i1 (by omega)).trans (l2 i i1 i2), fun g i n1 n2 n3 n4 n5 => ?_⟩, fun hx => ?_, ?_, fun hx => ?_⟩
            · rw [pa_w_nk n1, d3 g i n5, R1 g i n3 n4, pa_w_nk n3, pa_w_nk n2]
            · rw [pa_w_nk (by decide), d3 458 f (by decide), R1 458 f (by decide) (by decide), pa_w_nk (by decide), pa_w_nk (by decide)] at hx
              have gp : pa_sg X n (p + 1 + 1) = 110 := by
                by_cases c : 65 ≤ pa_sg X n (p + 1 + 1) ∧ pa_sg X n (p + 1 + 1) ≤ 90 ∧ pa_sg X n (p + 1 + 1) ≠ 87
                · have := y9 c
                  omega
                · rw [if_neg c] at y8
                  omega
              rw [pa_w_nk (by decide), R2 460 f (by decide) (by decide), pa_w_nk (by decide), pa_w_nk (by decide), c5 gp, pa_w_nk (by decide), d3 459 f (by decide), R1 459 f (by decide) (by decide), pa_w_nk (by decide), pa_w_nk (by decide)]
              rcases pa_type_s e with ⟨a1, -⟩ | ⟨a1, a2, a3, a4, a5, a6, a7, a8, a9⟩
              · exact absurd gp a1
              · rw [a8]
            · rw [g4 592 (by decide) (by decide), m3, cc1]
            · rw [g4 593 (by decide) (by decide), cc1, cc2]
              exact m4 (by rw [← cc1]; exact hx)
          · rw [if_neg c] at g6
            rw [if_neg c]
            exact g6
      · obtain ⟨u, b', g1, g2, g3, g4⟩ := bad s2 F (m2.up (by omega))
        refine ⟨u, b', g1, g2, g3, ?_⟩
        cases ex : pa_type (pa_sg X n) st f T (p + 1 + 1) b with
        | none => exact g4
        | some x =>
          obtain ⟨z', d1, d2, d3⟩ := RC x ex
          dsimp only [Option.bind]
          rw [d1]
          dsimp only
          by_cases c : pa_sg X n z'.2 = 59
          · rw [if_pos c]
            dsimp only
            obtain ⟨cc1, cc2⟩ := cc z' (z'.1 453 st + 1) d3
            exact Or.inr ⟨fun q => m1 (pa_rok.c cc1 cc2 q), g4⟩
          · rw [if_neg c]
            exact g4
end
