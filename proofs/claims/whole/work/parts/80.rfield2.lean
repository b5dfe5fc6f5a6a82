/-! the reference's parser: a field, from its name on -/
section
variable {t st n N p w f b : Int} {X : Int → Int} {T : yT} {s : zS}
/-- what stands behind the name and its colon -/
def r169_r (zk : Nat → Int → Int → Int → zS → zR) (t st b w : Int) (s12 : zS) : zR := zC (zf_166 0 t st w s12) fun _ s14 => zC (zf_168 0 w s14) fun _ s16 => zC (zf_157 0 59 s16) fun _ s18 => zg (6 * t) (zg ((6 * t) + st) (zn ((6 * t) + st) 24 (zg ((s18.1 585 0 ((6 * t) + st)) + 1) (zW 585 0 24 ((6 * t) + st) ((s18.1 585 0 ((6 * t) + st)) + 1) s18 fun s23 => zn w 192 (if (s23.1 587 0 w) = 110 then (zn w 192 (zg (b + (s23.1 589 0 w)) ((zf_169_316 zk 0 t st (b + (s23.1 589 0 w)) s23)))) else (if b = 0 then ((zf_169_316 zk 0 t st 0 s23)) else ((zf_169_316 zk 0 t st 99 s23))))))))
theorem r169_A {zk : Nat → Int → Int → Int → zS → zR} (hX : pa_X X n) (hw2 : 0 ≤ w ∧ w < 192) (h : rS t X n n (some p) s) (hc : 97 ≤ pa_sg X n p ∧ pa_sg X n p ≤ 122) : ∃ u, zf_169_208 zk 0 t st b w 0 1 s = r169_r zk t st b w u ∧ rkf w s u ∧ rS t X n (n + 2) (if pa_sg X n (p + 1) = 58 then some (p + 1 + 1) else none) u ∧ u.1 586 0 w = pa_sg X n p := by
  have hn := hX.1
  have h4 := h.2.2.2.1
  have h5 := h.p5
  have l := pa_lt (X := X) (n := n) (p := p) (by omega)
  have hr := ra_c (X := X) (n := n) (p := p) (by omega)
  have m := h.g (g := 1) (Or.inr rfl)
  rw [if_neg (by decide), h5] at m
  unfold zf_169_208
  have e6 : ¬ (zp 606 0 0 1 s).1 606 0 0 = 0 := by rw [zp_eq]; decide
  rw [zPz_ok (Or.inr rfl), if_neg e6, r156 m hn.2 (by omega), zC_zi, m.p5, zW_ok hw2]
  have m2 : rS t X n n (some p) (zp 586 0 w (ra_sg X n p) (zp 606 0 0 1 s)) := m.qw (by decide)
  have m3 := m2.at (q := 1) (by decide)
  rw [m2.p5] at m3
  rw [m2.p5, zg_ok ⟨by omega, by omega⟩, zP_ok]
  have F : rkf w s (zp 605 0 0 (p + 1) (zp 586 0 w (ra_sg X n p) (zp 606 0 0 1 s))) := ((rkf.rf.pw (Or.inr rfl)).qw (by decide)).pw (Or.inl rfl)
  obtain ⟨v, u, e1, k1, k2, k3⟩ := r157 (c := 58) hX (by decide) m3 (by omega)
  refine ⟨u, ?_, F.tr (rkf.of k1), k2.up (by omega), ?_⟩
  · rw [e1]
    rfl
  · rw [k1.1 586 0 w (by omega), zp_nk (by decide), zp_eq]
    omega
/-- the field is bad from its colon on -/
theorem r169_bad {zk : Nat → Int → Int → Int → zS → zR} (hX : pa_X X n) (hf : f = 8 * st + T 453 st) (hw : w = 48 * t + f) (h8 : T 453 st < 8) (hT : rT t st T s) (hb : 0 ≤ b ∧ b ≤ 99) (h89 : -48 ≤ s.1 589 0 w ∧ s.1 589 0 w ≤ 207) (h : rS t X n N none s) (hN : n ≤ N ∧ N ≤ 30000) : ∃ u b', r169_r zk t st b w s = zk 0 t st b' u ∧ rkg w (6 * t + st) s u ∧ u.1 585 0 (6 * t + st) = T 453 st + 1 ∧ rS t X n (N + 21) none u := by
  have h1 := h.1
  have t1 := hT.1
  have t2 := hT.2.1
  have t3 := hT.2.2.1
  have hw2 : 0 ≤ w ∧ w < 192 := by omega
  unfold r169_r
  obtain ⟨v1, s1, e1, k1, k2⟩ := r166_bad hX hf hw h8 hT h ⟨hN.1, by omega⟩
  obtain ⟨v2, s2, e2, l1, l2⟩ := r168_bad hw2 k2
  have F := k1.tr l1
  have e85 : s2.1 585 0 (6 * t + st) = T 453 st := (F.1 585 0 _ (by omega)).trans t2
  obtain ⟨u, b', g1, g2, g3, g4, g5, g6⟩ := r169_tail (zk := zk) hX t1 hw2 hb (by rw [e85]; omega) (F.2.2 h89) l2 ⟨by omega, by omega⟩
  refine ⟨u, b', ?_, ?_, by rw [g3, e85], g6.up (by omega)⟩
  · rw [e1, show ∀ K : Int → zS → zR, zC (some (.inl v1, s1)) K = K v1 s1 from fun K => rfl, e2, show ∀ K : Int → zS → zR, zC (some (.inl v2, s2)) K = K v2 s2 from fun K => rfl]
    exact g1
  · exact ⟨fun f' n' i' hn => (g2.1 f' n' i' hn).trans (F.1 f' n' i' (by omega)), g2.2.1.trans F.2.1, fun z => g2.2.2 (F.2.2 z)⟩
end
