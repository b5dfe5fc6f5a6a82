/-! the reference's parser: a type -/
def rF (w : Int) (G : Int → Int) (st f : Int) (T : yT) (p : Int) (U : yT) (u : zS) : Prop :=
  u.1 587 0 w = (if U 458 f = 65 ∨ U 458 f = 91 then 78 else U 458 f)
  ∧ u.1 588 0 w = (if U 458 f = 65 ∨ U 458 f = 91 then p else if U 458 f = 115 then p + 1 + 1 else p + 1)
  ∧ (U 458 f = 110 → u.1 589 0 w = U 459 f)
  ∧ u.1 590 0 w = (if U 458 f = 91 then (if U 465 f = 43 then 115 else U 465 f) else 0)
  ∧ (U 458 f = 91 → ∃ y q, pa_names G f (pa_w 458 f 65 T) p = some y ∧ G y.2 = 91 ∧ pa_cnt G st f y.1 y.2 = some (U, q) ∧ u.1 591 0 w = pe G (y.2 + 1))
section
variable {t st n N p w f : Int} {X : Int → Int} {T : yT} {s u : zS} {o : Option Int}
/-- behind the first writes -/
def rW (w c : Int) (s : zS) : zS := zp 590 0 w 0 (zp 588 0 w (s.1 605 0 0 + 1) (zp 587 0 w c (zp 605 0 0 (s.1 605 0 0 + 1) s)))
theorem rW_f {c : Int} : rkf w s (rW w c s) := (((rkf.rf.pw (Or.inl rfl)).qw (by decide)).qw (by decide)).qw (by decide)
theorem rW_s {c : Int} (h : rS t X n N o s) : rS t X n (N + 1) (o.map fun p => p + 1) (rW w c s) := (((h.at (q := 1) (by decide)).qw (by decide)).qw (by decide)).qw (by decide)
theorem rW_5 {c : Int} : (rW w c s).1 605 0 0 = s.1 605 0 0 + 1 := by
  unfold rW
  rw [zp_nk (by decide), zp_nk (by decide), zp_nk (by decide), zp_eq]
theorem rW_8 {c : Int} : (rW w c s).1 588 0 w = s.1 605 0 0 + 1 := by
  unfold rW
  rw [zp_nk (by decide), zp_eq]
theorem rW_7 {c : Int} : (rW w c s).1 587 0 w = c := by
  unfold rW
  rw [zp_nk (by decide), zp_nk (by decide), zp_eq]
theorem rW_0 {c : Int} : (rW w c s).1 590 0 w = 0 := zp_eq
theorem rW_6 {c : Int} : (rW w c s).1 586 0 w = s.1 586 0 w := by
  unfold rW
  rw [zp_nk (by decide), zp_nk (by decide), zp_nk (by decide), zp_nk (by decide)]
theorem rg (hX : pa_X X n) (hp : 0 ≤ p) : 0 ≤ ra_sg X n p ∧ ra_sg X n p ≤ 255 := by
  unfold ra_sg
  split
  · omega
  · exact hX.2 p hp (by omega)
theorem rF_plain {G : Int → Int} {U : yT} {k : Int} (hk : U 458 f = k) (k1 : k ≠ 65) (k2 : k ≠ 91) (a : u.1 587 0 w = k) (b : u.1 588 0 w = if k = 115 then p + 1 + 1 else p + 1) (c : k = 110 → u.1 589 0 w = U 459 f) (d : u.1 590 0 w = 0) : rF w G st f T p U u := by
  have n1 : ¬ (U 458 f = 65 ∨ U 458 f = 91) := by omega
  have n2 : ¬ U 458 f = 91 := by omega
  refine ⟨?_, ?_, fun z => c (by omega), ?_, fun z => absurd z n2⟩
  · rw [if_neg n1, hk]
    exact a
  · rw [if_neg n1, b, hk]
  · rw [if_neg n2]
    exact d
theorem pa_type0 {G : Int → Int} : pa_type G st f T p 0 = if 65 ≤ G p ∧ G p ≤ 90 ∧ G p ≠ 87 then ((pa_names G f (pa_w 458 f 65 T) p).bind fun x => if G x.2 = 91 then pa_cnt G st f x.1 x.2 else some x).map fun x => (x.1, x.2, 0)
  else pa_plain G st f (pa_w 459 f (if G p = 119 ∨ G p = 87 then 16 else 8) (pa_w 458 f (G p) T)) p 0 := by
  unfold pa_type
  rw [if_neg (fun z => z.2 rfl)]
end
