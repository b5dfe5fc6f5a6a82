/-! the reference's parser: counts -/
def rkf (w : Int) (s u : zS) : Prop := (∀ (f n : Nat) (i : Int), ¬ (n = 0 ∧ (f = 605 ∨ f = 606 ∨ 586 ≤ f ∧ f ≤ 593 ∧ i = w)) → u.1 f n i = s.1 f n i) ∧ u.2 = s.2 ∧ (-48 ≤ s.1 589 0 w ∧ s.1 589 0 w ≤ 207 → -48 ≤ u.1 589 0 w ∧ u.1 589 0 w ≤ 207)
theorem rkf.rf {w : Int} {s : zS} : rkf w s s := ⟨fun _ _ _ _ => rfl, rfl, fun h => h⟩
theorem rkf.tr {w : Int} {s t u : zS} (a : rkf w s t) (b : rkf w t u) : rkf w s u := ⟨fun f n i h => (b.1 f n i h).trans (a.1 f n i h), b.2.1.trans a.2.1, fun h => b.2.2 (a.2.2 h)⟩
theorem rkf.of {w : Int} {s t : zS} (a : rk s t) : rkf w s t := ⟨fun f n i h => a.1 f n i (by omega), a.2, fun h => by
  rw [a.1 589 0 w (by omega)]
  exact h⟩
theorem rkf.pw {w : Int} {s t : zS} {f : Nat} {i v : Int} (a : rkf w s t) (h : f = 605 ∨ f = 606) : rkf w s (zp f 0 i v t) := by
  refine ⟨fun f' n' i' hn => ?_, a.2.1, fun h2 => ?_⟩
  · rw [zp_ne (fun z => hn ⟨z.2, by omega⟩)]
    exact a.1 f' n' i' hn
  · rw [zp_nk (by omega)]
    exact a.2.2 h2
theorem zp_fr {w : Int} {s t : zS} {f : Nat} {v : Int} (a : ∀ (f n : Nat) (i : Int), ¬ (n = 0 ∧ (f = 605 ∨ f = 606 ∨ 586 ≤ f ∧ f ≤ 593 ∧ i = w)) → t.1 f n i = s.1 f n i) (h : 586 ≤ f ∧ f ≤ 593) : ∀ (f' n : Nat) (i : Int), ¬ (n = 0 ∧ (f' = 605 ∨ f' = 606 ∨ 586 ≤ f' ∧ f' ≤ 593 ∧ i = w)) → (zp f 0 w v t).1 f' n i = s.1 f' n i := fun f' n' i' hn => by
  by_cases c : f' = f ∧ n' = 0
  · rw [zp_1, if_neg (fun z => hn ⟨c.2, by omega⟩)]
    exact a f' n' i' hn
  · rw [zp_ne c]
    exact a f' n' i' hn
theorem rkf.qw {w : Int} {s t : zS} {f : Nat} {v : Int} (a : rkf w s t) (h : (586 ≤ f ∧ f ≤ 593) ∧ f ≠ 589) : rkf w s (zp f 0 w v t) := ⟨zp_fr a.1 h.1, a.2.1, fun h2 => by
  rw [zp_nk (by omega)]
  exact a.2.2 h2⟩
theorem rkf.qw9 {w : Int} {s t : zS} {v : Int} (a : rkf w s t) (h : -48 ≤ v ∧ v ≤ 207) : rkf w s (zp 589 0 w v t) := ⟨zp_fr a.1 (by decide), a.2.1, fun _ => by
  rw [zp_eq]
  exact h⟩
section
variable {t st n N p w : Int} {X : Int → Int} {T U : yT} {s u : zS} {o : Option Int}
theorem rT.rkf (h : rT t st T s) (a : rkf w s u) (hw : w = 48 * t + (8 * st + T 453 st)) : rT t st T u := by
  obtain ⟨h1, h2, h3, h4, h5⟩ := h
  refine ⟨h1, (a.1 585 0 _ (by omega)).trans h2, h3, fun k k1 k2 => ?_, h5⟩
  rw [a.1 586 0 _ (by omega), a.1 587 0 _ (by omega)]
  exact h4 k k1 k2
theorem rS.up {M : Int} (h : rS t X n N o s) (hM : N ≤ M) : rS t X n M o s := ⟨h.1, h.2.1, h.2.2.1, by have := h.2.2.2.1; omega, h.2.2.2.2⟩
/-- a state in which other tables have changed -/
theorem rS.kf (h : rS t X n N o s) (a : ∀ (f n : Nat) (i : Int), ¬ (n = 0 ∧ (f = 605 ∨ f = 606 ∨ 586 ≤ f ∧ f ≤ 593 ∧ i = w)) → u.1 f n i = s.1 f n i) (e5 : u.1 605 0 0 = s.1 605 0 0) (e6 : u.1 606 0 0 = s.1 606 0 0) : rS t X n N o u := by
  obtain ⟨h1, h2, h3, h4, h5, h6⟩ := h
  refine ⟨h1, (a 603 0 _ (by omega)).trans h2, (a 604 0 _ (by omega)).trans h3, by rw [e5]; exact h4, fun i i1 i2 => (a 581 0 _ (by omega)).trans (h5 i i1 i2), ?_⟩
  cases o with
  | none => exact e6.trans h6
  | some p => exact ⟨e6.trans h6.1, e5.trans h6.2⟩
theorem rS.qw {f : Nat} {v : Int} (h : rS t X n N o s) (hf : 586 ≤ f ∧ f ≤ 593) : rS t X n N o (zp f 0 w v s) := h.kf (w := w) (zp_fr (fun _ _ _ _ => rfl) hf) (zp_nk (by omega)) (zp_nk (by omega))
/-- at goes on -/
theorem rS.at {q : Int} (h : rS t X n N o s) (hq : 0 ≤ q) : rS t X n (N + q) (o.map fun p => p + q) (zp 605 0 0 (s.1 605 0 0 + q) s) := by
  have h4 := h.2.2.2.1
  have m := h.mk2 (M := N + q) (rk.rf.pw (Or.inl rfl)) zp_eq (zp_nk (by decide)) (by rcases h.ob with g | g <;> omega) (show 0 ≤ s.1 605 0 0 + q ∧ s.1 605 0 0 + q ≤ N + q by omega)
  rcases h.ob with ⟨e1, e2⟩ | ⟨e1, e2⟩
  · rw [if_pos e1] at m
    rw [e2]
    exact m
  · rw [if_neg (show ¬ s.1 606 0 0 = 0 by omega)] at m
    rw [e2]
    exact m
theorem rS.p5 (h : rS t X n N (some p) s) : s.1 605 0 0 = p := h.2.2.2.2.2.2
/-- the place where a count's sum or number stands -/
def pe (G : Int → Int) (p : Int) : Int := if G p = 42 ∨ G p = 33 ∨ G p = 63 then p + 1 else p
def pm (c : Int) : Int := if c = 42 ∨ c = 33 ∨ c = 63 then c else 115
/-- a count, without its closing sign -/
def pa_cb (G : Int → Int) (st f : Int) (U : yT) (p : Int) : Option Int :=
  if G p = 42 then some (p + 1) else if G p = 33 then (if 48 ≤ G (p + 1) ∧ G (p + 1) ≤ 57 then some (mNum G 3 0 (p + 1)).2 else none)
  else if G p = 63 then (pa_sum G st f (pa_w 465 f 63 (pa_w 465 f 43 (pa_w 458 f 91 U))) (p + 1)).map fun x => x.2 else (pa_sum G st f (pa_w 465 f 43 (pa_w 458 f 91 U)) p).map fun x => x.2
end
