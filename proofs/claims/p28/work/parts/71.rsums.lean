/-! the reference's parser: signs, numbers, sums -/
def rk (s u : zS) : Prop := (∀ (f n : Nat) (i : Int), ¬ ((f = 605 ∨ f = 606) ∧ n = 0) → u.1 f n i = s.1 f n i) ∧ u.2 = s.2
theorem rk.rf {s : zS} : rk s s := ⟨fun _ _ _ _ => rfl, rfl⟩
theorem rk.tr {s t u : zS} (a : rk s t) (b : rk t u) : rk s u := ⟨fun f n i h => (b.1 f n i h).trans (a.1 f n i h), b.2.trans a.2⟩
theorem rk.pw {s t : zS} {f : Nat} {i v : Int} (a : rk s t) (h : f = 605 ∨ f = 606) : rk s (zp f 0 i v t) := by
  refine ⟨fun f' n' i' hn => ?_, a.2⟩
  rw [zp_ne (fun z => hn ⟨by omega, z.2⟩)]
  exact a.1 f' n' i' hn
def ra_sg (X : Int → Int) (n p : Int) : Int := if n ≤ p then 0 else X p
def rS (t : Int) (X : Int → Int) (n N : Int) (o : Option Int) (s : zS) : Prop := (0 ≤ t ∧ t ≤ 3) ∧ s.1 603 0 0 = 200 * t ∧ s.1 604 0 0 = n ∧ (0 ≤ s.1 605 0 0 ∧ s.1 605 0 0 ≤ N) ∧ (∀ i, 0 ≤ i → i < n → s.1 581 0 (200 * t + i) = X i) ∧
  (match o with
  | none => s.1 606 0 0 = 0
  | some p => s.1 606 0 0 = 1 ∧ s.1 605 0 0 = p)
/-- the tables of structure st of template t, as far as they are filled -/
def rT (t st : Int) (T : yT) (s : zS) : Prop := (0 ≤ st ∧ st ≤ 5) ∧ s.1 585 0 (6 * t + st) = T 453 st ∧ (0 ≤ T 453 st ∧ T 453 st ≤ 8) ∧ (∀ k, 0 ≤ k → k < T 453 st → s.1 586 0 (48 * t + (8 * st + k)) = T 457 (8 * st + k) + 97 ∧ s.1 587 0 (48 * t + (8 * st + k)) = (if T 458 (8 * st + k) = 65 ∨ T 458 (8 * st + k) = 91 then 78 else T 458 (8 * st + k)) ∧ 0 ≤ T 457 (8 * st + k) ∧ T 457 (8 * st + k) ≤ 25) ∧ ∀ i j, 0 ≤ i → i < T 453 st → 0 ≤ j → j < T 453 st → T 457 (8 * st + i) = T 457 (8 * st + j) → i = j
section
variable {t st n N p : Int} {X : Int → Int} {T : yT} {s u : zS} {o : Option Int}
theorem rT.rk (h : rT t st T s) (a : rk s u) : rT t st T u := by
  obtain ⟨h1, h2, h3, h4, h5⟩ := h
  refine ⟨h1, (a.1 585 0 _ (by omega)).trans h2, h3, fun k k1 k2 => ?_, h5⟩
  rw [a.1 586 0 _ (by omega), a.1 587 0 _ (by omega)]
  exact h4 k k1 k2
theorem ra_c (hp : 0 ≤ p) : (n ≤ p ∧ ra_sg X n p = 0 ∧ pa_sg X n p = -1) ∨ (p < n ∧ ra_sg X n p = X p ∧ pa_sg X n p = X p) := by
  unfold ra_sg pa_sg
  by_cases c : n ≤ p
  · exact Or.inl ⟨c, if_pos c, if_neg (by omega)⟩
  · exact Or.inr ⟨by omega, if_neg c, if_pos ⟨hp, by omega⟩⟩
theorem rS.ob (h : rS t X n N o s) : s.1 606 0 0 = 0 ∧ o = none ∨ s.1 606 0 0 = 1 ∧ o = some (s.1 605 0 0) := by
  cases o with
  | none => exact Or.inl ⟨h.2.2.2.2.2, rfl⟩
  | some p => exact Or.inr ⟨h.2.2.2.2.2.1, by rw [h.2.2.2.2.2.2]⟩
theorem rS.mk2 {p M g : Int} (h : rS t X n N o s) (a : rk s u) (e5 : u.1 605 0 0 = p) (e6 : u.1 606 0 0 = g) (hg : g = 0 ∨ g = 1) (hp : 0 ≤ p ∧ p ≤ M) : rS t X n M (if g = 0 then none else some p) u := by
  obtain ⟨h1, h2, h3, h4, h5, h6⟩ := h
  refine ⟨h1, (a.1 603 0 _ (by omega)).trans h2, (a.1 604 0 _ (by omega)).trans h3, by rw [e5]; exact hp, fun i i1 i2 => (a.1 581 0 _ (by omega)).trans (h5 i i1 i2), ?_⟩
  by_cases c : g = 0
  · rw [if_pos c]
    exact e6.trans c
  · rw [if_neg c]
    exact ⟨by omega, e5⟩
/-- isGood = g, at++ -/
theorem r_step {g : Int} {K : zS → zR} (h : rS t X n N o s) (hN : N ≤ 100000) (hg : g = 0 ∨ g = 1) : (zPz 606 0 g s fun s2 => zg ((s2.1 605 0 0) + 1) (zP 605 0 0 ((s2.1 605 0 0) + 1) s2 K)) = K (zp 605 0 0 (s.1 605 0 0 + 1) (zp 606 0 0 g s)) ∧ rk s (zp 605 0 0 (s.1 605 0 0 + 1) (zp 606 0 0 g s)) ∧ rS t X n (N + 1) (if g = 0 then none else some (s.1 605 0 0 + 1)) (zp 605 0 0 (s.1 605 0 0 + 1) (zp 606 0 0 g s)) := by
  have h4 := h.2.2.2.1
  have F : rk s (zp 605 0 0 (s.1 605 0 0 + 1) (zp 606 0 0 g s)) := (rk.rf.pw (by decide)).pw (by decide)
  refine ⟨?_, F, h.mk2 F zp_eq ?_ hg (by omega)⟩
  · rw [zPz_ok hg, zp_nk (by decide), zg_ok ⟨by omega, by omega⟩, zP_ok]
  · rw [zp_nk (by decide), zp_eq]
theorem mNum_le (G : Int → Int) (hG : ∀ p, n ≤ p → G p = -1) : ∀ (m : Nat) (v p : Int), p ≤ n → (mNum G m v p).2 ≤ n
  | 0, v, p, h => h
  | m + 1, v, p, h => by
    unfold mNum
    split
    · rename_i c
      by_cases e : n ≤ p
      · rw [hG p e] at c
        omega
      · exact mNum_le G hG m _ _ (by omega)
    · exact h
theorem pa_end {p : Int} (h : n ≤ p) : pa_sg X n p = -1 := if_neg (by omega)
end
