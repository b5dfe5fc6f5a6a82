/-! the reference's parser: signs, numbers, sums -/
def rk (s u : zS) : Prop := (∀ (f n : Nat) (i : Int), ¬ ((f = 605 ∨ f = 606) ∧ n = 0) → u.1 f n i = s.1 f n i) ∧ u.2 = s.2
theorem rk.rf {s : zS} : rk s s := ⟨fun _ _ _ _ => rfl, rfl⟩
theorem rk.tr {s t u : zS} (a : rk s t) (b : rk t u) : rk s u := ⟨fun f n i h => (b.1 f n i h).trans (a.1 f n i h), b.2.trans a.2⟩
theorem rk.pw {s t : zS} {f : Nat} {i v : Int} (a : rk s t) (h : f = 605 ∨ f = 606) : rk s (zp f 0 i v t) := by
  refine ⟨fun f' n' i' hn => ?_, a.2⟩
  rw [zp_ne (fun z => hn ⟨by omega, z.2⟩)]
  exact a.1 f' n' i' hn
def ra_sg (X : Int → Int) (n p : Int) : Int := if n ≤ p then 0 else X p
def rS (t : Int) (X : Int → Int) (n N : Int) (o : Option Int) (s : zS) : Prop := (0 ≤ t ∧ t ≤ 3) ∧ s.1 603 0 0 = 200 * t ∧ s.1 604 0 0 = n ∧ (0 ≤ s.1 605 0 0 ∧ s.1 605 0 0 ≤ N) ∧ (∀ i, 0 ≤ i → i < n → s.1 581 0 (200 * t + i) = X i) ∧
  (match o with
  | none => s.1 606 0 0 = 0
  | some p => s.1 606 0 0 = 1 ∧ s.1 605 0 0 = p)
/-- the tables of structure st of template t, as far as they are filled -/
def rT (t st : Int) (T : yT) (s : zS) : Prop := (0 ≤ st ∧ st ≤ 5) ∧ s.1 585 0 (6 * t + st) = T 453 st ∧ (0 ≤ T 453 st ∧ T 453 st ≤ 8) ∧ (∀ k, 0 ≤ k → k < T 453 st → s.1 586 0 (48 * t + (8 * st + k)) = T 457 (8 * st + k) + 97 ∧ s.1 587 0 (48 * t + (8 * st + k)) = (if T 458 (8 * st + k) = 65 ∨ T 458 (8 * st + k) = 91 then 78 else T 458 (8 * st + k)) ∧ 0 ≤ T 457 (8 * st + k) ∧ T 457 (8 * st + k) ≤ 25) ∧ ∀ i j, 0 ≤ i → i < T 453 st → 0 ≤ j → j < T 453 st → T 457 (8 * st + i) = T 457 (8 * st + j) → i = j
section
variable {t st n N p : Int} {X : Int → Int} {T : yT} {s u : zS} {o : Option Int}
theorem rT.rk (h : rT t st T s) (a : rk s u) : rT t st T u := by
  obtain ⟨h1, h2, h3, h4, h5⟩ := h
  refine ⟨h1, (a.1 585 0 _ (by omega)).trans h2, h3, fun k k1 k2 => ?_, h5⟩
  rw [a.1 586 0 _ (by omega), a.1 587 0 _ (by omega)]
  exact h4 k k1 k2
theorem ra_c (hp : 0 ≤ p) : (n ≤ p ∧ ra_sg X n p = 0 ∧ pa_sg X n p = -1) ∨ (p < n ∧ ra_sg X n p = X p ∧ pa_sg X n p = X p) := by
  unfold ra_sg pa_sg
  by_cases c : n ≤ p
  · exact Or.inl ⟨c, if_pos c, if_neg (by omega)⟩
  · exact Or.inr ⟨by omega, if_neg c, if_pos ⟨hp, by omega⟩⟩
theorem r156 (h : rS t X n N o s) (hn : n ≤ 200) (hN : N ≤ 100000) : zf_156 0 s = zi (ra_sg X n (s.1 605 0 0)) s := by
  obtain ⟨h1, h2, h3, h4, h5, h6⟩ := h
  unfold zf_156 ra_sg
  rw [h2, h3]
  by_cases c : n ≤ s.1 605 0 0
  · rw [if_pos c, if_pos c]
  · rw [if_neg c, if_neg c, zg_ok ⟨by omega, by omega⟩, zn_ok (by omega), h5 _ h4.1 (by omega)]
theorem rS.ob (h : rS t X n N o s) : s.1 606 0 0 = 0 ∧ o = none ∨ s.1 606 0 0 = 1 ∧ o = some (s.1 605 0 0) := by
  cases o with
  | none => exact Or.inl ⟨h.2.2.2.2.2, rfl⟩
  | some p => exact Or.inr ⟨h.2.2.2.2.2.1, by rw [h.2.2.2.2.2.2]⟩
theorem rS.mk2 {p M g : Int} (h : rS t X n N o s) (a : rk s u) (e5 : u.1 605 0 0 = p) (e6 : u.1 606 0 0 = g) (hg : g = 0 ∨ g = 1) (hp : 0 ≤ p ∧ p ≤ M) : rS t X n M (if g = 0 then none else some p) u := by
  obtain ⟨h1, h2, h3, h4, h5, h6⟩ := h
  refine ⟨h1, (a.1 603 0 _ (by omega)).trans h2, (a.1 604 0 _ (by omega)).trans h3, by rw [e5]; exact hp, fun i i1 i2 => (a.1 581 0 _ (by omega)).trans (h5 i i1 i2), ?_⟩
  by_cases c : g = 0
  · rw [if_pos c]
    exact e6.trans c
  · rw [if_neg c]
    exact ⟨by omega, e5⟩
/-- isGood = g, at++ -/
theorem r_step {g : Int} {K : zS → zR} (h : rS t X n N o s) (hN : N ≤ 100000) (hg : g = 0 ∨ g = 1) : (zPz 606 0 g s fun s2 => zg ((s2.1 605 0 0) + 1) (zP 605 0 0 ((s2.1 605 0 0) + 1) s2 K)) = K (zp 605 0 0 (s.1 605 0 0 + 1) (zp 606 0 0 g s)) ∧ rk s (zp 605 0 0 (s.1 605 0 0 + 1) (zp 606 0 0 g s)) ∧ rS t X n (N + 1) (if g = 0 then none else some (s.1 605 0 0 + 1)) (zp 605 0 0 (s.1 605 0 0 + 1) (zp 606 0 0 g s)) := by
  have h4 := h.2.2.2.1
  have F : rk s (zp 605 0 0 (s.1 605 0 0 + 1) (zp 606 0 0 g s)) := (rk.rf.pw (by decide)).pw (by decide)
  refine ⟨?_, F, h.mk2 F zp_eq ?_ hg (by omega)⟩
  · rw [zPz_ok hg, zp_nk (by decide), zg_ok ⟨by omega, by omega⟩, zP_ok]
  · rw [zp_nk (by decide), zp_eq]
theorem r157 {c : Int} (hX : pa_X X n) (hc : 1 ≤ c) (h : rS t X n N o s) (hN : N ≤ 100000) : zw (zf_157 0 c s) fun _ u => rk s u ∧ rS t X n (N + 1) (o.bind fun p => if pa_sg X n p = c then some (p + 1) else none) u ∧ u.1 605 0 0 = s.1 605 0 0 + 1 := by
  have h4 := h.2.2.2.1
  unfold zf_157 zf_157_21
  rcases h.ob with ⟨e1, e2⟩ | ⟨e1, e2⟩
  · obtain ⟨a, b, c⟩ := r_step (K := fun s4 => zi 0 s4) h hN (Or.inl rfl)
    rw [if_pos e1, a, e2]
    exact zw_i ⟨b, c, zp_eq⟩
  · rw [if_neg (by omega), r156 h hX.1.2 hN, zC_zi, e2]
    have hc2 := ra_c (X := X) (n := n) (p := s.1 605 0 0) h4.1
    dsimp only [Option.bind]
    by_cases d : ra_sg X n (s.1 605 0 0) = c
    · obtain ⟨a, b, c⟩ := r_step (K := fun s4 => zi 0 s4) h hN (Or.inr rfl)
      rw [if_pos d, a, if_pos (by omega)]
      exact zw_i ⟨b, c, zp_eq⟩
    · obtain ⟨a, b, c⟩ := r_step (K := fun s4 => zi 0 s4) h hN (Or.inl rfl)
      rw [if_neg d, a, if_neg (by omega)]
      exact zw_i ⟨b, c, zp_eq⟩
theorem r161_4 (hX : pa_X X n) : ∀ (m M : Nat) (v k : Int) (N : Int) (o : Option Int) (s : zS), m < M → k = 3 - m → m ≤ 3 → 0 ≤ v → (m = 3 → v = 0) → (m = 2 → v ≤ 9) → (m = 1 → v ≤ 99) → v ≤ 999 → N + m ≤ 100000 → rS t X n N o s →
    zw (zf_161_4 M 0 v k s) fun w u => w = (mNum (pa_sg X n) m v (s.1 605 0 0)).1 ∧ (0 ≤ w ∧ w ≤ 999) ∧ rk s u ∧ u.1 605 0 0 = (mNum (pa_sg X n) m v (s.1 605 0 0)).2 ∧ u.1 606 0 0 = (if s.1 606 0 0 = 0 then 0 else if 0 < k ∨ 48 ≤ pa_sg X n (s.1 605 0 0) ∧ pa_sg X n (s.1 605 0 0) ≤ 57 then 1 else 0) := by
  intro m
  induction m with
  | zero =>
    intro M v k N o s hM hk h3 v0 v3 v2 v1 v9 hN h
    obtain ⟨M, rfl⟩ : ∃ L, M = L + 1 := ⟨M - 1, by omega⟩
    unfold zf_161_4 zf_161_48
    rw [if_pos (by omega)]
    rcases h.ob with ⟨e1, e2⟩ | ⟨e1, e2⟩
    · rw [if_pos e1, zPz_ok (by decide)]
      refine zw_i ⟨rfl, ⟨v0, v9⟩, rk.rf.pw (by decide), zp_nk (by decide), ?_⟩
      rw [zp_eq, if_pos e1]
    · rw [if_neg (by omega), if_neg (by omega), zPz_ok (by decide)]
      refine zw_i ⟨rfl, ⟨v0, v9⟩, rk.rf.pw (by decide), zp_nk (by decide), ?_⟩
      rw [zp_eq, if_neg (by omega), if_pos (by omega)]
  | succ m ih =>
    intro M v k N o s hM hk h3 v0 v3 v2 v1 v9 hN h
    obtain ⟨M, rfl⟩ : ∃ L, M = L + 1 := ⟨M - 1, by omega⟩
    have h4 := h.2.2.2.1
    have hG := hX.r (s.1 605 0 0)
    have hc2 := ra_c (X := X) (n := n) (p := s.1 605 0 0) h4.1
    unfold zf_161_4 mNum
    rw [if_neg (by omega), r156 h hX.1.2 (by omega), zC_zi, z160, zC_zi]
    by_cases d : 48 ≤ pa_sg X n (s.1 605 0 0) ∧ pa_sg X n (s.1 605 0 0) ≤ 57
    · have e : ra_sg X n (s.1 605 0 0) = pa_sg X n (s.1 605 0 0) := by omega
      have d2 : 48 ≤ ra_sg X n (s.1 605 0 0) ∧ ra_sg X n (s.1 605 0 0) ≤ 57 := by omega
      rw [if_pos d2, if_neg (by decide), r156 h hX.1.2 (by omega), zC_zi, zg_ok ⟨by omega, by omega⟩, zP_ok, zg_ok ⟨by omega, by omega⟩, zg_ok ⟨by omega, by omega⟩, zg_ok ⟨by omega, by omega⟩, zg_ok ⟨by omega, by omega⟩, e, if_pos d]
      have F : rk s (zp 605 0 0 (s.1 605 0 0 + 1) s) := rk.rf.pw (by decide)
      have h2 : rS t X n (N + 1) (if s.1 606 0 0 = 0 then none else some (s.1 605 0 0 + 1)) (zp 605 0 0 (s.1 605 0 0 + 1) s) := h.mk2 F zp_eq (zp_nk (by decide)) (by rcases h.ob with g | g <;> omega) (by omega)
      have f0 : m = 2 → v = 0 := fun z => v3 (by omega)
      have f1 : m = 1 → v ≤ 9 := fun z => v2 (by omega)
      have f2 : m = 0 → v ≤ 99 := fun z => v1 (by omega)
      have d3 := ih M (10 * v + pa_sg X n (s.1 605 0 0) - 48) (k + 1) (N + 1) _ _ (by omega) (by omega) (by omega) (by omega) (fun z => by omega) (fun z => by have := f0 z; omega) (fun z => by have := f1 z; omega) (by
        have c : m = 0 ∨ m = 1 ∨ m = 2 := by omega
        rcases c with z | z | z
        · have := f2 z
          omega
        · have := f1 z
          omega
        · have := f0 z
          omega) (by omega) h2
      rw [zp_eq, zp_nk (by decide)] at d3
      refine d3.mono fun w u ⟨g1, g2, g3, g4, g5⟩ => ⟨g1, g2, F.tr g3, g4, ?_⟩
      rw [g5, if_pos (Or.inl (show 0 < k + 1 by omega)), if_pos (Or.inr d)]
    · have d2 : ¬ (48 ≤ ra_sg X n (s.1 605 0 0) ∧ ra_sg X n (s.1 605 0 0) ≤ 57) := by omega
      rw [if_neg d2, if_pos rfl, if_neg d]
      unfold zf_161_48
      rcases h.ob with ⟨e1, e2⟩ | ⟨e1, e2⟩
      · rw [if_pos e1, zPz_ok (by decide)]
        refine zw_i ⟨rfl, ⟨v0, v9⟩, rk.rf.pw (by decide), zp_nk (by decide), ?_⟩
        rw [zp_eq, if_pos e1]
      · rw [if_neg (by omega)]
        by_cases k0 : k ≤ 0
        · rw [if_pos k0, zPz_ok (by decide)]
          refine zw_i ⟨rfl, ⟨v0, v9⟩, rk.rf.pw (by decide), zp_nk (by decide), ?_⟩
          rw [zp_eq, if_neg (by omega), if_neg (by omega)]
        · rw [if_neg k0, zPz_ok (by decide)]
          refine zw_i ⟨rfl, ⟨v0, v9⟩, rk.rf.pw (by decide), zp_nk (by decide), ?_⟩
          rw [zp_eq, if_neg (by omega), if_pos (by omega)]
theorem mNum_le (G : Int → Int) (hG : ∀ p, n ≤ p → G p = -1) : ∀ (m : Nat) (v p : Int), p ≤ n → (mNum G m v p).2 ≤ n
  | 0, v, p, h => h
  | m + 1, v, p, h => by
    unfold mNum
    split
    · rename_i c
      by_cases e : n ≤ p
      · rw [hG p e] at c
        omega
      · exact mNum_le G hG m _ _ (by omega)
    · exact h
theorem pa_end {p : Int} (h : n ≤ p) : pa_sg X n p = -1 := if_neg (by omega)
/-- a number: good if it is one -/
theorem r161 (hX : pa_X X n) (h : rS t X n N o s) (hN : n ≤ N ∧ N ≤ 90000) : zw (zf_161 0 s) fun w u => rk s u ∧ rS t X n (N + 3) (o.bind fun p => if 48 ≤ pa_sg X n p ∧ pa_sg X n p ≤ 57 then some (mNum (pa_sg X n) 3 0 p).2 else none) u ∧ (0 ≤ w ∧ w ≤ 999) ∧ ∀ p, o = some p → w = (mNum (pa_sg X n) 3 0 p).1 := by
  have h4 := h.2.2.2.1
  refine (r161_4 hX 3 xfu 0 0 N o s (pa_fu (by decide)) (by decide) (by decide) (by decide) (fun _ => rfl) (fun h => absurd h (by decide)) (fun h => absurd h (by decide)) (by decide) (by omega) h).mono fun w u ⟨g1, g2, g3, g4, g5⟩ => ⟨g3, ?_, g2, fun p e => ?_⟩
  · have b := mNum_b (pa_sg X n) 3 0 (s.1 605 0 0)
    have m := h.mk2 (M := N + 3) g3 g4 g5 (by
      split
      · exact Or.inl rfl
      · split
        · exact Or.inr rfl
        · exact Or.inl rfl) (by omega)
    rcases h.ob with ⟨e1, e2⟩ | ⟨e1, e2⟩
    · rw [if_pos e1, if_pos rfl] at m
      rw [e2]
      exact m
    · rw [if_neg (show ¬ s.1 606 0 0 = 0 by omega)] at m
      rw [e2]
      dsimp only [Option.bind]
      by_cases c : 48 ≤ pa_sg X n (s.1 605 0 0) ∧ pa_sg X n (s.1 605 0 0) ≤ 57
      · rw [if_pos c]
        rw [if_pos (Or.inr c), if_neg (by decide)] at m
        exact m
      · rw [if_neg c]
        have c2 : ¬ ((0 : Int) < 0 ∨ 48 ≤ pa_sg X n (s.1 605 0 0) ∧ pa_sg X n (s.1 605 0 0) ≤ 57) := by omega
        rw [if_neg c2, if_pos rfl] at m
        exact m
  · rcases h.ob with ⟨e1, e2⟩ | ⟨e1, e2⟩
    · rw [e2] at e
      cases e
    · rw [e2] at e
      injection e with e
      rw [g1, e]
end
