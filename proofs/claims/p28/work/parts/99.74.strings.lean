/-! THE LAW'S strings -/
section
variable {w w' : wW} {A A' : aA} {s u : zS} {m M : Nat} {R : Int → zS → Prop} {has nd pl v to b : Int} {D E : Int → Int} {x : Nat}
theorem l_fu : ∃ N, xfu = N + 1 := ⟨xfu - 1, by have := pa_fu (m := 0) (by decide); omega⟩
/-- the law's numbers behind each edit of a string -/
def wInsD (w : wW) (pl v to : Int) : wW := (fun i => if i = pl then v else shU w.1 0 pl (w.2.2 0) i, w.2.1, wQ (w.1, w.2.1, fun i => if i = 0 then w.2.2 0 + 1 else w.2.2 i) to)
def wRemD (w : wW) (pl to : Int) : wW := (shD w.1 0 pl (w.2.2 0 - 1), w.2.1, wQ (w.1, w.2.1, fun i => if i = 0 then w.2.2 0 + -1 else w.2.2 i) to)
def wInsE (w : wW) (x : Nat) (pl v to : Int) : wW := (w.1, fun i => if i = 56 + x then w.2.1 (56 + x) + 1 else if i = 8 * x + pl then v else shU w.2.1 (8 * x) pl (w.2.1 (56 + x)) i, wQ w to)
def wRemE (w : wW) (x : Nat) (pl to : Int) : wW := (w.1, fun i => if i = 56 + x then w.2.1 (56 + x) + -1 else shD w.2.1 (8 * x) pl (w.2.1 (56 + x) - 1) i, wQ w to)
/-! d, a byte in -/
theorem l233_d (hp : 0 ≤ pl) (hh : has ≤ 20) (fin : ∀ u, lQ A (shU D 0 pl has, w.2) m u → zw (zf_143_290 xfu 0 1 0 0 0 (-1) has nd pl v 1 to b pl u) R) : ∀ (j F : Nat) (k : Int) (s : zS), j < F → k = pl + j → k ≤ has → lQ A (shU D 0 k has, w.2) m s → zw (zf_143_233 F 0 1 0 0 0 (-1) has nd pl v 1 to b k s) R := by
  intro j
  induction j with
  | zero =>
    intro F k s hF hk hk2 h
    obtain ⟨F, rfl⟩ : ∃ M, F = M + 1 := ⟨F - 1, by omega⟩
    unfold zf_143_233
    rw [if_neg (by decide), if_pos (by omega)]
    exact fin s (by rw [show pl = k by omega]; exact h)
  | succ j ih =>
    intro F k s hF hk hk2 h
    obtain ⟨F, rfl⟩ : ∃ M, F = M + 1 := ⟨F - 1, by omega⟩
    unfold zf_143_233
    rw [if_neg (by decide), if_neg (by omega), if_neg (by decide), zg_ok ⟨by omega, by omega⟩, zn_ok (by omega), zW_ok (by omega), zg_ok ⟨by omega, by omega⟩, h.2.2.1.1, show k + -1 = k - 1 by omega]
    refine ih F (k - 1) _ (by omega) (by omega) (by omega) (h.d (D := shU D 0 (k - 1) has) fun i => ?_)
    have e := shU_s (D := D) (b := 0) (k := k) (hi := has) (i := i) hk2
    rw [Int.zero_add] at e
    exact e
theorem l_insD (I : wI w A) (h : lQ A w m s) (hv : 0 ≤ v ∧ v ≤ 255) (ha : w.2.2 0 < 20) (hp : 0 ≤ pl ∧ pl ≤ w.2.2 0) (hr : eRv (3 + pl) 1 1 (w.2.2 2) ≤ 255) (h29 : w.2.2 3 < 29) : zw (zf_143_215 0 1 0 0 0 (-1) (w.2.2 0) 4 pl v (eRv (3 + pl) 1 1 (w.2.2 2)) 1 s) (lT (m + 1)) := by
  obtain ⟨N, hN⟩ := l_fu
  have k7 := I.1.2.2.2.2.2.2
  unfold zf_143_215
  rw [if_neg (by decide), zg_ok (by decide)]
  refine l233_d (D := w.1) (w := w) (m := m) (A := A) hp.1 (by omega) (fun u h => ?_) (w.2.2 0 - pl).toNat xfu _ _ (pa_fu (by omega)) (by omega) (Int.le_refl _) ?_
  · rw [hN]
    unfold zf_143_290
    rw [if_neg (by decide)]
    unfold zf_143_345
    rw [if_neg (by decide), if_neg (by decide)]
    unfold zf_143_366
    rw [zW_ok (by omega), zn_ok (by decide), if_neg (by decide)]
    have h1 := h.d (i0 := pl) (v := v) (D := fun i => if i = pl then v else shU w.1 0 pl (w.2.2 0) i) fun i => rfl
    have r0 : _ = w.2.2 0 := h1.2.2.1.2.2 0
    rw [r0, zg_ok ⟨by omega, by omega⟩, zW_ok (by decide)]
    have h2 := h1.q (i0 := 0) (v := w.2.2 0 + 1) (Q := fun i => if i = 0 then w.2.2 0 + 1 else w.2.2 i) fun i => rfl
    refine l431 h2 (show 0 ≤ w.2.2 3 ∧ w.2.2 3 ≤ 100 by omega) fun u h3 => ?_
    unfold zf_143_445
    rw [if_neg (by decide)]
    refine Exists.elim ((ed_insD (pl := pl) I hv ha).1 (wInsD w pl v (eRv (3 + pl) 1 1 (w.2.2 2))) hp hr h29 rfl rfl rfl rfl (fun i => rfl) (fun j j0 j1 => ?_) ?_ (fun j j0 j1 => ?_)) fun A' q => l455_1 q.2 (l91_0 h3 I.2.2.2.2.2.2.2.2 q.1 (Or.inl rfl))
    · show (if j = pl then v else shU w.1 0 pl (w.2.2 0) j) = w.1 j
      rw [if_neg (by omega)]
      exact if_neg (by omega)
    · exact if_pos rfl
    · show (if j = pl then v else shU w.1 0 pl (w.2.2 0) j) = w.1 (j - 1)
      rw [if_neg (by omega)]
      exact if_pos (by omega)
  · refine ⟨h.1, h.2.1, ⟨fun i => ?_, h.2.2.1.2⟩, h.2.2.2⟩
    show s.1 576 0 i = shU w.1 0 (w.2.2 0) (w.2.2 0) i
    rw [shU_0]
    exact h.2.2.1.1 i
/-! d, a byte out -/
theorem l290_d (hp : 0 ≤ pl) (hh : has ≤ 20) (fin : ∀ u, lQ A (shD D 0 pl (has - 1), w.2) m u → zw (zf_143_345 0 0 0 0 0 (-1) nd pl v 1 to b u) R) : ∀ (j F : Nat) (k : Int) (s : zS), j < F → k + j = has - 1 → pl ≤ k → lQ A (shD D 0 pl k, w.2) m s → zw (zf_143_290 F 0 0 0 0 0 (-1) has nd pl v 1 to b k s) R := by
  intro j
  induction j with
  | zero =>
    intro F k s hF hk hk2 h
    obtain ⟨F, rfl⟩ : ∃ M, F = M + 1 := ⟨F - 1, by omega⟩
    unfold zf_143_290
    rw [if_pos rfl, zg_ok ⟨by omega, by omega⟩, if_pos (by omega)]
    exact fin s (by rw [show has - 1 = k by omega]; exact h)
  | succ j ih =>
    intro F k s hF hk hk2 h
    obtain ⟨F, rfl⟩ : ∃ M, F = M + 1 := ⟨F - 1, by omega⟩
    unfold zf_143_290
    rw [if_pos rfl, zg_ok ⟨by omega, by omega⟩, if_neg (by omega), if_neg (by decide), zn_ok (by omega), zW_ok (by omega), h.2.2.1.1]
    refine ih F (k + 1) _ (by omega) (by omega) (by omega) (h.d (D := shD D 0 pl (k + 1)) fun i => ?_)
    have e := shD_s (D := D) (b := 0) (k := k) (lo := pl) (i := i) hk2
    rw [Int.zero_add] at e
    exact e
theorem l_remD (I : wI w A) (h : lQ A w m s) (hp : 0 ≤ pl ∧ pl < w.2.2 0) (h29 : w.2.2 3 < 29) : zw (zf_143_215 0 0 0 0 0 (-1) (w.2.2 0) 4 pl v (eRv (3 + pl) 1 0 (w.2.2 2)) 1 s) (lT (m + 1)) := by
  obtain ⟨N, hN⟩ := l_fu
  have k1 := I.1.1
  have k7 := I.1.2.2.2.2.2.2
  unfold zf_143_215
  rw [if_neg (by decide), zg_ok (by decide), hN]
  unfold zf_143_233
  rw [if_pos rfl]
  refine l290_d (D := w.1) (w := w) (m := m) (A := A) hp.1 (by omega) (fun u h => ?_) (w.2.2 0 - 1 - pl).toNat xfu _ _ (pa_fu (by omega)) (by omega) (Int.le_refl _) ?_
  · unfold zf_143_345
    rw [if_neg (by decide), if_pos rfl, zn_ok (by omega), h.2.2.1.1]
    unfold zf_143_366
    rw [zW_ok (by omega), zn_ok (by decide), if_pos rfl]
    have h1 := h.d (i0 := pl) (v := shD w.1 0 pl (w.2.2 0 - 1) pl) (D := shD w.1 0 pl (w.2.2 0 - 1)) fun i => by
      by_cases c : i = pl
      · rw [if_pos c, c]
      · rw [if_neg c]
    have r0 : _ = w.2.2 0 := h1.2.2.1.2.2 0
    rw [r0, zg_ok ⟨by omega, by omega⟩, zW_ok (by decide)]
    have h2 := h1.q (i0 := 0) (v := w.2.2 0 + -1) (Q := fun i => if i = 0 then w.2.2 0 + -1 else w.2.2 i) fun i => rfl
    refine l431 h2 (show 0 ≤ w.2.2 3 ∧ w.2.2 3 ≤ 100 by omega) fun u h3 => ?_
    unfold zf_143_445
    rw [if_pos rfl]
    refine Exists.elim ((ed_remD (pl := pl) I).1 (wRemD w pl (eRv (3 + pl) 1 0 (w.2.2 2))) hp h29 rfl rfl rfl rfl (fun i => rfl) (fun j j0 j1 => ?_) (fun j j0 j1 => ?_)) fun A' q => l455_1 q.2 (l91_1 h3 I.2.2.2.2.2.2.2.2 q.1 (Or.inl rfl))
    · exact if_neg (by omega)
    · exact if_pos (by omega)
  · refine ⟨h.1, h.2.1, ⟨fun i => ?_, h.2.2.1.2⟩, h.2.2.2⟩
    show s.1 576 0 i = shD w.1 0 pl pl i
    rw [shD_0]
    exact h.2.2.1.1 i
/-! an element, a byte in -/
theorem l233_e (hx : x < 7) (hp : 0 ≤ pl) (hh : has ≤ 7) (fin : ∀ u, lQ A (w.1, shU E (8 * x) pl has, w.2.2) m u → zw (zf_143_290 xfu 0 1 0 0 0 x has nd pl v 1 to (8 * x) pl u) R) : ∀ (j F : Nat) (k : Int) (s : zS), j < F → k = pl + j → k ≤ has → lQ A (w.1, shU E (8 * x) k has, w.2.2) m s → zw (zf_143_233 F 0 1 0 0 0 x has nd pl v 1 to (8 * x) k s) R := by
  intro j
  induction j with
  | zero =>
    intro F k s hF hk hk2 h
    obtain ⟨F, rfl⟩ : ∃ M, F = M + 1 := ⟨F - 1, by omega⟩
    unfold zf_143_233
    rw [if_neg (by decide), if_pos (by omega)]
    exact fin s (by rw [show pl = k by omega]; exact h)
  | succ j ih =>
    intro F k s hF hk hk2 h
    obtain ⟨F, rfl⟩ : ∃ M, F = M + 1 := ⟨F - 1, by omega⟩
    unfold zf_143_233
    rw [if_neg (by decide), if_neg (by omega), if_pos (by omega), zg_ok ⟨by omega, by omega⟩, zg_ok ⟨by omega, by omega⟩, zn_ok (by omega), zW_ok (by omega), zg_ok ⟨by omega, by omega⟩, h.2.2.1.2.1, show k + -1 = k - 1 by omega]
    exact ih F (k - 1) _ (by omega) (by omega) (by omega) (h.e (E := shU E (8 * x) (k - 1) has) fun i => shU_s (D := E) (b := 8 * x) (k := k) (hi := has) (i := i) hk2)
theorem l_insE (I : wI w A) (h : lQ A w m s) (hv : 0 ≤ v ∧ v ≤ 255) (hx : (x : Int) < w.2.2 1) (ha : w.2.1 (56 + x) < 7) (hp : 0 ≤ pl ∧ pl ≤ w.2.1 (56 + x)) (hr : eRv (wP w x + 1 + pl) 1 1 (w.2.2 2) ≤ 255) (h29 : w.2.2 3 < 29) : zw (zf_143_215 0 1 0 0 0 x (w.2.1 (56 + x)) (8 + 3 * x) pl v (eRv (wP w x + 1 + pl) 1 1 (w.2.2 2)) 1 s) (lT (m + 1)) := by
  obtain ⟨N, hN⟩ := l_fu
  have k2 := I.1.2.1
  have kx := I.1.2.2.1 x hx
  have k7 := I.1.2.2.2.2.2.2
  unfold zf_143_215
  rw [if_neg (by decide), zg_ok ⟨by omega, by omega⟩]
  refine l233_e (E := w.2.1) (w := w) (m := m) (A := A) (by omega) hp.1 (by omega) (fun u h => ?_) (w.2.1 (56 + x) - pl).toNat xfu _ _ (pa_fu (by omega)) (by omega) (Int.le_refl _) ?_
  · rw [hN]
    unfold zf_143_290
    rw [if_neg (by decide)]
    unfold zf_143_345
    rw [if_pos (by omega), if_neg (by decide), zg_ok ⟨by omega, by omega⟩]
    unfold zf_143_410
    rw [zW_ok (by omega), zg_ok ⟨by omega, by omega⟩, zn_ok (by omega), if_neg (by decide)]
    have h1 := h.e (i0 := 8 * x + pl) (v := v) (E := fun i => if i = 8 * x + pl then v else shU w.2.1 (8 * x) pl (w.2.1 (56 + x)) i) fun i => rfl
    have e56 : (fun i : Int => if i = 8 * x + pl then v else shU w.2.1 (8 * x) pl (w.2.1 (56 + x)) i) (56 + x) = w.2.1 (56 + x) := by
      dsimp only
      rw [if_neg (by omega)]
      exact if_neg (by omega)
    have r56 := (h1.2.2.1.2.1 (56 + x)).trans e56
    rw [r56, zg_ok ⟨by omega, by omega⟩, zW_ok (by omega)]
    have h2 := h1.e (i0 := 56 + x) (v := w.2.1 (56 + x) + 1) (E := fun i => if i = 56 + x then w.2.1 (56 + x) + 1 else if i = 8 * x + pl then v else shU w.2.1 (8 * x) pl (w.2.1 (56 + x)) i) fun i => rfl
    refine l431 h2 (show 0 ≤ w.2.2 3 ∧ w.2.2 3 ≤ 100 by omega) fun u h3 => ?_
    unfold zf_143_445
    rw [if_neg (by decide)]
    refine Exists.elim ((ed_insE (pl := pl) I hv hx ha).1 (wInsE w x pl v (eRv (wP w x + 1 + pl) 1 1 (w.2.2 2))) hp hr h29 rfl rfl rfl rfl (fun i => rfl) (if_pos rfl) (fun i i1 i2 => ?_) (fun i i1 i2 k k0 k1 => ?_) (fun j j0 j1 => ?_) ?_ (fun j j0 j1 => ?_)) fun A' q => l455_1 q.2 (l91_0 h3 I.2.2.2.2.2.2.2.2 q.1 (Or.inl rfl))
    · show (if (56 + (i : Int)) = 56 + x then w.2.1 (56 + x) + 1 else if (56 + (i : Int)) = 8 * x + pl then v else shU w.2.1 (8 * x) pl (w.2.1 (56 + x)) (56 + i)) = w.2.1 (56 + i)
      rw [if_neg (by omega), if_neg (by omega)]
      exact if_neg (by omega)
    · show (if (8 * (i : Int) + k) = 56 + x then w.2.1 (56 + x) + 1 else if (8 * (i : Int) + k) = 8 * x + pl then v else shU w.2.1 (8 * x) pl (w.2.1 (56 + x)) (8 * i + k)) = w.2.1 (8 * i + k)
      rw [if_neg (by omega), if_neg (by omega)]
      exact if_neg (by omega)
    · show (if (8 * (x : Int) + j) = 56 + x then w.2.1 (56 + x) + 1 else if (8 * (x : Int) + j) = 8 * x + pl then v else shU w.2.1 (8 * x) pl (w.2.1 (56 + x)) (8 * x + j)) = w.2.1 (8 * x + j)
      rw [if_neg (by omega), if_neg (by omega)]
      exact if_neg (by omega)
    · show (if (8 * (x : Int) + pl) = 56 + x then w.2.1 (56 + x) + 1 else if (8 * (x : Int) + pl) = 8 * x + pl then v else shU w.2.1 (8 * x) pl (w.2.1 (56 + x)) (8 * x + pl)) = v
      rw [if_neg (by omega), if_pos rfl]
    · show (if (8 * (x : Int) + j) = 56 + x then w.2.1 (56 + x) + 1 else if (8 * (x : Int) + j) = 8 * x + pl then v else shU w.2.1 (8 * x) pl (w.2.1 (56 + x)) (8 * x + j)) = w.2.1 (8 * x + (j - 1))
      rw [if_neg (by omega), if_neg (by omega), show 8 * (x : Int) + (j - 1) = 8 * x + j - 1 by omega]
      exact if_pos (by omega)
  · refine ⟨h.1, h.2.1, ⟨h.2.2.1.1, fun i => ?_, h.2.2.1.2.2⟩, h.2.2.2⟩
    show s.1 577 0 i = shU w.2.1 (8 * x) (w.2.1 (56 + x)) (w.2.1 (56 + x)) i
    rw [shU_0]
    exact h.2.2.1.2.1 i
/-! an element, a byte out -/
theorem l290_e (hx : x < 7) (hp : 0 ≤ pl) (hh : has ≤ 7) (fin : ∀ u, lQ A (w.1, shD E (8 * x) pl (has - 1), w.2.2) m u → zw (zf_143_345 0 0 0 0 0 x nd pl v 1 to (8 * x) u) R) : ∀ (j F : Nat) (k : Int) (s : zS), j < F → k + j = has - 1 → pl ≤ k → lQ A (w.1, shD E (8 * x) pl k, w.2.2) m s → zw (zf_143_290 F 0 0 0 0 0 x has nd pl v 1 to (8 * x) k s) R := by
  intro j
  induction j with
  | zero =>
    intro F k s hF hk hk2 h
    obtain ⟨F, rfl⟩ : ∃ M, F = M + 1 := ⟨F - 1, by omega⟩
    unfold zf_143_290
    rw [if_pos rfl, zg_ok ⟨by omega, by omega⟩, if_pos (by omega)]
    exact fin s (by rw [show has - 1 = k by omega]; exact h)
  | succ j ih =>
    intro F k s hF hk hk2 h
    obtain ⟨F, rfl⟩ : ∃ M, F = M + 1 := ⟨F - 1, by omega⟩
    unfold zf_143_290
    rw [if_pos rfl, zg_ok ⟨by omega, by omega⟩, if_neg (by omega), if_pos (by omega), zg_ok ⟨by omega, by omega⟩, zg_ok ⟨by omega, by omega⟩, zn_ok (by omega), zW_ok (by omega), h.2.2.1.2.1]
    exact ih F (k + 1) _ (by omega) (by omega) (by omega) (h.e (E := shD E (8 * x) pl (k + 1)) fun i => shD_s (D := E) (b := 8 * x) (k := k) (lo := pl) (i := i) hk2)
theorem l_remE (I : wI w A) (h : lQ A w m s) (hx : (x : Int) < w.2.2 1) (hp : 0 ≤ pl ∧ pl < w.2.1 (56 + x)) (h29 : w.2.2 3 < 29) : zw (zf_143_215 0 0 0 0 0 x (w.2.1 (56 + x)) (8 + 3 * x) pl v (eRv (wP w x + 1 + pl) 1 0 (w.2.2 2)) 1 s) (lT (m + 1)) := by
  obtain ⟨N, hN⟩ := l_fu
  have k2 := I.1.2.1
  have kx := I.1.2.2.1 x hx
  have k7 := I.1.2.2.2.2.2.2
  unfold zf_143_215
  rw [if_neg (by decide), zg_ok ⟨by omega, by omega⟩, hN]
  unfold zf_143_233
  rw [if_pos rfl]
  refine l290_e (E := w.2.1) (w := w) (m := m) (A := A) (by omega) hp.1 (by omega) (fun u h => ?_) (w.2.1 (56 + x) - 1 - pl).toNat xfu _ _ (pa_fu (by omega)) (by omega) (Int.le_refl _) ?_
  · unfold zf_143_345
    rw [if_pos (by omega), if_pos rfl, zg_ok ⟨by omega, by omega⟩, zn_ok (by omega), h.2.2.1.2.1]
    unfold zf_143_410
    rw [zW_ok (by omega), zg_ok ⟨by omega, by omega⟩, zn_ok (by omega), if_pos rfl]
    have h1 := h.e (i0 := 8 * x + pl) (v := shD w.2.1 (8 * x) pl (w.2.1 (56 + x) - 1) (8 * x + pl)) (E := shD w.2.1 (8 * x) pl (w.2.1 (56 + x) - 1)) fun i => by
      by_cases c : i = 8 * x + pl
      · rw [if_pos c, c]
      · rw [if_neg c]
    have e56 : shD w.2.1 (8 * x) pl (w.2.1 (56 + x) - 1) (56 + x) = w.2.1 (56 + x) := if_neg (by omega)
    have r56 := (h1.2.2.1.2.1 (56 + x)).trans e56
    rw [r56, zg_ok ⟨by omega, by omega⟩, zW_ok (by omega)]
    have h2 := h1.e (i0 := 56 + x) (v := w.2.1 (56 + x) + -1) (E := fun i => if i = 56 + x then w.2.1 (56 + x) + -1 else shD w.2.1 (8 * x) pl (w.2.1 (56 + x) - 1) i) fun i => rfl
    refine l431 h2 (show 0 ≤ w.2.2 3 ∧ w.2.2 3 ≤ 100 by omega) fun u h3 => ?_
    unfold zf_143_445
    rw [if_pos rfl]
    refine Exists.elim ((ed_remE (pl := pl) I hx).1 (wRemE w x pl (eRv (wP w x + 1 + pl) 1 0 (w.2.2 2))) hp h29 rfl rfl rfl rfl (fun i => rfl) (if_pos rfl) (fun i i1 i2 => ?_) (fun i i1 i2 k k0 k1 => ?_) (fun j j0 j1 => ?_) (fun j j0 j1 => ?_)) fun A' q => l455_1 q.2 (l91_1 h3 I.2.2.2.2.2.2.2.2 q.1 (Or.inl rfl))
    · show (if (56 + (i : Int)) = 56 + x then w.2.1 (56 + x) + -1 else shD w.2.1 (8 * x) pl (w.2.1 (56 + x) - 1) (56 + i)) = w.2.1 (56 + i)
      rw [if_neg (by omega)]
      exact if_neg (by omega)
    · show (if (8 * (i : Int) + k) = 56 + x then w.2.1 (56 + x) + -1 else shD w.2.1 (8 * x) pl (w.2.1 (56 + x) - 1) (8 * i + k)) = w.2.1 (8 * i + k)
      rw [if_neg (by omega)]
      exact if_neg (by omega)
    · show (if (8 * (x : Int) + j) = 56 + x then w.2.1 (56 + x) + -1 else shD w.2.1 (8 * x) pl (w.2.1 (56 + x) - 1) (8 * x + j)) = w.2.1 (8 * x + j)
      rw [if_neg (by omega)]
      exact if_neg (by omega)
    · show (if (8 * (x : Int) + j) = 56 + x then w.2.1 (56 + x) + -1 else shD w.2.1 (8 * x) pl (w.2.1 (56 + x) - 1) (8 * x + j)) = w.2.1 (8 * x + (j + 1))
      rw [if_neg (by omega), show 8 * (x : Int) + (j + 1) = 8 * x + j + 1 by omega]
      exact if_pos (by omega)
  · refine ⟨h.1, h.2.1, ⟨h.2.2.1.1, fun i => ?_, h.2.2.1.2.2⟩, h.2.2.2⟩
    show s.1 577 0 i = shD w.2.1 (8 * x) pl pl i
    rw [shD_0]
    exact h.2.2.1.2.1 i
/-! the whole of strings -/
/-- what a place must be -/
abbrev lPl (g pl has : Int) : Prop := 0 ≤ pl ∧ (if g = 0 then pl < has else pl ≤ has)
theorem l174 {g wh at_ : Int} (I : wI w A) (h : lQ A w m s) (hg : g = 0 ∨ g = 1) (hat : 3 ≤ at_ ∧ at_ ≤ 100) (hpl : -1 ≤ pl ∧ pl ≤ 30) {cn : Int} (hcn : cn = 0 ∧ ¬ lPl g pl has ∨ cn = 1 ∧ lPl g pl has)
    (yes : lPl g pl has → eRv (at_ + pl) 1 g (w.2.2 2) ≤ 255 → w.2.2 3 < 29 → zw (zf_143_215 0 g 0 0 0 wh has nd pl v (eRv (at_ + pl) 1 g (w.2.2 2)) 1 s) R)
    (no : ¬ (lPl g pl has ∧ eRv (at_ + pl) 1 g (w.2.2 2) ≤ 255 ∧ w.2.2 3 < 29) → zw (zf_143_445 0 g 0 nd pl v 0 s) R) : zw (zf_143_174 0 g 0 0 0 wh has at_ nd pl v cn s) R := by
  have n215 : ¬ (lPl g pl has ∧ eRv (at_ + pl) 1 g (w.2.2 2) ≤ 255 ∧ w.2.2 3 < 29) → ∀ to, zw (zf_143_215 0 g 0 0 0 wh has nd pl v to 0 s) R := fun c to => by
    unfold zf_143_215
    rw [if_pos rfl]
    exact no c
  unfold zf_143_174
  rw [zg_ok ⟨by omega, by omega⟩]
  refine lq_p (l134 h.2.2.1 I.1 (by omega) (by decide) hg) ?_
  rcases hcn with ⟨rfl, c⟩ | ⟨rfl, c⟩
  · rw [if_pos rfl]
    exact n215 (fun z => c z.1) _
  · rw [if_neg (by decide)]
    by_cases d : 256 ≤ eRv (at_ + pl) 1 g (w.2.2 2)
    · rw [if_pos d]
      exact n215 (fun z => by have := z.2.1; omega) _
    · rw [if_neg d, zn_ok (by decide), h.2.2.1.2.2]
      by_cases e : 29 ≤ w.2.2 3
      · rw [if_pos e]
        exact n215 (fun z => by have := z.2.2; omega) _
      · rw [if_neg e]
        exact yes c (by omega) (by omega)
theorem l74 {g wh at_ z lim : Int} (I : wI w A) (h : lQ A w m s) (hg : g = 0 ∨ g = 1) (hat : 3 ≤ at_ ∧ at_ ≤ 100) (hh : 0 ≤ has ∧ has ≤ 20) (hlim : lim = if 0 ≤ wh then 7 else 20)
    (yes : ∀ pl v : Int, 0 ≤ v ∧ v ≤ 255 → (g = 1 → has ≠ lim) → lPl g pl has → eRv (at_ + pl) 1 g (w.2.2 2) ≤ 255 → w.2.2 3 < 29 → zw (zf_143_215 0 g 0 0 0 wh has nd pl v (eRv (at_ + pl) 1 g (w.2.2 2)) 1 s) (lT (m + 1)))
    (no : ∀ pl v : Int, 0 ≤ v ∧ v ≤ 255 → (g = 1 → has ≠ lim) → ¬ (lPl g pl has ∧ eRv (at_ + pl) 1 g (w.2.2 2) ≤ 255 ∧ w.2.2 3 < 29) → zw (zf_143_445 0 g 0 nd pl v 0 s) (lT (m + 1))) : zw (zf_143_74 0 g z 0 0 0 wh has at_ nd s) (lT (m + 1)) := by
  obtain ⟨p0, e1, p1, p2⟩ := l90 (s := s) (x := zshr z 4) (n := has + 2) (by omega)
  obtain ⟨f, e2, -, -⟩ := l90 (s := s) (x := zshr z 9) (n := 9) (by decide)
  obtain ⟨v, e3, v1, v2⟩ := l90 (s := s) (x := zshr z 6) (n := 256) (by decide)
  have k174 : ∀ pl cn : Int, -1 ≤ pl ∧ pl ≤ 30 → (g = 1 → has ≠ lim) → (cn = 0 ∧ ¬ lPl g pl has ∨ cn = 1 ∧ lPl g pl has) → zw (zf_143_174 0 g 0 0 0 wh has at_ nd pl v cn s) (lT (m + 1)) := fun pl cn hp hl hc => l174 I h hg hat hp hc (fun a b c => yes pl v (by omega) hl a b c) fun a => no pl v (by omega) hl a
  have k149 : ∀ pl cn : Int, -1 ≤ pl ∧ pl ≤ 30 → (cn = 0 ∧ ¬ lPl g pl has ∨ cn = 1 ∧ lPl g pl has) → zw (zf_143_149 0 g 0 0 0 wh has at_ nd pl v cn s) (lT (m + 1)) := fun pl cn hp hc => by
    unfold zf_143_149
    by_cases g0 : g = 0
    · rw [if_pos g0]
      exact k174 pl cn hp (by omega) hc
    · rw [if_neg g0]
      have k169 : zw (zf_143_169 0 g 0 0 0 wh has at_ nd pl v cn has lim s) (lT (m + 1)) := by
        unfold zf_143_169
        by_cases c : has = lim
        · rw [if_pos c]
          exact zw_z1 ⟨rfl, A, w, I, h.mono (by omega)⟩
        · rw [if_neg c]
          exact k174 pl cn hp (fun _ => c) hc
      by_cases c : 0 ≤ wh
      · rw [if_pos c]
        rw [if_pos c] at hlim
        rw [hlim] at k169
        exact k169
      · rw [if_neg c]
        rw [if_neg c] at hlim
        rw [hlim] at k169
        exact k169
  have k103 : ∀ s1 : Int, s1 = 0 ∨ s1 = 1 → zw (zf_143_103 0 g z 0 0 0 wh has at_ nd p0 s1 s) (lT (m + 1)) := fun s1 h1 => by
    unfold zf_143_103
    refine lq_p e3 ?_
    rw [zg_ok ⟨by omega, by omega⟩]
    by_cases c : p0 - s1 < 0
    · rw [if_pos c]
      exact k149 _ _ (by omega) (Or.inl ⟨rfl, fun z => by have := z.1; omega⟩)
    · rw [if_neg c]
      by_cases g0 : g = 0
      · rw [if_pos g0]
        by_cases d : has ≤ p0 - s1
        · rw [if_pos d]
          exact k149 _ _ (by omega) (Or.inl ⟨rfl, fun z => by have := z.2; rw [if_pos g0] at this; omega⟩)
        · rw [if_neg d]
          exact k149 _ _ (by omega) (Or.inr ⟨rfl, by omega, by rw [if_pos g0]; omega⟩)
      · rw [if_neg g0]
        by_cases d : has < p0 - s1
        · rw [if_pos d]
          exact k149 _ _ (by omega) (Or.inl ⟨rfl, fun z => by have := z.2; rw [if_neg g0] at this; omega⟩)
        · rw [if_neg d]
          exact k149 _ _ (by omega) (Or.inr ⟨rfl, by omega, by rw [if_neg g0]; omega⟩)
  unfold zf_143_74
  rw [zg_ok ⟨by omega, by omega⟩]
  refine lq_p e1 (lq_p e2 ?_)
  by_cases c : f = 0
  · rw [if_pos c]
    exact k103 1 (Or.inr rfl)
  · rw [if_neg c]
    exact k103 0 (Or.inl rfl)
theorem l143 {g z : Int} (I : wI w A) (h : lQ A w m s) (hg : g = 0 ∨ g = 1) : zw (zf_143 0 g z 0 0 0 s) (lT (m + 1)) := by
  have k1 := I.1.1
  have k2 := I.1.2.1
  have k6 := I.1.2.2.2.2.2.1
  have hn := I.1.n
  have ok := I.2.2.2.2.2.2.2.2
  unfold zf_143
  rw [zn_ok (by decide), h.2.2.1.2.2, zg_ok ⟨by omega, by omega⟩]
  obtain ⟨v4, e1, a1, a2⟩ := l90 (s := s) (x := z) (n := w.2.2 1 + 1) (by omega)
  refine lq_p e1 ?_
  rw [zg_ok ⟨by omega, by omega⟩]
  by_cases c : 0 ≤ v4 - 1
  · obtain ⟨x, hx⟩ : ∃ x : Nat, v4 - 1 = x := ⟨(v4 - 1).toNat, by omega⟩
    have hx1 : (x : Int) < w.2.2 1 := by omega
    have kx := I.1.2.2.1 x hx1
    have hb := wP_b I.1 x (by omega)
    rw [if_pos c, hx, zg_ok ⟨by omega, by omega⟩, zn_ok (by omega), h.2.2.1.2.1]
    unfold zf_143_34
    rw [if_pos (by omega)]
    refine lq_p (l111 h.2.2.1 I.1 (i := x) (by omega)) ?_
    rw [zg_ok ⟨by omega, by omega⟩]
    unfold zf_143_56
    rw [if_pos (by omega), zg_ok ⟨by omega, by omega⟩, zg_ok ⟨by omega, by omega⟩]
    refine l74 (lim := 7) I h hg (by omega) (by omega) (by rw [if_pos (by omega)]) (fun pl v hv hl hp hr h29 => ?_) fun pl v hv hl hn => ?_
    · rcases hg with rfl | rfl
      · exact l_remE I h hx1 (by have := hp.2; rw [if_pos rfl] at this; exact ⟨hp.1, this⟩) h29
      · exact l_insE I h hv hx1 (by have := hl rfl; omega) (by have := hp.2; rw [if_neg (by decide)] at this; exact ⟨hp.1, this⟩) hr h29
    · unfold zf_143_445
      rcases hg with rfl | rfl
      · rw [if_pos rfl]
        refine l455_0 I (l91_1 h ok ((ed_remE (pl := pl) I hx1).2 fun q => hn ⟨⟨q.1.1, ?_⟩, (rv_b k6 (by omega) (by decide)).2 rfl, q.2⟩) (Or.inr ⟨rfl, rfl⟩))
        rw [if_pos rfl]
        exact q.1.2
      · rw [if_neg (by decide)]
        refine l455_0 I (l91_0 h ok ((ed_insE (pl := pl) I hv hx1 (by have := hl rfl; omega)).2 fun q => hn ⟨⟨q.1.1, ?_⟩, q.2⟩) (Or.inr ⟨rfl, rfl⟩))
        rw [if_neg (by decide)]
        exact q.1.2
  · rw [if_neg c, show v4 - 1 = -1 by omega, zn_ok (by decide), h.2.2.1.2.2]
    unfold zf_143_34
    rw [if_neg (by decide)]
    unfold zf_143_56
    rw [if_neg (by decide)]
    refine l74 (lim := 20) I h hg (by decide) (by omega) (by rw [if_neg (by decide)]) (fun pl v hv hl hp hr h29 => ?_) fun pl v hv hl hn => ?_
    · rcases hg with rfl | rfl
      · exact l_remD I h (by have := hp.2; rw [if_pos rfl] at this; exact ⟨hp.1, this⟩) h29
      · exact l_insD I h hv (by have := hl rfl; omega) (by have := hp.2; rw [if_neg (by decide)] at this; exact ⟨hp.1, this⟩) hr h29
    · unfold zf_143_445
      rcases hg with rfl | rfl
      · rw [if_pos rfl]
        refine l455_0 I (l91_1 h ok ((ed_remD (pl := pl) I).2 fun q => hn ⟨⟨q.1.1, ?_⟩, (rv_b k6 (by omega) (by decide)).2 rfl, q.2⟩) (Or.inr ⟨rfl, rfl⟩))
        rw [if_pos rfl]
        exact q.1.2
      · rw [if_neg (by decide)]
        refine l455_0 I (l91_0 h ok ((ed_insD (pl := pl) I hv (by have := hl rfl; omega)).2 fun q => hn ⟨⟨q.1.1, ?_⟩, q.2⟩) (Or.inr ⟨rfl, rfl⟩))
        rw [if_neg (by decide)]
        exact q.1.2
end
