/-! THE LAW'S elements and copies -/
section
variable {w w' : wW} {A A' : aA} {s u : zS} {m M : Nat} {R : Int → zS → Prop} {to : Int} {D E : Int → Int} {x : Nat}
theorem lQ.eE {E' : Int → Int} (h : lQ A (w.1, E, w.2.2) m s) (e : ∀ i, E' i = E i) : lQ A (w.1, E', w.2.2) m s := ⟨h.1, h.2.1, ⟨h.2.2.1.1, fun i => (h.2.2.1.2.1 i).trans (e i).symm, h.2.2.1.2.2⟩, h.2.2.2⟩
/-- k bytes of element f are in element t -/
def cpK (E : Int → Int) (f t k : Int) : Int → Int := fun i => if 8 * t ≤ i ∧ i < 8 * t + k then E (8 * f + (i - 8 * t)) else E i
def cpE (E : Int → Int) (f t : Int) : Int → Int := fun i => if i = 56 + t then E (56 + f) else cpK E f t 8 i
theorem l145_2 {f t : Int} (hf : 0 ≤ f ∧ f ≤ 6) (ht : 0 ≤ t ∧ t ≤ 6) (hft : f ≠ t) : ∀ (j F : Nat) (k : Int) (s : zS), j < F → k + j = 8 → 0 ≤ k → lQ A (w.1, cpK E f t k, w.2.2) m s → zw (zf_145_2 F f t 0 k s) fun _ u => lQ A (w.1, cpE E f t, w.2.2) m u := by
  intro j
  induction j with
  | zero =>
    intro F k s hF hk k0 h
    obtain ⟨F, rfl⟩ : ∃ M, F = M + 1 := ⟨F - 1, by omega⟩
    have hk8 : k = 8 := by omega
    subst hk8
    unfold zf_145_2
    rw [if_pos (by omega), zg_ok ⟨by omega, by omega⟩, zn_ok (by omega), zg_ok ⟨by omega, by omega⟩, zW_ok (by omega)]
    have e : s.1 577 0 (56 + f) = E (56 + f) := by
      refine (h.2.2.1.2.1 (56 + f)).trans ?_
      exact if_neg (by omega)
    rw [e]
    exact zw_i (h.e (E := cpE E f t) fun i => rfl)
  | succ j ih =>
    intro F k s hF hk k0 h
    obtain ⟨F, rfl⟩ : ∃ M, F = M + 1 := ⟨F - 1, by omega⟩
    unfold zf_145_2
    rw [if_neg (by omega), zg_ok ⟨by omega, by omega⟩, zg_ok ⟨by omega, by omega⟩, zn_ok (by omega), zg_ok ⟨by omega, by omega⟩, zg_ok ⟨by omega, by omega⟩, zW_ok (by omega), zg_ok ⟨by omega, by omega⟩]
    have e : s.1 577 0 (8 * f + k) = E (8 * f + k) := by
      refine (h.2.2.1.2.1 (8 * f + k)).trans ?_
      exact if_neg (by omega)
    rw [e]
    refine ih F (k + 1) _ (by omega) (by omega) (by omega) (h.e (E := cpK E f t (k + 1)) fun i => ?_)
    show (if 8 * t ≤ i ∧ i < 8 * t + (k + 1) then E (8 * f + (i - 8 * t)) else E i) = if i = 8 * t + k then E (8 * f + k) else if 8 * t ≤ i ∧ i < 8 * t + k then E (8 * f + (i - 8 * t)) else E i
    by_cases c : i = 8 * t + k
    · rw [if_pos (by omega), if_pos c, c, show 8 * t + k - 8 * t = k by omega]
    · rw [if_neg c]
      by_cases d : 8 * t ≤ i ∧ i < 8 * t + k
      · rw [if_pos d, if_pos (by omega)]
      · rw [if_neg d, if_neg (by omega)]
theorem l145 {f t : Int} (h : lQ A (w.1, E, w.2.2) m s) (hf : 0 ≤ f ∧ f ≤ 6) (ht : 0 ≤ t ∧ t ≤ 6) (hft : f ≠ t) : zw (zf_145 f t 0 s) fun _ u => lQ A (w.1, cpE E f t, w.2.2) m u := by
  unfold zf_145
  exact l145_2 hf ht hft 8 xfu 0 s (pa_fu (by decide)) (by decide) (by decide) (h.eE fun i => if_neg (by omega))
/-- the elements n .. q - 1 stand one place further on -/
def upE (E : Int → Int) (n q : Int) : Int → Int := fun c => if 8 * (n + 1) ≤ c ∧ c < 8 * (q + 1) then E (c - 8) else if 56 + n < c ∧ c ≤ 56 + q then E (c - 1) else E c
/-- the elements i + 1 .. n stand one place further ahead -/
def dnE (E : Int → Int) (i n : Int) : Int → Int := fun c => if 8 * i ≤ c ∧ c < 8 * n then E (c + 8) else if 56 + i ≤ c ∧ c < 56 + n then E (c + 1) else E c
theorem upE_s {n q c : Int} (hn : 1 ≤ n ∧ n ≤ q) (hq : q ≤ 6) : upE E (n - 1) q c = cpE (upE E n q) (n - 1) n c := by
  unfold upE cpE cpK
  dsimp only
  by_cases c1 : c = 56 + n
  · rw [if_pos c1, if_neg (by omega), if_pos (by omega), if_neg (by omega), if_neg (by omega), c1, show 56 + n - 1 = 56 + (n - 1) by omega]
  · rw [if_neg c1]
    by_cases c2 : 8 * n ≤ c ∧ c < 8 * n + 8
    · rw [if_pos c2, if_pos (by omega), if_neg (by omega), if_neg (by omega), show 8 * (n - 1) + (c - 8 * n) = c - 8 by omega]
    · rw [if_neg c2]
      by_cases c3 : 8 * (n + 1) ≤ c ∧ c < 8 * (q + 1)
      · rw [if_pos c3, if_pos (by omega)]
      · rw [if_neg c3, if_neg (by omega)]
        by_cases c4 : 56 + n < c ∧ c ≤ 56 + q
        · rw [if_pos c4, if_pos (by omega)]
        · rw [if_neg c4, if_neg (by omega)]
theorem dnE_s {i n c : Int} (hi : 0 ≤ i ∧ i ≤ n) (hn : n ≤ 5) : dnE E i (n + 1) c = cpE (dnE E i n) (n + 1) n c := by
  unfold dnE cpE cpK
  dsimp only
  by_cases c1 : c = 56 + n
  · rw [if_pos c1, if_neg (by omega), if_pos (by omega), if_neg (by omega), if_neg (by omega), c1, show 56 + n + 1 = 56 + (n + 1) by omega]
  · rw [if_neg c1]
    by_cases c2 : 8 * n ≤ c ∧ c < 8 * n + 8
    · rw [if_pos c2, if_pos (by omega), if_neg (by omega), if_neg (by omega), show 8 * (n + 1) + (c - 8 * n) = c + 8 by omega]
    · rw [if_neg c2]
      by_cases c3 : 8 * i ≤ c ∧ c < 8 * n
      · rw [if_pos c3, if_pos (by omega)]
      · rw [if_neg c3, if_neg (by omega)]
        by_cases c4 : 56 + i ≤ c ∧ c < 56 + n
        · rw [if_pos c4, if_pos (by omega)]
        · rw [if_neg c4, if_neg (by omega)]
theorem l141 {i q : Int} (hi : 0 ≤ i) (hq : q ≤ 6) (fin : ∀ u, lQ A (w.1, upE E i q, w.2.2) m u → zw (zf_144_172 xfu 0 1 0 0 i 1 to i u) R) : ∀ (j F : Nat) (n : Int) (s : zS), j < F → n = i + j → n ≤ q → lQ A (w.1, upE E n q, w.2.2) m s → zw (zf_144_141 F 0 1 0 0 i 1 to n s) R := by
  intro j
  induction j with
  | zero =>
    intro F n s hF hn hn2 h
    obtain ⟨F, rfl⟩ : ∃ M, F = M + 1 := ⟨F - 1, by omega⟩
    unfold zf_144_141
    rw [if_neg (by decide), if_pos (by omega)]
    exact fin s (by rw [show i = n by omega]; exact h)
  | succ j ih =>
    intro F n s hF hn hn2 h
    obtain ⟨F, rfl⟩ : ∃ M, F = M + 1 := ⟨F - 1, by omega⟩
    unfold zf_144_141
    rw [if_neg (by decide), if_neg (by omega), zg_ok ⟨by omega, by omega⟩]
    refine zw_C' (l145 h (by omega) (by omega) (by omega)) fun _ u h => ?_
    rw [zg_ok ⟨by omega, by omega⟩, show n + -1 = n - 1 by omega]
    exact ih F (n - 1) u (by omega) (by omega) (by omega) (h.eE fun c => upE_s (by omega) hq)
theorem l172 {i : Int} (hi : 0 ≤ i) (hq : w.2.2 1 ≤ 7) (fin : ∀ u, lQ A (w.1, dnE E i (w.2.2 1 - 1), w.2.2) m u → zw (zf_144_203 0 0 0 i 1 to u) R) : ∀ (j F : Nat) (n : Int) (s : zS), j < F → n + j = w.2.2 1 - 1 → i ≤ n → lQ A (w.1, dnE E i n, w.2.2) m s → zw (zf_144_172 F 0 0 0 0 i 1 to n s) R := by
  intro j
  induction j with
  | zero =>
    intro F n s hF hn hn2 h
    obtain ⟨F, rfl⟩ : ∃ M, F = M + 1 := ⟨F - 1, by omega⟩
    have r0 : _ = w.2.2 1 := h.2.2.1.2.2 1
    unfold zf_144_172
    rw [if_pos rfl, zn_ok (by decide), zg_ok ⟨by omega, by omega⟩, r0, if_pos (by omega)]
    exact fin s (by rw [show w.2.2 1 - 1 = n by omega]; exact h)
  | succ j ih =>
    intro F n s hF hn hn2 h
    obtain ⟨F, rfl⟩ : ∃ M, F = M + 1 := ⟨F - 1, by omega⟩
    have r0 : _ = w.2.2 1 := h.2.2.1.2.2 1
    unfold zf_144_172
    rw [if_pos rfl, zn_ok (by decide), zg_ok ⟨by omega, by omega⟩, r0, if_neg (by omega)]
    refine zw_C' (l145 h (by omega) (by omega) (by omega)) fun _ u h => ?_
    exact ih F (n + 1) u (by omega) (by omega) (by omega) (h.eE fun c => dnE_s (by omega) (by omega))
theorem l247_1 {i bb : Int} (I' : wI w' A') (z : zw (zf_91 0 2 5 i bb s) fun x u => x = w'.2.2 3 ∧ lQ A' w' (m + 1) u) : zw (zf_144_247 0 1 0 2 5 i bb s) (lT (m + 1)) := by
  unfold zf_144_247
  refine zw_C' z fun x u g => ?_
  rw [if_neg (by decide), zn_ok (by decide), g.2.2.2.1.2.2]
  unfold zf_144_265
  rw [if_pos g.1]
  exact zw_z1 ⟨rfl, A', w', I', g.2⟩
theorem l247_0 {i bb : Int} (I : wI w A) (z : zw (zf_91 0 2 5 i bb s) fun x u => x = -1003 ∧ lQ A w (m + 1) u) : zw (zf_144_247 0 0 0 2 5 i bb s) (lT (m + 1)) := by
  unfold zf_144_247
  refine zw_C' z fun x u g => ?_
  rw [if_pos rfl]
  unfold zf_144_265
  rw [if_pos g.1]
  exact zw_z1 ⟨rfl, A, w, I, g.2⟩
/-- the law's numbers behind an edit of elements -/
def wDup (w : wW) (x to : Int) : wW := (w.1, upE w.2.1 x (w.2.2 1), wQ (w.1, w.2.1, fun i => if i = 1 then w.2.2 1 + 1 else w.2.2 i) to)
def wOut (w : wW) (x to : Int) : wW := (w.1, dnE w.2.1 x (w.2.2 1 - 1), wQ (w.1, w.2.1, fun i => if i = 1 then w.2.2 1 + -1 else w.2.2 i) to)
theorem l217 {g i q1 d : Int} (h : lQ A w m s) (b3 : 0 ≤ w.2.2 3 ∧ w.2.2 3 ≤ 100) (bq : -100 ≤ q1 + d ∧ q1 + d ≤ 100) (fin : ∀ u, lQ A (w.1, w.2.1, wQ (w.1, w.2.1, fun i => if i = 1 then q1 + d else w.2.2 i) to) m u → zw (zf_144_233 0 g 0 i 1 u) R) : zw (zf_144_217 0 g 0 i 1 to 0 1 q1 d s) R := by
  unfold zf_144_217
  rw [zg_ok ⟨by omega, by omega⟩, zW_ok (by decide), zW_ok (by decide), zn_ok (by decide)]
  have h1 := h.q (i0 := 1) (v := q1 + d) (Q := fun i => if i = 1 then q1 + d else w.2.2 i) fun i => rfl
  have h2 := h1.q (i0 := 2) (v := to) (Q := fun i => if i = 2 then to else if i = 1 then q1 + d else w.2.2 i) fun i => rfl
  have r3 : _ = w.2.2 3 := h2.2.2.1.2.2 3
  rw [r3, zg_ok ⟨by omega, by omega⟩, zW_ok (by decide)]
  exact fin _ (h2.q (i0 := 3) (v := w.2.2 3 + 1) (Q := wQ (w.1, w.2.1, fun i => if i = 1 then q1 + d else w.2.2 i) to) fun i => rfl)
theorem l_dup (I : wI w A) (h : lQ A w m s) (hx : (x : Int) < w.2.2 1) (h7 : w.2.2 1 < 7) (hr : eRv (wP w x + (1 + w.2.1 (56 + x))) (1 + w.2.1 (56 + x)) 1 (w.2.2 2) ≤ 255) (h29 : w.2.2 3 < 29) : zw (zf_144_128 0 1 0 0 x (eRv (wP w x + (1 + w.2.1 (56 + x))) (1 + w.2.1 (56 + x)) 1 (w.2.2 2)) 1 s) (lT (m + 1)) := by
  obtain ⟨N, hN⟩ := l_fu
  have k2 := I.1.2.1
  have k7 := I.1.2.2.2.2.2.2
  have key := (ed_dup I hx h7).1 (wDup w x (eRv (wP w x + (1 + w.2.1 (56 + x))) (1 + w.2.1 (56 + x)) 1 (w.2.2 2))) hr h29 rfl rfl rfl rfl (fun i => rfl) (fun i hi => ⟨?_, fun k k0 k1 => ?_⟩) (fun i hi hi2 => ⟨?_, fun k k0 k1 => ?_⟩)
  · obtain ⟨A', e, I'⟩ := key
    unfold zf_144_128
    rw [if_neg (by decide), zn_ok (by decide), h.2.2.1.2.2]
    refine l141 (E := w.2.1) (w := w) (m := m) (A := A) (by omega) (by omega) (fun u h => ?_) (w.2.2 1 - x).toNat xfu _ s (pa_fu (by omega)) (by omega) (Int.le_refl _) ?_
    · rw [hN]
      unfold zf_144_172
      rw [if_neg (by decide)]
      unfold zf_144_203
      have r0 : _ = w.2.2 1 := h.2.2.1.2.2 1
      rw [zn_ok (by decide), if_neg (by decide), r0]
      refine l217 h (show 0 ≤ w.2.2 3 ∧ w.2.2 3 ≤ 100 by omega) (by omega) fun u h3 => ?_
      unfold zf_144_233
      rw [if_neg (by decide)]
      exact l247_1 I' (l91_2 h3 I.2.2.2.2.2.2.2.2 (by omega) (Or.inr rfl) e (Or.inl rfl))
    · refine ⟨h.1, h.2.1, ⟨h.2.2.1.1, fun i => ?_, h.2.2.1.2.2⟩, h.2.2.2⟩
      show s.1 577 0 i = upE w.2.1 (w.2.2 1) (w.2.2 1) i
      unfold upE
      rw [if_neg (by omega), if_neg (by omega)]
      exact h.2.2.1.2.1 i
  · show upE w.2.1 x (w.2.2 1) (56 + i) = _
    unfold upE
    rw [if_neg (by omega), if_neg (by omega)]
  · show upE w.2.1 x (w.2.2 1) (8 * i + k) = _
    unfold upE
    rw [if_neg (by omega), if_neg (by omega)]
  · show upE w.2.1 x (w.2.2 1) (56 + ((i + 1 : Nat) : Int)) = _
    unfold upE
    rw [if_neg (by omega), if_pos (by omega), show 56 + ((i + 1 : Nat) : Int) - 1 = 56 + i by omega]
  · show upE w.2.1 x (w.2.2 1) (8 * ((i + 1 : Nat) : Int) + k) = _
    unfold upE
    rw [if_pos (by omega), show 8 * ((i + 1 : Nat) : Int) + k - 8 = 8 * i + k by omega]
theorem l_out (I : wI w A) (h : lQ A w m s) (hx : (x : Int) < w.2.2 1) (h29 : w.2.2 3 < 29) : zw (zf_144_128 0 0 0 0 x (eRv (wP w x) (1 + w.2.1 (56 + x)) 0 (w.2.2 2)) 1 s) (lT (m + 1)) := by
  obtain ⟨N, hN⟩ := l_fu
  have k2 := I.1.2.1
  have k7 := I.1.2.2.2.2.2.2
  have key := (ed_out I hx).1 (wOut w x (eRv (wP w x) (1 + w.2.1 (56 + x)) 0 (w.2.2 2))) h29 rfl rfl rfl rfl (fun i => rfl) (fun i hi => ⟨?_, fun k k0 k1 => ?_⟩) (fun i hi hi2 => ⟨?_, fun k k0 k1 => ?_⟩)
  · obtain ⟨A', e, I'⟩ := key
    unfold zf_144_128
    rw [if_neg (by decide), zn_ok (by decide), hN]
    unfold zf_144_141
    rw [if_pos rfl]
    refine l172 (E := w.2.1) (w := w) (m := m) (A := A) (by omega) (by omega) (fun u h => ?_) (w.2.2 1 - 1 - x).toNat xfu _ s (pa_fu (by omega)) (by omega) (Int.le_refl _) ?_
    · unfold zf_144_203
      have r0 : _ = w.2.2 1 := h.2.2.1.2.2 1
      rw [zn_ok (by decide), if_pos rfl, r0]
      refine l217 h (show 0 ≤ w.2.2 3 ∧ w.2.2 3 ≤ 100 by omega) (by omega) fun u h3 => ?_
      unfold zf_144_233
      rw [if_pos rfl]
      exact l247_1 I' (l91_2 h3 I.2.2.2.2.2.2.2.2 (by omega) (Or.inl rfl) e (Or.inl rfl))
    · refine ⟨h.1, h.2.1, ⟨h.2.2.1.1, fun i => ?_, h.2.2.1.2.2⟩, h.2.2.2⟩
      show s.1 577 0 i = dnE w.2.1 x x i
      unfold dnE
      rw [if_neg (by omega), if_neg (by omega)]
      exact h.2.2.1.2.1 i
  · show dnE w.2.1 x (w.2.2 1 - 1) (56 + i) = _
    unfold dnE
    rw [if_neg (by omega), if_neg (by omega)]
  · show dnE w.2.1 x (w.2.2 1 - 1) (8 * i + k) = _
    unfold dnE
    rw [if_neg (by omega), if_neg (by omega)]
  · show dnE w.2.1 x (w.2.2 1 - 1) (56 + i) = _
    unfold dnE
    rw [if_neg (by omega), if_pos (by omega), show 56 + (i : Int) + 1 = 56 + ((i + 1 : Nat) : Int) by omega]
  · show dnE w.2.1 x (w.2.2 1 - 1) (8 * i + k) = _
    unfold dnE
    rw [if_pos (by omega), show 8 * (i : Int) + k + 8 = 8 * ((i + 1 : Nat) : Int) + k by omega]
theorem l144 {g z : Int} (I : wI w A) (h : lQ A w m s) (hg : g = 0 ∨ g = 1) : zw (zf_144 0 g z 0 0 s) (lT (m + 1)) := by
  have k1 := I.1.1
  have k2 := I.1.2.1
  have k6 := I.1.2.2.2.2.2.1
  have hn := I.1.n
  have ok := I.2.2.2.2.2.2.2.2
  unfold zf_144
  rw [zn_ok (by decide), h.2.2.1.2.2, zg_ok ⟨by omega, by omega⟩]
  obtain ⟨v4, e1, a1, a2⟩ := l90 (s := s) (x := z) (n := w.2.2 1 + 1) (by omega)
  refine lq_p e1 ?_
  obtain ⟨x, rfl⟩ : ∃ x : Nat, v4 = x := ⟨v4.toNat, by omega⟩
  have hb := wP_b I.1 x (by omega)
  have h8 := hb.2
  -- what is refused
  have no : ∀ to : Int, (w.2.2 1 ≤ x ∨ 29 ≤ w.2.2 3 ∨ (g = 1 ∧ w.2.2 1 < 7 ∧ 255 < eRv (wP w x + (1 + w.2.1 (56 + x))) (1 + w.2.1 (56 + x)) 1 (w.2.2 2))) → (g = 1 → w.2.2 1 < 7) → zw (zf_144_128 0 g 0 0 x to 0 s) (lT (m + 1)) := fun to c g7 => by
    unfold zf_144_128
    rw [if_pos rfl]
    unfold zf_144_233
    by_cases cx : w.2.2 1 ≤ x
    · rcases hg with rfl | rfl
      · rw [if_pos rfl]
        exact l247_0 I (l91_2 h ok (by omega) (Or.inl rfl) (ed_noel I cx) (Or.inr ⟨rfl, rfl⟩))
      · rw [if_neg (by decide)]
        exact l247_0 I (l91_2 h ok (by omega) (Or.inr rfl) (ed_noel I cx) (Or.inr ⟨rfl, rfl⟩))
    · rcases hg with rfl | rfl
      · rw [if_pos rfl]
        exact l247_0 I (l91_2 h ok (by omega) (Or.inl rfl) ((ed_out I (x := x) (by omega)).2 (by omega)) (Or.inr ⟨rfl, rfl⟩))
      · rw [if_neg (by decide)]
        exact l247_0 I (l91_2 h ok (by omega) (Or.inr rfl) ((ed_dup I (x := x) (by omega) (g7 rfl)).2 (by omega)) (Or.inr ⟨rfl, rfl⟩))
  have k52 : ∀ cn : Int, (cn = 0 ∧ (w.2.2 1 ≤ x ∨ 29 ≤ w.2.2 3) ∨ cn = 1 ∧ (x : Int) < w.2.2 1 ∧ w.2.2 3 < 29) → (g = 1 → w.2.2 1 < 7) → zw (zf_144_52 0 g 0 0 x cn s) (lT (m + 1)) := fun cn hc g7 => by
    unfold zf_144_52
    refine lq_p (l111 h.2.2.1 I.1 (i := x) (by omega)) ?_
    rw [zn_ok (by decide), h.2.2.1.2.2]
    by_cases cx : w.2.2 1 ≤ x
    · rw [if_pos cx]
      have k100 : ∀ p, 0 ≤ p ∧ p ≤ 200 → zw (zf_144_100 0 g 0 0 x cn 0 p s) (lT (m + 1)) := fun p hp => by
        unfold zf_144_100
        refine lq_p (l134 h.2.2.1 I.1 hp (by decide) hg) ?_
        rcases hc with ⟨rfl, -⟩ | ⟨-, c, -⟩
        · rw [if_pos rfl]
          exact no _ (Or.inl cx) g7
        · omega
      unfold zf_144_84
      rcases hg with rfl | rfl
      · rw [if_pos rfl]
        exact k100 _ (by omega)
      · rw [if_neg (by decide), zg_ok ⟨by omega, by omega⟩]
        exact k100 _ (by omega)
    · have kx := I.1.2.2.1 x (by omega)
      rw [if_neg cx, zg_ok ⟨by omega, by omega⟩, zn_ok (by omega), h.2.2.1.2.1, zg_ok ⟨by omega, by omega⟩]
      unfold zf_144_84
      rcases hg with rfl | rfl
      · rw [if_pos rfl]
        unfold zf_144_100
        refine lq_p (l134 h.2.2.1 I.1 (by omega) (by omega) (Or.inl rfl)) ?_
        have rb := (rv_b (k := 1 + w.2.1 (56 + x)) (p := wP w x) (g := 0) k6 (by omega) (by omega)).2 rfl
        rcases hc with ⟨rfl, c⟩ | ⟨rfl, c1, c2⟩
        · rw [if_pos rfl]
          exact no _ (by omega) g7
        · rw [if_neg (by decide), if_neg (by omega)]
          exact l_out I h c1 c2
      · rw [if_neg (by decide), zg_ok ⟨by omega, by omega⟩]
        unfold zf_144_100
        refine lq_p (l134 h.2.2.1 I.1 (by omega) (by omega) (Or.inr rfl)) ?_
        rcases hc with ⟨rfl, c⟩ | ⟨rfl, c1, c2⟩
        · rw [if_pos rfl]
          exact no _ (by omega) g7
        · rw [if_neg (by decide)]
          by_cases d : 256 ≤ eRv (wP w x + (1 + w.2.1 (56 + x))) (1 + w.2.1 (56 + x)) 1 (w.2.2 2)
          · rw [if_pos d]
            exact no _ (Or.inr (Or.inr ⟨rfl, g7 rfl, by omega⟩)) g7
          · rw [if_neg d]
            exact l_dup I h c1 (g7 rfl) (by omega) c2
  have k35 : ∀ cn : Int, (cn = 0 ∧ (w.2.2 1 ≤ x ∨ 29 ≤ w.2.2 3) ∨ cn = 1 ∧ (x : Int) < w.2.2 1 ∧ w.2.2 3 < 29) → zw (zf_144_35 0 g 0 0 x cn s) (lT (m + 1)) := fun cn hc => by
    unfold zf_144_35
    rcases hg with rfl | rfl
    · rw [if_pos rfl]
      exact k52 cn hc (fun z => absurd z (by decide))
    · rw [if_neg (by decide), zn_ok (by decide), h.2.2.1.2.2]
      by_cases c : w.2.2 1 = 7
      · rw [if_pos c]
        exact zw_z1 ⟨rfl, A, w, I, h.mono (by omega)⟩
      · rw [if_neg c]
        exact k52 cn hc (fun _ => by omega)
  rw [zn_ok (by decide), h.2.2.1.2.2]
  by_cases c : w.2.2 1 ≤ (x : Int)
  · rw [if_pos c]
    exact k35 0 (Or.inl ⟨rfl, Or.inl c⟩)
  · rw [if_neg c, zn_ok (by decide), h.2.2.1.2.2]
    by_cases d : 29 ≤ w.2.2 3
    · rw [if_pos d]
      exact k35 0 (Or.inl ⟨rfl, Or.inr d⟩)
    · rw [if_neg d]
      exact k35 1 (Or.inr ⟨rfl, by omega, by omega⟩)
end
