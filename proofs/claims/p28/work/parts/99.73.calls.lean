/-! THE LAW'S calls and what its writes into its own arrays leave -/
section
variable {w w' : wW} {A A' : aA} {s u : zS} {m M : Nat} {F : zR} {K : Int → zS → zR} {Q R : Int → zS → Prop} {a b c v : Int} {r : Int ⊕ Nat}
theorem lQ.of {m : Nat} (h : lQ A w m s) (r : cR A' u) (c : cC A' u) (f : cFr s u) (x : u.2.2 ≤ s.2.2 + 1) : lQ A' w (m + 1) u := ⟨r, c, h.2.2.1.fr f, by have := h.2.2.2; omega⟩
theorem l91_0 (h : lQ A w m s) (ok : aOK A) (e : sInsert a b c A = (r, A')) (hr : r = .inl v ∨ r = .inr 1 ∧ v = -1003) : zw (zf_91 0 0 a b c s) fun x u => x = v ∧ lQ A' w (m + 1) u := by
  have cc : cOut (zf_124 0 a b c s) r A' s := by
    have := C124 (j := a) (p := b) (v := c) h.1 ok h.2.1
    rw [e] at this
    exact this
  obtain ⟨u, e1, r1, c1, f1, x1⟩ := cc
  unfold zf_91
  rw [if_pos rfl, e1]
  rcases hr with rfl | ⟨rfl, rfl⟩
  · exact ⟨v, u, rfl, rfl, h.of r1 c1 f1 x1⟩
  · exact ⟨-1003, u, rfl, rfl, h.of r1 c1 f1 x1⟩
theorem l91_1 (h : lQ A w m s) (ok : aOK A) (e : sRemove a b A = (r, A')) (hr : r = .inl v ∨ r = .inr 1 ∧ v = -1003) : zw (zf_91 0 1 a b c s) fun x u => x = v ∧ lQ A' w (m + 1) u := by
  have cc : cOut (zf_125 0 a b s) r A' s := by
    have := C125 (j := a) (p := b) h.1 ok h.2.1
    rw [e] at this
    exact this
  obtain ⟨u, e1, r1, c1, f1, x1⟩ := cc
  unfold zf_91
  rw [if_neg (by decide), if_pos rfl, e1]
  rcases hr with rfl | ⟨rfl, rfl⟩
  · exact ⟨v, u, rfl, rfl, h.of r1 c1 f1 x1⟩
  · exact ⟨-1003, u, rfl, rfl, h.of r1 c1 f1 x1⟩
theorem l91_2 (h : lQ A w m s) (ok : aOK A) (hb : b ≤ 2147483647) (hc : c = 0 ∨ c = 1) (e : sElement a b c A = (r, A')) (hr : r = .inl v ∨ r = .inr 1 ∧ v = -1003) : zw (zf_91 0 2 a b c s) fun x u => x = v ∧ lQ A' w (m + 1) u := by
  have cc : cOut (zf_126 0 a b c s) r A' s := by
    have := C126 (J := a) (p := b) (b := c) h.1 ok h.2.1 hb
    rw [e] at this
    exact this
  obtain ⟨u, e1, r1, c1, f1, x1⟩ := cc
  have k : zw (zf_91_48 0 a b c s) fun x u => x = v ∧ lQ A' w (m + 1) u := by
    unfold zf_91_48
    rw [e1]
    rcases hr with rfl | ⟨rfl, rfl⟩
    · exact ⟨v, u, rfl, rfl, h.of r1 c1 f1 x1⟩
    · exact ⟨-1003, u, rfl, rfl, h.of r1 c1 f1 x1⟩
  unfold zf_91
  rw [if_neg (by decide), if_neg (by decide), if_pos rfl]
  rcases hc with rfl | rfl
  · rw [if_neg (by decide)]
    exact k
  · rw [if_pos rfl]
    exact k
theorem l91_3 (h : lQ A w m s) (ok : aOK A) (e : sSet a b A = (r, A')) (hr : r = .inl v ∨ r = .inr 1 ∧ v = -1003) : zw (zf_91 0 3 a b c s) fun x u => x = v ∧ lQ A' w (m + 1) u := by
  have cc : cOut (zf_123 0 a b s) r A' s := by
    have := C123 (j := a) (v := b) h.1 ok h.2.1
    rw [e] at this
    exact this
  obtain ⟨u, e1, r1, c1, f1, x1⟩ := cc
  unfold zf_91
  rw [if_neg (by decide), if_neg (by decide), if_neg (by decide), if_pos rfl, e1]
  rcases hr with rfl | ⟨rfl, rfl⟩
  · exact ⟨v, u, rfl, rfl, h.of r1 c1 f1 x1⟩
  · exact ⟨-1003, u, rfl, rfl, h.of r1 c1 f1 x1⟩
theorem l91_4 (h : lQ A w m s) (ok : aOK A) (e : sRepair A = (r, A')) (hr : r = .inl v ∨ r = .inr 1 ∧ v = -1003) : zw (zf_91 0 4 a b c s) fun x u => x = v ∧ lQ A' w (m + 1) u := by
  have cc : cOut (zf_127 0 s) r A' s := by
    have := C127 h.1 ok h.2.1
    rw [e] at this
    exact this
  obtain ⟨u, e1, r1, c1, f1, x1⟩ := cc
  unfold zf_91
  rw [if_neg (by decide), if_neg (by decide), if_neg (by decide), if_neg (by decide), e1]
  rcases hr with rfl | ⟨rfl, rfl⟩
  · exact ⟨v, u, rfl, rfl, h.of r1 c1 f1 x1⟩
  · exact ⟨-1003, u, rfl, rfl, h.of r1 c1 f1 x1⟩
/-! writes -/
theorem lQ.d (h : lQ A w m s) {i0 v : Int} {D : Int → Int} (e : ∀ i, D i = if i = i0 then v else w.1 i) : lQ A (D, w.2) m (zp 576 0 i0 v s) := by
  refine ⟨h.1.fr (mFr.rf.pw (by decide)), h.2.1.fr (mFr.rf.pw (by decide)), ⟨fun i => ?_, fun i => (zp_nk (by decide)).trans (h.2.2.1.2.1 i), fun i => (zp_nk (by decide)).trans (h.2.2.1.2.2 i)⟩, h.2.2.2⟩
  show (zp 576 0 i0 v s).1 576 0 i = D i
  rw [e]
  by_cases c : i = i0
  · rw [if_pos c, c, zp_eq]
  · rw [if_neg c, zp_ni c]
    exact h.2.2.1.1 i
theorem lQ.e (h : lQ A w m s) {i0 v : Int} {E : Int → Int} (e : ∀ i, E i = if i = i0 then v else w.2.1 i) : lQ A (w.1, E, w.2.2) m (zp 577 0 i0 v s) := by
  refine ⟨h.1.fr (mFr.rf.pw (by decide)), h.2.1.fr (mFr.rf.pw (by decide)), ⟨fun i => (zp_nk (by decide)).trans (h.2.2.1.1 i), fun i => ?_, fun i => (zp_nk (by decide)).trans (h.2.2.1.2.2 i)⟩, h.2.2.2⟩
  show (zp 577 0 i0 v s).1 577 0 i = E i
  rw [e]
  by_cases c : i = i0
  · rw [if_pos c, c, zp_eq]
  · rw [if_neg c, zp_ni c]
    exact h.2.2.1.2.1 i
theorem lQ.q (h : lQ A w m s) {i0 v : Int} {Q : Int → Int} (e : ∀ i, Q i = if i = i0 then v else w.2.2 i) : lQ A (w.1, w.2.1, Q) m (zp 578 0 i0 v s) := by
  refine ⟨h.1.fr (mFr.rf.pw (by decide)), h.2.1.fr (mFr.rf.pw (by decide)), ⟨fun i => (zp_nk (by decide)).trans (h.2.2.1.1 i), fun i => (zp_nk (by decide)).trans (h.2.2.1.2.1 i), fun i => ?_⟩, h.2.2.2⟩
  show (zp 578 0 i0 v s).1 578 0 i = Q i
  rw [e]
  by_cases c : i = i0
  · rw [if_pos c, c, zp_eq]
  · rw [if_neg c, zp_ni c]
    exact h.2.2.1.2.2 i
/-- a turn's edit has been: all is as the law's numbers tell -/
def lT (M : Nat) (x : Int) (u : zS) : Prop := x = 1 ∧ ∃ (A' : aA) (w' : wW), wI w' A' ∧ lQ A' w' M u
/-- the numbers behind an edit: the reference, one state more -/
def wQ (w : wW) (to : Int) : Int → Int := fun i => if i = 3 then w.2.2 3 + 1 else if i = 2 then to else w.2.2 i
/-! strings -/
theorem l455_1 {nd pl k : Int} (I' : wI w' A') (z : zw (zf_91 0 k nd pl v s) fun x u => x = w'.2.2 3 ∧ lQ A' w' (m + 1) u) : zw (zf_143_455 0 nd pl v 1 0 k s) (lT (m + 1)) := by
  unfold zf_143_455
  refine zw_C' z fun x u g => ?_
  rw [if_neg (by decide), zn_ok (by decide), g.2.2.2.1.2.2]
  unfold zf_143_479
  rw [if_pos g.1]
  exact zw_z1 ⟨rfl, A', w', I', g.2⟩
theorem l455_0 {nd pl k : Int} (I : wI w A) (z : zw (zf_91 0 k nd pl v s) fun x u => x = -1003 ∧ lQ A w (m + 1) u) : zw (zf_143_455 0 nd pl v 0 0 k s) (lT (m + 1)) := by
  unfold zf_143_455
  refine zw_C' z fun x u g => ?_
  rw [if_pos rfl]
  unfold zf_143_479
  rw [if_pos g.1]
  exact zw_z1 ⟨rfl, A, w, I, g.2⟩
theorem l431 {g nd pl cn to : Int} (h : lQ A w m s) (b3 : 0 ≤ w.2.2 3 ∧ w.2.2 3 ≤ 100) (fin : ∀ u, lQ A (w.1, w.2.1, wQ w to) m u → zw (zf_143_445 0 g 0 nd pl v cn u) R) : zw (zf_143_431 0 g 0 nd pl v cn to s) R := by
  unfold zf_143_431
  rw [zW_ok (by decide), zn_ok (by decide)]
  have h1 := h.q (i0 := 2) (v := to) (Q := fun i => if i = 2 then to else w.2.2 i) fun i => rfl
  have e3 : (zp 578 0 2 to s).1 578 0 3 = w.2.2 3 := (zp_ni (by decide)).trans (h.2.2.1.2.2 3)
  rw [e3, zg_ok ⟨by omega, by omega⟩, zW_ok (by decide)]
  exact fin _ (h1.q (i0 := 3) (v := w.2.2 3 + 1) (Q := wQ w to) fun i => rfl)
/-- cells lo + 1 .. hi from b on get what stood one place ahead -/
def shU (D : Int → Int) (b lo hi : Int) : Int → Int := fun i => if b + lo < i ∧ i ≤ b + hi then D (i - 1) else D i
/-- cells lo .. hi - 1 from b on get what stood one place behind -/
def shD (D : Int → Int) (b lo hi : Int) : Int → Int := fun i => if b + lo ≤ i ∧ i < b + hi then D (i + 1) else D i
theorem shU_0 {D : Int → Int} {b k i : Int} : shU D b k k i = D i := if_neg (by omega)
theorem shD_0 {D : Int → Int} {b k i : Int} : shD D b k k i = D i := if_neg (by omega)
theorem shU_s {D : Int → Int} {b k hi i : Int} (hk : k ≤ hi) : shU D b (k - 1) hi i = if i = b + k then shU D b k hi (b + k - 1) else shU D b k hi i := by
  unfold shU
  by_cases c : i = b + k
  · rw [if_pos c, if_pos (by omega), if_neg (by omega), c]
  · rw [if_neg c]
    by_cases d : b + k < i ∧ i ≤ b + hi
    · rw [if_pos d, if_pos (by omega)]
    · rw [if_neg d, if_neg (by omega)]
theorem shD_s {D : Int → Int} {b k lo i : Int} (hk : lo ≤ k) : shD D b lo (k + 1) i = if i = b + k then shD D b lo k (b + k + 1) else shD D b lo k i := by
  unfold shD
  by_cases c : i = b + k
  · rw [if_pos c, if_pos (by omega), if_neg (by omega), c]
  · rw [if_neg c]
    by_cases d : b + lo ≤ i ∧ i < b + k
    · rw [if_pos d, if_pos (by omega)]
    · rw [if_neg d, if_neg (by omega)]
end
