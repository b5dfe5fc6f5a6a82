/-! THE LAW'S same: all answers are as its numbers tell -/
section
variable {w : wW} {A : aA} {s u : zS} {m M : Nat} {F : zR} {K : Int → zS → zR} {Q : Int → zS → Prop}
def lQ (A : aA) (w : wW) (m : Nat) (s : zS) : Prop := cR A s ∧ cC A s ∧ wS w s ∧ s.2.2 ≤ m
def lR (A : aA) (w : wW) (M : Nat) (r : Int) (u : zS) : Prop := r = 1 ∧ lQ A w M u
theorem lQ.mono (h : lQ A w m s) (hm : m ≤ M) : lQ A w M s := ⟨h.1, h.2.1, h.2.2.1, Nat.le_trans h.2.2.2 hm⟩
theorem lq_c {v : Int} (h : lQ A w m s) (c : cOut F (.inl v) A s) (k : ∀ u, lQ A w (m + 1) u → zw (K v u) Q) : zw (zC F K) Q := by
  obtain ⟨u, e, r, cc, fr, x⟩ := c
  rw [e]
  exact k u ⟨r, cc, h.2.2.1.fr fr, by have := h.2.2.2; omega⟩
theorem lq_p {v : Int} (e : F = zi v s) (k : zw (K v s) Q) : zw (zC F K) Q := by
  rw [e]
  exact k
theorem l116 (I : wI w A) (h : lQ A w m s) {j t v : Int} (j0 : 0 ≤ j) (j1 : j < 9 + 3 * w.2.2 1) (t0 : 0 ≤ t ∧ t ≤ 6) (e : (if t = 6 then 1 else yNs (ndL (A.1 2) (wP w) (w.2.2 0) (wN w)) j (192 + t.toNat)) = v) : cOut (zf_116 0 j t s) (.inl v) A s := by
  have c := C116 (j := j) (w := t) h.1 I.2.2.2.2.2.2.2.2 h.2.1
  have hn := I.1.n
  rw [I.qa.node j0 (by omega) t0, e] at c
  exact c
theorem l128 (I : wI w A) (h : lQ A w m s) {j a2 a3 a4 a5 a6 a7 : Int} (hm : m + 7 ≤ M) (j0 : 0 ≤ j) (j1 : j < 9 + 3 * w.2.2 1) (e0 : yNs (ndL (A.1 2) (wP w) (w.2.2 0) (wN w)) j 192 = a2) (e1 : yNs (ndL (A.1 2) (wP w) (w.2.2 0) (wN w)) j 193 = a3) (e2 : yNs (ndL (A.1 2) (wP w) (w.2.2 0) (wN w)) j 194 = a4) (e3 : yNs (ndL (A.1 2) (wP w) (w.2.2 0) (wN w)) j 195 = a5) (e4 : yNs (ndL (A.1 2) (wP w) (w.2.2 0) (wN w)) j 196 = a6) (e5 : yNs (ndL (A.1 2) (wP w) (w.2.2 0) (wN w)) j 197 = a7) : zw (zf_128 0 j a2 a3 a4 a5 a6 a7 s) (lR A w M) := by
  unfold zf_128
  refine lq_c h (l116 I h j0 j1 (by decide) e0) fun u h => ?_
  rw [if_pos rfl]
  refine lq_c h (l116 I h j0 j1 (by decide) e1) fun u h => ?_
  rw [if_pos rfl]
  refine lq_c h (l116 I h j0 j1 (by decide) e2) fun u h => ?_
  rw [if_pos rfl]
  refine lq_c h (l116 I h j0 j1 (by decide) e3) fun u h => ?_
  rw [if_pos rfl]
  refine lq_c h (l116 I h j0 j1 (by decide) e4) fun u h => ?_
  rw [if_pos rfl]
  refine lq_c h (l116 I h j0 j1 (by decide) e5) fun u h => ?_
  rw [if_pos rfl]
  refine lq_c h (l116 I h j0 j1 (by decide) rfl) fun u h => ?_
  rw [if_pos rfl]
  exact zw_z1 ⟨rfl, h.mono (by omega)⟩
/-- a node is as it should be -/
theorem lnode (I : wI w A) (h : lQ A w m s) {j a2 a3 a4 a5 a6 a7 : Int} (j0 : 0 ≤ j) (j1 : j < 9 + 3 * w.2.2 1) {x : yN} (e : yNs (ndL (A.1 2) (wP w) (w.2.2 0) (wN w)) j = x) (e0 : x 192 = a2) (e1 : x 193 = a3) (e2 : x 194 = a4) (e3 : x 195 = a5) (e4 : x 196 = a6) (e5 : x 197 = a7) (k : ∀ u, lQ A w (m + 7) u → zw (K 1 u) Q) : zw (zC (zf_128 0 j a2 a3 a4 a5 a6 a7 s) K) Q := by
  subst e
  refine zw_C' (l128 I h (Nat.le_refl _) j0 j1 e0 e1 e2 e3 e4 e5) fun v u g => ?_
  rw [g.1]
  exact k u g.2
theorem wI.w112 (I : wI w A) (h : lQ A w m s) {p : Int} (hp : 0 ≤ p ∧ p < wP w (wN w) + 5) : zf_112 p 0 0 0 s = zi (A.1 2 p) s := l112 h.2.2.1 I.1 I.2.1 I.2.2.1 hp
theorem l679 (I : wI w A) {v mk st : Int} (hv : 0 ≤ v ∧ v < 256) (hmk : 0 ≤ mk ∧ mk < 256) (hst : 0 ≤ st ∧ st < 60) : ∀ (d F : Nat) (p due : Int), d < F → (h : lQ A w m s) → (d : Int) = p + 1 - st ∨ (d = 0 ∧ p < st) → (0 ≤ p + 1 ∧ p < A.1 3 0) → due = aFind (A.1 2) v mk (A.1 3 0 - (if p + 1 < st then st else p + 1)).toNat (if p + 1 < st then st else p + 1) → zw (zf_129_679 F 0 0 0 0 1 (6 + 3 * w.2.2 1) v mk st due p s) (lR A w (m + 2)) := by
  have hl := I.len
  have hn := I.1.n
  have h2 := I.1.2.1
  intro d
  induction d with
  | zero =>
    intro F p due hF h hd hp hdue
    obtain ⟨F, rfl⟩ : ∃ M, F = M + 1 := ⟨F - 1, by omega⟩
    have hst1 : (if p + 1 < st then st else p + 1) = st := by
      by_cases c : p + 1 < st
      · rw [if_pos c]
      · rw [if_neg c]
        omega
    rw [hst1] at hdue
    unfold zf_129_679
    rw [if_pos (by omega), if_neg (by decide)]
    have c1 := C121 (v := v) (m := mk) (f := st) h.1 I.2.2.2.2.2.2.2.2 h.2.1
    unfold sFind at c1
    rw [if_pos (by omega), ← hdue] at c1
    refine lq_c h c1 fun u h => ?_
    rw [if_pos rfl, zn_ok (by decide)]
    have hr : A.1 2 (wP w (wN w) + 2) = w.2.2 2 := I.2.1.2.2.2.2.2.1
    have k6 := I.1.2.2.2.2.2.1
    have c2 := C122 (nm := 17) (v := w.2.2 2) (f := 0) h.1 I.2.2.2.2.2.2.2.2 h.2.1
    rw [I.qa.findF hr k6] at c2
    rw [h.2.2.1.2.2]
    refine lq_c h c2 fun u h => ?_
    rw [zg_ok ⟨by omega, by omega⟩, if_pos (by omega)]
    exact zw_z1 ⟨rfl, h⟩
  | succ d ih =>
    intro F p due hF h hd hp hdue
    obtain ⟨F, rfl⟩ : ∃ M, F = M + 1 := ⟨F - 1, by omega⟩
    have hlen := I.2.2.2.1
    unfold zf_129_679
    rw [if_neg (by omega)]
    refine lq_p (I.w112 h (by omega)) ?_
    rw [if_neg (show ¬ p + 1 < st by omega)] at hdue
    have hpp : (if p + -1 + 1 < st then st else p + -1 + 1) = p := by
      rw [if_neg (by omega)]
      omega
    have e : aFind (A.1 2) v mk (A.1 3 0 - p).toNat p = if zand (A.1 2 p) mk = zand v mk then p else aFind (A.1 2) v mk (A.1 3 0 - (p + 1)).toNat (p + 1) := by
      rw [show (A.1 3 0 - p).toNat = (A.1 3 0 - (p + 1)).toNat + 1 by omega]
      rfl
    by_cases c : zand (A.1 2 p) mk = zand v mk
    · rw [if_pos c, zg_ok ⟨by omega, by omega⟩]
      refine ih F (p + -1) p (by omega) h (by omega) (by omega) ?_
      rw [hpp, e, if_pos c]
    · rw [if_neg c, zg_ok ⟨by omega, by omega⟩]
      refine ih F (p + -1) due (by omega) h (by omega) (by omega) ?_
      rw [hpp, e, if_neg c, hdue]
theorem l637 (I : wI w A) (h : lQ A w m s) (hM : m + 2 ≤ M) {z : Int} : zw (zf_129_637 0 z 0 0 0 (A.1 3 0) (6 + 3 * w.2.2 1) 1 s) (lR A w M) := by
  have hl := I.len
  unfold zf_129_637
  obtain ⟨v, e1, v1, v2⟩ := l90 (s := s) (x := z) (n := 256) (by decide)
  obtain ⟨mk, e2, k1, k2⟩ := l90 (s := s) (x := zshr z 8) (n := 256) (by decide)
  obtain ⟨st, e3, t1, t2⟩ := l90 (s := s) (x := zshr z 4) (n := 60) (by decide)
  refine lq_p e1 (lq_p e2 (lq_p e3 ?_))
  rw [zg_ok ⟨by omega, by omega⟩]
  refine (l679 I ⟨v1, v2⟩ ⟨k1, k2⟩ ⟨t1, t2⟩ (A.1 3 0 - st).toNat xfu (A.1 3 0 - 1) (-1) (pa_fu (by omega)) h (by omega) (by omega) ?_).mono fun r u g => ⟨g.1, g.2.mono hM⟩
  by_cases c : A.1 3 0 - 1 + 1 < st
  · rw [if_pos c, show (A.1 3 0 - st).toNat = 0 by omega]
    rfl
  · rw [if_neg c, show (A.1 3 0 - (A.1 3 0 - 1 + 1)).toNat = 0 by omega]
    rfl
theorem wI.refs (I : wI w A) (h : lQ A w m s) : (w.2.2 2 < A.1 3 0 ∧ w.2.2 2 + A.1 2 (w.2.2 2) < A.1 3 0 → cOut (zf_119 0 (8 + 3 * w.2.2 1) s) (.inl (1 + A.1 2 (w.2.2 2))) A s ∧ cOut (zf_120 0 (8 + 3 * w.2.2 1) s) (.inl 1) A s) ∧ (¬ (w.2.2 2 < A.1 3 0 ∧ w.2.2 2 + A.1 2 (w.2.2 2) < A.1 3 0) → cOut (zf_119 0 (8 + 3 * w.2.2 1) s) (.inl (-1)) A s ∧ cOut (zf_120 0 (8 + 3 * w.2.2 1) s) (.inl 0) A s) := by
  have hr : A.1 2 (wP w (wN w) + 2) = w.2.2 2 := I.2.1.2.2.2.2.2.1
  have k6 := I.1.2.2.2.2.2.1
  have hn := I.1.n
  have ok := I.2.2.2.2.2.2.2.2
  obtain ⟨f1, f2⟩ := I.qa.follow ok.2.1.2 hr k6.1
  rw [hn] at f1 f2
  have c1 := C119 (j := 8 + 3 * w.2.2 1) h.1 ok h.2.1
  have c2 := C120 (j := 8 + 3 * w.2.2 1) h.1 ok h.2.1
  constructor
  · intro c
    rw [(f1 c).1] at c1
    rw [(f1 c).2] at c2
    exact ⟨c1, c2⟩
  · intro c
    rw [(f2 c).1] at c1
    rw [(f2 c).2] at c2
    exact ⟨c1, c2⟩
theorem l526 (I : wI w A) (h : lQ A w m s) (hM : m + 4 ≤ M) {z : Int} : zw (zf_129_526 0 z 0 0 0 (A.1 3 0) 1 (6 + 3 * w.2.2 1) s) (lR A w M) := by
  have hl := I.len
  have hlen := I.2.2.2.1
  have k6 := I.1.2.2.2.2.2.1
  have h2 := I.1.2.1
  have by_ := I.2.2.2.2.2.2.2.2.2.1.2
  have hq := h.2.2.1.2.2
  have z2 : ∀ z : zR, zn 2 4 z = z := fun z => zn_ok (by decide)
  -- it does not fit
  have no : ∀ x9 : Int, ¬ (w.2.2 2 < A.1 3 0 ∧ w.2.2 2 + A.1 2 (w.2.2 2) < A.1 3 0) → zw (zf_129_580 0 z 0 0 0 (A.1 3 0) 1 (6 + 3 * w.2.2 1) x9 0 s) (lR A w M) := fun x9 c => by
    unfold zf_129_580
    rw [if_neg (by decide), zg_ok ⟨by omega, by omega⟩, show 6 + 3 * w.2.2 1 + 2 = 8 + 3 * w.2.2 1 by omega]
    refine lq_c h ((I.refs h).2 c).1 fun u h => ?_
    rw [if_pos rfl]
    unfold zf_129_608
    rw [if_pos rfl, zg_ok ⟨by omega, by omega⟩, show 6 + 3 * w.2.2 1 + 2 = 8 + 3 * w.2.2 1 by omega]
    refine lq_c h ((I.refs h).2 c).2 fun u h => ?_
    rw [if_pos rfl]
    unfold zf_129_629
    rw [if_pos rfl]
    exact l637 I h (by omega)
  unfold zf_129_526
  rw [z2, hq]
  by_cases c : A.1 3 0 ≤ w.2.2 2
  · rw [if_pos c]
    unfold zf_129_552
    rw [z2, hq, if_pos c]
    exact no _ (by omega)
  · rw [if_neg c, z2]
    refine lq_p (I.w112 h (by omega)) ?_
    have hb := by_ (w.2.2 2) k6.1 (by omega)
    unfold zf_129_552
    rw [z2, hq, if_neg c, z2, zg_ok ⟨by omega, by omega⟩]
    by_cases d : A.1 3 0 ≤ w.2.2 2 + A.1 2 (w.2.2 2)
    · rw [if_pos d]
      exact no _ (by omega)
    · rw [if_neg d]
      have yes : w.2.2 2 < A.1 3 0 ∧ w.2.2 2 + A.1 2 (w.2.2 2) < A.1 3 0 := by omega
      unfold zf_129_580
      rw [if_neg (by decide), zg_ok ⟨by omega, by omega⟩, show 6 + 3 * w.2.2 1 + 2 = 8 + 3 * w.2.2 1 by omega]
      refine lq_c h ((I.refs h).1 yes).1 fun u h => ?_
      rw [if_neg (by decide), zg_ok ⟨by omega, by omega⟩]
      unfold zf_129_608
      rw [if_pos rfl, zg_ok ⟨by omega, by omega⟩, show 6 + 3 * w.2.2 1 + 2 = 8 + 3 * w.2.2 1 by omega]
      refine lq_c h ((I.refs h).1 yes).2 fun u h => ?_
      rw [if_neg (by decide)]
      unfold zf_129_629
      rw [if_pos rfl]
      exact l637 I h (by omega)
theorem l381 (I : wI w A) {z : Int} : ∀ (d F i m : Nat) (s : zS), d < F → i + d = wN w → lQ A w m s → m + 21 * d + 4 ≤ M → zw (zf_129_381 F 0 z 0 0 0 (A.1 3 0) 1 (6 + 3 * w.2.2 1) i s) (lR A w M) := by
  have hl := I.len
  have hlen := I.2.2.2.1
  have hn := I.1.n
  have h2 := I.1.2.1
  intro d
  induction d with
  | zero =>
    intro F i m s hF hi h hM
    obtain ⟨F, rfl⟩ : ∃ M, F = M + 1 := ⟨F - 1, by omega⟩
    unfold zf_129_381
    rw [zn_ok (by decide), h.2.2.1.2.2, if_pos (by omega)]
    exact l526 I h (by omega)
  | succ d ih =>
    intro F i m s hF hi h hM
    obtain ⟨F, rfl⟩ : ∃ M, F = M + 1 := ⟨F - 1, by omega⟩
    have hi1 : (i : Int) < w.2.2 1 := by omega
    have hE := I.1.2.2.1 i hi1
    have hb := wP_b I.1 i (by omega)
    have k1 := I.1.1
    obtain ⟨n1, n2, n3⟩ := nd_e (B := A.1 2) (P := wP w) (a := w.2.2 0) (N := wN w) (j := i) (by omega)
    obtain ⟨b1, b2⟩ := I.2.1.2.2.2.2.1 i hi1
    unfold zf_129_381
    rw [zn_ok (by decide), h.2.2.1.2.2, if_neg (by omega), if_neg (by decide)]
    refine lq_p (l111 h.2.2.1 I.1 (i := i) (by omega)) ?_
    rw [zg_ok ⟨by omega, by omega⟩, zn_ok (by omega), zg_ok ⟨by omega, by omega⟩, zg_ok ⟨by omega, by omega⟩, h.2.2.1.2.1, zg_ok ⟨by omega, by omega⟩]
    refine lnode I h (by omega) (by omega) n1 rfl rfl rfl (by rw [← b1]; rfl) rfl rfl fun u h => ?_
    rw [if_neg (by decide), zg_ok ⟨by omega, by omega⟩]
    refine lnode I h (by omega) (by omega) n2 rfl rfl rfl rfl (by rw [← b1]; rfl) rfl fun u h => ?_
    rw [if_neg (by decide)]
    have fin : ∀ v : Int, (if A.1 2 (wP w i) = 0 then -1 else A.1 2 (wP w i + 1)) = v → zw (zf_129_500 (fun y0 y1 y2 y3 y4 y5 y6 y7 y8 y => zf_129_381 F y0 y1 y2 y3 y4 y5 y6 y7 y8 y) 0 z 0 0 0 (A.1 3 0) (6 + 3 * w.2.2 1) i 0 (8 + 3 * i) 5 21 (wP w i + 1) (w.2.1 (56 + i)) v u) (lR A w M) := fun v hv => by
      unfold zf_129_500
      rw [zg_ok ⟨by omega, by omega⟩, zg_ok ⟨by omega, by omega⟩]
      refine lnode I h (by omega) (by omega) n3 rfl rfl rfl (by rw [← b1]; rfl) hv rfl fun u h => ?_
      rw [if_neg (by decide), zg_ok ⟨by omega, by omega⟩, show (i : Int) + 1 = ((i + 1 : Nat) : Int) by omega]
      exact ih F (i + 1) _ u (by omega) (by omega) h (by omega)
    by_cases c : w.2.1 (56 + i) = 0
    · rw [if_pos c, zg_ok ⟨by omega, by omega⟩, zg_ok ⟨by omega, by omega⟩]
      exact fin _ (by rw [b1, if_pos c])
    · rw [if_neg c, zg_ok ⟨by omega, by omega⟩, zn_ok (by omega), zg_ok ⟨by omega, by omega⟩, zg_ok ⟨by omega, by omega⟩]
      refine fin _ ?_
      have e := b2 0 (by decide) (by omega)
      rw [Int.add_zero, Int.add_zero] at e
      rw [b1, if_neg c, e, h.2.2.1.2.1]
theorem l147 (I : wI w A) (h : lQ A w m s) (hM : m + 67 + 147 ≤ M) {z : Int} : zw (zf_129_147 0 z 0 0 0 (wP w (wN w)) (A.1 3 0) 1 s) (lR A w M) := by
  have hs := h.2.2.1
  have hl := I.len
  have hlen := I.2.2.2.1
  have hn := I.1.n
  have h2 := I.1.2.1
  have k1 := I.1.1
  have k6 := I.1.2.2.2.2.2.1
  have hb := wP_b I.1 (wN w) (Nat.le_refl _)
  obtain ⟨b0, b1, b2, b3, b4, b5, b6, b7⟩ := I.2.1
  obtain ⟨n1, n2, n3⟩ := nd_l (B := A.1 2) (P := wP w) (a := w.2.2 0) (N := wN w)
  rw [hn] at n1 n2 n3
  unfold zf_129_147
  rw [zn_ok (by decide), if_neg (by decide), zg_ok ⟨by omega, by omega⟩]
  refine lnode I h (by omega) (by omega) nd0 rfl rfl rfl rfl rfl rfl fun u h => ?_
  rw [if_neg (by decide)]
  refine lnode I h (by omega) (by omega) nd1 rfl rfl rfl rfl b0 rfl fun u h => ?_
  rw [if_neg (by decide), zn_ok (by decide), h.2.2.1.2.2]
  refine lnode I h (by omega) (by omega) nd2 rfl rfl rfl rfl b1 rfl fun u h => ?_
  rw [if_neg (by decide), zn_ok (by decide), h.2.2.1.2.2]
  refine lnode I h (by omega) (by omega) nd3 rfl rfl rfl rfl b2 rfl fun u h => ?_
  rw [if_neg (by decide), zn_ok (by decide), zn_ok (by decide), h.2.2.1.2.2]
  have fin : ∀ v : Int, (if w.2.2 0 = 0 then -1 else A.1 2 3) = v → zw (zf_129_255 0 z 0 0 0 (wP w (wN w)) (A.1 3 0) (6 + 3 * w.2.2 1) 0 4 5 3 3 (w.2.2 0) v u) (lR A w M) := fun v hv => by
    unfold zf_129_255
    refine lnode I h (by omega) (by omega) nd4 rfl rfl rfl rfl hv rfl fun u h => ?_
    rw [if_neg (by decide), zn_ok (by decide), zn_ok (by decide), zn_ok (by decide), h.2.2.1.2.2, zg_ok ⟨by omega, by omega⟩, zg_ok ⟨by omega, by omega⟩, zg_ok ⟨by omega, by omega⟩, h.2.2.1.2.2]
    refine lnode I h (by omega) (by omega) nd5 rfl rfl rfl (show wP w (wN w) - (3 + w.2.2 0) = wP w (wN w) - 3 - w.2.2 0 by omega) hn rfl fun u h => ?_
    rw [if_neg (by decide)]
    refine lq_p (I.w112 h (by omega)) ?_
    refine lnode I h (by omega) (by omega) n1 rfl rfl rfl rfl rfl rfl fun u h => ?_
    rw [if_neg (by decide), zg_ok ⟨by omega, by omega⟩]
    refine lq_p (I.w112 h (by omega)) ?_
    rw [zg_ok ⟨by omega, by omega⟩, show 6 + 3 * w.2.2 1 + 1 = 7 + 3 * w.2.2 1 by omega]
    refine lnode I h (by omega) (by omega) n2 rfl rfl rfl rfl rfl rfl fun u h => ?_
    rw [if_neg (by decide), zn_ok (by decide), zg_ok ⟨by omega, by omega⟩, zg_ok ⟨by omega, by omega⟩, show 6 + 3 * w.2.2 1 + 2 = 8 + 3 * w.2.2 1 by omega, h.2.2.1.2.2]
    refine lnode I h (by omega) (by omega) n3 rfl rfl rfl rfl b5 rfl fun u h => ?_
    rw [if_neg (by decide)]
    exact l381 I (wN w) xfu 0 _ u (pa_fu (by omega)) (by omega) h (by omega)
  by_cases c : w.2.2 0 = 0
  · rw [if_pos c, hs.2.2, zg_ok ⟨by omega, by omega⟩, zg_ok ⟨by omega, by omega⟩]
    exact fin _ (if_pos c)
  · rw [if_neg c, zn_ok (by decide), hs.2.2, zg_ok ⟨by omega, by omega⟩, zg_ok ⟨by omega, by omega⟩, h.2.2.1.1]
    refine fin _ ?_
    have e := b3 0 (by decide) (by omega)
    rw [Int.add_zero] at e
    rw [if_neg c, e]
theorem l104 (I : wI w A) {z : Int} : ∀ (d F : Nat) (p : Int) (m : Nat) (s : zS), d < F → p + d = A.1 3 0 → 0 ≤ p → lQ A w m s → m + d + 67 + 147 ≤ M → zw (zf_129_104 F 0 z 0 0 0 (wP w (wN w)) (A.1 3 0) 1 p s) (lR A w M) := by
  have hl := I.len
  have hlen := I.2.2.2.1
  intro d
  induction d with
  | zero =>
    intro F p m s hF hp p0 h hM
    obtain ⟨F, rfl⟩ : ∃ M, F = M + 1 := ⟨F - 1, by omega⟩
    unfold zf_129_104
    rw [if_pos (by omega)]
    exact l147 I h (by omega)
  | succ d ih =>
    intro F p m s hF hp p0 h hM
    obtain ⟨F, rfl⟩ : ∃ M, F = M + 1 := ⟨F - 1, by omega⟩
    unfold zf_129_104
    rw [if_neg (by omega), if_neg (by decide)]
    have c := C109 (p := p) h.1 I.2.2.2.2.2.2.2.2 h.2.1
    unfold sByteAt at c
    rw [if_pos (by omega)] at c
    refine lq_c h c fun u h => ?_
    refine lq_p (I.w112 h (by omega)) ?_
    rw [if_pos rfl, zg_ok ⟨by omega, by omega⟩]
    exact ih F (p + 1) _ u (by omega) (by omega) (by omega) h (by omega)
theorem l129 (I : wI w A) (h : lQ A w m s) (hM : m + 400 ≤ M) {z : Int} : zw (zf_129 0 z 0 0 0 s) (lR A w M) := by
  have hl := I.len
  have hlen := I.2.2.2.1
  have hn := I.1.n
  have h2 := I.1.2.1
  have k1 := I.1.1
  have hb := wP_b I.1 (wN w) (Nat.le_refl _)
  have ok := I.2.2.2.2.2.2.2.2
  have q := I.qa
  unfold zf_129
  rw [zn_ok (by decide), h.2.2.1.2.2, ← hn]
  refine lq_p (l111 h.2.2.1 I.1 (Nat.le_refl _)) ?_
  refine lq_c h (C108 h.1 h.2.1) fun u h => ?_
  rw [zg_ok ⟨by omega, by omega⟩, if_pos hlen]
  refine lq_c h (C110 h.1 h.2.1) fun u h => ?_
  rw [zn_ok (by decide), h.2.2.1.2.2, if_pos I.2.2.2.2.2.2.2.1]
  refine lq_c h (C113 h.1 ok h.2.1) fun u h => ?_
  rw [if_pos q.ch]
  refine lq_c h (by have c := C114 (t := 0) (o := 0) h.1 ok h.2.1; rw [q.fault.1] at c; exact c) fun u h => ?_
  rw [if_pos rfl]
  refine lq_c h (by have c := C114 (t := 0) (o := 1) h.1 ok h.2.1; rw [q.fault.2] at c; exact c) fun u h => ?_
  rw [if_pos rfl]
  refine lq_c h (C117 h.1 ok h.2.1) fun u h => ?_
  rw [if_pos q.wrong]
  refine lq_c h (C118 h.1 ok h.2.1) fun u h => ?_
  rw [if_pos q.wrong]
  refine lq_c h (C115 h.1 ok h.2.1) fun u h => ?_
  rw [zn_ok (by decide), h.2.2.1.2.2, zg_ok ⟨by omega, by omega⟩, zg_ok ⟨by omega, by omega⟩, if_pos (by have := q.ln; unfold aLn at this; omega), ← hlen]
  exact l104 I (A.1 3 0).toNat xfu 0 _ u (pa_fu (by omega)) (by omega) (by decide) h (by omega)
end
