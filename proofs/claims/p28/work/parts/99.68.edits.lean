/-! WHAT HOLDS BETWEEN TURNS, and that each edit keeps it -/
section
variable {w w' : wW} {A : aA} {B M F Z : yB} {pl v rv q k : Int}
theorem wB_c (K : wK w) (b : wB w F) (e : ∀ i, i ≠ wP w (wN w) → i ≠ wP w (wN w) + 1 → Z i = F i) : wB w Z := by
  have Y := wLY K b
  have hn := K.n
  obtain ⟨b0, b1, b2, b3, b4, b5, b6, b7⟩ := id b
  have h0 := (Y.b (i := 0) (Nat.zero_le _)).1
  have h1 := (Y.b (i := 0) (Nat.zero_le _)).2.1
  have h2 : wP w 0 = 3 + w.2.2 0 := rfl
  have k0 := K.1
  refine ⟨?_, ?_, ?_, fun j j0 j1 => ?_, fun i hi => ?_, ?_, ?_, ?_⟩
  · rw [e _ (by omega) (by omega), b0]
  · rw [e _ (by omega) (by omega), b1]
  · rw [e _ (by omega) (by omega), b2]
  · rw [e _ (by omega) (by omega), b3 j j0 j1]
  · obtain ⟨e1, e2⟩ := b4 i hi
    have p1 := wP_le K b (i := i) (j := wN w) (by omega) (Nat.le_refl _)
    have p4 := K.2.2.1 i hi
    refine ⟨?_, fun k k0 k1 => ?_⟩
    · rw [e _ (by omega) (by omega), e1]
    · rw [e _ (by omega) (by omega), e2 k k0 k1]
  · rw [e _ (by omega) (by omega), b5]
  · rw [e _ (by omega) (by omega), b6]
  · rw [e _ (by omega) (by omega), b7]
/-- in which element a place lies -/
theorem wP_in (K : wK w) (b : wB w B) {p : Int} (h0 : wP w 0 ≤ p) : ∀ m : Nat, m ≤ wN w → p < wP w m → ∃ i : Nat, i < m ∧ wP w i ≤ p ∧ p ≤ wP w i + w.2.1 (56 + i)
  | 0, _, h => by omega
  | m + 1, hm, h => by
    by_cases c : p < wP w m
    · obtain ⟨i, i1, i2⟩ := wP_in K b h0 m (by omega) c
      exact ⟨i, by omega, i2⟩
    · have h : p < wP w m + 1 + w.2.1 (56 + m) := h
      exact ⟨m, by omega, by omega, by omega⟩
/-- every place of the file is one of these -/
theorem w_cases (K : wK w) (b : wB w B) {p : Int} (h0 : 0 ≤ p) (h1 : p < wP w (wN w) + 5) : (p = 0 ∨ p = 1 ∨ p = 2) ∨ (3 ≤ p ∧ p < 3 + w.2.2 0) ∨ (∃ i : Nat, (i : Int) < w.2.2 1 ∧ wP w i ≤ p ∧ p ≤ wP w i + w.2.1 (56 + i)) ∨ (wP w (wN w) ≤ p) := by
  have hn := K.n
  by_cases c1 : p < 3
  · left
    omega
  by_cases c2 : p < 3 + w.2.2 0
  · right
    left
    omega
  by_cases c3 : p < wP w (wN w)
  · right
    right
    left
    have h2 : wP w 0 = 3 + w.2.2 0 := rfl
    obtain ⟨i, i1, i2⟩ := wP_in K b (p := p) (by omega) (wN w) (Nat.le_refl _) c3
    exact ⟨i, by omega, i2⟩
  · right
    right
    right
    omega
theorem yCut8 : 0 ≤ yCut v 8 ∧ yCut v 8 ≤ 255 := by
  unfold yCut
  rw [show zshl 1 8 - 1 = 255 by decide]
  exact zand255
theorem w_bytes (K : wK w) (b : wB w B) (s : LSm B (wP w) (w.2.2 0) (wN w)) : ∀ p, 0 ≤ p → p < wP w (wN w) + 5 → 0 ≤ B p ∧ B p ≤ 255 := fun p h0 h1 => by
  have Y := wLY K b
  have hn := K.n
  obtain ⟨b0, b1, b2, b3, b4, b5, b6, b7⟩ := id b
  obtain ⟨k1, k2, k3, k4, k5, k6, k7⟩ := id K
  rcases w_cases K b h0 h1 with (rfl | rfl | rfl) | ⟨c1, c2⟩ | ⟨i, hi, c1, c2⟩ | c
  · omega
  · omega
  · omega
  · have e := b3 (p - 3) (by omega) (by omega)
    rw [show 3 + (p - 3) = p by omega] at e
    rw [e]
    exact k4 _ (by omega) (by omega)
  · obtain ⟨e1, e2⟩ := b4 i hi
    by_cases c : p = wP w i
    · have := k3 i hi
      rw [c, e1]
      omega
    · have e := e2 (p - (wP w i + 1)) (by omega) (by omega)
      rw [show wP w i + 1 + (p - (wP w i + 1)) = p by omega] at e
      rw [e]
      exact k5 i hi _ (by omega) (by omega)
  · have d : p = wP w (wN w) ∨ p = wP w (wN w) + 1 ∨ p = wP w (wN w) + 2 ∨ p = wP w (wN w) + 3 ∨ p = wP w (wN w) + 4 := by omega
    rcases d with rfl | rfl | rfl | rfl | rfl
    · rw [s.1]
      exact yCut8
    · rw [s.2]
      exact yCut8
    · rw [b5]
      exact k6
    · omega
    · omega
/-- the file is the one that the law's numbers tell -/
def wI (w : wW) (A : aA) : Prop := wK w ∧ wB w (A.1 2) ∧ LSm (A.1 2) (wP w) (w.2.2 0) (wN w) ∧ A.1 3 0 = wP w (wN w) + 5 ∧ A.1 522 0 = 1 ∧ tpH (A.2 0) ∧ A.1 387 0 = w.2.2 3 + 1 ∧ A.1 388 0 = w.2.2 3 ∧ aOK A
theorem wI.qa (I : wI w A) : qA A (wP w) (w.2.2 0) (wN w) := by
  obtain ⟨i1, i2, i3, i4, i5, i6, i7, i8, i9⟩ := I
  exact ⟨i5, i6, i4 ▸ wLY i1 i2, i3⟩
/-- what an edit comes to, whose bytes are those of w' -/
theorem fin_ok (I : wI w A) (K' : wK w') (b' : wB w' F) (h3 : w'.2.2 3 = w.2.2 3 + 1) (h29 : w.2.2 3 < 29) : ∃ A', sFin A F (wP w' (wN w') + 5) = (.inl (w'.2.2 3), A') ∧ wI w' A' := by
  have Q := I.qa
  obtain ⟨i1, i2, i3, i4, i5, i6, i7, i8, i9⟩ := I
  have Y := wLY K' b'
  obtain ⟨Z, e, l, s, z⟩ := ED i6 Y
  have bZ : wB w' Z := wB_c K' b' z
  have hb := (l.b (i := 0) (Nat.zero_le _))
  refine ⟨aKeep (aFil A Z (wP w' (wN w') + 5)), ?_, K', ?_⟩
  · unfold sFin
    rw [if_pos (by omega), Q.ct, e, i7, h3]
  have ok1 : aOK (aFil A Z (wP w' (wN w') + 5)) := aOK_fil i9 (by have := K'.1; omega) (w_bytes K' bZ s)
  have e2 : (aKeep (aFil A Z (wP w' (wN w') + 5))).1 2 = Z := by
    funext i
    rw [aKeep_o (by decide) (by decide) (by decide) (by decide) (by decide)]
    rfl
  rw [e2]
  refine ⟨bZ, s, ?_, ?_, i6, ?_, ?_, aOK_keep ok1 ?_⟩
  · rw [aKeep_o (by decide) (by decide) (by decide) (by decide) (by decide)]
    rfl
  · rw [aKeep_o (by decide) (by decide) (by decide) (by decide) (by decide)]
    exact i5
  · show A.1 387 0 + 1 = w'.2.2 3 + 1
    omega
  · show A.1 387 0 = w'.2.2 3
    omega
  · show A.1 387 0 < 30
    omega
/-- there are 30 states -/
theorem fin_no (I : wI w A) (h29 : 29 ≤ w.2.2 3) {n : Int} : sFin A F n = (.inr 1, A) := by
  obtain ⟨i1, i2, i3, i4, i5, i6, i7, i8, i9⟩ := I
  unfold sFin
  rw [if_neg (by omega)]
theorem rv_b {p g r : Int} (h : 0 ≤ r ∧ r ≤ 255) (hp : 0 ≤ p) (hk : 0 ≤ k) : 0 ≤ eRv p k g r ∧ (g = 0 → eRv p k g r ≤ 255) := by
  unfold eRv
  split
  · split
    · split <;> omega
    · omega
  · split
    · omega
    · omega
/-- what is written ahead of an edit, in the law's own numbers -/
theorem wI.ma (I : wI w A) {J i0 p g e : Int} (hJ : tlN (wN w) J i0) (hp : 0 ≤ p) (hk : 0 ≤ k) (hv : 0 ≤ tlV (A.1 2) (wP w) (w.2.2 0) (wN w) J k g e) (ho : yNs (ndL (A.1 2) (wP w) (w.2.2 0) (wN w)) i0 194 ≠ wP w (wN w) + 2) : mvP w (A.1 2) (eMa A J p k g e) (eRv p k g (w.2.2 2)) (yNs (ndL (A.1 2) (wP w) (w.2.2 0) (wN w)) i0 194) (tlV (A.1 2) (wP w) (w.2.2 0) (wN w) J k g e) ∧ eFa A J p k g e = if 255 < eRv p k g (w.2.2 2) then 0 else 1 := by
  have Q := I.qa
  obtain ⟨i1, i2, i3, i4, i5, i6, i7, i8, i9⟩ := I
  have Y := wLY i1 i2
  have hr : A.1 2 (wP w (wN w) + 2) = w.2.2 2 := i2.2.2.2.2.2.1
  have m := mv_e (p := p) (k := k) (g := g) (e := e) i6 Y hJ (by rw [hr]; exact (rv_b i1.2.2.2.2.2.1 hp hk).1) hv
  rw [hr] at m
  have f := fg_e (p := p) (k := k) (g := g) (e := e) i6 Y hJ
  rw [hr] at f
  unfold eMa eFa
  rw [Q.ct, Q.nn, Q.ln, m, f]
  refine ⟨⟨if_pos rfl, ?_, fun i c1 c2 => ?_⟩, rfl⟩
  · dsimp only
    rw [if_neg ho, if_pos rfl]
  · dsimp only
    rw [if_neg c1, if_neg c2]
end
