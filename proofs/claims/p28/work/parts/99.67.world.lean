/-! THE LAW'S OWN NUMBERS (its arrays d, e, q), the bytes that they tell, and what edits make of both -/
abbrev wW : Type := (Int → Int) × (Int → Int) × (Int → Int)
/-- where element i begins -/
def wP (w : wW) : Nat → Int
  | 0 => 3 + w.2.2 0
  | i + 1 => wP w i + 1 + w.2.1 (56 + i)
def wN (w : wW) : Nat := (w.2.2 1).toNat
def wK (w : wW) : Prop := (0 ≤ w.2.2 0 ∧ w.2.2 0 ≤ 20) ∧ (0 ≤ w.2.2 1 ∧ w.2.2 1 ≤ 7) ∧ (∀ i : Nat, (i : Int) < w.2.2 1 → 0 ≤ w.2.1 (56 + i) ∧ w.2.1 (56 + i) ≤ 7) ∧ (∀ j, 0 ≤ j → j < w.2.2 0 → 0 ≤ w.1 j ∧ w.1 j ≤ 255) ∧ (∀ i : Nat, (i : Int) < w.2.2 1 → ∀ k, 0 ≤ k → k < w.2.1 (56 + i) → 0 ≤ w.2.1 (8 * i + k) ∧ w.2.1 (8 * i + k) ≤ 255) ∧ (0 ≤ w.2.2 2 ∧ w.2.2 2 ≤ 255) ∧ (0 ≤ w.2.2 3 ∧ w.2.2 3 ≤ 29)
/-- the bytes are those, but for the sums -/
def wB (w : wW) (B : yB) : Prop := B 0 = 77 ∧ B 1 = w.2.2 0 ∧ B 2 = w.2.2 1 ∧ (∀ j, 0 ≤ j → j < w.2.2 0 → B (3 + j) = w.1 j) ∧ (∀ i : Nat, (i : Int) < w.2.2 1 → B (wP w i) = w.2.1 (56 + i) ∧ ∀ k, 0 ≤ k → k < w.2.1 (56 + i) → B (wP w i + 1 + k) = w.2.1 (8 * i + k)) ∧ B (wP w (wN w) + 2) = w.2.2 2 ∧ B (wP w (wN w) + 3) = 200 ∧ B (wP w (wN w) + 4) = 201
section
variable {w w' : wW} {B M F : yB} {pl v rv q k : Int}
theorem wK.n (K : wK w) : ((wN w : Nat) : Int) = w.2.2 1 := by
  have h := K.2.1
  unfold wN
  omega
theorem wLY (K : wK w) (b : wB w B) : LY B (wP w) (w.2.2 0) (wN w) (wP w (wN w) + 5) := by
  obtain ⟨b0, b1, b2, b3, b4, b5, b6, b7⟩ := b
  have hn := K.n
  refine ⟨rfl, b0, b1, b2.trans hn.symm, K.1, by have := K.2.1; omega, fun j hj => ?_, rfl⟩
  obtain ⟨e1, e2⟩ := b4 j (by omega)
  rw [e1]
  exact ⟨rfl, K.2.2.1 j (by omega)⟩
theorem eIns_l {i : Int} (h : i < q) : eIns M q v i = M i := if_pos h
theorem eIns_q : eIns M q v q = v := by
  unfold eIns
  rw [if_neg (by omega), if_pos rfl]
theorem eIns_g {i : Int} (h : q < i) : eIns M q v i = M (i - 1) := by
  unfold eIns
  rw [if_neg (by omega), if_neg (by omega)]
theorem eRem_l {i : Int} (h : i < q) : eRem M q k i = M i := if_pos h
theorem eRem_g {i : Int} (h : q ≤ i) : eRem M q k i = M (i + k) := if_neg (by omega)
theorem eDbl_l {i : Int} (h : i < q) : eDbl M q k i = M i := if_pos h
theorem eDbl_g {i : Int} (h : q ≤ i) : eDbl M q k i = M (i - k) := if_neg (by omega)
/-- M is B but for the reference and one more place -/
def mvP (w : wW) (B M : yB) (rv o v : Int) : Prop := M (wP w (wN w) + 2) = rv ∧ M o = v ∧ ∀ i, i ≠ wP w (wN w) + 2 → i ≠ o → M i = B i
/-- a byte comes into d -/
theorem wB_insD (K : wK w) (b : wB w B) (m : mvP w B M rv 1 (w.2.2 0 + 1)) (hp : 0 ≤ pl ∧ pl ≤ w.2.2 0) (r0 : w'.2.2 0 = w.2.2 0 + 1) (r1 : w'.2.2 1 = w.2.2 1) (r2 : w'.2.2 2 = rv) (rE : ∀ i, w'.2.1 i = w.2.1 i) (d1 : ∀ j, 0 ≤ j → j < pl → w'.1 j = w.1 j) (d2 : w'.1 pl = v) (d3 : ∀ j, pl < j → j ≤ w.2.2 0 → w'.1 j = w.1 (j - 1)) : wB w' (eIns M (3 + pl) v) ∧ wP w' (wN w') = wP w (wN w) + 1 := by
  have Y := wLY K b
  have hn := K.n
  obtain ⟨b0, b1, b2, b3, b4, b5, b6, b7⟩ := id b
  obtain ⟨m1, m2, m3⟩ := m
  have hP : ∀ i : Nat, wP w' i = wP w i + 1 := fun i => by
    induction i with
    | zero =>
      show 3 + w'.2.2 0 = 3 + w.2.2 0 + 1
      omega
    | succ i ih =>
      show wP w' i + 1 + w'.2.1 (56 + i) = wP w i + 1 + w.2.1 (56 + i) + 1
      rw [ih, rE]
      omega
  have hN : wN w' = wN w := by
    unfold wN
    rw [r1]
  have h0 := (Y.b (i := 0) (Nat.zero_le _)).1
  have h1 := (Y.b (i := 0) (Nat.zero_le _)).2.1
  have k0 := K.1
  refine ⟨⟨?_, ?_, ?_, fun j j0 j1 => ?_, fun i hi => ?_, ?_, ?_, ?_⟩, ?_⟩
  · rw [eIns_l (by omega), m3 _ (by omega) (by omega), b0]
  · rw [eIns_l (by omega), m2, r0]
  · rw [eIns_l (by omega), m3 _ (by omega) (by omega), b2, r1]
  · rw [r0] at j1
    by_cases c : j < pl
    · rw [eIns_l (by omega), m3 _ (by omega) (by omega), d1 j j0 c, b3 j j0 (by omega)]
    · by_cases c2 : j = pl
      · rw [c2, eIns_q, d2]
      · rw [eIns_g (by omega), m3 _ (by omega) (by omega), d3 j (by omega) (by omega), ← b3 (j - 1) (by omega) (by omega), show 3 + j - 1 = 3 + (j - 1) by omega]
  · rw [r1] at hi
    obtain ⟨e1, e2⟩ := b4 i hi
    have p1 := Y.b (i := i) (by omega)
    have p2 := Y.b (i := i + 1) (by omega)
    have p3 : wP w (i + 1) = wP w i + 1 + w.2.1 (56 + i) := rfl
    have p4 := K.2.2.1 i hi
    rw [hP, rE]
    refine ⟨?_, fun k k0 k1 => ?_⟩
    · rw [eIns_g (by omega), m3 _ (by omega) (by omega), show wP w i + 1 - 1 = wP w i by omega, e1]
    · rw [rE, eIns_g (by omega), m3 _ (by omega) (by omega), show wP w i + 1 + 1 + k - 1 = wP w i + 1 + k by omega, e2 k k0 k1]
  · rw [hN, hP, eIns_g (by omega), show wP w (wN w) + 1 + 2 - 1 = wP w (wN w) + 2 by omega, m1, r2]
  · rw [hN, hP, eIns_g (by omega), show wP w (wN w) + 1 + 3 - 1 = wP w (wN w) + 3 by omega, m3 _ (by omega) (by omega), b6]
  · rw [hN, hP, eIns_g (by omega), show wP w (wN w) + 1 + 4 - 1 = wP w (wN w) + 4 by omega, m3 _ (by omega) (by omega), b7]
  · rw [hN, hP]
/-- a byte goes from d -/
theorem wB_remD (K : wK w) (b : wB w B) (m : mvP w B M rv 1 (w.2.2 0 - 1)) (hp : 0 ≤ pl ∧ pl < w.2.2 0) (r0 : w'.2.2 0 = w.2.2 0 - 1) (r1 : w'.2.2 1 = w.2.2 1) (r2 : w'.2.2 2 = rv) (rE : ∀ i, w'.2.1 i = w.2.1 i) (d1 : ∀ j, 0 ≤ j → j < pl → w'.1 j = w.1 j) (d3 : ∀ j, pl ≤ j → j + 1 < w.2.2 0 → w'.1 j = w.1 (j + 1)) : wB w' (eRem M (3 + pl) 1) ∧ wP w' (wN w') = wP w (wN w) - 1 := by
  have Y := wLY K b
  have hn := K.n
  obtain ⟨b0, b1, b2, b3, b4, b5, b6, b7⟩ := id b
  obtain ⟨m1, m2, m3⟩ := m
  have hP : ∀ i : Nat, wP w' i = wP w i - 1 := fun i => by
    induction i with
    | zero =>
      show 3 + w'.2.2 0 = 3 + w.2.2 0 - 1
      omega
    | succ i ih =>
      show wP w' i + 1 + w'.2.1 (56 + i) = wP w i + 1 + w.2.1 (56 + i) - 1
      rw [ih, rE]
      omega
  have hN : wN w' = wN w := by
    unfold wN
    rw [r1]
  have h0 := (Y.b (i := 0) (Nat.zero_le _)).1
  have h1 := (Y.b (i := 0) (Nat.zero_le _)).2.1
  have k0 := K.1
  refine ⟨⟨?_, ?_, ?_, fun j j0 j1 => ?_, fun i hi => ?_, ?_, ?_, ?_⟩, ?_⟩
  · rw [eRem_l (by omega), m3 _ (by omega) (by omega), b0]
  · rw [eRem_l (by omega), m2, r0]
  · rw [eRem_l (by omega), m3 _ (by omega) (by omega), b2, r1]
  · rw [r0] at j1
    by_cases c : j < pl
    · rw [eRem_l (by omega), m3 _ (by omega) (by omega), d1 j j0 c, b3 j j0 (by omega)]
    · rw [eRem_g (by omega), m3 _ (by omega) (by omega), d3 j (by omega) (by omega), ← b3 (j + 1) (by omega) (by omega), show 3 + j + 1 = 3 + (j + 1) by omega]
  · rw [r1] at hi
    obtain ⟨e1, e2⟩ := b4 i hi
    have p1 := Y.b (i := i) (by omega)
    have p2 := Y.b (i := i + 1) (by omega)
    have p3 : wP w (i + 1) = wP w i + 1 + w.2.1 (56 + i) := rfl
    have p4 := K.2.2.1 i hi
    rw [hP, rE]
    refine ⟨?_, fun k k0 k1 => ?_⟩
    · rw [eRem_g (by omega), m3 _ (by omega) (by omega), show wP w i - 1 + 1 = wP w i by omega, e1]
    · rw [rE, eRem_g (by omega), m3 _ (by omega) (by omega), show wP w i - 1 + 1 + k + 1 = wP w i + 1 + k by omega, e2 k k0 k1]
  · rw [hN, hP, eRem_g (by omega), show wP w (wN w) - 1 + 2 + 1 = wP w (wN w) + 2 by omega, m1, r2]
  · rw [hN, hP, eRem_g (by omega), show wP w (wN w) - 1 + 3 + 1 = wP w (wN w) + 3 by omega, m3 _ (by omega) (by omega), b6]
  · rw [hN, hP, eRem_g (by omega), show wP w (wN w) - 1 + 4 + 1 = wP w (wN w) + 4 by omega, m3 _ (by omega) (by omega), b7]
  · rw [hN, hP]
/-- the order of places -/
theorem wP_le (K : wK w) (b : wB w B) {i j : Nat} (h : i < j) (hj : j ≤ wN w) : wP w i + 1 + w.2.1 (56 + i) ≤ wP w j := by
  have Y := wLY K b
  have h1 := Y.le (i := i + 1) (j := j) h hj
  have p3 : wP w (i + 1) = wP w i + 1 + w.2.1 (56 + i) := rfl
  omega
/-- a byte comes into element x -/
theorem wB_insE (K : wK w) (b : wB w B) {x : Nat} (hx : (x : Int) < w.2.2 1) (m : mvP w B M rv (wP w x) (w.2.1 (56 + x) + 1)) (hp : 0 ≤ pl ∧ pl ≤ w.2.1 (56 + x)) (r0 : w'.2.2 0 = w.2.2 0) (r1 : w'.2.2 1 = w.2.2 1) (r2 : w'.2.2 2 = rv) (rD : ∀ i, w'.1 i = w.1 i) (l1 : w'.2.1 (56 + x) = w.2.1 (56 + x) + 1) (l2 : ∀ i : Nat, i ≠ x → (i : Int) < w.2.2 1 → w'.2.1 (56 + i) = w.2.1 (56 + i)) (e0 : ∀ i : Nat, i ≠ x → (i : Int) < w.2.2 1 → ∀ k, 0 ≤ k → k < 8 → w'.2.1 (8 * i + k) = w.2.1 (8 * i + k)) (d1 : ∀ j, 0 ≤ j → j < pl → w'.2.1 (8 * x + j) = w.2.1 (8 * x + j)) (d2 : w'.2.1 (8 * x + pl) = v) (d3 : ∀ j, pl < j → j ≤ w.2.1 (56 + x) → w'.2.1 (8 * x + j) = w.2.1 (8 * x + (j - 1))) : wB w' (eIns M (wP w x + 1 + pl) v) ∧ wP w' (wN w') = wP w (wN w) + 1 := by
  have Y := wLY K b
  have hn := K.n
  obtain ⟨b0, b1, b2, b3, b4, b5, b6, b7⟩ := id b
  obtain ⟨m1, m2, m3⟩ := m
  have hP1 : ∀ i : Nat, i ≤ x → wP w' i = wP w i := fun i => by
    induction i with
    | zero =>
      intro _
      show 3 + w'.2.2 0 = 3 + w.2.2 0
      omega
    | succ i ih =>
      intro hi
      show wP w' i + 1 + w'.2.1 (56 + i) = wP w i + 1 + w.2.1 (56 + i)
      rw [ih (by omega), l2 i (by omega) (by omega)]
  have hP2 : ∀ i : Nat, x < i → i ≤ wN w → wP w' i = wP w i + 1 := fun i => by
    induction i with
    | zero =>
      intro hi
      omega
    | succ i ih =>
      intro hi hi2
      show wP w' i + 1 + w'.2.1 (56 + i) = wP w i + 1 + w.2.1 (56 + i) + 1
      by_cases c : i = x
      · subst c
        rw [hP1 i (Nat.le_refl _), l1]
        omega
      · rw [ih (by omega) (by omega), l2 i c (by omega)]
        omega
  have hN : wN w' = wN w := by
    unfold wN
    rw [r1]
  have hx2 : x < wN w := by omega
  have h0 := Y.b (i := x) (by omega)
  have h1 := Y.b (i := x + 1) (by omega)
  have h2 : wP w (x + 1) = wP w x + 1 + w.2.1 (56 + x) := rfl
  have k0 := K.1
  have kx := K.2.2.1 x hx
  refine ⟨⟨?_, ?_, ?_, fun j j0 j1 => ?_, fun i hi => ?_, ?_, ?_, ?_⟩, ?_⟩
  · rw [eIns_l (by omega), m3 _ (by omega) (by omega), b0]
  · rw [eIns_l (by omega), m3 _ (by omega) (by omega), b1, r0]
  · rw [eIns_l (by omega), m3 _ (by omega) (by omega), b2, r1]
  · rw [r0] at j1
    rw [eIns_l (by omega), m3 _ (by omega) (by omega), rD, b3 j j0 j1]
  · rw [r1] at hi
    obtain ⟨e1, e2⟩ := b4 i hi
    have p1 := Y.b (i := i) (by omega)
    have p2 := Y.b (i := i + 1) (by omega)
    have p3 : wP w (i + 1) = wP w i + 1 + w.2.1 (56 + i) := rfl
    have p4 := K.2.2.1 i hi
    by_cases c : i = x
    · subst c
      rw [hP1 i (Nat.le_refl _), l1]
      refine ⟨?_, fun k k0 k1 => ?_⟩
      · rw [eIns_l (by omega), m2]
      · by_cases c : k < pl
        · rw [eIns_l (by omega), m3 _ (by omega) (by omega), d1 k k0 c, e2 k k0 (by omega)]
        · by_cases c2 : k = pl
          · rw [c2, eIns_q, d2]
          · rw [eIns_g (by omega), m3 _ (by omega) (by omega), d3 k (by omega) (by omega), ← e2 (k - 1) (by omega) (by omega), show wP w i + 1 + k - 1 = wP w i + 1 + (k - 1) by omega]
    · rw [l2 i c hi]
      by_cases d : i < x
      · have o := wP_le K b d (by omega)
        rw [hP1 i (by omega)]
        refine ⟨?_, fun k k0 k1 => ?_⟩
        · rw [eIns_l (by omega), m3 _ (by omega) (by omega), e1]
        · rw [e0 i c hi k k0 (by omega), eIns_l (by omega), m3 _ (by omega) (by omega), e2 k k0 k1]
      · have o := wP_le K b (i := x) (j := i) (by omega) (by omega)
        rw [hP2 i (by omega) (by omega)]
        refine ⟨?_, fun k k0 k1 => ?_⟩
        · rw [eIns_g (by omega), m3 _ (by omega) (by omega), show wP w i + 1 - 1 = wP w i by omega, e1]
        · rw [e0 i c hi k k0 (by omega), eIns_g (by omega), m3 _ (by omega) (by omega), show wP w i + 1 + 1 + k - 1 = wP w i + 1 + k by omega, e2 k k0 k1]
  · rw [hN, hP2 _ hx2 (Nat.le_refl _), eIns_g (by omega), show wP w (wN w) + 1 + 2 - 1 = wP w (wN w) + 2 by omega, m1, r2]
  · rw [hN, hP2 _ hx2 (Nat.le_refl _), eIns_g (by omega), show wP w (wN w) + 1 + 3 - 1 = wP w (wN w) + 3 by omega, m3 _ (by omega) (by omega), b6]
  · rw [hN, hP2 _ hx2 (Nat.le_refl _), eIns_g (by omega), show wP w (wN w) + 1 + 4 - 1 = wP w (wN w) + 4 by omega, m3 _ (by omega) (by omega), b7]
  · rw [hN, hP2 _ hx2 (Nat.le_refl _)]
/-- a byte goes from element x -/
theorem wB_remE (K : wK w) (b : wB w B) {x : Nat} (hx : (x : Int) < w.2.2 1) (m : mvP w B M rv (wP w x) (w.2.1 (56 + x) - 1)) (hp : 0 ≤ pl ∧ pl < w.2.1 (56 + x)) (r0 : w'.2.2 0 = w.2.2 0) (r1 : w'.2.2 1 = w.2.2 1) (r2 : w'.2.2 2 = rv) (rD : ∀ i, w'.1 i = w.1 i) (l1 : w'.2.1 (56 + x) = w.2.1 (56 + x) - 1) (l2 : ∀ i : Nat, i ≠ x → (i : Int) < w.2.2 1 → w'.2.1 (56 + i) = w.2.1 (56 + i)) (e0 : ∀ i : Nat, i ≠ x → (i : Int) < w.2.2 1 → ∀ k, 0 ≤ k → k < 8 → w'.2.1 (8 * i + k) = w.2.1 (8 * i + k)) (d1 : ∀ j, 0 ≤ j → j < pl → w'.2.1 (8 * x + j) = w.2.1 (8 * x + j)) (d3 : ∀ j, pl ≤ j → j + 1 < w.2.1 (56 + x) → w'.2.1 (8 * x + j) = w.2.1 (8 * x + (j + 1))) : wB w' (eRem M (wP w x + 1 + pl) 1) ∧ wP w' (wN w') = wP w (wN w) - 1 := by
  have Y := wLY K b
  have hn := K.n
  obtain ⟨b0, b1, b2, b3, b4, b5, b6, b7⟩ := id b
  obtain ⟨m1, m2, m3⟩ := m
  have hP1 : ∀ i : Nat, i ≤ x → wP w' i = wP w i := fun i => by
    induction i with
    | zero =>
      intro _
      show 3 + w'.2.2 0 = 3 + w.2.2 0
      omega
    | succ i ih =>
      intro hi
      show wP w' i + 1 + w'.2.1 (56 + i) = wP w i + 1 + w.2.1 (56 + i)
      rw [ih (by omega), l2 i (by omega) (by omega)]
  have hP2 : ∀ i : Nat, x < i → i ≤ wN w → wP w' i = wP w i - 1 := fun i => by
    induction i with
    | zero =>
      intro hi
      omega
    | succ i ih =>
      intro hi hi2
      show wP w' i + 1 + w'.2.1 (56 + i) = wP w i + 1 + w.2.1 (56 + i) - 1
      by_cases c : i = x
      · subst c
        rw [hP1 i (Nat.le_refl _), l1]
        omega
      · rw [ih (by omega) (by omega), l2 i c (by omega)]
        omega
  have hN : wN w' = wN w := by
    unfold wN
    rw [r1]
  have hx2 : x < wN w := by omega
  have h0 := Y.b (i := x) (by omega)
  have h1 := Y.b (i := x + 1) (by omega)
  have h2 : wP w (x + 1) = wP w x + 1 + w.2.1 (56 + x) := rfl
  have k0 := K.1
  have kx := K.2.2.1 x hx
  refine ⟨⟨?_, ?_, ?_, fun j j0 j1 => ?_, fun i hi => ?_, ?_, ?_, ?_⟩, ?_⟩
  · rw [eRem_l (by omega), m3 _ (by omega) (by omega), b0]
  · rw [eRem_l (by omega), m3 _ (by omega) (by omega), b1, r0]
  · rw [eRem_l (by omega), m3 _ (by omega) (by omega), b2, r1]
  · rw [r0] at j1
    rw [eRem_l (by omega), m3 _ (by omega) (by omega), rD, b3 j j0 j1]
  · rw [r1] at hi
    obtain ⟨e1, e2⟩ := b4 i hi
    have p1 := Y.b (i := i) (by omega)
    have p2 := Y.b (i := i + 1) (by omega)
    have p3 : wP w (i + 1) = wP w i + 1 + w.2.1 (56 + i) := rfl
    have p4 := K.2.2.1 i hi
    by_cases c : i = x
    · subst c
      rw [hP1 i (Nat.le_refl _), l1]
      refine ⟨?_, fun k k0 k1 => ?_⟩
      · rw [eRem_l (by omega), m2]
      · by_cases c : k < pl
        · rw [eRem_l (by omega), m3 _ (by omega) (by omega), d1 k k0 c, e2 k k0 (by omega)]
        · rw [eRem_g (by omega), m3 _ (by omega) (by omega), d3 k (by omega) (by omega), ← e2 (k + 1) (by omega) (by omega), show wP w i + 1 + k + 1 = wP w i + 1 + (k + 1) by omega]
    · rw [l2 i c hi]
      by_cases d : i < x
      · have o := wP_le K b d (by omega)
        rw [hP1 i (by omega)]
        refine ⟨?_, fun k k0 k1 => ?_⟩
        · rw [eRem_l (by omega), m3 _ (by omega) (by omega), e1]
        · rw [e0 i c hi k k0 (by omega), eRem_l (by omega), m3 _ (by omega) (by omega), e2 k k0 k1]
      · have o := wP_le K b (i := x) (j := i) (by omega) (by omega)
        rw [hP2 i (by omega) (by omega)]
        refine ⟨?_, fun k k0 k1 => ?_⟩
        · rw [eRem_g (by omega), m3 _ (by omega) (by omega), show wP w i - 1 + 1 = wP w i by omega, e1]
        · rw [e0 i c hi k k0 (by omega), eRem_g (by omega), m3 _ (by omega) (by omega), show wP w i - 1 + 1 + k + 1 = wP w i + 1 + k by omega, e2 k k0 k1]
  · rw [hN, hP2 _ hx2 (Nat.le_refl _), eRem_g (by omega), show wP w (wN w) - 1 + 2 + 1 = wP w (wN w) + 2 by omega, m1, r2]
  · rw [hN, hP2 _ hx2 (Nat.le_refl _), eRem_g (by omega), show wP w (wN w) - 1 + 3 + 1 = wP w (wN w) + 3 by omega, m3 _ (by omega) (by omega), b6]
  · rw [hN, hP2 _ hx2 (Nat.le_refl _), eRem_g (by omega), show wP w (wN w) - 1 + 4 + 1 = wP w (wN w) + 4 by omega, m3 _ (by omega) (by omega), b7]
  · rw [hN, hP2 _ hx2 (Nat.le_refl _)]
/-- element x is doubled -/
theorem wB_dup (K : wK w) (b : wB w B) {x : Nat} (hx : (x : Int) < w.2.2 1) (m : mvP w B M rv 2 (w.2.2 1 + 1)) (hk : k = 1 + w.2.1 (56 + x)) (r0 : w'.2.2 0 = w.2.2 0) (r1 : w'.2.2 1 = w.2.2 1 + 1) (r2 : w'.2.2 2 = rv) (rD : ∀ i, w'.1 i = w.1 i) (l1 : ∀ i : Nat, i ≤ x → w'.2.1 (56 + i) = w.2.1 (56 + i) ∧ ∀ k, 0 ≤ k → k < 8 → w'.2.1 (8 * i + k) = w.2.1 (8 * i + k)) (l2 : ∀ i : Nat, x ≤ i → (i : Int) < w.2.2 1 → w'.2.1 (56 + ((i + 1 : Nat) : Int)) = w.2.1 (56 + i) ∧ ∀ k, 0 ≤ k → k < 8 → w'.2.1 (8 * ((i + 1 : Nat) : Int) + k) = w.2.1 (8 * i + k)) : wB w' (eDbl M (wP w x + k) k) ∧ wP w' (wN w') = wP w (wN w) + k := by
  have Y := wLY K b
  have hn := K.n
  obtain ⟨b0, b1, b2, b3, b4, b5, b6, b7⟩ := id b
  obtain ⟨m1, m2, m3⟩ := m
  have hP1 : ∀ i : Nat, i ≤ x → wP w' i = wP w i := fun i => by
    induction i with
    | zero =>
      intro _
      show 3 + w'.2.2 0 = 3 + w.2.2 0
      omega
    | succ i ih =>
      intro hi
      show wP w' i + 1 + w'.2.1 (56 + i) = wP w i + 1 + w.2.1 (56 + i)
      rw [ih (by omega), (l1 i (by omega)).1]
  have hP2 : ∀ i : Nat, x ≤ i → i ≤ wN w → wP w' (i + 1) = wP w i + k := fun i => by
    induction i with
    | zero =>
      intro hi hi2
      show wP w' 0 + 1 + w'.2.1 (56 + ((0 : Nat) : Int)) = _
      have hx0 : x = 0 := by omega
      subst hx0
      rw [hP1 0 (Nat.le_refl _), (l1 0 (Nat.le_refl _)).1, hk]
      omega
    | succ i ih =>
      intro hi hi2
      show wP w' (i + 1) + 1 + w'.2.1 (56 + ((i + 1 : Nat) : Int)) = _
      by_cases c : i + 1 = x
      · subst c
        rw [hP1 _ (Nat.le_refl _), (l1 _ (Nat.le_refl _)).1, hk]
        omega
      · rw [ih (by omega) (by omega), (l2 i (by omega) (by omega)).1]
        show _ = wP w i + 1 + w.2.1 (56 + i) + k
        omega
  have hN : wN w' = wN w + 1 := by
    unfold wN
    have := K.2.1
    omega
  have hx2 : x < wN w := by omega
  have h0 := Y.b (i := x) (by omega)
  have h1 := Y.b (i := x + 1) (by omega)
  have h2 : wP w (x + 1) = wP w x + 1 + w.2.1 (56 + x) := rfl
  have k0 := K.1
  have kx := K.2.2.1 x hx
  have hE : wP w' (wN w') = wP w (wN w) + k := by
    rw [hN, hP2 _ (by omega) (Nat.le_refl _)]
  refine ⟨⟨?_, ?_, ?_, fun j j0 j1 => ?_, fun i hi => ?_, ?_, ?_, ?_⟩, hE⟩
  · rw [eDbl_l (by omega), m3 _ (by omega) (by omega), b0]
  · rw [eDbl_l (by omega), m3 _ (by omega) (by omega), b1, r0]
  · rw [eDbl_l (by omega), m2, r1]
  · rw [r0] at j1
    rw [eDbl_l (by omega), m3 _ (by omega) (by omega), rD, b3 j j0 j1]
  · rw [r1] at hi
    by_cases d : i ≤ x
    · obtain ⟨e1, e2⟩ := b4 i (by omega)
      have p1 := Y.b (i := i) (by omega)
      have p2 := Y.b (i := i + 1) (by omega)
      have p3 : wP w (i + 1) = wP w i + 1 + w.2.1 (56 + i) := rfl
      have p4 := K.2.2.1 i (by omega)
      have o : wP w i + 1 + w.2.1 (56 + i) ≤ wP w x + k := by
        by_cases c : i = x
        · subst c
          omega
        · have := wP_le K b (i := i) (j := x) (by omega) (by omega)
          omega
      rw [hP1 i d, (l1 i d).1]
      refine ⟨?_, fun k k0 k1 => ?_⟩
      · rw [eDbl_l (by omega), m3 _ (by omega) (by omega), e1]
      · rw [(l1 i d).2 k k0 (by omega), eDbl_l (by omega), m3 _ (by omega) (by omega), e2 k k0 k1]
    · obtain ⟨j, rfl⟩ : ∃ j, i = j + 1 := ⟨i - 1, by omega⟩
      obtain ⟨e1, e2⟩ := b4 j (by omega)
      have p1 := Y.b (i := j) (by omega)
      have p2 := Y.b (i := j + 1) (by omega)
      have p3 : wP w (j + 1) = wP w j + 1 + w.2.1 (56 + j) := rfl
      have p4 := K.2.2.1 j (by omega)
      have o : wP w x ≤ wP w j := by
        have := Y.le (i := x) (j := j) (by omega) (by omega)
        omega
      rw [hP2 j (by omega) (by omega), (l2 j (by omega) (by omega)).1]
      refine ⟨?_, fun z k0 k1 => ?_⟩
      · rw [eDbl_g (by omega), m3 _ (by omega) (by omega), show wP w j + k - k = wP w j by omega, e1]
      · rw [(l2 j (by omega) (by omega)).2 z k0 (by omega), eDbl_g (by omega), m3 _ (by omega) (by omega), show wP w j + k + 1 + z - k = wP w j + 1 + z by omega, e2 z k0 k1]
  · rw [hE, eDbl_g (by omega), show wP w (wN w) + k + 2 - k = wP w (wN w) + 2 by omega, m1, r2]
  · rw [hE, eDbl_g (by omega), show wP w (wN w) + k + 3 - k = wP w (wN w) + 3 by omega, m3 _ (by omega) (by omega), b6]
  · rw [hE, eDbl_g (by omega), show wP w (wN w) + k + 4 - k = wP w (wN w) + 4 by omega, m3 _ (by omega) (by omega), b7]
/-- element x is taken out -/
theorem wB_out (K : wK w) (b : wB w B) {x : Nat} (hx : (x : Int) < w.2.2 1) (m : mvP w B M rv 2 (w.2.2 1 - 1)) (hk : k = 1 + w.2.1 (56 + x)) (r0 : w'.2.2 0 = w.2.2 0) (r1 : w'.2.2 1 = w.2.2 1 - 1) (r2 : w'.2.2 2 = rv) (rD : ∀ i, w'.1 i = w.1 i) (l1 : ∀ i : Nat, i < x → w'.2.1 (56 + i) = w.2.1 (56 + i) ∧ ∀ k, 0 ≤ k → k < 8 → w'.2.1 (8 * i + k) = w.2.1 (8 * i + k)) (l2 : ∀ i : Nat, x ≤ i → ((i + 1 : Nat) : Int) < w.2.2 1 → w'.2.1 (56 + i) = w.2.1 (56 + ((i + 1 : Nat) : Int)) ∧ ∀ k, 0 ≤ k → k < 8 → w'.2.1 (8 * i + k) = w.2.1 (8 * ((i + 1 : Nat) : Int) + k)) : wB w' (eRem M (wP w x) k) ∧ wP w' (wN w') = wP w (wN w) - k := by
  have Y := wLY K b
  have hn := K.n
  obtain ⟨b0, b1, b2, b3, b4, b5, b6, b7⟩ := id b
  obtain ⟨m1, m2, m3⟩ := m
  have hP1 : ∀ i : Nat, i ≤ x → wP w' i = wP w i := fun i => by
    induction i with
    | zero =>
      intro _
      show 3 + w'.2.2 0 = 3 + w.2.2 0
      omega
    | succ i ih =>
      intro hi
      show wP w' i + 1 + w'.2.1 (56 + i) = wP w i + 1 + w.2.1 (56 + i)
      rw [ih (by omega), (l1 i (by omega)).1]
  have hP2 : ∀ d : Nat, x + d + 1 ≤ wN w → wP w' (x + d) = wP w (x + d + 1) - k := fun d => by
    induction d with
    | zero =>
      intro hi
      rw [Nat.add_zero, hP1 x (Nat.le_refl _)]
      show _ = wP w x + 1 + w.2.1 (56 + x) - k
      omega
    | succ d ih =>
      intro hi
      show wP w' (x + d) + 1 + w'.2.1 (56 + ((x + d : Nat) : Int)) = wP w (x + d + 1) + 1 + w.2.1 (56 + ((x + d + 1 : Nat) : Int)) - k
      rw [ih (by omega), (l2 (x + d) (by omega) (by omega)).1]
      omega
  have hN : wN w' + 1 = wN w := by
    unfold wN
    have := K.2.1
    omega
  have hx2 : x < wN w := by omega
  have h0 := Y.b (i := x) (by omega)
  have h1 := Y.b (i := x + 1) (by omega)
  have h2 : wP w (x + 1) = wP w x + 1 + w.2.1 (56 + x) := rfl
  have k0 := K.1
  have kx := K.2.2.1 x hx
  have hE : wP w' (wN w') = wP w (wN w) - k := by
    have := hP2 (wN w' - x) (by omega)
    rw [show x + (wN w' - x) = wN w' by omega, hN] at this
    exact this
  refine ⟨⟨?_, ?_, ?_, fun j j0 j1 => ?_, fun i hi => ?_, ?_, ?_, ?_⟩, hE⟩
  · rw [eRem_l (by omega), m3 _ (by omega) (by omega), b0]
  · rw [eRem_l (by omega), m3 _ (by omega) (by omega), b1, r0]
  · rw [eRem_l (by omega), m2, r1]
  · rw [r0] at j1
    rw [eRem_l (by omega), m3 _ (by omega) (by omega), rD, b3 j j0 j1]
  · rw [r1] at hi
    by_cases d : i < x
    · obtain ⟨e1, e2⟩ := b4 i (by omega)
      have p1 := Y.b (i := i) (by omega)
      have p2 := Y.b (i := i + 1) (by omega)
      have p3 : wP w (i + 1) = wP w i + 1 + w.2.1 (56 + i) := rfl
      have p4 := K.2.2.1 i (by omega)
      have o := wP_le K b d (by omega)
      rw [hP1 i (by omega), (l1 i d).1]
      refine ⟨?_, fun k k0 k1 => ?_⟩
      · rw [eRem_l (by omega), m3 _ (by omega) (by omega), e1]
      · rw [(l1 i d).2 k k0 (by omega), eRem_l (by omega), m3 _ (by omega) (by omega), e2 k k0 k1]
    · obtain ⟨e1, e2⟩ := b4 (i + 1) (by omega)
      have p1 := Y.b (i := i + 1) (by omega)
      have p2 := Y.b (i := i + 1 + 1) (by omega)
      have p3 : wP w (i + 1 + 1) = wP w (i + 1) + 1 + w.2.1 (56 + ((i + 1 : Nat) : Int)) := rfl
      have p4 := K.2.2.1 (i + 1) (by omega)
      have o := wP_le K b (i := x) (j := i + 1) (by omega) (by omega)
      have hPi : wP w' i = wP w (i + 1) - k := by
        have := hP2 (i - x) (by omega)
        rw [show x + (i - x) = i by omega] at this
        exact this
      rw [hPi, (l2 i (by omega) (by omega)).1]
      refine ⟨?_, fun z k0 k1 => ?_⟩
      · rw [eRem_g (by omega), m3 _ (by omega) (by omega), show wP w (i + 1) - k + k = wP w (i + 1) by omega, e1]
      · rw [(l2 i (by omega) (by omega)).2 z k0 (by omega), eRem_g (by omega), m3 _ (by omega) (by omega), show wP w (i + 1) - k + 1 + z + k = wP w (i + 1) + 1 + z by omega, e2 z k0 k1]
  · rw [hE, eRem_g (by omega), show wP w (wN w) - k + 2 + k = wP w (wN w) + 2 by omega, m1, r2]
  · rw [hE, eRem_g (by omega), show wP w (wN w) - k + 3 + k = wP w (wN w) + 3 by omega, m3 _ (by omega) (by omega), b6]
  · rw [hE, eRem_g (by omega), show wP w (wN w) - k + 4 + k = wP w (wN w) + 4 by omega, m3 _ (by omega) (by omega), b7]
/-- the reference alone is another one -/
theorem wB_set (K : wK w) (b : wB w B) (m : F (wP w (wN w) + 2) = rv) (m3 : ∀ i, i ≠ wP w (wN w) + 2 → F i = B i) (r0 : w'.2.2 0 = w.2.2 0) (r1 : w'.2.2 1 = w.2.2 1) (r2 : w'.2.2 2 = rv) (rD : ∀ i, w'.1 i = w.1 i) (rE : ∀ i, w'.2.1 i = w.2.1 i) : wB w' F ∧ wP w' (wN w') = wP w (wN w) := by
  have Y := wLY K b
  have hn := K.n
  obtain ⟨b0, b1, b2, b3, b4, b5, b6, b7⟩ := id b
  have hP : ∀ i : Nat, wP w' i = wP w i := fun i => by
    induction i with
    | zero =>
      show 3 + w'.2.2 0 = 3 + w.2.2 0
      omega
    | succ i ih =>
      show wP w' i + 1 + w'.2.1 (56 + i) = wP w i + 1 + w.2.1 (56 + i)
      rw [ih, rE]
  have hN : wN w' = wN w := by
    unfold wN
    rw [r1]
  have h0 := (Y.b (i := 0) (Nat.zero_le _)).1
  have h1 := (Y.b (i := 0) (Nat.zero_le _)).2.1
  have k0 := K.1
  refine ⟨⟨?_, ?_, ?_, fun j j0 j1 => ?_, fun i hi => ?_, ?_, ?_, ?_⟩, ?_⟩
  · rw [m3 _ (by omega), b0]
  · rw [m3 _ (by omega), b1, r0]
  · rw [m3 _ (by omega), b2, r1]
  · rw [r0] at j1
    rw [m3 _ (by omega), b3 j j0 j1, rD]
  · rw [r1] at hi
    obtain ⟨e1, e2⟩ := b4 i hi
    have p1 := Y.b (i := i) (by omega)
    have p2 := Y.b (i := i + 1) (by omega)
    have p3 : wP w (i + 1) = wP w i + 1 + w.2.1 (56 + i) := rfl
    have p4 := K.2.2.1 i hi
    rw [hP, rE]
    refine ⟨?_, fun k k0 k1 => ?_⟩
    · rw [m3 _ (by omega), e1]
    · rw [rE, m3 _ (by omega), e2 k k0 k1]
  · rw [hN, hP, m, r2]
  · rw [hN, hP, m3 _ (by omega), b6]
  · rw [hN, hP, m3 _ (by omega), b7]
  · rw [hN, hP]
end
