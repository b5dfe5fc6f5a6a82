/-! EACH EDIT on the law's file -/
section
variable {w w' : wW} {A : aA} {B : yB} {pl v J i0 off ln : Int}
theorem wI.len (I : wI w A) : 0 ≤ A.1 3 0 ∧ A.1 3 0 ≤ 84 := by
  have Q := I.qa
  obtain ⟨i1, i2, i3, i4, i5, i6, i7, i8, i9⟩ := I
  have hb := (wLY i1 i2).b (i := 0) (Nat.zero_le _)
  have := i1.1
  omega
/-- the node of a string: what it is -/
def stN (A : aA) (J off ln : Int) : Prop := (0 ≤ J ∧ J < aLn A) ∧ aNn A J 192 = 5 ∧ aCt A 458 (aNn A J 198) = 115 ∧ aNn A J 194 = off ∧ aNn A J 195 = ln ∧ 0 ≤ off
theorem st_d (I : wI w A) : stN A 4 3 (w.2.2 0) := by
  have Q := I.qa
  unfold stN
  rw [Q.ln, Q.nn, Q.ct]
  exact ⟨by omega, rfl, I.2.2.2.2.2.1.f458_3, rfl, rfl, by decide⟩
theorem st_e (I : wI w A) {x : Nat} (hx : (x : Int) < w.2.2 1) : stN A (8 + 3 * x) (wP w x + 1) (w.2.1 (56 + x)) := by
  have Q := I.qa
  obtain ⟨i1, i2, i3, i4, i5, i6, i7, i8, i9⟩ := I
  have hn := i1.n
  have hb := (wLY i1 i2).b (i := x) (by omega)
  have k0 := i1.1
  unfold stN
  rw [Q.ln, Q.nn, Q.ct, (nd_e (B := A.1 2) (P := wP w) (a := w.2.2 0) (N := wN w) (j := x) (by omega)).2.2]
  exact ⟨by omega, rfl, i6.f458_9, rfl, (i2.2.2.2.2.1 x hx).1, by omega⟩
theorem tl_d : tlN (wN w) 4 2 := Or.inl ⟨rfl, rfl⟩
theorem tl_c : tlN (wN w) 5 3 := Or.inr (Or.inl ⟨rfl, rfl⟩)
theorem tl_e {x : Nat} (hx : x < wN w) : tlN (wN w) (8 + 3 * x) (7 + 3 * x) := Or.inr (Or.inr ⟨x, hx, rfl, rfl⟩)
theorem sIns_e (I : wI w A) (n : stN A J off ln) (hv : 0 ≤ v ∧ v ≤ 255) {X : Int} (hf : 0 ≤ pl → pl ≤ ln → eFa A J (off + pl) 1 1 1 = if 255 < X then 0 else 1) : sInsert J pl v A = if (0 ≤ pl ∧ pl ≤ ln) ∧ X ≤ 255 then sFin A (eIns (eMa A J (off + pl) 1 1 1) (off + pl) v) (A.1 3 0 + 1) else (.inr 1, A) := by
  obtain ⟨n1, n2, n3, n4, n5, n6⟩ := n
  have hl := I.len
  have sl : aSl A J = ln := by
    unfold aSl
    rw [if_neg (by rw [n3]; decide)]
    exact n5
  unfold sInsert
  rw [if_pos n1, if_pos hv]
  by_cases c : 0 ≤ pl ∧ pl ≤ ln
  · rw [if_pos (show eIb A J pl v from ⟨n2, by rw [sl]; exact c, fun z => absurd (n3.symm.trans z.2) (by decide)⟩)]
    unfold sIns
    rw [n4, hf c.1 c.2]
    by_cases d : X ≤ 255
    · rw [if_neg (show ¬ 255 < X by omega), if_pos ⟨by omega, rfl⟩, if_pos ⟨c, d⟩]
    · rw [if_pos (show 255 < X by omega), if_neg (fun z => absurd z.2 (by decide)), if_neg (fun z => d z.2)]
  · rw [if_neg (show ¬ eIb A J pl v from fun z => c (by rw [← sl]; exact z.2.1)), if_neg (fun z => c z.1)]
theorem sRem_e (n : stN A J off ln) : sRemove J pl A = if 0 ≤ pl ∧ pl < ln then sFin A (eRem (eMa A J (off + pl) 1 0 (-1)) (off + pl) 1) (A.1 3 0 - 1) else (.inr 1, A) := by
  obtain ⟨n1, n2, n3, n4, n5, n6⟩ := n
  have sl : aSl A J = ln := by
    unfold aSl
    rw [if_neg (by rw [n3]; decide)]
    exact n5
  unfold sRemove
  rw [if_pos n1, sl, n4]
  by_cases c : 0 ≤ pl ∧ pl < ln
  · rw [if_pos ⟨n2, c.1, c.2⟩, if_pos c]
  · rw [if_neg (fun z => c z.2), if_neg c]
/-- .. into d -/
theorem ed_insD (I : wI w A) (hv : 0 ≤ v ∧ v ≤ 255) (ha : w.2.2 0 < 20) : (∀ w' : wW, (0 ≤ pl ∧ pl ≤ w.2.2 0) → eRv (3 + pl) 1 1 (w.2.2 2) ≤ 255 → w.2.2 3 < 29 → w'.2.2 0 = w.2.2 0 + 1 → w'.2.2 1 = w.2.2 1 → w'.2.2 2 = eRv (3 + pl) 1 1 (w.2.2 2) → w'.2.2 3 = w.2.2 3 + 1 → (∀ i, w'.2.1 i = w.2.1 i) → (∀ j, 0 ≤ j → j < pl → w'.1 j = w.1 j) → w'.1 pl = v → (∀ j, pl < j → j ≤ w.2.2 0 → w'.1 j = w.1 (j - 1)) → ∃ A', sInsert 4 pl v A = (.inl (w'.2.2 3), A') ∧ wI w' A') ∧ (¬ ((0 ≤ pl ∧ pl ≤ w.2.2 0) ∧ eRv (3 + pl) 1 1 (w.2.2 2) ≤ 255 ∧ w.2.2 3 < 29) → sInsert 4 pl v A = (.inr 1, A)) := by
  obtain ⟨i1, i2, i3, i4, i5, i6, i7, i8, i9⟩ := id I
  obtain ⟨k1, k2, k3, k4, k5, k6, k7⟩ := id i1
  have hb := (wLY i1 i2).b (i := 0) (Nat.zero_le _)
  have tv : tlV (A.1 2) (wP w) (w.2.2 0) (wN w) 4 1 1 1 = w.2.2 0 + 1 := rfl
  have no : yNs (ndL (A.1 2) (wP w) (w.2.2 0) (wN w)) 2 194 = 1 := rfl
  have ma := fun (h0 : 0 ≤ pl) => I.ma (J := 4) (i0 := 2) (p := 3 + pl) (k := 1) (g := 1) (e := 1) tl_d (by omega) (by decide) (by rw [tv]; omega) (by rw [no]; omega)
  have e := sIns_e (pl := pl) (X := eRv (3 + pl) 1 1 (w.2.2 2)) I (st_d I) hv fun h0 h1 => (ma h0).2
  refine ⟨fun w' hp hr h29 r0 r1 r2 r3 rE d1 d2 d3 => ?_, fun hn => ?_⟩
  · rw [e, if_pos ⟨hp, hr⟩]
    have m := (ma hp.1).1
    rw [tv, no] at m
    obtain ⟨b', l'⟩ := wB_insD i1 i2 m hp r0 r1 r2 rE d1 d2 d3
    rw [i4, show wP w (wN w) + 5 + 1 = wP w (wN w) + 1 + 5 by omega, ← l']
    refine fin_ok I ⟨by omega, by omega, fun i hi => ?_, fun j j0 j1 => ?_, fun i hi k k0 k1 => ?_, ?_, by omega⟩ b' r3 h29
    · rw [rE]
      exact k3 i (by omega)
    · by_cases c : j < pl
      · rw [d1 j j0 c]
        exact k4 j j0 (by omega)
      · by_cases c2 : j = pl
        · rw [c2, d2]
          exact hv
        · rw [d3 j (by omega) (by omega)]
          exact k4 (j - 1) (by omega) (by omega)
    · rw [rE] at k1 ⊢
      exact k5 i (by omega) k k0 k1
    · rw [r2]
      exact ⟨(rv_b k6 (by omega) (by decide)).1, hr⟩
  · rw [e]
    by_cases c : (0 ≤ pl ∧ pl ≤ w.2.2 0) ∧ eRv (3 + pl) 1 1 (w.2.2 2) ≤ 255
    · rw [if_pos c]
      exact fin_no I (by omega)
    · rw [if_neg c]
/-- .. from d -/
theorem ed_remD (I : wI w A) : (∀ w' : wW, (0 ≤ pl ∧ pl < w.2.2 0) → w.2.2 3 < 29 → w'.2.2 0 = w.2.2 0 - 1 → w'.2.2 1 = w.2.2 1 → w'.2.2 2 = eRv (3 + pl) 1 0 (w.2.2 2) → w'.2.2 3 = w.2.2 3 + 1 → (∀ i, w'.2.1 i = w.2.1 i) → (∀ j, 0 ≤ j → j < pl → w'.1 j = w.1 j) → (∀ j, pl ≤ j → j + 1 < w.2.2 0 → w'.1 j = w.1 (j + 1)) → ∃ A', sRemove 4 pl A = (.inl (w'.2.2 3), A') ∧ wI w' A') ∧ (¬ ((0 ≤ pl ∧ pl < w.2.2 0) ∧ w.2.2 3 < 29) → sRemove 4 pl A = (.inr 1, A)) := by
  obtain ⟨i1, i2, i3, i4, i5, i6, i7, i8, i9⟩ := id I
  obtain ⟨k1, k2, k3, k4, k5, k6, k7⟩ := id i1
  have hb := (wLY i1 i2).b (i := 0) (Nat.zero_le _)
  have e := sRem_e (pl := pl) (st_d I)
  refine ⟨fun w' hp h29 r0 r1 r2 r3 rE d1 d3 => ?_, fun hn => ?_⟩
  · rw [e, if_pos hp]
    have tv : tlV (A.1 2) (wP w) (w.2.2 0) (wN w) 4 1 0 (-1) = w.2.2 0 - 1 := rfl
    have no : yNs (ndL (A.1 2) (wP w) (w.2.2 0) (wN w)) 2 194 = 1 := rfl
    have m := (I.ma (J := 4) (i0 := 2) (p := 3 + pl) (k := 1) (g := 0) (e := -1) tl_d (by omega) (by decide) (by rw [tv]; omega) (by rw [no]; omega)).1
    rw [tv, no] at m
    obtain ⟨b', l'⟩ := wB_remD i1 i2 m hp r0 r1 r2 rE d1 d3
    rw [i4, show wP w (wN w) + 5 - 1 = wP w (wN w) - 1 + 5 by omega, ← l']
    refine fin_ok I ⟨by omega, by omega, fun i hi => ?_, fun j j0 j1 => ?_, fun i hi k k0 k1 => ?_, ?_, by omega⟩ b' r3 h29
    · rw [rE]
      exact k3 i (by omega)
    · by_cases c : j < pl
      · rw [d1 j j0 c]
        exact k4 j j0 (by omega)
      · rw [d3 j (by omega) (by omega)]
        exact k4 (j + 1) (by omega) (by omega)
    · rw [rE] at k1 ⊢
      exact k5 i (by omega) k k0 k1
    · rw [r2]
      have q := rv_b (k := 1) (p := 3 + pl) (g := 0) k6 (by omega) (by decide)
      exact ⟨q.1, q.2 rfl⟩
  · rw [e]
    by_cases c : 0 ≤ pl ∧ pl < w.2.2 0
    · rw [if_pos c]
      exact fin_no I (by omega)
    · rw [if_neg c]
/-- .. into element x -/
theorem ed_insE (I : wI w A) (hv : 0 ≤ v ∧ v ≤ 255) {x : Nat} (hx : (x : Int) < w.2.2 1) (ha : w.2.1 (56 + x) < 7) : (∀ w' : wW, (0 ≤ pl ∧ pl ≤ w.2.1 (56 + x)) → eRv (wP w x + 1 + pl) 1 1 (w.2.2 2) ≤ 255 → w.2.2 3 < 29 → w'.2.2 0 = w.2.2 0 → w'.2.2 1 = w.2.2 1 → w'.2.2 2 = eRv (wP w x + 1 + pl) 1 1 (w.2.2 2) → w'.2.2 3 = w.2.2 3 + 1 → (∀ i, w'.1 i = w.1 i) → w'.2.1 (56 + x) = w.2.1 (56 + x) + 1 → (∀ i : Nat, i ≠ x → (i : Int) < w.2.2 1 → w'.2.1 (56 + i) = w.2.1 (56 + i)) → (∀ i : Nat, i ≠ x → (i : Int) < w.2.2 1 → ∀ k, 0 ≤ k → k < 8 → w'.2.1 (8 * i + k) = w.2.1 (8 * i + k)) → (∀ j, 0 ≤ j → j < pl → w'.2.1 (8 * x + j) = w.2.1 (8 * x + j)) → w'.2.1 (8 * x + pl) = v → (∀ j, pl < j → j ≤ w.2.1 (56 + x) → w'.2.1 (8 * x + j) = w.2.1 (8 * x + (j - 1))) → ∃ A', sInsert (8 + 3 * x) pl v A = (.inl (w'.2.2 3), A') ∧ wI w' A') ∧ (¬ ((0 ≤ pl ∧ pl ≤ w.2.1 (56 + x)) ∧ eRv (wP w x + 1 + pl) 1 1 (w.2.2 2) ≤ 255 ∧ w.2.2 3 < 29) → sInsert (8 + 3 * x) pl v A = (.inr 1, A)) := by
  obtain ⟨i1, i2, i3, i4, i5, i6, i7, i8, i9⟩ := id I
  obtain ⟨k1, k2, k3, k4, k5, k6, k7⟩ := id i1
  have hn := i1.n
  have hxN : x < wN w := by omega
  have hb := (wLY i1 i2).b (i := x) (by omega)
  have kx := k3 x hx
  obtain ⟨n1, n2, n3⟩ := nd_e (B := A.1 2) (P := wP w) (a := w.2.2 0) hxN
  have tv : tlV (A.1 2) (wP w) (w.2.2 0) (wN w) (8 + 3 * x) 1 1 1 = w.2.1 (56 + x) + 1 := by
    unfold tlV
    rw [if_neg (show ¬ (8 + 3 * (x : Int)) = 4 by omega), if_neg (show ¬ (8 + 3 * (x : Int)) = 5 by omega), n3]
    show A.1 2 (wP w x) + 1 = _
    rw [(i2.2.2.2.2.1 x hx).1]
  have no : yNs (ndL (A.1 2) (wP w) (w.2.2 0) (wN w)) (7 + 3 * x) 194 = wP w x := by
    rw [n2]
    rfl
  have ma := fun (h0 : 0 ≤ pl) => I.ma (J := 8 + 3 * x) (i0 := 7 + 3 * x) (p := wP w x + 1 + pl) (k := 1) (g := 1) (e := 1) (tl_e hxN) (by omega) (by decide) (by rw [tv]; omega) (by rw [no]; omega)
  have e := sIns_e (pl := pl) (X := eRv (wP w x + 1 + pl) 1 1 (w.2.2 2)) I (st_e I hx) hv fun h0 h1 => (ma h0).2
  refine ⟨fun w' hp hr h29 r0 r1 r2 r3 rD l1 l2 e0 d1 d2 d3 => ?_, fun hn => ?_⟩
  · rw [e, if_pos ⟨hp, hr⟩]
    have m := (ma hp.1).1
    rw [tv, no] at m
    obtain ⟨b', l'⟩ := wB_insE i1 i2 hx m hp r0 r1 r2 rD l1 l2 e0 d1 d2 d3
    rw [i4, show wP w (wN w) + 5 + 1 = wP w (wN w) + 1 + 5 by omega, ← l']
    refine fin_ok I ⟨by omega, by omega, fun i hi => ?_, fun j j0 j1 => ?_, fun i hi k k0 k1 => ?_, ?_, by omega⟩ b' r3 h29
    · by_cases c : i = x
      · rw [c, l1]
        omega
      · rw [l2 i c (by omega)]
        exact k3 i (by omega)
    · rw [rD]
      exact k4 j j0 (by omega)
    · by_cases c : i = x
      · subst c
        rw [l1] at k1
        by_cases c : k < pl
        · rw [d1 k k0 c]
          exact k5 i hx k k0 (by omega)
        · by_cases c2 : k = pl
          · rw [c2, d2]
            exact hv
          · rw [d3 k (by omega) (by omega)]
            exact k5 i hx (k - 1) (by omega) (by omega)
      · rw [l2 i c (by omega)] at k1
        have := k3 i (by omega)
        rw [e0 i c (by omega) k k0 (by omega)]
        exact k5 i (by omega) k k0 k1
    · rw [r2]
      exact ⟨(rv_b k6 (by omega) (by decide)).1, hr⟩
  · rw [e]
    by_cases c : (0 ≤ pl ∧ pl ≤ w.2.1 (56 + x)) ∧ eRv (wP w x + 1 + pl) 1 1 (w.2.2 2) ≤ 255
    · rw [if_pos c]
      exact fin_no I (by omega)
    · rw [if_neg c]
/-- .. from element x -/
theorem ed_remE (I : wI w A) {x : Nat} (hx : (x : Int) < w.2.2 1) : (∀ w' : wW, (0 ≤ pl ∧ pl < w.2.1 (56 + x)) → w.2.2 3 < 29 → w'.2.2 0 = w.2.2 0 → w'.2.2 1 = w.2.2 1 → w'.2.2 2 = eRv (wP w x + 1 + pl) 1 0 (w.2.2 2) → w'.2.2 3 = w.2.2 3 + 1 → (∀ i, w'.1 i = w.1 i) → w'.2.1 (56 + x) = w.2.1 (56 + x) - 1 → (∀ i : Nat, i ≠ x → (i : Int) < w.2.2 1 → w'.2.1 (56 + i) = w.2.1 (56 + i)) → (∀ i : Nat, i ≠ x → (i : Int) < w.2.2 1 → ∀ k, 0 ≤ k → k < 8 → w'.2.1 (8 * i + k) = w.2.1 (8 * i + k)) → (∀ j, 0 ≤ j → j < pl → w'.2.1 (8 * x + j) = w.2.1 (8 * x + j)) → (∀ j, pl ≤ j → j + 1 < w.2.1 (56 + x) → w'.2.1 (8 * x + j) = w.2.1 (8 * x + (j + 1))) → ∃ A', sRemove (8 + 3 * x) pl A = (.inl (w'.2.2 3), A') ∧ wI w' A') ∧ (¬ ((0 ≤ pl ∧ pl < w.2.1 (56 + x)) ∧ w.2.2 3 < 29) → sRemove (8 + 3 * x) pl A = (.inr 1, A)) := by
  obtain ⟨i1, i2, i3, i4, i5, i6, i7, i8, i9⟩ := id I
  obtain ⟨k1, k2, k3, k4, k5, k6, k7⟩ := id i1
  have hn := i1.n
  have hxN : x < wN w := by omega
  have hb := (wLY i1 i2).b (i := x) (by omega)
  have kx := k3 x hx
  obtain ⟨n1, n2, n3⟩ := nd_e (B := A.1 2) (P := wP w) (a := w.2.2 0) hxN
  have e := sRem_e (pl := pl) (st_e I hx)
  refine ⟨fun w' hp h29 r0 r1 r2 r3 rD l1 l2 e0 d1 d3 => ?_, fun hn => ?_⟩
  · rw [e, if_pos hp]
    have tv : tlV (A.1 2) (wP w) (w.2.2 0) (wN w) (8 + 3 * x) 1 0 (-1) = w.2.1 (56 + x) - 1 := by
      unfold tlV
      rw [if_neg (show ¬ (8 + 3 * (x : Int)) = 4 by omega), if_neg (show ¬ (8 + 3 * (x : Int)) = 5 by omega), n3]
      show A.1 2 (wP w x) - 1 = _
      rw [(i2.2.2.2.2.1 x hx).1]
    have no : yNs (ndL (A.1 2) (wP w) (w.2.2 0) (wN w)) (7 + 3 * x) 194 = wP w x := by
      rw [n2]
      rfl
    have m := (I.ma (J := 8 + 3 * x) (i0 := 7 + 3 * x) (p := wP w x + 1 + pl) (k := 1) (g := 0) (e := -1) (tl_e hxN) (by omega) (by decide) (by rw [tv]; omega) (by rw [no]; omega)).1
    rw [tv, no] at m
    obtain ⟨b', l'⟩ := wB_remE i1 i2 hx m hp r0 r1 r2 rD l1 l2 e0 d1 d3
    rw [i4, show wP w (wN w) + 5 - 1 = wP w (wN w) - 1 + 5 by omega, ← l']
    refine fin_ok I ⟨by omega, by omega, fun i hi => ?_, fun j j0 j1 => ?_, fun i hi k k0 k1 => ?_, ?_, by omega⟩ b' r3 h29
    · by_cases c : i = x
      · rw [c, l1]
        omega
      · rw [l2 i c (by omega)]
        exact k3 i (by omega)
    · rw [rD]
      exact k4 j j0 (by omega)
    · by_cases c : i = x
      · subst c
        rw [l1] at k1
        by_cases c : k < pl
        · rw [d1 k k0 c]
          exact k5 i hx k k0 (by omega)
        · rw [d3 k (by omega) (by omega)]
          exact k5 i hx (k + 1) (by omega) (by omega)
      · rw [l2 i c (by omega)] at k1
        have := k3 i (by omega)
        rw [e0 i c (by omega) k k0 (by omega)]
        exact k5 i (by omega) k k0 k1
    · rw [r2]
      have q := rv_b (k := 1) (p := wP w x + 1 + pl) (g := 0) k6 (by omega) (by decide)
      exact ⟨q.1, q.2 rfl⟩
  · rw [e]
    by_cases c : 0 ≤ pl ∧ pl < w.2.1 (56 + x)
    · rw [if_pos c]
      exact fin_no I (by omega)
    · rw [if_neg c]
end
