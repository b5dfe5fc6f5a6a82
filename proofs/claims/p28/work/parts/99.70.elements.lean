/-! ELEMENTS doubled and taken out, the reference set, repair, and what is refused -/
section
variable {w w' : wW} {A : aA} {B : yB} {pl v : Int} {M : Int → yN}
theorem eEl_s {J q i : Int} {m : Nat} : eEl M J (m + 1) q i = if M i 197 = J then (if q = 0 then i else eEl M J m (q - 1) (i + 1)) else eEl M J m q (i + 1) := rfl
theorem eEl_n {J q i : Int} {m : Nat} (h : ¬ M i 197 = J) : eEl M J (m + 1) q i = eEl M J m q (i + 1) := by
  rw [eEl_s, if_neg h]
theorem eEl_y {J q i : Int} {m : Nat} (h : M i 197 = J) : eEl M J (m + 1) q i = if q = 0 then i else eEl M J m (q - 1) (i + 1) := by
  rw [eEl_s, if_pos h]
/-- the element of a number -/
theorem el_at {P : Nat → Int} {a : Int} {N : Nat} : ∀ (d j : Nat) (q : Int), j + d = N → 0 ≤ q → eEl (yNs (ndL B P a N)) 5 (3 * d + 3) q (6 + 3 * j) = if q < d then 6 + 3 * (j + q) else -1
  | 0, j, q, hj, hq => by
    have hj : j = N := by omega
    subst hj
    obtain ⟨n1, n2, n3⟩ := nd_l (B := B) (P := P) (a := a) (N := j)
    rw [if_neg (by omega), show 3 * 0 + 3 = 0 + 1 + 1 + 1 from rfl, eEl_n (by rw [n1]; exact show ¬ (0 : Int) = 5 by decide), eEl_n (by rw [show 6 + 3 * (j : Int) + 1 = 7 + 3 * j by omega, n2]; exact show ¬ (0 : Int) = 5 by decide), eEl_n (by rw [show 6 + 3 * (j : Int) + 1 + 1 = 8 + 3 * j by omega, n3]; exact show ¬ (0 : Int) = 5 by decide)]
    rfl
  | d + 1, j, q, hj, hq => by
    obtain ⟨n1, n2, n3⟩ := nd_e (B := B) (P := P) (a := a) (N := N) (j := j) (by omega)
    rw [show 3 * (d + 1) + 3 = (3 * d + 3) + 1 + 1 + 1 by omega, eEl_y (by rw [n1]; rfl)]
    by_cases c : q = 0
    · rw [if_pos c, if_pos (by omega), c]
      omega
    · rw [if_neg c, eEl_n (by rw [show 6 + 3 * (j : Int) + 1 = 7 + 3 * j by omega, n2]; exact show ¬ (6 + 3 * (j : Int)) = 5 by omega), eEl_n (by rw [show 6 + 3 * (j : Int) + 1 + 1 = 8 + 3 * j by omega, n3]; exact show ¬ (6 + 3 * (j : Int)) = 5 by omega), show 6 + 3 * (j : Int) + 1 + 1 + 1 = 6 + 3 * ((j + 1 : Nat) : Int) by omega, el_at d (j + 1) (q - 1) (by omega) (by omega)]
      by_cases c2 : q - 1 < d
      · rw [if_pos c2, if_pos (by omega)]
        omega
      · rw [if_neg c2, if_neg (by omega)]
theorem wI.el (I : wI w A) {q : Int} (hq : 0 ≤ q) : aEl A 5 q = if q < w.2.2 1 then 6 + 3 * q else -1 := by
  have Q := I.qa
  have hn := I.1.n
  unfold aEl
  rw [Q.ln, Q.nn, if_pos ⟨rfl, hq⟩, show (9 + 3 * ((wN w : Nat) : Int) - (5 + 1)).toNat = 3 * wN w + 3 by omega]
  have e := el_at (B := A.1 2) (P := wP w) (a := w.2.2 0) (N := wN w) (wN w) 0 q (by omega) hq
  rw [show (6 : Int) + 3 * ((0 : Nat) : Int) = 5 + 1 from rfl] at e
  rw [e, hn]
  by_cases c : q < w.2.2 1
  · rw [if_pos c, if_pos c]
    omega
  · rw [if_neg c, if_neg c]
/-- what is told of element x -/
theorem wI.elN (I : wI w A) {x : Nat} (hx : (x : Int) < w.2.2 1) : aNn A (6 + 3 * x) 194 = wP w x ∧ aNn A (6 + 3 * x) 195 = 1 + w.2.1 (56 + x) := by
  have Q := I.qa
  obtain ⟨i1, i2, i3, i4, i5, i6, i7, i8, i9⟩ := I
  have hn := i1.n
  rw [Q.nn, (nd_e (B := A.1 2) (P := wP w) (a := w.2.2 0) (N := wN w) (j := x) (by omega)).1]
  exact ⟨rfl, show 1 + A.1 2 (wP w x) = _ by rw [(i2.2.2.2.2.1 x hx).1]⟩
theorem wI.five (I : wI w A) : 0 ≤ (5 : Int) ∧ (5 : Int) < aLn A := by
  have Q := I.qa
  rw [Q.ln]
  omega
theorem wK_e (K : wK w) (r0 : w'.2.2 0 = w.2.2 0) (rD : ∀ i, w'.1 i = w.1 i) (r1 : 0 ≤ w'.2.2 1 ∧ w'.2.2 1 ≤ 7) (r2 : 0 ≤ w'.2.2 2 ∧ w'.2.2 2 ≤ 255) (r3 : 0 ≤ w'.2.2 3 ∧ w'.2.2 3 ≤ 29) (h : ∀ i : Nat, (i : Int) < w'.2.2 1 → ∃ j : Nat, (j : Int) < w.2.2 1 ∧ w'.2.1 (56 + i) = w.2.1 (56 + j) ∧ ∀ k, 0 ≤ k → k < 8 → w'.2.1 (8 * i + k) = w.2.1 (8 * j + k)) : wK w' := by
  obtain ⟨k1, k2, k3, k4, k5, k6, k7⟩ := K
  refine ⟨by omega, r1, fun i hi => ?_, fun j j0 j1 => ?_, fun i hi k k0 k1 => ?_, r2, r3⟩
  · obtain ⟨j, j1, j2, j3⟩ := h i hi
    rw [j2]
    exact k3 j j1
  · rw [rD]
    exact k4 j j0 (by omega)
  · obtain ⟨j, j1, j2, j3⟩ := h i hi
    rw [j2] at k1
    have := k3 j j1
    rw [j3 k k0 (by omega)]
    exact k5 j j1 k k0 k1
/-- an element is doubled -/
theorem ed_dup (I : wI w A) {x : Nat} (hx : (x : Int) < w.2.2 1) (h7 : w.2.2 1 < 7) : (∀ w' : wW, eRv (wP w x + (1 + w.2.1 (56 + x))) (1 + w.2.1 (56 + x)) 1 (w.2.2 2) ≤ 255 → w.2.2 3 < 29 → w'.2.2 0 = w.2.2 0 → w'.2.2 1 = w.2.2 1 + 1 → w'.2.2 2 = eRv (wP w x + (1 + w.2.1 (56 + x))) (1 + w.2.1 (56 + x)) 1 (w.2.2 2) → w'.2.2 3 = w.2.2 3 + 1 → (∀ i, w'.1 i = w.1 i) → (∀ i : Nat, i ≤ x → w'.2.1 (56 + i) = w.2.1 (56 + i) ∧ ∀ k, 0 ≤ k → k < 8 → w'.2.1 (8 * i + k) = w.2.1 (8 * i + k)) → (∀ i : Nat, x ≤ i → (i : Int) < w.2.2 1 → w'.2.1 (56 + ((i + 1 : Nat) : Int)) = w.2.1 (56 + i) ∧ ∀ k, 0 ≤ k → k < 8 → w'.2.1 (8 * ((i + 1 : Nat) : Int) + k) = w.2.1 (8 * i + k)) → ∃ A', sElement 5 x 1 A = (.inl (w'.2.2 3), A') ∧ wI w' A') ∧ (¬ (eRv (wP w x + (1 + w.2.1 (56 + x))) (1 + w.2.1 (56 + x)) 1 (w.2.2 2) ≤ 255 ∧ w.2.2 3 < 29) → sElement 5 x 1 A = (.inr 1, A)) := by
  obtain ⟨i1, i2, i3, i4, i5, i6, i7, i8, i9⟩ := id I
  obtain ⟨k1, k2, k3, k4, k5, k6, k7⟩ := id i1
  have hn := i1.n
  have hb := (wLY i1 i2).b (i := x) (by omega)
  have kx := k3 x hx
  have hl := I.len
  obtain ⟨n1, n2⟩ := I.elN hx
  have tv : tlV (A.1 2) (wP w) (w.2.2 0) (wN w) 5 (1 + w.2.1 (56 + x)) 1 1 = w.2.2 1 + 1 := by
    unfold tlV
    rw [if_neg (by decide), if_pos rfl, hn]
  have no : yNs (ndL (A.1 2) (wP w) (w.2.2 0) (wN w)) 3 194 = 2 := rfl
  have ma := I.ma (J := 5) (i0 := 3) (p := wP w x + (1 + w.2.1 (56 + x))) (k := 1 + w.2.1 (56 + x)) (g := 1) (e := 1) tl_c (by omega) (by omega) (by rw [tv]; omega) (by rw [no]; omega)
  rw [tv, no] at ma
  have e : sElement 5 x 1 A = if eRv (wP w x + (1 + w.2.1 (56 + x))) (1 + w.2.1 (56 + x)) 1 (w.2.2 2) ≤ 255 then sFin A (eDbl (eMa A 5 (wP w x + (1 + w.2.1 (56 + x))) (1 + w.2.1 (56 + x)) 1 1) (wP w x + (1 + w.2.1 (56 + x))) (1 + w.2.1 (56 + x))) (A.1 3 0 + (1 + w.2.1 (56 + x))) else (.inr 1, A) := by
    unfold sElement
    rw [if_pos I.five, I.el (by omega), if_pos hx, if_neg (by omega)]
    unfold sElm
    rw [if_neg (by decide), n1, n2, ma.2]
    by_cases d : eRv (wP w x + (1 + w.2.1 (56 + x))) (1 + w.2.1 (56 + x)) 1 (w.2.2 2) ≤ 255
    · rw [if_neg (show ¬ 255 < eRv (wP w x + (1 + w.2.1 (56 + x))) (1 + w.2.1 (56 + x)) 1 (w.2.2 2) by omega), if_pos ⟨by omega, rfl⟩, if_pos d]
    · rw [if_pos (show 255 < eRv (wP w x + (1 + w.2.1 (56 + x))) (1 + w.2.1 (56 + x)) 1 (w.2.2 2) by omega), if_neg (fun z => absurd z.2 (by decide)), if_neg d]
  refine ⟨fun w' hr h29 r0 r1 r2 r3 rD l1 l2 => ?_, fun hn2 => ?_⟩
  · rw [e, if_pos hr]
    obtain ⟨b', l'⟩ := wB_dup i1 i2 hx ma.1 rfl r0 r1 r2 rD l1 l2
    rw [i4, show wP w (wN w) + 5 + (1 + w.2.1 (56 + x)) = wP w (wN w) + (1 + w.2.1 (56 + x)) + 5 by omega, ← l']
    refine fin_ok I (wK_e i1 r0 rD (by omega) ?_ (by omega) fun i hi => ?_) b' r3 h29
    · rw [r2]
      exact ⟨(rv_b k6 (by omega) (by omega)).1, hr⟩
    · by_cases c : i ≤ x
      · exact ⟨i, by omega, l1 i c⟩
      · obtain ⟨j, rfl⟩ : ∃ j, i = j + 1 := ⟨i - 1, by omega⟩
        exact ⟨j, by omega, l2 j (by omega) (by omega)⟩
  · rw [e]
    by_cases c : eRv (wP w x + (1 + w.2.1 (56 + x))) (1 + w.2.1 (56 + x)) 1 (w.2.2 2) ≤ 255
    · rw [if_pos c]
      exact fin_no I (by omega)
    · rw [if_neg c]
/-- an element is taken out -/
theorem ed_out (I : wI w A) {x : Nat} (hx : (x : Int) < w.2.2 1) : (∀ w' : wW, w.2.2 3 < 29 → w'.2.2 0 = w.2.2 0 → w'.2.2 1 = w.2.2 1 - 1 → w'.2.2 2 = eRv (wP w x) (1 + w.2.1 (56 + x)) 0 (w.2.2 2) → w'.2.2 3 = w.2.2 3 + 1 → (∀ i, w'.1 i = w.1 i) → (∀ i : Nat, i < x → w'.2.1 (56 + i) = w.2.1 (56 + i) ∧ ∀ k, 0 ≤ k → k < 8 → w'.2.1 (8 * i + k) = w.2.1 (8 * i + k)) → (∀ i : Nat, x ≤ i → ((i + 1 : Nat) : Int) < w.2.2 1 → w'.2.1 (56 + i) = w.2.1 (56 + ((i + 1 : Nat) : Int)) ∧ ∀ k, 0 ≤ k → k < 8 → w'.2.1 (8 * i + k) = w.2.1 (8 * ((i + 1 : Nat) : Int) + k)) → ∃ A', sElement 5 x 0 A = (.inl (w'.2.2 3), A') ∧ wI w' A') ∧ (29 ≤ w.2.2 3 → sElement 5 x 0 A = (.inr 1, A)) := by
  obtain ⟨i1, i2, i3, i4, i5, i6, i7, i8, i9⟩ := id I
  obtain ⟨k1, k2, k3, k4, k5, k6, k7⟩ := id i1
  have hn := i1.n
  have hb := (wLY i1 i2).b (i := x) (by omega)
  have kx := k3 x hx
  obtain ⟨n1, n2⟩ := I.elN hx
  have e : sElement 5 x 0 A = sFin A (eRem (eMa A 5 (wP w x) (1 + w.2.1 (56 + x)) 0 (-1)) (wP w x) (1 + w.2.1 (56 + x))) (A.1 3 0 - (1 + w.2.1 (56 + x))) := by
    unfold sElement
    rw [if_pos I.five, I.el (by omega), if_pos hx, if_neg (by omega)]
    unfold sElm
    rw [if_pos rfl, n1, n2]
  refine ⟨fun w' h29 r0 r1 r2 r3 rD l1 l2 => ?_, fun h29 => ?_⟩
  · rw [e]
    have tv : tlV (A.1 2) (wP w) (w.2.2 0) (wN w) 5 (1 + w.2.1 (56 + x)) 0 (-1) = w.2.2 1 - 1 := by
      unfold tlV
      rw [if_neg (by decide), if_pos rfl, hn]
      rfl
    have no : yNs (ndL (A.1 2) (wP w) (w.2.2 0) (wN w)) 3 194 = 2 := rfl
    have ma := (I.ma (J := 5) (i0 := 3) (p := wP w x) (k := 1 + w.2.1 (56 + x)) (g := 0) (e := -1) tl_c (by omega) (by omega) (by rw [tv]; omega) (by rw [no]; omega)).1
    rw [tv, no] at ma
    obtain ⟨b', l'⟩ := wB_out i1 i2 hx ma rfl r0 r1 r2 rD l1 l2
    rw [i4, show wP w (wN w) + 5 - (1 + w.2.1 (56 + x)) = wP w (wN w) - (1 + w.2.1 (56 + x)) + 5 by omega, ← l']
    refine fin_ok I (wK_e i1 r0 rD (by omega) ?_ (by omega) fun i hi => ?_) b' r3 h29
    · rw [r2]
      have q := rv_b (k := 1 + w.2.1 (56 + x)) (p := wP w x) (g := 0) k6 (by omega) (by omega)
      exact ⟨q.1, q.2 rfl⟩
    · by_cases c : i < x
      · exact ⟨i, by omega, l1 i c⟩
      · exact ⟨i + 1, by omega, l2 i (by omega) (by omega)⟩
  · rw [e]
    exact fin_no I h29
/-- there is no such element -/
theorem ed_noel (I : wI w A) {q b : Int} (h : w.2.2 1 ≤ q) : sElement 5 q b A = (.inr 1, A) := by
  have k2 := I.1.2.1
  unfold sElement
  rw [if_pos I.five, I.el (by omega), if_neg (show ¬ q < w.2.2 1 by omega), if_pos rfl]
/-- the reference is set -/
theorem ed_set (I : wI w A) : (∀ w' : wW, (0 ≤ v ∧ v < 256) → w.2.2 3 < 29 → w'.2.2 0 = w.2.2 0 → w'.2.2 1 = w.2.2 1 → w'.2.2 2 = v → w'.2.2 3 = w.2.2 3 + 1 → (∀ i, w'.1 i = w.1 i) → (∀ i, w'.2.1 i = w.2.1 i) → ∃ A', sSet (8 + 3 * w.2.2 1) v A = (.inl (w'.2.2 3), A') ∧ wI w' A') ∧ (¬ ((0 ≤ v ∧ v < 256) ∧ w.2.2 3 < 29) → sSet (8 + 3 * w.2.2 1) v A = (.inr 1, A)) := by
  have Q := I.qa
  obtain ⟨i1, i2, i3, i4, i5, i6, i7, i8, i9⟩ := id I
  obtain ⟨k1, k2, k3, k4, k5, k6, k7⟩ := id i1
  have hn := i1.n
  have e : sSet (8 + 3 * w.2.2 1) v A = if 0 ≤ v ∧ v < 256 then sFin A (fun i => if i = wP w (wN w) + 2 then v else A.1 2 i) (A.1 3 0) else (.inr 1, A) := by
    unfold sSet
    rw [Q.ln, ← hn, if_pos (by omega)]
    have n7 : aNn A (8 + 3 * ((wN w : Nat) : Int)) = yn 3 17 (wP w (wN w) + 2) 1 (A.1 2 (wP w (wN w) + 2)) 0 7 := by
      rw [Q.nn]
      exact nd_l.2.2
    have sb : eSb A (8 + 3 * ((wN w : Nat) : Int)) v ↔ (0 ≤ v ∧ v < 256) := by
      unfold eSb
      rw [Q.ct, n7, show yn 3 17 (wP w (wN w) + 2) 1 (A.1 2 (wP w (wN w) + 2)) 0 7 198 = 7 from rfl, i6.f467_7, i6.f459_7, show zshl 1 8 - 1 = 255 by decide]
      constructor
      · rintro ⟨-, -, z1, z2⟩
        omega
      · rintro ⟨z1, z2⟩
        exact ⟨Or.inr (Or.inl rfl), rfl, z1, by omega⟩
    by_cases c : 0 ≤ v ∧ v < 256
    · rw [if_pos (sb.mpr c), if_pos c, Q.ct, eW_98 (Or.inr (by rw [n7]; exact i6.f458_7)), n7]
      rfl
    · rw [if_neg (fun z => c (sb.mp z)), if_neg c]
  refine ⟨fun w' hv h29 r0 r1 r2 r3 rD rE => ?_, fun hn2 => ?_⟩
  · rw [e, if_pos hv]
    generalize hF : (fun i => if i = wP w (wN w) + 2 then v else A.1 2 i : yB) = F
    obtain ⟨b', l'⟩ := wB_set (F := F) (rv := v) i1 i2 (by rw [← hF]; exact if_pos rfl) (fun i hi => by rw [← hF]; exact if_neg hi) r0 r1 r2 rD rE
    rw [i4, show wP w (wN w) + 5 = wP w' (wN w') + 5 by rw [l']]
    exact fin_ok I (wK_e i1 r0 rD (by omega) (by omega) (by omega) fun i hi => ⟨i, by omega, rE _, fun k k0 k1 => rE _⟩) b' r3 h29
  · rw [e]
    by_cases c : 0 ≤ v ∧ v < 256
    · rw [if_pos c]
      exact fin_no I (by omega)
    · rw [if_neg c]
/-- a field with a relation can't be set -/
theorem ed_noset (I : wI w A) {j : Int} (hj : 1 ≤ j ∧ j ≤ 3) : sSet j v A = (.inr 1, A) := by
  have Q := I.qa
  have i6 := I.2.2.2.2.2.1
  unfold sSet
  rw [Q.ln, if_pos (by omega), if_neg]
  rintro ⟨-, z, -⟩
  rw [Q.nn, Q.ct] at z
  have c : j = 1 ∨ j = 2 ∨ j = 3 := by omega
  rcases c with rfl | rfl | rfl
  · rw [nd1] at z
    exact absurd (i6.f467_0.symm.trans z) (by decide)
  · rw [nd2] at z
    exact absurd (i6.f467_1.symm.trans z) (by decide)
  · rw [nd3] at z
    exact absurd (i6.f467_2.symm.trans z) (by decide)
/-- repair -/
theorem ed_rep (I : wI w A) : (∀ w' : wW, w.2.2 3 < 29 → w'.2.2 0 = w.2.2 0 → w'.2.2 1 = w.2.2 1 → w'.2.2 2 = w.2.2 2 → w'.2.2 3 = w.2.2 3 + 1 → (∀ i, w'.1 i = w.1 i) → (∀ i, w'.2.1 i = w.2.1 i) → ∃ A', sRepair A = (.inl (w'.2.2 3), A') ∧ wI w' A') ∧ (29 ≤ w.2.2 3 → sRepair A = (.inr 1, A)) := by
  have Q := I.qa
  obtain ⟨i1, i2, i3, i4, i5, i6, i7, i8, i9⟩ := id I
  obtain ⟨k1, k2, k3, k4, k5, k6, k7⟩ := id i1
  have e : sRepair A = sFin A (A.1 2) (A.1 3 0) := by
    unfold sRepair
    rw [Q.ch, if_neg (by decide)]
  refine ⟨fun w' h29 r0 r1 r2 r3 rD rE => ?_, fun h29 => ?_⟩
  · rw [e]
    obtain ⟨b', l'⟩ := wB_set (F := A.1 2) (rv := w.2.2 2) i1 i2 i2.2.2.2.2.2.1 (fun i hi => rfl) r0 r1 r2 rD rE
    rw [i4, ← l']
    refine fin_ok I (wK_e i1 r0 rD (by omega) (by omega) (by omega) fun i hi => ⟨i, by omega, rE _, fun k k0 k1 => rE _⟩) b' r3 h29
  · rw [e]
    exact fin_no I h29
end
