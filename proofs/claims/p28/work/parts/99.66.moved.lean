/-! WHAT IS WRITTEN AHEAD OF AN EDIT: the reference, and one length or count -/
section
variable {T : yT} {B F : yB} {P : Nat → Int} {a n J p k g e : Int} {N : Nat} {M : Int → yN} {V : Int → Int}
theorem eLi_s {m : Nat} {c : Int} : eLi M g (m + 1) c = if c < 0 then 0 else if c = g then 1 else eLi M g m (M c 197) := rfl
theorem li_4 (hg : g ≠ 0) (h4 : g ≠ 4) : eLi (yNs (ndL B P a N)) g 201 4 = 0 := by
  rw [show 201 = 198 + 1 + 1 + 1 from rfl, eLi_s, if_neg (by decide), if_neg (by omega), nd4, show yn 5 3 3 a (if a = 0 then -1 else B 3) 0 3 197 = 0 from rfl, eLi_s, if_neg (by decide), if_neg (by omega), nd0, show yn 0 0 0 (P N + 3) 0 (-1) (-1) 197 = -1 from rfl, eLi_s, if_pos (by decide)]
theorem li_5 (hg : g ≠ 0) (h5 : g ≠ 5) : eLi (yNs (ndL B P a N)) g 201 5 = 0 := by
  rw [show 201 = 198 + 1 + 1 + 1 from rfl, eLi_s, if_neg (by decide), if_neg (by omega), nd5, show yn 1 4 (3 + a) (P N - (3 + a)) N 0 4 197 = 0 from rfl, eLi_s, if_neg (by decide), if_neg (by omega), nd0, show yn 0 0 0 (P N + 3) 0 (-1) (-1) 197 = -1 from rfl, eLi_s, if_pos (by decide)]
theorem li_e {j : Nat} (hj : j < N) (hg : g ≠ 0) (h5 : g ≠ 5) (h6 : g ≠ 6 + 3 * j) (h8 : g ≠ 8 + 3 * j) : eLi (yNs (ndL B P a N)) g 201 (8 + 3 * j) = 0 := by
  obtain ⟨e1, e2, e3⟩ := nd_e (B := B) (P := P) (a := a) hj
  rw [show 201 = 196 + 1 + 1 + 1 + 1 + 1 from rfl, eLi_s, if_neg (by omega), if_neg (by omega), e3, show yn 5 21 (P j + 1) (B (P j)) (if B (P j) = 0 then -1 else B (P j + 1)) (6 + 3 * j) 9 197 = 6 + 3 * j from rfl, eLi_s, if_neg (by omega), if_neg (by omega), e1, show yn 0 1 (P j) (1 + B (P j)) 1 5 (-1) 197 = 5 from rfl, eLi_s, if_neg (by decide), if_neg (by omega), nd5, show yn 1 4 (3 + a) (P N - (3 + a)) N 0 4 197 = 0 from rfl, eLi_s, if_neg (by decide), if_neg (by omega), nd0, show yn 0 0 0 (P N + 3) 0 (-1) (-1) 197 = -1 from rfl, eLi_s, if_pos (by decide)]
theorem li_1 {m : Nat} (hg : 0 ≤ g) : eLi M g (m + 1) g = 1 := by
  rw [eLi_s, if_neg (by omega), if_pos rfl]
/-- which node tells of J: the length of d, of a v, the count of e -/
def tlN (N : Nat) (J i0 : Int) : Prop := (J = 4 ∧ i0 = 2) ∨ (J = 5 ∧ i0 = 3) ∨ ∃ j : Nat, j < N ∧ J = 8 + 3 * j ∧ i0 = 7 + 3 * j
/-- what it gets -/
def tlV (B : yB) (P : Nat → Int) (a : Int) (N : Nat) (J k g e : Int) : Int := if J = 4 then a + (if g = 0 then -k else k) else if J = 5 then N + e else yNs (ndL B P a N) J 195 + (if g = 0 then -k else k)
theorem vl_no {i : Int} (h3 : M i 192 ≠ 3) (h : M i 198 = -1 ∨ T 467 (M i 198) = 0 ∨ T 467 (M i 198) = 61 ∨ (T 467 (M i 198) ≠ 35 ∧ T 467 (M i 198) ≠ 37)) {L : Int} : eVl T M L J p k g e i = -1 := by
  have b : ¬ (yRl T (M i 198) ∧ (T 467 (M i 198) = 35 ∨ T 467 (M i 198) = 37)) := by
    rintro ⟨⟨z1, z2, z3⟩, z4⟩
    omega
  unfold eVl
  rw [if_neg h3, if_neg (fun z => b ⟨z.1, Or.inl z.2.1⟩), if_neg (fun z => b ⟨z.1, Or.inr z.2.1⟩)]
/-- what all the nodes get -/
theorem vl_e (t : tpH T) (h : LY B P a N n) {i0 : Int} (hJ : tlN N J i0) {i : Int} (h0 : 0 ≤ i) (h1 : i < 9 + 3 * N) : eVl T (yNs (ndL B P a N)) (9 + 3 * N) J p k g e i = if i = 8 + 3 * N then eRv p k g (B (P N + 2)) else if i = i0 then tlV B P a N J k g e else -1 := by
  have dJ : (2 ≤ i0 ∧ i0 < 6 + 3 * (N : Int)) ∧ (i0 = 2 ∨ i0 = 3 ∨ (7 ≤ i0 ∧ i0 % 3 = 1)) := by
    rcases hJ with ⟨-, rfl⟩ | ⟨-, rfl⟩ | ⟨j, hj, -, rfl⟩ <;> omega
  have no : i ≠ 8 + 3 * N → i ≠ i0 → eVl T (yNs (ndL B P a N)) (9 + 3 * N) J p k g e i = -1 → eVl T (yNs (ndL B P a N)) (9 + 3 * N) J p k g e i = if i = 8 + 3 * N then eRv p k g (B (P N + 2)) else if i = i0 then tlV B P a N J k g e else -1 := fun c1 c2 z => by
    rw [if_neg c1, if_neg c2]
    exact z
  rcases nd_c h0 h1 with (rfl | rfl | rfl | rfl | rfl | rfl) | ⟨j, hj, rfl | rfl | rfl⟩ | (rfl | rfl | rfl)
  · refine no (by omega) (by omega) (vl_no ?_ (Or.inl rfl))
    rw [nd0]
    exact show ¬ (0 : Int) = 3 by decide
  · refine no (by omega) (by omega) (vl_no ?_ (Or.inr (Or.inr (Or.inl t.f467_0))))
    rw [nd1]
    exact show ¬ (2 : Int) = 3 by decide
  · unfold eVl
    rw [if_neg (show ¬ yNs (ndL B P a N) 2 192 = 3 from show ¬ (2 : Int) = 3 by decide), if_neg (show ¬ (2 : Int) = 8 + 3 * N by omega), tg_2 t, show yNs (ndL B P a N) 2 198 = 1 from rfl]
    rcases hJ with ⟨rfl, rfl⟩ | ⟨rfl, rfl⟩ | ⟨j, hj, rfl, rfl⟩
    · rw [if_pos ⟨⟨by decide, by rw [t.f467_1]; decide, by rw [t.f467_1]; decide⟩, t.f467_1, li_1 (by decide)⟩, if_pos rfl]
      unfold tlV
      rw [if_pos rfl, nd4]
      rfl
    · rw [if_neg (fun z => by have := z.2.2; rw [li_5 (by decide) (by decide)] at this; exact absurd this (by decide)), if_neg (fun z => absurd (t.f467_1.symm.trans z.2.1) (by decide)), if_neg (by decide)]
    · rw [if_neg (fun z => by have := z.2.2; rw [li_e hj (by omega) (by omega) (by omega) (by omega)] at this; exact absurd this (by decide)), if_neg (fun z => absurd (t.f467_1.symm.trans z.2.1) (by decide)), if_neg (by omega)]
  · unfold eVl
    rw [if_neg (show ¬ yNs (ndL B P a N) 3 192 = 3 from show ¬ (2 : Int) = 3 by decide), if_neg (show ¬ (3 : Int) = 8 + 3 * N by omega), tg_3 t, show yNs (ndL B P a N) 3 198 = 2 from rfl, if_neg (fun z => absurd (t.f467_2.symm.trans z.2.1) (by decide))]
    rcases hJ with ⟨rfl, rfl⟩ | ⟨rfl, rfl⟩ | ⟨j, hj, rfl, rfl⟩
    · rw [if_neg (fun z => absurd z.2.2 (by decide)), if_neg (by decide)]
    · rw [if_pos ⟨⟨by decide, by rw [t.f467_2]; decide, by rw [t.f467_2]; decide⟩, t.f467_2, rfl⟩, if_pos rfl]
      unfold tlV
      rw [if_neg (by decide), if_pos rfl, nd5]
      rfl
    · rw [if_neg (fun z => by have := z.2.2; omega), if_neg (by omega)]
  · refine no (by omega) (by omega) (vl_no ?_ (Or.inr (Or.inl t.f467_3)))
    rw [nd4]
    exact show ¬ (5 : Int) = 3 by decide
  · refine no (by omega) (by omega) (vl_no ?_ (Or.inr (Or.inl t.f467_4)))
    rw [nd5]
    exact show ¬ (1 : Int) = 3 by decide
  · refine no (by omega) (by omega) (vl_no ?_ (Or.inl (by rw [(nd_e hj).1]; rfl)))
    rw [(nd_e hj).1]
    exact show ¬ (0 : Int) = 3 by decide
  · obtain ⟨e1, e2, e3⟩ := nd_e (B := B) (P := P) (a := a) hj
    have k3 : ¬ yNs (ndL B P a N) (7 + 3 * j) 192 = 3 := by
      rw [e2]
      exact show ¬ (2 : Int) = 3 by decide
    have k8 : yNs (ndL B P a N) (7 + 3 * j) 198 = 8 := by
      rw [e2]
      rfl
    unfold eVl
    rw [if_neg k3, if_neg (show ¬ (7 + 3 * (j : Int)) = 8 + 3 * N by omega), tg_t t hj, k8]
    rcases hJ with ⟨rfl, rfl⟩ | ⟨rfl, rfl⟩ | ⟨j', hj', rfl, rfl⟩
    · rw [if_neg (fun z => by have := z.2.2; rw [li_4 (by omega) (by omega)] at this; exact absurd this (by decide)), if_neg (fun z => absurd (t.f467_8.symm.trans z.2.1) (by decide)), if_neg (by omega)]
    · rw [if_neg (fun z => by have := z.2.2; rw [li_5 (by omega) (by omega)] at this; exact absurd this (by decide)), if_neg (fun z => absurd (t.f467_8.symm.trans z.2.1) (by decide)), if_neg (by omega)]
    · by_cases c : j = j'
      · subst c
        rw [if_pos ⟨⟨by decide, by rw [t.f467_8]; decide, by rw [t.f467_8]; decide⟩, t.f467_8, li_1 (by omega)⟩, if_pos rfl]
        unfold tlV
        rw [if_neg (show ¬ (8 + 3 * (j : Int)) = 4 by omega), if_neg (show ¬ (8 + 3 * (j : Int)) = 5 by omega)]
      · rw [if_neg (fun z => by have := z.2.2; rw [li_e hj' (by omega) (by omega) (by omega) (by omega)] at this; exact absurd this (by decide)), if_neg (fun z => absurd (t.f467_8.symm.trans z.2.1) (by decide)), if_neg (by omega)]
  · refine no (by omega) (by omega) (vl_no ?_ (Or.inr (Or.inl (by rw [(nd_e hj).2.2]; exact t.f467_9))))
    rw [(nd_e hj).2.2]
    exact show ¬ (5 : Int) = 3 by decide
  · refine no (by omega) (by omega) (vl_no ?_ (Or.inr (Or.inr (Or.inr (by rw [nd_l.1, show yn 2 2 (P N) 1 (B (P N)) 0 5 198 = 5 from rfl, t.f467_5]; decide)))))
    rw [nd_l.1]
    exact show ¬ (2 : Int) = 3 by decide
  · refine no (by omega) (by omega) (vl_no ?_ (Or.inr (Or.inr (Or.inr (by rw [nd_l.2.1, show yn 2 23 (P N + 1) 1 (B (P N + 1)) 0 6 198 = 6 from rfl, t.f467_6]; decide)))))
    rw [nd_l.2.1]
    exact show ¬ (2 : Int) = 3 by decide
  · have k3 : yNs (ndL B P a N) (8 + 3 * N) 192 = 3 := by
      rw [nd_l.2.2]
      rfl
    have k6 : yNs (ndL B P a N) (8 + 3 * N) 196 = B (P N + 2) := by
      rw [nd_l.2.2]
      rfl
    unfold eVl
    rw [if_pos k3, if_pos rfl, k6]
theorem eMv_no {m : Nat} : ∀ (m : Nat) (k : Int) (F : yB), (∀ i, k ≤ i → i < k + m → V i = -1) → eMv T M V m k F = F
  | 0, _, _, _ => rfl
  | m + 1, k, F, h => by
    unfold eMv
    rw [if_pos (h k (Int.le_refl _) (by omega))]
    exact eMv_no (m := 0) m (k + 1) F fun i i1 i2 => h i (by omega) (by omega)
theorem eMv_app : ∀ (m1 m2 : Nat) (k : Int) (F : yB), eMv T M V (m1 + m2) k F = eMv T M V m2 (k + m1) (eMv T M V m1 k F)
  | 0, m2, k, F => by
    rw [Nat.zero_add, show k + ((0 : Nat) : Int) = k by omega]
    rfl
  | m1 + 1, m2, k, F => by
    rw [show m1 + 1 + m2 = (m1 + m2) + 1 by omega]
    show eMv T M V (m1 + m2) (k + 1) (if V k = -1 then F else eW T M k (V k) F) = eMv T M V m2 (k + ((m1 + 1 : Nat) : Int)) (eMv T M V m1 (k + 1) (if V k = -1 then F else eW T M k (V k) F))
    rw [eMv_app m1 m2 (k + 1), show k + 1 + (m1 : Int) = k + ((m1 + 1 : Nat) : Int) by omega]
/-- the bytes with both written -/
theorem mv_e (t : tpH T) (h : LY B P a N n) {i0 : Int} (hJ : tlN N J i0) (hr : 0 ≤ eRv p k g (B (P N + 2))) (hv : 0 ≤ tlV B P a N J k g e) : eMv T (yNs (ndL B P a N)) (eVl T (yNs (ndL B P a N)) (9 + 3 * N) J p k g e) (9 + 3 * (N : Int)).toNat 0 B = fun i => if i = P N + 2 then eRv p k g (B (P N + 2)) else if i = yNs (ndL B P a N) i0 194 then tlV B P a N J k g e else B i := by
  have dJ : (2 ≤ i0 ∧ i0 < 8 + 3 * (N : Int)) ∧ T 458 (yNs (ndL B P a N) i0 198) = 98 := by
    rcases hJ with ⟨-, rfl⟩ | ⟨-, rfl⟩ | ⟨j, hj, -, rfl⟩
    · exact ⟨by omega, t.f458_1⟩
    · exact ⟨by omega, t.f458_2⟩
    · exact ⟨by omega, by rw [(nd_e hj).2.1]; exact t.f458_8⟩
  have vl := fun (i : Int) (h0 : 0 ≤ i) (h1 : i < 9 + 3 * (N : Int)) => vl_e (p := p) (k := k) (g := g) (e := e) t h hJ h0 h1
  generalize eVl T (yNs (ndL B P a N)) (9 + 3 * N) J p k g e = V at vl
  have s1 : (9 + 3 * (N : Int)).toNat = i0.toNat + (1 + ((8 + 3 * (N : Int) - i0 - 1).toNat + 1)) := by omega
  have z1 : eMv T (yNs (ndL B P a N)) V i0.toNat 0 B = B := eMv_no (m := 0) _ _ _ fun i i1 i2 => by rw [vl i i1 (by omega), if_neg (by omega), if_neg (by omega)]
  have z3 : ∀ G, eMv T (yNs (ndL B P a N)) V (8 + 3 * (N : Int) - i0 - 1).toNat (i0 + ((1 : Nat) : Int)) G = G := fun G => eMv_no (m := 0) _ _ _ fun i i1 i2 => by rw [vl i (by omega) (by omega), if_neg (by omega), if_neg (by omega)]
  rw [s1, eMv_app, z1, show (0 + (i0.toNat : Int)) = i0 by omega, eMv_app]
  have s2 : eMv T (yNs (ndL B P a N)) V 1 i0 B = fun i => if i = yNs (ndL B P a N) i0 194 then tlV B P a N J k g e else B i := by
    show (if V i0 = -1 then B else eW T (yNs (ndL B P a N)) i0 (V i0) B) = _
    rw [vl i0 (by omega) (by omega), if_neg (by omega), if_pos rfl, if_neg (by omega), eW_98 (Or.inl dJ.2)]
  rw [s2, eMv_app, z3]
  rw [show i0 + ((1 : Nat) : Int) + (((8 + 3 * (N : Int) - i0 - 1).toNat : Nat) : Int) = 8 + 3 * N by omega]
  show (if V (8 + 3 * N) = -1 then _ else eW T (yNs (ndL B P a N)) (8 + 3 * N) (V (8 + 3 * N)) _) = _
  have k7 : yNs (ndL B P a N) (8 + 3 * N) 198 = 7 := by
    rw [nd_l.2.2]
    rfl
  have k4 : yNs (ndL B P a N) (8 + 3 * N) 194 = P N + 2 := by
    rw [nd_l.2.2]
    rfl
  rw [vl _ (by omega) (by omega), if_pos rfl, if_neg (by omega), eW_98 (Or.inr (by rw [k7]; exact t.f458_7)), k4]
theorem eFg_11 : ∀ (m : Nat) (k : Int), (∀ i, k ≤ i → i < k + m → ¬ (M i 192 = 3 ∧ 255 < V i)) → eFg M V m k = 1
  | 0, _, _ => rfl
  | m + 1, k, h => by
    unfold eFg
    rw [if_neg (h k (Int.le_refl _) (by omega))]
    exact eFg_11 m (k + 1) fun i i1 i2 => h i (by omega) (by omega)
theorem eFg_00 {j : Int} (hj : M j 192 = 3 ∧ 255 < V j) : ∀ (m : Nat) (k : Int), k ≤ j → j < k + m → eFg M V m k = 0
  | 0, k, h1, h2 => by omega
  | m + 1, k, h1, h2 => by
    unfold eFg
    by_cases c : M k 192 = 3 ∧ 255 < V k
    · rw [if_pos c]
    · rw [if_neg c]
      refine eFg_00 hj m (k + 1) ?_ (by omega)
      by_cases d : k = j
      · subst d
        exact absurd hj c
      · omega
theorem fg_e (t : tpH T) (h : LY B P a N n) {i0 : Int} (hJ : tlN N J i0) : eFg (yNs (ndL B P a N)) (eVl T (yNs (ndL B P a N)) (9 + 3 * N) J p k g e) (9 + 3 * (N : Int)).toNat 0 = if 255 < eRv p k g (B (P N + 2)) then 0 else 1 := by
  have vl := fun (i : Int) (h0 : 0 ≤ i) (h1 : i < 9 + 3 * (N : Int)) => vl_e (p := p) (k := k) (g := g) (e := e) t h hJ h0 h1
  generalize eVl T (yNs (ndL B P a N)) (9 + 3 * N) J p k g e = V at vl
  have k3 : yNs (ndL B P a N) (8 + 3 * N) 192 = 3 := by
    rw [nd_l.2.2]
    rfl
  by_cases c : 255 < eRv p k g (B (P N + 2))
  · rw [if_pos c]
    refine eFg_00 (j := 8 + 3 * (N : Int)) ⟨k3, ?_⟩ _ _ (by omega) (by omega)
    rw [vl _ (by omega) (by omega), if_pos rfl]
    exact c
  · rw [if_neg c]
    refine eFg_11 _ _ fun i i1 i2 => ?_
    by_cases d : i = 8 + 3 * (N : Int)
    · rw [vl i i1 (by omega), if_pos d]
      exact fun z => c z.2
    · rintro ⟨z1, -⟩
      rcases nd_c (N := N) i1 (by omega) with (rfl | rfl | rfl | rfl | rfl | rfl) | ⟨j, hj, rfl | rfl | rfl⟩ | (rfl | rfl | rfl)
      · exact absurd (show (0 : Int) = 3 from z1) (by decide)
      · exact absurd (show (2 : Int) = 3 from z1) (by decide)
      · exact absurd (show (2 : Int) = 3 from z1) (by decide)
      · exact absurd (show (2 : Int) = 3 from z1) (by decide)
      · exact absurd (show (5 : Int) = 3 from z1) (by decide)
      · exact absurd (show (1 : Int) = 3 from z1) (by decide)
      · rw [(nd_e hj).1] at z1
        exact absurd (show (0 : Int) = 3 from z1) (by decide)
      · rw [(nd_e hj).2.1] at z1
        exact absurd (show (2 : Int) = 3 from z1) (by decide)
      · rw [(nd_e hj).2.2] at z1
        exact absurd (show (5 : Int) = 3 from z1) (by decide)
      · rw [nd_l.1] at z1
        exact absurd (show (2 : Int) = 3 from z1) (by decide)
      · rw [nd_l.2.1] at z1
        exact absurd (show (2 : Int) = 3 from z1) (by decide)
      · exact d rfl
end
