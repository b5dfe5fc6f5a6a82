/-! AN EDIT'S SETTLING: the sums are written, nothing else -/
section
variable {T : yT} {B F : yB} {P : Nat → Int} {a n : Int} {N : Nat} {M : Int → yN}
theorem yBy_c {h : Int} : ∀ (m : Nat) (p v : Int), (∀ i, p ≤ i → i < p + m → F i = B i) → yBy F h m p v = yBy B h m p v
  | 0, _, _, _ => rfl
  | m + 1, p, v, e => by
    unfold yBy
    rw [e p (Int.le_refl _) (by omega)]
    exact yBy_c m (p + 1) _ fun i i1 i2 => e i (by omega) (by omega)
theorem LY.cg (h : LY B P a N n) (e : ∀ i, 0 ≤ i → i < P N → F i = B i) : LY F P a N n := by
  have hb := h.b (i := 0) (Nat.zero_le _)
  obtain ⟨q1, q2, q3, q4, q5, q6, q7, q8⟩ := id h
  refine ⟨q1, (e 0 (by omega) (by omega)).trans q2, (e 1 (by omega) (by omega)).trans q3, (e 2 (by omega) (by omega)).trans q4, q5, q6, fun j hj => ?_, q8⟩
  have b1 := h.b (i := j) (by omega)
  have b2 := h.le (i := j) (j := N) (by omega) (Nat.le_refl _)
  rw [e (P j) (by omega) (by omega)]
  exact q7 j hj
theorem eW_98 {k v : Int} (h : T 458 (M k 198) = 98 ∨ T 458 (M k 198) = 114) : eW T M k v F = fun i => if i = M k 194 then v else F i := by
  funext i
  unfold eW
  rw [if_neg (by omega), if_neg (by omega), if_neg (by omega)]
theorem eRd_00 {h : Int → Int} {e : Int} : ∀ (m : Nat) (j : Int), (∀ i, j ≤ i → i < j + m → h i = 1 → e ≤ M i 194) → eRd M h e m j = 0
  | 0, _, _ => rfl
  | m + 1, j, H => by
    unfold eRd
    rw [if_neg (fun z => by have := H j (Int.le_refl _) (by omega) z.1; omega)]
    exact eRd_00 m (j + 1) fun i i1 i2 => H i (by omega) (by omega)
theorem eFs_at {L j : Int} {h : Int → Int} : ∀ (m : Nat) (k : Int), k ≤ j → j < k + m → h j = 1 → eRd M h (M (yTg T M L j) 194 + M (yTg T M L j) 195) (L - yTg T M L j).toNat (yTg T M L j) = 0 → (∀ i, k ≤ i → i < j → h i ≠ 1) → eFs T M L h m k = j
  | 0, k, h1, h2, _, _, _ => by omega
  | m + 1, k, h1, h2, h3, h4, h5 => by
    unfold eFs
    by_cases c : k = j
    · subst c
      rw [if_pos ⟨h3, h4⟩]
    · rw [if_neg (fun z => h5 k (Int.le_refl _) (by omega) z.1)]
      exact eFs_at m (k + 1) (by omega) (by omega) h3 h4 fun i i1 i2 => h5 i (by omega) i2
theorem lf_e (t : tpH T) {k : Int} (h0 : 0 ≤ k) (h1 : k < 9 + 3 * N) : eLf T (yNs (ndL B P a N)) k = if k = 6 + 3 * N ∨ k = 7 + 3 * N then 1 else 0 := by
  have no : ¬ (k = 6 + 3 * N ∨ k = 7 + 3 * (N : Int)) → (yNs (ndL B P a N) k 198 = -1 ∨ ¬ (T 467 (yNs (ndL B P a N) k 198) = 43 ∨ T 467 (yNs (ndL B P a N) k 198) = 94)) → eLf T (yNs (ndL B P a N)) k = if k = 6 + 3 * N ∨ k = 7 + 3 * N then 1 else 0 := fun d c => by
    unfold eLf
    rw [if_neg d, if_neg]
    rintro ⟨z1, z2⟩
    rcases c with c | c
    · exact z1 c
    · exact c z2
  rcases nd_c h0 h1 with (rfl | rfl | rfl | rfl | rfl | rfl) | ⟨j, hj, rfl | rfl | rfl⟩ | (rfl | rfl | rfl)
  · exact no (by omega) (Or.inl rfl)
  · exact no (by omega) (Or.inr (by rw [nd1, show yn 2 12 0 1 (B 0) 0 0 198 = 0 from rfl, t.f467_0]; decide))
  · exact no (by omega) (Or.inr (by rw [nd2, show yn 2 11 1 1 (B 1) 0 1 198 = 1 from rfl, t.f467_1]; decide))
  · exact no (by omega) (Or.inr (by rw [nd3, show yn 2 13 2 1 (B 2) 0 2 198 = 2 from rfl, t.f467_2]; decide))
  · exact no (by omega) (Or.inr (by rw [nd4, show yn 5 3 3 a (if a = 0 then -1 else B 3) 0 3 198 = 3 from rfl, t.f467_3]; decide))
  · exact no (by omega) (Or.inr (by rw [nd5, show yn 1 4 (3 + a) (P N - (3 + a)) N 0 4 198 = 4 from rfl, t.f467_4]; decide))
  · exact no (by omega) (Or.inl (by rw [(nd_e hj).1]; rfl))
  · exact no (by omega) (Or.inr (by rw [(nd_e hj).2.1, show yn 2 19 (P j) 1 (B (P j)) (6 + 3 * j) 8 198 = 8 from rfl, t.f467_8]; decide))
  · exact no (by omega) (Or.inr (by rw [(nd_e hj).2.2, show yn 5 21 (P j + 1) (B (P j)) (if B (P j) = 0 then -1 else B (P j + 1)) (6 + 3 * j) 9 198 = 9 from rfl, t.f467_9]; decide))
  · unfold eLf
    rw [nd_l.1, show yn 2 2 (P N) 1 (B (P N)) 0 5 198 = 5 from rfl, t.f467_5, if_pos (by decide), if_pos (Or.inl rfl)]
  · unfold eLf
    rw [nd_l.2.1, show yn 2 23 (P N + 1) 1 (B (P N + 1)) 0 6 198 = 6 from rfl, t.f467_6, if_pos (by decide), if_pos (Or.inr rfl)]
  · exact no (by omega) (Or.inr (by rw [nd_l.2.2, show yn 3 17 (P N + 2) 1 (B (P N + 2)) 0 7 198 = 7 from rfl, t.f467_7]; decide))
theorem lc_2 (t : tpH T) : eLc T (yNs (ndL B P a N)) (ndL B P a N).length = 2 := by
  unfold eLc
  rw [ndL_len, show ((9 + 3 * N : Nat) : Int).toNat = (6 + 3 * N) + 3 by omega, ySm_app, ySm_0]
  · show (0 + (eLf T (yNs (ndL B P a N)) (0 + ((6 + 3 * N : Nat) : Int)) + (eLf T (yNs (ndL B P a N)) (0 + ((6 + 3 * N : Nat) : Int) + 1) + (eLf T (yNs (ndL B P a N)) (0 + ((6 + 3 * N : Nat) : Int) + 1 + 1) + 0)))).toNat = 2
    rw [lf_e t (by omega) (by omega), lf_e t (by omega) (by omega), lf_e t (by omega) (by omega), if_pos (by omega), if_pos (by omega), if_neg (by omega)]
    rfl
  · intro i i1 i2
    rw [lf_e t i1 (by omega), if_neg (by omega)]
theorem ED (t : tpH T) (h : LY F P a N n) : ∃ Z, eEd T n F = some Z ∧ LY Z P a N n ∧ LSm Z P a N ∧ ∀ i, i ≠ P N → i ≠ P N + 1 → Z i = F i := by
  obtain ⟨m, w, e⟩ := h.rd t
  have hb := h.b (i := 0) (Nat.zero_le _)
  have q1 := h.1
  have S : eSt T n 5 F = some F := by
    unfold eSt
    rw [e]
    dsimp only
    rw [if_pos (mc_0 t h)]
  have L9 : ((ndL F P a N).length : Int) = 9 + 3 * (N : Int) := by
    rw [ndL_len]
    omega
  have f1 : eFs T (yNs (ndL F P a N)) (9 + 3 * N) (eLf T (yNs (ndL F P a N))) (9 + 3 * (N : Int)).toNat 0 = 6 + 3 * N := by
    refine eFs_at _ _ (by omega) (by omega) ?_ ?_ fun i i1 i2 => ?_
    · rw [lf_e t (by omega) (by omega), if_pos (Or.inl rfl)]
    · rw [tg_c t]
      refine eRd_00 _ _ fun i i1 i2 i3 => ?_
      rw [lf_e t (by omega) (by omega)] at i3
      by_cases c : i = 6 + 3 * N ∨ i = 7 + 3 * N
      · show 3 + a ≤ _
        rcases c with rfl | rfl
        · rw [nd_l.1]
          show 3 + a ≤ P N
          omega
        · rw [nd_l.2.1]
          show 3 + a ≤ P N + 1
          omega
      · rw [if_neg c] at i3
        exact absurd i3 (by decide)
    · rw [lf_e t i1 (by omega), if_neg (by omega)]
      decide
  have f2 : eFs T (yNs (ndL F P a N)) (9 + 3 * N) (fun i => if i = 6 + 3 * N then 0 else eLf T (yNs (ndL F P a N)) i) (9 + 3 * (N : Int)).toNat 0 = 7 + 3 * N := by
    refine eFs_at _ _ (by omega) (by omega) ?_ ?_ fun i i1 i2 => ?_
    · rw [if_neg (by omega), lf_e t (by omega) (by omega), if_pos (Or.inr rfl)]
    · rw [tg_x t]
      refine eRd_00 _ _ fun i i1 i2 i3 => ?_
      by_cases d : i = 6 + 3 * (N : Int)
      · rw [if_pos d] at i3
        exact absurd i3 (by decide)
      rw [if_neg d, lf_e t (by omega) (by omega)] at i3
      by_cases c : i = 7 + 3 * (N : Int)
      · show 3 + a + (P N - (3 + a)) ≤ _
        rw [c, nd_l.2.1]
        show 3 + a + (P N - (3 + a)) ≤ P N + 1
        omega
      · rw [if_neg (by omega)] at i3
        exact absurd i3 (by decide)
    · by_cases d : i = 6 + 3 * (N : Int)
      · rw [if_pos d]
        decide
      · rw [if_neg d, lf_e t i1 (by omega), if_neg (by omega)]
        decide
  have c5 : yNs (ndL F P a N) (6 + 3 * N) 198 = 5 := by
    rw [nd_l.1]
    rfl
  have c6 : yNs (ndL F P a N) (7 + 3 * N) 198 = 6 := by
    rw [nd_l.2.1]
    rfl
  have p5 : yNs (ndL F P a N) (6 + 3 * N) 194 = P N := by
    rw [nd_l.1]
    rfl
  have p6 : yNs (ndL F P a N) (7 + 3 * N) 194 = P N + 1 := by
    rw [nd_l.2.1]
    rfl
  obtain ⟨v1, hv1⟩ : ∃ v, v = yCut (yBy F 43 a.toNat 3 0) 8 := ⟨_, rfl⟩
  obtain ⟨F1, hF1⟩ : ∃ G : yB, G = fun i => if i = P N then v1 else F i := ⟨_, rfl⟩
  obtain ⟨v2, hv2⟩ : ∃ v, v = yCut (yBy F1 94 (P N - (3 + a)).toNat (3 + a) 0) 8 := ⟨_, rfl⟩
  obtain ⟨F2, hF2⟩ : ∃ G : yB, G = fun i => if i = P N + 1 then v2 else F1 i := ⟨_, rfl⟩
  have U : eSu T (yNs (ndL F P a N)) (9 + 3 * N) 2 (eLf T (yNs (ndL F P a N))) F = some F2 := by
    unfold eSu
    rw [f1, if_neg (by omega), du_c t, eW_98 (Or.inl (by rw [c5]; exact t.f458_5)), p5, ← hv1, ← hF1]
    unfold eSu
    rw [f2, if_neg (by omega), du_x t, eW_98 (Or.inl (by rw [c6]; exact t.f458_6)), p6, ← hv2, ← hF2]
    rfl
  have g2 : ∀ i, i ≠ P N → i ≠ P N + 1 → F2 i = F i := fun i i1 i2 => by
    rw [hF2, hF1]
    dsimp only
    rw [if_neg i2, if_neg i1]
  have l2 : LY F2 P a N n := h.cg fun i i1 i2 => g2 i (by omega) (by omega)
  have s2 : LSm F2 P a N := by
    constructor
    · rw [hF2]
      dsimp only
      rw [if_neg (by omega), ← hF2, hF1]
      dsimp only
      rw [if_pos rfl, hv1]
      rw [yBy_c (F := F2) (B := F) _ _ _ fun i i1 i2 => g2 i (by omega) (by omega)]
    · rw [yBy_c (F := F2) (B := F1) _ _ _ fun i i1 i2 => by rw [hF2]; exact if_neg (by omega), ← hv2, hF2]
      exact if_pos rfl
  refine ⟨F2, ?_, l2, s2, g2⟩
  obtain ⟨m2, w2, e2⟩ := l2.rd t
  have K : eFi T n F2 = 1 := by
    unfold eFi
    rw [e2]
    dsimp only
    rw [if_pos (ws_0 t l2 s2)]
  unfold eEd
  rw [S]
  dsimp only
  rw [e]
  dsimp only
  rw [lc_2 t, L9, U]
  dsimp only
  rw [if_pos K]
end
