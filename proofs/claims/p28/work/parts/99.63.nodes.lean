/-! THE NODES OF A FILE of the law's template, and what an edit's settling makes of its bytes -/
section
variable {T : yT} {B F : yB} {P : Nat → Int} {a n : Int} {N : Nat}
/-- the bytes lie as they should, but for the sums; P tells where the elements begin -/
def LY (B : yB) (P : Nat → Int) (a : Int) (N : Nat) (n : Int) : Prop := P 0 = 3 + a ∧ B 0 = 77 ∧ B 1 = a ∧ B 2 = N ∧ (0 ≤ a ∧ a ≤ 20) ∧ N ≤ 7 ∧ (∀ j, j < N → P (j + 1) = P j + 1 + B (P j) ∧ 0 ≤ B (P j) ∧ B (P j) ≤ 7) ∧ n = P N + 5
theorem LY.up (h : LY B P a N n) : ∀ (m i : Nat), i + m ≤ N → P i + m ≤ P (i + m) ∧ P (i + m) ≤ P i + 8 * m
  | 0, i, _ => by
    show P i + ((0 : Nat) : Int) ≤ P i ∧ P i ≤ P i + 8 * ((0 : Nat) : Int)
    omega
  | m + 1, i, hi => by
    obtain ⟨h1, h2⟩ := LY.up h m i (by omega)
    obtain ⟨q1, q2, q3⟩ := h.2.2.2.2.2.2.1 (i + m) (by omega)
    rw [show i + (m + 1) = i + m + 1 from rfl]
    omega
theorem LY.le (h : LY B P a N n) {i j : Nat} (hij : i ≤ j) (hj : j ≤ N) : P i + ((j : Int) - i) ≤ P j := by
  obtain ⟨q, -⟩ := h.up (j - i) i (by omega)
  rw [show i + (j - i) = j by omega] at q
  omega
theorem LY.b (h : LY B P a N n) {i : Nat} (hi : i ≤ N) : 3 + a ≤ P i ∧ P i ≤ P N ∧ P N ≤ 79 := by
  have h1 := h.le (Nat.zero_le i) hi
  have h2 := h.le hi (Nat.le_refl N)
  obtain ⟨-, h3⟩ := h.up N 0 (by omega)
  rw [Nat.zero_add] at h3
  obtain ⟨q1, -, -, -, q5, q6, -⟩ := h
  omega
theorem LY.rd (h : LY B P a N n) (t : tpH T) : ∃ m w, yTop T B n 0 0 = .inr (P N + 3, m, w, ndL B P a N) := by
  obtain ⟨q1, q2, q3, q4, q5, q6, q7, q8⟩ := id h
  refine RD t q1 q2 q3 q4 (by omega) (by omega) (fun j hj => ?_) (by omega)
  obtain ⟨z1, z2, z3⟩ := q7 j hj
  exact ⟨z1, by omega, (h.b (i := j + 1) (by omega)).2.1⟩
theorem elL_get {pa : Int} : ∀ (m i : Nat) (cnt : Int) (j : Nat), j < m → (elL B P pa m i cnt)[3 * j]? = some (yn 0 1 (P (i + j)) (1 + B (P (i + j))) 1 pa (-1)) ∧ (elL B P pa m i cnt)[3 * j + 1]? = some (yn 2 19 (P (i + j)) 1 (B (P (i + j))) (cnt + 3 * j) 8) ∧ (elL B P pa m i cnt)[3 * j + 2]? = some (yn 5 21 (P (i + j) + 1) (B (P (i + j))) (if B (P (i + j)) = 0 then -1 else B (P (i + j) + 1)) (cnt + 3 * j) 9)
  | 0, _, _, _, hj => by omega
  | m + 1, i, cnt, 0, _ => by
    rw [show cnt + 3 * ((0 : Nat) : Int) = cnt by omega]
    exact ⟨rfl, rfl, rfl⟩
  | m + 1, i, cnt, j + 1, hj => by
    obtain ⟨h1, h2, h3⟩ := elL_get (pa := pa) m (i + 1) (cnt + 3) j (by omega)
    rw [show i + 1 + j = i + (j + 1) by omega] at h1 h2 h3
    rw [show cnt + 3 + 3 * (j : Int) = cnt + 3 * ((j + 1 : Nat) : Int) by omega] at h2 h3
    rw [show 3 * (j + 1) = 3 * j + 3 by omega, show 3 * j + 3 + 1 = 3 * j + 1 + 3 by omega, show 3 * j + 3 + 2 = 3 * j + 2 + 3 by omega]
    refine ⟨?_, ?_, ?_⟩
    · exact h1
    · exact h2
    · exact h3
theorem ndL_len : (ndL B P a N).length = 9 + 3 * N := by
  unfold ndL
  simp only [List.length_cons, List.length_append, elL_len, List.length_nil]
  omega
theorem nd_at {l : List yN} {k : Nat} {x : yN} (h : l[k]? = some x) : yNs l (k : Int) = x := by
  unfold yNs
  rw [Int.toNat_natCast, h]
  rfl
theorem nd0 : yNs (ndL B P a N) 0 = yn 0 0 0 (P N + 3) 0 (-1) (-1) := rfl
theorem nd1 : yNs (ndL B P a N) 1 = yn 2 12 0 1 (B 0) 0 0 := rfl
theorem nd2 : yNs (ndL B P a N) 2 = yn 2 11 1 1 (B 1) 0 1 := rfl
theorem nd3 : yNs (ndL B P a N) 3 = yn 2 13 2 1 (B 2) 0 2 := rfl
theorem nd4 : yNs (ndL B P a N) 4 = yn 5 3 3 a (if a = 0 then -1 else B 3) 0 3 := rfl
theorem nd5 : yNs (ndL B P a N) 5 = yn 1 4 (3 + a) (P N - (3 + a)) N 0 4 := rfl
theorem ndL_6 {k : Nat} : (ndL B P a N)[6 + k]? = (elL B P 5 N 0 6 ++ [yn 2 2 (P N) 1 (B (P N)) 0 5, yn 2 23 (P N + 1) 1 (B (P N + 1)) 0 6, yn 3 17 (P N + 2) 1 (B (P N + 2)) 0 7])[k]? := by
  rw [Nat.add_comm]
  rfl
theorem nd_e {j : Nat} (hj : j < N) : yNs (ndL B P a N) (6 + 3 * j) = yn 0 1 (P j) (1 + B (P j)) 1 5 (-1) ∧ yNs (ndL B P a N) (7 + 3 * j) = yn 2 19 (P j) 1 (B (P j)) (6 + 3 * j) 8 ∧ yNs (ndL B P a N) (8 + 3 * j) = yn 5 21 (P j + 1) (B (P j)) (if B (P j) = 0 then -1 else B (P j + 1)) (6 + 3 * j) 9 := by
  obtain ⟨h1, h2, h3⟩ := elL_get (B := B) (P := P) (pa := 5) N 0 6 j hj
  rw [Nat.zero_add] at h1 h2 h3
  have hl := elL_len (B := B) (P := P) (pa := 5) N 0 6
  refine ⟨?_, ?_, ?_⟩
  · rw [show (6 + 3 * (j : Int)) = ((6 + 3 * j : Nat) : Int) by omega]
    refine nd_at ?_
    rw [ndL_6, List.getElem?_append_left (by omega)]
    exact h1
  · rw [show (7 + 3 * (j : Int)) = ((6 + (3 * j + 1) : Nat) : Int) by omega]
    refine nd_at ?_
    rw [ndL_6, List.getElem?_append_left (by omega)]
    exact h2
  · rw [show (8 + 3 * (j : Int)) = ((6 + (3 * j + 2) : Nat) : Int) by omega]
    refine nd_at ?_
    rw [ndL_6, List.getElem?_append_left (by omega)]
    exact h3
theorem nd_l : yNs (ndL B P a N) (6 + 3 * N) = yn 2 2 (P N) 1 (B (P N)) 0 5 ∧ yNs (ndL B P a N) (7 + 3 * N) = yn 2 23 (P N + 1) 1 (B (P N + 1)) 0 6 ∧ yNs (ndL B P a N) (8 + 3 * N) = yn 3 17 (P N + 2) 1 (B (P N + 2)) 0 7 := by
  have hl := elL_len (B := B) (P := P) (pa := 5) N 0 6
  refine ⟨?_, ?_, ?_⟩
  · rw [show (6 + 3 * (N : Int)) = ((6 + 3 * N : Nat) : Int) by omega]
    refine nd_at ?_
    rw [ndL_6, List.getElem?_append_right (by omega), hl, Nat.sub_self]
    rfl
  · rw [show (7 + 3 * (N : Int)) = ((6 + (3 * N + 1) : Nat) : Int) by omega]
    refine nd_at ?_
    rw [ndL_6, List.getElem?_append_right (by omega), hl, Nat.add_sub_cancel_left]
    rfl
  · rw [show (8 + 3 * (N : Int)) = ((6 + (3 * N + 2) : Nat) : Int) by omega]
    refine nd_at ?_
    rw [ndL_6, List.getElem?_append_right (by omega), hl, Nat.add_sub_cancel_left]
    rfl
/-- which node a number is -/
theorem nd_c {k : Int} (h0 : 0 ≤ k) (h1 : k < 9 + 3 * N) : (k = 0 ∨ k = 1 ∨ k = 2 ∨ k = 3 ∨ k = 4 ∨ k = 5) ∨ (∃ j : Nat, j < N ∧ (k = 6 + 3 * j ∨ k = 7 + 3 * j ∨ k = 8 + 3 * j)) ∨ (k = 6 + 3 * N ∨ k = 7 + 3 * N ∨ k = 8 + 3 * N) := by
  by_cases c : k < 6
  · left
    omega
  · right
    by_cases d : k < 6 + 3 * N
    · left
      exact ⟨((k - 6) / 3).toNat, by omega, by omega⟩
    · right
      omega
theorem yFi_at {M : Int → yN} {p f j : Int} : ∀ (m : Nat) (k : Int), k ≤ j → j < k + m → M j 197 = p → M j 198 = f → (∀ i, k ≤ i → i < j → ¬ (M i 197 = p ∧ M i 198 = f)) → yFi M p f m k = j
  | 0, k, h1, h2, _, _, _ => by omega
  | m + 1, k, h1, h2, h3, h4, h5 => by
    unfold yFi
    by_cases c : k = j
    · subst c
      rw [if_pos ⟨h3, h4⟩]
    · rw [if_neg (h5 k (Int.le_refl _) (by omega))]
      exact yFi_at m (k + 1) (by omega) (by omega) h3 h4 fun i i1 i2 => h5 i (by omega) i2
theorem yFi_4 {i : Int} (i1 : 1 ≤ i) (i2 : i < 4) : ¬ (yNs (ndL B P a N) i 197 = 0 ∧ yNs (ndL B P a N) i 198 = 3) := by
  have c : i = 1 ∨ i = 2 ∨ i = 3 := by omega
  rcases c with rfl | rfl | rfl
  · rw [nd1]
    exact fun z => absurd (show (0 : Int) = 3 from z.2) (by decide)
  · rw [nd2]
    exact fun z => absurd (show (1 : Int) = 3 from z.2) (by decide)
  · rw [nd3]
    exact fun z => absurd (show (2 : Int) = 3 from z.2) (by decide)
theorem yFi_5 {i : Int} (i1 : 1 ≤ i) (i2 : i < 5) : ¬ (yNs (ndL B P a N) i 197 = 0 ∧ yNs (ndL B P a N) i 198 = 4) := by
  have c : i = 1 ∨ i = 2 ∨ i = 3 ∨ i = 4 := by omega
  rcases c with rfl | rfl | rfl | rfl
  · rw [nd1]
    exact fun z => absurd (show (0 : Int) = 4 from z.2) (by decide)
  · rw [nd2]
    exact fun z => absurd (show (1 : Int) = 4 from z.2) (by decide)
  · rw [nd3]
    exact fun z => absurd (show (2 : Int) = 4 from z.2) (by decide)
  · rw [nd4]
    exact fun z => absurd (show (3 : Int) = 4 from z.2) (by decide)
theorem tg4 (t : tpH T) {k f : Int} (hk : yNs (ndL B P a N) k 197 = 0) (hf : yNs (ndL B P a N) k 198 = f) (hf2 : T 468 f = 3) : yTg T (yNs (ndL B P a N)) (9 + 3 * N) k = 4 := by
  unfold yTg
  rw [hk, hf, hf2]
  exact yFi_at _ _ (by decide) (by omega) rfl rfl fun i i1 i2 => yFi_4 i1 i2
theorem tg5 (t : tpH T) {k f : Int} (hk : yNs (ndL B P a N) k 197 = 0) (hf : yNs (ndL B P a N) k 198 = f) (hf2 : T 468 f = 4) : yTg T (yNs (ndL B P a N)) (9 + 3 * N) k = 5 := by
  unfold yTg
  rw [hk, hf, hf2]
  exact yFi_at _ _ (by decide) (by omega) rfl rfl fun i i1 i2 => yFi_5 i1 i2
theorem tg_2 (t : tpH T) : yTg T (yNs (ndL B P a N)) (9 + 3 * N) 2 = 4 := tg4 t rfl rfl t.f468_1
theorem tg_3 (t : tpH T) : yTg T (yNs (ndL B P a N)) (9 + 3 * N) 3 = 5 := tg5 t rfl rfl t.f468_2
theorem tg_c (t : tpH T) : yTg T (yNs (ndL B P a N)) (9 + 3 * N) (6 + 3 * N) = 4 := tg4 t (by rw [nd_l.1]; rfl) (by rw [nd_l.1]; rfl) t.f468_5
theorem tg_x (t : tpH T) : yTg T (yNs (ndL B P a N)) (9 + 3 * N) (7 + 3 * N) = 5 := tg5 t (by rw [nd_l.2.1]; rfl) (by rw [nd_l.2.1]; rfl) t.f468_6
theorem tg_t (t : tpH T) {j : Nat} (hj : j < N) : yTg T (yNs (ndL B P a N)) (9 + 3 * N) (7 + 3 * j) = 8 + 3 * j := by
  obtain ⟨e1, e2, e3⟩ := nd_e (B := B) (P := P) (a := a) hj
  unfold yTg
  rw [e2, show yn 2 19 (P j) 1 (B (P j)) (6 + 3 * j) 8 198 = 8 from rfl, t.f468_8, show yn 2 19 (P j) 1 (B (P j)) (6 + 3 * j) 8 197 = 6 + 3 * j from rfl]
  refine yFi_at _ _ (by omega) (by omega) (by rw [e3]; rfl) (by rw [e3]; rfl) fun i i1 i2 => ?_
  rw [show i = 7 + 3 * (j : Int) by omega, e2]
  exact fun z => absurd (show (8 : Int) = 9 from z.2) (by decide)
theorem zand_s {v : Int} (h : 0 ≤ v ∧ v ≤ 255) : yCut v 8 = v := by
  unfold yCut
  rw [show zshl 1 8 - 1 = 255 by decide, zand255_e (by omega)]
  omega
/-- the sums are right -/
def LSm (B : yB) (P : Nat → Int) (a : Int) (N : Nat) : Prop := B (P N) = yCut (yBy B 43 a.toNat 3 0) 8 ∧ B (P N + 1) = yCut (yBy B 94 (P N - (3 + a)).toNat (3 + a) 0) 8
/-- what the relations tell, by the bytes F -/
theorem du_c (t : tpH T) : yDu T F (yNs (ndL B P a N)) (9 + 3 * N) (6 + 3 * N) = yCut (yBy F 43 a.toNat 3 0) 8 := by
  unfold yDu
  rw [tg_c t, nd_l.1, nd4, show yn 2 2 (P N) 1 (B (P N)) 0 5 198 = 5 from rfl, t.f467_5, t.f459_5]
  rfl
theorem du_x (t : tpH T) : yDu T F (yNs (ndL B P a N)) (9 + 3 * N) (7 + 3 * N) = yCut (yBy F 94 (P N - (3 + a)).toNat (3 + a) 0) 8 := by
  unfold yDu
  rw [tg_x t, nd_l.2.1, nd5, show yn 2 23 (P N + 1) 1 (B (P N + 1)) 0 6 198 = 6 from rfl, t.f467_6, t.f459_6]
  rfl
theorem du_2 (t : tpH T) (h : LY B P a N n) : yDu T F (yNs (ndL B P a N)) (9 + 3 * N) 2 = a := by
  unfold yDu
  rw [tg_2 t, nd2, nd4, show yn 2 11 1 1 (B 1) 0 1 198 = 1 from rfl, t.f467_1, t.f459_1]
  exact zand_s (v := a) (by have := h.2.2.2.2.1; omega)
theorem du_3 (t : tpH T) (h : LY B P a N n) : yDu T F (yNs (ndL B P a N)) (9 + 3 * N) 3 = N := by
  unfold yDu
  rw [tg_3 t, nd3, nd5, show yn 2 13 2 1 (B 2) 0 2 198 = 2 from rfl, t.f467_2, t.f459_2]
  exact zand_s (v := (N : Int)) (by have := h.2.2.2.2.2.1; omega)
theorem du_t (t : tpH T) (h : LY B P a N n) {j : Nat} (hj : j < N) : yDu T F (yNs (ndL B P a N)) (9 + 3 * N) (7 + 3 * j) = B (P j) := by
  unfold yDu
  obtain ⟨e1, e2, e3⟩ := nd_e (B := B) (P := P) (a := a) hj
  rw [tg_t t hj, e2, e3, show yn 2 19 (P j) 1 (B (P j)) (6 + 3 * j) 8 198 = 8 from rfl, t.f467_8, t.f459_8]
  exact zand_s (v := B (P j)) (by have := (h.2.2.2.2.2.2.1 j hj).2; omega)
/-- nothing is wrong -/
theorem wg_0 (t : tpH T) (h : LY B P a N n) (s : LSm B P a N) {k : Int} (h0 : 0 ≤ k) (h1 : k < 9 + 3 * N) : yWg T B (yNs (ndL B P a N)) (yTg T (yNs (ndL B P a N)) (9 + 3 * N)) k = 0 := by
  have du : ∀ v : Int, yNs (ndL B P a N) k 196 = v → yDu T B (yNs (ndL B P a N)) (9 + 3 * N) k = v → yWg T B (yNs (ndL B P a N)) (yTg T (yNs (ndL B P a N)) (9 + 3 * N)) k = 0 := fun v v1 v2 => by
    unfold yWg
    split
    · rfl
    · rw [if_pos]
      exact v1.trans v2.symm
  have no : yNs (ndL B P a N) k 198 = -1 ∨ T 467 (yNs (ndL B P a N) k 198) = 0 ∨ T 467 (yNs (ndL B P a N) k 198) = 61 → yWg T B (yNs (ndL B P a N)) (yTg T (yNs (ndL B P a N)) (9 + 3 * N)) k = 0 := fun c => by
    unfold yWg
    rw [if_pos c]
  rcases nd_c h0 h1 with (rfl | rfl | rfl | rfl | rfl | rfl) | ⟨j, hj, rfl | rfl | rfl⟩ | (rfl | rfl | rfl)
  · exact no (Or.inl rfl)
  · exact no (Or.inr (Or.inr t.f467_0))
  · exact du a h.2.2.1 (du_2 t h)
  · exact du N h.2.2.2.1 (du_3 t h)
  · exact no (Or.inr (Or.inl t.f467_3))
  · exact no (Or.inr (Or.inl t.f467_4))
  · exact no (Or.inl (by rw [(nd_e hj).1]; rfl))
  · exact du (B (P j)) (by rw [(nd_e hj).2.1]; rfl) (du_t t h hj)
  · exact no (Or.inr (Or.inl (by rw [(nd_e hj).2.2]; exact t.f467_9)))
  · exact du _ (by rw [nd_l.1]; exact s.1) (du_c t)
  · exact du _ (by rw [nd_l.2.1]; exact s.2) (du_x t)
  · exact no (Or.inr (Or.inl (by rw [nd_l.2.2]; exact t.f467_7)))
theorem ws_0 (t : tpH T) (h : LY B P a N n) (s : LSm B P a N) : yWs T B (yNs (ndL B P a N)) (ndL B P a N).length = 0 := by
  unfold yWs
  rw [ndL_len, show ((9 + 3 * N : Nat) : Int) = 9 + 3 * (N : Int) by omega]
  exact ySm_0 _ _ fun i i1 i2 => wg_0 t h s i1 (by omega)
/-- lengths and counts are right -/
theorem mc_0 (t : tpH T) (h : LY B P a N n) : eMc T B (yNs (ndL B P a N)) (ndL B P a N).length = 0 := by
  unfold eMc
  rw [ndL_len, show ((9 + 3 * N : Nat) : Int) = 9 + 3 * (N : Int) by omega]
  refine ySm_0 _ _ fun k h0 h1 => ?_
  have du : ∀ v : Int, yNs (ndL B P a N) k 196 = v → yDu T B (yNs (ndL B P a N)) (9 + 3 * N) k = v → eMw T B (yNs (ndL B P a N)) (9 + 3 * N) k = 0 := fun v v1 v2 => by
    unfold eMw
    rw [if_neg]
    intro z
    exact z.2 (v1.trans v2.symm)
  have no : yNs (ndL B P a N) k 198 = -1 ∨ ¬ (T 467 (yNs (ndL B P a N) k 198) = 35 ∨ T 467 (yNs (ndL B P a N) k 198) = 37) → eMw T B (yNs (ndL B P a N)) (9 + 3 * N) k = 0 := fun c => by
    unfold eMw
    rw [if_neg]
    rintro ⟨⟨z1, z2⟩, z3⟩
    rcases c with c | c
    · exact z1 c
    · exact c z2
  rcases nd_c (N := N) h0 (by omega) with (rfl | rfl | rfl | rfl | rfl | rfl) | ⟨j, hj, rfl | rfl | rfl⟩ | (rfl | rfl | rfl)
  · exact no (Or.inl rfl)
  · exact no (Or.inr (by rw [nd1, show yn 2 12 0 1 (B 0) 0 0 198 = 0 from rfl, t.f467_0]; decide))
  · exact du a h.2.2.1 (du_2 t h)
  · exact du N h.2.2.2.1 (du_3 t h)
  · exact no (Or.inr (by rw [nd4, show yn 5 3 3 a (if a = 0 then -1 else B 3) 0 3 198 = 3 from rfl, t.f467_3]; decide))
  · exact no (Or.inr (by rw [nd5, show yn 1 4 (3 + a) (P N - (3 + a)) N 0 4 198 = 4 from rfl, t.f467_4]; decide))
  · exact no (Or.inl (by rw [(nd_e hj).1]; rfl))
  · exact du (B (P j)) (by rw [(nd_e hj).2.1]; rfl) (du_t t h hj)
  · exact no (Or.inr (by rw [(nd_e hj).2.2, show yn 5 21 (P j + 1) (B (P j)) (if B (P j) = 0 then -1 else B (P j + 1)) (6 + 3 * j) 9 198 = 9 from rfl, t.f467_9]; decide))
  · exact no (Or.inr (by rw [nd_l.1, show yn 2 2 (P N) 1 (B (P N)) 0 5 198 = 5 from rfl, t.f467_5]; decide))
  · exact no (Or.inr (by rw [nd_l.2.1, show yn 2 23 (P N + 1) 1 (B (P N + 1)) 0 6 198 = 6 from rfl, t.f467_6]; decide))
  · exact no (Or.inr (by rw [nd_l.2.2, show yn 3 17 (P N + 2) 1 (B (P N + 2)) 0 7 198 = 7 from rfl, t.f467_7]; decide))
end
