/-! HOW THE LAW'S TEMPLATE READS A FILE -/
section
variable {T : yT} {B : yB} {n f k me pos made cnt a c j ln p : Int} {E : yE} {rs : Int → Int → Int → Int → Int → Int → yO}
/-- a sum of one field -/
theorem yRk_1 {V : Int → Int} (h : T 461 f = j) (h2 : T 462 f = j + 1) (h3 : T 455 j = 43) (h4 : T 454 j = -1 - k) (hk : 0 ≤ k) (hV : 0 ≤ V k ∧ V k ≤ 255) : yReckon T V f = V k := by
  unfold yReckon
  rw [h2, h, show (j + 1 - j).toNat = 0 + 1 by omega]
  show yClamp (yStep (T 455 j) 0 (if T 454 j < 0 then V (-1 - T 454 j) else T 454 j)) = V k
  rw [h3, h4, if_pos (by omega), show -1 - (-1 - k) = k by omega]
  unfold yStep yClamp
  rw [if_pos rfl, if_neg (by omega), if_neg (by omega)]
  omega
theorem yFd_b (h8 : T 458 f = 98 ∨ T 458 f = 114) (h9 : T 459 f = 8) (h67 : T 467 f = 61 → B pos = T 468 f) (hm : made < 200) (hp : pos + 1 ≤ n) : ∃ w, yFd rs T B n me f k E pos made cnt = .inr (yeu E k pos 1 (B pos), pos + 1, made + 1, w, [yn (yKd (T 458 f)) (T 457 f) pos 1 (B pos) me f]) := by
  have e : yPl T B n (E 330) f pos = .inr (1, B pos) := by
    unfold yPl
    rw [if_neg (by omega), if_neg (by omega), if_neg (by omega)]
    have h16 : ¬ T 459 f = 16 := by omega
    simp only [if_neg h16]
    rw [if_neg (by omega), if_neg (fun z => z.2 (h67 z.1))]
  unfold yFd
  rw [if_neg (by omega), if_neg (by omega), if_neg (by omega), e]
  dsimp only
  rw [if_neg (by omega)]
  exact ⟨_, rfl⟩
theorem yFd_s (h8 : T 458 f = 115) (hr : yReckon T (E 330) f = ln) (hl : 0 ≤ ln ∧ ln ≤ 100) (hm : made < 200) (hp : pos + ln ≤ n) : ∃ w, yFd rs T B n me f k E pos made cnt = .inr (yeu E k pos ln (if ln = 0 then -1 else B pos), pos + ln, made + 1, w, [yn 5 (T 457 f) pos ln (if ln = 0 then -1 else B pos) me f]) := by
  have e : yPl T B n (E 330) f pos = .inr (ln, if ln = 0 then -1 else B pos) := by
    unfold yPl
    rw [if_pos h8, hr]
    dsimp only
    rw [if_neg (by omega), if_neg (by omega)]
  unfold yFd
  rw [if_neg (by omega), if_neg (by omega), if_neg (by omega), e]
  dsimp only
  rw [if_neg (show ¬ (T 458 f = 110 ∧ T 460 f ≠ 0) by omega), h8]
  exact ⟨_, rfl⟩
theorem yFs_s {m : Nat} {s p1 m1 p2 m2 : Int} {E1 E2 : yE} {l1 l2 : List yN} (h1 : ∃ w, yFd rs T B n me (8 * s + k) k E pos made cnt = .inr (E1, p1, m1, w, l1)) (h2 : ∃ w, yFs rs T B n me s m (k + 1) E1 p1 m1 (cnt + l1.length) = .inr (E2, p2, m2, w, l2)) : ∃ w, yFs rs T B n me s (m + 1) k E pos made cnt = .inr (E2, p2, m2, w, l1 ++ l2) := by
  obtain ⟨w1, e1⟩ := h1
  obtain ⟨w2, e2⟩ := h2
  unfold yFs
  rw [e1]
  dsimp only
  rw [e2]
  exact ⟨_, rfl⟩
theorem yFs_0 {s : Int} : ∃ w, yFs rs T B n me s 0 k E pos made cnt = .inr (E, pos, made, w, []) := ⟨0, rfl⟩
/-- the nodes of a B -/
def bN (B : yB) (pos nm pa f cnt : Int) : List yN := [yn 0 nm pos (1 + B pos) 1 pa f, yn 2 19 pos 1 (B pos) cnt 8, yn 5 21 (pos + 1) (B pos) (if B pos = 0 then -1 else B (pos + 1)) cnt 9]
theorem yS_B (h : tpH T) (d : Nat) (hm : made ≤ 197) (h1 : 0 ≤ B pos ∧ B pos ≤ 100) (h2 : pos + 1 + B pos ≤ n) : ∃ w, yS T B n (d + 1) 1 f p pos made cnt = .inr (pos + 1 + B pos, made + 3, w, bN B pos (if f = -1 then 1 else T 457 f) p f cnt) := by
  have hF : ∃ w, yFs (yS T B n d) T B n cnt 1 2 0 (fun _ _ => 0) pos (made + 1) (cnt + 1) = .inr (yeu (yeu (fun _ _ => 0) 0 pos 1 (B pos)) 1 (pos + 1) (B pos) (if B pos = 0 then -1 else B (pos + 1)), pos + 1 + B pos, made + 1 + 1 + 1, w, [yn (yKd (T 458 8)) (T 457 8) pos 1 (B pos) cnt 8] ++ ([yn 5 (T 457 9) (pos + 1) (B pos) (if B pos = 0 then -1 else B (pos + 1)) cnt 9] ++ [])) := by
    refine yFs_s (s := 1) (k := 0) (yFd_b (Or.inl h.f458_8) h.f459_8 (fun z => ?_) (by omega) (by omega)) (yFs_s (s := 1) (k := 1) (yFd_s h.f458_9 ?_ h1 (by omega) (by omega)) yFs_0)
    · rw [show (8 * 1 + 0 : Int) = 8 from rfl, h.f467_8] at z
      exact absurd z (by decide)
    · rw [show (8 * 1 + 1 : Int) = 9 from rfl]
      exact yRk_1 (k := 0) (j := 2) h.f461_9 h.f462_9 h.f455_2 h.f454_2 (by decide) (show 0 ≤ B pos ∧ B pos ≤ 255 by omega)
  obtain ⟨w, e⟩ := hF
  unfold yS
  rw [if_neg (by omega), h.f453_1, show (2 : Int).toNat = 2 from rfl, e]
  dsimp only
  rw [h.f452_1, h.f458_8, h.f457_8, h.f457_9]
  apply Exists.intro
  rw [show pos + 1 + B pos - pos = 1 + B pos by omega, show made + 1 + 1 + 1 = made + 3 by omega]
  rfl
/-- a B that can't be read -/
theorem yS_Bx (h : tpH T) (d : Nat) (hm : made ≤ 197) (h1 : n ≤ pos ∨ 0 ≤ B pos ∧ B pos ≤ 255 ∧ n < pos + 1 + B pos) (hn : 0 ≤ pos ∧ n ≤ pos + 101) : ∃ e, yS T B n (d + 1) 1 f p pos made cnt = .inl e := by
  have hF : ∃ e, yFs (yS T B n d) T B n cnt 1 2 0 (fun _ _ => 0) pos (made + 1) (cnt + 1) = .inl e := by
    by_cases c : n ≤ pos
    · have e : yPl T B n ((fun _ _ => 0 : yE) 330) 8 pos = .inl 1 := by
        unfold yPl
        have h16 : ¬ T 459 8 = 16 := by rw [h.f459_8]; decide
        rw [if_neg (by rw [h.f458_8]; decide), if_neg (by rw [h.f458_8]; decide), if_neg (by rw [h.f458_8]; decide)]
        simp only [if_neg h16]
        rw [if_pos (by omega)]
      have e2 : yFd (yS T B n d) T B n cnt (8 * 1 + 0) 0 (fun _ _ => 0) pos (made + 1) (cnt + 1) = .inl (1, pos, made + 1 + 1) := by
        rw [show (8 * 1 + 0 : Int) = 8 from rfl]
        unfold yFd
        rw [if_neg (by rw [h.f458_8]; decide), if_neg (by omega), if_neg (by rw [h.f458_8]; decide), e]
      unfold yFs
      rw [e2]
      exact ⟨_, rfl⟩
    · have h1 : 0 ≤ B pos ∧ B pos ≤ 255 ∧ n < pos + 1 + B pos := by omega
      obtain ⟨w, e1⟩ := yFd_b (rs := yS T B n d) (me := cnt) (cnt := cnt + 1) (E := fun _ _ => 0) (k := 0) (T := T) (B := B) (n := n) (f := 8 * 1 + 0) (pos := pos) (made := made + 1) (Or.inl h.f458_8) h.f459_8 (fun z => by rw [show (8 * 1 + 0 : Int) = 8 from rfl, h.f467_8] at z; exact absurd z (by decide)) (by omega) (by omega)
      have hr : yReckon T ((yeu (fun _ _ => 0) 0 pos 1 (B pos)) 330) 9 = B pos := yRk_1 (k := 0) (j := 2) h.f461_9 h.f462_9 h.f455_2 h.f454_2 (by decide) (show 0 ≤ B pos ∧ B pos ≤ 255 by omega)
      have e : ∃ c, yPl T B n ((yeu (fun _ _ => 0) 0 pos 1 (B pos)) 330) 9 (pos + 1) = .inl c := by
        unfold yPl
        rw [if_pos h.f458_9, hr]
        dsimp only
        by_cases c1 : B pos < 0 ∨ 100 < B pos
        · rw [if_pos c1]
          exact ⟨_, rfl⟩
        · rw [if_neg c1, if_pos (by omega)]
          exact ⟨_, rfl⟩
      obtain ⟨c2, e⟩ := e
      have e2 : ∀ cn, yFd (yS T B n d) T B n cnt (8 * 1 + (0 + 1)) (0 + 1) (yeu (fun _ _ => 0) 0 pos 1 (B pos)) (pos + 1) (made + 1 + 1) cn = .inl (c2, pos + 1, made + 1 + 1 + 1) := fun cn => by
        rw [show (8 * 1 + (0 + 1) : Int) = 9 from rfl]
        unfold yFd
        rw [if_neg (by rw [h.f458_9]; decide), if_neg (by omega), if_neg (by rw [h.f458_9]; decide), e]
      unfold yFs
      rw [e1]
      dsimp only
      unfold yFs
      rw [e2]
      exact ⟨_, rfl⟩
  obtain ⟨e, hF⟩ := hF
  unfold yS
  rw [if_neg (by omega), h.f453_1, show (2 : Int).toNat = 2 from rfl, hF]
  exact ⟨_, rfl⟩
/-- the nodes of m elements from i on -/
def elL (B : yB) (P : Nat → Int) (pa : Int) : Nat → Nat → Int → List yN
  | 0, _, _ => []
  | m + 1, i, cnt => bN B (P i) 1 pa (-1) cnt ++ elL B P pa m (i + 1) (cnt + 3)
theorem elL_len {P : Nat → Int} {pa : Int} : ∀ (m i : Nat) (cnt : Int), (elL B P pa m i cnt).length = 3 * m
  | 0, _, _ => rfl
  | m + 1, i, cnt => by
    show (bN B (P i) 1 pa (-1) cnt ++ elL B P pa m (i + 1) (cnt + 3)).length = _
    rw [List.length_append, elL_len m]
    show 3 + 3 * m = _
    omega
theorem yCt_el {P : Nat → Int} {pa : Int} (h : tpH T) (d : Nat) : ∀ (m i : Nat) (made cnt : Int), made + 3 * m ≤ 199 → (∀ j, i ≤ j → j < i + m → P (j + 1) = P j + 1 + B (P j) ∧ (0 ≤ B (P j) ∧ B (P j) ≤ 100) ∧ P (j + 1) ≤ n) → ∃ w, yCt (yNm (yS T B n (d + 1)) T (-1) pa 1 0) m (P i) made cnt = .inr (P (i + m), made + 3 * m, w, elL B P pa m i cnt)
  | 0, i, made, cnt, _, _ => ⟨0, by rw [show made + 3 * ((0 : Nat) : Int) = made by omega]; rfl⟩
  | m + 1, i, made, cnt, hm, hP => by
    obtain ⟨q1, q2, q3⟩ := hP i (Nat.le_refl _) (by omega)
    obtain ⟨w1, e1⟩ := yS_B (T := T) (B := B) (n := n) (f := -1) (p := pa) (pos := P i) (made := made) (cnt := cnt) h d (by omega) q2 (by omega)
    obtain ⟨w2, e2⟩ := yCt_el h d m (i + 1) (made + 3) (cnt + 3) (by omega) fun j j1 j2 => hP j (by omega) (by omega)
    have e3 : yNm (yS T B n (d + 1)) T (-1) pa 1 0 (P i) made cnt = .inr (P (i + 1), made + 3, w1, bN B (P i) 1 pa (-1) cnt) := by
      unfold yNm
      rw [h.f456_0, e1, q1]
      rfl
    unfold yCt
    rw [e3]
    dsimp only
    rw [show cnt + ((bN B (P i) 1 pa (-1) cnt).length : Int) = cnt + 3 from rfl, e2]
    apply Exists.intro
    dsimp only
    rw [show i + 1 + m = i + (m + 1) by omega, show made + 3 + 3 * (m : Int) = made + 3 * ((m + 1 : Nat) : Int) by omega]
    rfl
/-- all the nodes of a file: a bytes of d, N elements -/
def ndL (B : yB) (P : Nat → Int) (a : Int) (N : Nat) : List yN := yn 0 0 0 (P N + 3) 0 (-1) (-1) :: yn 2 12 0 1 (B 0) 0 0 :: yn 2 11 1 1 (B 1) 0 1 :: yn 2 13 2 1 (B 2) 0 2 :: yn 5 3 3 a (if a = 0 then -1 else B 3) 0 3 :: yn 1 4 (3 + a) (P N - (3 + a)) N 0 4 :: (elL B P 5 N 0 6 ++ [yn 2 2 (P N) 1 (B (P N)) 0 5, yn 2 23 (P N + 1) 1 (B (P N + 1)) 0 6, yn 3 17 (P N + 2) 1 (B (P N + 2)) 0 7])
theorem RD {P : Nat → Int} {N : Nat} (h : tpH T) (hP0 : P 0 = 3 + a) (b0 : B 0 = 77) (b1 : B 1 = a) (b2 : B 2 = N) (ha : 0 ≤ a ∧ a ≤ 100) (hN : N ≤ 20) (hP : ∀ j, j < N → P (j + 1) = P j + 1 + B (P j) ∧ (0 ≤ B (P j) ∧ B (P j) ≤ 100) ∧ P (j + 1) ≤ P N) (hn : P N + 3 ≤ n) : ∃ m w, yTop T B n 0 0 = .inr (P N + 3, m, w, ndL B P a N) := by
  have hPN : 3 + a ≤ P N := by
    cases N with
    | zero => omega
    | succ N =>
      obtain ⟨q1, q2, q3⟩ := hP 0 (by omega)
      omega
  have hE : yReckon T ((yeu (yeu (yeu (yeu (fun _ _ => 0) 0 0 1 (B 0)) 1 1 1 (B 1)) 2 2 1 (B 2)) 3 3 a (if a = 0 then -1 else B 3)) 330) 4 = N := by
    rw [yRk_1 (T := T) (f := 4) (j := 1) (k := 2) h.f461_4 h.f462_4 h.f455_1 h.f454_1 (by decide)]
    · show B 2 = N
      exact b2
    · show 0 ≤ B 2 ∧ B 2 ≤ 255
      omega
  have hA : ∃ w, yFd (yS T B n 5) T B n 0 4 4 (yeu (yeu (yeu (yeu (fun _ _ => 0) 0 0 1 (B 0)) 1 1 1 (B 1)) 2 2 1 (B 2)) 3 3 a (if a = 0 then -1 else B 3)) (3 + a) 5 5 = .inr (yeu (yeu (yeu (yeu (yeu (fun _ _ => 0) 0 0 1 (B 0)) 1 1 1 (B 1)) 2 2 1 (B 2)) 3 3 a (if a = 0 then -1 else B 3)) 4 (3 + a) (P N - (3 + a)) N, P N, 6 + 3 * N, w, yn 1 4 (3 + a) (P N - (3 + a)) N 0 4 :: elL B P 5 N 0 6) := by
    have hc : yCn T ((yeu (yeu (yeu (yeu (fun _ _ => 0) 0 0 1 (B 0)) 1 1 1 (B 1)) 2 2 1 (B 2)) 3 3 a (if a = 0 then -1 else B 3)) 330) 4 = N := by
      unfold yCn
      rw [if_pos h.f465_4, hE]
    obtain ⟨w, e⟩ := yCt_el (T := T) (B := B) (n := n) (P := P) (pa := 5) h 4 N 0 (5 + 1) (5 + 1) (by omega) fun j j1 j2 => by
      obtain ⟨q1, q2, q3⟩ := hP j (by omega)
      exact ⟨q1, q2, by omega⟩
    rw [Nat.zero_add] at e
    unfold yFd
    rw [if_neg (by rw [h.f458_4]; decide), if_neg (by decide), if_pos h.f458_4, hc, if_neg (by omega)]
    unfold yAr
    rw [if_neg (by rw [h.f465_4]; decide), if_neg (by rw [h.f465_4]; decide), hc, h.f464_4, h.f463_4, show ((1 : Int) - 0).toNat = 1 from rfl, Int.toNat_natCast, ← hP0, e]
    dsimp only
    rw [h.f457_4]
    exact ⟨_, rfl⟩
  have hF : ∃ w, yFs (yS T B n 5) T B n 0 0 8 0 (fun _ _ => 0) 0 (0 + 1) (0 + 1) = .inr (yeu (yeu (yeu (yeu (yeu (yeu (yeu (yeu (fun _ _ => 0) 0 0 1 (B 0)) 1 1 1 (B 1)) 2 2 1 (B 2)) 3 3 a (if a = 0 then -1 else B 3)) 4 (3 + a) (P N - (3 + a)) N) 5 (P N) 1 (B (P N))) 6 (P N + 1) 1 (B (P N + 1))) 7 (P N + 1 + 1) 1 (B (P N + 1 + 1)), P N + 1 + 1 + 1, 6 + 3 * N + 1 + 1 + 1, w, [yn (yKd (T 458 0)) (T 457 0) 0 1 (B 0) 0 0] ++ ([yn (yKd (T 458 1)) (T 457 1) (0 + 1) 1 (B (0 + 1)) 0 1] ++ ([yn (yKd (T 458 2)) (T 457 2) (0 + 1 + 1) 1 (B (0 + 1 + 1)) 0 2] ++ ([yn 5 (T 457 3) (0 + 1 + 1 + 1) a (if a = 0 then -1 else B (0 + 1 + 1 + 1)) 0 3] ++ ((yn 1 4 (3 + a) (P N - (3 + a)) N 0 4 :: elL B P 5 N 0 6) ++ ([yn (yKd (T 458 5)) (T 457 5) (P N) 1 (B (P N)) 0 5] ++ ([yn (yKd (T 458 6)) (T 457 6) (P N + 1) 1 (B (P N + 1)) 0 6] ++ ([yn (yKd (T 458 7)) (T 457 7) (P N + 1 + 1) 1 (B (P N + 1 + 1)) 0 7] ++ [])))))))) := by
    refine yFs_s (s := 0) (k := 0) (yFd_b (f := 0) (Or.inl h.f458_0) h.f459_0 (fun _ => by rw [h.f468_0]; exact b0) (by omega) (by omega)) ?_
    refine yFs_s (s := 0) (k := 1) (yFd_b (f := 1) (Or.inl h.f458_1) h.f459_1 (fun z => by rw [h.f467_1] at z; exact absurd z (by decide)) (by omega) (by omega)) ?_
    refine yFs_s (s := 0) (k := 2) (yFd_b (f := 2) (Or.inl h.f458_2) h.f459_2 (fun z => by rw [h.f467_2] at z; exact absurd z (by decide)) (by omega) (by omega)) ?_
    refine yFs_s (s := 0) (k := 3) (yFd_s (f := 3) h.f458_3 ?_ ha (by omega) (by omega)) ?_
    · rw [yRk_1 (T := T) (f := 3) (j := 0) (k := 1) h.f461_3 h.f462_3 h.f455_0 h.f454_0 (by decide)]
      · show B 1 = a
        exact b1
      · show 0 ≤ B 1 ∧ B 1 ≤ 255
        omega
    refine yFs_s (s := 0) (k := 4) hA ?_
    refine yFs_s (s := 0) (k := 5) (yFd_b (f := 5) (Or.inl h.f458_5) h.f459_5 (fun z => by rw [h.f467_5] at z; exact absurd z (by decide)) (by omega) (by omega)) ?_
    refine yFs_s (s := 0) (k := 6) (yFd_b (f := 6) (Or.inl h.f458_6) h.f459_6 (fun z => by rw [h.f467_6] at z; exact absurd z (by decide)) (by omega) (by omega)) ?_
    exact yFs_s (s := 0) (k := 7) (yFd_b (f := 7) (Or.inr h.f458_7) h.f459_7 (fun z => by rw [h.f467_7] at z; exact absurd z (by decide)) (by omega) (by omega)) yFs_0
  obtain ⟨w, e⟩ := hF
  unfold yTop yS
  rw [if_neg (by decide), h.f453_0, show (8 : Int).toNat = 8 from rfl, e]
  dsimp only
  rw [if_pos rfl, h.f452_0, h.f458_0, h.f458_1, h.f458_2, h.f458_5, h.f458_6, h.f458_7, h.f457_0, h.f457_1, h.f457_2, h.f457_3, h.f457_5, h.f457_6, h.f457_7]
  apply Exists.intro
  apply Exists.intro
  rw [show P N + 1 + 1 + 1 - 0 = P N + 3 by omega, show P N + 1 + 1 + 1 = P N + 3 by omega, show P N + 1 + 1 = P N + 2 by omega]
  rfl
end
