/-! a new state; give -/
/-- the file becomes a state -/
def aKeep (A : aA) : aA := (fun f i => if f = 384 ∧ 160 * A.1 387 0 ≤ i ∧ i < 160 * A.1 387 0 + 160 then A.1 2 (i - 160 * A.1 387 0) else if f = 385 ∧ i = A.1 387 0 then A.1 3 0 else if f = 386 ∧ i = A.1 387 0 then A.1 388 0 else if f = 387 then A.1 387 0 + 1 else if f = 388 then A.1 387 0 else A.1 f i, A.2)
/-- the tape becomes the file -/
def aTake (A : aA) : aA := (fun f i => if f = 1 then 0 else if f = 2 then A.1 0 i else if f = 3 then A.1 1 0 else A.1 f i, A.2)
/-- the tape is empty -/
def aNoTape (A : aA) : aA := (fun f i => if f = 1 then 0 else A.1 f i, A.2)
def sGive (A : aA) : (Int ⊕ Nat) × aA := if A.1 1 0 ≤ 160 ∧ A.1 387 0 ≠ 30 then (.inl (A.1 387 0), aKeep (aTake A)) else (.inr 1, aNoTape A)
section
variable {A : aA} {s u : zS}
theorem aKeep_o {f : Nat} {i : Int} (h : f ≠ 384) (h1 : f ≠ 385) (h2 : f ≠ 386) (h3 : f ≠ 387) (h4 : f ≠ 388) : (aKeep A).1 f i = A.1 f i := by
  unfold aKeep
  dsimp only
  rw [if_neg (fun z => h z.1), if_neg (fun z => h1 z.1), if_neg (fun z => h2 z.1), if_neg h3, if_neg h4]
theorem aKeep_4 {i : Int} : (aKeep A).1 384 i = if 160 * A.1 387 0 ≤ i ∧ i < 160 * A.1 387 0 + 160 then A.1 2 (i - 160 * A.1 387 0) else A.1 384 i := by
  unfold aKeep
  dsimp only
  by_cases c : 160 * A.1 387 0 ≤ i ∧ i < 160 * A.1 387 0 + 160
  · rw [if_pos ⟨rfl, c⟩, if_pos c]
  · rw [if_neg (fun z => c z.2), if_neg c]
    rfl
theorem aKeep_5 {i : Int} : (aKeep A).1 385 i = if i = A.1 387 0 then A.1 3 0 else A.1 385 i := by
  unfold aKeep
  dsimp only
  rw [if_neg (fun z => absurd z.1 (by decide))]
  by_cases c : i = A.1 387 0
  · rw [if_pos ⟨rfl, c⟩, if_pos c]
  · rw [if_neg (fun z => c z.2), if_neg c]
    rfl
theorem aKeep_6 {i : Int} : (aKeep A).1 386 i = if i = A.1 387 0 then A.1 388 0 else A.1 386 i := by
  unfold aKeep
  dsimp only
  rw [if_neg (fun z => absurd z.1 (by decide)), if_neg (fun z => absurd z.1 (by decide))]
  by_cases c : i = A.1 387 0
  · rw [if_pos ⟨rfl, c⟩, if_pos c]
  · rw [if_neg (fun z => c z.2), if_neg c]
    rfl
theorem aOK_keep (ok : aOK A) (h : A.1 387 0 < 30) : aOK (aKeep A) := by
  obtain ⟨o1, o2, o3, o4, o5, o6⟩ := ok
  refine ⟨o1, o2, ⟨?_, fun j j1 j2 => ?_⟩, ?_, o5, o6⟩
  · show 0 ≤ A.1 387 0 + 1 ∧ A.1 387 0 + 1 ≤ 30
    omega
  · have j2 : j < A.1 387 0 + 1 := j2
    rw [aKeep_5, aKeep_6]
    by_cases d : j = A.1 387 0
    · rw [if_pos d, if_pos d]
      refine ⟨o2.1, o4, fun i i1 i2 => ?_⟩
      rw [aKeep_4, if_pos (by omega)]
      exact o2.2 _ (by omega) (by omega)
    · rw [if_neg d, if_neg d]
      obtain ⟨g1, g2, g3⟩ := o3.2 j j1 (by omega)
      refine ⟨g1, g2, fun i i1 i2 => ?_⟩
      rw [aKeep_4, if_neg (by omega)]
      exact g3 i i1 i2
  · show -1 ≤ A.1 387 0 ∧ A.1 387 0 < 30
    omega
theorem C93_47 {c n : Int} {B : yB} (hc : 0 ≤ c ∧ c < 30) (hn : n ≤ 160) : ∀ (k M : Nat) (q : Int) (s : zS), k < M → k = (n - q).toNat → 0 ≤ q → s.1 387 0 0 = c → s.1 1 1 0 = n → (∀ i, 0 ≤ i → i < n → s.1 0 1 i = B i) → ∃ u, zf_93_47 M 0 1 q s = zi c u ∧ (∀ (f' n' : Nat) (i' : Int), ¬ (n' = 0 ∧ (f' = 388 ∨ f' = 387 ∨ f' = 384 ∧ 160 * c ≤ i' ∧ i' < 160 * c + 160)) → u.1 f' n' i' = s.1 f' n' i') ∧ u.2 = s.2 ∧ u.1 387 0 0 = c + 1 ∧ u.1 388 0 0 = c ∧ (∀ i, q ≤ i → i < n → u.1 384 0 (160 * c + i) = B i) ∧ ∀ i, i < q → u.1 384 0 (160 * c + i) = s.1 384 0 (160 * c + i) := by
  intro k
  induction k with
  | zero =>
    intro M q s hM hk q0 h1 h2 h3
    obtain ⟨M, rfl⟩ : ∃ L, M = L + 1 := ⟨M - 1, by omega⟩
    unfold zf_93_47
    rw [h2, if_pos (by omega), h1, zP_ok, zp_nk (by decide), h1, zg_ok ⟨by omega, by omega⟩, zP_ok, show (zp 387 0 0 (c + 1) (zp 388 0 0 c s)).1 388 0 0 = c from (zp_nk (by decide)).trans zp_eq]
    refine ⟨_, rfl, fun f' n' i' hn => ?_, rfl, zp_eq, (zp_nk (by decide)).trans zp_eq, fun i i1 i2 => by omega, fun i i1 => (zp_nk (by decide)).trans (zp_nk (by decide))⟩
    rw [zp_n3 (by omega), zp_n3 (by omega)]
  | succ k ih =>
    intro M q s hM hk q0 h1 h2 h3
    obtain ⟨M, rfl⟩ : ∃ L, M = L + 1 := ⟨M - 1, by omega⟩
    unfold zf_93_47
    rw [h2, if_neg (by omega), zb_2 h2 h3 (by rw [show zlB 1 = 160 from rfl]; omega), zC_zi, if_pos (show 0 ≤ q ∧ q < n by omega), h1, zg_ok ⟨by omega, by omega⟩, zg_ok ⟨by omega, by omega⟩, zW_ok (by omega), zg_ok ⟨by omega, by omega⟩]
    obtain ⟨u, a1, a2, a3, a4, a5, a6, a7⟩ := ih M (q + 1) (zp 384 0 (c * 160 + q) (B q) s) (by omega) (by omega) (by omega) ((zp_nk (by decide)).trans h1) ((zp_nk (by decide)).trans h2) (fun i i1 i2 => (zp_nk (by decide)).trans (h3 i i1 i2))
    refine ⟨u, a1, fun f' n' i' hn => (a2 f' n' i' hn).trans (zp_n3 (by omega)), a3, a4, a5, fun i i1 i2 => ?_, fun i i1 => ?_⟩
    · by_cases d : i = q
      · rw [a7 i (by omega), d, show 160 * c + q = c * 160 + q by omega, zp_eq]
      · exact a6 i (by omega) i2
    · rw [a7 i (by omega), zp_ni (by omega)]
theorem C131 (h : cR A s) (ok : aOK A) (h30 : A.1 387 0 < 30) : ∃ u, zf_131 0 s = zi (A.1 387 0) u ∧ cR (aKeep A) u ∧ u.1 523 0 0 = -3 ∧ cFr s u ∧ u.2 = s.2 := by
  obtain ⟨h1, h2, h3, h4, h5, h6, h7⟩ := id h
  obtain ⟨o1, o2, o3, o4, o5, o6⟩ := ok
  unfold zf_131 zf_93 zf_88
  have c3 : (zp 523 0 0 (-3) s).1 387 0 0 = A.1 387 0 := (zp_nk (by decide)).trans h3.1
  have c1 : (zp 523 0 0 (-3) s).1 1 1 0 = A.1 3 0 := (zp_nk (by decide)).trans h2.1
  rw [zP_ok, c3, if_pos h30, zz0, zC_zi, if_pos rfl, c1, if_pos o2.1.2, c3, zW_ok (by omega), zp_nk (by decide), c3, zp_nk (by decide), zp_nk (by decide), h4, zW_ok (by omega)]
  have e : ∀ (f' n' : Nat) (i' : Int), f' ≠ 523 → f' ≠ 385 → f' ≠ 386 → (zp 386 0 (A.1 387 0) (A.1 388 0) (zp 385 0 (A.1 387 0) (A.1 3 0) (zp 523 0 0 (-3) s))).1 f' n' i' = s.1 f' n' i' := fun f' n' i' f1 f2 f3 => (zp_nk f3).trans ((zp_nk f2).trans (zp_nk f1))
  obtain ⟨u, a1, a2, a3, a4, a5, a6, a7⟩ := C93_47 (c := A.1 387 0) (n := A.1 3 0) (B := A.1 2) ⟨o3.1.1, h30⟩ o2.1.2 (A.1 3 0 - 0).toNat xfu 0 (zp 386 0 (A.1 387 0) (A.1 388 0) (zp 385 0 (A.1 387 0) (A.1 3 0) (zp 523 0 0 (-3) s))) (pa_fu (by omega)) rfl (Int.le_refl _) ((e 387 0 0 (by decide) (by decide) (by decide)).trans h3.1) ((e 1 1 0 (by decide) (by decide) (by decide)).trans h2.1) (fun i i1 i2 => (e 0 1 i (by decide) (by decide) (by decide)).trans (h2.2 i i1 i2))
  have b : ∀ (f' n' : Nat) (i' : Int), f' ≠ 523 → f' ≠ 385 → f' ≠ 386 → f' ≠ 388 → f' ≠ 387 → f' ≠ 384 → u.1 f' n' i' = s.1 f' n' i' := fun f' n' i' f1 f2 f3 f4 f5 f6 => (a2 f' n' i' (by omega)).trans (e f' n' i' f1 f2 f3)
  rw [a1, zC_zi]
  refine ⟨u, rfl, ?_, (a2 523 0 0 (by omega)).trans ((zp_nk (by decide)).trans ((zp_nk (by decide)).trans zp_eq)), fun f n i f1 f2 => b f n i (by omega) (by omega) (by omega) (by omega) (by omega) (by omega), a3⟩
  refine ⟨⟨(b 1 0 0 (by decide) (by decide) (by decide) (by decide) (by decide) (by decide)).trans h1.1, fun i i1 i2 => (b 0 0 i (by decide) (by decide) (by decide) (by decide) (by decide) (by decide)).trans (h1.2 i i1 i2)⟩, ⟨(b 1 1 0 (by decide) (by decide) (by decide) (by decide) (by decide) (by decide)).trans h2.1, fun i i1 i2 => (b 0 1 i (by decide) (by decide) (by decide) (by decide) (by decide) (by decide)).trans (h2.2 i i1 i2)⟩, ⟨a4, fun j j1 j2 => ?_⟩, a5, ⟨(b 522 0 0 (by decide) (by decide) (by decide) (by decide) (by decide) (by decide)).trans h5.1, by rw [a3]; exact h5.2⟩, fun k k1 k2 => by rw [b 515 0 k (by decide) (by decide) (by decide) (by decide) (by decide) (by decide), a3]; exact h6 k k1 k2, fun k k2 f i f1 f2 => (b f k i (by omega) (by omega) (by omega) (by omega) (by omega) (by omega)).trans (h7 k k2 f i f1 f2)⟩
  have j2 : j < A.1 387 0 + 1 := j2
  rw [aKeep_5, aKeep_6, a2 385 0 j (by omega), a2 386 0 j (by omega)]
  by_cases d : j = A.1 387 0
  · rw [if_pos d, if_pos d, d]
    refine ⟨(zp_nk (by decide)).trans zp_eq, zp_eq, fun i i1 i2 => ?_⟩
    rw [aKeep_4, if_pos (by omega), a6 i i1 i2, show 160 * A.1 387 0 + i - 160 * A.1 387 0 = i by omega]
  · rw [if_neg d, if_neg d]
    obtain ⟨q1, q2, q3⟩ := h3.2 j j1 (by omega)
    have oj := (o3.2 j j1 (by omega)).1
    refine ⟨?_, ?_, fun i i1 i2 => ?_⟩
    · rw [zp_nk (by decide), zp_ni d, zp_nk (by decide)]
      exact q1
    · rw [zp_ni d, zp_nk (by decide), zp_nk (by decide)]
      exact q2
    · rw [aKeep_4, if_neg (by omega), a2 384 0 _ (by omega), e 384 0 _ (by decide) (by decide) (by decide)]
      exact q3 i i1 i2
end
