/-! bytes taken out and put in -/
section
variable {s : zS} {p k n : Int} {d : Nat}
theorem zl_d (hd : d < 3 ∧ 1 ≤ d) : zlB d = 160 := by
  unfold zlB
  rw [if_neg (by omega)]
theorem C7_23 (hd : d < 3 ∧ 1 ≤ d) (hn : n ≤ 160) (hk : 0 ≤ k) : ∀ (m M : Nat) (x : Int) (s : zS), m < M → m = (n - x).toNat → k ≤ x → x ≤ n → s.1 1 d 0 = n → ∃ u, zf_7_23 M d k x s = zi 0 u ∧ (∀ (f' n' : Nat) (i' : Int), ¬ (n' = d ∧ (f' = 0 ∨ f' = 1)) → u.1 f' n' i' = s.1 f' n' i') ∧ u.2 = s.2 ∧ u.1 1 d 0 = n - k ∧ (∀ i, x - k ≤ i → i < n - k → u.1 0 d i = s.1 0 d (i + k)) ∧ ∀ i, i < x - k → u.1 0 d i = s.1 0 d i := by
  have l := zl_d hd
  intro m
  induction m with
  | zero =>
    intro M x s hM hm x0 xn h
    obtain ⟨M, rfl⟩ : ∃ L, M = L + 1 := ⟨M - 1, by omega⟩
    unfold zf_7_23
    rw [h, if_pos (by omega), zg_ok ⟨by omega, by omega⟩, zP_ok]
    exact ⟨_, rfl, fun f' n' i' hn => zp_n3 (by omega), rfl, zp_eq, fun i i1 i2 => by omega, fun i i1 => zp_nk (by decide)⟩
  | succ m ih =>
    intro M x s hM hm x0 xn h
    obtain ⟨M, rfl⟩ : ∃ L, M = L + 1 := ⟨M - 1, by omega⟩
    unfold zf_7_23
    rw [h, if_neg (by omega), zn_ok (by omega), zg_ok ⟨by omega, by omega⟩, zW_ok (by omega), zg_ok ⟨by omega, by omega⟩]
    obtain ⟨u, a1, a2, a3, a4, a5, a6⟩ := ih M (x + 1) (zp 0 d (x - k) (s.1 0 d x) s) (by omega) (by omega) (by omega) (by omega) ((zp_nk (by decide)).trans h)
    refine ⟨u, a1, fun f' n' i' hn => (a2 f' n' i' hn).trans (zp_n3 (by omega)), a3, a4, fun i i1 i2 => ?_, fun i i1 => ?_⟩
    · by_cases e : i = x - k
      · rw [a6 i (by omega), e, zp_eq, show x - k + k = x by omega]
      · rw [a5 i (by omega) i2, zp_ni (by omega)]
    · rw [a6 i (by omega), zp_ni (by omega)]
theorem C7 (hd : d < 3 ∧ 1 ≤ d) (hn : n ≤ 160) (hp : 0 ≤ p) (hk : 0 ≤ k ∧ p + k ≤ n) (h : s.1 1 d 0 = n) : ∃ u, zf_7 d p k s = zi 0 u ∧ (∀ (f' n' : Nat) (i' : Int), ¬ (n' = d ∧ (f' = 0 ∨ f' = 1)) → u.1 f' n' i' = s.1 f' n' i') ∧ u.2 = s.2 ∧ u.1 1 d 0 = n - k ∧ (∀ i, p ≤ i → i < n - k → u.1 0 d i = s.1 0 d (i + k)) ∧ ∀ i, i < p → u.1 0 d i = s.1 0 d i := by
  unfold zf_7
  rw [if_neg (by omega), if_neg (by omega), h, zg_ok ⟨by omega, by omega⟩, if_pos (by omega), zg_ok ⟨by omega, by omega⟩]
  obtain ⟨u, a1, a2, a3, a4, a5, a6⟩ := C7_23 (k := k) hd hn hk.1 (n - (p + k)).toNat xfu (p + k) s (pa_fu (by omega)) rfl (by omega) hk.2 h
  exact ⟨u, a1, a2, a3, a4, fun i i1 i2 => a5 i (by omega) i2, fun i i1 => a6 i (by omega)⟩
theorem C6_39 (hd : d < 3 ∧ 1 ≤ d) (hp : 0 ≤ p) (hk : 0 ≤ k ∧ n + k ≤ 160) : ∀ (m M : Nat) (x : Int) (s : zS), m < M → m = (x + 1 - p).toNat → p - 1 ≤ x → x < n → s.1 1 d 0 = n → ∃ u, zf_6_39 M d p k x s = zi 1 u ∧ (∀ (f' n' : Nat) (i' : Int), ¬ (n' = d ∧ (f' = 0 ∨ f' = 1)) → u.1 f' n' i' = s.1 f' n' i') ∧ u.2 = s.2 ∧ u.1 1 d 0 = n + k ∧ (∀ i, p ≤ i → i ≤ x → u.1 0 d (i + k) = s.1 0 d i) ∧ (∀ i, i < p → u.1 0 d i = s.1 0 d i) ∧ ∀ i, x + k < i → u.1 0 d i = s.1 0 d i := by
  have l := zl_d hd
  intro m
  induction m with
  | zero =>
    intro M x s hM hm x0 xn h
    obtain ⟨M, rfl⟩ : ∃ L, M = L + 1 := ⟨M - 1, by omega⟩
    unfold zf_6_39
    rw [if_pos (by omega), h, zg_ok ⟨by omega, by omega⟩, zP_ok, zz1]
    exact ⟨_, rfl, fun f' n' i' hn => zp_n3 (by omega), rfl, zp_eq, fun i i1 i2 => by omega, fun i i1 => zp_nk (by decide), fun i i1 => zp_nk (by decide)⟩
  | succ m ih =>
    intro M x s hM hm x0 xn h
    obtain ⟨M, rfl⟩ : ∃ L, M = L + 1 := ⟨M - 1, by omega⟩
    unfold zf_6_39
    rw [if_neg (by omega), zn_ok (by omega), zg_ok ⟨by omega, by omega⟩, zW_ok (by omega), zg_ok ⟨by omega, by omega⟩]
    obtain ⟨u, a1, a2, a3, a4, a5, a6, a7⟩ := ih M (x + (-1)) (zp 0 d (x + k) (s.1 0 d x) s) (by omega) (by omega) (by omega) (by omega) ((zp_nk (by decide)).trans h)
    refine ⟨u, a1, fun f' n' i' hn => (a2 f' n' i' hn).trans (zp_n3 (by omega)), a3, a4, fun i i1 i2 => ?_, fun i i1 => ?_, fun i i1 => ?_⟩
    · by_cases e : i = x
      · rw [a7 (i + k) (by omega), e, zp_eq]
      · rw [a5 i i1 (by omega), zp_ni (by omega)]
    · rw [a6 i i1, zp_ni (by omega)]
    · rw [a7 i (by omega), zp_ni (by omega)]
theorem C6 (hd : d < 3 ∧ 1 ≤ d) (hp : 0 ≤ p ∧ p ≤ n) (hk : 0 ≤ k ∧ n + k ≤ 160) (h : s.1 1 d 0 = n) : ∃ u, zf_6 d p k s = zi 1 u ∧ (∀ (f' n' : Nat) (i' : Int), ¬ (n' = d ∧ (f' = 0 ∨ f' = 1)) → u.1 f' n' i' = s.1 f' n' i') ∧ u.2 = s.2 ∧ u.1 1 d 0 = n + k ∧ (∀ i, p ≤ i → i < n → u.1 0 d (i + k) = s.1 0 d i) ∧ ∀ i, i < p → u.1 0 d i = s.1 0 d i := by
  have l := zl_d hd
  unfold zf_6
  rw [if_neg (by omega), h, if_neg (by omega), if_neg (by omega), l, zg_ok ⟨by omega, by omega⟩, if_pos (by omega), zg_ok ⟨by omega, by omega⟩]
  obtain ⟨u, a1, a2, a3, a4, a5, a6, a7⟩ := C6_39 (p := p) (k := k) (n := n) hd hp.1 hk (n - 1 + 1 - p).toNat xfu (n - 1) s (pa_fu (by omega)) rfl (by omega) (by omega) h
  exact ⟨u, a1, a2, a3, a4, fun i i1 i2 => a5 i i1 (by omega), a6⟩
theorem M209_4 (hn : n ≤ 400) (hk : 0 ≤ k) : ∀ (m M : Nat) (x : Int) (s : zS), m < M → m = (n - x).toNat → k ≤ x → x ≤ n → s.1 594 0 0 = n → ∃ u, zf_209_4 M 0 k x s = zi 0 u ∧ (∀ (f' n' : Nat) (i' : Int), ¬ (n' = 0 ∧ (f' = 594 ∨ f' = 595)) → u.1 f' n' i' = s.1 f' n' i') ∧ u.2 = s.2 ∧ u.1 594 0 0 = n - k ∧ (∀ i, x - k ≤ i → i < n - k → u.1 595 0 i = s.1 595 0 (i + k)) ∧ ∀ i, i < x - k → u.1 595 0 i = s.1 595 0 i := by
  intro m
  induction m with
  | zero =>
    intro M x s hM hm x0 xn h
    obtain ⟨M, rfl⟩ : ∃ L, M = L + 1 := ⟨M - 1, by omega⟩
    unfold zf_209_4
    rw [h, if_pos (by omega), zg_ok ⟨by omega, by omega⟩, zP_ok]
    exact ⟨_, rfl, fun f' n' i' hn => zp_n3 (by omega), rfl, zp_eq, fun i i1 i2 => by omega, fun i i1 => zp_nk (by decide)⟩
  | succ m ih =>
    intro M x s hM hm x0 xn h
    obtain ⟨M, rfl⟩ : ∃ L, M = L + 1 := ⟨M - 1, by omega⟩
    unfold zf_209_4
    rw [h, if_neg (by omega), zn_ok (by omega), zg_ok ⟨by omega, by omega⟩, zW_ok (by omega), zg_ok ⟨by omega, by omega⟩]
    obtain ⟨u, a1, a2, a3, a4, a5, a6⟩ := ih M (x + 1) (zp 595 0 (x - k) (s.1 595 0 x) s) (by omega) (by omega) (by omega) (by omega) ((zp_nk (by decide)).trans h)
    refine ⟨u, a1, fun f' n' i' hn => (a2 f' n' i' hn).trans (zp_n3 (by omega)), a3, a4, fun i i1 i2 => ?_, fun i i1 => ?_⟩
    · by_cases e : i = x - k
      · rw [a6 i (by omega), e, zp_eq, show x - k + k = x by omega]
      · rw [a5 i (by omega) i2, zp_ni (by omega)]
    · rw [a6 i (by omega), zp_ni (by omega)]
theorem M209 (hn : n ≤ 400) (hp : 0 ≤ p) (hk : 0 ≤ k ∧ p + k ≤ n) (h : s.1 594 0 0 = n) : ∃ u, zf_209 0 p k s = zi 0 u ∧ (∀ (f' n' : Nat) (i' : Int), ¬ (n' = 0 ∧ (f' = 594 ∨ f' = 595)) → u.1 f' n' i' = s.1 f' n' i') ∧ u.2 = s.2 ∧ u.1 594 0 0 = n - k ∧ (∀ i, p ≤ i → i < n - k → u.1 595 0 i = s.1 595 0 (i + k)) ∧ ∀ i, i < p → u.1 595 0 i = s.1 595 0 i := by
  unfold zf_209
  rw [zg_ok ⟨by omega, by omega⟩]
  obtain ⟨u, a1, a2, a3, a4, a5, a6⟩ := M209_4 (k := k) hn hk.1 (n - (p + k)).toNat xfu (p + k) s (pa_fu (by omega)) rfl (by omega) hk.2 h
  exact ⟨u, a1, a2, a3, a4, fun i i1 i2 => a5 i (by omega) i2, fun i i1 => a6 i (by omega)⟩
theorem M208_7 (hp : 0 ≤ p) (hk : 0 ≤ k ∧ n + k ≤ 400) : ∀ (m M : Nat) (x : Int) (s : zS), m < M → m = (x + 1 - p).toNat → p - 1 ≤ x → x < n → s.1 594 0 0 = n → ∃ u, zf_208_7 M 0 p k x s = zi 0 u ∧ (∀ (f' n' : Nat) (i' : Int), ¬ (n' = 0 ∧ (f' = 594 ∨ f' = 595)) → u.1 f' n' i' = s.1 f' n' i') ∧ u.2 = s.2 ∧ u.1 594 0 0 = n + k ∧ (∀ i, p ≤ i → i ≤ x → u.1 595 0 (i + k) = s.1 595 0 i) ∧ (∀ i, i < p → u.1 595 0 i = s.1 595 0 i) ∧ ∀ i, x + k < i → u.1 595 0 i = s.1 595 0 i := by
  intro m
  induction m with
  | zero =>
    intro M x s hM hm x0 xn h
    obtain ⟨M, rfl⟩ : ∃ L, M = L + 1 := ⟨M - 1, by omega⟩
    unfold zf_208_7
    rw [if_pos (by omega), h, zg_ok ⟨by omega, by omega⟩, zP_ok]
    exact ⟨_, rfl, fun f' n' i' hn => zp_n3 (by omega), rfl, zp_eq, fun i i1 i2 => by omega, fun i i1 => zp_nk (by decide), fun i i1 => zp_nk (by decide)⟩
  | succ m ih =>
    intro M x s hM hm x0 xn h
    obtain ⟨M, rfl⟩ : ∃ L, M = L + 1 := ⟨M - 1, by omega⟩
    unfold zf_208_7
    rw [if_neg (by omega), zn_ok (by omega), zg_ok ⟨by omega, by omega⟩, zW_ok (by omega), zg_ok ⟨by omega, by omega⟩]
    obtain ⟨u, a1, a2, a3, a4, a5, a6, a7⟩ := ih M (x + (-1)) (zp 595 0 (x + k) (s.1 595 0 x) s) (by omega) (by omega) (by omega) (by omega) ((zp_nk (by decide)).trans h)
    refine ⟨u, a1, fun f' n' i' hn => (a2 f' n' i' hn).trans (zp_n3 (by omega)), a3, a4, fun i i1 i2 => ?_, fun i i1 => ?_, fun i i1 => ?_⟩
    · by_cases e : i = x
      · rw [a7 (i + k) (by omega), e, zp_eq]
      · rw [a5 i i1 (by omega), zp_ni (by omega)]
    · rw [a6 i i1, zp_ni (by omega)]
    · rw [a7 i (by omega), zp_ni (by omega)]
theorem M208 (hp : 0 ≤ p ∧ p ≤ n) (hk : 0 ≤ k ∧ n + k ≤ 400) (h : s.1 594 0 0 = n) : ∃ u, zf_208 0 p k s = zi 0 u ∧ (∀ (f' n' : Nat) (i' : Int), ¬ (n' = 0 ∧ (f' = 594 ∨ f' = 595)) → u.1 f' n' i' = s.1 f' n' i') ∧ u.2 = s.2 ∧ u.1 594 0 0 = n + k ∧ (∀ i, p ≤ i → i < n → u.1 595 0 (i + k) = s.1 595 0 i) ∧ ∀ i, i < p → u.1 595 0 i = s.1 595 0 i := by
  unfold zf_208
  rw [h, zg_ok ⟨by omega, by omega⟩]
  obtain ⟨u, a1, a2, a3, a4, a5, a6, a7⟩ := M208_7 (p := p) (k := k) (n := n) hp.1 hk (n - 1 + 1 - p).toNat xfu (n - 1) s (pa_fu (by omega)) rfl (by omega) (by omega) h
  exact ⟨u, a1, a2, a3, a4, fun i i1 i2 => a5 i i1 (by omega), a6⟩
/-- a copy of the file -/
theorem M203_10 (hn : n ≤ 400) : ∀ (m M : Nat) (x : Int) (s : zS), m < M → m = (n - x).toNat → 0 ≤ x → s.1 594 0 0 = n → ∃ u, zf_203_10 M 0 x s = zi 0 u ∧ (∀ (f' n' : Nat) (i' : Int), ¬ (n' = 0 ∧ f' = 597) → u.1 f' n' i' = s.1 f' n' i') ∧ u.2 = s.2 ∧ (∀ i, x ≤ i → i < n → u.1 597 0 i = s.1 595 0 i) ∧ ∀ i, i < x → u.1 597 0 i = s.1 597 0 i := by
  intro m
  induction m with
  | zero =>
    intro M x s hM hm x0 h
    obtain ⟨M, rfl⟩ : ∃ L, M = L + 1 := ⟨M - 1, by omega⟩
    unfold zf_203_10
    rw [h, if_pos (by omega)]
    exact ⟨s, rfl, fun _ _ _ _ => rfl, rfl, fun i i1 i2 => by omega, fun i i1 => rfl⟩
  | succ m ih =>
    intro M x s hM hm x0 h
    obtain ⟨M, rfl⟩ : ∃ L, M = L + 1 := ⟨M - 1, by omega⟩
    unfold zf_203_10
    rw [h, if_neg (by omega), zn_ok (by omega), zW_ok (by omega), zg_ok ⟨by omega, by omega⟩]
    obtain ⟨u, a1, a2, a3, a4, a5⟩ := ih M (x + 1) (zp 597 0 x (s.1 595 0 x) s) (by omega) (by omega) (by omega) ((zp_nk (by decide)).trans h)
    refine ⟨u, a1, fun f' n' i' hn => (a2 f' n' i' hn).trans (zp_n3 (by omega)), a3, fun i i1 i2 => ?_, fun i i1 => ?_⟩
    · by_cases e : i = x
      · rw [a5 i (by omega), e, zp_eq]
      · rw [a4 i (by omega) i2, zp_nk (by decide)]
    · rw [a5 i (by omega), zp_ni (by omega)]
theorem M203 (hn : 0 ≤ n ∧ n ≤ 400) (h : s.1 594 0 0 = n) : ∃ u, zf_203 0 s = zi 0 u ∧ (∀ (f' n' : Nat) (i' : Int), ¬ (n' = 0 ∧ (f' = 596 ∨ f' = 597)) → u.1 f' n' i' = s.1 f' n' i') ∧ u.2 = s.2 ∧ u.1 596 0 0 = n ∧ ∀ i, 0 ≤ i → i < n → u.1 597 0 i = s.1 595 0 i := by
  unfold zf_203
  rw [h, zP_ok]
  obtain ⟨u, a1, a2, a3, a4, a5⟩ := M203_10 hn.2 (n - 0).toNat xfu 0 (zp 596 0 0 n s) (pa_fu (by omega)) rfl (Int.le_refl _) ((zp_nk (by decide)).trans h)
  exact ⟨u, a1, fun f' n' i' hn => (a2 f' n' i' (by omega)).trans (zp_n3 (by omega)), a3, (a2 596 0 0 (by omega)).trans zp_eq, fun i i1 i2 => (a4 i i1 i2).trans (zp_nk (by decide))⟩
end
