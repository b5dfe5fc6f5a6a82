/-! bytes taken out and put in -/
section
variable {s : zS} {p k n : Int} {d : Nat}
theorem zl_d (hd : d < 3 ∧ 1 ≤ d) : zlB d = 160 := by
  unfold zlB
  rw [if_neg (by omega)]
theorem C7_23 (hd : d < 3 ∧ 1 ≤ d) (hn : n ≤ 160) (hk : 0 ≤ k) : ∀ (m M : Nat) (x : Int) (s : zS), m < M → m = (n - x).toNat → k ≤ x → x ≤ n → s.1 1 d 0 = n → ∃ u, zf_7_23 M d k x s = zi 0 u ∧ (∀ (f' n' : Nat) (i' : Int), ¬ (n' = d ∧ (f' = 0 ∨ f' = 1)) → u.1 f' n' i' = s.1 f' n' i') ∧ u.2 = s.2 ∧ u.1 1 d 0 = n - k ∧ (∀ i, x - k ≤ i → i < n - k → u.1 0 d i = s.1 0 d (i + k)) ∧ ∀ i, i < x - k → u.1 0 d i = s.1 0 d i := by
  have l := zl_d hd
  intro m
  induction m with
  | zero =>
    intro M x s hM hm x0 xn h
    obtain ⟨M, rfl⟩ : ∃ L, M = L + 1 := ⟨M - 1, by omega⟩
    unfold zf_7_23
    rw [h, if_pos (by omega), zg_ok ⟨by omega, by omega⟩, zP_ok]
    exact ⟨_, rfl, fun f' n' i' hn => zp_n3 (by omega), rfl, zp_eq, fun i i1 i2 => by omega, fun i i1 => zp_nk (by decide)⟩
  | succ m ih =>
    intro M x s hM hm x0 xn h
    obtain ⟨M, rfl⟩ : ∃ L, M = L + 1 := ⟨M - 1, by omega⟩
    unfold zf_7_23
    rw [h, if_neg (by omega), zn_ok (by omega), zg_ok ⟨by omega, by omega⟩, zW_ok (by omega), zg_ok ⟨by omega, by omega⟩]
    obtain ⟨u, a1, a2, a3, a4, a5, a6⟩ := ih M (x + 1) (zp 0 d (x - k) (s.1 0 d x) s) (by omega) (by omega) (by omega) (by omega) ((zp_nk (by decide)).trans h)
    refine ⟨u, a1, fun f' n' i' hn => (a2 f' n' i' hn).trans (zp_n3 (by omega)), a3, a4, fun i i1 i2 => ?_, fun i i1 => ?_⟩
    · by_cases e : i = x - k
      · rw [a6 i (by omega), e, zp_eq, show x - k + k = x by omega]
      · rw [a5 i (by omega) i2, zp_ni (by omega)]
    · rw [a6 i (by omega), zp_ni (by omega)]
theorem C7 (hd : d < 3 ∧ 1 ≤ d) (hn : n ≤ 160) (hp : 0 ≤ p) (hk : 0 ≤ k ∧ p + k ≤ n) (h : s.1 1 d 0 = n) : ∃ u, zf_7 d p k s = zi 0 u ∧ (∀ (f' n' : Nat) (i' : Int), ¬ (n' = d ∧ (f' = 0 ∨ f' = 1)) → u.1 f' n' i' = s.1 f' n' i') ∧ u.2 = s.2 ∧ u.1 1 d 0 = n - k ∧ (∀ i, p ≤ i → i < n - k → u.1 0 d i = s.1 0 d (i + k)) ∧ ∀ i, i < p → u.1 0 d i = s.1 0 d i := by
  unfold zf_7
  rw [if_neg (by omega), if_neg (by omega), h, zg_ok ⟨by omega, by omega⟩, if_pos (by omega), zg_ok ⟨by omega, by omega⟩]
  obtain ⟨u, a1, a2, a3, a4, a5, a6⟩ := C7_23 (k := k) hd hn hk.1 (n - (p + k)).toNat xfu (p + k) s (pa_fu (by omega)) rfl (by omega) hk.2 h
  exact ⟨u, a1, a2, a3, a4, fun i i1 i2 => a5 i (by omega) i2, fun i i1 => a6 i (by omega)⟩
theorem C6_39 (hd : d < 3 ∧ 1 ≤ d) (hp : 0 ≤ p) (hk : 0 ≤ k ∧ n + k ≤ 160) : ∀ (m M : Nat) (x : Int) (s : zS), m < M → m = (x + 1 - p).toNat → p - 1 ≤ x → x < n → s.1 1 d 0 = n → ∃ u, zf_6_39 M d p k x s = zi 1 u ∧ (∀ (f' n' : Nat) (i' : Int), ¬ (n' = d ∧ (f' = 0 ∨ f' = 1)) → u.1 f' n' i' = s.1 f' n' i') ∧ u.2 = s.2 ∧ u.1 1 d 0 = n + k ∧ (∀ i, p ≤ i → i ≤ x → u.1 0 d (i + k) = s.1 0 d i) ∧ (∀ i, i < p → u.1 0 d i = s.1 0 d i) ∧ ∀ i, x + k < i → u.1 0 d i = s.1 0 d i := by
  have l := zl_d hd
  intro m
  induction m with
  | zero =>
    intro M x s hM hm x0 xn h
    obtain ⟨M, rfl⟩ : ∃ L, M = L + 1 := ⟨M - 1, by omega⟩
    unfold zf_6_39
    rw [if_pos (by omega), h, zg_ok ⟨by omega, by omega⟩, zP_ok, zz1]
    exact ⟨_, rfl, fun f' n' i' hn => zp_n3 (by omega), rfl, zp_eq, fun i i1 i2 => by omega, fun i i1 => zp_nk (by decide), fun i i1 => zp_nk (by decide)⟩
  | succ m ih =>
    intro M x s hM hm x0 xn h
    obtain ⟨M, rfl⟩ : ∃ L, M = L + 1 := ⟨M - 1, by omega⟩
    unfold zf_6_39
    rw [if_neg (by omega), zn_ok (by omega), zg_ok ⟨by omega, by omega⟩, zW_ok (by omega), zg_ok ⟨by omega, by omega⟩]
    obtain ⟨u, a1, a2, a3, a4, a5, a6, a7⟩ := ih M (x + (-1)) (zp 0 d (x + k) (s.1 0 d x) s) (by omega) (by omega) (by omega) (by omega) ((zp_nk (by decide)).trans h)
    refine ⟨u, a1, fun f' n' i' hn => (a2 f' n' i' hn).trans (zp_n3 (by omega)), a3, a4, fun i i1 i2 => ?_, fun i i1 => ?_, fun i i1 => ?_⟩
    · by_cases e : i = x
      · rw [a7 (i + k) (by omega), e, zp_eq]
      · rw [a5 i i1 (by omega), zp_ni (by omega)]
    · rw [a6 i i1, zp_ni (by omega)]
    · rw [a7 i (by omega), zp_ni (by omega)]
theorem C6 (hd : d < 3 ∧ 1 ≤ d) (hp : 0 ≤ p ∧ p ≤ n) (hk : 0 ≤ k ∧ n + k ≤ 160) (h : s.1 1 d 0 = n) : ∃ u, zf_6 d p k s = zi 1 u ∧ (∀ (f' n' : Nat) (i' : Int), ¬ (n' = d ∧ (f' = 0 ∨ f' = 1)) → u.1 f' n' i' = s.1 f' n' i') ∧ u.2 = s.2 ∧ u.1 1 d 0 = n + k ∧ (∀ i, p ≤ i → i < n → u.1 0 d (i + k) = s.1 0 d i) ∧ ∀ i, i < p → u.1 0 d i = s.1 0 d i := by
  have l := zl_d hd
  unfold zf_6
  rw [if_neg (by omega), h, if_neg (by omega), if_neg (by omega), l, zg_ok ⟨by omega, by omega⟩, if_pos (by omega), zg_ok ⟨by omega, by omega⟩]
  obtain ⟨u, a1, a2, a3, a4, a5, a6, a7⟩ := C6_39 (p := p) (k := k) (n := n) hd hp.1 hk (n - 1 + 1 - p).toNat xfu (n - 1) s (pa_fu (by omega)) rfl (by omega) (by omega) h
  exact ⟨u, a1, a2, a3, a4, fun i i1 i2 => a5 i i1 (by omega), a6⟩
end
