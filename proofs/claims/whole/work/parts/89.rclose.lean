/-! the reference's parser: the end of a structure that is bad -/
section
variable {t st n N b : Int} {X : Int → Int} {s : zS}
theorem r169_532 (ht : 0 ≤ t ∧ t ≤ 3) (h82 : 0 ≤ s.1 582 0 t ∧ s.1 582 0 t ≤ 6) : zf_169_532 0 t s = zi 0 (zp 582 0 t (s.1 582 0 t + 1) s) := by
  unfold zf_169_532
  rw [zn_ok (by omega), zg_ok ⟨by omega, by omega⟩, zW_ok (by omega)]
theorem r169_389_bad {M : Nat} {k : Int} (ht : 0 ≤ t ∧ t ≤ 3) (h6 : 0 ≤ st ∧ st ≤ 5) (hg : s.1 606 0 0 = 0) : zf_169_389 (M + 1) 0 t st k s = zf_169_532 0 t s := by
  unfold zf_169_389
  rw [zg_ok ⟨by omega, by omega⟩, zg_ok ⟨by omega, by omega⟩, zn_ok (by omega)]
  by_cases c : s.1 585 0 (6 * t + st) ≤ k
  · rw [if_pos c]
  · rw [if_neg c, if_pos hg]
theorem r169_359_bad (hX : pa_X X n) (h6 : 0 ≤ st ∧ st ≤ 5) (h82 : 0 ≤ s.1 582 0 t ∧ s.1 582 0 t ≤ 6) (h : rS t X n N none s) (hN : n ≤ N ∧ N ≤ 60000) : ∃ u v, rk s v ∧ rS t X n (N + 1) none v ∧ u = zp 582 0 t (s.1 582 0 t + 1) v ∧ zf_169_359 0 t st b s = zi 0 u := by
  have h1 := h.1
  obtain ⟨x, s1, e1, k1, k2, k3⟩ := r157 (c := 125) hX (by decide) h (by omega)
  have k2 : rS t X n (N + 1) none s1 := k2
  have e6 : s1.1 606 0 0 = 0 := k2.2.2.2.2.2
  have m := k2.g (g := 0) (Or.inl rfl)
  rw [if_pos rfl] at m
  have F : rk s (zp 606 0 0 0 s1) := k1.pw (Or.inr rfl)
  refine ⟨_, _, F, m, rfl, ?_⟩
  have e8 := F.1 582 0 t (by omega)
  have hx : (xfu : Nat) = (xfu - 1) + 1 := by
    have := pa_fu (m := 1) (by decide)
    omega
  unfold zf_169_359
  rw [e1, show ∀ K : Int → zS → zR, zC (some (.inl x, s1)) K = K x s1 from fun K => rfl, if_pos e6, zPz_ok (by decide), hx, r169_389_bad h1 h6 m.2.2.2.2.2, r169_532 h1 (by rw [e8]; exact h82), e8]
end
