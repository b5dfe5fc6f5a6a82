/-! THE LAW'S RUN FROM ITS ENTRY -/
section
variable {A : aA} {s : zS} {m M : Nat} {L : Nat} {xs : Nat → Int32}
theorem tpl_ok (h : lP 74 m s) : ∃ A' u, zf_107 0 3 s = some (.inl 0, u) ∧ rdy A' ∧ lQ A' w00 (m + 1) u := by
  obtain ⟨A, h1, ⟨h2, h3⟩, h4, h5, h6, h7, h8⟩ := h
  have e : pa_sg (A.1 0) (A.1 1 0) = tpG := by
    funext p
    rw [h2]
    unfold tpG pa_sg
    by_cases c : 0 ≤ p ∧ p < ((74 : Nat) : Int)
    · rw [if_pos c, if_pos (show 0 ≤ p ∧ p < 74 by omega)]
      exact h3 p c.1 c.2
    · rw [if_neg c, if_neg (show ¬ (0 ≤ p ∧ p < 74) by omega)]
  have c := C107z (x := 3) h1.1 h7 h1.2.1 h8
  unfold sTemplate at c
  rw [if_pos (by decide), if_neg (by omega), e, tp_all, h4] at c
  obtain ⟨u, e1, r, cc, f, x⟩ := c
  have d0 : (aTpl tpU0 3 A).2 0 = tpU := by
    show (if ((0 : Nat) : Int) = A.1 522 0 then pa_w 448 0 3 tpU0 else A.2 0) = tpU
    rw [h4]
    rfl
  have d5 : (aTpl tpU0 3 A).1 522 0 = 1 := by
    show A.1 522 0 + 1 = 1
    omega
  refine ⟨aTpl tpU0 3 A, u, e1, ⟨rfl, d5, ?_, h5, h6, ?_⟩, h1.of r cc f x⟩
  · rw [d0]
    exact tpU_H
  · refine ⟨⟨by show (0 : Int) ≤ 0 ∧ (0 : Int) ≤ 200; decide, fun i i0 i1 => by have i1 : i < 0 := i1; omega⟩, h7.2.1, h7.2.2.1, h7.2.2.2.1, ⟨by rw [d5]; decide, by rw [d5]; decide⟩, fun k hk => ?_⟩
    rw [d5] at hk
    have hk0 : k = 0 := by omega
    subst hk0
    rw [d0]
    exact ⟨tp_WT tpU_H, by rw [tpU_H.f448_0]; decide, by rw [tpU_H.f448_0]; decide, tpU_BE⟩
theorem l23 (h : lP 0 m s) (hM : m + 200 + 401 * 36 ≤ M) : zw (zf_0_23 L xs 0 0 0 0 s) fun r u => r = 1 ∧ u.2.2 ≤ M := by
  unfold zf_0_23
  refine zw_C' (l92 h (by decide) (by decide) (by decide) (by decide) (by decide) (by decide) (by decide) (by decide) (by decide)) fun _ u h => ?_
  refine zw_C' (l92 h (by decide) (by decide) (by decide) (by decide) (by decide) (by decide) (by decide) (by decide) (by decide)) fun _ u h => ?_
  refine zw_C' (l92 h (by decide) (by decide) (by decide) (by decide) (by decide) (by decide) (by decide) (by decide) (by decide)) fun _ u h => ?_
  refine zw_C' (l92 h (by decide) (by decide) (by decide) (by decide) (by decide) (by decide) (by decide) (by decide) (by decide)) fun _ u h => ?_
  refine zw_C' (l92 h (by decide) (by decide) (by decide) (by decide) (by decide) (by decide) (by decide) (by decide) (by decide)) fun _ u h => ?_
  refine zw_C' (l92 h (by decide) (by decide) (by decide) (by decide) (by decide) (by decide) (by decide) (by decide) (by decide)) fun _ u h => ?_
  refine zw_C' (l92 h (by decide) (by decide) (by decide) (by decide) (by decide) (by decide) (by decide) (by decide) (by decide)) fun _ u h => ?_
  refine zw_C' (l92 h (by decide) (by decide) (by decide) (by decide) (by decide) (by decide) (by decide) (by decide) (by decide)) fun _ u h => ?_
  refine zw_C' (l92 h (by decide) (by decide) (by decide) (by decide) (by decide) (by decide) (by decide) (by decide) (by decide)) fun _ u h => ?_
  refine zw_C' (l92_e h (by decide) (by decide) (by decide)) fun _ u h => ?_
  obtain ⟨A', u', e1, r, h'⟩ := tpl_ok h
  have hz : ∀ (u : zS) (K : Int → zS → zR), zC (some (.inl 0, u)) K = K 0 u := fun _ _ => rfl
  rw [e1, hz, if_pos rfl]
  exact l230 r (by omega) rfl h'
def aA0 : aA := (fun f _ => if f = 388 then -1 else 0, fun _ _ _ => 0)
theorem lP_0 : lP 0 0 zs0 := by
  refine ⟨aA0, ⟨⟨⟨rfl, fun i i1 i2 => ?_⟩, ⟨rfl, fun i i1 i2 => ?_⟩, ⟨rfl, fun j j1 j2 => ?_⟩, rfl, ⟨rfl, Or.inl rfl, by decide⟩, fun k k1 k2 => ?_, fun k k2 => ?_⟩, Or.inl rfl, ⟨fun _ => rfl, fun _ => rfl, fun _ => rfl⟩, Nat.le_refl 0⟩, ⟨rfl, fun i i0 i1 => ?_⟩, rfl, rfl, rfl, ⟨⟨by decide, fun i i1 i2 => ?_⟩, ⟨by decide, fun i i1 i2 => ?_⟩, ⟨by decide, fun j j1 j2 => ?_⟩, by decide, by decide, fun k k2 => ?_⟩, rfl⟩
  · have i2 : i < 0 := i2
    omega
  · have i2 : i < 0 := i2
    omega
  · have j2 : j < 0 := j2
    omega
  · show (0 : Int) = if k < ((0 : Nat) : Int) then k + 1 else 0
    rw [if_neg (by omega)]
  · have k2 : (k : Int) < 0 := k2
    omega
  · omega
  · have i2 : i < 0 := i2
    omega
  · have i2 : i < 0 := i2
    omega
  · have j2 : j < 0 := j2
    omega
  · have k2 : (k : Int) < 0 := k2
    omega
/-- the runner comes to true, within the room -/
theorem law_run (hL : L ≤ 260) : ∃ N h', xr_run (xt_T L xs) N 1000 0 0 (lv_args 0 [.retAddr 1]) [] xt_h0 = some (.inl (some (.int 1)), h') ∧ h'.1 ≤ 600130 ∧ h'.2.1 ≤ 7301080 := by
  obtain ⟨h, e0, H0⟩ := ent_0 L xs
  obtain ⟨v, w, a1, rfl, a3⟩ := l23 (L := L) (xs := xs) (M := 20000) lP_0 (by decide)
  obtain ⟨o, h', b1, b2, b3⟩ := zg_0_23 L xs (by omega) H0 (by decide) (by decide) (by decide) (by decide) _ _ a1
  have o1 : o = .inl (some (.int (Int32.ofInt 1))) := b2.2
  rw [b1, o1] at e0
  obtain ⟨N, hN⟩ := xg_0 L xs xt_h0 _ e0
  obtain ⟨-, c0, ⟨c1, c2, c3⟩, -, -⟩ := b3
  exact ⟨N, h', hN 1000 (by decide), by omega, by omega⟩
end
