section
/-! THE LAW'S RUN FROM ITS ENTRY -/
def aA0 : aA := (fun f _ => if f = 388 then -1 else 0, fun _ _ _ => 0)
theorem lI_0 {h : xrH} (H : zH 0 h zs0) : lI aA0 zs0 := by
  refine ⟨⟨⟨rfl, fun i i1 i2 => ?_⟩, ⟨rfl, fun i i1 i2 => ?_⟩, ⟨rfl, fun j j1 j2 => ?_⟩, rfl, ⟨rfl, Or.inl rfl, by decide⟩, fun k k1 k2 => ?_, fun k k2 => ?_⟩, Or.inl rfl, ⟨⟨rfl, fun i i1 i2 => ?_⟩, ⟨rfl, fun i i1 i2 => ?_⟩, ⟨rfl, fun j j1 j2 => ?_⟩, rfl, rfl, fun k k2 => ?_, fun i => by show (-48 : Int) ≤ 0 ∧ (0 : Int) ≤ 207; decide⟩, ⟨⟨by decide, fun i i1 i2 => ?_⟩, ⟨by decide, fun i i1 i2 => ?_⟩, ⟨by decide, fun j j1 j2 => ?_⟩, by decide, by decide, fun k k2 => ?_⟩, h, H⟩
  · have i2 : i < 0 := i2
    omega
  · have i2 : i < 0 := i2
    omega
  · have j2 : j < 0 := j2
    omega
  · show (0 : Int) = if k < ((0 : Nat) : Int) then k + 1 else 0
    rw [if_neg (by omega)]
  · have k2 : (k : Int) < 0 := k2
    omega
  · have i2 : i < 0 := i2
    omega
  · have i2 : i < 0 := i2
    omega
  · have j2 : j < 0 := j2
    omega
  · have k2 : (k : Int) < 0 := k2
    omega
  · have i2 : i < 0 := i2
    omega
  · have i2 : i < 0 := i2
    omega
  · have j2 : j < 0 := j2
    omega
  · have k2 : (k : Int) < 0 := k2
    omega
/-- the runner comes to true, within the room -/
theorem law_run {L : Nat} {xs : Nat → Int32} (hL : L ≤ 2048) : ∃ N h', xr_run (xt_T L xs) N 1000 0 0 (lv_args 0 [.retAddr 1]) [] xt_h0 = some (.inl (some (.int 1)), h') ∧ h'.1 ≤ 601024 ∧ h'.2.1 ≤ 7293034 := by
  obtain ⟨h, e0, H0⟩ := ent_0 L xs
  obtain ⟨w, a1, a2, a3⟩ := law_0_23 (xs := xs) hL 512 xfu 0 aA0 zs0 (pa_fu (by decide)) (by omega) (by decide) (lI_0 H0)
  obtain ⟨o, h', b1, b2, b3⟩ := zg_0_23 L xs (by omega) xfu H0 (by decide) (by decide) (by decide) ⟨rfl, by decide⟩ _ _ a1
  have o1 : o = .inl (some (.int (Int32.ofInt 1))) := b2.2
  rw [b1, o1] at e0
  obtain ⟨N, hN⟩ := xg_0 L xs xt_h0 _ e0
  have w0 : w.2.2 ≤ 512 := by
    have z : zs0.2.2 = 0 := rfl
    rw [z] at a3
    omega
  obtain ⟨-, -, ⟨c1, c2, c3⟩, -, -⟩ := b3
  exact ⟨N, h', hN 1000 (by decide), by omega, by omega⟩
end
