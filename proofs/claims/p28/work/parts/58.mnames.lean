/-! the reference's machine: one of several structures -/
section
variable {t n : Int} {T : yT} {B : yB} {E : yE} {K J pos made cnt st k me dd g pa way ln v bt : Int} {s u w : zS}
/-- the node of a structure, with what is in it -/
theorem mIn.tell {kd nm ln v p f fd : Int} {l : List yN} (h612 : u.1 612 0 cnt = kd) (h613 : u.1 613 0 cnt = nm) (h614 : u.1 614 0 cnt = pos) (h617 : u.1 617 0 cnt = p) (h618 : u.1 618 0 cnt = fd) (hfd : fd = if f = -1 then -1 else 48 * t + f) (hkd : kd ≠ 4) (h : mIn t T (cnt + 1) l u) : mIn t T cnt (yn kd nm pos ln v p f :: l) (zp 616 0 cnt v (zp 615 0 cnt ln u)) := by
  refine ⟨?_, fun j x hx => ?_⟩
  · rw [zp_nn (by omega), zp_nn (by omega), h.1, List.length_cons]
    omega
  · cases j with
    | zero =>
      simp only [List.getElem?_cons_zero, Option.some.injEq] at hx
      subst hx
      rw [show cnt + ((0 : Nat) : Int) = cnt by omega]
      refine ⟨?_, ?_, ?_, ?_, ?_, ?_, ?_, fun h => absurd h hkd⟩
      · rw [zp_nn (by omega), zp_nn (by omega)]
        exact h612
      · rw [zp_nn (by omega), zp_nn (by omega)]
        exact h613
      · rw [zp_nn (by omega), zp_nn (by omega)]
        exact h614
      · rw [zp_nn (by omega), zp_eq]
        rfl
      · exact zp_eq
      · rw [zp_nn (by omega), zp_nn (by omega)]
        exact h617
      · rw [zp_nn (by omega), zp_nn (by omega), h618, hfd]
        rfl
    | succ j =>
      rw [List.getElem?_cons_succ] at hx
      have e : cnt + ((j + 1 : Nat) : Int) = cnt + 1 + (j : Int) := by omega
      rw [e, zp_nn (by omega), zp_nn (by omega), zp_nn (by omega), zp_nn (by omega), zp_nn (by omega), zp_nn (by omega), zp_nn (by omega), zp_nn (by omega), zp_nn (by omega), zp_nn (by omega), zp_nn (by omega), zp_nn (by omega), zp_nn (by omega), zp_nn (by omega), zp_nn (by omega), zp_nn (by omega)]
      exact h.2 j x hx
theorem mTF.kp {s' : zS} {cn : Int} (F : mTF J g pa cnt pos way dd s) (k : mKeep (J + 1) cn s s') (h : s'.1 620 0 0 = s.1 620 0 0) : mTF J g pa cnt pos way dd s' := by
  obtain ⟨f1, f2, f3, f4, f5, f6, f7, f8⟩ := F
  have a := fun (f : Nat) (h1 : 621 ≤ f) (h2 : f < 630) => k.2.2.1 f J h1 h2 (by omega)
  exact ⟨h.trans f1, (a 621 (by decide) (by decide)).trans f2, (a 622 (by decide) (by decide)).trans f3, (a 623 (by decide) (by decide)).trans f4, (a 627 (by decide) (by decide)).trans f5, (a 628 (by decide) (by decide)).trans f6, (a 626 (by decide) (by decide)).trans f7, (a 629 (by decide) (by decide)).trans f8⟩
end
