section
/-! edits keep what holds of the abstract state -/
section
variable {T : yT} {B C F G : yB} {n L w : Int} {N : Int → yN} {s u z : zS} {t k v g e x j : Int} {A : aA}
/-- the shape of the nodes of the file -/
theorem aSh (ok : aOK A) (cn : aChosen A ≠ -1) : ∃ w, ySh (aCt A) (A.1 2) (A.1 3 0) (aNn A) (aLn A) w := by
  obtain ⟨x, x1, x2, x3, x4, x5⟩ := aChosen_x ok cn
  have o := ok.2.2.2.2.2 _ x4
  obtain ⟨n1, n2⟩ := aNn_e x2
  rw [n1, n2]
  exact ⟨_, yTop_sh (st := 0) (off := 0) o.1 o.2.2.2 ok.2.1.1.2 ok.2.1.2 ⟨Int.le_refl _, by have q : 1 ≤ aCt A 449 0 := o.1.1; omega⟩ (by decide) x1⟩
end
end
