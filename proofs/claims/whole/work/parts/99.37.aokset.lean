section
/-! edits keep what holds of the abstract state -/
section
variable {T : yT} {B C F G : yB} {n L w : Int} {N : Int → yN} {s u z : zS} {t k v g e x j : Int} {A : aA}
theorem eEd_b (h : mR A s) (ok : aOK A) (cn : aChosen A ≠ -1) (hn : 0 ≤ n ∧ n ≤ 160) (hF : ∀ i, 0 ≤ i → i < n → 0 ≤ F i ∧ F i ≤ 255) : ∀ G, eEd (aCt A) n F = some G → ∀ i, 0 ≤ i → i < n → 0 ≤ G i ∧ G i ≤ 255 := fun G he => by
  obtain ⟨y, x1, x2, x3, x4, x5⟩ := aChosen_x ok cn
  have o := ok.2.2.2.2.2 _ x4
  have R := (h.2.2.2.2.2.1 _ x4).2
  rw [x5] at R
  have R2 : mRel (aChosen A) (aCt A) ((fun f m i => if m = 0 ∧ f = 595 then F i else if m = 0 ∧ f = 594 then n else s.1 f m i, s.2) : zS) := R.c o.1 fun f i hf => by
    show (if 0 = 0 ∧ f = 595 then F i else if 0 = 0 ∧ f = 594 then n else s.1 f 0 i) = s.1 f 0 i
    rw [if_neg (by omega), if_neg (by omega)]
  obtain ⟨u, -, -, a3⟩ := M211 (F := F) (n := n) R2 o.1 o.2.2.2 ⟨rfl, hn, fun i _ _ => rfl, hF⟩
  exact (a3 G he).2.2.2
theorem aOK_fin' (h : mR A s) (ok : aOK A) (cn : aChosen A ≠ -1) (hn : 0 ≤ n ∧ n ≤ 160) (hF : ∀ i, 0 ≤ i → i < n → 0 ≤ F i ∧ F i ≤ 255) : aOK (sFin A F n).2 := aOK_fin ok hn (eEd_b h ok cn hn hF)
theorem aOK_repair (h : mR A s) (ok : aOK A) : aOK (sRepair A).2 := by
  unfold sRepair
  by_cases d : aChosen A = -1
  · rw [if_pos d]
    exact ok
  · rw [if_neg d]
    exact aOK_fin' h ok d ok.2.1.1 ok.2.1.2
/-- the shape of the nodes of the file -/
theorem aSh (ok : aOK A) (cn : aChosen A ≠ -1) : ∃ w, ySh (aCt A) (A.1 2) (A.1 3 0) (aNn A) (aLn A) w := by
  obtain ⟨x, x1, x2, x3, x4, x5⟩ := aChosen_x ok cn
  have o := ok.2.2.2.2.2 _ x4
  obtain ⟨n1, n2⟩ := aNn_e x2
  rw [n1, n2]
  exact ⟨_, yTop_sh (st := 0) (off := 0) o.1 o.2.2.2 ok.2.1.1.2 ok.2.1.2 ⟨Int.le_refl _, by have q : 1 ≤ aCt A 449 0 := o.1.1; omega⟩ (by decide) x1⟩
theorem aOK_set (h : mR A s) (ok : aOK A) : aOK (sSet j v A).2 := by
  unfold sSet
  by_cases d : 0 ≤ j ∧ j < aLn A
  · rw [if_pos d]
    by_cases c : eSb A j v
    · have cn := (aLn_b ok).2.2 (by omega)
      obtain ⟨x, x1, x2, x3, x4, x5⟩ := aChosen_x ok cn
      have o := ok.2.2.2.2.2 _ x4
      obtain ⟨w, S⟩ := aSh ok cn
      rw [if_pos c]
      exact aOK_fin' h ok cn ok.2.1.1 (eW_c o.1 o.2.2.2 S ok.2.1.2 d c.1 c.2.2)
    · rw [if_neg c]
      exact ok
  · rw [if_neg d]
    exact ok
end
end
