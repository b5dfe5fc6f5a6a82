/-! chain: the reference -/
section
variable {A : aA} {s u : zS} {j w t : Int} {T : yT} {B C : yB} {n L : Int} {N : Int → yN}
theorem ySm_up {h : Int → Int} {c : Int} (hc : h c = 0) : ∀ (m : Nat) (k : Int), k ≤ c → c < k + m → ySm (fun i => if i = c then 1 else h i) m k = ySm h m k + 1
  | 0, k, k1, k2 => by omega
  | m + 1, k, k1, k2 => by
    show (if k = c then 1 else h k) + ySm _ m (k + 1) = h k + ySm h m (k + 1) + 1
    by_cases e : k = c
    · rw [if_pos e, ySm_c (h' := h) m (k + 1) fun i i1 i2 => if_neg (by omega), e, hc]
      omega
    · rw [if_neg e, ySm_up hc m (k + 1) (by omega) (by omega)]
      omega
theorem ySm_full {h : Int → Int} (hh : ∀ i, 0 ≤ h i ∧ h i ≤ 1) : ∀ (m : Nat) (k : Int), ySm h m k = m → ∀ i, k ≤ i → i < k + m → h i = 1
  | 0, k, _, i, i1, i2 => by omega
  | m + 1, k, e, i, i1, i2 => by
    have e : h k + ySm h m (k + 1) = ((m + 1 : Nat) : Int) := e
    have a := ySm_b hh m (k + 1)
    have b := hh k
    by_cases d : i = k
    · rw [d]
      omega
    · exact ySm_full hh m (k + 1) (by omega) i (by omega) (by omega)
/-- what the reference remembers of a chain: the first cnt of its list are where h is 1 -/
def mVs (h : Int → Int) (cnt : Int) (s : zS) : Prop := (∀ c, h c = 0 ∨ h c = 1) ∧ (∀ st off, (0 ≤ st ∧ st < 6) → (0 ≤ off ∧ off ≤ 255) → (h (256 * st + off) = 1 ↔ ∃ k, (0 ≤ k ∧ k < cnt) ∧ s.1 633 0 k = 1000 * st + off)) ∧ ySm h 1536 0 = cnt
theorem aSel1 {a v x : Int} {P : Prop} [Decidable P] (hP : P) (hv : v ≠ -1) : (if (if a = -1 then (if P then v else -1) else a) = -1 then x else (if a = -1 then (if P then v else -1) else a)) = if a = -1 then v else a := by
  by_cases c : a = -1
  · simp only [if_pos c, if_pos hP, if_neg hv]
  · simp only [if_neg c]
theorem aSel2 {a v x : Int} {P : Prop} [Decidable P] (hP : ¬ P) : (if (if a = -1 then (if P then v else -1) else a) = -1 then x else (if a = -1 then (if P then v else -1) else a)) = if a = -1 then x else a := by
  by_cases c : a = -1
  · simp only [if_pos c, if_neg hP, if_true]
  · simp only [if_neg c]
end
