/-! hunk -/
def aSt (A : aA) (j : Int) : yB := fun i => A.1 384 (160 * j + i)
def aHd (X Y : yB) : Nat → Int → Int
  | 0, k => k
  | m + 1, k => if X k = Y k then aHd X Y m (k + 1) else k
def aTl (X Y : yB) (a b : Int) : Nat → Int → Int
  | 0, k => k
  | m + 1, k => if X (a - 1 - k) = Y (b - 1 - k) then aTl X Y a b m (k + 1) else k
def aMin (a b : Int) : Int := if b < a then b else a
/-- how many bytes two states have in common ahead, and behind -/
def aP (A : aA) (a b : Int) : Int := aHd (aSt A a) (aSt A b) (aMin (A.1 385 a) (A.1 385 b)).toNat 0
def aE (A : aA) (a b : Int) : Int := aTl (aSt A a) (aSt A b) (A.1 385 a) (A.1 385 b) (aMin (A.1 385 a) (A.1 385 b) - aP A a b).toNat 0
def sHunk (a b w : Int) (A : aA) : Int ⊕ Nat := if (0 ≤ a ∧ a < A.1 387 0) ∧ 0 ≤ b ∧ b < A.1 387 0 then (if 0 ≤ w ∧ w ≤ 2 then .inl (if w = 0 then aP A a b else if w = 1 then A.1 385 a - aP A a b - aE A a b else A.1 385 b - aP A a b - aE A a b) else .inr 0) else .inr 2
section
variable {A : aA} {s u : zS} {a b : Int}
theorem aHd_b (X Y : yB) : ∀ (m : Nat) (k : Int), k ≤ aHd X Y m k ∧ aHd X Y m k ≤ k + m
  | 0, k => ⟨Int.le_refl _, by unfold aHd; omega⟩
  | m + 1, k => by
    have := aHd_b X Y m (k + 1)
    unfold aHd
    split <;> omega
theorem aTl_b (X Y : yB) (a b : Int) : ∀ (m : Nat) (k : Int), k ≤ aTl X Y a b m k ∧ aTl X Y a b m k ≤ k + m
  | 0, k => ⟨Int.le_refl _, by unfold aTl; omega⟩
  | m + 1, k => by
    have := aTl_b X Y a b m (k + 1)
    unfold aTl
    split <;> omega
/-- two states that there are -/
def aTwo (A : aA) (a b : Int) : Prop := (0 ≤ a ∧ a < A.1 387 0) ∧ 0 ≤ b ∧ b < A.1 387 0
theorem aPE_b (ok : aOK A) (h : aTwo A a b) : (0 ≤ aP A a b ∧ 0 ≤ aE A a b) ∧ (aP A a b + aE A a b ≤ A.1 385 a ∧ aP A a b + aE A a b ≤ A.1 385 b) ∧ (0 ≤ A.1 385 a ∧ A.1 385 a ≤ 160) ∧ 0 ≤ A.1 385 b ∧ A.1 385 b ≤ 160 := by
  have o := ok.2.2.1.2
  have oa := (o a h.1.1 h.1.2).1
  have ob := (o b h.2.1 h.2.2).1
  have p := aHd_b (aSt A a) (aSt A b) (aMin (A.1 385 a) (A.1 385 b)).toNat 0
  have e := aTl_b (aSt A a) (aSt A b) (A.1 385 a) (A.1 385 b) (aMin (A.1 385 a) (A.1 385 b) - aP A a b).toNat 0
  have mn : 0 ≤ aMin (A.1 385 a) (A.1 385 b) ∧ aMin (A.1 385 a) (A.1 385 b) ≤ A.1 385 a ∧ aMin (A.1 385 a) (A.1 385 b) ≤ A.1 385 b := by
    unfold aMin
    split <;> omega
  have p : 0 ≤ aP A a b ∧ aP A a b ≤ 0 + ((aMin (A.1 385 a) (A.1 385 b)).toNat : Int) := p
  have e : 0 ≤ aE A a b ∧ aE A a b ≤ 0 + ((aMin (A.1 385 a) (A.1 385 b) - aP A a b).toNat : Int) := e
  omega
end
