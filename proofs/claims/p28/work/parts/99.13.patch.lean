/-! patch: the place -/
def aGo1 (A : aA) (a b : Int) : Int := A.1 385 a - aP A a b - aE A a b
def aCome (A : aA) (a b : Int) : Int := A.1 385 b - aP A a b - aE A a b
def aLo (A : aA) (a b : Int) : Int := aP A a b - aMin 2 (aP A a b)
def aHi (A : aA) (a b : Int) : Int := aP A a b + aGo1 A a b + aMin 2 (aE A a b)
def aEq (X F : yB) (y : Int) : Nat → Int → Bool
  | 0, _ => true
  | m + 1, k => if X k = F (k + y) then aEq X F y m (k + 1) else false
/-- whether the hunk fits so far on -/
def aAt (A : aA) (a b y : Int) : Bool := decide (0 ≤ aLo A a b + y ∧ aHi A a b + y ≤ A.1 3 0) && aEq (aSt A a) (A.1 2) y (aHi A a b - aLo A a b).toNat (aLo A a b)
def aPl (A : aA) (a b : Int) : Nat → Int → Option Int
  | 0, _ => none
  | m + 1, k => if aAt A a b (-k) = true then some (-k) else if aAt A a b k = true then some k else aPl A a b m (k + 1)
section
variable {A : aA} {s u : zS} {a b y : Int}
theorem aMin_b {x y : Int} : aMin x y ≤ x ∧ aMin x y ≤ y ∧ (aMin x y = x ∨ aMin x y = y) := by
  unfold aMin
  split <;> omega
theorem aHL_b (ok : aOK A) (h : aTwo A a b) : (0 ≤ aLo A a b ∧ aLo A a b ≤ aP A a b) ∧ (aP A a b + aGo1 A a b ≤ aHi A a b ∧ aHi A a b ≤ A.1 385 a) ∧ (0 ≤ aGo1 A a b ∧ aGo1 A a b ≤ 160) ∧ 0 ≤ aCome A a b ∧ aCome A a b ≤ 160 := by
  have B := aPE_b ok h
  have m1 := aMin_b (x := 2) (y := aP A a b)
  have m2 := aMin_b (x := 2) (y := aE A a b)
  unfold aLo aHi aGo1 aCome
  omega
/-- behind 160 it fits nowhere -/
theorem aAt_far (ok : aOK A) (h2 : aTwo A a b) {k : Int} (hk : 161 ≤ k) : aAt A a b (-k) = false ∧ aAt A a b k = false := by
  have B := aPE_b ok h2
  have H := aHL_b ok h2
  have of := ok.2.1.1
  unfold aAt
  rw [decide_eq_false (by omega), Bool.false_and, decide_eq_false (by omega), Bool.false_and]
  exact ⟨rfl, rfl⟩
theorem aPl_far (ok : aOK A) (h2 : aTwo A a b) : ∀ (m : Nat) (k : Int), 161 ≤ k → aPl A a b m k = none
  | 0, _, _ => rfl
  | m + 1, k, hk => by
    have f := aAt_far ok h2 hk
    unfold aPl
    rw [if_neg (by rw [f.1]; decide), if_neg (by rw [f.2]; decide), aPl_far ok h2 m (k + 1) (by omega)]
theorem aPl_b (A : aA) (a b : Int) : ∀ (m : Nat) (k : Int), 0 ≤ k → ∀ y, aPl A a b m k = some y → aAt A a b y = true ∧ -(k + m) ≤ y ∧ y ≤ k + m
  | 0, _, _, _, h => by cases h
  | m + 1, k, k0, y, h => by
    unfold aPl at h
    by_cases c1 : aAt A a b (-k) = true
    · rw [if_pos c1] at h
      injection h with h
      rw [← h]
      exact ⟨c1, by omega, by omega⟩
    · rw [if_neg c1] at h
      by_cases c2 : aAt A a b k = true
      · rw [if_pos c2] at h
        injection h with h
        rw [← h]
        exact ⟨c2, by omega, by omega⟩
      · rw [if_neg c2] at h
        have := aPl_b A a b m (k + 1) (by omega) y h
        exact ⟨this.1, by omega, by omega⟩
end
