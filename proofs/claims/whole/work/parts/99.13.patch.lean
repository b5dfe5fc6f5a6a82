/-! patch: the place -/
def aGo1 (A : aA) (a b : Int) : Int := A.1 385 a - aP A a b - aE A a b
def aCome (A : aA) (a b : Int) : Int := A.1 385 b - aP A a b - aE A a b
def aLo (A : aA) (a b : Int) : Int := aP A a b - aMin 2 (aP A a b)
def aHi (A : aA) (a b : Int) : Int := aP A a b + aGo1 A a b + aMin 2 (aE A a b)
def aEq (X F : yB) (y : Int) : Nat → Int → Bool
  | 0, _ => true
  | m + 1, k => if X k = F (k + y) then aEq X F y m (k + 1) else false
/-- whether the hunk fits so far on -/
def aAt (A : aA) (a b y : Int) : Bool := decide (0 ≤ aLo A a b + y ∧ aHi A a b + y ≤ A.1 3 0) && aEq (aSt A a) (A.1 2) y (aHi A a b - aLo A a b).toNat (aLo A a b)
def aPl (A : aA) (a b : Int) : Nat → Int → Option Int
  | 0, _ => none
  | m + 1, k => if aAt A a b (-k) = true then some (-k) else if aAt A a b k = true then some k else aPl A a b m (k + 1)
section
variable {A : aA} {s u : zS} {a b y : Int}
theorem aMin_b {x y : Int} : aMin x y ≤ x ∧ aMin x y ≤ y ∧ (aMin x y = x ∨ aMin x y = y) := by
  unfold aMin
  split <;> omega
theorem aHL_b (ok : aOK A) (h : aTwo A a b) : (0 ≤ aLo A a b ∧ aLo A a b ≤ aP A a b) ∧ (aP A a b + aGo1 A a b ≤ aHi A a b ∧ aHi A a b ≤ A.1 385 a) ∧ (0 ≤ aGo1 A a b ∧ aGo1 A a b ≤ 160) ∧ 0 ≤ aCome A a b ∧ aCome A a b ≤ 160 := by
  have B := aPE_b ok h
  have m1 := aMin_b (x := 2) (y := aP A a b)
  have m2 := aMin_b (x := 2) (y := aE A a b)
  unfold aLo aHi aGo1 aCome
  omega
theorem C24_62 (h : cR A s) (ok : aOK A) (h2 : aTwo A a b) {p L : Int} (h8 : s.1 128 0 0 = p) (hp : 0 ≤ p ∧ p ≤ 160) (hL : p + L ≤ A.1 385 a ∧ p + L + y ≤ A.1 3 0) (hy : -1000 ≤ y ∧ y ≤ 1000) : ∀ (m M : Nat) (k : Int), m < M → m = (L - k).toNat → 0 ≤ p + k → 0 ≤ p + k + y → zf_24_62 M 0 0 a 1 (p + y) L k s = zi (if aEq (aSt A a) (A.1 2) y m (p + k) = true then 1 else 0) s := by
  have o := ok.2.2.1.2
  have oa := (o a h2.1.1 h2.1.2).1
  have of := ok.2.1.1
  intro m
  induction m with
  | zero =>
    intro M k hM hm k0 k1
    obtain ⟨M, rfl⟩ : ∃ L, M = L + 1 := ⟨M - 1, by omega⟩
    unfold zf_24_62 aEq
    rw [if_pos (by omega), if_pos rfl, zz1]
  | succ m ih =>
    intro M k hM hm k0 k1
    obtain ⟨M, rfl⟩ : ∃ L, M = L + 1 := ⟨M - 1, by omega⟩
    unfold zf_24_62 aEq
    rw [if_neg (by omega), h8, zg_ok ⟨by omega, by omega⟩, z92 h ok h2.1 ⟨by omega, by omega⟩, zC_zi, zg_ok ⟨by omega, by omega⟩, zb_2 h.2.1.1 h.2.1.2 (by rw [show zlB 1 = 160 from rfl]; omega), zC_zi, if_pos (show 0 ≤ p + y + k ∧ p + y + k < A.1 3 0 by omega), show p + y + k = p + k + y by omega]
    by_cases c : aSt A a (p + k) = A.1 2 (p + k + y)
    · rw [if_pos c, if_pos c, zg_ok ⟨by omega, by omega⟩, ih M (k + 1) (by omega) (by omega) (by omega) (by omega), show p + (k + 1) = p + k + 1 by omega]
    · rw [if_neg c, if_neg c, if_neg (by decide), zz0]
theorem C24 (h : cR A s) (ok : aOK A) (h2 : aTwo A a b) (h8 : s.1 128 0 0 = aP A a b) (h9 : s.1 129 0 0 = aGo1 A a b) (hy : -1000 ≤ y ∧ y ≤ 1000) : zf_24 0 0 a 1 (aP A a b + y) s = zi (if aAt A a b y = true then 1 else 0) s := by
  have B := aPE_b ok h2
  have H := aHL_b ok h2
  have of := ok.2.1.1
  have e1 : A.1 385 a - aP A a b - aGo1 A a b = aE A a b := by
    unfold aGo1
    omega
  have z2 : ∀ x : Int, zf_229 2 x s = zi (aMin 2 x) s := fun x => by
    unfold zf_229 aMin
    split <;> rfl
  have m1 := aMin_b (x := 2) (y := aP A a b)
  have m2 := aMin_b (x := 2) (y := aE A a b)
  have eh : aHi A a b = aP A a b + (aGo1 A a b + aMin 2 (aE A a b)) := by
    unfold aHi
    omega
  have el : aLo A a b = aP A a b + (-aMin 2 (aP A a b)) := by
    unfold aLo
    omega
  unfold zf_24 aAt
  rw [h8, z2, zC_zi, z91 h ok h2.1, zC_zi, h8, h9, zg_ok ⟨by omega, by omega⟩, zg_ok ⟨by omega, by omega⟩, e1, z2, zC_zi]
  by_cases c1 : aP A a b + y < aMin 2 (aP A a b)
  · rw [if_pos c1, decide_eq_false (by omega), Bool.false_and, if_neg (by decide), zz0]
  · rw [if_neg c1, zg_ok ⟨by omega, by omega⟩, zg_ok ⟨by omega, by omega⟩, h.2.1.1]
    by_cases c2 : aP A a b + y + (aGo1 A a b + aMin 2 (aE A a b)) ≤ A.1 3 0
    · rw [if_pos c2, zg_ok ⟨by omega, by omega⟩, C24_62 (b := b) h ok h2 h8 (by omega) (by omega) hy (aGo1 A a b + aMin 2 (aE A a b) - -aMin 2 (aP A a b)).toNat xfu _ (pa_fu (by omega)) rfl (by omega) (by omega), decide_eq_true (by omega), Bool.true_and, ← el, show aHi A a b - aLo A a b = aGo1 A a b + aMin 2 (aE A a b) - -aMin 2 (aP A a b) by omega]
    · rw [if_neg c2, decide_eq_false (by omega), Bool.false_and, if_neg (by decide), zz0]
theorem C23_3 (h : cR A s) (ok : aOK A) (h2 : aTwo A a b) (h8 : s.1 128 0 0 = aP A a b) (h9 : s.1 129 0 0 = aGo1 A a b) : ∀ (m M : Nat) (k : Int), m < M → m = (161 - k).toNat → 0 ≤ k → k ≤ 161 → zf_23_3 M 0 0 a 1 k s = zi (match aPl A a b m k with | none => -1 | some y => aP A a b + y) s := by
  have B := aPE_b ok h2
  intro m
  induction m with
  | zero =>
    intro M k hM hm k0 k1
    obtain ⟨M, rfl⟩ : ∃ L, M = L + 1 := ⟨M - 1, by omega⟩
    unfold zf_23_3 aPl
    rw [if_pos (by omega)]
  | succ m ih =>
    intro M k hM hm k0 k1
    obtain ⟨M, rfl⟩ : ∃ L, M = L + 1 := ⟨M - 1, by omega⟩
    unfold zf_23_3 aPl
    rw [if_neg (by omega), h8, zg_ok ⟨by omega, by omega⟩, show aP A a b - k = aP A a b + -k by omega, C24 h ok h2 h8 h9 ⟨by omega, by omega⟩, zC_zi]
    by_cases c1 : aAt A a b (-k) = true
    · rw [if_pos c1, if_neg (by decide), if_pos c1, h8, show aP A a b - k = aP A a b + -k by omega, zg_ok ⟨by omega, by omega⟩]
    · rw [if_neg c1, if_pos rfl, if_neg c1, h8, zg_ok ⟨by omega, by omega⟩, C24 h ok h2 h8 h9 ⟨by omega, by omega⟩, zC_zi]
      by_cases c2 : aAt A a b k = true
      · rw [if_pos c2, if_neg (by decide), if_pos c2, h8, zg_ok ⟨by omega, by omega⟩]
      · rw [if_neg c2, if_pos rfl, if_neg c2, zg_ok ⟨by omega, by omega⟩]
        exact ih M (k + 1) (by omega) (by omega) (by omega) (by omega)
theorem M225_28 (h : mR A s) (ok : aOK A) (h2 : aTwo A a b) {L : Int} (hL : L ≤ A.1 385 a ∧ L + y ≤ A.1 3 0) (hy : -1000 ≤ y ∧ y ≤ 1000) : ∀ (m M : Nat) (k : Int), m + 1 < M → m = (L - k).toNat → 0 ≤ k → 0 ≤ k + y → zf_225_28 M 0 a L y 1 k s = zi (if aEq (aSt A a) (A.1 2) y m k = true then 1 else 0) s := by
  have o := ok.2.2.1.2
  have oa := (o a h2.1.1 h2.1.2).1
  have of := ok.2.1.1
  intro m
  induction m with
  | zero =>
    intro M k hM hm k0 k1
    obtain ⟨M, rfl⟩ : ∃ L, M = L + 1 := ⟨M - 1, by omega⟩
    unfold zf_225_28 aEq
    rw [if_pos (by omega), if_pos rfl, zz1]
  | succ m ih =>
    intro M k hM hm k0 k1
    obtain ⟨M, rfl⟩ : ∃ L, M = L + 1 := ⟨M - 1, by omega⟩
    unfold zf_225_28 aEq
    rw [if_neg (by omega), if_neg (by decide), z221 h ok h2.1 ⟨by omega, by omega⟩, zC_zi, zg_ok ⟨by omega, by omega⟩, zn_ok (by omega), h.2.1.2 _ k1 (by omega)]
    by_cases c : aSt A a k = A.1 2 (k + y)
    · rw [if_pos c, if_pos c, zg_ok ⟨by omega, by omega⟩, ih M (k + 1) (by omega) (by omega) (by omega) (by omega)]
    · rw [if_neg c, if_neg c, if_neg (by decide), zg_ok ⟨by omega, by omega⟩]
      obtain ⟨M, rfl⟩ : ∃ L, M = L + 1 := ⟨M - 1, by omega⟩
      unfold zf_225_28
      rw [if_pos rfl, zz0]
      split <;> rfl
theorem M225 (h : mR A s) (ok : aOK A) (h2 : aTwo A a b) (hy : -1000 ≤ y ∧ y ≤ 1000) : zf_225 0 a (aLo A a b) (aHi A a b) y s = zi (if aAt A a b y = true then 1 else 0) s := by
  have B := aPE_b ok h2
  have H := aHL_b ok h2
  have of := ok.2.1.1
  have hx : (xfu : Nat) = (xfu - 1) + 1 := by
    have := pa_fu (m := 1) (by decide)
    omega
  have z0 : zf_225_28 xfu 0 a (aHi A a b) y 0 (aLo A a b) s = zi 0 s := by
    rw [hx]
    unfold zf_225_28
    rw [if_pos rfl, zz0]
    split <;> rfl
  unfold zf_225 aAt
  rw [zg_ok ⟨by omega, by omega⟩]
  by_cases c1 : aLo A a b + y < 0
  · rw [if_pos c1, z0, decide_eq_false (by omega), Bool.false_and, if_neg (by decide)]
  · rw [if_neg c1, zg_ok ⟨by omega, by omega⟩, h.2.1.1]
    by_cases c2 : A.1 3 0 < aHi A a b + y
    · rw [if_pos c2, z0, decide_eq_false (by omega), Bool.false_and, if_neg (by decide)]
    · rw [if_neg c2, M225_28 (b := b) h ok h2 (by omega) hy (aHi A a b - aLo A a b).toNat xfu _ (pa_fu (by omega)) rfl (by omega) (by omega), decide_eq_true (by omega), Bool.true_and]
/-- behind 160 it fits nowhere -/
theorem aAt_far (ok : aOK A) (h2 : aTwo A a b) {k : Int} (hk : 161 ≤ k) : aAt A a b (-k) = false ∧ aAt A a b k = false := by
  have B := aPE_b ok h2
  have H := aHL_b ok h2
  have of := ok.2.1.1
  unfold aAt
  rw [decide_eq_false (by omega), Bool.false_and, decide_eq_false (by omega), Bool.false_and]
  exact ⟨rfl, rfl⟩
theorem aPl_far (ok : aOK A) (h2 : aTwo A a b) : ∀ (m : Nat) (k : Int), 161 ≤ k → aPl A a b m k = none
  | 0, _, _ => rfl
  | m + 1, k, hk => by
    have f := aAt_far ok h2 hk
    unfold aPl
    rw [if_neg (by rw [f.1]; decide), if_neg (by rw [f.2]; decide), aPl_far ok h2 m (k + 1) (by omega)]
theorem aPl_b (A : aA) (a b : Int) : ∀ (m : Nat) (k : Int), 0 ≤ k → ∀ y, aPl A a b m k = some y → aAt A a b y = true ∧ -(k + m) ≤ y ∧ y ≤ k + m
  | 0, _, _, _, h => by cases h
  | m + 1, k, k0, y, h => by
    unfold aPl at h
    by_cases c1 : aAt A a b (-k) = true
    · rw [if_pos c1] at h
      injection h with h
      rw [← h]
      exact ⟨c1, by omega, by omega⟩
    · rw [if_neg c1] at h
      by_cases c2 : aAt A a b k = true
      · rw [if_pos c2] at h
        injection h with h
        rw [← h]
        exact ⟨c2, by omega, by omega⟩
      · rw [if_neg c2] at h
        have := aPl_b A a b m (k + 1) (by omega) y h
        exact ⟨this.1, by omega, by omega⟩
/-- the reference's loop -/
theorem M226_130 (h : mR A s) (ok : aOK A) (h2 : aTwo A a b) : ∀ (m M : Nat) (k : Int), m + 1 < M → m = (161 - k).toNat → 0 ≤ k → k ≤ 161 → zf_226_130 (M + 50) 0 a b (aP A a b) (aGo1 A a b) (aCome A a b) (aLo A a b) (aHi A a b) 999 k s = zf_226_196 0 b (aP A a b) (aGo1 A a b) (aCome A a b) (match aPl A a b m k with | none => 999 | some y => y) s := by
  have far : ∀ (m M : Nat) (k : Int), m < M → m = (201 - k).toNat → 161 ≤ k → k ≤ 201 → zf_226_130 M 0 a b (aP A a b) (aGo1 A a b) (aCome A a b) (aLo A a b) (aHi A a b) 999 k s = zf_226_196 0 b (aP A a b) (aGo1 A a b) (aCome A a b) 999 s := by
    intro m
    induction m with
    | zero =>
      intro M k hM hm k0 k1
      obtain ⟨M, rfl⟩ : ∃ L, M = L + 1 := ⟨M - 1, by omega⟩
      unfold zf_226_130
      rw [if_pos (by omega)]
    | succ m ih =>
      intro M k hM hm k0 k1
      obtain ⟨M, rfl⟩ : ∃ L, M = L + 1 := ⟨M - 1, by omega⟩
      have f := aAt_far ok h2 k0
      unfold zf_226_130
      rw [if_neg (by omega), if_pos rfl, zg_ok ⟨by omega, by omega⟩, M225 h ok h2 ⟨by omega, by omega⟩, zC_zi, f.1, if_pos (show (if false = true then (1 : Int) else 0) = 0 by decide), M225 h ok h2 ⟨by omega, by omega⟩, zC_zi, f.2, if_pos (show (if false = true then (1 : Int) else 0) = 0 by decide), zg_ok ⟨by omega, by omega⟩]
      exact ih M (k + 1) (by omega) (by omega) (by omega) (by omega)
  intro m
  induction m with
  | zero =>
    intro M k hM hm k0 k1
    rw [far 40 (M + 50) k (by omega) (by omega) (by omega) (by omega)]
    rfl
  | succ m ih =>
    intro M k hM hm k0 k1
    obtain ⟨M, rfl⟩ : ∃ L, M = L + 1 := ⟨M - 1, by omega⟩
    rw [show M + 1 + 50 = M + 50 + 1 by omega]
    unfold zf_226_130 aPl
    rw [if_neg (by omega), if_pos rfl, zg_ok ⟨by omega, by omega⟩, M225 h ok h2 ⟨by omega, by omega⟩, zC_zi]
    have stop : ∀ y : Int, -200 ≤ y → y ≤ 200 → zf_226_130 (M + 50) 0 a b (aP A a b) (aGo1 A a b) (aCome A a b) (aLo A a b) (aHi A a b) y (k + 1) s = zf_226_196 0 b (aP A a b) (aGo1 A a b) (aCome A a b) y s := fun y y0 y1 => by
      rw [show M + 50 = M + 49 + 1 by omega]
      unfold zf_226_130
      rw [if_neg (by omega), if_neg (by omega)]
    by_cases c1 : aAt A a b (-k) = true
    · rw [if_pos c1, if_neg (by decide), zg_ok ⟨by omega, by omega⟩, if_pos c1]
      exact stop _ (by omega) (by omega)
    · rw [if_neg c1, if_pos rfl, M225 h ok h2 ⟨by omega, by omega⟩, zC_zi, if_neg c1]
      by_cases c2 : aAt A a b k = true
      · rw [if_pos c2, if_neg (by decide), zg_ok ⟨by omega, by omega⟩, if_pos c2]
        exact stop _ (by omega) (by omega)
      · rw [if_neg c2, if_pos rfl, zg_ok ⟨by omega, by omega⟩, if_neg c2]
        exact ih M (k + 1) (by omega) (by omega) (by omega) (by omega)
end
