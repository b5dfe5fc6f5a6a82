/-! the reference's parser: the fields of a structure -/
section
variable {t st n N p b : Int} {X Y G : Int → Int} {T : yT} {s u : zS}
theorem rS.dn (h : rS t X n N (some p) s) (hp : p ≤ n) : rS t X n n (some p) s := ⟨h.1, h.2.1, h.2.2.1, by have := h.2.2.2.1; have := h.p5; omega, h.2.2.2.2⟩
/-- what the fields' loop comes to -/
def rLL (t st : Int) (X Y : Int → Int) (n : Int) (s : zS) (R : Option (yT × Int)) (u : zS) : Prop := rkl t st s u ∧ u.1 582 0 t = s.1 582 0 t + 1 ∧
    (match R with
    | none => rS t X n (n + 200) none u
    | some y => rS t X n (n + 1) (some y.2) u ∧ rT t st y.1 u ∧ rR t st (y.1 453 st) y.1 u ∧ ∀ j, 0 ≤ j → j < y.1 453 st → rQ t Y n st j y.1 u ∧ pRR st y.1 j)
theorem rLL.of {R : Option (yT × Int)} {v : zS} (h : rLL t st X Y n u R v) (a : rkl t st s u) (e : u.1 582 0 t = s.1 582 0 t) : rLL t st X Y n s R v := ⟨a.tr h.1, by rw [h.2.1, e], h.2.2⟩
end
