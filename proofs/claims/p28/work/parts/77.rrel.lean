/-! the reference's parser: a relation -/
section
variable {t st n N p w f : Int} {X : Int → Int} {T U : yT} {s u : zS} {o : Option Int}
theorem rS.g {g : Int} (h : rS t X n N o s) (hg : g = 0 ∨ g = 1) : rS t X n N (if g = 0 then none else some (s.1 605 0 0)) (zp 606 0 0 g s) := h.mk2 (rk.rf.pw (Or.inr rfl)) (zp_nk (by decide)) zp_eq hg h.2.2.2.1
/-- a relation whose argument is a name or a number -/
def pa_rok (f : Int) (U : yT) : Prop := U 467 f = 0 ∨ U 467 f = 61 ∨ (0 ≤ U 468 f ∧ U 468 f ≤ 25)
end
