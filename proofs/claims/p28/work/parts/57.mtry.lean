/-! the reference's machine: structures that are tried -/
/-- the frame J tries structures -/
def mTF (J g pa cnt pos way dd : Int) (s : zS) : Prop := s.1 620 0 0 = J + 1 ∧ s.1 621 0 J = 1 ∧ s.1 622 0 J = g ∧ s.1 623 0 J = pa ∧ s.1 627 0 J = way ∧ s.1 628 0 J = cnt ∧ s.1 626 0 J = pos ∧ s.1 629 0 J = dd
section
variable {t n : Int} {T : yT} {B : yB} {E : yE} {K J pos made cnt st k me dd g pa way ln v bt : Int} {s u w : zS}
end
