/-! the reference's machine: fields without structures -/
/-- the frame K holds the fields of a structure, field k is next -/
def mFF (T : yT) (K st me k dd : Int) (s : zS) : Prop := s.1 620 0 0 = K + 1 ∧ s.1 621 0 K = 0 ∧ s.1 622 0 K = st ∧ s.1 623 0 K = me ∧ s.1 624 0 K = k ∧ s.1 629 0 K = dd ∧ s.1 625 0 K = yBit T st k.toNat
section
variable {t n : Int} {T : yT} {B : yB} {E : yE} {K J pos made cnt st k me dd g ln v : Int} {s u w : zS}
end
