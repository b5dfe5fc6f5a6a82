section
/-! edits: bytes are put in or taken out: the reference -/
/-- what the reference has reckoned for node i -/
def eV1 (T : yT) (N : Int → yN) (L J p k g e i : Int) : Int :=
  if N i 192 = 3 then eVl T N L J p k g e i
  else if yRl T (N i 198) then (if (T 467 (N i 198) = 35 ∧ eLi N (yTg T N L i) 201 J = 1) ∨ (T 467 (N i 198) = 37 ∧ yTg T N L i = J) then eVl T N L J p k g e i else N i 196)
  else -1
section
variable {T : yT} {B C F G : yB} {n L w t : Int} {N : Int → yN} {s u : zS} {i k p v x g J e c : Int}
end
end
