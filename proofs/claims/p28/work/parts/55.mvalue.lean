/-! the reference's machine: numbers and bits -/
section
variable {t n : Int} {T : yT} {B : yB} {E : yE} {K J pos made cnt st k me dd g ln v bt : Int} {s u w : zS}
/-- what a number or bits leave, where there is no fault -/
def mVal (K k cnt pos bt ln v ty : Int) (s : zS) : zS := zp 624 0 K (k + 1) (zp 625 0 K (if bt = 8 then 0 else bt) (zp 607 0 0 (pos + (if ty = 110 ∧ bt < 8 then 0 else ln)) (zp 630 0 (8 * K + k) v (zp 616 0 cnt v (zp 615 0 cnt ln s)))))
end
