/-! the reference's machine: a field, whatever it is -/
section
variable {t n : Int} {T : yT} {B : yB} {E : yE} {K J A pos made cnt st k me dd g nd pa way due j ln v bt : Int} {s u w : zS}
theorem M178_st : mKeep (A + 1) cnt s (zp 629 0 (A + 1) (dd + 1) (zp 628 0 (A + 1) cnt (zp 627 0 (A + 1) (s.1 588 0 g) (mPu 1 g nd pos (A + 1) s)))) ∧ mTF (A + 1) g nd cnt pos (s.1 588 0 g) (dd + 1) (zp 629 0 (A + 1) (dd + 1) (zp 628 0 (A + 1) cnt (zp 627 0 (A + 1) (s.1 588 0 g) (mPu 1 g nd pos (A + 1) s)))) ∧ (∀ (f : Nat) (i : Int), f < 620 → (zp 629 0 (A + 1) (dd + 1) (zp 628 0 (A + 1) cnt (zp 627 0 (A + 1) (s.1 588 0 g) (mPu 1 g nd pos (A + 1) s)))).1 f 0 i = s.1 f 0 i) := by
  obtain ⟨u1, u2, u3, u4, u5, u6, u7⟩ := mPu_get (what := 1) (st := g) (nd := nd) (pos := pos) (K := A + 1) (s := s)
  refine ⟨(((mKeep.pu (cnt := cnt)).pw (by omega)).pw (by omega)).pw (by omega), ⟨?_, ?_, ?_, ?_, ?_, ?_, ?_, zp_eq⟩, fun f i h => ?_⟩
  · rw [zp_nn (by omega), zp_nn (by omega), zp_nn (by omega)]
    exact u1
  · rw [zp_nn (by omega), zp_nn (by omega), zp_nn (by omega)]
    exact u2
  · rw [zp_nn (by omega), zp_nn (by omega), zp_nn (by omega)]
    exact u3
  · rw [zp_nn (by omega), zp_nn (by omega), zp_nn (by omega)]
    exact u4
  · rw [zp_nn (by omega), zp_nn (by omega), zp_eq]
  · rw [zp_nn (by omega), zp_eq]
  · rw [zp_nn (by omega), zp_nn (by omega), zp_nn (by omega)]
    exact u7
  · rw [zp_nn (by omega), zp_nn (by omega), zp_nn (by omega), mPu_lo h]
end
