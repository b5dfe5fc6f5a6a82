/-! the reference's machine: arrays -/
/-- the frame A holds the elements of an array -/
def mAF (A g nd j due dd : Int) (s : zS) : Prop := s.1 620 0 0 = A + 1 ∧ s.1 621 0 A = 2 ∧ s.1 622 0 A = g ∧ s.1 623 0 A = nd ∧ s.1 624 0 A = j ∧ s.1 628 0 A = due ∧ s.1 629 0 A = dd
/-- the first node of a structure tells its length -/
def yNmLen (nm : Int → Int → Int → yO) : Prop := ∀ pos made cnt x, nm pos made cnt = .inr x → ∃ y l, x.2.2.2 = y :: l ∧ y 195 = x.1 - pos
theorem yS_len {T : yT} {B : yB} {n : Int} (d : Nat) (s ow pa : Int) : yNmLen (yS T B n d s ow pa) := by
  intro pos made cnt x h
  cases d with
  | zero => cases h
  | succ d =>
    unfold yS at h
    split at h
    · cases h
    · split at h
      · cases h
      · cases h
        exact ⟨_, _, rfl, rfl⟩
theorem yNm_len {T : yT} {B : yB} {n : Int} {d : Nat} {ow pa : Int} : ∀ (m : Nat) (k : Int), yNmLen (yNm (yS T B n d) T ow pa m k)
  | 0, _ => fun _ _ _ _ h => by cases h
  | m + 1, k => fun pos made cnt x hx => by
    unfold yNm at hx
    cases hy : yS T B n d (T 456 k) ow pa pos made cnt with
    | inr y =>
      rw [hy] at hx
      cases hx
      exact yS_len d _ _ _ _ _ _ _ hy
    | inl e =>
      rw [hy] at hx
      obtain ⟨c, p, made'⟩ := e
      dsimp only at hx
      split at hx
      · cases hx
      · obtain ⟨z, l, h1, h2⟩ := yNm_len m (k + 1) _ _ _ _ hx
        exact ⟨z, l, h1, h2⟩
section
variable {t n : Int} {T : yT} {B : yB} {E : yE} {K J A pos made cnt st k me dd g nd pa way due j ln v bt : Int} {s u w : zS}
/-- the state behind the step that begins an element -/
theorem M180_st (R : mRd t T B n s) (F : mAF A g nd j due dd s) (hA : 1 ≤ A ∧ A ≤ 40) (P : mPre pos made cnt s) : mKeep (A + 1) cnt s (zp 629 0 (A + 1) (dd + 1) (zp 628 0 (A + 1) cnt (zp 627 0 (A + 1) (s.1 588 0 g) (mPu 1 g nd pos (A + 1) s)))) ∧ mTF (A + 1) g nd cnt pos (s.1 588 0 g) (dd + 1) (zp 629 0 (A + 1) (dd + 1) (zp 628 0 (A + 1) cnt (zp 627 0 (A + 1) (s.1 588 0 g) (mPu 1 g nd pos (A + 1) s)))) ∧ mPre pos made cnt (zp 629 0 (A + 1) (dd + 1) (zp 628 0 (A + 1) cnt (zp 627 0 (A + 1) (s.1 588 0 g) (mPu 1 g nd pos (A + 1) s)))) := by
  obtain ⟨u1, u2, u3, u4, u5, u6, u7⟩ := mPu_get (what := 1) (st := g) (nd := nd) (pos := pos) (K := A + 1) (s := s)
  obtain ⟨p1, p2, p3, p4, p5, p6, p7⟩ := P
  refine ⟨(((mKeep.pu (cnt := cnt)).pw (by omega)).pw (by omega)).pw (by omega), ⟨?_, ?_, ?_, ?_, ?_, ?_, ?_, zp_eq⟩, ⟨?_, ?_, ?_, p4, p5, p6, p7⟩⟩
  · rw [zp_nn (by omega), zp_nn (by omega), zp_nn (by omega)]
    exact u1
  · rw [zp_nn (by omega), zp_nn (by omega), zp_nn (by omega)]
    exact u2
  · rw [zp_nn (by omega), zp_nn (by omega), zp_nn (by omega)]
    exact u3
  · rw [zp_nn (by omega), zp_nn (by omega), zp_nn (by omega)]
    exact u4
  · rw [zp_nn (by omega), zp_nn (by omega), zp_eq]
  · rw [zp_nn (by omega), zp_eq]
  · rw [zp_nn (by omega), zp_nn (by omega), zp_nn (by omega)]
    exact u7
  · rw [zp_nn (by omega), zp_nn (by omega), zp_nn (by omega), mPu_lo (by decide)]
    exact p1
  · rw [zp_nn (by omega), zp_nn (by omega), zp_nn (by omega), mPu_lo (by decide)]
    exact p2
  · rw [zp_nn (by omega), zp_nn (by omega), zp_nn (by omega), mPu_lo (by decide)]
    exact p3
theorem mAF.kp {s' : zS} {cn : Int} (F : mAF A g nd j due dd s) (k : mKeep (A + 1) cn s s') (h : s'.1 620 0 0 = A + 1) : mAF A g nd j due dd s' := by
  obtain ⟨f1, f2, f3, f4, f5, f6, f7⟩ := F
  have a := fun (f : Nat) (h1 : 621 ≤ f) (h2 : f < 630) => k.2.2.1 f A h1 h2 (by omega)
  exact ⟨h, (a 621 (by decide) (by decide)).trans f2, (a 622 (by decide) (by decide)).trans f3, (a 623 (by decide) (by decide)).trans f4, (a 624 (by decide) (by decide)).trans f5, (a 628 (by decide) (by decide)).trans f6, (a 629 (by decide) (by decide)).trans f7⟩
def yJoin (w1 : Int) (l1 : List yN) (o : yA) : yA := match o with
  | .inl e => .inl e
  | .inr x => .inr (x.1, x.2.1, x.2.2.1, w1 + x.2.2.2.1, l1 ++ x.2.2.2.2)
end
