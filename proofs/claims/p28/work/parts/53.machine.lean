/-! the reference's reading machine: its parts -/
/-- nothing below frame K and below node cnt has changed, and nothing else than what reading works with -/
def mKeep (K cnt : Int) (s t : zS) : Prop := mfr s t ∧ (∀ (f : Nat) (i : Int), 612 ≤ f → f < 620 → i < cnt → t.1 f 0 i = s.1 f 0 i) ∧ (∀ (f : Nat) (i : Int), 621 ≤ f → f < 630 → i < K → t.1 f 0 i = s.1 f 0 i) ∧ (∀ i : Int, i < 8 * K → t.1 630 0 i = s.1 630 0 i)
theorem mKeep.rf {K cnt : Int} {s : zS} : mKeep K cnt s s := ⟨mfr.rf, fun _ _ _ _ _ => rfl, fun _ _ _ _ _ => rfl, fun _ _ => rfl⟩
theorem mKeep.pw {K cnt : Int} {s t : zS} {f : Nat} {i v : Int} (a : mKeep K cnt s t) (h : (612 ≤ f ∧ f < 620 ∧ cnt ≤ i) ∨ (604 ≤ f ∧ f ≤ 611 ∧ f ≠ 608 ∧ f ≠ 609) ∨ f = 620 ∨ (621 ≤ f ∧ f < 630 ∧ K ≤ i) ∨ (f = 630 ∧ 8 * K ≤ i)) : mKeep K cnt s (zp f 0 i v t) := by
  refine ⟨a.1.pw (by omega), fun c j h1 h2 h3 => ?_, fun c j h1 h2 h3 => ?_, fun j h1 => ?_⟩
  · rw [zp_nn (by omega)]
    exact a.2.1 c j h1 h2 h3
  · rw [zp_nn (by omega)]
    exact a.2.2.1 c j h1 h2 h3
  · rw [zp_nn (by omega)]
    exact a.2.2.2 j h1
theorem mKeep.tr {K K' cnt cnt' : Int} {s t u : zS} (a : mKeep K cnt s t) (b : mKeep K' cnt' t u) (hK : K ≤ K') (hc : cnt ≤ cnt') : mKeep K cnt s u :=
  ⟨a.1.tr b.1, fun f i h1 h2 h3 => (b.2.1 f i h1 h2 (by omega)).trans (a.2.1 f i h1 h2 h3), fun f i h1 h2 h3 => (b.2.2.1 f i h1 h2 (by omega)).trans (a.2.2.1 f i h1 h2 h3), fun i h1 => (b.2.2.2 i (by omega)).trans (a.2.2.2 i h1)⟩
theorem mKeep.of6 {K cnt : Int} {s t : zS} (a : m6 s t) : mKeep K cnt s t := ⟨a.fr, fun f i h1 h2 h3 => a.1 f 0 i (by omega), fun f i h1 h2 h3 => a.1 f 0 i (by omega), fun i h1 => a.1 630 0 i (by omega)⟩
/-- these nodes are the last ones, from cnt on -/
def mIn (t : Int) (T : yT) (cnt : Int) (l : List yN) (u : zS) : Prop := u.1 610 0 0 = cnt + l.length ∧ ∀ (j : Nat) (x : yN), l[j]? = some x → u.1 612 0 (cnt + j) = x 192 ∧ u.1 613 0 (cnt + j) = x 193 ∧ u.1 614 0 (cnt + j) = x 194 ∧ u.1 615 0 (cnt + j) = x 195 ∧ u.1 616 0 (cnt + j) = x 196 ∧ u.1 617 0 (cnt + j) = x 197 ∧ u.1 618 0 (cnt + j) = (if x 198 = -1 then -1 else 48 * t + x 198) ∧ (x 192 = 4 → u.1 619 0 (cnt + j) = 8 - T 460 (x 198) - T 459 (x 198))
theorem mIn.nil {t cnt : Int} {T : yT} {u : zS} (h : u.1 610 0 0 = cnt) : mIn t T cnt [] u := ⟨by simpa using h, fun j x h => by simp at h⟩
theorem mIn.app {t cnt K : Int} {T : yT} {l1 l2 : List yN} {u w : zS} (a : mIn t T cnt l1 u) (k : mKeep K (cnt + l1.length) u w) (b : mIn t T (cnt + l1.length) l2 w) : mIn t T cnt (l1 ++ l2) w := by
  refine ⟨?_, fun j x h => ?_⟩
  · rw [b.1, List.length_append]
    omega
  · by_cases hj : j < l1.length
    · rw [List.getElem?_append_left hj] at h
      have hl : cnt + (j : Int) < cnt + l1.length := by omega
      rw [k.2.1 612 _ (by decide) (by decide) hl, k.2.1 613 _ (by decide) (by decide) hl, k.2.1 614 _ (by decide) (by decide) hl, k.2.1 615 _ (by decide) (by decide) hl, k.2.1 616 _ (by decide) (by decide) hl, k.2.1 617 _ (by decide) (by decide) hl, k.2.1 618 _ (by decide) (by decide) hl, k.2.1 619 _ (by decide) (by decide) hl]
      exact a.2 j x h
    · rw [List.getElem?_append_right (by omega)] at h
      have e := b.2 (j - l1.length) x h
      rw [show cnt + (j : Int) = cnt + l1.length + ((j - l1.length : Nat) : Int) by omega]
      exact e
/-- the reference reads the file B, n by the template t -/
def mRd (t : Int) (T : yT) (B : yB) (n : Int) (s : zS) : Prop := mRel t T s ∧ s.1 603 0 0 = 200 * t ∧ s.1 594 0 0 = n ∧ (0 ≤ n ∧ n ≤ 160) ∧ (∀ i, 0 ≤ i → i < n → s.1 595 0 i = B i) ∧ ∀ i, 0 ≤ i → i < n → 0 ≤ B i ∧ B i ≤ 255
theorem mRd.fr {t n : Int} {T : yT} {B : yB} {s u : zS} (h : mRd t T B n s) (a : mfr s u) : mRd t T B n u := by
  obtain ⟨h1, h2, h3, h4, h5, h6⟩ := h
  exact ⟨h1.fr a, (a.1 603 0 0 (by omega)).trans h2, (a.1 594 0 0 (by omega)).trans h3, h4, fun i g1 g2 => (a.1 595 0 i (by omega)).trans (h5 i g1 g2), h6⟩
def mPre (pos made cnt : Int) (s : zS) : Prop := s.1 607 0 0 = pos ∧ s.1 611 0 0 = made ∧ s.1 610 0 0 = cnt ∧ (0 ≤ pos ∧ pos ≤ 1000) ∧ 0 ≤ cnt ∧ cnt ≤ made ∧ made ≤ 200
section
variable {t n : Int} {T : yT} {B : yB} {K J pos made cnt : Int} {s u w : zS}
/-- a node more -/
def mMk (k nm p f pos made cnt : Int) (s : zS) : zS := zp 610 0 0 (cnt + 1) (zp 618 0 cnt f (zp 617 0 cnt p (zp 616 0 cnt 0 (zp 615 0 cnt 0 (zp 614 0 cnt pos (zp 613 0 cnt nm (zp 612 0 cnt k (zp 611 0 0 (made + 1) s))))))))
theorem mKeep.mk' {k nm p f : Int} : mKeep K cnt s (mMk k nm p f pos made cnt s) := by
  unfold mMk
  exact ((((((((mKeep.rf.pw (by omega)).pw (by omega)).pw (by omega)).pw (by omega)).pw (by omega)).pw (by omega)).pw (by omega)).pw (by omega)).pw (by omega)
theorem mMk_get {k nm p f : Int} : (mMk k nm p f pos made cnt s).1 612 0 cnt = k ∧ (mMk k nm p f pos made cnt s).1 613 0 cnt = nm ∧ (mMk k nm p f pos made cnt s).1 614 0 cnt = pos ∧ (mMk k nm p f pos made cnt s).1 617 0 cnt = p ∧ (mMk k nm p f pos made cnt s).1 618 0 cnt = f ∧ (mMk k nm p f pos made cnt s).1 607 0 0 = s.1 607 0 0 ∧ (mMk k nm p f pos made cnt s).1 611 0 0 = made + 1 ∧ (mMk k nm p f pos made cnt s).1 610 0 0 = cnt + 1 ∧ (mMk k nm p f pos made cnt s).1 620 0 0 = s.1 620 0 0 := by
  unfold mMk
  refine ⟨?_, ?_, ?_, ?_, ?_, ?_, ?_, ?_, ?_⟩ <;> simp [zp_1]
theorem mMk_fr {k nm p f : Int} {g : Nat} {i : Int} (h : 621 ≤ g) : (mMk k nm p f pos made cnt s).1 g 0 i = s.1 g 0 i := by
  unfold mMk
  rw [zp_nn (by omega), zp_nn (by omega), zp_nn (by omega), zp_nn (by omega), zp_nn (by omega), zp_nn (by omega), zp_nn (by omega), zp_nn (by omega), zp_nn (by omega)]
/-- a frame more -/
def mPu (what st nd pos K : Int) (s : zS) : zS := zp 620 0 0 (K + 1) (zp 626 0 K pos (zp 625 0 K 0 (zp 624 0 K 0 (zp 623 0 K nd (zp 622 0 K st (zp 621 0 K what s))))))
theorem mKeep.pu {what st nd : Int} : mKeep K cnt s (mPu what st nd pos K s) := by
  unfold mPu
  exact ((((((mKeep.rf.pw (by omega)).pw (by omega)).pw (by omega)).pw (by omega)).pw (by omega)).pw (by omega)).pw (by omega)
theorem mPu_get {what st nd : Int} : (mPu what st nd pos K s).1 620 0 0 = K + 1 ∧ (mPu what st nd pos K s).1 621 0 K = what ∧ (mPu what st nd pos K s).1 622 0 K = st ∧ (mPu what st nd pos K s).1 623 0 K = nd ∧ (mPu what st nd pos K s).1 624 0 K = 0 ∧ (mPu what st nd pos K s).1 625 0 K = 0 ∧ (mPu what st nd pos K s).1 626 0 K = pos := by
  unfold mPu
  refine ⟨?_, ?_, ?_, ?_, ?_, ?_, ?_⟩ <;> simp [zp_1]
theorem mPu_lo {what st nd : Int} {g : Nat} {i : Int} (h : g < 620) : (mPu what st nd pos K s).1 g 0 i = s.1 g 0 i := by
  unfold mPu
  rw [zp_nn (by omega), zp_nn (by omega), zp_nn (by omega), zp_nn (by omega), zp_nn (by omega), zp_nn (by omega), zp_nn (by omega)]
end
