/-! the reference's reading machine: its parts -/
/-- nothing below frame K and below node cnt has changed, and nothing else than what reading works with -/
def mKeep (K cnt : Int) (s t : zS) : Prop := mfr s t ∧ (∀ (f : Nat) (i : Int), 612 ≤ f → f < 620 → i < cnt → t.1 f 0 i = s.1 f 0 i) ∧ (∀ (f : Nat) (i : Int), 621 ≤ f → f < 630 → i < K → t.1 f 0 i = s.1 f 0 i) ∧ (∀ i : Int, i < 8 * K → t.1 630 0 i = s.1 630 0 i)
theorem mKeep.rf {K cnt : Int} {s : zS} : mKeep K cnt s s := ⟨mfr.rf, fun _ _ _ _ _ => rfl, fun _ _ _ _ _ => rfl, fun _ _ => rfl⟩
theorem mKeep.pw {K cnt : Int} {s t : zS} {f : Nat} {i v : Int} (a : mKeep K cnt s t) (h : (612 ≤ f ∧ f < 620 ∧ cnt ≤ i) ∨ (604 ≤ f ∧ f ≤ 611 ∧ f ≠ 608 ∧ f ≠ 609) ∨ f = 620 ∨ (621 ≤ f ∧ f < 630 ∧ K ≤ i) ∨ (f = 630 ∧ 8 * K ≤ i)) : mKeep K cnt s (zp f 0 i v t) := by
  refine ⟨a.1.pw (by omega), fun c j h1 h2 h3 => ?_, fun c j h1 h2 h3 => ?_, fun j h1 => ?_⟩
  · rw [zp_nn (by omega)]
    exact a.2.1 c j h1 h2 h3
  · rw [zp_nn (by omega)]
    exact a.2.2.1 c j h1 h2 h3
  · rw [zp_nn (by omega)]
    exact a.2.2.2 j h1
theorem mKeep.tr {K K' cnt cnt' : Int} {s t u : zS} (a : mKeep K cnt s t) (b : mKeep K' cnt' t u) (hK : K ≤ K') (hc : cnt ≤ cnt') : mKeep K cnt s u :=
  ⟨a.1.tr b.1, fun f i h1 h2 h3 => (b.2.1 f i h1 h2 (by omega)).trans (a.2.1 f i h1 h2 h3), fun f i h1 h2 h3 => (b.2.2.1 f i h1 h2 (by omega)).trans (a.2.2.1 f i h1 h2 h3), fun i h1 => (b.2.2.2 i (by omega)).trans (a.2.2.2 i h1)⟩
theorem mKeep.of6 {K cnt : Int} {s t : zS} (a : m6 s t) : mKeep K cnt s t := ⟨a.fr, fun f i h1 h2 h3 => a.1 f 0 i (by omega), fun f i h1 h2 h3 => a.1 f 0 i (by omega), fun i h1 => a.1 630 0 i (by omega)⟩
/-- these nodes are the last ones, from cnt on -/
def mIn (t : Int) (T : yT) (cnt : Int) (l : List yN) (u : zS) : Prop := u.1 610 0 0 = cnt + l.length ∧ ∀ (j : Nat) (x : yN), l[j]? = some x → u.1 612 0 (cnt + j) = x 192 ∧ u.1 613 0 (cnt + j) = x 193 ∧ u.1 614 0 (cnt + j) = x 194 ∧ u.1 615 0 (cnt + j) = x 195 ∧ u.1 616 0 (cnt + j) = x 196 ∧ u.1 617 0 (cnt + j) = x 197 ∧ u.1 618 0 (cnt + j) = (if x 198 = -1 then -1 else 48 * t + x 198) ∧ (x 192 = 4 → u.1 619 0 (cnt + j) = 8 - T 460 (x 198) - T 459 (x 198))
theorem mIn.nil {t cnt : Int} {T : yT} {u : zS} (h : u.1 610 0 0 = cnt) : mIn t T cnt [] u := ⟨by simpa using h, fun j x h => by simp at h⟩
theorem mIn.app {t cnt K : Int} {T : yT} {l1 l2 : List yN} {u w : zS} (a : mIn t T cnt l1 u) (k : mKeep K (cnt + l1.length) u w) (b : mIn t T (cnt + l1.length) l2 w) : mIn t T cnt (l1 ++ l2) w := by
  refine ⟨?_, fun j x h => ?_⟩
  · rw [b.1, List.length_append]
    omega
  · by_cases hj : j < l1.length
    · rw [List.getElem?_append_left hj] at h
      have hl : cnt + (j : Int) < cnt + l1.length := by omega
      rw [k.2.1 612 _ (by decide) (by decide) hl, k.2.1 613 _ (by decide) (by decide) hl, k.2.1 614 _ (by decide) (by decide) hl, k.2.1 615 _ (by decide) (by decide) hl, k.2.1 616 _ (by decide) (by decide) hl, k.2.1 617 _ (by decide) (by decide) hl, k.2.1 618 _ (by decide) (by decide) hl, k.2.1 619 _ (by decide) (by decide) hl]
      exact a.2 j x h
    · rw [List.getElem?_append_right (by omega)] at h
      have e := b.2 (j - l1.length) x h
      rw [show cnt + (j : Int) = cnt + l1.length + ((j - l1.length : Nat) : Int) by omega]
      exact e
/-- the reference reads the file B, n by the template t -/
def mRd (t : Int) (T : yT) (B : yB) (n : Int) (s : zS) : Prop := mRel t T s ∧ s.1 603 0 0 = 200 * t ∧ s.1 594 0 0 = n ∧ (0 ≤ n ∧ n ≤ 160) ∧ (∀ i, 0 ≤ i → i < n → s.1 595 0 i = B i) ∧ ∀ i, 0 ≤ i → i < n → 0 ≤ B i ∧ B i ≤ 255
theorem mRd.fr {t n : Int} {T : yT} {B : yB} {s u : zS} (h : mRd t T B n s) (a : mfr s u) : mRd t T B n u := by
  obtain ⟨h1, h2, h3, h4, h5, h6⟩ := h
  exact ⟨h1.fr a, (a.1 603 0 0 (by omega)).trans h2, (a.1 594 0 0 (by omega)).trans h3, h4, fun i g1 g2 => (a.1 595 0 i (by omega)).trans (h5 i g1 g2), h6⟩
def mPre (pos made cnt : Int) (s : zS) : Prop := s.1 607 0 0 = pos ∧ s.1 611 0 0 = made ∧ s.1 610 0 0 = cnt ∧ (0 ≤ pos ∧ pos ≤ 1000) ∧ 0 ≤ cnt ∧ cnt ≤ made ∧ made ≤ 200
section
variable {t n : Int} {T : yT} {B : yB} {K J pos made cnt : Int} {s u w : zS}
/-- a node more -/
def mMk (k nm p f pos made cnt : Int) (s : zS) : zS := zp 610 0 0 (cnt + 1) (zp 618 0 cnt f (zp 617 0 cnt p (zp 616 0 cnt 0 (zp 615 0 cnt 0 (zp 614 0 cnt pos (zp 613 0 cnt nm (zp 612 0 cnt k (zp 611 0 0 (made + 1) s))))))))
theorem M174_m {k nm p f : Int} (P : mPre pos made cnt s) (h : 200 ≤ made) : zf_174 0 k nm p f s = zi 0 (zp 609 0 0 pos (zp 608 0 0 5 (zp 620 0 0 0 s))) := by
  obtain ⟨p1, p2, p3, p4, p5, p6, p7⟩ := P
  unfold zf_174
  rw [if_pos (by omega), zP_ok, zP_ok, zP_ok, zp_nn (by omega), zp_nn (by omega), p1]
  rfl
theorem M174 {k nm p f : Int} (P : mPre pos made cnt s) (h : ¬ 200 ≤ made) : zf_174 0 k nm p f s = zi 1 (mMk k nm p f pos made cnt s) := by
  obtain ⟨p1, p2, p3, p4, p5, p6, p7⟩ := P
  unfold zf_174 mMk
  rw [if_neg (by omega), p2, zg_ok ⟨by omega, by omega⟩, zP_ok]
  generalize e0 : zp 611 0 0 (made + 1) s = s0
  have c0 : s0.1 610 0 0 = cnt := by rw [← e0]; exact p3
  have d0 : s0.1 607 0 0 = pos := by rw [← e0]; exact p1
  rw [c0, zW_ok (by omega)]
  generalize e1 : zp 612 0 cnt k s0 = s1
  have c1 : s1.1 610 0 0 = cnt := by rw [← e1]; exact c0
  have d1 : s1.1 607 0 0 = pos := by rw [← e1]; exact d0
  rw [c1, zW_ok (by omega)]
  generalize e2 : zp 613 0 cnt nm s1 = s2
  have c2 : s2.1 610 0 0 = cnt := by rw [← e2]; exact c1
  have d2 : s2.1 607 0 0 = pos := by rw [← e2]; exact d1
  rw [c2, d2, zW_ok (by omega)]
  generalize e3 : zp 614 0 cnt pos s2 = s3
  have c3 : s3.1 610 0 0 = cnt := by rw [← e3]; exact c2
  rw [c3, zW_ok (by omega)]
  generalize e4 : zp 615 0 cnt 0 s3 = s4
  have c4 : s4.1 610 0 0 = cnt := by rw [← e4]; exact c3
  rw [c4, zW_ok (by omega)]
  generalize e5 : zp 616 0 cnt 0 s4 = s5
  have c5 : s5.1 610 0 0 = cnt := by rw [← e5]; exact c4
  rw [c5, zW_ok (by omega)]
  generalize e6 : zp 617 0 cnt p s5 = s6
  have c6 : s6.1 610 0 0 = cnt := by rw [← e6]; exact c5
  rw [c6, zW_ok (by omega)]
  generalize e7 : zp 618 0 cnt f s6 = s7
  have c7 : s7.1 610 0 0 = cnt := by rw [← e7]; exact c6
  rw [c7, zg_ok ⟨by omega, by omega⟩, zP_ok]
  rfl
theorem mKeep.mk' {k nm p f : Int} : mKeep K cnt s (mMk k nm p f pos made cnt s) := by
  unfold mMk
  exact ((((((((mKeep.rf.pw (by omega)).pw (by omega)).pw (by omega)).pw (by omega)).pw (by omega)).pw (by omega)).pw (by omega)).pw (by omega)).pw (by omega)
theorem mMk_get {k nm p f : Int} : (mMk k nm p f pos made cnt s).1 612 0 cnt = k ∧ (mMk k nm p f pos made cnt s).1 613 0 cnt = nm ∧ (mMk k nm p f pos made cnt s).1 614 0 cnt = pos ∧ (mMk k nm p f pos made cnt s).1 617 0 cnt = p ∧ (mMk k nm p f pos made cnt s).1 618 0 cnt = f ∧ (mMk k nm p f pos made cnt s).1 607 0 0 = s.1 607 0 0 ∧ (mMk k nm p f pos made cnt s).1 611 0 0 = made + 1 ∧ (mMk k nm p f pos made cnt s).1 610 0 0 = cnt + 1 ∧ (mMk k nm p f pos made cnt s).1 620 0 0 = s.1 620 0 0 := by
  unfold mMk
  refine ⟨?_, ?_, ?_, ?_, ?_, ?_, ?_, ?_, ?_⟩ <;> simp [zp_1]
theorem mMk_fr {k nm p f : Int} {g : Nat} {i : Int} (h : 621 ≤ g) : (mMk k nm p f pos made cnt s).1 g 0 i = s.1 g 0 i := by
  unfold mMk
  rw [zp_nn (by omega), zp_nn (by omega), zp_nn (by omega), zp_nn (by omega), zp_nn (by omega), zp_nn (by omega), zp_nn (by omega), zp_nn (by omega), zp_nn (by omega)]
/-- a frame more -/
def mPu (what st nd pos K : Int) (s : zS) : zS := zp 620 0 0 (K + 1) (zp 626 0 K pos (zp 625 0 K 0 (zp 624 0 K 0 (zp 623 0 K nd (zp 622 0 K st (zp 621 0 K what s))))))
theorem M175 {what st nd : Int} (h : s.1 620 0 0 = K) (hp : s.1 607 0 0 = pos) (hK : 0 ≤ K ∧ K < 60) : zf_175 0 what st nd s = zi 0 (mPu what st nd pos K s) := by
  unfold zf_175 mPu
  rw [h, zW_ok (by omega)]
  generalize e1 : zp 621 0 K what s = s1
  have c1 : s1.1 620 0 0 = K := by rw [← e1]; exact h
  have d1 : s1.1 607 0 0 = pos := by rw [← e1]; exact hp
  rw [c1, zW_ok (by omega)]
  generalize e2 : zp 622 0 K st s1 = s2
  have c2 : s2.1 620 0 0 = K := by rw [← e2]; exact c1
  have d2 : s2.1 607 0 0 = pos := by rw [← e2]; exact d1
  rw [c2, zW_ok (by omega)]
  generalize e3 : zp 623 0 K nd s2 = s3
  have c3 : s3.1 620 0 0 = K := by rw [← e3]; exact c2
  have d3 : s3.1 607 0 0 = pos := by rw [← e3]; exact d2
  rw [c3, zW_ok (by omega)]
  generalize e4 : zp 624 0 K 0 s3 = s4
  have c4 : s4.1 620 0 0 = K := by rw [← e4]; exact c3
  have d4 : s4.1 607 0 0 = pos := by rw [← e4]; exact d3
  rw [c4, zW_ok (by omega)]
  generalize e5 : zp 625 0 K 0 s4 = s5
  have c5 : s5.1 620 0 0 = K := by rw [← e5]; exact c4
  have d5 : s5.1 607 0 0 = pos := by rw [← e5]; exact d4
  rw [c5, d5, zW_ok (by omega)]
  generalize e6 : zp 626 0 K pos s5 = s6
  have c6 : s6.1 620 0 0 = K := by rw [← e6]; exact c5
  rw [c6, zg_ok ⟨by omega, by omega⟩, zP_ok]
theorem mKeep.pu {what st nd : Int} : mKeep K cnt s (mPu what st nd pos K s) := by
  unfold mPu
  exact ((((((mKeep.rf.pw (by omega)).pw (by omega)).pw (by omega)).pw (by omega)).pw (by omega)).pw (by omega)).pw (by omega)
theorem mPu_get {what st nd : Int} : (mPu what st nd pos K s).1 620 0 0 = K + 1 ∧ (mPu what st nd pos K s).1 621 0 K = what ∧ (mPu what st nd pos K s).1 622 0 K = st ∧ (mPu what st nd pos K s).1 623 0 K = nd ∧ (mPu what st nd pos K s).1 624 0 K = 0 ∧ (mPu what st nd pos K s).1 625 0 K = 0 ∧ (mPu what st nd pos K s).1 626 0 K = pos := by
  unfold mPu
  refine ⟨?_, ?_, ?_, ?_, ?_, ?_, ?_⟩ <;> simp [zp_1]
theorem mPu_lo {what st nd : Int} {g : Nat} {i : Int} (h : g < 620) : (mPu what st nd pos K s).1 g 0 i = s.1 g 0 i := by
  unfold mPu
  rw [zp_nn (by omega), zp_nn (by omega), zp_nn (by omega), zp_nn (by omega), zp_nn (by omega), zp_nn (by omega), zp_nn (by omega)]
theorem M178 {g pa dd : Int} (h : s.1 620 0 0 = K) (hp : s.1 607 0 0 = pos) (hc : s.1 610 0 0 = cnt) (hK : 0 ≤ K ∧ K < 60) (hg : 0 ≤ g ∧ g < 192) (hd : -1 ≤ dd ∧ dd ≤ 100) : zf_178 0 g pa dd s = zi 0 (zp 629 0 K (dd + 1) (zp 628 0 K cnt (zp 627 0 K (s.1 588 0 g) (mPu 1 g pa pos K s)))) := by
  unfold zf_178
  rw [M175 h hp hK, zC_zi]
  obtain ⟨g1, g2, g3, g4, g5, g6, g7⟩ := mPu_get (what := 1) (st := g) (nd := pa) (pos := pos) (K := K) (s := s)
  rw [zn_ok (by omega), g1, zg_ok ⟨by omega, by omega⟩, show K + 1 - 1 = K by omega, zW_ok (by omega), mPu_lo (by decide)]
  generalize e1 : zp 627 0 K (s.1 588 0 g) (mPu 1 g pa pos K s) = s1
  have c1 : s1.1 620 0 0 = K + 1 := by rw [← e1, zp_nn (by omega)]; exact g1
  have d1 : s1.1 610 0 0 = cnt := by rw [← e1, zp_nn (by omega), mPu_lo (by decide)]; exact hc
  rw [c1, d1, zg_ok ⟨by omega, by omega⟩, show K + 1 - 1 = K by omega, zW_ok (by omega)]
  generalize e2 : zp 628 0 K cnt s1 = s2
  have c2 : s2.1 620 0 0 = K + 1 := by rw [← e2, zp_nn (by omega)]; exact c1
  rw [c2, zg_ok ⟨by omega, by omega⟩, show K + 1 - 1 = K by omega, zg_ok ⟨by omega, by omega⟩, zW_ok (by omega)]
/-- the machine comes from s to u by so many steps -/
def mRun (t : Int) (N : Nat) (s u : zS) : Prop := ∀ m, zf_186_72 (m + N) 0 t s = zf_186_72 m 0 t u
theorem mRun.rf : mRun t 0 s s := fun _ => rfl
theorem mRun.tr {N M : Nat} (a : mRun t N s u) (b : mRun t M u w) : mRun t (M + N) s w := fun m => by
  rw [← Nat.add_assoc, a (m + M), b m]
theorem mRun.st {x : Int} (hK : s.1 620 0 0 = K + 1) (h0 : 0 ≤ K ∧ K < 60) (h : (s.1 621 0 K = 0 ∧ zf_182 0 t s = zi x u) ∨ (s.1 621 0 K = 1 ∧ zf_179 0 t s = zi x u) ∨ (s.1 621 0 K = 2 ∧ zf_180 0 t s = zi x u)) : mRun t 1 s u := by
  intro m
  rw [zf_186_72, hK, if_neg (by omega), zg_ok ⟨by omega, by omega⟩, show K + 1 - 1 = K by omega, zn_ok (by omega)]
  rcases h with ⟨h1, e⟩ | ⟨h1, e⟩ | ⟨h1, e⟩
  · rw [if_pos h1, e, zC_zi]
  · rw [if_neg (by omega), if_pos h1, e, zC_zi]
  · rw [if_neg (by omega), if_neg (by omega), e, zC_zi]
/-- what a fault comes to, from frame K - 1 down -/
def mFl (K c p : Int) (u w : zS) : Prop := ∀ M : Nat, K < M → zf_177_0 M 0 c p u = zi 0 w
theorem mFl.all {c p : Int} (h : mFl K c p u w) (hK : K < 1000) : zf_177 0 c p u = zi 0 w := h xfu (by have := xfu_big (m := 1000) (by decide); omega)
theorem mFl.zero {c p : Int} (h : u.1 620 0 0 = 0) : mFl 0 c p u (zp 609 0 0 p (zp 608 0 0 c u)) := by
  intro M hM
  obtain ⟨M, rfl⟩ : ∃ m, M = m + 1 := ⟨M - 1, by omega⟩
  rw [zf_177_0, h, if_pos (by decide), zP_ok, zP_ok]
theorem mFl.pop {c p : Int} (h : u.1 620 0 0 = K + 1) (hK : 0 ≤ K ∧ K < 60) (h1 : u.1 621 0 K ≠ 1) (f : mFl K c p (zp 620 0 0 K u) w) : mFl (K + 1) c p u w := by
  intro M hM
  obtain ⟨M, rfl⟩ : ∃ m, M = m + 1 := ⟨M - 1, by omega⟩
  rw [zf_177_0, h, if_neg (by omega), zg_ok ⟨by omega, by omega⟩, show K + 1 - 1 = K by omega, zn_ok (by omega), if_neg h1, zP_ok]
  exact f M (by omega)
/-- behind the last one of several structures -/
def mAft (J c p : Int) (u w : zS) : Prop := (u.1 621 0 (J - 1) = 2 ∧ (0 ≤ u.1 622 0 (J - 1) ∧ u.1 622 0 (J - 1) < 192) ∧ u.1 590 0 (u.1 622 0 (J - 1)) = 42 ∧ zf_176 0 u = zi 0 w) ∨ (u.1 621 0 (J - 1) = 2 ∧ (0 ≤ u.1 622 0 (J - 1) ∧ u.1 622 0 (J - 1) < 192) ∧ u.1 590 0 (u.1 622 0 (J - 1)) ≠ 42 ∧ mFl J c p u w) ∨ (u.1 621 0 (J - 1) ≠ 2 ∧ mFl J c p u w)
theorem mFl.last {c p way : Int} (h : u.1 620 0 0 = J + 1) (hJ : 1 ≤ J ∧ J < 60) (h1 : u.1 621 0 J = 1) (hb : u.1 603 0 0 = 200 * t) (ht : 0 ≤ t ∧ t ≤ 3) (hw : u.1 627 0 J = way) (hw2 : 0 ≤ way ∧ way < 199) (hx : u.1 581 0 (200 * t + (way + 1)) ≠ 124) (f : mAft J c p (zp 610 0 0 (u.1 628 0 J) (zp 607 0 0 (u.1 626 0 J) (zp 620 0 0 J u))) w) : mFl (J + 1) c p u w := by
  intro M hM
  obtain ⟨M, rfl⟩ : ∃ m, M = m + 1 := ⟨M - 1, by omega⟩
  rw [zf_177_0, h, if_neg (by omega), zg_ok ⟨by omega, by omega⟩, show J + 1 - 1 = J by omega, zn_ok (by omega), if_pos h1, zn_ok (by omega), hb, hw, zg_ok ⟨by omega, by omega⟩, zg_ok ⟨by omega, by omega⟩, zn_ok (by omega), show 200 * t + way + 1 = 200 * t + (way + 1) by omega, if_neg hx, zP_ok, zn_ok (by omega), zP_ok, zn_ok (by omega), zP_ok]
  have e1 : (zp 620 0 0 J u).1 626 0 J = u.1 626 0 J := zp_nn (by omega)
  have e2 : (zp 607 0 0 (u.1 626 0 J) (zp 620 0 0 J u)).1 628 0 J = u.1 628 0 J := by rw [zp_nn (by omega), zp_nn (by omega)]
  rw [e1, e2]
  have e3 : (zp 610 0 0 (u.1 628 0 J) (zp 607 0 0 (u.1 626 0 J) (zp 620 0 0 J u))).1 620 0 0 = J := by simp [zp_1]
  generalize zp 610 0 0 (u.1 628 0 J) (zp 607 0 0 (u.1 626 0 J) (zp 620 0 0 J u)) = v at f e3
  rw [e3, zg_ok ⟨by omega, by omega⟩, zn_ok (by omega)]
  rcases f with ⟨f1, f2, f3, f4⟩ | ⟨f1, f2, f3, f4⟩ | ⟨f1, f4⟩
  · rw [if_pos f1, zn_ok (by omega), zn_ok (by omega), if_pos f3, f4, zC_zi]
  · rw [if_pos f1, zn_ok (by omega), zn_ok (by omega), if_neg f3]
    exact f4 M (by omega)
  · rw [if_neg f1]
    exact f4 M (by omega)
theorem mFl.next {c p way : Int} (h : u.1 620 0 0 = J + 1) (hJ : 1 ≤ J ∧ J < 60) (h1 : u.1 621 0 J = 1) (hb : u.1 603 0 0 = 200 * t) (ht : 0 ≤ t ∧ t ≤ 3) (hw : u.1 627 0 J = way) (hw2 : 0 ≤ way ∧ way < 199) (hx : u.1 581 0 (200 * t + (way + 1)) = 124) : mFl (J + 1) c p u (zp 610 0 0 (u.1 628 0 J) (zp 607 0 0 (u.1 626 0 J) (zp 627 0 J (way + 2) u))) := by
  intro M hM
  obtain ⟨M, rfl⟩ : ∃ m, M = m + 1 := ⟨M - 1, by omega⟩
  rw [zf_177_0, h, if_neg (by omega), zg_ok ⟨by omega, by omega⟩, show J + 1 - 1 = J by omega, zn_ok (by omega), if_pos h1, zn_ok (by omega), hb, hw, zg_ok ⟨by omega, by omega⟩, zg_ok ⟨by omega, by omega⟩, zn_ok (by omega), show 200 * t + way + 1 = 200 * t + (way + 1) by omega, if_pos hx, zn_ok (by omega), zg_ok ⟨by omega, by omega⟩, zW_ok (by omega), zn_ok (by omega), zP_ok, zn_ok (by omega), zP_ok]
  rw [zp_nn (by omega), zp_nn (by omega), zp_nn (by omega)]
/-- the end of an array -/
theorem M176 {A nd : Int} (h : s.1 620 0 0 = A + 1) (hA : 1 ≤ A ∧ A < 60) (hnd : s.1 623 0 A = nd) (hn : 0 ≤ nd ∧ nd ≤ 200) (hp : 0 ≤ s.1 607 0 0 ∧ s.1 607 0 0 ≤ 1000) (ho : 0 ≤ s.1 614 0 nd ∧ s.1 614 0 nd ≤ 1000) (hx : -1000 ≤ s.1 624 0 (A - 1) ∧ s.1 624 0 (A - 1) ≤ 1000) : zf_176 0 s = zi 0 (zp 624 0 (A - 1) (s.1 624 0 (A - 1) + 1) (zp 620 0 0 A (zp 616 0 nd (s.1 624 0 A) (zp 615 0 nd (s.1 607 0 0 - s.1 614 0 nd) s)))) := by
  unfold zf_176
  rw [h, zg_ok ⟨by omega, by omega⟩, show A + 1 - 1 = A by omega, zn_ok (by omega), zn_ok (by omega), hnd, zn_ok (by omega), zg_ok ⟨by omega, by omega⟩, zW_ok (by omega), zn_ok (by omega), zn_ok (by omega), show (zp 615 0 nd (s.1 607 0 0 - s.1 614 0 nd) s).1 623 0 A = nd from (zp_nn (by omega)).trans hnd, show (zp 615 0 nd (s.1 607 0 0 - s.1 614 0 nd) s).1 624 0 A = s.1 624 0 A from zp_nn (by omega), zW_ok (by omega)]
  have e1 : (zp 616 0 nd (s.1 624 0 A) (zp 615 0 nd (s.1 607 0 0 - s.1 614 0 nd) s)).1 620 0 0 = A + 1 := by rw [zp_nn (by omega), zp_nn (by omega)]; exact h
  have e2 : (zp 616 0 nd (s.1 624 0 A) (zp 615 0 nd (s.1 607 0 0 - s.1 614 0 nd) s)).1 624 0 (A - 1) = s.1 624 0 (A - 1) := by rw [zp_nn (by omega), zp_nn (by omega)]
  generalize zp 616 0 nd (s.1 624 0 A) (zp 615 0 nd (s.1 607 0 0 - s.1 614 0 nd) s) = v at e1 e2
  rw [e1, zg_ok ⟨by omega, by omega⟩, show A + 1 - 1 = A by omega, zP_ok, zp_eq, zg_ok ⟨by omega, by omega⟩, zn_ok (by omega), zp_nn (by omega), e2, zg_ok ⟨by omega, by omega⟩, zW_ok (by omega)]
end
