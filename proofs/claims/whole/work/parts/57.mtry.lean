/-! the reference's machine: structures that are tried -/
/-- the frame J tries structures -/
def mTF (J g pa cnt pos way dd : Int) (s : zS) : Prop := s.1 620 0 0 = J + 1 ∧ s.1 621 0 J = 1 ∧ s.1 622 0 J = g ∧ s.1 623 0 J = pa ∧ s.1 627 0 J = way ∧ s.1 628 0 J = cnt ∧ s.1 626 0 J = pos ∧ s.1 629 0 J = dd
/-- how what is around goes on behind a structure that was read -/
def mTl (J nd : Int) (u w : zS) : Prop := (u.1 621 0 (J - 1) = 0 ∧ w = zp 624 0 (J - 1) (u.1 624 0 (J - 1) + 1) u) ∨ (u.1 621 0 (J - 1) = 2 ∧ (0 ≤ u.1 622 0 (J - 1) ∧ u.1 622 0 (J - 1) < 192) ∧ ((u.1 590 0 (u.1 622 0 (J - 1)) ≠ 42 ∧ u.1 590 0 (u.1 622 0 (J - 1)) ≠ 33 ∧ w = zp 624 0 (J - 1) (u.1 624 0 (J - 1) + 1) u) ∨ ((u.1 590 0 (u.1 622 0 (J - 1)) = 42 ∨ u.1 590 0 (u.1 622 0 (J - 1)) = 33) ∧ zf_181_143 0 nd (J - 1) (u.1 590 0 (u.1 622 0 (J - 1))) u = zi 0 w)))
section
variable {t n : Int} {T : yT} {B : yB} {E : yE} {K J pos made cnt st k me dd g pa way ln v bt : Int} {s u w : zS}
/-- the step that begins to try a structure -/
theorem M179 {c f : Int} (R : mRd t T B n s) (hst : 0 ≤ st ∧ st < T 449 0) (h6 : T 449 0 ≤ 6) (hk : 0 ≤ k ∧ k < T 453 st) (h8 : T 453 st ≤ 8) (hf : f = 8 * st + k) (hg : g = 48 * t + (8 * st + k)) (hnm : 0 ≤ T 457 f ∧ T 457 f ≤ 25) (ht : T 458 f = 65 ∨ T 458 f = 91) (hway : T 465 f = 42 ∨ T 465 f = 33 ∨ T 465 f = 63 ∨ T 465 f = 43 ∨ T 458 f = 65) (F : mTF J g pa cnt pos way dd s) (hJ : 1 ≤ J ∧ J ≤ 50) (hdd : 0 ≤ dd ∧ dd ≤ 5) (hw : 0 ≤ way ∧ way < 199) (hlet : 65 ≤ s.1 581 0 (200 * t + way) ∧ s.1 581 0 (200 * t + way) ≤ 90) (hc : s.1 583 0 (26 * t + s.1 581 0 (200 * t + way) - 65) = c) (hc2 : 0 ≤ c ∧ c < T 449 0) (P : mPre pos made cnt s) : zf_179 0 t s = zi 0 (if 200 ≤ made then zp 609 0 0 pos (zp 608 0 0 5 (zp 620 0 0 0 s)) else zp 629 0 (J + 1) dd (mPu 0 c cnt pos (J + 1) (mMk 0 (if T 458 f = 65 then T 457 f else T 452 c) pa (if T 458 f = 65 then g else -1) pos made cnt s))) := by
  obtain ⟨r1, r2, r3⟩ := R.1
  obtain ⟨q1, q2, q3, q4⟩ := r3 st hst.1 hst.2
  have qf := q4 k hk.1 hk.2
  have cn := (r3 c hc2.1 hc2.2).2.1
  have cb := (r3 c hc2.1 hc2.2).2.2.1
  have g1 := qf.1
  have g4 := qf.2.2.2.1
  rw [← hg, ← hf] at g1 g4
  clear qf q4 r3
  obtain ⟨f1, f2, f3, f4, f5, f6, f7, f8⟩ := F
  have e172 : ∀ nm fd : Int, zf_179_172 0 J c 0 0 nm pa fd s = zi 0 (if 200 ≤ made then zp 609 0 0 pos (zp 608 0 0 5 (zp 620 0 0 0 s)) else zp 629 0 (J + 1) dd (mPu 0 c cnt pos (J + 1) (mMk 0 nm pa fd pos made cnt s))) := by
    intro nm fd
    unfold zf_179_172
    by_cases hm : 200 ≤ made
    · rw [M174_m P hm, zC_zi, if_pos rfl, if_pos hm]
    · rw [M174 P hm, zC_zi, if_neg (by decide), if_neg hm]
      obtain ⟨m1, m2, m3, m4, m5, m6', m7, m8, m9⟩ := mMk_get (k := 0) (nm := nm) (p := pa) (f := fd) (pos := pos) (made := made) (cnt := cnt) (s := s)
      have mfr' : (mMk 0 nm pa fd pos made cnt s).1 629 0 J = dd := (mMk_fr (by decide)).trans f8
      obtain ⟨p1, p2, p3, p4, p5, p6, p7⟩ := P
      rw [m8, zg_ok ⟨by omega, by omega⟩, show cnt + 1 - 1 = cnt by omega, M175 (K := J + 1) (pos := pos) (m9.trans f1) (m6'.trans p1) (by omega), zC_zi, zn_ok (by omega)]
      obtain ⟨u1, u2, u3, u4, u5, u6, u7⟩ := mPu_get (what := 0) (st := c) (nd := cnt) (pos := pos) (K := J + 1) (s := mMk 0 nm pa fd pos made cnt s)
      have u8 : (mPu 0 c cnt pos (J + 1) (mMk 0 nm pa fd pos made cnt s)).1 629 0 J = dd := by
        unfold mPu
        rw [zp_nn (by omega), zp_nn (by omega), zp_nn (by omega), zp_nn (by omega), zp_nn (by omega), zp_nn (by omega), zp_nn (by omega)]
        exact mfr'
      rw [u1, zg_ok ⟨by omega, by omega⟩, show J + 1 + 1 - 1 = J + 1 by omega, u8, zW_ok (by omega)]
  unfold zf_179
  rw [f1, show J + 1 - 1 = J by omega, f8, f5, f3, R.2.1, zg_ok ⟨by omega, by omega⟩, zn_ok (by omega), if_pos (by omega), zn_ok (by omega), zg_ok ⟨by omega, by omega⟩, zn_ok (by omega), zg_ok ⟨by omega, by omega⟩, zg_ok ⟨by omega, by omega⟩, zg_ok ⟨by omega, by omega⟩, zn_ok (by omega), zn_ok (by omega), zn_ok (by omega), g4, hc]
  by_cases h65 : T 458 f = 65
  · rw [if_neg (show ¬ T 458 f = 91 by omega), if_pos rfl]
    unfold zf_179_114
    rw [if_neg (by decide), zn_ok (by omega), f3, zn_ok (by omega), g1, zg_ok ⟨by omega, by omega⟩]
    unfold zf_179_151
    rw [zn_ok (by omega), if_neg (by decide), zn_ok (by omega), f3, f4, e172, if_pos h65, if_pos h65, show T 457 f + 97 - 97 = T 457 f by omega]
  · rw [if_pos (show T 458 f = 91 by omega), if_neg (show ¬ (if T 465 f = 43 then 115 else T 465 f) = 0 by split <;> omega)]
    unfold zf_179_114
    rw [if_pos rfl, zg_ok ⟨by omega, by omega⟩, zg_ok ⟨by omega, by omega⟩, zn_ok (by omega), cn]
    unfold zf_179_151
    rw [zn_ok (by omega), if_pos rfl, f4, e172, if_neg h65, if_neg h65]
/-- the step that ends a structure -/
theorem M182_done {sn : Int} (R : mRel t T s) (hst : 0 ≤ st ∧ st < T 449 0) (h6 : T 449 0 ≤ 6) (F : mFF T K st me (T 453 st) dd s) (hK : 0 ≤ K ∧ K < 50) (hme : 0 ≤ me ∧ me ≤ 199) (hp : 0 ≤ s.1 607 0 0 ∧ s.1 607 0 0 ≤ 1000) (ho : 0 ≤ s.1 614 0 me ∧ s.1 614 0 me ≤ 1000) (hf8 : 0 ≤ T 453 st ∧ T 453 st ≤ 8) : zf_182 0 t s = zC (if K = 0 then zi 0 (zp 620 0 0 0 (zp 616 0 me (T 452 st) (zp 615 0 me (s.1 607 0 0 - s.1 614 0 me) s))) else (zg (K - 1 - 1) (zn (K - 1 - 1) 60 (if (zp 620 0 0 (K - 1) (zp 620 0 0 K (zp 616 0 me (T 452 st) (zp 615 0 me (s.1 607 0 0 - s.1 614 0 me) s)))).1 621 0 (K - 1 - 1) = 0 then zn (K - 1 - 1) 60 (zg (s.1 624 0 (K - 1 - 1) + 1) (zW 624 0 60 (K - 1 - 1) (s.1 624 0 (K - 1 - 1) + 1) (zp 620 0 0 (K - 1) (zp 620 0 0 K (zp 616 0 me (T 452 st) (zp 615 0 me (s.1 607 0 0 - s.1 614 0 me) s)))) fun s18 => zi 0 s18)) else zn (K - 1 - 1) 60 (zn (s.1 622 0 (K - 1 - 1)) 192 (if s.1 590 0 (s.1 622 0 (K - 1 - 1)) = 42 then zf_181_143 0 me (K - 1 - 1) (s.1 590 0 (s.1 622 0 (K - 1 - 1))) (zp 620 0 0 (K - 1) (zp 620 0 0 K (zp 616 0 me (T 452 st) (zp 615 0 me (s.1 607 0 0 - s.1 614 0 me) s)))) else if s.1 590 0 (s.1 622 0 (K - 1 - 1)) = 33 then zf_181_143 0 me (K - 1 - 1) (s.1 590 0 (s.1 622 0 (K - 1 - 1))) (zp 620 0 0 (K - 1) (zp 620 0 0 K (zp 616 0 me (T 452 st) (zp 615 0 me (s.1 607 0 0 - s.1 614 0 me) s)))) else zf_181_191 0 (K - 1 - 1) (zp 620 0 0 (K - 1) (zp 620 0 0 K (zp 616 0 me (T 452 st) (zp 615 0 me (s.1 607 0 0 - s.1 614 0 me) s)))))))))) (fun _ s20 => zi 0 s20) := by
  obtain ⟨r1, r2, r3⟩ := R
  obtain ⟨q1, q2, q3, q4⟩ := r3 st hst.1 hst.2
  clear q4 r3
  obtain ⟨f1, f2, f3, f4, f5, f6, f7⟩ := F
  unfold zf_182
  rw [f1, show K + 1 - 1 = K by omega, f3, f5, q1, zg_ok ⟨by omega, by omega⟩, zn_ok (by omega), zn_ok (by omega), zg_ok ⟨by omega, by omega⟩, zg_ok ⟨by omega, by omega⟩, zn_ok (by omega), if_pos rfl]
  congr 1
  unfold zf_181
  rw [f1, show K + 1 - 1 = K by omega, f3, f4, zg_ok ⟨by omega, by omega⟩, zn_ok (by omega), zn_ok (by omega), zn_ok (by omega), zg_ok ⟨by omega, by omega⟩, zW_ok (by omega), zg_ok ⟨by omega, by omega⟩, zg_ok ⟨by omega, by omega⟩, zn_ok (by omega), show (zp 615 0 me (s.1 607 0 0 - s.1 614 0 me) s).1 584 0 (6 * t + st) = T 452 st from (zp_nn (by omega)).trans q2, zW_ok (by omega)]
  have e1 : (zp 616 0 me (T 452 st) (zp 615 0 me (s.1 607 0 0 - s.1 614 0 me) s)).1 620 0 0 = K + 1 := by rw [zp_nn (by omega), zp_nn (by omega)]; exact f1
  have e2 : ∀ (f : Nat) (i : Int), 617 ≤ f → (zp 616 0 me (T 452 st) (zp 615 0 me (s.1 607 0 0 - s.1 614 0 me) s)).1 f 0 i = s.1 f 0 i := fun f i h => by rw [zp_nn (by omega), zp_nn (by omega)]
  have e3 : ∀ i : Int, (zp 616 0 me (T 452 st) (zp 615 0 me (s.1 607 0 0 - s.1 614 0 me) s)).1 590 0 i = s.1 590 0 i := fun i => by rw [zp_nn (by omega), zp_nn (by omega)]
  generalize zp 616 0 me (T 452 st) (zp 615 0 me (s.1 607 0 0 - s.1 614 0 me) s) = v at e1 e2 e3
  rw [e1, show K + 1 - 1 = K by omega, zg_ok ⟨by omega, by omega⟩, zP_ok, zp_eq]
  by_cases h0 : K = 0
  · rw [if_pos h0, if_pos h0]
    subst h0
    rfl
  · rw [if_neg h0, if_neg h0, zg_ok ⟨by omega, by omega⟩, zP_ok, zp_eq]
    have a1 : (zp 620 0 0 (K - 1) (zp 620 0 0 K v)).1 624 0 (K - 1 - 1) = s.1 624 0 (K - 1 - 1) := by rw [zp_nn (by omega), zp_nn (by omega), e2 624 _ (by decide)]
    have a2 : (zp 620 0 0 (K - 1) (zp 620 0 0 K v)).1 622 0 (K - 1 - 1) = s.1 622 0 (K - 1 - 1) := by rw [zp_nn (by omega), zp_nn (by omega), e2 622 _ (by decide)]
    have a3 : ∀ i : Int, (zp 620 0 0 (K - 1) (zp 620 0 0 K v)).1 590 0 i = s.1 590 0 i := fun i => by rw [zp_nn (by omega), zp_nn (by omega), e3 i]
    rw [a1, a2, a3]
/-- the end of a structure that was tried -/
theorem M_end (R : mRel t T s) (hst : 0 ≤ st ∧ st < T 449 0) (h6 : T 449 0 ≤ 6) (F : mFF T (J + 1) st cnt (T 453 st) dd s) (hJ : 1 ≤ J ∧ J < 48) (hc : 0 ≤ cnt ∧ cnt ≤ 199) (hp : 0 ≤ s.1 607 0 0 ∧ s.1 607 0 0 ≤ 1000) (ho : s.1 614 0 cnt = pos) (hpos : 0 ≤ pos ∧ pos ≤ 1000) (hf8 : 0 ≤ T 453 st ∧ T 453 st ≤ 8) (hn : -1000 ≤ s.1 624 0 (J - 1) ∧ s.1 624 0 (J - 1) ≤ 1000) : ∀ w, mTl J cnt (zp 620 0 0 J (zp 620 0 0 (J + 1) (zp 616 0 cnt (T 452 st) (zp 615 0 cnt (s.1 607 0 0 - pos) s)))) w → mRun t 1 s w := by
  intro w hw
  refine mRun.st (x := 0) F.1 (by omega) (Or.inl ⟨F.2.1, ?_⟩)
  rw [M182_done (sn := 0) R hst h6 F (by omega) (by omega) hp (by rw [ho]; exact hpos) hf8, if_neg (by omega), show J + 1 - 1 = J by omega, ho, zg_ok ⟨by omega, by omega⟩, zn_ok (by omega)]
  have e2 : ∀ (f : Nat) (i : Int), 621 ≤ f → (zp 620 0 0 J (zp 620 0 0 (J + 1) (zp 616 0 cnt (T 452 st) (zp 615 0 cnt (s.1 607 0 0 - pos) s)))).1 f 0 i = s.1 f 0 i := fun f i h => by rw [zp_nn (by omega), zp_nn (by omega), zp_nn (by omega), zp_nn (by omega)]
  have e3 : ∀ i : Int, (zp 620 0 0 J (zp 620 0 0 (J + 1) (zp 616 0 cnt (T 452 st) (zp 615 0 cnt (s.1 607 0 0 - pos) s)))).1 590 0 i = s.1 590 0 i := fun i => by rw [zp_nn (by omega), zp_nn (by omega), zp_nn (by omega), zp_nn (by omega)]
  generalize zp 620 0 0 J (zp 620 0 0 (J + 1) (zp 616 0 cnt (T 452 st) (zp 615 0 cnt (s.1 607 0 0 - pos) s))) = v at hw e2 e3
  unfold mTl at hw
  rw [e2 621 _ (by decide), e2 622 _ (by decide), e2 624 _ (by decide), e3] at hw
  rw [e2 621 _ (by decide)]
  rcases hw with ⟨h1, rfl⟩ | ⟨h1, h2, h3⟩
  · rw [if_pos h1, zn_ok (by omega), zg_ok ⟨by omega, by omega⟩, zW_ok (by omega), zC_zi]
  · rw [if_neg (by omega), zn_ok (by omega), zn_ok (by omega)]
    rcases h3 with ⟨h3, h4, rfl⟩ | ⟨h3 | h3, h4⟩
    · rw [if_neg h3, if_neg h4]
      unfold zf_181_191
      rw [zn_ok (by omega), e2 624 _ (by decide), zg_ok ⟨by omega, by omega⟩, zW_ok (by omega), zC_zi]
    · rw [if_pos h3, h4, zC_zi]
    · rw [if_neg (by omega), if_pos h3, h4, zC_zi]
end
