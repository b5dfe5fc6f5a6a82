/-! the class's reader: a structure, a file -/
section
variable {r q b : Nat} {T : yT} {B : yB} {n dep : Int} {zrs : Nat → Int → Int → Int → Int → zS → zR} {E : yE} {st k d me pos made cnt : Int} {s : zS}
theorem yS_ne : ∀ d : Nat, yRsNe (yS T B n d)
  | 0 => fun _ _ _ _ _ _ _ h => by cases h
  | d + 1 => fun s ow pa pos made cnt x h => by
    unfold yS at h
    split at h
    · cases h
    · split at h
      · cases h
      · cases h
        show 1 ≤ (_ :: _).length
        simp
theorem C59_b (W : yWT T) {m : Nat} (hC : yRsC r q b T B n (d + 1) zrs (yS T B n m)) (hd : 0 ≤ d ∧ d ≤ 5) (hn : n ≤ 160) (hB : ∀ i, 0 ≤ i → i < n → 0 ≤ B i ∧ B i ≤ 255) : yRsC r q b T B n d (zf_59_b zrs) (yS T B n (m + 1)) := by
  intro s st ow pa pos made cnt R P h0 h1 how
  obtain ⟨p1, p2, p3, p4, p5, p6, p7, p8, p9⟩ := id P
  obtain ⟨c1, c2, c3⟩ := W.2.2 st h0 h1
  unfold zf_59_b yS
  rw [if_pos (by omega)]
  by_cases hm : 200 ≤ made
  · rw [if_pos hm, z58_m p2 p1 hm, zC_zi, if_pos rfl]
    refine zw_z0 ⟨(yKeep.rf.pw (by omega)).pw (by omega), rfl, ?_, ?_, ?_, ?_⟩
    · rw [zp_nn (by omega), zp_eq]
    · rw [zp_eq]
    · rw [zp_nn (by omega), zp_nn (by omega)]
      exact p2
    · rw [zp_nn (by omega), zp_nn (by omega), p1]
      exact p4
  · rw [if_neg hm, z58 p2 p3 p1 p5 p6 (by omega), zC_zi, if_neg (by omega), p1]
    obtain ⟨g1, g2, g3, g4, g5, g6, g7, g8⟩ := yMk_get (r := r) (kd := 0) (f := ow) (p := pa) (pos := pos) (made := made) (cnt := cnt) (s := s)
    have K1 : yKeep r cnt (8 * d) s (yMk r 0 ow pa pos made cnt s) := yKeep.mk'
    generalize yMk r 0 ow pa pos made cnt s = t at g1 g2 g3 g4 g5 g6 g7 g8 K1
    have P1 : yPre r pos (made + 1) (cnt + 1) t := ⟨g5.trans p1, g6, g7, p4, by omega, by omega, by omega, by omega, by omega⟩
    refine (C59_42 (rs := yS T B n m) W hC (yS_ok W hn hB m) (yS_ne m) ⟨h0, h1⟩ hd how p4 p5 (T 453 st).toNat xfu 0 (fun _ _ => 0) pos (made + 1) (cnt + 1) t (xfu_big (by omega)) (by omega) (by omega) (by omega) (R.fr K1.1) P1 (fun i h1 h2 => by omega) (fun i h1 h2 => by omega) (fun i h1 h2 => by omega)).mono fun v u hu => ?_
    have K2 : yKeep r cnt (8 * d) s u := ⟨K1.1.tr hu.1.1, fun c i h1 h2 h3 => (hu.1.2.1 c i h1 h2 (by omega) (by omega)).trans (K1.2.1 c i h1 h2 h3), fun c i h1 h2 h3 => (hu.1.2.2 c i h1 h2 h3).trans (K1.2.2 c i h1 h2 h3)⟩
    have hk := hu.1.2.1
    have hr := hu.2
    rw [g8] at hr
    revert hr
    cases yFs (yS T B n m) T B n cnt st (T 453 st).toNat 0 (fun _ _ => 0) pos (made + 1) (cnt + 1) with
    | inl e => exact fun hr => ⟨K2, hr⟩
    | inr x =>
      intro hr
      obtain ⟨E, p', m', w', l'⟩ := x
      obtain ⟨u1, u2, u3, u4, u5, u6, u7, u8⟩ := hr
      dsimp only at u2 u3 u4 u5 u6 u7 u8
      refine ⟨K2, u1, u2, u3, u4, ?_, fun j x hx c h1 h2 => ?_⟩
      · show u.1 199 r 0 = cnt + ((_ :: l').length : Nat)
        rw [u5.1, List.length_cons]
        omega
      · cases j with
        | zero =>
          have e0 : cnt + ((0 : Nat) : Int) = cnt := by omega
          simp only [List.getElem?_cons_zero, Option.some.injEq] at hx
          subst hx
          rw [e0]
          have c7 : c = 192 ∨ c = 193 ∨ c = 194 ∨ c = 195 ∨ c = 196 ∨ c = 197 ∨ c = 198 := by omega
          have k192 := (hk 192 cnt (by omega) (by omega) (by omega) (Or.inr (by decide))).trans g1
          have k194 := (hk 194 cnt (by omega) (by omega) (by omega) (Or.inr (by decide))).trans g3
          have k197 := (hk 197 cnt (by omega) (by omega) (by omega) (Or.inr (by decide))).trans g4
          have k198 := (hk 198 cnt (by omega) (by omega) (by omega) (Or.inr (by decide))).trans g2
          rcases c7 with rfl | rfl | rfl | rfl | rfl | rfl | rfl
          · exact k192
          · exact u6
          · exact k194
          · exact u7
          · exact u8
          · exact k197
          · exact k198
        | succ j =>
          rw [List.getElem?_cons_succ] at hx
          rw [show cnt + ((j + 1 : Nat) : Int) = cnt + 1 + (j : Int) by omega]
          exact u5.2 j x hx c h1 h2
theorem C59_b0 : yRsC r q b T B n 6 (zf_59_b zrs) (yS T B n 0) := by
  intro s st ow pa pos made cnt R P h0 h1 how
  obtain ⟨p1, p2, p3, p4, p5, p6, p7, p8, p9⟩ := id P
  unfold zf_59_b
  rw [if_neg (by decide), z57, zC_zi]
  refine zw_z0 ⟨(yKeep.rf.pw (by omega)).pw (by omega), rfl, ?_, ?_, ?_, ?_⟩
  · rw [zp_nn (by omega), zp_eq]
  · rw [zp_eq]
    exact p1
  · rw [zp_nn (by omega), zp_nn (by omega)]
    exact p2
  · rw [zp_nn (by omega), zp_nn (by omega), p1]
    exact p4
theorem C59 (W : yWT T) (hn : n ≤ 160) (hB : ∀ i, 0 ≤ i → i < n → 0 ≤ B i ∧ B i ≤ 255) : ∀ (m N : Nat), m ≤ 6 → m < N → yRsC r q b T B n (6 - m) (zf_59 N) (yS T B n m) := by
  intro m
  induction m with
  | zero =>
    intro N _ hN
    obtain ⟨N, rfl⟩ : ∃ M, N = M + 1 := ⟨N - 1, by omega⟩
    exact C59_b0
  | succ m ih =>
    intro N hm hN
    obtain ⟨N, rfl⟩ : ∃ M, N = M + 1 := ⟨N - 1, by omega⟩
    have a := ih N (by omega) (by omega)
    rw [show (6 : Int) - (m : Nat) = 6 - ((m + 1 : Nat) : Int) + 1 by omega] at a
    exact C59_b W a (by omega) hn hB
end
/-- a row of bytes -/
def yFile (b : Nat) (B : yB) (n : Int) (s : zS) : Prop := b < 3 ∧ s.1 1 b 0 = n ∧ 0 ≤ n ∧ n ≤ 160 ∧ (∀ i, 0 ≤ i → i < n → s.1 0 b i = B i) ∧ ∀ i, 0 ≤ i → i < n → 0 ≤ B i ∧ B i ≤ 255
/-- a template -/
def yTpl (q : Nat) (T : yT) (s : zS) : Prop := q < s.2.1 ∧ ∀ f i, 448 ≤ f → f < 469 → s.1 f q i = T f i
/-- nothing but the reader r has changed -/
def yfr2 (r : Nat) (s s' : zS) : Prop := (∀ f n i, ¬ (n = r ∧ (192 ≤ f ∧ f < 200 ∨ 321 ≤ f ∧ f < 331)) → s'.1 f n i = s.1 f n i) ∧ s'.2 = s.2
theorem yfr2.rf {r : Nat} {s : zS} : yfr2 r s s := ⟨fun _ _ _ _ => rfl, rfl⟩
theorem yfr2.tr {r : Nat} {s t u : zS} (a : yfr2 r s t) (b : yfr2 r t u) : yfr2 r s u := ⟨fun f n i h => (b.1 f n i h).trans (a.1 f n i h), b.2.trans a.2⟩
theorem yfr2.of {r : Nat} {s t : zS} (a : yfr r s t) : yfr2 r s t := ⟨fun f n i h => a.1 f n i (by omega), a.2⟩
theorem yfr2.pw {r f : Nat} {i v : Int} {s t : zS} (a : yfr2 r s t) (h : 192 ≤ f ∧ f < 200 ∨ 321 ≤ f ∧ f < 331) : yfr2 r s (zp f r i v t) := by
  refine ⟨fun f' n' i' hn => ?_, a.2⟩
  rw [zp_ne (fun z => hn ⟨z.2, by rw [z.1]; exact h⟩)]
  exact a.1 f' n' i' hn
theorem yFile.fr {r b : Nat} {B : yB} {n : Int} {s t : zS} (h : yFile b B n s) (a : yfr2 r s t) : yFile b B n t := by
  obtain ⟨h1, h2, h3, h4, h5, h6⟩ := h
  refine ⟨h1, ?_, h3, h4, fun i g1 g2 => ?_, h6⟩
  · rw [a.1 1 b 0 (by omega)]
    exact h2
  · rw [a.1 0 b i (by omega)]
    exact h5 i g1 g2
theorem yTpl.fr {r q : Nat} {T : yT} {s t : zS} (h : yTpl q T s) (a : yfr2 r s t) : yTpl q T t := by
  refine ⟨by rw [a.2]; exact h.1, fun f i g1 g2 => ?_⟩
  rw [a.1 f q i (by omega)]
  exact h.2 f i g1 g2
/-- a structure read at a place as if it were the whole file -/
def yTop (T : yT) (B : yB) (n st off : Int) : yO := yS T B n 6 st (-1) (-1) off 0 0
/-- what the reader r tells -/
def yTold (r : Nat) (o : yO) (v : Int) (t : zS) : Prop := match o with
  | .inl e => v = 0 ∧ t.1 325 r 0 = e.1 ∧ t.1 326 r 0 = e.2.1
  | .inr x => v = 1 ∧ t.1 323 r 0 = x.1 ∧ t.1 327 r 0 = x.2.2.1 ∧ yIn r 0 x.2.2.2 t ∧ t.1 325 r 0 = 0 ∧ t.1 326 r 0 = -1
theorem C56 {r q b : Nat} {T : yT} {B : yB} {n st off : Int} {s : zS} (hT : yTpl q T s) (W : yWT T) (hF : yFile b B n s) (hst : 0 ≤ st ∧ st < T 449 0) (hoff : 0 ≤ off ∧ off ≤ 255) : zw (zf_56 r ((q : Int) + 1) b st off s) fun v t => (yfr2 r s t ∧ t.1 321 r 0 = q + 1 ∧ t.1 322 r 0 = b + 1) ∧ yTold r (yTop T B n st off) v t := by
  obtain ⟨f1, f2, f3, f4, f5, f6⟩ := id hF
  unfold zf_56
  simp only [zP_ok]
  have K : yfr2 r s (zp 326 r 0 (-1) (zp 325 r 0 0 (zp 199 r 0 0 (zp 327 r 0 0 (zp 324 r 0 0 (zp 323 r 0 off (zp 322 r 0 ((b : Int) + 1) (zp 321 r 0 ((q : Int) + 1) s)))))))) := (((((((yfr2.rf.pw (by omega)).pw (by omega)).pw (by omega)).pw (by omega)).pw (by omega)).pw (by omega)).pw (by omega)).pw (by omega)
  generalize ht : zp 326 r 0 (-1) (zp 325 r 0 0 (zp 199 r 0 0 (zp 327 r 0 0 (zp 324 r 0 0 (zp 323 r 0 off (zp 322 r 0 ((b : Int) + 1) (zp 321 r 0 ((q : Int) + 1) s))))))) = t at K
  have e321 : t.1 321 r 0 = q + 1 := by rw [← ht]; simp [zp_1]
  have e322 : t.1 322 r 0 = b + 1 := by rw [← ht]; simp [zp_1]
  have e323 : t.1 323 r 0 = off := by rw [← ht]; simp [zp_1]
  have e324 : t.1 324 r 0 = 0 := by rw [← ht]; simp [zp_1]
  have e327 : t.1 327 r 0 = 0 := by rw [← ht]; simp [zp_1]
  have e199 : t.1 199 r 0 = 0 := by rw [← ht]; simp [zp_1]
  have hT2 := hT.fr K
  have hF2 := hF.fr K
  clear ht
  have R : yRd r q b T B n t := ⟨e321, hT2.1, e322, f1, hT2.2, hF2.2.1, f3, f4, hF2.2.2.2.2.1, f6⟩
  have P : yPre r off 0 0 t := ⟨e323, e324, e199, by omega, by omega, by omega, by omega, by omega, by omega⟩
  unfold zIf
  rw [if_neg (by omega), zO_ok rfl hT2.1, if_neg (by omega), hT2.2 449 0 (by omega) (by omega), if_pos hst.2]
  have a := C59 (r := r) (q := q) (b := b) W f4 f6 6 8 (by decide) (by decide) t st (-1) (-1) off 0 0 R P hst.1 hst.2 (Or.inl rfl)
  rw [show (6 : Int) - (6 : Nat) = 0 from rfl] at a
  refine zw_C' a fun v u hu => ?_
  have K2 := K.tr (yfr2.of hu.1.1)
  have u321 : u.1 321 r 0 = q + 1 := (hu.1.1.1 321 r 0 (by omega)).trans e321
  have u322 : u.1 322 r 0 = b + 1 := (hu.1.1.1 322 r 0 (by omega)).trans e322
  have hr := hu.2
  rw [e327] at hr
  unfold yTop
  revert hr
  cases yS T B n 6 st (-1) (-1) off 0 0 with
  | inl e =>
    intro hr
    rw [hr.1, if_pos rfl]
    exact zw_z0 ⟨⟨K2, u321, u322⟩, rfl, hr.2.1, hr.2.2.1⟩
  | inr x =>
    intro hr
    obtain ⟨g1, g2, g3, g4, g5⟩ := hr
    rw [g1, if_neg (by decide)]
    refine zw_z1 ⟨⟨(K2.pw (by omega)).pw (by omega), ?_, ?_⟩, rfl, ?_, ?_, ⟨?_, fun j y hy c h1 h2 => ?_⟩, ?_, zp_eq⟩
    · rw [zp_nn (by omega), zp_nn (by omega)]
      exact u321
    · rw [zp_nn (by omega), zp_nn (by omega)]
      exact u322
    · rw [zp_nn (by omega), zp_nn (by omega)]
      exact g2
    · rw [zp_nn (by omega), zp_nn (by omega), g4, Int.zero_add]
    · rw [zp_nn (by omega), zp_nn (by omega)]
      exact g5.1
    · rw [zp_nn (by omega), zp_nn (by omega)]
      exact g5.2 j y hy c h1 h2
    · rw [zp_nn (by omega), zp_eq]
/-- without a template nothing is read -/
theorem C56_0 {r b : Nat} {st off : Int} {s : zS} : ∃ t, zf_56 r 0 b st off s = zi 0 t ∧ yfr2 r s t ∧ t.1 199 r 0 = 0 ∧ t.1 327 r 0 = 0 ∧ t.1 321 r 0 = 0 := by
  refine ⟨_, rfl, (((((((yfr2.rf.pw (by omega)).pw (by omega)).pw (by omega)).pw (by omega)).pw (by omega)).pw (by omega)).pw (by omega)).pw (by omega), ?_, ?_, ?_⟩ <;> simp [zp_1]
