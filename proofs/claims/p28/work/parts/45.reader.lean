/-! the class's reader: names, arrays, fields, structures -/
def yKeep (r : Nat) (cnt D : Int) (s t : zS) : Prop := yfr r s t ∧ (∀ (c : Nat) (i : Int), 192 ≤ c → c < 199 → i < cnt → t.1 c r i = s.1 c r i) ∧ (∀ (c : Nat) (i : Int), 328 ≤ c → c < 331 → i < D → t.1 c r i = s.1 c r i)
theorem zp_nn {f n : Nat} {i v : Int} {s : zS} {f' n' : Nat} {i' : Int} (h : ¬ (f' = f ∧ i' = i)) : (zp f n i v s).1 f' n' i' = s.1 f' n' i' := if_neg fun z => h ⟨z.1, z.2.2⟩
theorem yKeep.rf {r : Nat} {cnt D : Int} {s : zS} : yKeep r cnt D s s := ⟨yfr.rf, fun _ _ _ _ _ => rfl, fun _ _ _ _ _ => rfl⟩
theorem yKeep.pw {r : Nat} {cnt D : Int} {s t : zS} {f : Nat} {i v : Int} (a : yKeep r cnt D s t) (h : (192 ≤ f ∧ f < 199 ∧ cnt ≤ i) ∨ f = 199 ∨ (323 ≤ f ∧ f ≤ 327) ∨ (328 ≤ f ∧ f < 331 ∧ D ≤ i)) : yKeep r cnt D s (zp f r i v t) := by
  refine ⟨a.1.pw (by omega), fun c j h1 h2 h3 => ?_, fun c j h1 h2 h3 => ?_⟩
  · rw [zp_nn (by omega)]
    exact a.2.1 c j h1 h2 h3
  · rw [zp_nn (by omega)]
    exact a.2.2 c j h1 h2 h3
theorem yKeep.tr {r : Nat} {cnt cnt' D D' : Int} {s t u : zS} (a : yKeep r cnt D s t) (b : yKeep r cnt' D' t u) (hc : cnt ≤ cnt') (hD : D ≤ D') : yKeep r cnt D s u :=
  ⟨a.1.tr b.1, fun c i h1 h2 h3 => (b.2.1 c i h1 h2 (by omega)).trans (a.2.1 c i h1 h2 h3), fun c i h1 h2 h3 => (b.2.2 c i h1 h2 (by omega)).trans (a.2.2 c i h1 h2 h3)⟩
theorem yKeep.wk {r : Nat} {cnt cnt' D D' : Int} {s t : zS} (a : yKeep r cnt' D' s t) (hc : cnt ≤ cnt') (hD : D ≤ D') : yKeep r cnt D s t :=
  ⟨a.1, fun c i h1 h2 h3 => a.2.1 c i h1 h2 (by omega), fun c i h1 h2 h3 => a.2.2 c i h1 h2 (by omega)⟩
theorem yKeep.mk' {r : Nat} {cnt D k f p pos made : Int} {s : zS} : yKeep r cnt D s (yMk r k f p pos made cnt s) := by
  unfold yMk
  exact (((((yKeep.rf.pw (by omega)).pw (by omega)).pw (by omega)).pw (by omega)).pw (by omega)).pw (by omega)
/-- these nodes are the last ones of the table, from cnt on -/
def yIn (r : Nat) (cnt : Int) (l : List yN) (t : zS) : Prop := t.1 199 r 0 = cnt + l.length ∧ ∀ (j : Nat) (x : yN), l[j]? = some x → ∀ c : Nat, 192 ≤ c → c < 199 → t.1 c r (cnt + j) = x c
theorem yIn.nil {r : Nat} {cnt : Int} {t : zS} (h : t.1 199 r 0 = cnt) : yIn r cnt [] t := ⟨by simpa using h, fun j x h => by simp at h⟩
theorem yIn.app {r : Nat} {cnt D : Int} {l1 l2 : List yN} {t u : zS} (a : yIn r cnt l1 t) (k : yKeep r (cnt + l1.length) D t u) (b : yIn r (cnt + l1.length) l2 u) : yIn r cnt (l1 ++ l2) u := by
  refine ⟨?_, fun j x h c h1 h2 => ?_⟩
  · rw [b.1, List.length_append]
    omega
  · by_cases hj : j < l1.length
    · rw [List.getElem?_append_left hj] at h
      rw [k.2.1 c _ h1 h2 (by omega)]
      exact a.2 j x h c h1 h2
    · rw [List.getElem?_append_right (by omega)] at h
      have e := b.2 (j - l1.length) x h c h1 h2
      rw [show cnt + (j : Int) = cnt + l1.length + ((j - l1.length : Nat) : Int) by omega]
      exact e
def yRes (r : Nat) (cnt w0 : Int) (o : yO) (v : Int) (t : zS) : Prop := match o with
  | .inl e => v = 0 ∧ t.1 325 r 0 = e.1 ∧ t.1 326 r 0 = e.2.1 ∧ t.1 324 r 0 = e.2.2 ∧ (0 ≤ t.1 323 r 0 ∧ t.1 323 r 0 ≤ 1000)
  | .inr x => v = 1 ∧ t.1 323 r 0 = x.1 ∧ t.1 324 r 0 = x.2.1 ∧ t.1 327 r 0 = w0 + x.2.2.1 ∧ yIn r cnt x.2.2.2 t
def yResA (r : Nat) (cnt w0 : Int) (o : yA) (v : Int) (t : zS) : Prop := match o with
  | .inl e => v = -1 ∧ t.1 325 r 0 = e.1 ∧ t.1 326 r 0 = e.2.1 ∧ t.1 324 r 0 = e.2.2 ∧ (0 ≤ t.1 323 r 0 ∧ t.1 323 r 0 ≤ 1000)
  | .inr x => v = x.1 ∧ t.1 323 r 0 = x.2.1 ∧ t.1 324 r 0 = x.2.2.1 ∧ t.1 327 r 0 = w0 + x.2.2.2.1 ∧ yIn r cnt x.2.2.2.2 t
def yPre (r : Nat) (pos made cnt : Int) (s : zS) : Prop := s.1 323 r 0 = pos ∧ s.1 324 r 0 = made ∧ s.1 199 r 0 = cnt ∧ (0 ≤ pos ∧ pos ≤ 1000) ∧ 0 ≤ cnt ∧ cnt ≤ made ∧ made ≤ 200 ∧ 0 ≤ s.1 327 r 0 ∧ s.1 327 r 0 ≤ 8 * cnt
def yRsC (r q b : Nat) (T : yT) (B : yB) (n dep : Int) (zrs : Nat → Int → Int → Int → Int → zS → zR) (rs : Int → Int → Int → Int → Int → Int → yO) : Prop := ∀ (s : zS) (st ow pa pos made cnt : Int), yRd r q b T B n s → yPre r pos made cnt s → 0 ≤ st → st < T 449 0 → (ow = -1 ∨ 0 ≤ ow ∧ ow < 48) → zw (zrs r st ow pa dep s) fun v t => yKeep r cnt (8 * dep) s t ∧ yRes r cnt (s.1 327 r 0) (rs st ow pa pos made cnt) v t
section
variable {r q b : Nat} {T : yT} {B : yB} {n dep : Int} {zrs : Nat → Int → Int → Int → Int → zS → zR} {rs : Int → Int → Int → Int → Int → Int → yO} {E : yE} {st k d me pos made cnt : Int} {s : zS}
theorem C66_32 (hC : yRsC r q b T B n dep zrs rs) (hok : yRsOk T n rs) {f ow pa : Int} (hf : 0 ≤ f ∧ f < 48) (how : ow = -1 ∨ 0 ≤ ow ∧ ow < 48) {w0 : Int} (hp : 0 ≤ pos ∧ pos ≤ 1000) (hc : 0 ≤ cnt) (hw : 0 ≤ w0 ∧ w0 ≤ 8 * cnt) (h100 : T 464 f ≤ 100) : ∀ (m N : Nat) (k made : Int) (s : zS), m < N → 0 < m → k + m = T 464 f → 0 ≤ k → (∀ j, k ≤ j → j < k + m → 0 ≤ T 456 j ∧ T 456 j < T 449 0) → cnt ≤ made → made ≤ 200 → yRd r q b T B n s → s.1 324 r 0 = made → zw (zf_66_32 zrs N r f ow pa dep pos cnt w0 k s) fun v t => yKeep r cnt (8 * dep) s t ∧ yRes r cnt w0 (yNm rs T ow pa m k pos made cnt) v t := by
  intro m
  induction m with
  | zero =>
    intro N k made s _ h
    omega
  | succ m ih =>
    intro N k made s hN h0 hk hk0 hj hcm hm R hs
    obtain ⟨N, rfl⟩ : ∃ M, N = M + 1 := ⟨N - 1, by omega⟩
    have K1 : yKeep r cnt (8 * dep) s (zp 327 r 0 w0 (zp 199 r 0 cnt (zp 323 r 0 pos s))) := ((yKeep.rf.pw (by omega)).pw (by omega)).pw (by omega)
    have R1 := R.fr K1.1
    unfold zf_66_32
    rw [zO_ok R.1 R.2.1, zn_ok (by omega), R.2.2.2.2.1 464 _ (by omega) (by omega), if_neg (by omega), z67, zC_zi]
    generalize e1 : zp 327 r 0 w0 (zp 199 r 0 cnt (zp 323 r 0 pos s)) = s1 at K1 R1
    have e327 : s1.1 327 r 0 = w0 := by
      rw [← e1]
      exact zp_eq
    have P1 : yPre r pos made cnt s1 := by
      refine ⟨?_, ?_, ?_, hp, hc, hcm, hm, by omega, by omega⟩
      · rw [← e1]
        simp [zp_1]
      · rw [← e1]
        simpa [zp_1] using hs
      · rw [← e1]
        simp [zp_1]
    rw [zO_ok R1.1 R1.2.1, zn_ok (by omega), R1.2.2.2.2.1 456 _ (by omega) (by omega)]
    have hjk := hj k (by omega) (by omega)
    have a := hC s1 (T 456 k) ow pa pos made cnt R1 P1 hjk.1 hjk.2 how
    have ok := hok (T 456 k) ow pa hjk.1 hjk.2 pos made cnt hp.1 (by omega) hm
    rw [e327] at a
    unfold yNm
    revert a ok
    cases hx : rs (T 456 k) ow pa pos made cnt with
    | inr x =>
      intro a _
      refine zw_C' a fun v t ht => ?_
      obtain ⟨hv, ht2⟩ := ht.2
      rw [hv, if_neg (by decide)]
      exact zw_z1 ⟨K1.tr ht.1 (Int.le_refl _) (Int.le_refl _), rfl, ht2⟩
    | inl e =>
      intro a ok
      obtain ⟨c, p, made'⟩ := e
      have ok : made ≤ made' ∧ made' ≤ 200 := ok
      refine zw_C' a fun v t ht => ?_
      obtain ⟨hv, h5, h6, h7, h8⟩ := ht.2
      dsimp only at h5 h6 h7 ⊢
      have K2 := K1.tr ht.1 (Int.le_refl _) (Int.le_refl _)
      rw [hv, if_pos rfl, h5]
      by_cases hc5 : c = 5
      · rw [if_pos hc5, if_pos (Or.inl hc5)]
        exact zw_z0 ⟨K2, rfl, h5, h6, h7, h8⟩
      · rw [if_neg hc5, zg_ok ⟨by omega, by omega⟩]
        by_cases hm0 : m = 0
        · rw [if_pos (Or.inr hm0)]
          obtain ⟨N, rfl⟩ : ∃ M, N = M + 1 := ⟨N - 1, by omega⟩
          have R2 := R.fr K2.1
          unfold zf_66_32
          rw [zO_ok R2.1 R2.2.1, zn_ok (by omega), R2.2.2.2.2.1 464 _ (by omega) (by omega), if_pos (by omega)]
          exact zw_z0 ⟨K2, rfl, h5, h6, h7, h8⟩
        · rw [if_neg (show ¬ (c = 5 ∨ m = 0) by omega)]
          refine (ih N (k + 1) made' t (by omega) (by omega) (by omega) (by omega) (fun j g1 g2 => hj j (by omega) (by omega)) (by omega) (by omega) (R.fr K2.1) h7).mono fun v u hu => ?_
          exact ⟨K2.tr hu.1 (Int.le_refl _) (Int.le_refl _), hu.2⟩
theorem xfu_big {m : Nat} (h : m < 1000000) : m < xfu := Nat.lt_of_lt_of_le h (by decide)
theorem C66 (hC : yRsC r q b T B n dep zrs rs) (hok : yRsOk T n rs) (R : yRd r q b T B n s) (P : yPre r pos made cnt s) {st k ow pa : Int} (W : yWF T st k) (hs : 0 ≤ st ∧ st ≤ 5) (hk : 0 ≤ k ∧ k ≤ 7) (how : ow = -1 ∨ 0 ≤ ow ∧ ow < 48) (ht : T 458 (8 * st + k) = 65 ∨ T 458 (8 * st + k) = 91) : zw (zf_66 zrs r (8 * st + k) ow pa dep s) fun v t => yKeep r cnt (8 * dep) s t ∧ yRes r cnt (s.1 327 r 0) (yNm rs T ow pa (T 464 (8 * st + k) - T 463 (8 * st + k)).toNat (T 463 (8 * st + k)) pos made cnt) v t := by
  obtain ⟨a1, a2, a3, a4⟩ := W.2.2.1 (by omega)
  obtain ⟨p1, p2, p3, p4, p5, p6, p7, p8, p9⟩ := P
  unfold zf_66
  rw [zO_ok R.1 R.2.1, zn_ok (by omega), R.2.2.2.2.1 463 _ (by omega) (by omega), p1, p3]
  exact C66_32 hC hok (by omega) how p4 p5 ⟨p8, p9⟩ a3 _ _ _ _ _ (xfu_big (by omega)) (by omega) (by omega) (by omega) (fun j g1 g2 => a4 j g1 (by omega)) p6 p7 R p2
/-- what the reading of one element does -/
def yNmC (r q b : Nat) (T : yT) (B : yB) (n D : Int) (F : zS → zR) (nm : Int → Int → Int → yO) : Prop := ∀ (s : zS) (pos made cnt : Int), yRd r q b T B n s → yPre r pos made cnt s → zw (F s) fun v t => yKeep r cnt D s t ∧ yRes r cnt (s.1 327 r 0) (nm pos made cnt) v t
theorem yPre.next {p1 m1 w1 v : Int} {l1 : List yN} {t : zS} (P : yPre r pos made cnt s) (R : yRd r q b T B n s) (ok : yOkO n pos made (.inr (p1, m1, w1, l1))) (h : yRes r cnt (s.1 327 r 0) (.inr (p1, m1, w1, l1)) v t) : yPre r p1 m1 (cnt + l1.length) t := by
  obtain ⟨q1, q2, q3, q4, q5, q6, q7, q8, q9⟩ := P
  obtain ⟨o1, o2, o3, o4, o5, o6⟩ := ok
  obtain ⟨g1, g2, g3, g4, g5⟩ := h
  have n8 := R.2.2.2.2.2.2.2.1
  dsimp only at o1 o2 o3 o4 o5 o6 g2 g3 g4 g5
  exact ⟨g2, g3, g5.1, by omega, by omega, by omega, by omega, by omega, by omega⟩
theorem C69_3 {f arr d' count : Int} {nm : Int → Int → Int → yO} (hd : d' ≤ 100 ∧ 0 ≤ d') (hN : yNmC r q b T B n (8 * (d' + 1)) (fun s => zf_66 zrs r f (-1) arr (d' + 1) s) nm) (hok : yNmOk n nm) (h20 : count ≤ 1000) : ∀ (m N : Nat) (j pos made cnt : Int) (s : zS), m < N → 0 ≤ j → j + m = count → yRd r q b T B n s → yPre r pos made cnt s → zw (zf_69_3 zrs N r f arr d' count j s) fun v t => yKeep r cnt (8 * (d' + 1)) s t ∧ yRes r cnt (s.1 327 r 0) (yCt nm m pos made cnt) v t := by
  intro m
  induction m with
  | zero =>
    intro N j pos made cnt s hN' h0 hj R P
    obtain ⟨N, rfl⟩ : ∃ M, N = M + 1 := ⟨N - 1, by omega⟩
    unfold zf_69_3
    rw [if_pos (by omega)]
    exact zw_z1 ⟨yKeep.rf, rfl, P.1, P.2.1, (Int.add_zero _).symm, yIn.nil P.2.2.1⟩
  | succ m ih =>
    intro N j pos made cnt s hN' h0 hj R P
    obtain ⟨N, rfl⟩ : ∃ M, N = M + 1 := ⟨N - 1, by omega⟩
    unfold zf_69_3 yCt
    rw [if_neg (by omega), zg_ok ⟨by omega, by omega⟩]
    have a := hN s pos made cnt R P
    have ok := hok pos made cnt P.2.2.2.1.1 (by have := P.2.2.2.2.1; have := P.2.2.2.2.2.1; omega) P.2.2.2.2.2.2.1
    revert a ok
    cases hx : nm pos made cnt with
    | inl e =>
      intro a ok
      refine zw_C' a fun v t ht => ?_
      have hv := ht.2.1
      rw [hv, if_pos rfl]
      exact zw_z0 ⟨ht.1, rfl, ht.2.2⟩
    | inr x =>
      intro a ok
      obtain ⟨p1, m1, w1, l1⟩ := x
      refine zw_C' a fun v t ht => ?_
      have hv := ht.2.1
      rw [hv, if_neg (by decide), zg_ok ⟨by omega, by omega⟩]
      have P2 := P.next R ok ht.2
      have c0 : (0 : Int) ≤ l1.length := by omega
      refine (ih N (j + 1) p1 m1 (cnt + l1.length) t (by omega) (by omega) (by omega) (R.fr ht.1.1) P2).mono fun v u hu => ?_
      have K := ht.1.tr hu.1 (by omega) (Int.le_refl _)
      dsimp only
      revert hu
      cases yCt nm m p1 m1 (cnt + l1.length) with
      | inl e => exact fun hu => ⟨K, hu.2⟩
      | inr y =>
        intro hu
        obtain ⟨p2, m2, w2, l2⟩ := y
        obtain ⟨u1, u2, u3, u4, u5⟩ := hu.2
        obtain ⟨g1, g2, g3, g4, g5⟩ := ht.2
        dsimp only at u2 u3 u4 u5 g4 g5
        exact ⟨K, u1, u2, u3, by dsimp only; omega, g5.app hu.1 u5⟩
end
