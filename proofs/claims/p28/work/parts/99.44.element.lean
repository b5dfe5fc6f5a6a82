section
/-! element -/
def eDbl (M : yB) (q k : Int) : yB := fun i => if i < q then M i else M (i - k)
/-- the node of element q of J, from node i on; -1: there is none -/
def eEl (N : Int → yN) (J : Int) : Nat → Int → Int → Int
  | 0, _, _ => -1
  | m + 1, q, i => if N i 197 = J then (if q = 0 then i else eEl N J m (q - 1) (i + 1)) else eEl N J m q (i + 1)
def aEl (A : aA) (J p : Int) : Int := if aNn A J 192 = 1 ∧ 0 ≤ p then eEl (aNn A) J (aLn A - (J + 1)).toNat p (J + 1) else -1
/-- an element, node x, of J is doubled (b = 1) or taken out -/
def sElm (J x b : Int) (A : aA) : (Int ⊕ Nat) × aA := if b = 0 then sFin A (eRem (eMa A J (aNn A x 194) (aNn A x 195) 0 (-1)) (aNn A x 194) (aNn A x 195)) (A.1 3 0 - aNn A x 195) else if A.1 3 0 + aNn A x 195 ≤ 160 ∧ eFa A J (aNn A x 194 + aNn A x 195) (aNn A x 195) 1 1 = 1 then sFin A (eDbl (eMa A J (aNn A x 194 + aNn A x 195) (aNn A x 195) 1 1) (aNn A x 194 + aNn A x 195) (aNn A x 195)) (A.1 3 0 + aNn A x 195) else (.inr 1, A)
def sElement (J p b : Int) (A : aA) : (Int ⊕ Nat) × aA := if 0 ≤ J ∧ J < aLn A then (if aEl A J p = -1 then (.inr 1, A) else sElm J (aEl A J p) b A) else (.inr 2, A)
section
variable {T : yT} {B C F G : yB} {n L w : Int} {N : Int → yN} {s u z : zS} {r q : Nat} {t k v g e x j J p b l o : Int} {A : aA}
theorem eDbl_b {M : yB} (hM : ∀ i, 0 ≤ i → i < n → 0 ≤ M i ∧ M i ≤ 255) (hk : 0 ≤ k ∧ k ≤ p ∧ p ≤ n) : ∀ i, 0 ≤ i → i < n + k → 0 ≤ eDbl M p k i ∧ eDbl M p k i ≤ 255 := fun i i0 i1 => by
  unfold eDbl
  split
  · exact hM i i0 (by omega)
  · exact hM (i - k) (by omega) (by omega)
theorem eEl_1 : ∀ (m : Nat) (q i : Int), eEl N J m q i = -1 ∨ ((i ≤ eEl N J m q i ∧ eEl N J m q i < i + m) ∧ N (eEl N J m q i) 197 = J)
  | 0, _, _ => Or.inl rfl
  | m + 1, q, i => by
    unfold eEl
    by_cases c : N i 197 = J
    · rw [if_pos c]
      by_cases d : q = 0
      · rw [if_pos d]
        exact Or.inr ⟨by omega, c⟩
      · rw [if_neg d]
        rcases eEl_1 m (q - 1) (i + 1) with h | h
        · exact Or.inl h
        · exact Or.inr ⟨by omega, h.2⟩
    · rw [if_neg c]
      rcases eEl_1 m q (i + 1) with h | h
      · exact Or.inl h
      · exact Or.inr ⟨by omega, h.2⟩
theorem C33_31 (I : cNd r N L s) (hL : L ≤ 200) (hJ : 0 ≤ J) : ∀ (m M : Nat) (q i : Int), m < M → (m : Int) = L - i → 0 ≤ i → 0 ≤ q → q ≤ 2147483647 → zf_33_31 M r J q i s = zi (eEl N J m q i) s := by
  intro m
  induction m with
  | zero =>
    intro M q i hM hm i0 q0 q1
    obtain ⟨M, rfl⟩ : ∃ L, M = L + 1 := ⟨M - 1, by omega⟩
    unfold zf_33_31 eEl
    rw [I.1, if_pos (by omega)]
  | succ m ih =>
    intro M q i hM hm i0 q0 q1
    obtain ⟨M, rfl⟩ : ∃ L, M = L + 1 := ⟨M - 1, by omega⟩
    unfold zf_33_31 eEl
    rw [I.1, if_neg (by omega), zn_ok (by omega), I.2 i i0 (by omega) 197 (by decide) (by decide)]
    by_cases c : N i 197 = J
    · rw [if_pos c, if_pos c]
      by_cases d : q = 0
      · rw [if_pos d, if_pos d]
      · rw [if_neg d, if_neg d, zg_ok ⟨by omega, by omega⟩, zg_ok ⟨by omega, by omega⟩]
        exact ih M (q - 1) (i + 1) (by omega) (by omega) (by omega) (by omega) (by omega)
    · rw [if_neg c, if_neg c, zg_ok ⟨by omega, by omega⟩]
      exact ih M q (i + 1) (by omega) (by omega) (by omega) q0 q1
theorem C33 (I : cNd 0 (aNn A) (aLn A) u) (hL : aLn A ≤ 200) (hJ : 0 ≤ J ∧ J < aLn A) (hp : p ≤ 2147483647) : zf_33 0 J p u = zi (aEl A J p) u := by
  unfold zf_33 aEl
  rw [z27 I.1, zC_zi, if_pos hJ, if_neg (show ¬ (1 : Int) = 0 by decide), zn_ok (by omega), I.2 J hJ.1 hJ.2 192 (by decide) (by decide)]
  by_cases c : aNn A J 192 = 1
  · rw [if_pos c]
    by_cases d : 0 ≤ p
    · rw [if_pos d, if_pos ⟨c, d⟩, zg_ok ⟨by omega, by omega⟩]
      exact C33_31 I hL hJ.1 _ xfu p (J + 1) (pa_fu (by omega)) (by omega) (by omega) d hp
    · rw [if_neg d, if_neg (fun z => d z.2)]
  · rw [if_neg c, if_neg (fun z => c z.1)]
/-- what is known of an element -/
theorem aElm (ok : aOK A) (cn : aChosen A ≠ -1) (S : ySh (aCt A) (A.1 2) (A.1 3 0) (aNn A) (aLn A) w) (hJ : 0 ≤ J ∧ J < aLn A) (h : aEl A J p ≠ -1) : aNn A J 192 = 1 ∧ (0 ≤ aEl A J p ∧ aEl A J p < aLn A) ∧ (0 ≤ aNn A (aEl A J p) 194 ∧ 0 ≤ aNn A (aEl A J p) 195 ∧ aNn A (aEl A J p) 194 + aNn A (aEl A J p) 195 ≤ A.1 3 0) ∧ aNn A (aEl A J p) 195 ≤ aNn A J 195 ∧ 1 ≤ aNn A J 196 := by
  have o := aOf ok cn hJ
  have ndJ := (S.nd hJ).1
  obtain ⟨sz, Z⟩ := S.szs
  obtain ⟨z1, z2, z3, z4, z5, z6⟩ := Z J hJ.1 hJ.2
  unfold aEl at h ⊢
  by_cases c : aNn A J 192 = 1 ∧ 0 ≤ p
  · rw [if_pos c] at h ⊢
    generalize hx : eEl (aNn A) J (aLn A - (J + 1)).toNat p (J + 1) = x at h ⊢
    have e := eEl_1 (N := aNn A) (J := J) (aLn A - (J + 1)).toNat p (J + 1)
    rw [hx] at e
    have e := e.resolve_left h
    have xL : 0 ≤ x ∧ x < aLn A := by omega
    have inn : x < J + sz J := by
      by_cases y : x < J + sz J
      · exact y
      · have := z3 x (by omega) xL.2
        omega
    have g4 := z4 x (by omega) inn
    have g6 := z6 (by omega)
    have mo := S.mono (i := J) (k := x) ⟨hJ.1, by omega⟩ xL.2
    have ndx := (S.nd xL).1
    exact ⟨c.1, xL, ⟨by omega, by omega, by omega⟩, by omega, by omega⟩
  · rw [if_neg c] at h
    exact absurd rfl h
theorem C8_2 (hn : n ≤ 160) (ho : 0 ≤ o) (hl : 0 ≤ l) (hq : o + l + l ≤ n) : ∀ (m M : Nat) (x : Int) (s : zS), m < M → (m : Int) = o + l - x → o ≤ x → s.1 1 2 0 = n → ∃ u, zf_8_2 M 2 o l x s = zi 0 u ∧ cWk s u ∧ u.1 1 2 0 = n ∧ ∀ i, u.1 0 2 i = if x + l ≤ i ∧ i < o + l + l then s.1 0 2 (i - l) else s.1 0 2 i := by
  intro m
  induction m with
  | zero =>
    intro M x s hM hm x0 h
    obtain ⟨M, rfl⟩ : ∃ L, M = L + 1 := ⟨M - 1, by omega⟩
    unfold zf_8_2
    rw [zg_ok ⟨by omega, by omega⟩, if_pos (by omega)]
    exact ⟨s, rfl, cWk.rf, h, fun i => (if_neg (by omega)).symm⟩
  | succ m ih =>
    intro M x s hM hm x0 h
    obtain ⟨M, rfl⟩ : ∃ L, M = L + 1 := ⟨M - 1, by omega⟩
    obtain ⟨y, b1, b2, b3, b4⟩ := z3_k (p := x + l) (x := s.1 0 2 x) h hn
    obtain ⟨u, a1, a2, a3, a4⟩ := ih M (x + 1) y (by omega) (by omega) (by omega) b3
    unfold zf_8_2 zf_2
    rw [zg_ok ⟨by omega, by omega⟩, if_neg (by omega), if_neg (show ¬ x < 0 by omega), h, if_neg (show ¬ n ≤ x by omega), zn_ok (by rw [show zlB 2 = 160 from rfl]; omega), zC_zi, zg_ok ⟨by omega, by omega⟩, b1, zC_zi, zg_ok ⟨by omega, by omega⟩]
    refine ⟨u, a1, b2.tr a2, a3, fun i => ?_⟩
    rw [a4]
    by_cases c : x + 1 + l ≤ i ∧ i < o + l + l
    · rw [if_pos c, if_pos (show x + l ≤ i ∧ i < o + l + l by omega), b4, if_neg (by omega)]
    · rw [if_neg c, b4]
      by_cases d : i = x + l
      · rw [if_pos ⟨d, by omega, by omega⟩, if_pos (show x + l ≤ i ∧ i < o + l + l by omega), d, show x + l - l = x by omega]
      · rw [if_neg (fun z => d z.1), if_neg (show ¬ (x + l ≤ i ∧ i < o + l + l) by omega)]
theorem C126 (h : cR A s) (ok : aOK A) (c : cC A s) (hp : p ≤ 2147483647) : cOut (zf_126 0 J p b s) (sElement J p b A).1 (sElement J p b A).2 s := by
  obtain ⟨u, a1, a2, a3, a4, a5, a6⟩ := C135 (j := J) h ok c
  have hL := aLn_b ok
  have hn := ok.2.1.1
  unfold zf_126 sElement
  rw [a1]
  by_cases d : 0 ≤ J ∧ J < aLn A
  · have cn := hL.2.2 (by omega)
    obtain ⟨x, x1, x2, x3, x4, x5⟩ := aChosen_x ok cn
    have o := ok.2.2.2.2.2 _ x4
    have H := a3.H a2 ok cn x1
    have W : yWT (aCt A) := o.1
    obtain ⟨n1, n2⟩ := aNn_e x2
    rw [← n1, ← n2] at H
    have H : cHo 0 (aChosen A).toNat 1 (aCt A) (A.1 2) (A.1 2) (A.1 3 0) (aNn A) (aLn A) x.2.2.1 u := H
    have S := H.2.2
    rw [if_pos d, if_pos d, zC_zi, C33 a4 hL.2.1 d hp, zC_zi]
    by_cases c1 : aEl A J p = -1
    · unfold zf_126_31 zf_138
      rw [if_pos c1, if_pos c1, if_pos rfl]
      exact cEndT (e := 1) a2 a3 a5 a6
    · obtain ⟨k1, xL, k3, k4, k5⟩ := aElm ok cn S d c1
      unfold zf_126_31 zf_126_139
      rw [if_neg c1, if_neg c1]
      generalize aEl A J p = e at xL k3 k4
      have e194 := H.2.1.2 e xL.1 xL.2 194 (by decide) (by decide)
      have e195 := H.2.1.2 e xL.1 xL.2 195 (by decide) (by decide)
      obtain ⟨y, b1, b2, b3, b4⟩ := C10 a2 ok
      obtain ⟨g1, g2, g3, g4, g5, g6⟩ := b4
      have z1 : ∀ s : zS, zf_138 0 1 s = zi 0 s := fun s => by
        unfold zf_138
        rw [if_neg (by decide)]
      rw [z1, zC_zi, zn_ok (by omega), zn_ok (by omega), b1, zC_zi, e194, e195]
      unfold sElm
      by_cases b0 : b = 0
      · have hb := eVb_rem (k := aNn A e 195) ok W S d (p := aNn A e 194) ⟨k3.1, by omega⟩ ⟨k3.2.1, k4⟩ (fun _ => k5)
        obtain ⟨z, c1, c2, c3, c4, c5⟩ := C13 (k := aNn A e 195) W (H.w1 b3) ⟨g2, g5⟩ d hb k3.1 k3.2
        rw [if_pos b0, if_pos b0, c1, zC_zi]
        refine C140e ok cn a2 a3 a5 a6 (b3.tr c2) ⟨by decide, c3, by omega, by omega, fun i i0 i1 => ?_, eRem_b (eMa_b ok W S hb fun z => absurd rfl z) k3.2.1⟩
        unfold eRem
        by_cases y1 : i < aNn A e 194
        · rw [if_pos y1]
          exact c4 i i0 y1
        · rw [if_neg y1]
          exact c5 i (by omega) i1
      · obtain ⟨z, c1, c2, c3⟩ := C12 (k := aNn A e 195) (p := aNn A e 194 + aNn A e 195) W (H.w1 b3) ⟨g2, g5⟩ d (eVb_ins ok W S d (by omega) k3.2.1) ⟨by omega, k3.2.2⟩ ⟨k3.2.1, by omega⟩
        rw [if_neg b0, if_neg b0, zg_ok ⟨by omega, by omega⟩]
        by_cases f : A.1 3 0 + aNn A e 195 ≤ 160 ∧ eFa A J (aNn A e 194 + aNn A e 195) (aNn A e 195) 1 1 = 1
        · obtain ⟨d1, d2, d3, d4⟩ := c2 f
          obtain ⟨y2, f1, f2, f3, f4⟩ := C8_2 (o := aNn A e 194) (l := aNn A e 195) f.1 k3.1 k3.2.1 (by omega) (aNn A e 195).toNat xfu (aNn A e 194) z (pa_fu (by omega)) (by omega) (Int.le_refl _) d2
          unfold zf_8
          rw [d1, zC_zi, z1, zC_zi, f1, zC_zi, if_pos f]
          refine C140e ok cn a2 a3 a5 a6 ((b3.tr c1).tr f2) ⟨by decide, f3, by omega, f.1, fun i i0 i1 => ?_, eDbl_b (eMa_b ok W S (eVb_ins ok W S d (by omega) k3.2.1 f.1) fun _ => f.2) ⟨k3.2.1, by omega, k3.2.2⟩⟩
          rw [f4]
          unfold eDbl
          by_cases y1 : i < aNn A e 194 + aNn A e 195
          · rw [if_neg (by omega), if_pos y1]
            exact d3 i i0 y1
          · rw [if_neg y1]
            by_cases y3 : i < aNn A e 194 + aNn A e 195 + aNn A e 195
            · rw [if_pos (by omega)]
              exact d3 (i - aNn A e 195) (by omega) (by omega)
            · have := d4 (i - aNn A e 195) (by omega) (by omega)
              rw [show i - aNn A e 195 + aNn A e 195 = i by omega] at this
              rw [if_neg (by omega)]
              exact this
        · obtain ⟨d1, d2⟩ := c3 f
          rw [d1, zC_zi, if_neg f]
          unfold zf_138
          rw [if_pos rfl]
          exact cNo ok a2 a3 a5 a6 (b3.tr c1)
  · rw [if_neg d, if_neg d]
    exact cEndT (e := 2) a2 a3 a5 a6
end
end
