/-! what relations ask: by the nodes -/
/-- the first node in a node p with field f, among m nodes from k on -/
def yFi (N : Int → yN) (p f : Int) : Nat → Int → Int
  | 0, _ => -1
  | m + 1, k => if N k 197 = p ∧ N k 198 = f then k else yFi N p f m (k + 1)
/-- the node to which the relation of node k goes -/
def yTg (T : yT) (N : Int → yN) (L k : Int) : Int := yFi N (N k 197) (T 468 (N k 198)) (L - (N k 197 + 1)).toNat (N k 197 + 1)
/-- what the value of node k should be -/
def yDu (T : yT) (B : yB) (N : Int → yN) (L k : Int) : Int := yCut (yDue B (T 467 (N k 198)) (N (yTg T N L k) 194) (N (yTg T N L k) 195) (N (yTg T N L k) 196)) (T 459 (N k 198))
/-- all the nodes of a structure read at a place -/
def ySh (T : yT) (B : yB) (n : Int) (N : Int → yN) (L w : Int) : Prop := (1 ≤ L ∧ L ≤ 200) ∧ (N 0 197 = -1 ∧ N 0 198 = -1) ∧ (∀ k, 0 < k → k < L → 0 ≤ N k 197) ∧ ∃ off p, (0 ≤ off ∧ p ≤ 1000) ∧ yPh T B n N 0 L (-1) off off p p (fun q => q = -1 ∧ (-1 : Int) ≠ -1) (fun h => h (-1)) w
def cNd (r : Nat) (N : Int → yN) (L : Int) (s : zS) : Prop := s.1 199 r 0 = L ∧ ∀ j, 0 ≤ j → j < L → ∀ c : Nat, 192 ≤ c → c < 199 → s.1 c r j = N j c
def mNd (t : Int) (T : yT) (N : Int → yN) (L : Int) (s : zS) : Prop := s.1 610 0 0 = L ∧ ∀ j, 0 ≤ j → j < L → s.1 612 0 j = N j 192 ∧ s.1 613 0 j = N j 193 ∧ s.1 614 0 j = N j 194 ∧ s.1 615 0 j = N j 195 ∧ s.1 616 0 j = N j 196 ∧ s.1 617 0 j = N j 197 ∧ s.1 618 0 j = (if N j 198 = -1 then -1 else 48 * t + N j 198) ∧ (N j 192 = 4 → s.1 619 0 j = 8 - T 460 (N j 198) - T 459 (N j 198))
section
variable {T : yT} {B C : yB} {n L w : Int} {N : Int → yN} {s : zS} {r q b : Nat} {t : Int}
theorem yFi_b {p f : Int} : ∀ (m : Nat) (k : Int), (yFi N p f m k = -1 ∧ ∀ j, k ≤ j → j < k + m → ¬ (N j 197 = p ∧ N j 198 = f)) ∨ ((k ≤ yFi N p f m k ∧ yFi N p f m k < k + m) ∧ N (yFi N p f m k) 197 = p ∧ N (yFi N p f m k) 198 = f)
  | 0, k => Or.inl ⟨rfl, fun j j1 j2 => by omega⟩
  | m + 1, k => by
    unfold yFi
    by_cases c : N k 197 = p ∧ N k 198 = f
    · rw [if_pos c]
      exact Or.inr ⟨by omega, c⟩
    · rw [if_neg c]
      rcases yFi_b (p := p) (f := f) m (k + 1) with ⟨h1, h2⟩ | ⟨h1, h2⟩
      · refine Or.inl ⟨h1, fun j j1 j2 => ?_⟩
        by_cases e : j = k
        · rw [e]
          exact c
        · exact h2 j (by omega) (by omega)
      · exact Or.inr ⟨by omega, h2⟩
theorem ySh.nd (S : ySh T B n N L w) {k : Int} (hk : 0 ≤ k ∧ k < L) : yNd T B n (N k) := by
  obtain ⟨-, -, -, off, p, -, P⟩ := S
  exact P.2.1.2.1 k hk.1 hk.2
theorem ySh.of (S : ySh T B n N L w) {k : Int} (hk : 0 ≤ k ∧ k < L) : 0 ≤ N k 194 ∧ N k 194 ≤ 1000 := by
  obtain ⟨-, -, -, off, p, h, P⟩ := S
  have := (P.2.1.2.2.1 k hk.1 hk.2).1
  omega
/-- the parent of what has a field -/
theorem ySh.pa (S : ySh T B n N L w) {k : Int} (hk : 0 ≤ k ∧ k < L) (f : N k 198 ≠ -1) : 0 ≤ N k 197 ∧ N k 197 < k := by
  obtain ⟨-, h0, h1, off, p, h, P⟩ := S
  by_cases e : k = 0
  · rw [e] at f
    exact absurd h0.2 f
  · have := h1 k (by omega) hk.2
    rcases P.1.1 k hk.1 hk.2 with z | z <;> omega
/-- a field's nodes in one node are one -/
theorem ySh.un (S : ySh T B n N L w) {i j : Int} (hi : 0 ≤ i ∧ i < L) (hj : 0 ≤ j ∧ j < L) (e1 : N i 197 = N j 197) (e2 : N i 198 = N j 198) (e3 : N i 198 ≠ -1) : i = j := by
  obtain ⟨-, -, -, off, p, -, P⟩ := S
  exact P.1.2.1 i j hi.1 hi.2 hj.1 hj.2 e1 e2 e3
/-- the node of a relation -/
theorem ySh.tg (W : yWT T) (S : ySh T B n N L w) {k : Int} (hk : 0 ≤ k ∧ k < L) (R : yRl T (N k 198)) : (0 ≤ yTg T N L k ∧ yTg T N L k < L) ∧ N (yTg T N L k) 197 = N k 197 ∧ N (yTg T N L k) 198 = T 468 (N k 198) ∧ yTg T N L k ≠ k ∧ N k 197 < yTg T N L k := by
  have nd := S.nd hk
  have rr := yNd_rel W nd R
  have pa := S.pa hk R.1
  obtain ⟨hL, h0, h1, off, p, h, P⟩ := id S
  have ex : ∃ j, (0 ≤ j ∧ j < L) ∧ N j 197 = N k 197 ∧ N j 198 = T 468 (N k 198) := by
    rcases P.1.1 k hk.1 hk.2 with z | ⟨z1, z2, z3⟩
    · omega
    · exact z3 R.1 _ rr.2.1.1 rr.2.1.2
  obtain ⟨j, j1, j2, j3⟩ := ex
  have pj := S.pa j1 (by omega)
  unfold yTg
  rcases yFi_b (N := N) (p := N k 197) (f := T 468 (N k 198)) (L - (N k 197 + 1)).toNat (N k 197 + 1) with ⟨g1, g2⟩ | ⟨g1, g2, g3⟩
  · exact absurd ⟨j2, j3⟩ (g2 j (by omega) (by omega))
  · refine ⟨by omega, g2, g3, fun e => ?_, by omega⟩
    rw [e] at g3
    exact rr.2.2.1 g3.symm
theorem ySh.vg (W : yWT T) (S : ySh T B n N L w) : yVg T N (-1) 0 L (yTg T N L) := fun k k1 k2 km R => by
  have := S.tg W ⟨k1, k2⟩ R
  exact ⟨this.1, this.2.1, this.2.2.1⟩
/-- how many are wrong: what was counted while it was read -/
theorem ySh.sum (W : yWT T) (S : ySh T B n N L w) : w = ySm (fun k => yWg T B N (yTg T N L) k) L.toNat 0 := by
  have v := S.vg W
  obtain ⟨hL, h0, h1, off, p, h, P⟩ := S
  have e := P.2.2.2 _ v
  rw [e, show L - 0 = L by omega]
  refine ySm_c _ _ fun k k1 k2 => ?_
  by_cases c : N k 197 = -1
  · have : k = 0 := by
      by_cases z : k = 0
      · exact z
      · have := h1 k (by omega) (by omega)
        omega
    rw [if_pos c, this]
    unfold yWg
    rw [if_pos (Or.inl h0.2)]
  · rw [if_neg c]
theorem z27 {k : Int} (h : s.1 199 r 0 = L) : zf_27 r k s = zi (if 0 ≤ k ∧ k < L then 1 else 0) s := by
  unfold zf_27
  rw [h]
  by_cases c1 : k < 0
  · rw [if_pos c1, if_neg (by omega)]
    rfl
  · rw [if_neg c1]
    by_cases c2 : L ≤ k
    · rw [if_pos c2, if_neg (by omega)]
      rfl
    · rw [if_neg c2, if_pos (by omega)]
      rfl
/-- the class's reader holds these nodes; C the bytes as they are now -/
def cHo (r q b : Nat) (T : yT) (B C : yB) (n : Int) (N : Int → yN) (L w : Int) (s : zS) : Prop := yRd r q b T C n s ∧ cNd r N L s ∧ ySh T B n N L w
theorem yNd.f {x : yN} (W : yWT T) (h : yNd T B n x) (f : x 198 ≠ -1) : 0 ≤ x 198 ∧ x 198 < 48 := by
  rcases h.2 with h | ⟨st, k, h1, h2, h3, -⟩
  · exact absurd h.1 f
  · have := W.2.1
    have := (W.2.2 st h2.1 h2.2).2.1
    omega
theorem z76 (W : yWT T) (H : cHo r q b T B C n N L w s) {k : Int} (hk : 0 ≤ k ∧ k < L) : zf_76 r k s = zi (if N k 198 = -1 then 0 else T 467 (N k 198)) s := by
  obtain ⟨R, ⟨h1, h2⟩, S⟩ := H
  have hL := S.1
  unfold zf_76 zf_76_24
  rw [z27 h1, zC_zi, if_pos hk, if_neg (by decide), zn_ok (by omega), h2 k hk.1 hk.2 198 (by decide) (by decide)]
  by_cases c : N k 198 = -1
  · rw [if_pos c, if_pos c]
  · have f := (S.nd hk).f W c
    rw [if_neg c, if_neg c, zO_ok R.1 R.2.1, zn_ok (by omega), R.2.2.2.2.1 467 _ (by decide) (by decide)]
theorem z31_4 (h : cNd r N L s) (hL : L ≤ 200) {p f : Int} : ∀ (m M : Nat) (k : Int), m < M → m = (L - k).toNat → 0 ≤ k → k ≤ 1000 → zf_31_4 M r p f k s = zi (yFi N p f m k) s := by
  intro m
  induction m with
  | zero =>
    intro M k hM hm k0 k1
    obtain ⟨M, rfl⟩ : ∃ L, M = L + 1 := ⟨M - 1, by omega⟩
    unfold zf_31_4 yFi
    rw [h.1, if_pos (by omega)]
  | succ m ih =>
    intro M k hM hm k0 k1
    obtain ⟨M, rfl⟩ : ∃ L, M = L + 1 := ⟨M - 1, by omega⟩
    unfold zf_31_4 yFi
    rw [h.1, if_neg (by omega), zn_ok (by omega), h.2 k k0 (by omega) 197 (by decide) (by decide)]
    by_cases c1 : N k 197 = p
    · rw [if_pos c1, zn_ok (by omega), h.2 k k0 (by omega) 198 (by decide) (by decide)]
      by_cases c2 : N k 198 = f
      · rw [if_pos c2, if_pos ⟨c1, c2⟩]
      · rw [if_neg c2, if_neg (fun z => c2 z.2), zg_ok ⟨by omega, by omega⟩]
        exact ih M (k + 1) (by omega) (by omega) (by omega) (by omega)
    · rw [if_neg c1, if_neg (fun z => c1 z.1), zg_ok ⟨by omega, by omega⟩]
      exact ih M (k + 1) (by omega) (by omega) (by omega) (by omega)
/-- whether node k has a relation that goes to a node -/
def yRb (T : yT) (N : Int → yN) (k : Int) : Prop := yRl T (N k 198)
theorem z77 (W : yWT T) (H : cHo r q b T B C n N L w s) {k : Int} (hk : 0 ≤ k ∧ k < L) : (yRl T (N k 198) → zf_77 r k s = zi (yTg T N L k) s) ∧ (¬ yRl T (N k 198) → zf_77 r k s = zi (-1) s) := by
  have h76 := z76 W H hk
  obtain ⟨R, h, S⟩ := H
  have hL := S.1
  unfold zf_77
  rw [h76, zC_zi]
  refine ⟨fun c => ?_, fun c => ?_⟩
  · have f := (S.nd hk).f W c.1
    have pa := S.pa hk c.1
    rw [if_neg c.1, if_neg c.2.1, if_neg c.2.2, zn_ok (by omega), zO_ok R.1 R.2.1, zn_ok (by omega), h.2 k hk.1 hk.2 198 (by decide) (by decide), zn_ok (by omega), R.2.2.2.2.1 468 _ (by decide) (by decide), h.2 k hk.1 hk.2 197 (by decide) (by decide)]
    unfold zf_31
    rw [zg_ok ⟨by omega, by omega⟩, z31_4 h hL.2 (L - (N k 197 + 1)).toNat xfu _ (pa_fu (by omega)) rfl (by omega) (by omega)]
    rfl
  · by_cases c1 : N k 198 = -1
    · rw [if_pos c1, if_pos rfl]
    · rw [if_neg c1]
      by_cases c2 : T 467 (N k 198) = 0
      · rw [if_pos c2]
      · rw [if_neg c2]
        by_cases c3 : T 467 (N k 198) = 61
        · rw [if_pos c3]
        · exact absurd ⟨c1, c2, c3⟩ c
theorem z78 (W : yWT T) (H : cHo r q b T B C n N L w s) {k : Int} (hk : 0 ≤ k ∧ k < L) : (yRl T (N k 198) → zf_78 r k s = zi (yDu T C N L k) s) ∧ (¬ yRl T (N k 198) → zf_78 r k s = zi (N k 196) s) := by
  have h76 := z76 W H hk
  obtain ⟨h1, h2⟩ := z77 W H hk
  obtain ⟨R, h, S⟩ := H
  have hL := S.1
  unfold zf_78
  refine ⟨fun c => ?_, fun c => ?_⟩
  · have f := (S.nd hk).f W c.1
    have rr := yNd_rel W (S.nd hk) c
    obtain ⟨g1, g2, g3, g4, g5⟩ := S.tg W hk c
    have nt := (S.nd g1).1
    have ot := S.of g1
    have hn := R.2.2.2.2.2.2.2.1
    have b8 : T 459 (N k 198) = 8 ∨ T 459 (N k 198) = 16 := by
      obtain ⟨st, i, q1, q2, q3, -⟩ := (S.nd hk).2.resolve_left fun z => c.1 z.1
      have w := (W.2.2 st q2.1 q2.2).2.2 i q3.1 q3.2
      have ty := rr.2.2.2.2.2
      rw [q1] at ty ⊢
      rcases ty with ty | ty | ty
      · exact Or.inl (w.2.2.2.2.2.2.1 (Or.inl ty))
      · exact Or.inr (w.2.2.2.2.2.2.2.1 (Or.inl ty))
      · exact Or.inr (w.2.2.2.2.2.2.2.1 (Or.inr ty))
    rw [h1 c, zC_zi, if_neg (by omega), h76, zC_zi, if_neg c.1, zn_ok (by omega), zn_ok (by omega), zn_ok (by omega), h.2 _ g1.1 g1.2 194 (by decide) (by decide), h.2 _ g1.1 g1.2 195 (by decide) (by decide), h.2 _ g1.1 g1.2 196 (by decide) (by decide), z74 R ot (by omega) nt.2.2 (fun _ => rfl), zC_zi, zO_ok R.1 R.2.1, zn_ok (by omega), h.2 k hk.1 hk.2 198 (by decide) (by decide), zn_ok (by omega), R.2.2.2.2.1 459 _ (by decide) (by decide), z75 (by omega), zC_zi]
    rfl
  · rw [h2 c, zC_zi, if_pos rfl, zn_ok (by omega), h.2 k hk.1 hk.2 196 (by decide) (by decide)]
end
