/-! trees: a node and what lies in it -/
/-- the roots are as E tells of fields -/
def yRE (T : yT) (N : Int → yN) (lo hi me s K0 K1 : Int) (E : yE) : Prop := ∀ j, lo ≤ j → j < hi → N j 197 = me → ∀ k, K0 ≤ k → k < K1 → N j 198 = 8 * s + k → N j 194 = E 328 k ∧ N j 195 = E 329 k ∧ (T 458 (8 * s + k) ≠ 65 → N j 196 = E 330 k)
section
variable {T : yT} {B : yB} {n hi me pos lb p ub cnt pa f s w wr : Int} {N : Int → yN} {R : Int → Prop} {Hs : (Int → Int) → Int} {E : yE}
theorem yPh.nil (h0 : 0 ≤ pos ∧ pos ≤ ub) : yPh T B n N cnt cnt me pos lb pos ub (fun _ => False) (fun _ => 0) 0 := by
  refine ⟨⟨fun k k1 k2 => by omega, fun i j i1 i2 => by omega, fun f hf => hf.elim⟩, ⟨⟨by omega, Or.inl rfl⟩, fun k k1 k2 => by omega, fun k k1 k2 => by omega, fun i k i1 ik k2 => by omega, fun _ => 1, fun i i1 i2 => by omega⟩, fun h h0 => ?_, fun g hg => ?_⟩
  · rw [show (cnt - cnt).toNat = 0 by omega]
    rfl
  · rw [show (cnt - cnt).toNat = 0 by omega]
    rfl
theorem yPh.leaf (hx : N cnt 197 = pa ∧ N cnt 198 = f ∧ N cnt 194 = pos) (hp : pa < cnt) (d : yNd T B n (N cnt)) (h0 : 0 ≤ pos ∧ pos ≤ p ∧ p ≤ ub) (h1 : p = pos ∨ p ≤ n) (h2 : pos + N cnt 195 ≤ ub) (h3 : N cnt 192 ≠ 4 → lb ≤ pos ∧ pos + N cnt 195 ≤ p) : yPh T B n N cnt (cnt + 1) pa pos lb p ub (fun q => q = f ∧ f ≠ -1) (fun h => h f) 0 := by
  have only : ∀ k, cnt ≤ k → k < cnt + 1 → k = cnt := fun k k1 k2 => by omega
  refine ⟨⟨fun k k1 k2 => ?_, fun i j i1 i2 j1 j2 _ _ _ => by omega, fun q hq => ⟨cnt, by omega, hx.1, by rw [hq.1]; exact hx.2.1⟩⟩, ⟨⟨h0, h1⟩, fun k k1 k2 => by rw [only k k1 k2]; exact d, fun k k1 k2 => ?_, fun i k i1 ik k2 => ?_, fun _ => 1, fun i i1 i2 => ?_⟩, fun h h0 => ?_, fun g hg => ?_⟩
  · rw [only k k1 k2]
    refine Or.inl ⟨hx.1, ?_⟩
    rw [hx.2.1]
    by_cases c : f = -1
    · exact Or.inl c
    · exact Or.inr ⟨rfl, c⟩
  · rw [only k k1 k2, hx.2.2]
    exact ⟨⟨Int.le_refl _, h0.2.1, h2⟩, h3⟩
  · rw [only i i1 (by omega), only k (by omega) k2]
    exact Int.le_refl _
  · dsimp only
    refine ⟨⟨Int.le_refl _, by omega⟩, fun k k1 k2 => by omega, fun k k1 k2 => by omega, fun k k1 k2 => ?_, fun k k1 k2 => by omega, fun z => absurd z (by decide)⟩
    have e : k = i := by omega
    rw [e]
    exact Int.le_refl _
  · rw [show (cnt + 1 - cnt).toNat = 1 by omega]
    show (if N cnt 197 = pa then h (N cnt 198) else 0) + 0 = h f
    rw [if_pos hx.1, hx.2.1]
    omega
  · rw [show (cnt + 1 - cnt).toNat = 1 by omega]
    show 0 = (if N cnt 197 = pa then 0 else _) + 0
    rw [if_pos hx.1]
    rfl
theorem yPh.tree (a : yPh T B n N (cnt + 1) hi cnt pos pos p p R Hs w) (hhi : cnt + 1 ≤ hi) (hx : N cnt 197 = pa ∧ N cnt 198 = f ∧ N cnt 194 = pos ∧ N cnt 195 = p - pos) (hp : pa < cnt) (d : yNd T B n (N cnt)) (kd : cnt + 1 < hi → N cnt 192 = 0 ∨ N cnt 192 = 1 ∧ 1 ≤ N cnt 196) (hR : ∀ q, R q → ∃ s, (8 * s ≤ q ∧ q < 8 * s + T 453 s) ∧ T 453 s ≤ 8 ∧ ∀ q', 8 * s ≤ q' → q' < 8 * s + T 453 s → R q') (hw : ∀ g, yVg T N pa cnt hi g → ySm (fun k => if N k 197 = cnt then yWg T B N g k else 0) (hi - (cnt + 1)).toNat (cnt + 1) = wr) : yPh T B n N cnt hi pa pos pos p p (fun q => q = f ∧ f ≠ -1) (fun h => h f) (w + wr) := by
  obtain ⟨⟨a1, a2, a3⟩, ⟨b0, b1, b2, b3, sz, b4⟩, c1, c2⟩ := a
  obtain ⟨x1, x2, x3, x4⟩ := hx
  have inn : ∀ k, cnt + 1 ≤ k → k < hi → cnt ≤ N k 197 ∧ N k 197 < k := fun k k1 k2 => by
    rcases a1 k k1 k2 with z | z <;> omega
  refine ⟨⟨fun k k1 k2 => ?_, fun i j i1 i2 j1 j2 e1 e2 e3 => ?_, fun q hq => ⟨cnt, by omega, x1, by rw [hq.1]; exact x2⟩⟩, ⟨b0, fun k k1 k2 => ?_, fun k k1 k2 => ?_, fun i k i1 ik k2 => ?_, fun i => if i = cnt then hi - cnt else sz i, fun i i1 i2 => ?_⟩, fun h h0 => ?_, fun g hg => ?_⟩
  · by_cases c : k = cnt
    · rw [c]
      refine Or.inl ⟨x1, ?_⟩
      rw [x2]
      by_cases c2 : f = -1
      · exact Or.inl c2
      · exact Or.inr ⟨rfl, c2⟩
    · rcases a1 k (by omega) k2 with ⟨z1, z2⟩ | ⟨z1, z2, z3⟩
      · refine Or.inr ⟨by omega, by omega, fun y q q1 q2 => ?_⟩
        rcases z2 with z2 | z2
        · exact absurd z2 y
        · obtain ⟨s, s1, s2, s3⟩ := hR _ z2
          have e : N k 198 / 8 = s := by omega
          rw [e] at q1 q2
          obtain ⟨j, j1, j2, j3⟩ := a3 q (s3 q q1 q2)
          exact ⟨j, ⟨by omega, j1.2⟩, j2.trans z1.symm, j3⟩
      · refine Or.inr ⟨by omega, z2, fun y q q1 q2 => ?_⟩
        obtain ⟨j, j1, j2, j3⟩ := z3 y q q1 q2
        exact ⟨j, ⟨by omega, j1.2⟩, j2, j3⟩
  · by_cases c : i = cnt
    · by_cases c2 : j = cnt
      · omega
      · have := inn j (by omega) j2
        rw [c, x1] at e1
        omega
    · by_cases c2 : j = cnt
      · have := inn i (by omega) i2
        rw [c2, x1] at e1
        omega
      · exact a2 i j (by omega) i2 (by omega) j2 e1 e2 e3
  · by_cases c : k = cnt
    · rw [c]
      exact d
    · exact b1 k (by omega) k2
  · by_cases c : k = cnt
    · rw [c, x3, x4]
      refine ⟨by omega, fun _ => by omega⟩
    · exact b2 k (by omega) k2
  · by_cases c : i = cnt
    · by_cases c2 : k = cnt
      · rw [c, c2]
        exact Int.le_refl _
      · have := (b2 k (by omega) k2).1
        rw [c, x3]
        omega
    · exact b3 i k (by omega) ik k2
  · by_cases c : i = cnt
    · simp only [if_pos c]
      subst c
      refine ⟨by omega, fun k k1 k2 => (inn k (by omega) (by omega)).1, fun k k1 k2 => by omega, fun k k1 k2 => ?_, fun k k1 k2 => by omega, fun z => kd (by omega)⟩
      by_cases c2 : k = i
      · rw [c2]
        exact Int.le_refl _
      · have := (b2 k (by omega) (by omega)).1
        rw [x3, x4]
        omega
    · simp only [if_neg c]
      exact b4 i (by omega) i2
  · rw [show (hi - cnt).toNat = (hi - (cnt + 1)).toNat + 1 by omega]
    show (if N cnt 197 = pa then h (N cnt 198) else 0) + ySm _ _ (cnt + 1) = h f
    rw [if_pos x1, x2, ySm_0 _ _ fun i i1 i2 => if_neg (by have := inn i i1 (by omega); omega)]
    omega
  · rw [show (hi - cnt).toNat = (hi - (cnt + 1)).toNat + 1 by omega]
    show w + wr = (if N cnt 197 = pa then 0 else yWg T B N g cnt) + ySm _ _ (cnt + 1)
    have e1 : ySm (fun k => if N k 197 = pa then 0 else yWg T B N g k) (hi - (cnt + 1)).toNat (cnt + 1) = ySm (fun k => (if N k 197 = cnt then yWg T B N g k else 0) + (if N k 197 = cnt then 0 else yWg T B N g k)) (hi - (cnt + 1)).toNat (cnt + 1) := ySm_c _ _ fun i i1 i2 => by
      have := inn i i1 (by omega)
      rw [if_neg (show ¬ N i 197 = pa by omega)]
      by_cases c : N i 197 = cnt
      · rw [if_pos c, if_pos c]
        omega
      · rw [if_neg c, if_neg c]
        omega
    have v : yVg T N cnt (cnt + 1) hi g := fun k k1 k2 km kr => by
      have := inn k k1 k2
      obtain ⟨g1, g2, g3⟩ := hg k (by omega) k2 (by omega) kr
      refine ⟨⟨?_, g1.2⟩, g2, g3⟩
      by_cases c : g k = cnt
      · rw [c, x1] at g2
        omega
      · omega
    rw [if_pos x1, e1, ySm_add, hw g hg, ← c2 g v]
    omega
/-- the sum over fields is yWr -/
def yHw (T : yT) (B : yB) (E : yE) (s : Int) (f : Int) : Int := if f = -1 ∨ T 467 f = 0 ∨ T 467 f = 61 then 0 else if E 330 (f - 8 * s) = yCut (yDue B (T 467 f) (E 328 (T 468 f % 8)) (E 329 (T 468 f % 8)) (E 330 (T 468 f % 8))) (T 459 f) then 0 else 1
theorem yWr_h (hs : 0 ≤ s) : ∀ (m : Nat) (k : Int), 0 ≤ k → yWr T B E s m k = ySm (fun k => yHw T B E s (8 * s + k)) m k
  | 0, _, _ => rfl
  | m + 1, k, k0 => by
    show _ = yHw T B E s (8 * s + k) + ySm _ m (k + 1)
    unfold yWr
    rw [yWr_h hs m (k + 1) (by omega)]
    congr 1
    unfold yHw
    rw [show 8 * s + k - 8 * s = k by omega]
    by_cases c : T 467 (8 * s + k) = 0 ∨ T 467 (8 * s + k) = 61
    · rw [if_pos c, if_pos (Or.inr c)]
    · rw [if_neg c, if_neg (show ¬ (8 * s + k = -1 ∨ T 467 (8 * s + k) = 0 ∨ T 467 (8 * s + k) = 61) from fun z => Or.elim z (fun y => by omega) c)]
/-- the roots of a structure that are wrong -/
theorem yPh.wrg (W : yWT T) {m : Nat} (hs : (0 ≤ s ∧ s < T 449 0) ∧ (m : Int) = T 453 s) (a : yPh T B n N (cnt + 1) hi cnt pos lb p ub (fun q => 8 * s ≤ q ∧ q < 8 * s + m) (fun h => ySm (fun k => h (8 * s + k)) m 0) w) (hE : yRE T N (cnt + 1) hi cnt s 0 m E) (hp : pa < cnt) (hx : N cnt 197 = pa) (h8 : m ≤ 8) : ∀ g, yVg T N pa cnt hi g → ySm (fun k => if N k 197 = cnt then yWg T B N g k else 0) (hi - (cnt + 1)).toNat (cnt + 1) = yWr T B E s m 0 := by
  intro g hg
  obtain ⟨⟨a1, a2, a3⟩, b, c1, c2⟩ := a
  have e0 : ySm (fun k => if N k 197 = cnt then yHw T B E s (N k 198) else 0) (hi - (cnt + 1)).toNat (cnt + 1) = ySm (fun k => yHw T B E s (8 * s + k)) m 0 := c1 (yHw T B E s) (if_pos (Or.inl rfl))
  rw [yWr_h hs.1.1 m 0 (Int.le_refl _), ← e0]
  refine ySm_c _ _ fun k k1 k2 => ?_
  by_cases c : N k 197 = cnt
  · rw [if_pos c, if_pos c]
    unfold yWg yHw
    by_cases r : N k 198 = -1 ∨ T 467 (N k 198) = 0 ∨ T 467 (N k 198) = 61
    · rw [if_pos r, if_pos r]
    · rw [if_neg r, if_neg r]
      have kr : yRl T (N k 198) := ⟨fun z => r (Or.inl z), fun z => r (Or.inr (Or.inl z)), fun z => r (Or.inr (Or.inr z))⟩
      have rr := yNd_rel W (b.2.1 k k1 (by omega)) kr
      obtain ⟨g1, g2, g3⟩ := hg k (by omega) (by omega) (by omega) kr
      have fr : 8 * s ≤ N k 198 ∧ N k 198 < 8 * s + m := by
        rcases a1 k k1 (by omega) with ⟨z1, z2⟩ | ⟨z1, z2, z3⟩
        · rcases z2 with z2 | z2
          · exact absurd z2 kr.1
          · exact z2
        · omega
      have es : N k 198 / 8 = s := by omega
      rw [es] at rr
      have gk : cnt + 1 ≤ g k := by
        by_cases z : g k = cnt
        · rw [z, hx] at g2
          omega
        · omega
      have e1 := hE k k1 (by omega) c (N k 198 - 8 * s) (by omega) (by omega) (by omega)
      have e2 := hE (g k) gk g1.2 (g2.trans c) (T 468 (N k 198) - 8 * s) (by omega) (by omega) (by omega)
      rw [show 8 * s + (N k 198 - 8 * s) = N k 198 by omega] at e1
      rw [show 8 * s + (T 468 (N k 198) - 8 * s) = T 468 (N k 198) by omega] at e2
      have em : T 468 (N k 198) % 8 = T 468 (N k 198) - 8 * s := by omega
      have ed : yDue B (T 467 (N k 198)) (N (g k) 194) (N (g k) 195) (N (g k) 196) = yDue B (T 467 (N k 198)) (E 328 (T 468 (N k 198) % 8)) (E 329 (T 468 (N k 198) % 8)) (E 330 (T 468 (N k 198) % 8)) := by
        rw [em, e2.1, e2.2.1]
        by_cases d : T 458 (T 468 (N k 198)) = 65
        · unfold yDue
          have : T 467 (N k 198) ≠ 37 := fun z => by
            have := rr.2.2.2.2.1 z
            omega
          rw [if_neg this, if_neg this]
        · rw [e2.2.2 d]
      rw [ed, e1.2.2 (by omega)]
  · rw [if_neg c, if_neg c]
end
