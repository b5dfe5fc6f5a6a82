/-! the shape of the nodes: N tells the node of each number; a part [lo, hi) of them is a forest whose roots lie in node me -/
/-- these are the nodes from cnt on -/
def yAg (l : List yN) (cnt : Int) (N : Int → yN) : Prop := ∀ (j : Nat) (x : yN), l[j]? = some x → N (cnt + j) = x
def ySm (h : Int → Int) : Nat → Int → Int
  | 0, _ => 0
  | m + 1, k => h k + ySm h m (k + 1)
/-- a node is as its field tells -/
def yNd (T : yT) (B : yB) (n : Int) (x : yN) : Prop := (0 ≤ x 194 ∧ 0 ≤ x 195 ∧ (x 195 = 0 ∨ x 194 + x 195 ≤ n)) ∧ ((x 198 = -1 ∧ x 192 = 0) ∨ ∃ st k, x 198 = 8 * st + k ∧ (0 ≤ st ∧ st < T 449 0) ∧ (0 ≤ k ∧ k < T 453 st) ∧ ((T 458 (x 198) = 65 ∧ x 192 = 0) ∨ (T 458 (x 198) = 91 ∧ x 192 = 1 ∧ 0 ≤ x 196 ∧ x 196 ≤ 200) ∨ (T 458 (x 198) ≠ 65 ∧ T 458 (x 198) ≠ 91 ∧ x 192 = yKd (T 458 (x 198)) ∧ ∃ V, yPl T B n V (x 198) (x 194) = .inr (x 195, x 196))))
/-- a relation -/
abbrev yRl (T : yT) (f : Int) : Prop := f ≠ -1 ∧ T 467 f ≠ 0 ∧ T 467 f ≠ 61
/-- whether node k is wrong, if g tells the node its relation goes to -/
def yWg (T : yT) (B : yB) (N : Int → yN) (g : Int → Int) (k : Int) : Int := if N k 198 = -1 ∨ T 467 (N k 198) = 0 ∨ T 467 (N k 198) = 61 then 0 else if N k 196 = yCut (yDue B (T 467 (N k 198)) (N (g k) 194) (N (g k) 195) (N (g k) 196)) (T 459 (N k 198)) then 0 else 1
def yVg (T : yT) (N : Int → yN) (me lo hi : Int) (g : Int → Int) : Prop := ∀ k, lo ≤ k → k < hi → N k 197 ≠ me → yRl T (N k 198) → (lo ≤ g k ∧ g k < hi) ∧ N (g k) 197 = N k 197 ∧ N (g k) 198 = T 468 (N k 198)
/-- sz tells how many nodes lie in a node, with itself -/
def ySz (N : Int → yN) (lo hi : Int) (sz : Int → Int) : Prop := ∀ i, lo ≤ i → i < hi → (1 ≤ sz i ∧ i + sz i ≤ hi) ∧ (∀ k, i < k → k < i + sz i → i ≤ N k 197) ∧ (∀ k, i + sz i ≤ k → k < hi → N k 197 < i ∨ i + sz i ≤ N k 197) ∧ (∀ k, i ≤ k → k < i + sz i → N k 194 + N k 195 ≤ N i 194 + N i 195) ∧ (∀ k, i + sz i ≤ k → k < hi → N k 192 ≠ 4 → N i 194 + N i 195 ≤ N k 194) ∧ (1 < sz i → N i 192 = 0 ∨ N i 192 = 1 ∧ 1 ≤ N i 196)
/-- the tree: parents, and a node for each field -/
def yPa (T : yT) (N : Int → yN) (lo hi me : Int) (R : Int → Prop) : Prop :=
  (∀ k, lo ≤ k → k < hi → (N k 197 = me ∧ (N k 198 = -1 ∨ R (N k 198))) ∨ (lo ≤ N k 197 ∧ N k 197 < k ∧ (N k 198 ≠ -1 → ∀ q, 8 * (N k 198 / 8) ≤ q → q < 8 * (N k 198 / 8) + T 453 (N k 198 / 8) → ∃ j, (lo ≤ j ∧ j < hi) ∧ N j 197 = N k 197 ∧ N j 198 = q)))
  ∧ (∀ i j, lo ≤ i → i < hi → lo ≤ j → j < hi → N i 197 = N j 197 → N i 198 = N j 198 → N i 198 ≠ -1 → i = j)
  ∧ ∀ f, R f → ∃ j, (lo ≤ j ∧ j < hi) ∧ N j 197 = me ∧ N j 198 = f
/-- where they lie: from pos on, those that are no bits from lb on, to p; bits to ub -/
def yPb (T : yT) (B : yB) (n : Int) (N : Int → yN) (lo hi pos lb p ub : Int) : Prop :=
  ((0 ≤ pos ∧ pos ≤ p ∧ p ≤ ub) ∧ (p = pos ∨ p ≤ n))
  ∧ (∀ k, lo ≤ k → k < hi → yNd T B n (N k))
  ∧ (∀ k, lo ≤ k → k < hi → (pos ≤ N k 194 ∧ N k 194 ≤ p ∧ N k 194 + N k 195 ≤ ub) ∧ (N k 192 ≠ 4 → lb ≤ N k 194 ∧ N k 194 + N k 195 ≤ p))
  ∧ (∀ i k, lo ≤ i → i ≤ k → k < hi → N i 194 ≤ N k 194)
  ∧ ∃ sz, ySz N lo hi sz
/-- what sums over them come to: over the roots, and how many are wrong that are no roots -/
def yPc (T : yT) (B : yB) (N : Int → yN) (lo hi me : Int) (Hs : (Int → Int) → Int) (w : Int) : Prop :=
  (∀ h : Int → Int, h (-1) = 0 → ySm (fun k => if N k 197 = me then h (N k 198) else 0) (hi - lo).toNat lo = Hs h)
  ∧ ∀ g, yVg T N me lo hi g → w = ySm (fun k => if N k 197 = me then 0 else yWg T B N g k) (hi - lo).toNat lo
def yPh (T : yT) (B : yB) (n : Int) (N : Int → yN) (lo hi me pos lb p ub : Int) (R : Int → Prop) (Hs : (Int → Int) → Int) (w : Int) : Prop := yPa T N lo hi me R ∧ yPb T B n N lo hi pos lb p ub ∧ yPc T B N lo hi me Hs w
section
variable {T : yT} {B : yB} {n lo mid hi me pos lb p ub cnt : Int} {N : Int → yN}
theorem yAg.app {l1 l2 : List yN} (h : yAg (l1 ++ l2) cnt N) : yAg l1 cnt N ∧ yAg l2 (cnt + l1.length) N := by
  refine ⟨fun j x hx => ?_, fun j x hx => ?_⟩
  · have hj : j < l1.length := by
      by_cases c : j < l1.length
      · exact c
      · rw [List.getElem?_eq_none (by omega)] at hx
        cases hx
    exact h j x (by rw [List.getElem?_append_left hj]; exact hx)
  · have e := h (l1.length + j) x (by rw [List.getElem?_append_right (by omega), show l1.length + j - l1.length = j by omega]; exact hx)
    rw [← e]
    congr 1
    omega
theorem yAg.cons {x : yN} {l : List yN} (h : yAg (x :: l) cnt N) : N cnt = x ∧ yAg l (cnt + 1) N := by
  refine ⟨?_, fun j y hy => ?_⟩
  · have e := h 0 x rfl
    rw [← e]
    congr 1
    omega
  · have e := h (j + 1) y (by rw [List.getElem?_cons_succ]; exact hy)
    rw [← e]
    congr 1
    omega
theorem ySm_app {h : Int → Int} : ∀ (a b : Nat) (k : Int), ySm h (a + b) k = ySm h a k + ySm h b (k + a)
  | 0, b, k => by
    rw [show 0 + b = b by omega, show k + ((0 : Nat) : Int) = k by omega]
    show _ = 0 + _
    omega
  | a + 1, b, k => by
    rw [show a + 1 + b = a + b + 1 by omega]
    show h k + ySm h (a + b) (k + 1) = h k + ySm h a (k + 1) + _
    rw [ySm_app a b (k + 1), show k + 1 + (a : Int) = k + ((a + 1 : Nat) : Int) by omega]
    omega
theorem ySm_c {h h' : Int → Int} : ∀ (m : Nat) (k : Int), (∀ i, k ≤ i → i < k + m → h i = h' i) → ySm h m k = ySm h' m k
  | 0, _, _ => rfl
  | m + 1, k, e => by
    show h k + ySm h m (k + 1) = h' k + ySm h' m (k + 1)
    rw [e k (by omega) (by omega), ySm_c m (k + 1) fun i i1 i2 => e i (by omega) (by omega)]
theorem ySm_add {h h' : Int → Int} : ∀ (m : Nat) (k : Int), ySm (fun i => h i + h' i) m k = ySm h m k + ySm h' m k
  | 0, _ => rfl
  | m + 1, k => by
    show h k + h' k + ySm _ m (k + 1) = h k + ySm h m (k + 1) + (h' k + ySm h' m (k + 1))
    rw [ySm_add m (k + 1)]
    omega
theorem ySm_0 {h : Int → Int} : ∀ (m : Nat) (k : Int), (∀ i, k ≤ i → i < k + m → h i = 0) → ySm h m k = 0
  | 0, _, _ => rfl
  | m + 1, k, e => by
    show h k + ySm h m (k + 1) = 0
    rw [e k (by omega) (by omega), ySm_0 m (k + 1) fun i i1 i2 => e i (by omega) (by omega)]
    rfl
theorem ySm_mid {h : Int → Int} (h1 : lo ≤ mid) (h2 : mid ≤ hi) : ySm h (hi - lo).toNat lo = ySm h (mid - lo).toNat lo + ySm h (hi - mid).toNat mid := by
  rw [show (hi - lo).toNat = (mid - lo).toNat + (hi - mid).toNat by omega, ySm_app, show lo + ((mid - lo).toNat : Int) = mid by omega]
/-- a relation goes to a field of its structure -/
theorem yNd_rel {x : yN} (W : yWT T) (h : yNd T B n x) (r : yRl T (x 198)) : (0 ≤ x 198 ∧ x 198 < 48) ∧ (8 * (x 198 / 8) ≤ T 468 (x 198) ∧ T 468 (x 198) < 8 * (x 198 / 8) + T 453 (x 198 / 8)) ∧ T 468 (x 198) ≠ x 198 ∧ (T 467 (x 198) = 35 ∨ T 467 (x 198) = 37 ∨ T 467 (x 198) = 43 ∨ T 467 (x 198) = 94) ∧ (T 467 (x 198) = 37 → T 458 (T 468 (x 198)) = 91) ∧ (T 458 (x 198) = 98 ∨ T 458 (x 198) = 119 ∨ T 458 (x 198) = 87) := by
  rcases h.2 with h | ⟨st, k, h1, h2, h3, -⟩
  · exact absurd h.1 r.1
  · obtain ⟨w1, w2, w3⟩ := W
    obtain ⟨a1, a2, a3⟩ := w3 st h2.1 h2.2
    have w := (a3 k h3.1 h3.2).2.2.2.2.2.2.2.2
    rw [← h1] at w
    have e : x 198 / 8 = st := by omega
    rw [e]
    rcases w with w | ⟨w4, w | ⟨w5, w6, w7, w8, w9⟩⟩
    · exact absurd w r.2.1
    · exact absurd w r.2.2
    · exact ⟨by omega, ⟨w6, w7⟩, w8, w5, w9, w4⟩
theorem yPa.app {R1 R2 : Int → Prop} (a : yPa T N lo mid me R1) (b : yPa T N mid hi me R2) (h1 : lo ≤ mid) (h2 : mid ≤ hi) (hm : me < lo) (hR : ∀ f, R1 f → R2 f → False) : yPa T N lo hi me (fun f => R1 f ∨ R2 f) := by
  obtain ⟨a1, a2, a3⟩ := a
  obtain ⟨b1, b2, b3⟩ := b
  have cross : ∀ i j, lo ≤ i → i < mid → mid ≤ j → j < hi → N i 197 = N j 197 → N i 198 = N j 198 → N i 198 ≠ -1 → False := fun i j i1 i2 j1 j2 e1 e2 e3 => by
    rcases a1 i i1 i2 with ⟨c1, c2⟩ | ⟨c1, c2, c3⟩
    · rcases b1 j j1 j2 with ⟨d1, d2⟩ | ⟨d1, d2, d3⟩
      · rcases c2 with c2 | c2
        · exact e3 c2
        · rcases d2 with d2 | d2
          · exact e3 (e2.trans d2)
          · exact hR _ c2 (by rw [e2]; exact d2)
      · omega
    · rcases b1 j j1 j2 with ⟨d1, d2⟩ | ⟨d1, d2, d3⟩ <;> omega
  refine ⟨fun k k1 k2 => ?_, fun i j i1 i2 j1 j2 e1 e2 e3 => ?_, fun f hf => ?_⟩
  · by_cases c : k < mid
    · rcases a1 k k1 c with ⟨c1, c2⟩ | ⟨c1, c2, c3⟩
      · exact Or.inl ⟨c1, c2.elim Or.inl fun z => Or.inr (Or.inl z)⟩
      · refine Or.inr ⟨c1, c2, fun z q q1 q2 => ?_⟩
        obtain ⟨j, j1, j2, j3⟩ := c3 z q q1 q2
        exact ⟨j, ⟨j1.1, by omega⟩, j2, j3⟩
    · rcases b1 k (by omega) k2 with ⟨c1, c2⟩ | ⟨c1, c2, c3⟩
      · exact Or.inl ⟨c1, c2.elim Or.inl fun z => Or.inr (Or.inr z)⟩
      · refine Or.inr ⟨by omega, c2, fun z q q1 q2 => ?_⟩
        obtain ⟨j, j1, j2, j3⟩ := c3 z q q1 q2
        exact ⟨j, ⟨by omega, j1.2⟩, j2, j3⟩
  · by_cases c : i < mid
    · by_cases d : j < mid
      · exact a2 i j i1 c j1 d e1 e2 e3
      · exact (cross i j i1 c (by omega) j2 e1 e2 e3).elim
    · by_cases d : j < mid
      · exact (cross j i j1 d (by omega) i2 e1.symm e2.symm (by rw [← e2]; exact e3)).elim
      · exact b2 i j (by omega) i2 (by omega) j2 e1 e2 e3
  · rcases hf with hf | hf
    · obtain ⟨j, j1, j2, j3⟩ := a3 f hf
      exact ⟨j, ⟨j1.1, by omega⟩, j2, j3⟩
    · obtain ⟨j, j1, j2, j3⟩ := b3 f hf
      exact ⟨j, ⟨by omega, j1.2⟩, j2, j3⟩
theorem yPb.app {pos2 lb2 p2 ub2 : Int} {R2 : Int → Prop} (a : yPb T B n N lo mid pos lb p ub) (b : yPb T B n N mid hi pos2 lb2 p2 ub2) (t : yPa T N mid hi me R2) (h1 : lo ≤ mid) (h2 : mid ≤ hi) (hm : me < lo) (q1 : p ≤ pos2 ∧ lb ≤ lb2 ∧ ub ≤ lb2 ∧ ub ≤ ub2) (q2 : p2 = pos ∨ p2 ≤ n) : yPb T B n N lo hi pos lb p2 ub2 := by
  obtain ⟨a0, a1, a2, a3, sa, a4⟩ := a
  obtain ⟨b0, b1, b2, b3, sb, b4⟩ := b
  refine ⟨⟨by omega, q2⟩, fun k k1 k2 => ?_, fun k k1 k2 => ?_, fun i k i1 ik k2 => ?_, fun i => if i < mid then sa i else sb i, fun i i1 i2 => ?_⟩
  · by_cases c : k < mid
    · exact a1 k k1 c
    · exact b1 k (by omega) k2
  · by_cases c : k < mid
    · have z := a2 k k1 c
      refine ⟨by omega, fun y => ?_⟩
      have := z.2 y
      omega
    · have z := b2 k (by omega) k2
      refine ⟨by omega, fun y => ?_⟩
      have := z.2 y
      omega
  · by_cases c : k < mid
    · exact a3 i k i1 ik c
    · by_cases d : i < mid
      · have z1 := (a2 i i1 d).1
        have z2 := (b2 k (by omega) k2).1
        omega
      · exact b3 i k (by omega) ik k2
  · by_cases c : i < mid
    · obtain ⟨s1, s2, s3, s4, s5, s6⟩ := a4 i i1 c
      simp only [if_pos c]
      refine ⟨⟨s1.1, by omega⟩, s2, fun k k1 k2 => ?_, s4, fun k k1 k2 k4 => ?_, s6⟩
      · by_cases d : k < mid
        · exact s3 k k1 d
        · rcases t.1 k (by omega) k2 with z | z
          · left
            omega
          · right
            omega
      · by_cases d : k < mid
        · exact s5 k k1 d k4
        · have z1 := (a2 i i1 c).1
          have z2 := (b2 k (by omega) k2).2 k4
          omega
    · obtain ⟨s1, s2, s3, s4, s5, s6⟩ := b4 i (by omega) i2
      simp only [if_neg c]
      exact ⟨⟨s1.1, by omega⟩, s2, s3, s4, s5, s6⟩
theorem yPc.app {R1 R2 : Int → Prop} {H1 H2 : (Int → Int) → Int} {w1 w2 pos2 lb2 p2 ub2 : Int} (W : yWT T) (ta : yPa T N lo mid me R1) (tb : yPa T N mid hi me R2) (ga : yPb T B n N lo mid pos lb p ub) (gb : yPb T B n N mid hi pos2 lb2 p2 ub2) (a : yPc T B N lo mid me H1 w1) (b : yPc T B N mid hi me H2 w2) (h1 : lo ≤ mid) (h2 : mid ≤ hi) (hm : me < lo) (hR : ∀ f, R1 f → R2 f → False) : yPc T B N lo hi me (fun h => H1 h + H2 h) (w1 + w2) := by
  have t := ta.app tb h1 h2 hm hR
  refine ⟨fun h h0 => ?_, fun g hg => ?_⟩
  · rw [ySm_mid h1 h2, a.1 h h0, b.1 h h0]
  · rw [ySm_mid h1 h2]
    -- the target lies in the same part
    have same : ∀ k, lo ≤ k → k < hi → N k 197 ≠ me → yRl T (N k 198) → ∀ lo' hi' : Int, lo ≤ lo' → hi' ≤ hi → (∃ j, (lo' ≤ j ∧ j < hi') ∧ N j 197 = N k 197 ∧ N j 198 = T 468 (N k 198)) → lo' ≤ g k ∧ g k < hi' := fun k k1 k2 km kr lo' hi' l1 l2 ⟨j, j1, j2, j3⟩ => by
      obtain ⟨g1, g2, g3⟩ := hg k k1 k2 km kr
      have nd : yNd T B n (N k) := by
        by_cases c : k < mid
        · exact ga.2.1 k k1 c
        · exact gb.2.1 k (by omega) k2
      have rr := yNd_rel W nd kr
      have : g k = j := t.2.1 (g k) j g1.1 g1.2 (by omega) (by omega) (g2.trans j2.symm) (g3.trans j3.symm) (by omega)
      omega
    have v1 : yVg T N me lo mid g := fun k k1 k2 km kr => by
      obtain ⟨g1, g2, g3⟩ := hg k k1 (by omega) km kr
      have rr := yNd_rel W (ga.2.1 k k1 k2) kr
      refine ⟨same k k1 (by omega) km kr lo mid (Int.le_refl _) h2 ?_, g2, g3⟩
      rcases ta.1 k k1 k2 with z | ⟨z1, z2, z3⟩
      · exact absurd z.1 km
      · exact z3 kr.1 _ rr.2.1.1 rr.2.1.2
    have v2 : yVg T N me mid hi g := fun k k1 k2 km kr => by
      obtain ⟨g1, g2, g3⟩ := hg k (by omega) k2 km kr
      have rr := yNd_rel W (gb.2.1 k k1 k2) kr
      refine ⟨same k (by omega) k2 km kr mid hi h1 (Int.le_refl _) ?_, g2, g3⟩
      rcases tb.1 k k1 k2 with z | ⟨z1, z2, z3⟩
      · exact absurd z.1 km
      · exact z3 kr.1 _ rr.2.1.1 rr.2.1.2
    rw [a.2 g v1, b.2 g v2]
theorem yPh.app {R1 R2 : Int → Prop} {H1 H2 : (Int → Int) → Int} {w1 w2 pos2 lb2 p2 ub2 : Int} (W : yWT T) (a : yPh T B n N lo mid me pos lb p ub R1 H1 w1) (b : yPh T B n N mid hi me pos2 lb2 p2 ub2 R2 H2 w2) (h1 : lo ≤ mid) (h2 : mid ≤ hi) (hm : me < lo) (hR : ∀ f, R1 f → R2 f → False) (q1 : p ≤ pos2 ∧ lb ≤ lb2 ∧ ub ≤ lb2 ∧ ub ≤ ub2) (q2 : p2 = pos ∨ p2 ≤ n) : yPh T B n N lo hi me pos lb p2 ub2 (fun f => R1 f ∨ R2 f) (fun h => H1 h + H2 h) (w1 + w2) :=
  ⟨a.1.app b.1 h1 h2 hm hR, a.2.1.app b.2.1 b.1 h1 h2 hm q1 q2, yPc.app W a.1 b.1 a.2.1 b.2.1 a.2.2 b.2.2 h1 h2 hm hR⟩
theorem yPh.cg {R R' : Int → Prop} {H H' : (Int → Int) → Int} {w : Int} (a : yPh T B n N lo hi me pos lb p ub R H w) (hR : ∀ f, R f ↔ R' f) (hH : ∀ h : Int → Int, h (-1) = 0 → H h = H' h) : yPh T B n N lo hi me pos lb p ub R' H' w := by
  obtain ⟨⟨a1, a2, a3⟩, b, c1, c2⟩ := a
  refine ⟨⟨fun k k1 k2 => ?_, a2, fun f hf => a3 f ((hR f).mpr hf)⟩, b, fun h h0 => (c1 h h0).trans (hH h h0), c2⟩
  rcases a1 k k1 k2 with ⟨z1, z2⟩ | z
  · exact Or.inl ⟨z1, z2.elim Or.inl fun y => Or.inr ((hR _).mp y)⟩
  · exact Or.inr z
end
