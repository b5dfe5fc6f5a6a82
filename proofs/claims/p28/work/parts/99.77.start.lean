/-! THE LAW'S start: the text of the template, its numbers, the bytes of the file -/
section
variable {w w' : wW} {A A' : aA} {B F Z : yB} {s u : zS} {m M : Nat} {R : Int → zS → Prop} {L : Nat} {xs : Nat → Int32}
theorem wP_mono (K : wK w) {i : Nat} : ∀ d : Nat, i + d ≤ wN w → wP w i + d ≤ wP w (i + d)
  | 0, _ => by
    show wP w i + ((0 : Nat) : Int) ≤ wP w i
    omega
  | d + 1, h => by
    have := wP_mono K (i := i) d (by omega)
    have hn := K.n
    have e := K.2.2.1 (i + d) (by omega)
    show wP w i + ((d + 1 : Nat) : Int) ≤ wP w (i + d) + 1 + w.2.1 (56 + ((i + d : Nat) : Int))
    omega
/-- a byte of the elements -/
def elB (w : wW) (p : Int) : Nat → Int
  | 0 => 0
  | m + 1 => if wP w m ≤ p then (if p = wP w m then w.2.1 (56 + m) else w.2.1 (8 * m + (p - wP w m - 1))) else elB w p m
theorem elB_at (K : wK w) {p : Int} {i : Nat} (h0 : wP w i ≤ p) (h1 : p < wP w (i + 1)) : ∀ m : Nat, i < m → m ≤ wN w → elB w p m = if p = wP w i then w.2.1 (56 + i) else w.2.1 (8 * i + (p - wP w i - 1))
  | 0, h, _ => by omega
  | m + 1, h, hm => by
    unfold elB
    by_cases c : i = m
    · subst c
      rw [if_pos h0]
    · have := wP_mono K (i := i + 1) (m - (i + 1)) (by omega)
      rw [show i + 1 + (m - (i + 1)) = m by omega] at this
      rw [if_neg (by omega)]
      exact elB_at K h0 h1 m (by omega) (by omega)
def bB (w : wW) : yB := fun p => if p < 3 then (if p = 0 then 77 else if p = 1 then w.2.2 0 else w.2.2 1) else if p < 3 + w.2.2 0 then w.1 (p - 3) else if p < wP w (wN w) then elB w p (wN w) else if p = wP w (wN w) + 2 then w.2.2 2 else if p = wP w (wN w) + 3 then 200 else 201
theorem bB_B (K : wK w) : wB w (bB w) := by
  have k1 := K.1
  have hn := K.n
  have hb := wP_b K (wN w) (Nat.le_refl _)
  refine ⟨rfl, rfl, rfl, fun j j0 j1 => ?_, fun i hi => ?_, ?_, ?_, ?_⟩
  · show (if 3 + j < 3 then _ else if 3 + j < 3 + w.2.2 0 then w.1 (3 + j - 3) else _) = w.1 j
    rw [if_neg (by omega), if_pos (by omega), show 3 + j - 3 = j by omega]
  · have e := K.2.2.1 i hi
    have b := wP_b K i (by omega)
    have p3 : wP w (i + 1) = wP w i + 1 + w.2.1 (56 + i) := rfl
    have le := wP_mono K (i := i + 1) (wN w - (i + 1)) (by omega)
    rw [show i + 1 + (wN w - (i + 1)) = wN w by omega] at le
    have all : ∀ p, wP w i ≤ p → p < wP w (i + 1) → bB w p = if p = wP w i then w.2.1 (56 + i) else w.2.1 (8 * i + (p - wP w i - 1)) := fun p h0 h1 => by
      unfold bB
      rw [if_neg (by omega), if_neg (by omega), if_pos (by omega)]
      exact elB_at K h0 h1 (wN w) (by omega) (Nat.le_refl _)
    refine ⟨?_, fun k k0 k1 => ?_⟩
    · rw [all _ (Int.le_refl _) (by omega), if_pos rfl]
    · rw [all _ (by omega) (by omega), if_neg (by omega), show wP w i + 1 + k - wP w i - 1 = k by omega]
  · unfold bB
    rw [if_neg (by omega), if_neg (by omega), if_neg (by omega), if_pos rfl]
  · unfold bB
    rw [if_neg (by omega), if_neg (by omega), if_neg (by omega), if_neg (by omega), if_pos rfl]
  · unfold bB
    rw [if_neg (by omega), if_neg (by omega), if_neg (by omega), if_neg (by omega), if_neg (by omega)]
theorem exB (K : wK w) : ∃ B, wB w B ∧ LSm B (wP w) (w.2.2 0) (wN w) := by
  obtain ⟨Z, -, -, s, z⟩ := ED tpU_H (wLY K (bB_B K))
  exact ⟨Z, wB_c K (bB_B K) z, s⟩
/-- only the bytes of the file matter -/
theorem wB_r (K : wK w) (b : wB w F) (e : ∀ i, 0 ≤ i → i < wP w (wN w) + 5 → Z i = F i) : wB w Z := by
  have Y := wLY K b
  have hn := K.n
  obtain ⟨b0, b1, b2, b3, b4, b5, b6, b7⟩ := id b
  have hb := wP_b K (wN w) (Nat.le_refl _)
  have k0 := K.1
  refine ⟨?_, ?_, ?_, fun j j0 j1 => ?_, fun i hi => ?_, ?_, ?_, ?_⟩
  · rw [e _ (by omega) (by omega), b0]
  · rw [e _ (by omega) (by omega), b1]
  · rw [e _ (by omega) (by omega), b2]
  · rw [e _ (by omega) (by omega), b3 j j0 j1]
  · obtain ⟨e1, e2⟩ := b4 i hi
    have p1 := wP_le K b (i := i) (j := wN w) (by omega) (Nat.le_refl _)
    have p2 := wP_b K i (by omega)
    have p4 := K.2.2.1 i hi
    refine ⟨?_, fun k k0 k1 => ?_⟩
    · rw [e _ (by omega) (by omega), e1]
    · rw [e _ (by omega) (by omega), e2 k k0 k1]
  · rw [e _ (by omega) (by omega), b5]
  · rw [e _ (by omega) (by omega), b6]
  · rw [e _ (by omega) (by omega), b7]
theorem LSm_r (K : wK w) (b : LSm F (wP w) (w.2.2 0) (wN w)) (e : ∀ i, 0 ≤ i → i < wP w (wN w) + 5 → Z i = F i) : LSm Z (wP w) (w.2.2 0) (wN w) := by
  have hb := wP_b K (wN w) (Nat.le_refl _)
  have k0 := K.1
  constructor
  · rw [e _ (by omega) (by omega), b.1, yBy_c (F := Z) (B := F) _ _ _ fun i i1 i2 => e i (by omega) (by omega)]
  · rw [e _ (by omega) (by omega), b.2, yBy_c (F := Z) (B := F) _ _ _ fun i i1 i2 => e i (by omega) (by omega)]
theorem aByte_v {v : Int} (h : 0 ≤ v ∧ v ≤ 255) : aByte (Int32.ofInt v).toInt64 0 = v := by
  have hx : ∀ y : Fin 256, aByte (Int32.ofInt (y.val : Int)).toInt64 0 = (y.val : Int) := by decide +kernel
  have := hx ⟨v.toNat, by omega⟩
  rw [show ((⟨v.toNat, by omega⟩ : Fin 256).val : Int) = v by simp; omega] at this
  exact this
/-- a byte is fed; no template is made -/
theorem C105z {v : Int} (h : cR A s) (c : cC A s) (ok : aOK A) (hv : 0 ≤ v ∧ v ≤ 255) (hn : A.1 1 0 < 200) : ∃ u, zf_105 0 (Int32.ofInt v).toInt64 1 s = some (.inl (A.1 1 0 + 1), u) ∧ cR (aFeed (Int32.ofInt v).toInt64 1 A) u ∧ cC (aFeed (Int32.ofInt v).toInt64 1 A) u ∧ cFr s u ∧ u.2 = s.2 := by
  have o1 := ok.1.1
  have e := C105 (x := (Int32.ofInt v).toInt64) (m := 1) h c ok
  unfold sFeed at e
  rw [if_neg (by omega), if_neg (by omega)] at e
  obtain ⟨u, a1, a2, a3, a4, a5⟩ := e
  refine ⟨u, a1, a2, a3, a4, ?_⟩
  obtain ⟨u', b1, -, b3, -⟩ := C105_49 (x := (Int32.ofInt v).toInt64) (n := A.1 1 0) (m := 1) o1.1 ⟨by decide, by omega⟩ (1 - 0 : Int).toNat xfu 0 s (pa_fu (by decide)) rfl (Int.le_refl _) (by decide) (by rw [h.1.1]; omega)
  unfold zf_105 at a1
  rw [if_neg (by decide), if_pos (by decide), h.1.1, zg_ok ⟨by omega, by omega⟩, if_pos (by omega), b1] at a1
  injection a1 with a1
  injection a1 with _ a1
  rw [← a1]
  exact b3
theorem aFeed_1 {v : Int} (hv : 0 ≤ v ∧ v ≤ 255) : (aFeed (Int32.ofInt v).toInt64 1 A).1 1 0 = A.1 1 0 + 1 ∧ (∀ i, i ≠ A.1 1 0 → (aFeed (Int32.ofInt v).toInt64 1 A).1 0 i = A.1 0 i) ∧ (aFeed (Int32.ofInt v).toInt64 1 A).1 0 (A.1 1 0) = v ∧ (∀ (f : Nat) (i : Int), f ≠ 0 → f ≠ 1 → (aFeed (Int32.ofInt v).toInt64 1 A).1 f i = A.1 f i) := by
  refine ⟨rfl, fun i hi => ?_, ?_, fun f i f0 f1 => ?_⟩
  · show (if (0 : Nat) = 0 ∧ A.1 1 0 ≤ i ∧ i < A.1 1 0 + 1 then aByte _ (i - A.1 1 0) else if (0 : Nat) = 1 then A.1 1 0 + 1 else A.1 0 i) = A.1 0 i
    rw [if_neg (by omega), if_neg (by decide)]
  · show (if (0 : Nat) = 0 ∧ A.1 1 0 ≤ A.1 1 0 ∧ A.1 1 0 < A.1 1 0 + 1 then aByte (Int32.ofInt v).toInt64 (A.1 1 0 - A.1 1 0) else if (0 : Nat) = 1 then A.1 1 0 + 1 else A.1 0 (A.1 1 0)) = v
    rw [if_pos (by omega), show A.1 1 0 - A.1 1 0 = 0 by omega, aByte_v hv]
  · show (if f = 0 ∧ A.1 1 0 ≤ i ∧ i < A.1 1 0 + 1 then aByte _ (i - A.1 1 0) else if f = 1 then A.1 1 0 + 1 else A.1 f i) = A.1 f i
    rw [if_neg (fun z => f0 z.1), if_neg f1]
/-- a call that changes what the class holds -/
theorem lq_p_give {v : Int} {G : zR} {K : Int → zS → zR} (h : lQ A w m s) (c : cOut G (.inl v) A' s) (k : ∀ u, lQ A' w (m + 1) u → zw (K v u) R) : zw (zC G K) R := by
  obtain ⟨u, e, r, cc, f, x⟩ := c
  rw [e]
  exact k u (h.of r cc f x)
/-! the bytes of the file are fed -/
def fA (A : aA) (B : yB) (p : Int) : Prop := A.1 1 0 = p ∧ (∀ i, 0 ≤ i → i < p → A.1 0 i = B i) ∧ A.1 522 0 = 1 ∧ tpH (A.2 0) ∧ A.1 387 0 = 0 ∧ A.1 388 0 = -1 ∧ aOK A
theorem l456 (K : wK w) (b : wB w B) (sm : LSm B (wP w) (w.2.2 0) (wN w)) (h3 : w.2.2 3 = 0) : ∀ (j G : Nat) (p : Int) (m : Nat) (A : aA) (s : zS), j < G → p + j = wP w (wN w) + 5 → 0 ≤ p → fA A B p → lQ A w m s → m + j + 1 + 401 * 36 ≤ M → zw (zf_0_456 L xs G 0 0 0 0 1 (wP w (wN w) + 5) p s) fun r u => r = 1 ∧ u.2.2 ≤ M := by
  have hb := wP_b K (wN w) (Nat.le_refl _)
  have hn := K.n
  have k1 := K.1
  have k2 := K.2.1
  intro j
  induction j with
  | zero =>
    intro G p m A s hG hp p0 fa h hM
    obtain ⟨G, rfl⟩ : ∃ M, G = M + 1 := ⟨G - 1, by omega⟩
    obtain ⟨a1, a2, a3, a4, a5, a6, a7⟩ := fa
    unfold zf_0_456
    rw [if_pos (by omega), if_neg (by decide)]
    have c := C106 h.1 a7 h.2.1
    unfold sGive at c
    rw [if_pos (by omega), a5] at c
    refine lq_p_give h c fun u h => ?_
    rw [if_pos rfl]
    have e2 : ∀ i, 0 ≤ i → i < wP w (wN w) + 5 → (aKeep (aTake A)).1 2 i = B i := fun i i0 i1 => by
      rw [aKeep_o (by decide) (by decide) (by decide) (by decide) (by decide)]
      exact a2 i i0 (by omega)
    have ok : aOK (aTake A) := ⟨⟨by show (0 : Int) ≤ 0 ∧ (0 : Int) ≤ 200; decide, fun i i0 i1 => by have i1 : i < 0 := i1; omega⟩, ⟨by show 0 ≤ A.1 1 0 ∧ A.1 1 0 ≤ 160; omega, fun i i0 i1 => a7.1.2 i i0 i1⟩, a7.2.2⟩
    have I : wI w (aKeep (aTake A)) := by
      refine ⟨K, wB_r K b e2, LSm_r K sm e2, ?_, ?_, a4, ?_, ?_, aOK_keep ok ?_⟩
      · rw [aKeep_o (by decide) (by decide) (by decide) (by decide) (by decide)]
        show A.1 1 0 = _
        omega
      · rw [aKeep_o (by decide) (by decide) (by decide) (by decide) (by decide)]
        exact a3
      · show A.1 387 0 + 1 = w.2.2 3 + 1
        omega
      · show A.1 387 0 = w.2.2 3
        omega
      · show A.1 387 0 < 30
        omega
    exact l525 36 xfu 0 (m + 1) _ w u (pa_fu (by decide)) (by decide) (by decide) I h (by omega)
  | succ j ih =>
    intro G p m A s hG hp p0 fa h hM
    obtain ⟨G, rfl⟩ : ∃ M, G = M + 1 := ⟨G - 1, by omega⟩
    obtain ⟨a1, a2, a3, a4, a5, a6, a7⟩ := fa
    have bv := w_bytes K b sm p p0 (by omega)
    unfold zf_0_456
    rw [if_neg (by omega), if_neg (by decide)]
    refine lq_p (l112 h.2.2.1 K b sm (by omega)) ?_
    obtain ⟨u, e1, e2, e3, e4, e5⟩ := C105z (v := B p) h.1 h.2.1 a7 bv (by omega)
    obtain ⟨f1, f2, f3, f4⟩ := aFeed_1 (A := A) bv
    have okf := aOK_feed (A := A) (x := (Int32.ofInt (B p)).toInt64) (m := 1) a7
    unfold sFeed at okf
    rw [if_neg (by omega), if_neg (by omega)] at okf
    rw [e1]
    show zw (zg (p + 1) _) _
    rw [zg_ok ⟨by omega, by omega⟩, if_pos (by omega)]
    refine ih G (p + 1) (m + 1) (aFeed (Int32.ofInt (B p)).toInt64 1 A) u (by omega) (by omega) (by omega) ⟨by omega, fun i i0 i1 => ?_, ?_, a4, ?_, ?_, okf⟩ ⟨e2, e3, h.2.2.1.fr e4, by rw [e5]; have := h.2.2.2; omega⟩ (by omega)
    · by_cases c : i = p
      · rw [c]
        rw [a1] at f3
        exact f3
      · rw [f2 i (by omega)]
        exact a2 i i0 (by omega)
    · rw [f4 522 0 (by decide) (by decide)]
      exact a3
    · rw [f4 387 0 (by decide) (by decide)]
      exact a5
    · rw [f4 388 0 (by decide) (by decide)]
      exact a6
end
