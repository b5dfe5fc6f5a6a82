/-! patch -/
def aPut (A : aA) (a b y : Int) : aA := (fun f i => if f = 2 then (if i < aP A a b + y then A.1 2 i else if i < aP A a b + y + aCome A a b then aSt A b (i - y) else A.1 2 (i - aCome A a b + aGo1 A a b)) else if f = 3 then A.1 3 0 - aGo1 A a b + aCome A a b else A.1 f i, A.2)
def sPatch (a b : Int) (A : aA) : (Int ⊕ Nat) × aA := if (0 ≤ a ∧ a < A.1 387 0) ∧ 0 ≤ b ∧ b < A.1 387 0 then (match aPl A a b 161 0 with
  | none => (.inr 1, A)
  | some y => if A.1 387 0 = 30 ∨ 160 < A.1 3 0 - aGo1 A a b + aCome A a b then (.inr 1, A) else (.inl (A.1 387 0), aKeep (aPut A a b y))) else (.inr 2, A)
section
variable {A : aA} {s u : zS} {a b y : Int}
theorem aAt_b (h : aAt A a b y = true) : 0 ≤ aLo A a b + y ∧ aHi A a b + y ≤ A.1 3 0 := by
  unfold aAt at h
  by_cases c : 0 ≤ aLo A a b + y ∧ aHi A a b + y ≤ A.1 3 0
  · exact c
  · rw [decide_eq_false c, Bool.false_and] at h
    cases h
theorem aPut_2 {i : Int} : (aPut A a b y).1 2 i = if i < aP A a b + y then A.1 2 i else if i < aP A a b + y + aCome A a b then aSt A b (i - y) else A.1 2 (i - aCome A a b + aGo1 A a b) := rfl
theorem aOK_put (ok : aOK A) (h2 : aTwo A a b) (hy : aAt A a b y = true) (hn : A.1 3 0 - aGo1 A a b + aCome A a b ≤ 160) : aOK (aPut A a b y) := by
  have B := aPE_b ok h2
  have H := aHL_b ok h2
  have Y := aAt_b hy
  obtain ⟨o1, o2, o3, o4, o5, o6⟩ := ok
  refine ⟨o1, ⟨?_, fun i i1 i2 => ?_⟩, o3, o4, o5, o6⟩
  · show 0 ≤ A.1 3 0 - aGo1 A a b + aCome A a b ∧ A.1 3 0 - aGo1 A a b + aCome A a b ≤ 160
    omega
  · have i2 : i < A.1 3 0 - aGo1 A a b + aCome A a b := i2
    rw [aPut_2]
    by_cases c1 : i < aP A a b + y
    · rw [if_pos c1]
      exact o2.2 i i1 (by omega)
    · rw [if_neg c1]
      by_cases c2 : i < aP A a b + y + aCome A a b
      · rw [if_pos c2]
        refine (o3.2 b h2.2.1 h2.2.2).2.2 (i - y) (by omega) ?_
        unfold aCome at c2
        omega
      · rw [if_neg c2]
        exact o2.2 _ (by omega) (by omega)
/-- the new bytes come into the file -/
theorem C25_26 (ok : aOK A) (h2 : aTwo A a b) {q n : Int} (hq : 0 ≤ q) (hn : n ≤ 160) : ∀ (m M : Nat) (k : Int) (s : zS), m < M → m = (aCome A a b - k).toNat → 0 ≤ k → q + aCome A a b ≤ n → s.1 128 0 0 = aP A a b → s.1 130 0 0 = aCome A a b → s.1 1 1 0 = n → (∀ (z : zS), (∀ (f' n' : Nat) (i' : Int), ¬ (n' = 1 ∧ f' = 0) → z.1 f' n' i' = s.1 f' n' i') → ∀ i, 0 ≤ i → i < A.1 385 b → zf_92 0 b i z = zi (aSt A b i) z) → ∃ u, zf_25_26 M 0 0 b 1 q k s = zi 0 u ∧ (∀ (f' n' : Nat) (i' : Int), ¬ (n' = 1 ∧ f' = 0) → u.1 f' n' i' = s.1 f' n' i') ∧ u.2 = s.2 ∧ (∀ i, k ≤ i → i < aCome A a b → u.1 0 1 (q + i) = aSt A b (aP A a b + i)) ∧ ∀ i, ¬ (q + k ≤ i ∧ i < q + aCome A a b) → u.1 0 1 i = s.1 0 1 i := by
  have B := aPE_b ok h2
  have H := aHL_b ok h2
  intro m
  induction m with
  | zero =>
    intro M k s hM hm k0 h0 h8 h10 h1 hg
    obtain ⟨M, rfl⟩ : ∃ L, M = L + 1 := ⟨M - 1, by omega⟩
    unfold zf_25_26
    rw [h10, if_pos (by omega)]
    exact ⟨s, rfl, fun _ _ _ _ => rfl, rfl, fun i i1 i2 => by omega, fun _ _ => rfl⟩
  | succ m ih =>
    intro M k s hM hm k0 h0 h8 h10 h1 hg
    obtain ⟨M, rfl⟩ : ∃ L, M = L + 1 := ⟨M - 1, by omega⟩
    have kl : aP A a b + k < A.1 385 b := by
      have : k < A.1 385 b - aP A a b - aE A a b := by
        show k < aCome A a b
        omega
      omega
    unfold zf_25_26 zf_3
    rw [h10, if_neg (by omega), h8, zg_ok ⟨by omega, by omega⟩, hg s (fun _ _ _ _ => rfl) _ (by omega) kl, zC_zi, zg_ok ⟨by omega, by omega⟩, if_neg (by omega), h1, if_neg (by omega), zW_ok (by rw [show zlB 1 = 160 from rfl]; omega), zC_zi, zg_ok ⟨by omega, by omega⟩]
    have e : ∀ (f' n' : Nat) (i' : Int), ¬ (n' = 1 ∧ f' = 0) → (zp 0 1 (q + k) (aSt A b (aP A a b + k)) s).1 f' n' i' = s.1 f' n' i' := fun f' n' i' hn => zp_n3 (by omega)
    obtain ⟨u, a1, a2, a3, a4, a5⟩ := ih M (k + 1) (zp 0 1 (q + k) (aSt A b (aP A a b + k)) s) (by omega) (by omega) (by omega) h0 ((e 128 0 0 (by decide)).trans h8) ((e 130 0 0 (by decide)).trans h10) ((e 1 1 0 (by decide)).trans h1) (fun z hz => hg z fun f' n' i' hn => (hz f' n' i' hn).trans (e f' n' i' hn))
    refine ⟨u, a1, fun f' n' i' hn => (a2 f' n' i' hn).trans (e f' n' i' hn), a3, fun i i1 i2 => ?_, fun i hi => ?_⟩
    · by_cases d : i = k
      · rw [a5 _ (by omega), d, zp_eq]
      · exact a4 i (by omega) i2
    · rw [a5 i (by omega), zp_ni (by omega)]
theorem cR.file {A' : aA} (h : cR A s) (h2 : A'.2 = A.2) (hA : ∀ (f : Nat), f ≠ 2 → f ≠ 3 → A'.1 f = A.1 f) (h1 : u.1 1 1 0 = A'.1 3 0) (h0 : ∀ i, 0 ≤ i → i < A'.1 3 0 → u.1 0 1 i = A'.1 2 i) (a : ∀ (f n : Nat) (i : Int), (f ≤ 1 ∧ n = 0 ∨ 384 ≤ f ∧ f ≤ 388 ∨ 448 ≤ f ∧ f < 469 ∨ f = 515 ∨ f = 522) → u.1 f n i = s.1 f n i) (b : u.2.1 = s.2.1) : cR A' u := by
  obtain ⟨g1, g2, g3, g4, g5, g6, g7⟩ := h
  unfold cR
  rw [hA 1 (by decide) (by decide), hA 0 (by decide) (by decide), hA 387 (by decide) (by decide), hA 388 (by decide) (by decide), hA 522 (by decide) (by decide), hA 385 (by decide) (by decide), hA 386 (by decide) (by decide), hA 384 (by decide) (by decide), h2]
  refine ⟨⟨(a 1 0 0 (by omega)).trans g1.1, fun i i1 i2 => (a 0 0 i (by omega)).trans (g1.2 i i1 i2)⟩, ⟨h1, h0⟩, ⟨(a 387 0 0 (by omega)).trans g3.1, fun j j1 j2 => ?_⟩, (a 388 0 0 (by omega)).trans g4, ⟨(a 522 0 0 (by omega)).trans g5.1, by rw [b]; exact g5.2⟩, fun k k1 k2 => by rw [a 515 0 k (by omega), b]; exact g6 k k1 k2, fun k k2 f i f1 f2 => (a f k i (by omega)).trans (g7 k k2 f i f1 f2)⟩
  obtain ⟨q1, q2, q3⟩ := g3.2 j j1 j2
  exact ⟨(a 385 0 j (by omega)).trans q1, (a 386 0 j (by omega)).trans q2, fun i i1 i2 => (a 384 0 _ (by omega)).trans (q3 i i1 i2)⟩
theorem C129 (h : cR A s) (ok : aOK A) (c : cC A s) : cOut (zf_129 0 a b s) (sPatch a b A).1 (sPatch a b A).2 s := by
  unfold zf_129 sPatch
  rw [z134 h]
  by_cases ca : 0 ≤ a ∧ a < A.1 387 0
  · rw [if_pos ca, zC_zi, z134 h]
    by_cases cb : 0 ≤ b ∧ b < A.1 387 0
    · have h2 : aTwo A a b := ⟨ca, cb⟩
      have B := aPE_b ok h2
      have H := aHL_b ok h2
      have of := ok.2.1.1
      have o3 := ok.2.2.1.1
      obtain ⟨u, a1, a2, a3, a4, a5, a6⟩ := C22 h ok h2
      rw [if_pos cb, zC_zi, if_pos (⟨ca, cb⟩ : (0 ≤ a ∧ a < A.1 387 0) ∧ 0 ≤ b ∧ b < A.1 387 0), a1, zC_zi]
      have hu : cR A u := h.k (fun f n i hf => a2 f n i (by omega)) (by rw [a3])
      have cu : cC A u := c.c rfl rfl rfl rfl fun f i hf => a2 f 0 i (by omega)
      have fu : cFr s u := fun f n i f1 f2 => a2 f n i (by omega)
      have a5 : u.1 129 0 0 = aGo1 A a b := a5
      have a6 : u.1 130 0 0 = aCome A a b := a6
      have thr : cOut (zt 1 u) (.inr 1) A s := ⟨_, rfl, hu, cu, fu, by show u.2.2 + 1 ≤ s.2.2 + 1; rw [a3]; omega⟩
      have p161 := C23_3 hu ok h2 a4 a5 161 xfu 0 (pa_fu (by decide)) (by decide) (by decide) (by decide)
      unfold zf_23
      rw [p161, zC_zi]
      cases e : aPl A a b 161 0 with
      | none =>
        dsimp only
        rw [if_pos rfl]
        exact thr
      | some y =>
        have Y := aPl_b A a b 161 0 (by decide) y e
        have Z := aAt_b Y.1
        dsimp only
        rw [if_neg (show ¬ aP A a b + y = -1 by omega)]
        unfold zf_88
        rw [hu.2.2.1.1]
        by_cases c30 : A.1 387 0 < 30
        · rw [if_pos c30, zz0, zC_zi, if_pos rfl, hu.2.1.1, a5, a6, zg_ok ⟨by omega, by omega⟩, zg_ok ⟨by omega, by omega⟩]
          by_cases cn : A.1 3 0 - aGo1 A a b + aCome A a b ≤ 160
          · rw [if_pos cn, if_neg (show ¬ (A.1 387 0 = 30 ∨ 160 < A.1 3 0 - aGo1 A a b + aCome A a b) by omega)]
            unfold zf_25
            obtain ⟨v, b1, b2, b3, b4, b5, b6⟩ := C7 (d := 1) (s := u) (p := aP A a b + y) (k := aGo1 A a b) (by decide) of.2 (by omega) ⟨H.2.2.1.1, by omega⟩ hu.2.1.1
            have v10 : v.1 130 0 0 = aCome A a b := (b2 130 0 0 (by decide)).trans a6
            rw [a5, b1, zC_zi, v10]
            obtain ⟨w, d1, d2, d3, d4, d5, d6⟩ := C6 (d := 1) (s := v) (p := aP A a b + y) (k := aCome A a b) (by decide) ⟨by omega, by omega⟩ ⟨H.2.2.2.1, by omega⟩ b4
            rw [d1, zC_zi, if_neg (by decide)]
            have fw : ∀ (f' n' : Nat) (i' : Int), ¬ (n' = 1 ∧ (f' = 0 ∨ f' = 1)) → w.1 f' n' i' = u.1 f' n' i' := fun f' n' i' hn => (d2 f' n' i' hn).trans (b2 f' n' i' hn)
            obtain ⟨x, e1, e2, e3, e4, e5⟩ := C25_26 (a := a) ok h2 (q := aP A a b + y) (n := A.1 3 0 - aGo1 A a b + aCome A a b) (by omega) cn (aCome A a b - 0).toNat xfu 0 w (pa_fu (by omega)) rfl (Int.le_refl _) (by omega) ((fw 128 0 0 (by decide)).trans a4) ((fw 130 0 0 (by decide)).trans a6) d4 (fun z hz i i1 i2 => by
              have fz : ∀ (f' n' : Nat) (i' : Int), ¬ (n' = 1 ∧ (f' = 0 ∨ f' = 1)) → z.1 f' n' i' = u.1 f' n' i' := fun f' n' i' hn => (hz f' n' i' (by omega)).trans (fw f' n' i' hn)
              have o := ok.2.2.1
              have oj := (o.2 b cb.1 cb.2).1
              obtain ⟨g1, g2, g3⟩ := hu.2.2.1.2 b cb.1 cb.2
              unfold zf_92 zf_91
              rw [if_neg (by omega), z89 ((fz 387 0 0 (by decide)).trans hu.2.2.1.1), zC_zi, if_pos cb, if_neg (by decide), zn_ok (by omega), fz 385 0 b (by decide), g1, zC_zi, if_neg (by omega), zg_ok ⟨by omega, by omega⟩, zg_ok ⟨by omega, by omega⟩, zn_ok (by omega), show b * 160 + i = 160 * b + i by omega, fz 384 0 _ (by decide), g3 i i1 i2]
              rfl)
            rw [e1, zC_zi]
            have fx : ∀ (f' n' : Nat) (i' : Int), ¬ (n' = 1 ∧ (f' = 0 ∨ f' = 1)) → x.1 f' n' i' = u.1 f' n' i' := fun f' n' i' hn => (e2 f' n' i' (by omega)).trans (fw f' n' i' hn)
            have x2 : x.2 = s.2 := by rw [e3, d3, b3, a3]
            have hx : cR (aPut A a b y) x := by
              refine hu.file rfl (fun f f2 f3 => ?_) ((e2 1 1 0 (by decide)).trans d4) (fun i i1 i2 => ?_) (fun f n i hf => fx f n i (by omega)) (by rw [x2, a3])
              · funext i
                unfold aPut
                dsimp only
                rw [if_neg f2, if_neg f3]
              · have i2 : i < A.1 3 0 - aGo1 A a b + aCome A a b := i2
                rw [aPut_2]
                by_cases c1 : i < aP A a b + y
                · rw [if_pos c1, e5 i (by omega), d6 i c1, b6 i c1]
                  exact hu.2.1.2 i i1 (by omega)
                · rw [if_neg c1]
                  by_cases c2 : i < aP A a b + y + aCome A a b
                  · rw [if_pos c2]
                    have q := e4 (i - (aP A a b + y)) (by omega) (by omega)
                    rw [show aP A a b + y + (i - (aP A a b + y)) = i by omega, show aP A a b + (i - (aP A a b + y)) = i - y by omega] at q
                    exact q
                  · rw [if_neg c2, e5 i (by omega)]
                    have q := d5 (i - aCome A a b) (by omega) (by omega)
                    rw [show i - aCome A a b + aCome A a b = i by omega] at q
                    rw [q, b5 (i - aCome A a b) (by omega) (by omega)]
                    exact hu.2.1.2 _ (by omega) (by omega)
            obtain ⟨z, k1, k2, k3, k4, k5⟩ := C131 hx (aOK_put ok h2 Y.1 cn) c30
            rw [k1, zC_zi]
            exact ⟨z, rfl, k2, Or.inl k3, fun f n i f1 f2 => (k4 f n i f1 f2).trans ((fx f n i (by omega)).trans (fu f n i f1 f2)), by rw [k5, x2]; omega⟩
          · rw [if_neg cn, if_pos (show A.1 387 0 = 30 ∨ 160 < A.1 3 0 - aGo1 A a b + aCome A a b by omega)]
            exact thr
        · rw [if_neg c30, zz1, zC_zi, if_neg (by decide), if_pos (Or.inl (by omega))]
          exact thr
    · rw [if_neg cb, if_neg (fun z => cb z.2)]
      exact cThr h c
  · rw [if_neg ca, if_neg (fun z => ca z.1)]
    exact cThr h c
theorem aOK_patch (ok : aOK A) : aOK (sPatch a b A).2 := by
  unfold sPatch
  split
  · rename_i h2
    have o3 := ok.2.2.1.1
    cases e : aPl A a b 161 0 with
    | none => exact ok
    | some y =>
      have Y := aPl_b A a b 161 0 (by decide) y e
      dsimp only
      split
      · exact ok
      · rename_i c
        exact aOK_keep (aOK_put ok h2 Y.1 (by omega)) (show A.1 387 0 < 30 by omega)
  · exact ok
end
