/-! patch: the reference -/
section
variable {A : aA} {s u : zS} {a b y : Int}
theorem mR.file {A' : aA} (h : mR A s) (ok : aOK A) (h2 : A'.2 = A.2) (hA : ∀ (f : Nat), f ≠ 2 → f ≠ 3 → A'.1 f = A.1 f) (h1 : u.1 594 0 0 = A'.1 3 0) (h0 : ∀ i, 0 ≤ i → i < A'.1 3 0 → u.1 595 0 i = A'.1 2 i) (a : ∀ (f : Nat) (i : Int), (577 ≤ f ∧ f ≤ 593 ∨ 598 ≤ f ∧ f ≤ 602) → u.1 f 0 i = s.1 f 0 i) : mR A' u := by
  obtain ⟨g1, g2, g3, g4, g5, g6, g7⟩ := h
  unfold mR
  rw [hA 1 (by decide) (by decide), hA 0 (by decide) (by decide), hA 387 (by decide) (by decide), hA 388 (by decide) (by decide), hA 522 (by decide) (by decide), hA 385 (by decide) (by decide), hA 386 (by decide) (by decide), hA 384 (by decide) (by decide), h2]
  refine ⟨⟨(a 577 0 (by omega)).trans g1.1, fun i i1 i2 => (a 578 i (by omega)).trans (g1.2 i i1 i2)⟩, ⟨h1, h0⟩, ⟨(a 599 0 (by omega)).trans g3.1, fun j j1 j2 => ?_⟩, (a 598 0 (by omega)).trans g4, (a 579 0 (by omega)).trans g5, fun k k2 => ?_, fun i => by rw [a 589 i (by omega)]; exact g7 i⟩
  · obtain ⟨q1, q2, q3⟩ := g3.2 j j1 j2
    exact ⟨(a 600 j (by omega)).trans q1, (a 601 j (by omega)).trans q2, fun i i1 i2 => (a 602 _ (by omega)).trans (q3 i i1 i2)⟩
  · obtain ⟨q1, q2⟩ := g6 k k2
    exact ⟨(a 580 k (by omega)).trans q1, q2.c (ok.2.2.2.2.2 k k2).1 fun f i hf => a f i (by omega)⟩
theorem M226_262 (ok : aOK A) (h2 : aTwo A a b) (hy : 0 ≤ aP A a b + y ∧ aP A a b + y + aCome A a b ≤ 400) : ∀ (m M : Nat) (k : Int) (s : zS), m < M → m = (aCome A a b - k).toNat → 0 ≤ k → (∀ i, 0 ≤ i → i < A.1 385 b → s.1 602 0 (160 * b + i) = aSt A b i) → ∃ u, zf_226_262 M 0 b (aP A a b) (aCome A a b) y k s = (zC (zf_148 0 u) fun v3 s2 => zi v3 s2) ∧ (∀ (f' n' : Nat) (i' : Int), ¬ (n' = 0 ∧ f' = 595) → u.1 f' n' i' = s.1 f' n' i') ∧ u.2 = s.2 ∧ (∀ i, k ≤ i → i < aCome A a b → u.1 595 0 (aP A a b + y + i) = aSt A b (aP A a b + i)) ∧ ∀ i, ¬ (aP A a b + y + k ≤ i ∧ i < aP A a b + y + aCome A a b) → u.1 595 0 i = s.1 595 0 i := by
  have B := aPE_b ok h2
  have H := aHL_b ok h2
  have o := ok.2.2.1
  have h3 := h2.2
  intro m
  induction m with
  | zero =>
    intro M k s hM hm k0 hg
    obtain ⟨M, rfl⟩ : ∃ L, M = L + 1 := ⟨M - 1, by omega⟩
    unfold zf_226_262
    rw [if_pos (by omega)]
    exact ⟨s, rfl, fun _ _ _ _ => rfl, rfl, fun i i1 i2 => by omega, fun _ _ => rfl⟩
  | succ m ih =>
    intro M k s hM hm k0 hg
    obtain ⟨M, rfl⟩ : ∃ L, M = L + 1 := ⟨M - 1, by omega⟩
    have kl : aP A a b + k < A.1 385 b := by
      have : k < A.1 385 b - aP A a b - aE A a b := by
        show k < aCome A a b
        omega
      omega
    unfold zf_226_262 zf_221
    rw [if_neg (by omega), zg_ok ⟨by omega, by omega⟩, zg_ok ⟨by omega, by omega⟩, zg_ok ⟨by omega, by omega⟩, zn_ok (by omega), zC_zi, hg _ (by omega) kl, zg_ok ⟨by omega, by omega⟩, zg_ok ⟨by omega, by omega⟩, zW_ok (by omega), zg_ok ⟨by omega, by omega⟩]
    obtain ⟨u, a1, a2, a3, a4, a5⟩ := ih M (k + 1) (zp 595 0 (aP A a b + y + k) (aSt A b (aP A a b + k)) s) (by omega) (by omega) (by omega) (fun i i1 i2 => (zp_nk (by decide)).trans (hg i i1 i2))
    refine ⟨u, a1, fun f' n' i' hn => (a2 f' n' i' hn).trans (zp_n3 (by omega)), a3, fun i i1 i2 => ?_, fun i hi => ?_⟩
    · by_cases d : i = k
      · rw [a5 _ (by omega), d, zp_eq]
      · exact a4 i (by omega) i2
    · rw [a5 i (by omega), zp_ni (by omega)]
theorem M226 (h : mR A s) (ok : aOK A) : mOut (zf_226 0 a b s) (sPatch a b A).1 cd21 (sPatch a b A).2 s := by
  unfold zf_226 sPatch
  have thr2 : mOut (zf_226_22 0 a b 0 1 s) (.inr 2) cd21 A s := by
    unfold zf_226_22
    rw [zP_ok, if_neg (by rw [zp_eq]; decide)]
    exact mThr (e := 2) (cd := cd21) h ok
  rw [z153 h ok, zC_zi]
  by_cases ca : 0 ≤ a ∧ a < A.1 387 0
  · rw [if_pos ca, if_neg (by decide), z153 h ok, zC_zi]
    by_cases cb : 0 ≤ b ∧ b < A.1 387 0
    · have h2 : aTwo A a b := ⟨ca, cb⟩
      have B := aPE_b ok h2
      have H := aHL_b ok h2
      have of := ok.2.1.1
      have o3 := ok.2.2.1.1
      have h0 : mR A (zp 576 0 0 0 s) := h.k ok fun f i hf => zp_nk (by omega)
      have F0 : mFr s (zp 576 0 0 0 s) := mFr.rf.pw (by decide)
      have e6 : (zp 576 0 0 0 s).1 576 0 0 = 0 := zp_eq
      unfold zf_226_22
      rw [if_pos cb, if_neg (by decide), if_pos (⟨ca, cb⟩ : (0 ≤ a ∧ a < A.1 387 0) ∧ 0 ≤ b ∧ b < A.1 387 0), zP_ok, if_pos (by rw [zp_eq]; decide), M222 h0 ok h2, zC_zi, M223 h0 ok h2, zC_zi, zn_ok (by omega), zn_ok (by omega), (h0.2.2.1.2 a ca.1 ca.2).1, (h0.2.2.1.2 b cb.1 cb.2).1]
      generalize zp 576 0 0 0 s = t at h0 F0 e6 ⊢
      have thr : mOut (zf_226_229 0 t) (.inr 1) cd21 A s := by
        unfold zf_226_229 zf_145
        rw [zP_ok, zC_zi]
        exact ⟨0, _, rfl, h0.k ok fun f i hf => zp_nk (by omega), F0.pw (by decide), zp_eq⟩
      have m1 := aMin_b (x := 2) (y := aP A a b)
      have m2 := aMin_b (x := 2) (y := aE A a b)
      -- the ends of the context
      have eh : ∀ lo : Int, zf_226_88 0 a b (aP A a b) (aGo1 A a b) (aCome A a b) lo t = zf_226_120 0 a b (aP A a b) (aGo1 A a b) (aCome A a b) lo (aHi A a b) t := fun lo => by
        unfold zf_226_88
        rw [zn_ok (by omega), zg_ok ⟨by omega, by omega⟩, zg_ok ⟨by omega, by omega⟩, (h0.2.2.1.2 a ca.1 ca.2).1]
        have ge : aP A a b + aGo1 A a b = A.1 385 a - aE A a b := by
          unfold aGo1
          omega
        by_cases c : aP A a b + aGo1 A a b + 2 ≤ A.1 385 a
        · have : aHi A a b = aP A a b + aGo1 A a b + 2 := by
            unfold aHi aMin
            split <;> omega
          rw [if_pos c, this]
        · have : aHi A a b = A.1 385 a := by
            unfold aHi aMin
            split <;> omega
          rw [if_neg c, zn_ok (by omega), this]
      have lo : (if 2 ≤ aP A a b then zg (A.1 385 a - aP A a b) (zg (A.1 385 a - aP A a b - aE A a b) (zg (A.1 385 b - aP A a b) (zg (A.1 385 b - aP A a b - aE A a b) (zg (aP A a b - 2) (zf_226_88 0 a b (aP A a b) (A.1 385 a - aP A a b - aE A a b) (A.1 385 b - aP A a b - aE A a b) (aP A a b - 2) t))))) else zg (A.1 385 a - aP A a b) (zg (A.1 385 a - aP A a b - aE A a b) (zg (A.1 385 b - aP A a b) (zg (A.1 385 b - aP A a b - aE A a b) (zf_226_88 0 a b (aP A a b) (A.1 385 a - aP A a b - aE A a b) (A.1 385 b - aP A a b - aE A a b) 0 t))))) = zf_226_120 0 a b (aP A a b) (aGo1 A a b) (aCome A a b) (aLo A a b) (aHi A a b) t := by
        by_cases c : 2 ≤ aP A a b
        · have : aLo A a b = aP A a b - 2 := by
            unfold aLo aMin
            split <;> omega
          rw [if_pos c, zg_ok ⟨by omega, by omega⟩, zg_ok ⟨by omega, by omega⟩, zg_ok ⟨by omega, by omega⟩, zg_ok ⟨by omega, by omega⟩, zg_ok ⟨by omega, by omega⟩, this]
          exact eh _
        · have : aLo A a b = 0 := by
            unfold aLo aMin
            split <;> omega
          rw [if_neg c, zg_ok ⟨by omega, by omega⟩, zg_ok ⟨by omega, by omega⟩, zg_ok ⟨by omega, by omega⟩, zg_ok ⟨by omega, by omega⟩, this]
          exact eh _
      rw [lo]
      unfold zf_226_120
      have hx : (xfu : Nat) = (xfu - 50) + 50 := by
        have := pa_fu (m := 300) (by decide)
        omega
      rw [hx, M226_130 h0 ok h2 161 (xfu - 50) 0 (by have := pa_fu (m := 300) (by decide); omega) (by decide) (by decide) (by decide)]
      cases e : aPl A a b 161 0 with
      | none =>
        unfold zf_226_196
        dsimp only
        rw [if_pos rfl]
        exact thr
      | some y =>
        have Y := aPl_b A a b 161 0 (by decide) y e
        have Z := aAt_b Y.1
        unfold zf_226_196
        dsimp only
        rw [if_neg (show ¬ y = 999 by omega), h0.2.1.1, zg_ok ⟨by omega, by omega⟩, zg_ok ⟨by omega, by omega⟩]
        by_cases cn : 160 < A.1 3 0 - aGo1 A a b + aCome A a b
        · rw [if_pos cn, if_pos (Or.inr cn)]
          exact thr
        · rw [if_neg cn, h0.2.2.1.1]
          by_cases c30 : A.1 387 0 = 30
          · rw [if_pos c30, if_pos (Or.inl c30)]
            exact thr
          · rw [if_neg c30, if_neg (show ¬ (A.1 387 0 = 30 ∨ 160 < A.1 3 0 - aGo1 A a b + aCome A a b) by omega)]
            obtain ⟨v, b1, b2, b3, b4, b5⟩ := M203 (n := A.1 3 0) (s := t) ⟨of.1, by omega⟩ h0.2.1.1
            rw [b1, zC_zi, zg_ok ⟨by omega, by omega⟩]
            obtain ⟨w, d1, d2, d3, d4, d5, d6⟩ := M209 (n := A.1 3 0) (s := v) (p := aP A a b + y) (k := aGo1 A a b) (by omega) (by omega) ⟨H.2.2.1.1, by omega⟩ ((b2 594 0 0 (by decide)).trans h0.2.1.1)
            rw [d1, zC_zi]
            obtain ⟨x, e1, e2, e3, e4, e5, e6'⟩ := M208 (n := A.1 3 0 - aGo1 A a b) (s := w) (p := aP A a b + y) (k := aCome A a b) ⟨by omega, by omega⟩ ⟨H.2.2.2.1, by omega⟩ d4
            rw [e1, zC_zi]
            have fx : ∀ (f' n' : Nat) (i' : Int), ¬ (n' = 0 ∧ (f' = 594 ∨ f' = 595 ∨ f' = 596 ∨ f' = 597)) → x.1 f' n' i' = t.1 f' n' i' := fun f' n' i' hn => (e2 f' n' i' (by omega)).trans ((d2 f' n' i' (by omega)).trans (b2 f' n' i' (by omega)))
            obtain ⟨z, g1, g2, g3, g4, g5⟩ := M226_262 (y := y) ok h2 ⟨by omega, by omega⟩ (aCome A a b - 0).toNat xfu 0 x (pa_fu (by omega)) rfl (Int.le_refl _) (fun i i1 i2 => (fx 602 0 _ (by decide)).trans ((h0.2.2.1.2 b cb.1 cb.2).2.2 i i1 i2))
            rw [g1]
            have fz : ∀ (f' n' : Nat) (i' : Int), ¬ (n' = 0 ∧ (f' = 594 ∨ f' = 595 ∨ f' = 596 ∨ f' = 597)) → z.1 f' n' i' = t.1 f' n' i' := fun f' n' i' hn => (g2 f' n' i' (by omega)).trans (fx f' n' i' hn)
            have hz : mR (aPut A a b y) z := by
              refine h0.file ok rfl (fun f f2 f3 => ?_) ((g2 594 0 0 (by decide)).trans e4) (fun i i1 i2 => ?_) (fun f i hf => fz f 0 i (by omega))
              · funext i
                unfold aPut
                dsimp only
                rw [if_neg f2, if_neg f3]
              · have i2 : i < A.1 3 0 - aGo1 A a b + aCome A a b := i2
                have v5 : ∀ j, v.1 595 0 j = t.1 595 0 j := fun j => b2 595 0 j (by decide)
                rw [aPut_2]
                by_cases c1 : i < aP A a b + y
                · rw [if_pos c1, g5 i (by omega), e6' i c1, d6 i c1, v5]
                  exact h0.2.1.2 i i1 (by omega)
                · rw [if_neg c1]
                  by_cases c2 : i < aP A a b + y + aCome A a b
                  · rw [if_pos c2]
                    have q := g4 (i - (aP A a b + y)) (by omega) (by omega)
                    rw [show aP A a b + y + (i - (aP A a b + y)) = i by omega, show aP A a b + (i - (aP A a b + y)) = i - y by omega] at q
                    exact q
                  · rw [if_neg c2, g5 i (by omega)]
                    have q := e5 (i - aCome A a b) (by omega) (by omega)
                    rw [show i - aCome A a b + aCome A a b = i by omega] at q
                    rw [q, d5 (i - aCome A a b) (by omega) (by omega), v5]
                    exact h0.2.1.2 _ (by omega) (by omega)
            obtain ⟨k, k1, k2, k3, k4⟩ := M148 hz (aOK_put ok h2 Y.1 (by omega)) (show A.1 387 0 < 30 by omega)
            rw [k1, zC_zi]
            have Fz : mFr t z := ⟨fun f n i hn => fz f n i (by omega), by rw [g3, e3, d3, b3]⟩
            exact ⟨_, k, rfl, k2, F0.tr (Fz.tr k4), rfl, by rw [k3, fz 576 0 0 (by decide)]; exact e6⟩
    · rw [if_neg cb, if_pos rfl, if_neg (fun z => cb z.2)]
      exact thr2
  · rw [if_neg ca, if_pos rfl, if_neg (fun z => ca z.1)]
    exact thr2
end
