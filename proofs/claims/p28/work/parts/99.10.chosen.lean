/-! the template of the file: chosen, nodes, fault -/
def cRd (A : aA) (s : zS) : Prop := s.1 523 0 0 = aChosen A ∧ (if aChosen A = -1 then s.1 199 0 0 = 0 ∧ s.1 321 0 0 = 0 else s.1 321 0 0 = aChosen A + 1 ∧ s.1 322 0 0 = 2 ∧ yTold 0 (aRd A (aChosen A).toNat) 1 s)
def mRd' (A : aA) (s : zS) : Prop := if aChosen A = -1 then s.1 610 0 0 = 0 else s.1 603 0 0 = 200 * aChosen A ∧ mTold (aChosen A) (A.2 (aChosen A).toNat) (aRd A (aChosen A).toNat) 1 s
/-- the nodes of the file -/
def aNodes (A : aA) : List yN := if aChosen A = -1 then [] else match aRd A (aChosen A).toNat with
  | .inl _ => []
  | .inr x => x.2.2.2
section
variable {A : aA} {s u : zS} {x : Int}
theorem cR.T {k : Nat} (h : cR A s) (hk : (k : Int) < A.1 522 0) : yTpl k (A.2 k) s := ⟨by
  have := h.2.2.2.2.1.2.1
  omega, fun f i f1 f2 => h.2.2.2.2.2.2 k hk f i f1 f2⟩
theorem cR.F (h : cR A s) (ok : aOK A) : yFile 1 (A.1 2) (A.1 3 0) s := ⟨by decide, h.2.1.1, ok.2.1.1.1, ok.2.1.1.2, h.2.1.2, ok.2.1.2⟩
theorem mR.F (h : mR A s) (ok : aOK A) : mFile (A.1 2) (A.1 3 0) s := ⟨h.2.1.1, ok.2.1.1, h.2.1.2, ok.2.1.2⟩
theorem cR.fr2 {r : Nat} (h : cR A s) (a : yfr2 r s u) : cR A u := h.k (fun f n i hf => a.1 f n i (by omega)) (by rw [a.2])
theorem mR.fb (h : mR A s) (ok : aOK A) (a : mfb s u) : mR A u := h.k ok fun f i hf => a.1 f 0 i (by omega)
theorem aFine_t {r : Nat} {o : yO} {v : Int} (h : yTold r o v s) : (aFine o = true ∧ v = 1) ∨ (aFine o = false ∧ v = 0) := by
  cases o with
  | inl e => exact Or.inr ⟨rfl, h.1⟩
  | inr x => exact Or.inl ⟨rfl, h.1⟩
theorem aFine_m {t : Int} {T : yT} {o : yO} {v : Int} (h : mTold t T o v s) : (aFine o = true ∧ v = 1) ∨ (aFine o = false ∧ v = 0) := by
  cases o with
  | inl e => exact Or.inr ⟨rfl, h.1⟩
  | inr x => exact Or.inl ⟨rfl, h.1⟩
theorem aBest_b (A : aA) : ∀ (m k : Nat) (b : Int), (b = -1 ∨ 0 ≤ b ∧ b < k ∧ aFine (aRd A b.toNat) = true) → aBest A m k b = -1 ∨ 0 ≤ aBest A m k b ∧ aBest A m k b < k + m ∧ aFine (aRd A (aBest A m k b).toNat) = true := by
  intro m
  induction m with
  | zero =>
    intro k b h
    unfold aBest
    rcases h with h | ⟨h1, h2, h3⟩
    · exact Or.inl h
    · exact Or.inr ⟨h1, by omega, h3⟩
  | succ m ih =>
    intro k b h
    unfold aBest
    have e : ((k : Int) + ((m + 1 : Nat) : Int)) = ((k + 1 : Nat) : Int) + m := by omega
    rw [e]
    refine ih (k + 1) _ ?_
    by_cases c : aFine (aRd A k) = true ∧ (b = -1 ∨ A.2 b.toNat 448 0 < A.2 k 448 0)
    · rw [if_pos c]
      exact Or.inr ⟨by omega, by omega, by rw [show ((k : Int)).toNat = k by omega]; exact c.1⟩
    · rw [if_neg c]
      rcases h with h | ⟨h1, h2, h3⟩
      · exact Or.inl h
      · exact Or.inr ⟨h1, by omega, h3⟩
theorem aChosen_b (ok : aOK A) : aChosen A = -1 ∨ 0 ≤ aChosen A ∧ aChosen A < A.1 522 0 ∧ aFine (aRd A (aChosen A).toNat) = true := by
  have o := ok.2.2.2.2.1
  have a := aBest_b A (A.1 522 0).toNat 0 (-1) (Or.inl rfl)
  unfold aChosen
  rcases a with a | ⟨a1, a2, a3⟩
  · exact Or.inl a
  · exact Or.inr ⟨a1, by omega, a3⟩
/-- what is read into a reader -/
theorem C56' {r k : Nat} {st off : Int} (h : cR A s) (ok : aOK A) (hk : (k : Int) < A.1 522 0) (hst : 0 ≤ st ∧ st < A.2 k 449 0) (ho : 0 ≤ off ∧ off ≤ 255) : ∃ v u, zf_56 r ((k : Int) + 1) 1 st off s = zi v u ∧ (yfr2 r s u ∧ u.1 321 r 0 = k + 1 ∧ u.1 322 r 0 = 2) ∧ yTold r (yTop (A.2 k) (A.1 2) (A.1 3 0) st off) v u := C56 (b := 1) (h.T hk) (ok.2.2.2.2.2 k hk).1 (h.F ok) hst ho
/-- the class looks for the template -/
theorem C133_19 (ok : aOK A) : ∀ (m M : Nat) (k : Nat) (b x : Int) (s : zS), m < M → (k : Int) + m = A.1 522 0 → cR A s → s.1 523 0 0 = b → (b = -1 ∧ x = -1 ∨ (0 ≤ b ∧ b < k ∧ aFine (aRd A b.toNat) = true) ∧ x = A.2 b.toNat 448 0) → aBest A m k b = aChosen A → ∃ u, zf_133_19 M 0 x k s = zi 0 u ∧ cR A u ∧ cRd A u ∧ (∀ (f n : Nat) (i : Int), ¬ (n = 0 ∧ (192 ≤ f ∧ f < 200 ∨ 321 ≤ f ∧ f < 331 ∨ f = 523)) → u.1 f n i = s.1 f n i) ∧ u.2 = s.2 := by
  have o := ok.2.2.2.2.1
  intro m
  induction m with
  | zero =>
    intro M k b x s hM hk h hb hx hB
    obtain ⟨M, rfl⟩ : ∃ L, M = L + 1 := ⟨M - 1, by omega⟩
    have hB : b = aChosen A := hB
    unfold zf_133_19 zf_132
    rw [h.2.2.2.2.1.1, if_pos (by omega), hb]
    rcases hx with ⟨x1, x2⟩ | ⟨⟨x1, x3, x4⟩, x2⟩
    · rw [if_pos (by omega), zC_zi]
      obtain ⟨t, a1, a2, a3, a4, a5⟩ := C56_0 (r := 0) (b := 1) (st := 0) (off := 0) (s := s)
      rw [a1, zC_zi]
      refine ⟨t, rfl, h.fr2 a2, ⟨?_, ?_⟩, fun f n i hn => a2.1 f n i (by omega), a2.2⟩
      · rw [a2.1 523 0 0 (by omega), hb, hB]
      · rw [if_pos (by omega)]
        exact ⟨a3, a5⟩
    · rw [if_neg (by omega), if_neg (by omega), zn_ok (by omega), h.2.2.2.2.2.1 b x1 (by omega), if_pos (by have := h.2.2.2.2.1.2.1; omega), zC_zi]
      have e := C56' (r := 0) (k := b.toNat) (st := 0) (off := 0) h ok (by omega) ⟨by decide, by have := (ok.2.2.2.2.2 b.toNat (by omega)).1.1; omega⟩ (by decide)
      obtain ⟨v, u, a1, ⟨a2, a3, a4⟩, a5⟩ := e
      rw [show ((b.toNat : Nat) : Int) = b by omega] at a1 a3
      rw [a1, zC_zi]
      have v1 : v = 1 := by
        rcases aFine_t a5 with z | z
        · exact z.2
        · have x4 : aFine (yTop (A.2 b.toNat) (A.1 2) (A.1 3 0) 0 0) = true := x4
          rw [x4] at z
          exact absurd z.1 (by decide)
      subst v1
      refine ⟨u, rfl, h.fr2 a2, ⟨?_, ?_⟩, fun f n i hn => a2.1 f n i (by omega), a2.2⟩
      · rw [a2.1 523 0 0 (by omega), hb, hB]
      · rw [if_neg (by omega), ← hB]
        exact ⟨a3, a4, a5⟩
  | succ m ih =>
    intro M k b x s hM hk h hb hx hB
    obtain ⟨M, rfl⟩ : ∃ L, M = L + 1 := ⟨M - 1, by omega⟩
    have kl : (k : Int) < A.1 522 0 := by omega
    have W := ok.2.2.2.2.2 k kl
    unfold aBest at hB
    unfold zf_133_19
    rw [h.2.2.2.2.1.1, if_neg (by omega), zn_ok (by omega), h.2.2.2.2.2.1 k (by omega) (by omega), if_pos (by have := h.2.2.2.2.1.2.1; omega)]
    unfold zIf
    have ek : ((k : Int) + 1) = ((k + 1 : Nat) : Int) := by omega
    rw [if_neg (by omega), zO_ok (q := k) rfl (by have := h.2.2.2.2.1.2.1; omega), h.2.2.2.2.2.2 k kl 448 0 (by decide) (by decide)]
    have bt : ∀ y : Int, (b = -1 ∧ y = -1 ∨ (0 ≤ b ∧ b < k ∧ aFine (aRd A b.toNat) = true) ∧ y = A.2 b.toNat 448 0) → (b = -1 ∧ y = -1 ∨ (0 ≤ b ∧ b < ((k + 1 : Nat) : Int) ∧ aFine (aRd A b.toNat) = true) ∧ y = A.2 b.toNat 448 0) := fun y z => by
      rcases z with z | ⟨⟨z1, z2, z3⟩, z4⟩
      · exact Or.inl z
      · exact Or.inr ⟨⟨z1, by omega, z3⟩, z4⟩
    by_cases c1 : A.2 k 448 0 ≤ x
    · rw [if_pos c1, zg_ok ⟨by omega, by omega⟩, ek]
      refine ih M (k + 1) b x s (by omega) (by omega) h hb (bt x hx) ?_
      rw [if_neg (fun z => by omega)] at hB
      exact hB
    · rw [if_neg c1]
      obtain ⟨v, u, a1, ⟨a2, a3, a4⟩, a5⟩ := C56' (r := 0) (k := k) (st := 0) (off := 0) h ok kl ⟨by decide, by have := W.1.1; omega⟩ (by decide)
      rw [a1, zC_zi]
      have hu := h.fr2 a2
      have u523 : u.1 523 0 0 = b := (a2.1 523 0 0 (by omega)).trans hb
      rcases aFine_t a5 with ⟨f1, f2⟩ | ⟨f1, f2⟩
      · rw [if_neg (by omega), zP_ok, zg_ok ⟨by omega, by omega⟩, show (zp 523 0 0 (k : Int) u).1 448 k 0 = A.2 k 448 0 from (zp_nk (by decide)).trans (hu.2.2.2.2.2.2 k kl 448 0 (by decide) (by decide)), ek]
        rw [if_pos ⟨f1, by omega⟩] at hB
        obtain ⟨w, d1, d2, d3, d4, d5⟩ := ih M (k + 1) k (A.2 k 448 0) (zp 523 0 0 k u) (by omega) (by omega) (hu.k (fun f n i hf => zp_nk (by omega)) rfl) zp_eq (Or.inr ⟨⟨by omega, by omega, by rw [show ((k : Int)).toNat = k by omega]; exact f1⟩, by rw [show ((k : Int)).toNat = k by omega]⟩) hB
        exact ⟨w, d1, d2, d3, fun f n i hn => (d4 f n i hn).trans ((zp_n3 (by omega)).trans (a2.1 f n i (by omega))), d5.trans a2.2⟩
      · rw [if_pos f2, zg_ok ⟨by omega, by omega⟩, ek]
        have f1 : aFine (aRd A k) = false := f1
        rw [if_neg (fun z => by rw [f1] at z; exact absurd z.1 (by decide))] at hB
        obtain ⟨w, d1, d2, d3, d4, d5⟩ := ih M (k + 1) b x u (by omega) (by omega) hu u523 (bt x hx) hB
        exact ⟨w, d1, d2, d3, fun f n i hn => (d4 f n i hn).trans (a2.1 f n i (by omega)), d5.trans a2.2⟩
theorem C133 (h : cR A s) (ok : aOK A) (c : cC A s) : ∃ u, zf_133 0 s = zi 0 u ∧ cR A u ∧ cRd A u ∧ (∀ (f n : Nat) (i : Int), ¬ (n = 0 ∧ (192 ≤ f ∧ f < 200 ∨ 321 ≤ f ∧ f < 331 ∨ f = 523)) → u.1 f n i = s.1 f n i) ∧ u.2 = s.2 := by
  have o := ok.2.2.2.2.1
  unfold zf_133
  by_cases c1 : s.1 523 0 0 = -3
  · rw [if_pos c1, zP_ok]
    obtain ⟨u, a1, a2, a3, a4, a5⟩ := C133_19 ok (A.1 522 0).toNat xfu 0 (-1) (-1) (zp 523 0 0 (-1) s) (pa_fu (by omega)) (by omega) (h.k (fun f n i hf => zp_nk (by omega)) rfl) zp_eq (Or.inl ⟨rfl, rfl⟩) rfl
    exact ⟨u, a1, a2, a3, fun f n i hn => (a4 f n i hn).trans (zp_n3 (by omega)), a5⟩
  · rw [if_neg c1]
    rcases c with c | c
    · exact absurd c c1
    · exact ⟨s, rfl, h, c, fun _ _ _ _ => rfl, rfl⟩
theorem mfb.F (a : mfb s u) : mFr s u := ⟨fun f n i hn => a.1 f n i (by omega), a.2⟩
theorem C113 (h : cR A s) (ok : aOK A) (c : cC A s) : cOut (zf_113 0 s) (.inl (aChosen A)) A s := by
  obtain ⟨u, a1, a2, a3, a4, a5⟩ := C133 h ok c
  unfold zf_113
  rw [a1, zC_zi, a3.1]
  exact ⟨u, rfl, a2, Or.inr a3, fun f n i f1 f2 => a4 f n i (by omega), by rw [a5]; omega⟩
/-- the nodes that the class has read -/
theorem cRd.I (h : cRd A s) (ok : aOK A) : yIn 0 0 (aNodes A) s := by
  have b := aChosen_b ok
  obtain ⟨-, h⟩ := h
  unfold aNodes
  by_cases c : aChosen A = -1
  · rw [if_pos c] at h ⊢
    exact yIn.nil h.1
  · rw [if_neg c] at h ⊢
    have h := h.2.2
    revert h
    generalize aRd A (aChosen A).toNat = o
    cases o with
    | inl e => exact fun h => absurd h.1 (by decide)
    | inr x => exact fun h => h.2.2.2.1
theorem mRd'.I (h : mRd' A s) : mIn (aChosen A) (A.2 (aChosen A).toNat) 0 (aNodes A) s := by
  unfold mRd' at h
  unfold aNodes
  by_cases c : aChosen A = -1
  · rw [if_pos c] at h ⊢
    exact ⟨by simpa using h, fun j x h => by simp at h⟩
  · rw [if_neg c] at h ⊢
    have h := h.2
    revert h
    generalize aRd A (aChosen A).toNat = o
    cases o with
    | inl e => exact fun h => absurd h.1 (by decide)
    | inr x => exact fun h => h.2.2.1
theorem C115 (h : cR A s) (ok : aOK A) (c : cC A s) : cOut (zf_115 0 s) (.inl ((aNodes A).length : Int)) A s := by
  obtain ⟨u, a1, a2, a3, a4, a5⟩ := C133 h ok c
  have I := (a3.I ok).1
  unfold zf_115
  rw [a1, zC_zi, I, Int.zero_add]
  exact ⟨u, rfl, a2, Or.inr a3, fun f n i f1 f2 => a4 f n i (by omega), by rw [a5]; omega⟩
def sFault (t o : Int) (A : aA) : Int ⊕ Nat := if 0 ≤ t ∧ t < A.1 522 0 then .inl (match aRd A t.toNat with
  | .inl e => if o = 0 then e.1 else e.2.1
  | .inr _ => if o = 0 then 0 else -1) else .inr 2
theorem C114 {t o : Int} (h : cR A s) (ok : aOK A) (c : cC A s) : cOut (zf_114 0 t o s) (sFault t o A) A s := by
  have o5 := ok.2.2.2.2.1
  unfold zf_114 sFault
  rw [h.2.2.2.2.1.1]
  by_cases d : 0 ≤ t ∧ t < A.1 522 0
  · obtain ⟨v, u, a1, ⟨a2, a3, a4⟩, a5⟩ := C56' (r := 1) (k := t.toNat) (st := 0) (off := 0) h ok (by omega) ⟨by decide, by have := (ok.2.2.2.2.2 t.toNat (by omega)).1.1; omega⟩ (by decide)
    rw [show ((t.toNat : Nat) : Int) = t by omega] at a1
    rw [if_neg (by omega), if_pos d.2, zn_ok (by omega), h.2.2.2.2.2.1 t d.1 (by omega), if_pos (by have := h.2.2.2.2.1.2.1; omega), a1, zC_zi, if_pos d]
    have fin : ∀ w : Int, cOut (zi w u) (.inl w) A s := fun w => ⟨u, rfl, h.fr2 a2, c.c rfl rfl rfl rfl fun f i hf => a2.1 f 0 i (by omega), fun f n i f1 f2 => a2.1 f n i (by omega), by rw [a2.2]; omega⟩
    revert a5
    show yTold 1 (aRd A t.toNat) v u → _
    generalize aRd A t.toNat = r
    cases r with
    | inl e =>
      intro a5
      by_cases z : o = 0
      · rw [if_pos z, a5.2.1]
        dsimp only
        rw [if_pos z]
        exact fin _
      · rw [if_neg z, a5.2.2]
        dsimp only
        rw [if_neg z]
        exact fin _
    | inr x =>
      intro a5
      by_cases z : o = 0
      · rw [if_pos z, a5.2.2.2.2.1]
        dsimp only
        rw [if_pos z]
        exact fin _
      · rw [if_neg z, a5.2.2.2.2.2]
        dsimp only
        rw [if_neg z]
        exact fin _
  · rw [if_neg d]
    by_cases z : t < 0
    · rw [if_pos z]
      exact cThr h c
    · rw [if_neg z, if_neg (by omega)]
      exact cThr h c
end
