section
/-! edits: lengths and counts settle -/
/-- what the bytes F are when lengths and counts have settled, within m readings -/
def eSt (T : yT) (n : Int) : Nat → yB → Option yB
  | 0, _ => none
  | m + 1, F => match yTop T F n 0 0 with
    | .inl _ => none
    | .inr x => if eMc T F (yNs x.2.2.2) x.2.2.2.length = 0 then some F else eSt T n m (eMd T F (yNs x.2.2.2) x.2.2.2.length (x.2.2.2.length : Int).toNat 0 F)
/-- the frames of an edit -/
def cEf (r : Nat) (s u : zS) : Prop := (∀ (f n : Nat) (i : Int), ¬ (n = 2 ∧ f ≤ 1) → ¬ (n = r ∧ (192 ≤ f ∧ f < 200 ∨ 321 ≤ f ∧ f < 331)) → f ≠ 65 → u.1 f n i = s.1 f n i) ∧ u.2 = s.2
def mEf (s u : zS) : Prop := (∀ (f n : Nat) (i : Int), ¬ (n = 0 ∧ (603 ≤ f ∧ f ≤ 632 ∨ f = 595)) → u.1 f n i = s.1 f n i) ∧ u.2 = s.2
/-- node j has a sum -/
def eLf (T : yT) (N : Int → yN) (j : Int) : Int := if N j 198 ≠ -1 ∧ (T 467 (N j 198) = 43 ∨ T 467 (N j 198) = 94) then 1 else 0
section
variable {T : yT} {B C F G : yB} {n L w : Int} {N : Int → yN} {s u : zS} {r q : Nat} {t k v : Int}
theorem cEf.rf : cEf r s s := ⟨fun _ _ _ _ _ _ => rfl, rfl⟩
theorem cEf.tr {v : zS} (a : cEf r s u) (b : cEf r u v) : cEf r s v := ⟨fun f n i h h2 h3 => (b.1 f n i h h2 h3).trans (a.1 f n i h h2 h3), b.2.trans a.2⟩
theorem cEf.wk (a : cWk s u) : cEf r s u := ⟨fun f n i h _ _ => a.1 f n i h, a.2⟩
theorem cEf.rd (a : yfr2 r s u) : cEf r s u := ⟨fun f n i _ h _ => a.1 f n i h, a.2⟩
theorem mEf.rf : mEf s s := ⟨fun _ _ _ _ => rfl, rfl⟩
theorem mEf.tr {v : zS} (a : mEf s u) (b : mEf u v) : mEf s v := ⟨fun f n i h => (b.1 f n i h).trans (a.1 f n i h), b.2.trans a.2⟩
theorem mEf.wl (a : mWl s u) : mEf s u := ⟨fun f n i h => a.1 f n i (by omega), a.2⟩
theorem mEf.rd (a : mfb s u) : mEf s u := ⟨fun f n i h => a.1 f n i (by omega), a.2⟩
theorem yTpl.ef (h : yTpl q T s) (a : cEf r s u) : yTpl q T u := ⟨by rw [a.2]; exact h.1, fun f i f1 f2 => (a.1 f q i (by omega) (by omega) (by omega)).trans (h.2 f i f1 f2)⟩
theorem mRel.ef (R : mRel t T s) (W : yWT T) (a : mEf s u) : mRel t T u := R.c W fun f i hf => a.1 f 0 i (by omega)
/-- the work is read -/
theorem C56w (hT : yTpl q T s) (W : yWT T) (BE : yBE T) (hF : yFile 2 F n s) : ∃ v u, zf_56 r ((q : Int) + 1) 2 0 0 s = zi v u ∧ yfr2 r s u ∧ (∀ e, yTop T F n 0 0 = .inl e → v = 0) ∧ ∀ x, yTop T F n 0 0 = .inr x → v = 1 ∧ cHo r q 2 T F F n (yNs x.2.2.2) x.2.2.2.length x.2.2.1 u := by
  have st0 : (0 : Int) ≤ 0 ∧ 0 < T 449 0 := ⟨Int.le_refl _, by have := W.1; omega⟩
  obtain ⟨v, u, a1, ⟨a2, a3, a4⟩, a5⟩ := C56 (r := r) hT W hF st0 (by decide : (0 : Int) ≤ 0 ∧ (0 : Int) ≤ 255)
  refine ⟨v, u, a1, a2, fun e he => ?_, fun x hx => ?_⟩
  · rw [he] at a5
    exact a5.1
  · rw [hx] at a5
    obtain ⟨b1, b2, b3, b4, b5, b6⟩ := a5
    obtain ⟨f1, f2, f3, f4, f5, f6⟩ := hF
    exact ⟨b1, ⟨a3, by rw [a2.2]; exact hT.1, a4, by decide, fun f i g1 g2 => (a2.1 f q i (by omega)).trans (hT.2 f i g1 g2), (a2.1 1 2 0 (by omega)).trans f2, f3, f4, fun i i1 i2 => (a2.1 0 2 i (by omega)).trans (f5 i i1 i2), f6⟩, b4.nds, yTop_sh W BE f4 f6 st0 (by decide) hx⟩
theorem cHo.fi (H : cHo r q 2 T B F n N L w s) : yFile 2 F n s := by
  obtain ⟨⟨h1, h2, h3, h4, h5, h6, h7, h8, h9, h10⟩, hN, S⟩ := H
  exact ⟨h4, h6, h7, h8, h9, h10⟩
theorem eMw_n : ∀ (m : Nat) (k : Int), 0 ≤ ySm (eMw T B N L) m k
  | 0, _ => Int.le_refl 0
  | m + 1, k => Int.add_nonneg eMw_b.1 (eMw_n m (k + 1))
theorem eMd_0 : ∀ (m : Nat) (i : Int) (F : yB), ySm (eMw T B N L) m i = 0 → eMd T B N L m i F = F
  | 0, _, _, _ => rfl
  | m + 1, i, F, h => by
    have h : eMw T B N L i + ySm (eMw T B N L) m (i + 1) = 0 := h
    have p1 := eMw_b (T := T) (B := B) (N := N) (L := L) (k := i)
    have p2 := eMw_n (T := T) (B := B) (N := N) (L := L) m (i + 1)
    show eMd T B N L m (i + 1) (if eMw T B N L i = 1 then _ else F) = F
    rw [if_neg (by omega)]
    exact eMd_0 m (i + 1) F (by omega)
/-- the class: lengths and counts settle -/
theorem C15_2 (W : yWT T) (BE : yBE T) : ∀ (m M : Nat) (k : Int) (F : yB) (s : zS), m < M → (m : Int) = 5 - k → 0 ≤ k → yTpl q T s → yFile 2 F n s → (eSt T n m F = none → ∃ u, zf_15_2 M 0 r ((q : Int) + 1) k s = zi 0 u ∧ cEf r s u) ∧ ∀ G, eSt T n m F = some G → ∃ u x, zf_15_2 M 0 r ((q : Int) + 1) k s = zi 1 u ∧ cEf r s u ∧ yTop T G n 0 0 = .inr x ∧ cHo r q 2 T G G n (yNs x.2.2.2) x.2.2.2.length x.2.2.1 u := by
  intro m
  induction m with
  | zero =>
    intro M k F s hM hm k0 hT hF
    obtain ⟨M, rfl⟩ : ∃ L, M = L + 1 := ⟨M - 1, by omega⟩
    unfold zf_15_2
    rw [if_pos (by omega)]
    exact ⟨fun _ => ⟨s, rfl, cEf.rf⟩, fun G h => by cases h⟩
  | succ m ih =>
    intro M k F s hM hm k0 hT hF
    obtain ⟨M, rfl⟩ : ∃ L, M = L + 1 := ⟨M - 1, by omega⟩
    obtain ⟨v, u, a1, a2, a3, a4⟩ := C56w (r := r) hT W BE hF
    unfold zf_15_2 eSt
    rw [if_neg (by omega), a1, zC_zi]
    cases hx : yTop T F n 0 0 with
    | inl e =>
      dsimp only
      rw [a3 e hx, if_pos rfl]
      exact ⟨fun _ => ⟨u, rfl, cEf.rd a2⟩, fun G h => by cases h⟩
    | inr x =>
      dsimp only
      obtain ⟨v1, H⟩ := a4 x hx
      obtain ⟨u1, b1, b2, b3⟩ := C16 W H
      have fr : cEf r s u1 := (cEf.rd a2).tr (cEf.wk b2)
      rw [v1, if_neg (show ¬ (1 : Int) = 0 by decide), b1, zC_zi]
      by_cases z : eMc T F (yNs x.2.2.2) x.2.2.2.length = 0
      · rw [if_pos z, if_pos z]
        refine ⟨fun h => (by cases h), fun G h => ?_⟩
        injection h with h
        subst h
        rw [eMd_0 _ _ _ z] at b3
        exact ⟨u1, x, rfl, fr, hx, b3⟩
      · rw [if_neg z, if_neg z, zg_ok ⟨by omega, by omega⟩]
        obtain ⟨i1, i2⟩ := ih M (k + 1) _ u1 (by omega) (by omega) (by omega) (hT.ef fr) b3.fi
        refine ⟨fun h => ?_, fun G h => ?_⟩
        · obtain ⟨u2, c1, c2⟩ := i1 h
          exact ⟨u2, c1, fr.tr c2⟩
        · obtain ⟨u2, y, c1, c2, c3, c4⟩ := i2 G h
          exact ⟨u2, y, c1, fr.tr c2, c3, c4⟩
end
end
