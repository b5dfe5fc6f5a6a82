section
/-! edits: the end of an edit -/
/-- the file is another one -/
def aFil (A : aA) (F : yB) (n : Int) : aA := (fun f i => if f = 2 then F i else if f = 3 then n else A.1 f i, A.2)
/-- what an edit comes to, whose bytes are F, n ahead of the settling -/
def sFin (A : aA) (F : yB) (n : Int) : (Int ⊕ Nat) × aA := if A.1 387 0 < 30 then (match eEd (aCt A) n F with
  | none => (.inr 1, A)
  | some G => (.inl (A.1 387 0), aKeep (aFil A G n))) else (.inr 1, A)
def eIs (o : Option yB) : Int := match o with
  | none => 0
  | some _ => 1
section
variable {T : yT} {B C F G : yB} {n L w : Int} {N : Int → yN} {s u : zS} {r q : Nat} {t k v g e : Int} {A : aA}
theorem aOK_fil (ok : aOK A) (hn : 0 ≤ n ∧ n ≤ 160) (hF : ∀ i, 0 ≤ i → i < n → 0 ≤ F i ∧ F i ≤ 255) : aOK (aFil A F n) := ⟨ok.1, ⟨hn, hF⟩, ok.2.2⟩
theorem eFi_1 : eFi T n F = 0 ∨ eFi T n F = 1 := by
  unfold eFi
  split
  · exact Or.inl rfl
  · split
    · exact Or.inr rfl
    · exact Or.inl rfl
/-- the class settles -/
theorem CSet (hT : yTpl q T s) (W : yWT T) (BE : yBE T) (hF : yFile 2 F n s) {K : zS → zR} : (eEd T n F = none → ∃ u, (zC (zf_15 0 1 ((q : Int) + 1) s) fun v13 s12 => if v13 = 0 then (zt 1 s12) else (zC (zf_17 0 1 s12) fun v16 s15 => if v16 = 0 then (zt 1 s15) else (zC (zf_20 0 1 ((q : Int) + 1) s15) fun v19 s18 => if v19 = 0 then (zt 1 s18) else K s18))) = zt 1 u ∧ cEf 1 s u) ∧ ∀ G, eEd T n F = some G → ∃ u, (zC (zf_15 0 1 ((q : Int) + 1) s) fun v13 s12 => if v13 = 0 then (zt 1 s12) else (zC (zf_17 0 1 s12) fun v16 s15 => if v16 = 0 then (zt 1 s15) else (zC (zf_20 0 1 ((q : Int) + 1) s15) fun v19 s18 => if v19 = 0 then (zt 1 s18) else K s18))) = K u ∧ cEf 1 s u ∧ yFile 2 G n u := by
  obtain ⟨g1, g2⟩ := C15_2 (r := 1) (q := q) W BE 5 xfu 0 F s (pa_fu (by decide)) (by decide) (by decide) hT hF
  unfold zf_15 eEd
  cases ho : eSt T n 5 F with
  | none =>
    obtain ⟨u, a1, a2⟩ := g1 ho
    dsimp only
    rw [a1, zC_zi, if_pos rfl]
    exact ⟨fun _ => ⟨u, rfl, a2⟩, fun G z => by cases z⟩
  | some G =>
    obtain ⟨u, x, a1, a2, a3, a4⟩ := g2 G ho
    dsimp only
    rw [a3]
    dsimp only
    obtain ⟨i1, i2⟩ := C17 W a4
    rw [a1, zC_zi, if_neg (show ¬ (1 : Int) = 0 by decide)]
    cases hs : eSu T (yNs x.2.2.2) x.2.2.2.length (eLc T (yNs x.2.2.2) x.2.2.2.length) (eLf T (yNs x.2.2.2)) G with
    | none =>
      obtain ⟨v, b1, b2⟩ := i1 hs
      dsimp only
      rw [b1, zC_zi, if_pos rfl]
      exact ⟨fun _ => ⟨v, rfl, a2.tr b2⟩, fun G z => by cases z⟩
    | some Z =>
      obtain ⟨v, b1, b2, b3⟩ := i2 Z hs
      obtain ⟨y, c1, c2, c3⟩ := C20 (r := 1) b3.tp W BE b3.fi
      dsimp only
      rw [b1, zC_zi, if_neg (show ¬ (1 : Int) = 0 by decide), c1, zC_zi]
      rcases eFi_1 (T := T) (n := n) (F := Z) with z | z
      · rw [z, if_pos rfl, if_neg (by decide)]
        exact ⟨fun _ => ⟨y, rfl, (a2.tr b2).tr c2⟩, fun G z => by cases z⟩
      · rw [z, if_neg (show ¬ (1 : Int) = 0 by decide), if_pos rfl]
        refine ⟨fun z => (by cases z), fun G z => ?_⟩
        injection z with z
        rw [← z]
        exact ⟨y, rfl, (a2.tr b2).tr c2, c3⟩
theorem cR.ef (h : cR A s) (a : cEf 1 s u) : cR A u := h.k (fun f n i hf => a.1 f n i (by omega) (by omega) (by omega)) (by rw [a.2])
theorem cC.ef (h : cC A s) (a : cEf 1 s u) : cC A u := h.c rfl rfl rfl rfl fun f i hf => a.1 f 0 i (by omega) (by omega) (by omega)
theorem C140 (h : cR A s) (ok : aOK A) (g : cRd A s) (c : aChosen A ≠ -1) (hF : yFile 2 F n s) : cOut (zf_140 0 s) (sFin A F n).1 (sFin A F n).2 s := by
  obtain ⟨x, x1, x2, x3, x4, x5⟩ := aChosen_x ok c
  have o := ok.2.2.2.2.2 _ x4
  have hq : (aChosen A).toNat < s.2.1 := by
    have := h.2.2.2.2.1
    omega
  have hT : yTpl (aChosen A).toNat (aCt A) s := ⟨hq, h.2.2.2.2.2.2 _ x4⟩
  have o3 := ok.2.2.1.1
  unfold zf_140 zf_88 sFin
  rw [z132 h ok g c, zC_zi]
  unfold zIf
  rw [if_neg (by omega), zO_ok rfl hq, h.2.2.1.1]
  by_cases c30 : A.1 387 0 < 30
  · obtain ⟨i1, i2⟩ := CSet (K := fun s18 => zC (zf_5 1 2 s18) fun _ s21 => zC (zf_131 0 s21) fun v24 s23 => zi v24 s23) hT o.1 o.2.2.2 hF
    rw [if_pos c30, if_pos c30]
    show cOut (if (0 : Int) = 0 then _ else zt 1 s) _ _ s
    rw [if_pos rfl]
    cases he : eEd (aCt A) n F with
    | none =>
      obtain ⟨u, a1, a2⟩ := i1 he
      dsimp only
      rw [a1]
      have p1 : cR A u := h.ef a2
      have p2 : cC A u := cC.ef (Or.inr g) a2
      exact ⟨_, rfl, p1, p2, fun f n i f1 f2 => a2.1 f n i (by omega) (by omega) (by omega), by show u.2.2 + 1 ≤ s.2.2 + 1; rw [a2.2]; omega⟩
    | some G =>
      obtain ⟨u, a1, a2, a3⟩ := i2 G he
      dsimp only
      rw [a1]
      obtain ⟨f1, f2, f3, f4, f5, f6⟩ := a3
      obtain ⟨y, b1, b2, b3, b4, b5⟩ := C5 (d := 1) (b := 2) (s := u) (by decide) (by decide) ⟨f3, f4⟩ f2
      have hy : cR (aFil A G n) y := (h.ef a2).file rfl (fun f h2 h3 => by funext i; exact (if_neg h2).trans (if_neg h3)) b4 (fun i i1 i2 => (b5 i i1 i2).trans (f5 i i1 i2)) (fun f n i hf => b2 f n i (by omega)) (by rw [b3])
      obtain ⟨z, k1, k2, k3, k4, k5⟩ := C131 hy (aOK_fil ok ⟨f3, f4⟩ f6) c30
      rw [b1, zC_zi, k1, zC_zi]
      exact ⟨z, rfl, k2, Or.inl k3, fun f n i g1 g2 => (k4 f n i g1 g2).trans ((b2 f n i (by omega)).trans (a2.1 f n i (by omega) (by omega) (by omega))), by rw [k5, b3, a2.2]; omega⟩
  · rw [if_neg c30, if_neg c30]
    exact cEndT h g cFr.rf rfl
end
end
