section
/-! THE LAW: one call of both -/
/-- what a result is called in the law -/
def lK (cd : Nat → Int) (r : Int ⊕ Nat) : Int := match r with
  | .inl _ => 0
  | .inr e => cd e
/-- a call throws nothing but these -/
def lE (l : List Nat) (r : Int ⊕ Nat) : Prop := match r with
  | .inl _ => True
  | .inr e => e ∈ l
/-- what holds between calls -/
def lI (A : aA) (s : zS) : Prop := cR A s ∧ cC A s ∧ mR A s ∧ aOK A ∧ ∃ h, zH 0 h s
section
variable {A A' : aA} {s u w : zS} {r : Int ⊕ Nat} {cd : Nat → Int} {F : zR} {E : Nat → zS → zR} {l : List Nat} {n v x : Int} {G : yB}
theorem zx_i (X : Int32) : zx X X.toInt := zx_32 X
theorem lawC (h : cOut F r A' s) (hr : lE l r) (hE : ∀ e ∈ l, ∀ u, E e u = zi (cd e) u) : ∃ u, zCh F (fun v3 s2 => zW 1000 0 1 0 v3 s2 fun s5 => zi 0 s5) E = zi (lK cd r) u ∧ cR A' u ∧ cC A' u ∧ cFr s u ∧ u.2.2 ≤ s.2.2 + 1 ∧ ∀ v, r = .inl v → u.1 1000 0 0 = v := by
  obtain ⟨u, rfl, h1, h2, h3, h4⟩ := h
  cases r with
  | inl v =>
    refine ⟨zp 1000 0 0 v u, ?_, h1.k (fun f n i hf => zp_nk (by omega)) rfl, h2.c rfl rfl rfl rfl fun f i hf => zp_nk (by omega), h3.pw (by decide), h4, fun v' hv => ?_⟩
    · show zW 1000 0 1 0 v u (fun s5 => zi 0 s5) = _
      rw [zW_ok (by decide)]
      rfl
    · cases hv
      exact zp_eq
  | inr e => exact ⟨u, hE e hr u, h1, h2, h3, h4, fun v hv => by cases hv⟩
theorem lawM (h : mOut F r cd A' s) : ∃ b w, F = zi b w ∧ zf_144 0 w = zi (lK cd r) w ∧ mR A' w ∧ mFr s w ∧ ∀ v, r = .inl v → b = v := by
  obtain ⟨b, w, h0, h1, h2, h3⟩ := h
  unfold zf_144
  cases r with
  | inl v =>
    have h3 : b = v ∧ w.1 576 0 0 = 0 := h3
    refine ⟨b, w, h0, ?_, h1, h2, fun v' hv => ?_⟩
    · rw [h3.2]
      rfl
    · injection hv with hv
      rw [← hv]
      exact h3.1
  | inr e =>
    have h3 : w.1 576 0 0 = cd e := h3
    refine ⟨b, w, h0, ?_, h1, h2, fun v' hv => by cases hv⟩
    rw [h3]
    rfl
theorem law_op {FC FM W : zS → zR} (I : lI A s) (hW : W s = zCh (FC s) (fun v3 s2 => zW 1000 0 1 0 v3 s2 fun s5 => zi 0 s5) E) (hC : cOut (FC s) r A' s) (hr : lE l r) (hE : ∀ e ∈ l, ∀ u, E e u = zi (cd e) u) (hk : ∀ e ∈ l, cd e ≠ 0) (hM : ∀ u, mR A u → mOut (FM u) r cd A' u) (ok' : aOK A') (qW : ∀ h, zH 0 h s → ∃ X, zq 0 0 X (W s)) (qM : ∀ u h, zH 0 h u → ∃ X, zq 0 0 X (FM u)) : ∃ u b w, W s = zi (lK cd r) u ∧ FM u = zi b w ∧ zf_144 0 w = zi (lK cd r) w ∧ (lK cd r = 0 → w.1 1000 0 0 = b ∧ zrng b) ∧ lI A' w ∧ w.2.2 ≤ s.2.2 + 1 := by
  obtain ⟨i1, i2, i3, i4, h, i5⟩ := I
  obtain ⟨u, a1, a2, a3, a4, a5, a6⟩ := lawC hC hr hE
  rw [← hW] at a1
  obtain ⟨X, q1⟩ := qW h i5
  obtain ⟨_, h1, _, _, H1⟩ := q1 _ _ a1
  obtain ⟨b, w, b1, b2, b3, b4, b5⟩ := lawM (hM u (i3.fr i4 a4))
  obtain ⟨Y, q2⟩ := qM u h1 H1
  obtain ⟨_, h2, _, V, H2⟩ := q2 _ _ b1
  refine ⟨u, b, w, a1, b1, b2, fun z => ?_, ⟨a2.fr b4, a3.fr b4, b3, ok', h2, H2⟩, by rw [b4.2]; exact a5⟩
  cases r with
  | inl v => exact ⟨(b4.1 1000 0 0 (by decide)).trans ((a6 v rfl).trans (b5 v rfl).symm), V.1⟩
  | inr e => exact absurd z (hk e hr)
theorem law_op0 {FC FM : zS → zR} (I : lI A s) (hC : cOut (FC s) (.inl v) A s) (hM : ∀ u, mR A u → mOut (FM u) (.inl v) cd A u) (qC : ∀ h, zH 0 h s → ∃ X, zq 0 0 X (FC s)) (qM : ∀ u h, zH 0 h u → ∃ X, zq 0 0 X (FM u)) : ∃ v u w, FC s = zi v u ∧ FM u = zi v w ∧ lI A w ∧ w.2.2 ≤ s.2.2 + 1 := by
  obtain ⟨i1, i2, i3, i4, h, i5⟩ := I
  obtain ⟨u, a1, a2, a3, a4, a5⟩ := hC
  obtain ⟨X, q1⟩ := qC h i5
  obtain ⟨_, h1, _, _, H1⟩ := q1 _ _ a1
  obtain ⟨b, w, b1, b2, b3, b4, b5⟩ := lawM (hM u (i3.fr i4 a4))
  obtain ⟨Y, q2⟩ := qM u h1 H1
  obtain ⟨_, h2, _, V, H2⟩ := q2 _ _ b1
  have e := b5 v rfl
  subst e
  exact ⟨b, u, w, a1, b1, ⟨a2.fr b4, a3.fr b4, b3, i4, h2, H2⟩, by rw [b4.2]; exact a5⟩
theorem lg_cmp_self {y : Int64} : (lg_cmp y y).toInt = 0 := by
  rw [(lg_cmp_eq y y).mpr rfl]
  decide
theorem zlong {v : Int} (h : zrng v) : (Int32.ofInt v).toInt64 = Int64.ofInt v := by
  apply Int64.toInt_inj.mp
  rw [Int32.toInt_toInt64, z32 h, z64 (by omega)]
theorem law_tl {K : zR} {v9 k i : Int} (hb : k = 0 → s.1 1000 0 0 = v9 ∧ zrng v9) (hx : zrng (i + 4)) : (if k = k then (if k = 0 then (zn 0 1 (if (lg_cmp (Int64.ofInt (s.1 1000 0 0)) (Int32.ofInt v9).toInt64).toInt = 0 then (zg (i + 4) K) else (zz 0 s))) else (zg (i + 4) K)) else (zz 0 s)) = K := by
  rw [if_pos rfl]
  by_cases c : k = 0
  · obtain ⟨h1, h2⟩ := hb c
    rw [if_pos c, zn_ok (by decide), h1, zlong h2, lg_cmp_self, if_pos rfl, zg_ok hx]
  · rw [if_neg c, zg_ok hx]
/-! what each call throws -/
theorem sFin_e : lE [1] (sFin A G n).1 := by
  unfold sFin
  split
  · split
    · exact List.mem_cons_self
    · exact trivial
  · exact List.mem_cons_self
theorem lE.mono {l' : List Nat} (h : lE l r) (hl : ∀ e ∈ l, e ∈ l') : lE l' r := by
  cases r with
  | inl v => exact trivial
  | inr e => exact hl e h
theorem sFeed_e {y : Int64} {m : Int} : lE [0, 1] (sFeed y m A).1 := by
  unfold sFeed
  split
  · exact (by decide : (0 : Nat) ∈ [0, 1])
  · split
    · exact (by decide : (1 : Nat) ∈ [0, 1])
    · exact trivial
theorem sGive_e : lE [1] (sGive A).1 := by
  unfold sGive
  split
  · exact trivial
  · exact (by decide : (1 : Nat) ∈ [1])
theorem sTemplate_e {T : yT} : lE [0, 1] (sTemplate T x A).1 := by
  unfold sTemplate
  split
  · split
    · exact (by decide : (1 : Nat) ∈ [0, 1])
    · split
      · exact (by decide : (1 : Nat) ∈ [0, 1])
      · exact trivial
  · exact (by decide : (0 : Nat) ∈ [0, 1])
theorem sByteAt_e : lE [2] (sByteAt x A) := by
  unfold sByteAt
  split
  · exact trivial
  · exact (by decide : (2 : Nat) ∈ [2])
theorem sParent_e : lE [2] (sParent x A) := by
  unfold sParent
  split
  · exact trivial
  · exact (by decide : (2 : Nat) ∈ [2])
theorem sGoTo_e : lE [2] (sGoTo x A).1 := by
  unfold sGoTo
  split
  · exact trivial
  · exact (by decide : (2 : Nat) ∈ [2])
theorem sFault_e {o : Int} : lE [2] (sFault x o A) := by
  unfold sFault
  split
  · exact trivial
  · exact (by decide : (2 : Nat) ∈ [2])
theorem sNode_e {o : Int} : lE [2, 0] (sNode x o A) := by
  unfold sNode
  split
  · split
    · exact trivial
    · exact (by decide : (0 : Nat) ∈ [2, 0])
  · exact (by decide : (2 : Nat) ∈ [2, 0])
theorem sFollow_e : lE [2, 1] (sFollow x A) := by
  unfold sFollow
  split
  · split
    · exact trivial
    · exact (by decide : (1 : Nat) ∈ [2, 1])
  · exact (by decide : (2 : Nat) ∈ [2, 1])
theorem sChain_e : lE [2, 1] (sChain x A) := by
  unfold sChain
  split
  · split
    · exact trivial
    · exact (by decide : (1 : Nat) ∈ [2, 1])
  · exact (by decide : (2 : Nat) ∈ [2, 1])
theorem sFind_e {m f : Int} : lE [0] (sFind x m f A) := by
  unfold sFind
  split
  · exact trivial
  · exact (by decide : (0 : Nat) ∈ [0])
theorem sFindF_e {m f : Int} : lE [0] (sFindF x m f A) := by
  unfold sFindF
  split
  · exact trivial
  · exact (by decide : (0 : Nat) ∈ [0])
theorem sSet_e {m : Int} : lE [2, 1] (sSet x m A).1 := by
  unfold sSet
  split
  · split
    · exact sFin_e.mono (by decide)
    · exact (by decide : (1 : Nat) ∈ [2, 1])
  · exact (by decide : (2 : Nat) ∈ [2, 1])
theorem sInsert_e {m f : Int} : lE [2, 0, 1] (sInsert x m f A).1 := by
  unfold sInsert sIns
  split
  · split
    · split
      · split
        · exact sFin_e.mono (by decide)
        · exact (by decide : (1 : Nat) ∈ [2, 0, 1])
      · exact (by decide : (1 : Nat) ∈ [2, 0, 1])
    · exact (by decide : (0 : Nat) ∈ [2, 0, 1])
  · exact (by decide : (2 : Nat) ∈ [2, 0, 1])
theorem sRemove_e {m : Int} : lE [2, 1] (sRemove x m A).1 := by
  unfold sRemove
  split
  · split
    · exact sFin_e.mono (by decide)
    · exact (by decide : (1 : Nat) ∈ [2, 1])
  · exact (by decide : (2 : Nat) ∈ [2, 1])
theorem sElement_e {m f : Int} : lE [2, 1] (sElement x m f A).1 := by
  unfold sElement sElm
  split
  · split
    · exact (by decide : (1 : Nat) ∈ [2, 1])
    · split
      · exact sFin_e.mono (by decide)
      · split
        · exact sFin_e.mono (by decide)
        · exact (by decide : (1 : Nat) ∈ [2, 1])
  · exact (by decide : (2 : Nat) ∈ [2, 1])
theorem sRepair_e : lE [1] (sRepair A).1 := by
  unfold sRepair
  split
  · exact (by decide : (1 : Nat) ∈ [1])
  · exact sFin_e
theorem sHunk_e {m f : Int} : lE [2, 0] (sHunk x m f A) := by
  unfold sHunk
  split
  · split
    · exact trivial
    · exact (by decide : (0 : Nat) ∈ [2, 0])
  · exact (by decide : (2 : Nat) ∈ [2, 0])
theorem sPatch_e {m : Int} : lE [2, 1] (sPatch x m A).1 := by
  unfold sPatch
  split
  · split
    · exact (by decide : (1 : Nat) ∈ [2, 1])
    · split
      · exact (by decide : (1 : Nat) ∈ [2, 1])
      · exact trivial
  · exact (by decide : (2 : Nat) ∈ [2, 1])
end
end
