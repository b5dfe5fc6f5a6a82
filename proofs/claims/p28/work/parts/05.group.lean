/-! ONE INSTRUCTION, the machine's side -/
/-- from every state of the machine that is the runner's state, the machine comes to Q -/
def xr_G (p : Program) (l : Launch) (e : Env) (R : Room) (s : State) (m : MethodId) (args : Array Value) (below : List Frame) (meth : Method) (c : Code) (Q : State → Prop) (T : xrT) (D : va_G) (A : Nat → Prop) (b : Nat) (M : xrM) (a0 : List Nat) (c0 s0 : Nat) (h : xrH) (pc : Nat) (L : xrL) (st : List Value) : Prop :=
  ∀ (H : Heap) (locs : List Loc) (ads : List Nat) (ws : va_W) (tys : List (ClassId × FieldType)) (ls : Array Slot) (L' : xrL) (st' : List Value), xr_le a0 ads → xr_W T D A b h ads s ws tys H → va_S A s.heap H locs → lv_has ls (xr_mx M) L' → xr_Ls ads b L L' → xr_Vs ads b st st' →
    W p l e R s m args below meth c H locs (h.1 - c0) (h.2.1 - s0) Q (F0 m pc ls st')
section XST
variable {p : Program} {l : Launch} {e : Env} {R : Room} {s : State} {m : MethodId} {args : Array Value} {below : List Frame} {meth : Method} {c : Code} {Q : State → Prop}
variable {T : xrT} {D : va_G} {A : Nat → Prop} {b : Nat} {GW : List Cond} {ST : List (String × Nat × String)} {NC : List (String × String)} {AO : List String} {M : xrM} {a0 : List Nat} {c0 s0 : Nat} {h : xrH} {pc n : Nat} {L : xrL} {st : List Value} {F : xrF × xrH}
theorem xg_push {v : Value} {d : Nat} (row : ∀ (H : Heap) (locs : List Loc) (cells slots : Nat) (ls : Array Slot) (rest : List Value), W p l e R s m args below meth c H locs cells slots Q (F0 m (pc + d) ls (v :: rest)) → W p l e R s m args below meth c H locs cells slots Q (F0 m pc ls rest))
    (hv : (∃ x, v = .int x) ∨ (∃ x, v = .long x) ∨ v = .null) (hn : n = d) (hs : some ((pc + n, L, v :: st), h) = some F) (k : xr_G p l e R s m args below meth c Q T D A b M a0 c0 s0 F.2 F.1.1 F.1.2.1 F.1.2.2) : xr_G p l e R s m args below meth c Q T D A b M a0 c0 s0 h pc L st := by
  subst hn
  cases hs
  intro H locs ads ws tys ls L' st' h1 h2 h3 h4 h5 h6
  refine row _ _ _ _ _ _ (k H locs ads ws tys ls L' (v :: st') h1 h2 h3 h4 h5 ⟨?_, h6⟩)
  rcases hv with ⟨x, rfl⟩ | ⟨x, rfl⟩ | rfl
  · exact rfl
  · exact rfl
  · exact trivial
theorem xg_li {i d : Nat} (row : ∀ (H : Heap) (locs : List Loc) (cells slots : Nat) (ls : Array Slot) (rest : List Value) (x : Int32), ls[i]? = some (.val (.int x)) → W p l e R s m args below meth c H locs cells slots Q (F0 m (pc + d) ls (.int x :: rest)) → W p l e R s m args below meth c H locs cells slots Q (F0 m pc ls rest))
    (hn : n = d) (hs : xr_li L i n pc st h = some F) (k : xr_G p l e R s m args below meth c Q T D A b M a0 c0 s0 F.2 F.1.1 F.1.2.1 F.1.2.2) : xr_G p l e R s m args below meth c Q T D A b M a0 c0 s0 h pc L st := by
  subst hn
  obtain ⟨x, hg, rfl⟩ := xr_li_s hs
  intro H locs ads ws tys ls L' st' h1 h2 h3 h4 h5 h6
  obtain ⟨j, v', hj, hv⟩ := h5.get i _ hg
  have hv' := hv.int
  subst hv'
  exact row _ _ _ _ _ _ x (lv_at h4 j hj) (k H locs ads ws tys ls L' (.int x :: st') h1 h2 h3 h4 h5 ⟨rfl, h6⟩)
theorem xg_ll {i d : Nat} (row : ∀ (H : Heap) (locs : List Loc) (cells slots : Nat) (ls : Array Slot) (rest : List Value) (x : Int64), ls[i]? = some (.val (.long x)) → W p l e R s m args below meth c H locs cells slots Q (F0 m (pc + d) ls (.long x :: rest)) → W p l e R s m args below meth c H locs cells slots Q (F0 m pc ls rest))
    (hn : n = d) (hs : xr_ll L i n pc st h = some F) (k : xr_G p l e R s m args below meth c Q T D A b M a0 c0 s0 F.2 F.1.1 F.1.2.1 F.1.2.2) : xr_G p l e R s m args below meth c Q T D A b M a0 c0 s0 h pc L st := by
  subst hn
  obtain ⟨x, hg, rfl⟩ := xr_ll_s hs
  intro H locs ads ws tys ls L' st' h1 h2 h3 h4 h5 h6
  obtain ⟨j, v', hj, hv⟩ := h5.get i _ hg
  have hv' := hv.long
  subst hv'
  exact row _ _ _ _ _ _ x (lv_at h4 j hj) (k H locs ads ws tys ls L' (.long x :: st') h1 h2 h3 h4 h5 ⟨rfl, h6⟩)
theorem xg_la {i d : Nat} (row : ∀ (H : Heap) (locs : List Loc) (cells slots : Nat) (ls : Array Slot) (rest : List Value) (x : Nat), ls[i]? = some (.val (.ref x)) → W p l e R s m args below meth c H locs cells slots Q (F0 m (pc + d) ls (.ref x :: rest)) → W p l e R s m args below meth c H locs cells slots Q (F0 m pc ls rest))
    (rowN : ∀ (H : Heap) (locs : List Loc) (cells slots : Nat) (ls : Array Slot) (rest : List Value), ls[i]? = some (.val .null) → W p l e R s m args below meth c H locs cells slots Q (F0 m (pc + d) ls (.null :: rest)) → W p l e R s m args below meth c H locs cells slots Q (F0 m pc ls rest))
    (hn : n = d) (hs : xr_la L i n pc st h = some F) (k : xr_G p l e R s m args below meth c Q T D A b M a0 c0 s0 F.2 F.1.1 F.1.2.1 F.1.2.2) : xr_G p l e R s m args below meth c Q T D A b M a0 c0 s0 h pc L st := by
  subst hn
  obtain ⟨v, hg, hv, rfl⟩ := xr_la_s hs
  intro H locs ads ws tys ls L' st' h1 h2 h3 h4 h5 h6
  obtain ⟨j, v', hj, hw⟩ := h5.get i _ hg
  rcases hv with ⟨x, rfl⟩ | rfl | ⟨x, rfl⟩
  · obtain ⟨q, rfl, hq⟩ := hw.ref
    exact row _ _ _ _ _ _ q (lv_at h4 j hj) (k H locs ads ws tys ls L' (.ref q :: st') h1 h2 h3 h4 h5 ⟨hq, h6⟩)
  · have hv' := hw.null
    subst hv'
    exact rowN _ _ _ _ _ _ (lv_at h4 j hj) (k H locs ads ws tys ls L' (.null :: st') h1 h2 h3 h4 h5 ⟨trivial, h6⟩)
  · obtain ⟨q, rfl⟩ := hw.ret
    exact row _ _ _ _ _ _ q (lv_at h4 j hj) (k H locs ads ws tys ls L' (.ref q :: st') h1 h2 h3 h4 h5 ⟨hw, h6⟩)
theorem xg_si {i d : Nat} (row : ∀ (H : Heap) (locs : List Loc) (cells slots : Nat) (ls : Array Slot) (rest : List Value) (x : Int32) (lv : xrL), lv_has ls (xr_mx M) lv → (∀ ls' : Array Slot, lv_has ls' (xr_mx M) (xr_st1 lv i (.int x)) → W p l e R s m args below meth c H locs cells slots Q (F0 m (pc + d) ls' rest)) → W p l e R s m args below meth c H locs cells slots Q (F0 m pc ls (.int x :: rest)))
    (hn : n = d) (hs : xr_si L i n pc st h = some F) (k : xr_G p l e R s m args below meth c Q T D A b M a0 c0 s0 F.2 F.1.1 F.1.2.1 F.1.2.2) : xr_G p l e R s m args below meth c Q T D A b M a0 c0 s0 h pc L st := by
  subst hn
  obtain ⟨x, r, rfl, rfl⟩ := xr_si_s hs
  intro H locs ads ws tys ls L' st' h1 h2 h3 h4 h5 h6
  obtain ⟨v', r', rfl, hv, hr⟩ := h6.cons
  have hv' := hv.int
  subst hv'
  exact row _ _ _ _ _ _ x L' h4 (fun ls' h4' => k H locs ads ws tys ls' (xr_st1 L' i (.int x)) r' h1 h2 h3 h4' (h5.st1 (v := .int x) (v' := .int x) rfl i) hr)
theorem xg_sl {i d : Nat} (row : ∀ (H : Heap) (locs : List Loc) (cells slots : Nat) (ls : Array Slot) (rest : List Value) (x : Int64) (lv : xrL), lv_has ls (xr_mx M) lv → (∀ ls' : Array Slot, lv_has ls' (xr_mx M) (xr_st2 lv i (.long x)) → W p l e R s m args below meth c H locs cells slots Q (F0 m (pc + d) ls' rest)) → W p l e R s m args below meth c H locs cells slots Q (F0 m pc ls (.long x :: rest)))
    (hn : n = d) (hs : xr_sl L i n pc st h = some F) (k : xr_G p l e R s m args below meth c Q T D A b M a0 c0 s0 F.2 F.1.1 F.1.2.1 F.1.2.2) : xr_G p l e R s m args below meth c Q T D A b M a0 c0 s0 h pc L st := by
  subst hn
  obtain ⟨x, r, rfl, rfl⟩ := xr_sl_s hs
  intro H locs ads ws tys ls L' st' h1 h2 h3 h4 h5 h6
  obtain ⟨v', r', rfl, hv, hr⟩ := h6.cons
  have hv' := hv.long
  subst hv'
  exact row _ _ _ _ _ _ x L' h4 (fun ls' h4' => k H locs ads ws tys ls' (xr_st2 L' i (.long x)) r' h1 h2 h3 h4' (h5.st2 (v := .long x) (v' := .long x) rfl i) hr)
theorem xg_sa {i d : Nat} (row : ∀ (H : Heap) (locs : List Loc) (cells slots : Nat) (ls : Array Slot) (rest : List Value) (x : Nat) (lv : xrL), lv_has ls (xr_mx M) lv → (∀ ls' : Array Slot, lv_has ls' (xr_mx M) (xr_st1 lv i (.ref x)) → W p l e R s m args below meth c H locs cells slots Q (F0 m (pc + d) ls' rest)) → W p l e R s m args below meth c H locs cells slots Q (F0 m pc ls (.ref x :: rest)))
    (rowN : ∀ (H : Heap) (locs : List Loc) (cells slots : Nat) (ls : Array Slot) (rest : List Value) (lv : xrL), lv_has ls (xr_mx M) lv → (∀ ls' : Array Slot, lv_has ls' (xr_mx M) (xr_st1 lv i .null) → W p l e R s m args below meth c H locs cells slots Q (F0 m (pc + d) ls' rest)) → W p l e R s m args below meth c H locs cells slots Q (F0 m pc ls (.null :: rest)))
    (hn : n = d) (hs : xr_sa L i n pc st h = some F) (k : xr_G p l e R s m args below meth c Q T D A b M a0 c0 s0 F.2 F.1.1 F.1.2.1 F.1.2.2) : xr_G p l e R s m args below meth c Q T D A b M a0 c0 s0 h pc L st := by
  subst hn
  obtain ⟨v, r, rfl, hv, rfl⟩ := xr_sa_s hs
  intro H locs ads ws tys ls L' st' h1 h2 h3 h4 h5 h6
  obtain ⟨v', r', rfl, hw, hr⟩ := h6.cons
  rcases hv with ⟨x, rfl⟩ | rfl | ⟨x, rfl⟩
  · obtain ⟨q, rfl, hq⟩ := hw.ref
    exact row _ _ _ _ _ _ q L' h4 (fun ls' h4' => k H locs ads ws tys ls' _ r' h1 h2 h3 h4' (h5.st1 hw i) hr)
  · have hv' := hw.null
    subst hv'
    exact rowN _ _ _ _ _ _ L' h4 (fun ls' h4' => k H locs ads ws tys ls' _ r' h1 h2 h3 h4' (h5.st1 hw i) hr)
  · obtain ⟨q, rfl⟩ := hw.ret
    exact row _ _ _ _ _ _ q L' h4 (fun ls' h4' => k H locs ads ws tys ls' _ r' h1 h2 h3 h4' (h5.st1 hw i) hr)
theorem xg_bi {f : Int32 → Int32 → Int32} (row : ∀ (H : Heap) (locs : List Loc) (cells slots : Nat) (ls : Array Slot) (rest : List Value) (x y : Int32), W p l e R s m args below meth c H locs cells slots Q (F0 m (pc + 1) ls (.int (f x y) :: rest)) → W p l e R s m args below meth c H locs cells slots Q (F0 m pc ls (.int y :: .int x :: rest)))
    (hn : n = 1) (hs : xr_bi f n pc L st h = some F) (k : xr_G p l e R s m args below meth c Q T D A b M a0 c0 s0 F.2 F.1.1 F.1.2.1 F.1.2.2) : xr_G p l e R s m args below meth c Q T D A b M a0 c0 s0 h pc L st := by
  subst hn
  obtain ⟨x, y, r, rfl, rfl⟩ := xr_bi_s hs
  intro H locs ads ws tys ls L' st' h1 h2 h3 h4 h5 h6
  obtain ⟨v1, r1, rfl, hv1, hr1⟩ := h6.cons
  obtain ⟨v2, r2, rfl, hv2, hr2⟩ := hr1.cons
  have e1 := hv1.int
  have e2 := hv2.int
  subst e1
  subst e2
  exact row _ _ _ _ _ _ x y (k H locs ads ws tys ls L' (.int (f x y) :: r2) h1 h2 h3 h4 h5 ⟨rfl, hr2⟩)
theorem xg_bd {f : Int32 → Int32 → Int32} (row : ∀ (H : Heap) (locs : List Loc) (cells slots : Nat) (ls : Array Slot) (rest : List Value) (x y : Int32), ¬ y = 0 → W p l e R s m args below meth c H locs cells slots Q (F0 m (pc + 1) ls (.int (f x y) :: rest)) → W p l e R s m args below meth c H locs cells slots Q (F0 m pc ls (.int y :: .int x :: rest)))
    (hn : n = 1) (hs : xr_bd f n pc L st h = some F) (k : xr_G p l e R s m args below meth c Q T D A b M a0 c0 s0 F.2 F.1.1 F.1.2.1 F.1.2.2) : xr_G p l e R s m args below meth c Q T D A b M a0 c0 s0 h pc L st := by
  subst hn
  obtain ⟨x, y, r, rfl, hy, rfl⟩ := xr_bd_s hs
  intro H locs ads ws tys ls L' st' h1 h2 h3 h4 h5 h6
  obtain ⟨v1, r1, rfl, hv1, hr1⟩ := h6.cons
  obtain ⟨v2, r2, rfl, hv2, hr2⟩ := hr1.cons
  have e1 := hv1.int
  have e2 := hv2.int
  subst e1
  subst e2
  exact row _ _ _ _ _ _ x y hy (k H locs ads ws tys ls L' (.int (f x y) :: r2) h1 h2 h3 h4 h5 ⟨rfl, hr2⟩)
theorem xg_bl {f : Int64 → Int64 → Int64} (row : ∀ (H : Heap) (locs : List Loc) (cells slots : Nat) (ls : Array Slot) (rest : List Value) (x y : Int64), W p l e R s m args below meth c H locs cells slots Q (F0 m (pc + 1) ls (.long (f x y) :: rest)) → W p l e R s m args below meth c H locs cells slots Q (F0 m pc ls (.long y :: .long x :: rest)))
    (hn : n = 1) (hs : xr_bl f n pc L st h = some F) (k : xr_G p l e R s m args below meth c Q T D A b M a0 c0 s0 F.2 F.1.1 F.1.2.1 F.1.2.2) : xr_G p l e R s m args below meth c Q T D A b M a0 c0 s0 h pc L st := by
  subst hn
  obtain ⟨x, y, r, rfl, rfl⟩ := xr_bl_s hs
  intro H locs ads ws tys ls L' st' h1 h2 h3 h4 h5 h6
  obtain ⟨v1, r1, rfl, hv1, hr1⟩ := h6.cons
  obtain ⟨v2, r2, rfl, hv2, hr2⟩ := hr1.cons
  have e1 := hv1.long
  have e2 := hv2.long
  subst e1
  subst e2
  exact row _ _ _ _ _ _ x y (k H locs ads ws tys ls L' (.long (f x y) :: r2) h1 h2 h3 h4 h5 ⟨rfl, hr2⟩)
theorem xg_bs {f : Int64 → Int32 → Int64} (row : ∀ (H : Heap) (locs : List Loc) (cells slots : Nat) (ls : Array Slot) (rest : List Value) (x : Int64) (y : Int32), W p l e R s m args below meth c H locs cells slots Q (F0 m (pc + 1) ls (.long (f x y) :: rest)) → W p l e R s m args below meth c H locs cells slots Q (F0 m pc ls (.int y :: .long x :: rest)))
    (hn : n = 1) (hs : xr_bs f n pc L st h = some F) (k : xr_G p l e R s m args below meth c Q T D A b M a0 c0 s0 F.2 F.1.1 F.1.2.1 F.1.2.2) : xr_G p l e R s m args below meth c Q T D A b M a0 c0 s0 h pc L st := by
  subst hn
  obtain ⟨x, y, r, rfl, rfl⟩ := xr_bs_s hs
  intro H locs ads ws tys ls L' st' h1 h2 h3 h4 h5 h6
  obtain ⟨v1, r1, rfl, hv1, hr1⟩ := h6.cons
  obtain ⟨v2, r2, rfl, hv2, hr2⟩ := hr1.cons
  have e1 := hv1.int
  have e2 := hv2.long
  subst e1
  subst e2
  exact row _ _ _ _ _ _ x y (k H locs ads ws tys ls L' (.long (f x y) :: r2) h1 h2 h3 h4 h5 ⟨rfl, hr2⟩)
/-- a branch over one int -/
theorem xg_b1 {off : Int} {P : Int32 → Prop} (dP : ∀ x, Decidable (P x)) (row : ∀ (H : Heap) (locs : List Loc) (cells slots : Nat) (ls : Array Slot) (rest : List Value) (x : Int32) (tgt : Nat), (pc : Int) + off = (tgt : Int) → (P x → W p l e R s m args below meth c H locs cells slots Q (F0 m tgt ls rest)) → (¬ P x → W p l e R s m args below meth c H locs cells slots Q (F0 m (pc + 3) ls rest)) → W p l e R s m args below meth c H locs cells slots Q (F0 m pc ls (.int x :: rest)))
    (hn : n = 3) (ht : ∃ t : Nat, (pc : Int) + off = (t : Int)) {x : Int32} {r : List Value} (ys : P x → xr_to pc off L r h = some F) (no : ¬ P x → some ((pc + n, L, r), h) = some F) (k : xr_G p l e R s m args below meth c Q T D A b M a0 c0 s0 F.2 F.1.1 F.1.2.1 F.1.2.2) : xr_G p l e R s m args below meth c Q T D A b M a0 c0 s0 h pc L (.int x :: r) := by
  subst hn
  intro H locs ads ws tys ls L' st' h1 h2 h3 h4 h5 h6
  obtain ⟨v1, r1, rfl, hv1, hr1⟩ := h6.cons
  have e1 := hv1.int
  subst e1
  obtain ⟨t, ht⟩ := ht
  refine row _ _ _ _ _ _ x t ht (fun hp => ?_) (fun hp => ?_)
  · obtain ⟨t', ht', rfl⟩ := xr_to_s (ys hp)
    have : t' = t := by omega
    subst this
    exact k H locs ads ws tys ls L' r1 h1 h2 h3 h4 h5 hr1
  · cases no hp
    exact k H locs ads ws tys ls L' r1 h1 h2 h3 h4 h5 hr1
theorem xg_b2 {off : Int} {P : Int32 → Int32 → Prop} (dP : ∀ x y, Decidable (P x y)) (row : ∀ (H : Heap) (locs : List Loc) (cells slots : Nat) (ls : Array Slot) (rest : List Value) (x y : Int32) (tgt : Nat), (pc : Int) + off = (tgt : Int) → (P x y → W p l e R s m args below meth c H locs cells slots Q (F0 m tgt ls rest)) → (¬ P x y → W p l e R s m args below meth c H locs cells slots Q (F0 m (pc + 3) ls rest)) → W p l e R s m args below meth c H locs cells slots Q (F0 m pc ls (.int y :: .int x :: rest)))
    (hn : n = 3) (ht : ∃ t : Nat, (pc : Int) + off = (t : Int)) {x y : Int32} {r : List Value} (ys : P x y → xr_to pc off L r h = some F) (no : ¬ P x y → some ((pc + n, L, r), h) = some F) (k : xr_G p l e R s m args below meth c Q T D A b M a0 c0 s0 F.2 F.1.1 F.1.2.1 F.1.2.2) : xr_G p l e R s m args below meth c Q T D A b M a0 c0 s0 h pc L (.int y :: .int x :: r) := by
  subst hn
  intro H locs ads ws tys ls L' st' h1 h2 h3 h4 h5 h6
  obtain ⟨v1, r1, rfl, hv1, hr1⟩ := h6.cons
  obtain ⟨v2, r2, rfl, hv2, hr2⟩ := hr1.cons
  have e1 := hv1.int
  have e2 := hv2.int
  subst e1
  subst e2
  obtain ⟨t, ht⟩ := ht
  refine row _ _ _ _ _ _ x y t ht (fun hp => ?_) (fun hp => ?_)
  · obtain ⟨t', ht', rfl⟩ := xr_to_s (ys hp)
    have : t' = t := by omega
    subst this
    exact k H locs ads ws tys ls L' r2 h1 h2 h3 h4 h5 hr2
  · cases no hp
    exact k H locs ads ws tys ls L' r2 h1 h2 h3 h4 h5 hr2
end XST
