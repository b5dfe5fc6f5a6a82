/-! ONE INSTRUCTION over the heap -/
theorem xr_nar1 {x : Int32} (h : x = 0 ∨ x = 1) : vp_nar .boolean x = x := by
  rcases h with rfl | rfl <;> decide
theorem xr_take {w : Nat} {ty : FieldType} {v v' : Value} {ads : List Nat} {b : Nat} (ht : xr_tyk w ty) (hv : xr_tak w v = true) (hr : xr_V ads b v v') : narrow ty v' = v' ∧ fits ty v' = true := by
  cases v with
  | int x =>
    have e := hr.int
    subst e
    rcases ht with ⟨rfl, rfl⟩ | ⟨rfl, rfl⟩ | ⟨rfl, -⟩
    · exact ⟨rfl, rfl⟩
    · have hx : x = 0 ∨ x = 1 := by
        have : (x == 0 || x == 1) = true := by simpa [xr_tak] using hv
        simpa using this
      rcases hx with rfl | rfl <;> exact ⟨by decide, by decide⟩
    · simp [xr_tak] at hv
  | ref a =>
    obtain ⟨q, rfl, -⟩ := hr.ref
    rcases ht with ⟨rfl, rfl⟩ | ⟨rfl, rfl⟩ | ⟨rfl, ⟨C, rfl⟩ | ⟨t, rfl⟩⟩
    · simp [xr_tak] at hv
    · simp [xr_tak] at hv
    · exact ⟨rfl, rfl⟩
    · exact ⟨rfl, rfl⟩
  | null =>
    have e := hr.null
    subst e
    rcases ht with ⟨rfl, rfl⟩ | ⟨rfl, rfl⟩ | ⟨rfl, ⟨C, rfl⟩ | ⟨t, rfl⟩⟩
    · simp [xr_tak] at hv
    · simp [xr_tak] at hv
    · exact ⟨rfl, rfl⟩
    · exact ⟨rfl, rfl⟩
  | _ => simp [xr_tak] at hv
theorem xr_rf_V {ads : List Nat} {b : Nat} {f g : Nat → Option Nat} (h : xr_R ads f g) (i : Nat) : xr_V ads b (xr_rf (f i)) (va_rf (g i)) := by
  rcases h i with ⟨h1, h2⟩ | ⟨a, q, h1, h2, h3⟩
  · rw [h1, h2]; exact trivial
  · rw [h1, h2]; exact h3
theorem xr_R.up {ads : List Nat} {f g : Nat → Option Nat} (h : xr_R ads f g) (i : Nat) {v q : Nat} (hv : ads[v]? = some q) : xr_R ads (va_up f i (some v)) (va_up g i (some q)) := by
  intro k
  by_cases hk : k = i
  · exact Or.inr ⟨v, q, by simp [va_up, hk], by simp [va_up, hk], hv⟩
  · rcases h k with ⟨h1, h2⟩ | ⟨a, x, h1, h2, h3⟩
    · exact Or.inl ⟨by simpa [va_up, hk] using h1, by simpa [va_up, hk] using h2⟩
    · exact Or.inr ⟨a, x, by simpa [va_up, hk] using h1, by simpa [va_up, hk] using h2, h3⟩
theorem xr_E.mk1 {ads : List Nat} {b : Nat} {tys : List (ClassId × FieldType)} {ty : FieldType} {n t0 : Nat} {c c'} {cA : ClassId} (ht : tys[t0]? = some (cA, ty)) (ha : xr_A ads c c') : xr_E ads b tys (.inl (ty, n, c)) (.inl (cA, n, c')) := ⟨rfl, ⟨t0, ht⟩, ha⟩
theorem xr_E.mk2 {ads : List Nat} {b : Nat} {tys : List (ClassId × FieldType)} {ci : Nat} {fs fs' : List Value} (ha : xr_Vs ads b fs fs') : xr_E ads b tys (.inr (ci, fs)) (.inr (ci, fs')) := ⟨rfl, ha⟩
theorem xr_A.ii {ads : List Nat} (f : Nat → Int32) : xr_A ads (.inl f) (.inl f) := rfl
theorem xr_A.ll {ads : List Nat} (f : Nat → Int64) : xr_A ads (.inr (.inl f)) (.inr (.inl f)) := rfl
theorem xr_A.qq {ads : List Nat} {f g : Nat → Option Nat} (h : xr_R ads f g) : xr_A ads (.inr (.inr (.inr (.inr f)))) (.inr (.inr (.inr (.inr g)))) := h
section XSH
variable {p : Program} {l : Launch} {e : Env} {R : Room} {s : State} {m : MethodId} {args : Array Value} {below : List Frame} {meth : Method} {c : Code} {Q : State → Prop}
variable {T : xrT} {D : va_G} {A : Nat → Prop} {b : Nat} {GW : List Cond} {ST : List (String × Nat × String)} {NC : List (String × String)} {AO : List String} {M : xrM} {a0 : List Nat} {c0 s0 : Nat} {h : xrH} {pc n : Nat} {L : xrL} {st : List Value} {F : xrF × xrH}
theorem xg_ia (C : xr_Cx p l s m args meth c T A b GW ST NC AO M) (hd : decode (xr_by M) pc = .ok (.iaload, 1)) (hn : n = 1) (hs : xr_ald T .int n pc L st h = some F) (k : xr_G p l e R s m args below meth c Q T D A b M a0 c0 s0 F.2 F.1.1 F.1.2.1 F.1.2.2) : xr_G p l e R s m args below meth c Q T D A b M a0 c0 s0 h pc L st := by
  subst hn
  obtain ⟨hx, hb, -, -, -, -, -, -, -, hE, -, -⟩ := C
  rcases xr_ald_s hs with ⟨i, a, r, z, f, rfl, hm, hin, rfl⟩ | ⟨i, j, r, rfl, hty, hin, rfl⟩
  · intro H locs ads ws tys ls L' st' h1 h2 h3 h4 h5 h6
    obtain ⟨v1, r1, rfl, hv1, hr1⟩ := h6.cons
    obtain ⟨v2, r2, rfl, hv2, hr2⟩ := hr1.cons
    have e1 := hv1.int
    subst e1
    obtain ⟨q, rfl, hq⟩ := hv2.ref
    obtain ⟨e', hw, he⟩ := h2.at hq
    rw [hm] at he
    obtain ⟨cA, c', t0, rfl, ht0, hc'⟩ := he.arr
    have e2 := hc'.i
    subst e2
    exact va_iald hx hb h2.1 h2.2.1 a t0 hw ht0 hin hd (k H locs ads ws tys ls L' (.int (f i.toNatClampNeg) :: r2) h1 h2 h3 h4 h5 ⟨rfl, hr2⟩)
  · intro H locs ads ws tys ls L' st' h1 h2 h3 h4 h5 h6
    obtain ⟨v1, r1, rfl, hv1, hr1⟩ := h6.cons
    obtain ⟨v2, r2, rfl, hv2, hr2⟩ := hr1.cons
    have e1 := hv1.int
    subst e1
    have e2 := hv2.ret1
    subst e2
    exact va_sld hx hb hE.2.2.1 hE.2.2.2.1 hE.2.2.2.2.1 h3 hin hd (k H locs ads ws tys ls L' (.int (T.2.2.2.2 i.toNatClampNeg) :: r2) h1 h2 h3 h4 h5 ⟨rfl, hr2⟩)
theorem xg_za (C : xr_Cx p l s m args meth c T A b GW ST NC AO M) (hd : decode (xr_by M) pc = .ok (.baload, 1)) (hn : n = 1) (hs : xr_ald T .boolean n pc L st h = some F) (k : xr_G p l e R s m args below meth c Q T D A b M a0 c0 s0 F.2 F.1.1 F.1.2.1 F.1.2.2) : xr_G p l e R s m args below meth c Q T D A b M a0 c0 s0 h pc L st := by
  subst hn
  obtain ⟨hx, hb, -, -, -, -, -, -, -, hE, -, -⟩ := C
  rcases xr_ald_s hs with ⟨i, a, r, z, f, rfl, hm, hin, rfl⟩ | ⟨i, j, r, rfl, hty, hin, rfl⟩
  · intro H locs ads ws tys ls L' st' h1 h2 h3 h4 h5 h6
    obtain ⟨v1, r1, rfl, hv1, hr1⟩ := h6.cons
    obtain ⟨v2, r2, rfl, hv2, hr2⟩ := hr1.cons
    have e1 := hv1.int
    subst e1
    obtain ⟨q, rfl, hq⟩ := hv2.ref
    obtain ⟨e', hw, he⟩ := h2.at hq
    rw [hm] at he
    obtain ⟨cA, c', t0, rfl, ht0, hc'⟩ := he.arr
    have e2 := hc'.i
    subst e2
    exact va_zald hx hb h2.1 h2.2.1 a t0 hw ht0 hin hd (k H locs ads ws tys ls L' (.int (f i.toNatClampNeg) :: r2) h1 h2 h3 h4 h5 ⟨rfl, hr2⟩)
  · intro H locs ads ws tys ls L' st' h1 h2 h3 h4 h5 h6
    obtain ⟨v1, r1, rfl, hv1, hr1⟩ := h6.cons
    obtain ⟨v2, r2, rfl, hv2, hr2⟩ := hr1.cons
    have e1 := hv1.int
    subst e1
    have e2 := hv2.ret1
    subst e2
    cases hty
theorem xg_is (C : xr_Cx p l s m args meth c T A b GW ST NC AO M) (hd : decode (xr_by M) pc = .ok (.iastore, 1)) (hn : n = 1) (hs : xr_ast .int n pc L st h = some F) (k : xr_G p l e R s m args below meth c Q T D A b M a0 c0 s0 F.2 F.1.1 F.1.2.1 F.1.2.2) : xr_G p l e R s m args below meth c Q T D A b M a0 c0 s0 h pc L st := by
  subst hn
  obtain ⟨hx, hb, -⟩ := C
  obtain ⟨x, i, a, r, z, f, rfl, hm, hin, hx0, rfl⟩ := xr_ast_s hs
  intro H locs ads ws tys ls L' st' h1 h2 h3 h4 h5 h6
  obtain ⟨v1, r1, rfl, hv1, hr1⟩ := h6.cons
  obtain ⟨v2, r2, rfl, hv2, hr2⟩ := hr1.cons
  obtain ⟨v3, r3, rfl, hv3, hr3⟩ := hr2.cons
  have e1 := hv1.int
  subst e1
  have e2 := hv2.int
  subst e2
  obtain ⟨q, rfl, hq⟩ := hv3.ref
  obtain ⟨e', hw, he⟩ := h2.at hq
  rw [hm] at he
  obtain ⟨cA, c', t0, rfl, ht0, hc'⟩ := he.arr
  have e2 := hc'.i
  subst e2
  refine va_iast hx hb h2.1 h2.2.1 h2.2.2.1 h3 a t0 hw ht0 hin hd fun H1 l1 hP hD hS => ?_
  · skip
    exact k H1 l1 ads _ tys ls L' r3 h1 (h2.set hw (e := .inl (.int, z, .inl (upd f i.toNatClampNeg x))) (xr_E.mk1 ht0 (xr_A.ii _)) hP hD) hS h4 h5 hr3
theorem xg_zs (C : xr_Cx p l s m args meth c T A b GW ST NC AO M) (hd : decode (xr_by M) pc = .ok (.bastore, 1)) (hn : n = 1) (hs : xr_ast .boolean n pc L st h = some F) (k : xr_G p l e R s m args below meth c Q T D A b M a0 c0 s0 F.2 F.1.1 F.1.2.1 F.1.2.2) : xr_G p l e R s m args below meth c Q T D A b M a0 c0 s0 h pc L st := by
  subst hn
  obtain ⟨hx, hb, -⟩ := C
  obtain ⟨x, i, a, r, z, f, rfl, hm, hin, hx0, rfl⟩ := xr_ast_s hs
  intro H locs ads ws tys ls L' st' h1 h2 h3 h4 h5 h6
  obtain ⟨v1, r1, rfl, hv1, hr1⟩ := h6.cons
  obtain ⟨v2, r2, rfl, hv2, hr2⟩ := hr1.cons
  obtain ⟨v3, r3, rfl, hv3, hr3⟩ := hr2.cons
  have e1 := hv1.int
  subst e1
  have e2 := hv2.int
  subst e2
  obtain ⟨q, rfl, hq⟩ := hv3.ref
  obtain ⟨e', hw, he⟩ := h2.at hq
  rw [hm] at he
  obtain ⟨cA, c', t0, rfl, ht0, hc'⟩ := he.arr
  have e2 := hc'.i
  subst e2
  refine va_zast hx hb h2.1 h2.2.1 h2.2.2.1 h3 a t0 hw ht0 hin hd fun H1 l1 hP hD hS => ?_
  · skip
    have hxx : x = 0 ∨ x = 1 := by
      rcases hx0 with h0 | h0
      · cases h0
      · exact h0
    rw [xr_nar1 hxx] at hP hD
    exact k H1 l1 ads _ tys ls L' r3 h1 (h2.set hw (e := .inl (.boolean, z, .inl (upd f i.toNatClampNeg x))) (xr_E.mk1 ht0 (xr_A.ii _)) hP hD) hS h4 h5 hr3
theorem xg_la64 (C : xr_Cx p l s m args meth c T A b GW ST NC AO M) (hd : decode (xr_by M) pc = .ok (.laload, 1)) (hn : n = 1) (hs : xr_lald n pc L st h = some F) (k : xr_G p l e R s m args below meth c Q T D A b M a0 c0 s0 F.2 F.1.1 F.1.2.1 F.1.2.2) : xr_G p l e R s m args below meth c Q T D A b M a0 c0 s0 h pc L st := by
  subst hn
  obtain ⟨hx, hb, -⟩ := C
  obtain ⟨i, a, r, z, f, rfl, hm, hin, rfl⟩ := xr_lald_s hs
  intro H locs ads ws tys ls L' st' h1 h2 h3 h4 h5 h6
  obtain ⟨v1, r1, rfl, hv1, hr1⟩ := h6.cons
  obtain ⟨v2, r2, rfl, hv2, hr2⟩ := hr1.cons
  have e1 := hv1.int
  subst e1
  obtain ⟨q, rfl, hq⟩ := hv2.ref
  obtain ⟨e', hw, he⟩ := h2.at hq
  rw [hm] at he
  obtain ⟨cA, c', t0, rfl, ht0, hc'⟩ := he.arr
  have e2 := hc'.l
  subst e2
  exact va_lald hx hb h2.1 h2.2.1 a t0 hw ht0 hin hd (k H locs ads ws tys ls L' (.long (f i.toNatClampNeg) :: r2) h1 h2 h3 h4 h5 ⟨rfl, hr2⟩)
theorem xg_ls64 (C : xr_Cx p l s m args meth c T A b GW ST NC AO M) (hd : decode (xr_by M) pc = .ok (.lastore, 1)) (hn : n = 1) (hs : xr_last n pc L st h = some F) (k : xr_G p l e R s m args below meth c Q T D A b M a0 c0 s0 F.2 F.1.1 F.1.2.1 F.1.2.2) : xr_G p l e R s m args below meth c Q T D A b M a0 c0 s0 h pc L st := by
  subst hn
  obtain ⟨hx, hb, -⟩ := C
  obtain ⟨x, i, a, r, z, f, rfl, hm, hin, rfl⟩ := xr_last_s hs
  intro H locs ads ws tys ls L' st' h1 h2 h3 h4 h5 h6
  obtain ⟨v1, r1, rfl, hv1, hr1⟩ := h6.cons
  obtain ⟨v2, r2, rfl, hv2, hr2⟩ := hr1.cons
  obtain ⟨v3, r3, rfl, hv3, hr3⟩ := hr2.cons
  have e1 := hv1.long
  subst e1
  have e2 := hv2.int
  subst e2
  obtain ⟨q, rfl, hq⟩ := hv3.ref
  obtain ⟨e', hw, he⟩ := h2.at hq
  rw [hm] at he
  obtain ⟨cA, c', t0, rfl, ht0, hc'⟩ := he.arr
  have e2 := hc'.l
  subst e2
  exact va_last hx hb h2.1 h2.2.1 h2.2.2.1 h3 a t0 hw ht0 hin hd (fun H1 l1 hP hD hS => k H1 l1 ads _ tys ls L' r3 h1 (h2.set hw (e := .inl (.long, z, .inr (.inl (vp_updL f i.toNatClampNeg x)))) (xr_E.mk1 ht0 (xr_A.ll _)) hP hD) hS h4 h5 hr3)
theorem xg_qa (C : xr_Cx p l s m args meth c T A b GW ST NC AO M) (hd : decode (xr_by M) pc = .ok (.aaload, 1)) (hn : n = 1) (hs : xr_qald n pc L st h = some F) (k : xr_G p l e R s m args below meth c Q T D A b M a0 c0 s0 F.2 F.1.1 F.1.2.1 F.1.2.2) : xr_G p l e R s m args below meth c Q T D A b M a0 c0 s0 h pc L st := by
  subst hn
  obtain ⟨hx, hb, -⟩ := C
  obtain ⟨i, a, r, C0, z, f, rfl, hm, hin, rfl⟩ := xr_qald_s hs
  intro H locs ads ws tys ls L' st' h1 h2 h3 h4 h5 h6
  obtain ⟨v1, r1, rfl, hv1, hr1⟩ := h6.cons
  obtain ⟨v2, r2, rfl, hv2, hr2⟩ := hr1.cons
  have e1 := hv1.int
  subst e1
  obtain ⟨q, rfl, hq⟩ := hv2.ref
  obtain ⟨e', hw, he⟩ := h2.at hq
  rw [hm] at he
  obtain ⟨cA, c', t0, rfl, ht0, hc'⟩ := he.arr
  obtain ⟨g, rfl, hg⟩ := hc'.q
  exact va_aldq hx hb h2.1 h2.2.1 a t0 hw ht0 hin hd (k H locs ads ws tys ls L' (va_rf (g i.toNatClampNeg) :: r2) h1 h2 h3 h4 h5 ⟨xr_rf_V hg _, hr2⟩)
theorem xg_qs (C : xr_Cx p l s m args meth c T A b GW ST NC AO M) (hd : decode (xr_by M) pc = .ok (.aastore, 1)) (hn : n = 1) (hs : xr_qast T n pc L st h = some F) (k : xr_G p l e R s m args below meth c Q T D A b M a0 c0 s0 F.2 F.1.1 F.1.2.1 F.1.2.2) : xr_G p l e R s m args below meth c Q T D A b M a0 c0 s0 h pc L st := by
  subst hn
  obtain ⟨hx, hb, -⟩ := C
  obtain ⟨v, i, a, r, z, f, ci, vs, q0, rfl, hm, hmv, hcl, hin, rfl⟩ := xr_qast_s hs
  intro H locs ads ws tys ls L' st' h1 h2 h3 h4 h5 h6
  obtain ⟨v1, r1, rfl, hv1, hr1⟩ := h6.cons
  obtain ⟨v2, r2, rfl, hv2, hr2⟩ := hr1.cons
  obtain ⟨v3, r3, rfl, hv3, hr3⟩ := hr2.cons
  obtain ⟨qv, rfl, hqv⟩ := hv1.ref
  have e2 := hv2.int
  subst e2
  obtain ⟨q, rfl, hq⟩ := hv3.ref
  obtain ⟨e', hw, he⟩ := h2.at hq
  obtain ⟨e2', hw2, he2⟩ := h2.at hqv
  rw [hm] at he
  rw [hmv] at he2
  obtain ⟨cA, c', t0, rfl, ht0, hc'⟩ := he.arr
  obtain ⟨g, rfl, hg⟩ := hc'.q
  obtain ⟨fs', rfl, -⟩ := he2.obj
  exact va_astq hx hb h2.1 h2.2.1 h2.2.2.1 h3 a t0 v ci hw ht0 hw2 hcl hin hd (fun H1 l1 hP hD hS => k H1 l1 ads _ tys ls L' r3 h1 (h2.set hw (e := .inl (.object q0.1, z, .inr (.inr (.inr (.inr (va_up f i.toNatClampNeg (some v))))))) (xr_E.mk1 ht0 (xr_A.qq (hg.up _ hqv))) hP hD) hS h4 h5 hr3)
theorem xg_len (C : xr_Cx p l s m args meth c T A b GW ST NC AO M) (hd : decode (xr_by M) pc = .ok (.arraylength, 1)) (hn : n = 1) (hs : xr_len T n pc L st h = some F) (k : xr_G p l e R s m args below meth c Q T D A b M a0 c0 s0 F.2 F.1.1 F.1.2.1 F.1.2.2) : xr_G p l e R s m args below meth c Q T D A b M a0 c0 s0 h pc L st := by
  subst hn
  obtain ⟨hx, hb, -, -, -, -, -, -, -, hE, -, -⟩ := C
  rcases xr_len_s hs with ⟨a, r, ty, z, cc, rfl, hm, rfl⟩ | ⟨j, r, rfl, rfl⟩
  · intro H locs ads ws tys ls L' st' h1 h2 h3 h4 h5 h6
    obtain ⟨v2, r2, rfl, hv2, hr2⟩ := h6.cons
    obtain ⟨q, rfl, hq⟩ := hv2.ref
    obtain ⟨e', hw, he⟩ := h2.at hq
    rw [hm] at he
    obtain ⟨cA, c', t0, rfl, ht0, hc'⟩ := he.arr
    exact va_alen hx hb h2.1 h2.2.1 a t0 hw ht0 rfl hd (k H locs ads ws tys ls L' (.int (Int32.ofNat z) :: r2) h1 h2 h3 h4 h5 ⟨rfl, hr2⟩)
  · intro H locs ads ws tys ls L' st' h1 h2 h3 h4 h5 h6
    obtain ⟨v2, r2, rfl, hv2, hr2⟩ := h6.cons
    have e2 := hv2.ret1
    subst e2
    exact va_slen hx hb hE.2.2.1 hE.2.2.2.1 hE.2.2.2.2.1 h3 hd (k H locs ads ws tys ls L' (.int (Int32.ofNat T.2.2.2.1) :: r2) h1 h2 h3 h4 h5 ⟨rfl, hr2⟩)
theorem xg_fld {f x : Nat} {C0 : String} {F0' : u_T} {N : Nat} (C : xr_Cx p l s m args meth c T A b GW ST NC AO M) (hK : xr_Ks T GW) (hd : decode (xr_by M) pc = .ok (.getfield x, 3)) (hcl : T.2.1[f / 64]? = some (C0, F0', N)) (hN : f % 64 < N) (hl : Cond.fieldLink (xr_nm M).cls x C0 (F0' (f % 64)).2.1 (F0' (f % 64)).2.2.1 ∈ GW)
    (hn : n = 3) (hs : xr_fld f n pc L st h = some F) (k : xr_G p l e R s m args below meth c Q T D A b M a0 c0 s0 F.2 F.1.1 F.1.2.1 F.1.2.2) : xr_G p l e R s m args below meth c Q T D A b M a0 c0 s0 h pc L st := by
  subst hn
  obtain ⟨hx, hb, -, hown, hts, -⟩ := C
  obtain ⟨k1, -, -, k4, -⟩ := hK _ _ _ _ hcl
  obtain ⟨a, r, fs, v, rfl, hm, hv, rfl⟩ := xr_fld_s hs
  intro H locs ads ws tys ls L' st' h1 h2 h3 h4 h5 h6
  obtain ⟨v2, r2, rfl, hv2, hr2⟩ := h6.cons
  obtain ⟨q, rfl, hq⟩ := hv2.ref
  obtain ⟨e', hw, he⟩ := h2.at hq
  rw [hm] at he
  obtain ⟨fs', rfl, hfs⟩ := he.obj
  obtain ⟨v', hv', hvv⟩ := hfs.get _ _ hv
  exact va_get hx hb hts k1 hown h2.1 h2.2.1 a hw hcl (f % 64) hN (hts _ hl) (fun x hx => by rw [k4 _ hN] at hx; exact hx) hv' hd (k H locs ads ws tys ls L' (v' :: r2) h1 h2 h3 h4 h5 ⟨hvv, hr2⟩)
theorem xg_pfl {f y : Nat} (C : xr_Cx p l s m args meth c T A b GW ST NC AO M) (hK : xr_Ks T GW) (ho : xr_okp T GW M pc n f y)
    (hs : xr_pfl y f n pc L st h = some F) (k : xr_G p l e R s m args below meth c Q T D A b M a0 c0 s0 F.2 F.1.1 F.1.2.1 F.1.2.2) : xr_G p l e R s m args below meth c Q T D A b M a0 c0 s0 h pc L st := by
  obtain ⟨rfl, x, C0, F0', N, ty, hd, hcl, hN, hl, hty, htk, hfin⟩ := ho
  obtain ⟨hx, hb, -, hown, hts, hname, -⟩ := C
  obtain ⟨k1, ⟨ty0, k2, -⟩, k3, k4, k5, -⟩ := hK _ _ _ _ hcl
  obtain ⟨v, a, r, fs, rfl, hm, hlt, hta, rfl⟩ := xr_pfl_s hs
  intro H locs ads ws tys ls L' st' h1 h2 h3 h4 h5 h6
  obtain ⟨v1, r1, rfl, hv1, hr1⟩ := h6.cons
  obtain ⟨v2, r2, rfl, hv2, hr2⟩ := hr1.cons
  obtain ⟨q, rfl, hq⟩ := hv2.ref
  obtain ⟨e', hw, he⟩ := h2.at hq
  rw [hm] at he
  obtain ⟨fs', rfl, hfs⟩ := he.obj
  obtain ⟨hnar, hfit⟩ := xr_take htk hta hv1
  have hlt' : f % 64 < fs'.length := by rw [hfs.len]; exact hlt
  rcases hfin with hfin | ⟨hfin, hin2, hC0⟩
  · exact va_put hx hb hts k1 ty0 k2 k3 hown h2.1 h2.2.1 h2.2.2.1 h3 a hw hcl (f % 64) hN (hts _ hl) (fun x hx => by rw [k4 _ hN] at hx; exact hx) hfin hty hnar hfit hlt' hd (fun H1 l1 hP hD hS => k H1 l1 ads _ tys ls L' r2 h1 (h2.set hw (e := .inr (f / 64, fs.set (f % 64) v)) (xr_E.mk2 (hfs.set hv1 _)) hP hD) hS h4 h5 hr2)
  · exact va_putF hx hb hts k1 ty0 k2 k3 hown h2.1 h2.2.1 h2.2.2.1 h3 a hw hcl (f % 64) hN (hts _ hl) (fun x hx => by rw [k4 _ hN] at hx; exact hx) hfin (hname.trans hin2) ((k4 _ hN).trans hC0) hty hnar hfit hlt' hd (fun H1 l1 hP hD hS => k H1 l1 ads _ tys ls L' r2 h1 (h2.set hw (e := .inr (f / 64, fs.set (f % 64) v)) (xr_E.mk2 (hfs.set hv1 _)) hP hD) hS h4 h5 hr2)
theorem xr_Vs.self {ads : List Nat} {b : Nat} : ∀ {vs : List Value}, (∀ v ∈ vs, v = .null ∨ v = .int 0 ∨ v = .long 0) → xr_Vs ads b vs vs
  | [], _ => trivial
  | v :: t, g => by
    refine ⟨?_, xr_Vs.self (fun v hv => g v (List.mem_cons_of_mem _ hv))⟩
    rcases g v List.mem_cons_self with rfl | rfl | rfl
    · exact trivial
    · exact rfl
    · exact rfl
theorem xg_new {ci x : Nat} {C0 : String} {F0' : u_T} {N : Nat} (C : xr_Cx p l s m args meth c T A b GW ST NC AO M) (hK : xr_Ks T GW) (hd : decode (xr_by M) pc = .ok (.new x, 3)) (hcl : T.2.1[ci]? = some (C0, F0', N)) (hl : Cond.classLink (xr_nm M).cls x C0 ∈ GW)
    (hn : n = 3) (hs : some ((pc + n, L, .ref h.2.2.1 :: st), xr_new h (T.2.2.1 ci).length (.inr (ci, T.2.2.1 ci))) = some F) (hc : c0 ≤ h.1) (hc' : s0 ≤ h.2.1) (hR : F.2.1 - c0 ≤ R.cells ∧ F.2.2.1 - s0 ≤ R.slots) (k : xr_G p l e R s m args below meth c Q T D A b M a0 c0 s0 F.2 F.1.1 F.1.2.1 F.1.2.2) : xr_G p l e R s m args below meth c Q T D A b M a0 c0 s0 h pc L st := by
  subst hn
  cases hs
  obtain ⟨hx, hb, -, hown, hts, -, -, -, -, -, -, hA⟩ := C
  obtain ⟨k1, ⟨ty0, k2, k2'⟩, k3, k4, k5, k6, k7, k8⟩ := hK _ _ _ _ hcl
  have hR1 : h.1 + 1 - c0 ≤ R.cells := hR.1
  have hR2 : h.2.1 + (T.2.2.1 ci).length - s0 ≤ R.slots := hR.2
  intro H locs ads ws tys ls L' st' h1 h2 h3 h4 h5 h6
  refine va_new hx hb hts k1 ty0 k2 hown (hts _ hl) (hts _ k6) (hts _ k7) h2.1 h2.2.1 h2.2.2.1 h3 hA hcl k2' (by omega) (by omega) hd (fun q H1 hP hD hS => ?_)
  have w := h2.add (k := (T.2.2.1 ci).length) (e := .inr (ci, T.2.2.1 ci)) (ts := []) (by rw [List.append_nil]; exact h2.1) (xr_E.mk2 (xr_Vs.self k8)) hP hD
  rw [List.append_nil] at w
  refine W.cs (show h.1 - c0 + 1 = h.1 + 1 - c0 by omega) (show h.2.1 - s0 + N = h.2.1 + (T.2.2.1 ci).length - s0 by omega) ?_
  exact k H1 locs (ads ++ [q]) _ tys ls L' (.ref q :: st') (h1.tr (xr_le.app _ _)) w hS h4 (h5.mono (xr_le.app _ _)) ⟨h2.last q, h6.mono (xr_le.app _ _)⟩
theorem xg_nwa {t : ArrayType} (C : xr_Cx p l s m args meth c T A b GW ST NC AO M) (hd : decode (xr_by M) pc = .ok (.newarray t, 2)) (hl : Cond.arrayClass (newarray.typeOf t) ∈ GW) {kk : Int32} {r : List Value} {cc : vp_A} (hnw : xr_nwa t = some cc) (hk : ¬ (kk < 0 ∨ 65536 < kk.toNatClampNeg))
    (hn : n = 2) (hs : some ((pc + n, L, .ref h.2.2.1 :: r), xr_new h kk.toNatClampNeg (.inl (newarray.typeOf t, kk.toNatClampNeg, cc.2))) = some F) (hc : c0 ≤ h.1) (hc' : s0 ≤ h.2.1) (hR : F.2.1 - c0 ≤ R.cells ∧ F.2.2.1 - s0 ≤ R.slots) (k : xr_G p l e R s m args below meth c Q T D A b M a0 c0 s0 F.2 F.1.1 F.1.2.1 F.1.2.2) : xr_G p l e R s m args below meth c Q T D A b M a0 c0 s0 h pc L (.int kk :: r) := by
  subst hn
  cases hs
  obtain ⟨hx, hb, -, hown, hts, -, -, -, -, -, -, hA⟩ := C
  have hR1 : h.1 + 1 - c0 ≤ R.cells := hR.1
  have hR2 : h.2.1 + kk.toNatClampNeg - s0 ≤ R.slots := hR.2
  have hk0 : ¬ kk < 0 := fun z => hk (Or.inl z)
  have hk1 : kk.toNatClampNeg ≤ 65536 := Nat.not_lt.mp (fun z => hk (Or.inr z))
  have hcb : componentBytes (newarray.typeOf t) ≤ 8 := by cases t <;> decide
  have ha : ∀ cA : ClassId, vp_cell cA (kk.toNatClampNeg, cc.2) = arrV cA kk.toNatClampNeg (fun _ => defaultValue (newarray.typeOf t)) := by
    intro cA
    cases t <;> cases hnw <;> rfl
  have hAA : ∀ ads : List Nat, xr_A ads cc.2 cc.2 := by
    intro ads
    cases t <;> cases hnw <;> exact rfl
  intro H locs ads ws tys ls L' st' h1 h2 h3 h4 h5 h6
  obtain ⟨v1, r1, rfl, hv1, hr1⟩ := h6.cons
  have e1 := hv1.int
  subst e1
  refine va_newa hx hb (hts _ hl) rfl h2.1 h2.2.1 h2.2.2.1 h3 hA ha hk0 rfl (Nat.le_trans (Nat.mul_le_mul hk1 hcb) (Nat.le_of_ble_eq_true rfl)) (by omega) (by omega) hd (fun q cA H1 hK hP hD hS => ?_)
  have w := h2.add (k := kk.toNatClampNeg) (e := .inl (newarray.typeOf t, kk.toNatClampNeg, cc.2)) (ts := [(cA, newarray.typeOf t)]) hK (xr_E.mk1 (t0 := tys.length) (by simp) (hAA _)) hP hD
  refine W.cs (show h.1 - c0 + 1 = h.1 + 1 - c0 by omega) (show h.2.1 - s0 + kk.toNatClampNeg = h.2.1 + kk.toNatClampNeg - s0 by omega) ?_
  exact k H1 locs (ads ++ [q]) _ _ ls L' (.ref q :: r1) (h1.tr (xr_le.app _ _)) w hS h4 (h5.mono (xr_le.app _ _)) ⟨h2.last q, hr1.mono (xr_le.app _ _)⟩
theorem xg_anw {x : Nat} {q0 : vw_C} (C : xr_Cx p l s m args meth c T A b GW ST NC AO M) (hd : decode (xr_by M) pc = .ok (.anewarray x, 3)) (hl : Cond.classLink (xr_nm M).cls x q0.1 ∈ GW) (hao : q0.1 ∈ AO) {kk : Int32} {r : List Value} (hk : ¬ (kk < 0 ∨ 65536 < kk.toNatClampNeg))
    (hn : n = 3) (hs : some ((pc + n, L, .ref h.2.2.1 :: r), xr_new h kk.toNatClampNeg (.inl (.object q0.1, kk.toNatClampNeg, .inr (.inr (.inr (.inr (fun _ => none))))))) = some F) (hc : c0 ≤ h.1) (hc' : s0 ≤ h.2.1) (hR : F.2.1 - c0 ≤ R.cells ∧ F.2.2.1 - s0 ≤ R.slots) (k : xr_G p l e R s m args below meth c Q T D A b M a0 c0 s0 F.2 F.1.1 F.1.2.1 F.1.2.2) : xr_G p l e R s m args below meth c Q T D A b M a0 c0 s0 h pc L (.int kk :: r) := by
  subst hn
  cases hs
  obtain ⟨hx, hb, -, hown, hts, -, -, -, -, hE, -, hA⟩ := C
  have hR1 : h.1 + 1 - c0 ≤ R.cells := hR.1
  have hR2 : h.2.1 + kk.toNatClampNeg - s0 ≤ R.slots := hR.2
  have hk0 : ¬ kk < 0 := fun z => hk (Or.inl z)
  have hk1 : kk.toNatClampNeg ≤ 65536 := Nat.not_lt.mp (fun z => hk (Or.inr z))
  intro H locs ads ws tys ls L' st' h1 h2 h3 h4 h5 h6
  obtain ⟨v1, r1, rfl, hv1, hr1⟩ := h6.cons
  have e1 := hv1.int
  subst e1
  refine va_newq hx hb hown (hts _ hl) (hE.2.2.2.2.2.2.2 _ hao) h2.1 h2.2.1 h2.2.2.1 h3 hA hk0 rfl (by omega) (by omega) (by omega) hd (fun q cA H1 hK hP hD hS => ?_)
  have w := h2.add (k := kk.toNatClampNeg) (e := .inl (.object q0.1, kk.toNatClampNeg, .inr (.inr (.inr (.inr (fun _ => none)))))) (ts := [(cA, .object q0.1)]) hK (xr_E.mk1 (t0 := tys.length) (by simp) (xr_A.qq (fun _ => Or.inl ⟨rfl, rfl⟩))) hP hD
  refine W.cs (show h.1 - c0 + 1 = h.1 + 1 - c0 by omega) (show h.2.1 - s0 + kk.toNatClampNeg = h.2.1 + kk.toNatClampNeg - s0 by omega) ?_
  exact k H1 locs (ads ++ [q]) _ _ ls L' (.ref q :: r1) (h1.tr (xr_le.app _ _)) w hS h4 (h5.mono (xr_le.app _ _)) ⟨h2.last q, hr1.mono (xr_le.app _ _)⟩
end XSH
