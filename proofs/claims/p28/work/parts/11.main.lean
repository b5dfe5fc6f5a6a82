/-! THE SIMULATION: by the number of steps -/
def xr_P (l : Launch) (T : xrT) (D : va_G) (A : Nat → Prop) (b : Nat) (GW : List Cond) (ST : List (String × Nat × String)) (NC : List (String × String)) (AO : List String) (N : Nat) : Prop :=
  ∀ (p : Program) (e : Env) (R : Room) (s : State) (m : MethodId) (args : Array Value) (below : List Frame) (meth : Method) (c : Code) (Q : State → Prop) (M : xrM) (j d pc : Nat) (L : xrL) (st : List Value) (h : xrH) (o : xrO) (h' : xrH) (a0 : List Nat) (c0 s0 : Nat),
    T.1[j]? = some M → xr_Cx p l s m args meth c T A b GW ST NC AO M → xr_run T N d j pc L st h = some (o, h') → c0 ≤ h.1 → s0 ≤ h.2.1 → (h'.1 - c0 ≤ R.cells ∧ h'.2.1 - s0 ≤ R.slots) → (d + 16 ≤ R.frames ∧ 200 + 64 * d ≤ R.locals) →
    (∀ (v : Option Value) (i : Instr) (pc1 : Nat) (L1 : xrL) (st1 : List Value), o = .inl v → xr_end M i st1 = some v → decode (xr_by M) pc1 = .ok (i, 1) → xr_G p l e R s m args below meth c Q T D A b M a0 c0 s0 h' pc1 L1 st1) →
    (∀ k, o = .inr k → ∃ mc ms, Q = vx_MQ below (xr_Qc T D A b o h' a0) (xr_XC T D A b o h' a0) args s mc ms A ∧ h'.1 - c0 ≤ mc ∧ h'.2.1 - s0 ≤ ms) →
    xr_G p l e R s m args below meth c Q T D A b M a0 c0 s0 h pc L st
theorem xr_Vo.list {ads : List Nat} {b : Nat} : ∀ {v v' : Option Value}, xr_Vo ads b v v' → xr_Vs ads b v.toList v'.toList
  | none, none, _ => trivial
  | some _, some _, g => ⟨g, trivial⟩
  | none, some _, g => g.elim
  | some _, none, g => g.elim
section XOF
variable {l : Launch}
/-- as vx_ofW, vx_ofWH, for methods of the JDK too -/
theorem xr_ofW {y : MethodName} {ws ws' : List Cond} {rm : Room} {Pc : Array Value → State → Prop} {Qc : Array Value → State → Outcome → State → Prop} {XC : String → State → State → Prop} {mc ms : Nat} {free : Addr → Prop} {cc : ByteArray} {maxL : Nat} {ret : Option FieldType}
    (hy : plainFor y = true) (hw : ws = Cond.code y cc maxL ret :: ws')
    (body : ∀ p e s m args below meth c s₁, BodyLoose p l y (headSpec ws rm) cc maxL ret e s m args below meth c s₁ → c.maxLocals = maxL → (∀ x ∈ c.exceptionTable.toList, False) → Pc args s →
      W p l e (headSpec ws rm).room s m args below meth c s.heap [] 0 0 (vx_MQ below Qc XC args s mc ms free) (entryFrame m args maxL)) : vx_Met l y ws rm Pc Qc XC mc ms free := by
  refine MetFree.of_bodySF (code := cc) (maxLocals := maxL) (ret := ret) hy ?_ ?_
  · intro args s m h hn
    obtain ⟨meth, c, h1, h2, h3, h4, h5, h6, -, -⟩ := Cond.code_spec hn (atoms_spec (ws := ws) h _ (by rw [hw]; exact List.mem_cons_self))
    exact ⟨meth, c, h1, h2, h3, h4, h5, h6⟩
  · intro p e s m args below meth c s₁ B hml hP _
    have hh0 : s₁.heap = s.heap := by rw [B.state]; rfl
    have ht : ∀ x ∈ c.exceptionTable.toList, False := by
      obtain ⟨meth9, c9, h1, h2, -, -, -, -, h7, -⟩ := Cond.code_spec B.named (atoms_spec (ws := ws) B.pre _ (by rw [hw]; exact List.mem_cons_self))
      cases Option.some.inj (h1.symm.trans B.method)
      cases Option.some.inj (h2.symm.trans (Stand.of_body B).code)
      intro x hx
      rw [Array.isEmpty_iff.mp h7] at hx
      cases hx
    obtain ⟨t, a1, o, b1, b2, b3⟩ := body p e s m args below meth c s₁ B hml ht hP s₁ hh0 (Stand.of_body B)
    exact ⟨t, o, a1, b1, b2, b3⟩
theorem xr_ofWH {y : MethodName} {ws ws' : List Cond} {rm : Room} {Pc : Array Value → State → Prop} {Qc : Array Value → State → Outcome → State → Prop} {XC : String → State → State → Prop} {mc ms : Nat} {free : Addr → Prop} {cc : ByteArray} {maxL : Nat} {ret : Option FieldType} {hh : List (Nat × Nat × Nat × Nat)}
    (hy : plainFor y = true) (hw : ws = Cond.codeWith y cc maxL ret hh :: ws')
    (body : ∀ p e s m args below meth c s₁, BodyLoose p l y (headSpec ws rm) cc maxL ret e s m args below meth c s₁ → c.maxLocals = maxL → Pc args s →
      W p l e (headSpec ws rm).room s m args below meth c s.heap [] 0 0 (vx_MQ below Qc XC args s mc ms free) (entryFrame m args maxL)) : vx_Met l y ws rm Pc Qc XC mc ms free := by
  refine MetFree.of_bodySF (code := cc) (maxLocals := maxL) (ret := ret) hy ?_ ?_
  · intro args s m h hn
    obtain ⟨m9, meth, c, hn9, h1, h2, h3, h4, -, h5, h6, -⟩ := Cond.codeWith_spec (atoms_spec (ws := ws) h _ (by rw [hw]; exact List.mem_cons_self))
    cases hn.symm.trans hn9
    exact ⟨meth, c, h1, h2, h3, h4, h5, h6⟩
  · intro p e s m args below meth c s₁ B hml hP _
    have hh0 : s₁.heap = s.heap := by rw [B.state]; rfl
    obtain ⟨t, a1, o, b1, b2, b3⟩ := body p e s m args below meth c s₁ B hml hP s₁ hh0 (Stand.of_body B)
    exact ⟨t, o, a1, b1, b2, b3⟩
end XOF
section XMN
variable {l : Launch} {T : xrT} {D : va_G} {A : Nat → Prop} {b : Nat} {GW : List Cond} {ST : List (String × Nat × String)} {NC : List (String × String)} {AO : List String}
theorem xr_met (hl : l.stackTraces = false) (hSF : xr_SF T GW ST NC AO) {N : Nat} (ih : xr_P l T D A b GW ST NC AO N) {k d : Nat} {K : xrM} {as : List Value} {o : xrO} {h h1 : xrH} (hk0 : k ≠ 0) (hK : T.1[k]? = some K) (hr : xr_run T N d k 0 (lv_args 0 as) [] h = some (o, h1)) (hcat : xr_cat as ≤ xr_mx K) {ads : List Nat} {as' : List Value} (ha : xr_Vs ads b as as') :
    vx_Met l (xr_nm K) (xr_ws GW K) (xr_rm d (h1.1 - h.1) (h1.2.1 - h.2.1)) (xr_Pc T D A b ST NC AO h ads as') (xr_Qc T D A b o h1 ads) (xr_XC T D A b o h1 ads) (h1.1 - h.1) (h1.2.1 - h.2.1) A := by
  obtain ⟨g1, g2, g3, g4, g5, g6⟩ := hSF.2.2.2 _ _ hk0 hK
  have key : ∀ (p : Program) (e : Env) (s : State) (m : MethodId) (args : Array Value) (below : List Frame) (meth : Method) (c : Code) (s₁ : State), BodyLoose p l (xr_nm K) (headSpec (xr_ws GW K) (xr_rm d (h1.1 - h.1) (h1.2.1 - h.2.1))) (xr_by K) (xr_mx K) (xr_rt K) e s m args below meth c s₁ → c.maxLocals = xr_mx K → c.exceptionTable.toList = tableOf (xr_hh K) → xr_Pc T D A b ST NC AO h ads as' args s →
      W p l e (headSpec (xr_ws GW K) (xr_rm d (h1.1 - h.1) (h1.2.1 - h.2.1))).room s m args below meth c s.heap [] 0 0 (vx_MQ below (xr_Qc T D A b o h1 ads) (xr_XC T D A b o h1 ads) args s (h1.1 - h.1) (h1.2.1 - h.2.1) A) (entryFrame m args (xr_mx K)) := by
    intro p e s m args below meth c s₁ B hml htab hv
    obtain ⟨rfl, hE, hA, ws, tys, hW⟩ := hv
    have C : xr_Cx p l s m as'.toArray meth c T A b GW ST NC AO K := ⟨B.exec, B.bytes, hml, findClass_of_methodNamed B.named, (fun w hw => atoms_spec (ws := xr_ws GW K) B.pre w (List.mem_cons_of_mem _ hw)), (name_of_methodNamed B.named B.method).1, B.returns, B.notSynchronized, htab, hE, hl, hA⟩
    have hle : (lg_sl as').length ≤ xr_mx K := by
      rw [xr_sl_len]
      have := ha.catsum
      unfold xr_cat at hcat ⊢
      unfold xr_cat at this
      omega
    have hlv := lv_entry as' (n := xr_mx K) hle
    rw [lg_entry_eq]
    generalize (lg_sl as' ++ List.replicate (xr_mx K - (lg_sl as').length) Slot.unset).toArray = ls at hlv ⊢
    refine W.cs (show 0 = h.1 - h.1 by omega) (show 0 = h.2.1 - h.2.1 by omega) ?_
    refine ih p e _ s m _ below meth c _ K k d 0 (lv_args 0 as) [] h o h1 ads h.1 h.2.1 hK C hr (Nat.le_refl _) (Nat.le_refl _) ⟨Nat.le_refl _, Nat.le_refl _⟩ ⟨Nat.le_refl _, Nat.le_refl _⟩ ?_ ?_ s.heap [] ads ws tys ls (lv_args 0 as') [] (xr_le.rf _) hW va_S.rf hlv (xr_Ls.args 0 ha) trivial
    · intro v i pc1 L1 st1 ho hend hd
      subst ho
      exact xr_ret C hd hend (Nat.le_refl _) (Nat.le_refl _)
    · intro k ho
      exact ⟨_, _, rfl, Nat.le_refl _, Nat.le_refl _⟩
  by_cases hhd : xr_hd K = []
  · refine xr_ofW (cc := xr_by K) (maxL := xr_mx K) (ret := xr_rt K) (ws' := GW) g1 (by unfold xr_ws; rw [xr_cw_0 hhd]) ?_
    intro p e s m args below meth c s₁ B hml ht hv
    refine key p e s m args below meth c s₁ B hml ?_ hv
    have h0 : c.exceptionTable.toList = [] := by
      cases hz : c.exceptionTable.toList with
      | nil => rfl
      | cons x t => exact (ht x (by rw [hz]; exact List.mem_cons_self)).elim
    rw [h0]
    unfold xr_hh
    rw [hhd]
    rfl
  · refine xr_ofWH (cc := xr_by K) (maxL := xr_mx K) (ret := xr_rt K) (hh := xr_hh K) (ws' := GW) g1 (by unfold xr_ws; rw [xr_cw_1 hhd]) ?_
    intro p e s m args below meth c s₁ B hml hv
    refine key p e s m args below meth c s₁ B hml ?_ hv
    exact vx_table (x := xr_nm K) (B := B) (atoms_spec (ws := xr_ws GW K) B.pre _ (by unfold xr_ws; rw [xr_cw_1 hhd]; exact List.mem_cons_self))
theorem xr_dec1 {M : xrM} {i : Instr} {pc n : Nat} {st : List Value} {v : Option Value} (hok : xr_ok T GW ST AO M pc i n) (he : xr_end M i st = some v) : decode (xr_by M) pc = .ok (i, 1) := by
  cases i
  case ireturn =>
    have hn : n = 1 := hok.1
    rw [← hn]
    exact hok.2
  case lreturn =>
    have hn : n = 1 := hok.1
    rw [← hn]
    exact hok.2
  case areturn =>
    have hn : n = 1 := hok.1
    rw [← hn]
    exact hok.2
  case return_ =>
    have hn : n = 1 := hok.1
    rw [← hn]
    exact hok.2
  all_goals exact nomatch (show (none : Option (Option Value)) = some v from he)
theorem xr_table {M : xrM} {pre suf : List (Nat × Nat × Nat × Nat × Nat)} {q : Nat × Nat × Nat × Nat × Nat} (h : xr_hd M = pre ++ q :: suf) : tableOf (xr_hh M) = (pre.map fun z => (⟨z.1, z.2.1, z.2.2.1, z.2.2.2.1⟩ : ExceptionTableEntry)) ++ (⟨q.1, q.2.1, q.2.2.1, q.2.2.2.1⟩ : ExceptionTableEntry) :: (suf.map fun z => (⟨z.1, z.2.1, z.2.2.1, z.2.2.2.1⟩ : ExceptionTableEntry)) := by
  unfold xr_hh tableOf
  rw [h]
  simp [List.map_append, Function.comp_def]
set_option maxHeartbeats 2000000 in
theorem xr_sim (hl : l.stackTraces = false) (hSF : xr_SF T GW ST NC AO) : ∀ N, xr_P l T D A b GW ST NC AO N := by
  intro N
  induction N with
  | zero =>
    intro p e R s m args below meth c Q M j d pc L st h o h' a0 c0 s0 hM C er
    cases er
  | succ N ih =>
    intro p e R s m args below meth c Q M j d pc L st h o h' a0 c0 s0 hM C er hc hc' hR hR2 f1 f2
    unfold xr_run at er
    rw [hM] at er
    dsimp only at er
    split at er
    · cases er
    · rename_i i n hf
      obtain ⟨hok0, hhok⟩ := hSF.2.2.1 _ _ hM
      have hok := hok0 _ _ _ hf
      split at er
      · split at er
        · cases er
        · rename_i F F2 hs
          have hle := xr_run_le _ _ _ _ _ _ _ _ _ er
          have hle0 := xr_s_le hs
          dsimp only at hle0
          have i1 := ih p e R s m args below meth c Q M j d _ _ _ _ o h' a0 c0 s0 hM C er (by omega) (by omega) hR hR2 f1 f2
          exact xr_step (F := (F, F2)) C hSF.2.1 hok hs hc hc' (show F2.1 - c0 ≤ R.cells ∧ F2.2.1 - s0 ≤ R.slots by omega) (by omega) i1
      · split at er
        · cases er
        · rename_i v he
          cases er
          exact f1 v i pc L st rfl he (xr_dec1 hok he)
      · rename_i hw
        split at er
        · rename_i hhd
          obtain ⟨e1, e2⟩ := xr_cond (y := none) er
          cases e2
          simp only [Bool.and_eq_true] at e1
          obtain ⟨mc, ms, rfl, hmc, hms⟩ := f2 _ rfl
          cases i <;> first | (cases hw; done) | skip
          exact xr_thr C hok hhd (Nat.le_of_ble_eq_true e1.2) (Nat.le_of_ble_eq_true e1.1) (by omega) hR hc hc' hmc hms
        · cases er
      · split at er
        · cases er
        · rename_i k K as r hcall
          split at er
          · cases er
          · rename_i d1
            have hKk : T.1[k]? = some K ∧ xr_cat as ≤ xr_mx K := by
              unfold xr_call at hcall
              split at hcall
              · cases hcall
              · split at hcall
                · cases hcall
                · split at hcall
                  · cases hcall
                  · obtain ⟨q1, q2⟩ := xr_cond (y := none) hcall
                    cases q2
                    simp only [Bool.and_eq_true] at q1
                    exact ⟨by assumption, Nat.le_of_ble_eq_true q1.1.2⟩
            have hk0 : k ≠ 0 := by
              unfold xr_call at hcall
              split at hcall
              · cases hcall
              · rename_i w k9 hkind
                split at hcall
                · cases hcall
                · split at hcall
                  · cases hcall
                  · obtain ⟨q1, q2⟩ := xr_cond (y := none) hcall
                    cases q2
                    cases i <;> first | (cases hkind; done) | (cases hkind; first | exact hok.2.choose_spec.choose_spec.choose_spec.2.2.1 | exact hok.2.choose_spec.choose_spec.2.2.1)
            split at er
            · cases er
            · rename_i v h1 hcr
              have hle := xr_run_le _ _ _ _ _ _ _ _ _ er
              have hle1 := xr_run_le _ _ _ _ _ _ _ _ _ hcr
              intro H locs ads ws tys ls L' st' g1 g2 g3 g4 g5 g6
              obtain ⟨hn, as', r', hrr, hrun⟩ := xr_vrun (o := .inl v) (hh := h1) (mc := h1.1 - h.1) (ms := h1.2.1 - h.2.1) (c0 := c0) (s0 := s0) (e := e) (R := R) (below := below) C hSF hok hcall (fun _ _ => ⟨v, rfl⟩) (show d1 + 17 ≤ R.frames ∧ 264 + 64 * d1 ≤ R.locals by omega) (by omega) g2 g3 g4 g6 (fun as' ha => xr_met hl hSF ih hk0 hKk.1 hcr hKk.2 ha)
              subst hn
              intro T0 hT X
              rcases hrun T0 hT X with ⟨v', st₀, t, T', L0, h0, X', hL, e1, e2, ⟨⟨v1, v2, ads2, ws2, tys2, hv1, hv2, hvo, hle2, hw2⟩, hF⟩, hgo⟩ | ⟨q, st₀, t, T', L0, E, ce, h0, X', hL, e1, e2, ⟨⟨k1, _, _, _, hk1, -⟩, -⟩, -⟩
              · cases hv1
                cases hv2
                obtain ⟨-, -, hS2⟩ := vx_keep h0 e1 g3 (fun _ _ z => z) (fun _ z => z) hL hF
                have key := ih p e R s m args below meth c Q M j (d1 + 1) _ _ _ _ o h' a0 c0 s0 hM C er (by omega) (by omega) hR hR2 f1 f2
                rw [show h.1 - c0 + (h1.1 - h.1) = h1.1 - c0 by omega, show h.2.1 - s0 + (h1.2.1 - h.2.1) = h1.2.1 - s0 by omega] at X'
                have hal : t.vm.Alike s.vm := by rw [← e2]; exact X'.warmed.alike.symm
                have hw3 : xr_W T D A b h1 ads2 s ws2 tys2 T'.heap := by rw [e1]; exact hw2.moved hal
                obtain ⟨t2, a1, b1⟩ := key T'.heap (locs ++ L0) ads2 ws2 tys2 ls L' (v'.toList ++ r') (g1.tr hle2) hw3 hS2 g4 (g5.mono hle2) (hvo.list.app (hrr.mono hle2)) T' rfl X'
                exact ⟨t2, hgo t2 a1, b1⟩
              · cases hk1
            · rename_i k3 h1 hcr
              have hle1 := xr_run_le _ _ _ _ _ _ _ _ _ hcr
              have hk3 := xr_run_k _ _ _ _ _ _ _ _ _ hcr
              obtain ⟨hw4, er⟩ := xr_cond2 er
              have hle : h1.1 ≤ h'.1 ∧ h1.2.1 ≤ h'.2.1 := by
                split at er
                · have := xr_run_le _ _ _ _ _ _ _ _ _ er
                  exact ⟨this.1, this.2.1⟩
                · cases er
                  exact ⟨Nat.le_refl _, Nat.le_refl _⟩
              intro H locs ads ws tys ls L' st' g1 g2 g3 g4 g5 g6
              obtain ⟨hn, as', r', hrr, hrun⟩ := xr_vrun (o := .inr k3) (hh := h1) (mc := h1.1 - h.1) (ms := h1.2.1 - h.2.1) (c0 := c0) (s0 := s0) (e := e) (R := R) (below := below) C hSF hok hcall (fun q1 q2 => by cases i <;> first | (cases q2; done) | (cases hw4; done)) (show d1 + 17 ≤ R.frames ∧ 264 + 64 * d1 ≤ R.locals by omega) (by omega) g2 g3 g4 g6 (fun as' ha => xr_met hl hSF ih hk0 hKk.1 hcr hKk.2 ha)
              subst hn
              intro T0 hT X
              rcases hrun T0 hT X with ⟨v', st₀, t, T', L0, h0, X', hL, e1, e2, ⟨⟨v1, v2, ads2, ws2, tys2, hv1, -⟩, -⟩, -⟩ | ⟨q, st₀, t, T', L0, E, ce, h0, X', hL, e1, e2, ⟨⟨k1, ads2, ws2, tys2, hk1, hk3', rfl, hle2, hw2⟩, hF⟩, hce, hcv, hcl, hst⟩
              · cases hv1
              · cases hk1
                obtain ⟨-, -, hS2⟩ := vx_keep h0 e1 g3 (fun _ _ z => z) (fun _ z => z) hL hF
                rw [show h.1 - c0 + (h1.1 - h.1) = h1.1 - c0 by omega, show h.2.1 - s0 + (h1.2.1 - h.2.1) = h1.2.1 - s0 by omega] at X'
                have hal : t.vm.Alike s.vm := by rw [← e2]; exact X'.warmed.alike.symm
                have hw3 : xr_W T D A b h1 ads2 s ws2 tys2 T'.heap := by rw [e1]; exact hw2.moved hal
                have hce' : T'.heap[q]? = some ce := by rw [e1]; exact hce
                have hC := C
                obtain ⟨hx, hb, hml, hown, hts, hname, hret, hlocks, htab, hE, hl', hA⟩ := hC
                have hpass : ∀ z : Nat × Nat × Nat × Nat × Nat, z ∈ xr_hd M → ((¬ (z.1 ≤ pc ∧ pc < z.2.1)) ∨ z.2.2.2.2 ≠ k3) → covers (⟨z.1, z.2.1, z.2.2.1, z.2.2.2.1⟩ : ExceptionTableEntry) pc = false ∨ (z.2.2.2.1 ≠ 0 ∧ ∃ nm : String, (Cond.classLink (xr_nm M).cls z.2.2.2.1 nm).before args s = true ∧ va_Nc (xr_en k3) nm s) := by
                  intro z hz hor
                  rcases hor with hor | hor
                  · exact Or.inl (xr_covers (q := (z.1, z.2.1, z.2.2.1, z.2.2.2.1)) hor)
                  · obtain ⟨u1, u2, u3, u4⟩ := hhok z hz
                    exact Or.inr ⟨u1, _, hts _ u2, hE.2.2.2.2.2.2.1 _ (u4 k3 hk3 (Ne.symm hor))⟩
                split at er
                · rename_i tg hhnd
                  obtain ⟨pre, q0, suf, v1, v2, v3, v4, v5, v6⟩ := xr_hnd_s hhnd
                  have hmem : q0 ∈ xr_hd M := by rw [v1]; simp
                  obtain ⟨u1, u2, u3, u4⟩ := hhok q0 hmem
                  rw [v5] at u2 u3
                  have key := ih p e R s m args below meth c Q M j (d1 + 1) _ _ _ _ o h' a0 c0 s0 hM C er (by omega) (by omega) hR hR2 f1 f2
                  have kk := key T'.heap (locs ++ L0) ads2 ws2 tys2 ls L' [.ref q] (g1.tr hle2) hw3 hS2 g4 (g5.mono hle2) ⟨trivial, trivial⟩
                  rw [← v2] at kk
                  have hcat := vx_catch (rest := r') (name := xr_en k3) hown (pre.map fun z => (⟨z.1, z.2.1, z.2.2.1, z.2.2.2.1⟩ : ExceptionTableEntry)) (⟨q0.1, q0.2.1, q0.2.2.1, q0.2.2.2.1⟩ : ExceptionTableEntry) (suf.map fun z => (⟨z.1, z.2.1, z.2.2.1, z.2.2.2.1⟩ : ExceptionTableEntry)) (htab.trans (xr_table v1))
                    (by
                      intro z hz
                      obtain ⟨z0, hz0, rfl⟩ := List.mem_map.mp hz
                      exact hpass z0 (by rw [v1]; exact List.mem_append_left _ hz0) (v6 z0 hz0)) (xr_covers1 (q := (q0.1, q0.2.1, q0.2.2.1, q0.2.2.2.1)) ⟨v3, v4⟩) u1 (hts _ u2) (hts _ u3) hce' hcv hcl kk
                  obtain ⟨t2, a1, b1⟩ := hcat T' rfl X'
                  exact ⟨t2, hst.trans a1, b1⟩
                · rename_i hhnd
                  cases er
                  obtain ⟨mc, ms, rfl, hmc, hms⟩ := f2 _ rfl
                  have hout := vx_outP (rest := r') (ls := ls) (Qc := xr_Qc T D A b (.inr k3) h' a0) (XC := xr_XC T D A b (.inr k3) h' a0) (free := A) (mc := mc) (ms := ms) (p := p) (l := l) (e := e) (R := R) (below := below) (m := m) (meth := meth) (c := c) (H := T'.heap) (locs := locs ++ L0) (cells := h'.1 - c0) (slots := h'.2.1 - s0) (args := args) hown hlocks
                    (by
                      intro z hz
                      rw [htab] at hz
                      unfold tableOf xr_hh at hz
                      rw [List.map_map] at hz
                      obtain ⟨z0, hz0, rfl⟩ := List.mem_map.mp hz
                      exact hpass z0 hz0 (xr_hnd_n hhnd z0 hz0)) hce' hcv hcl
                    (by
                      intro t9 ht9 ha9
                      refine ⟨⟨k3, ads2, ws2, tys2, rfl, hk3, rfl, g1.tr hle2, ?_⟩, ?_⟩
                      · rw [ht9]
                        exact hw3.moved ha9
                      · unfold va_F
                        rw [ht9]
                        exact ⟨hS2.1, hS2.2.1⟩) hS2.2.2 hmc hms
                  obtain ⟨t2, a1, b1⟩ := hout T' rfl X'
                  exact ⟨t2, hst.trans a1, b1⟩
end XMN
