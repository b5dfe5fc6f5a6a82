/-! RETURNS, THROWS, CALLS, one by one -/
section XCL
variable {p : Program} {l : Launch} {e : Env} {R : Room} {s : State} {m : MethodId} {args : Array Value} {below : List Frame} {meth : Method} {c : Code} {Q : State → Prop}
variable {T : xrT} {D : va_G} {A : Nat → Prop} {b : Nat} {GW : List Cond} {ST : List (String × Nat × String)} {NC : List (String × String)} {AO : List String} {M : xrM} {a0 : List Nat} {c0 s0 : Nat} {h : xrH} {pc n : Nat} {L : xrL} {st : List Value} {F : xrF × xrH}
theorem xr_hq {v : Option Value} {v' : Option Value} {ads : List Nat} {ws : va_W} {tys : List (ClassId × FieldType)} {H : Heap} {locs : List Loc} (h1 : xr_le a0 ads) (h2 : xr_W T D A b h ads s ws tys H) (h3 : va_S A s.heap H locs) (hv : xr_Vo ads b v v') :
    ∀ t : State, t.heap = H → s.WarmedH t.vm → (xr_Qc T D A b (.inl v) h a0) args s (.returned v') t := by
  intro t ht hW
  refine ⟨⟨v, v', ads, ws, tys, rfl, rfl, hv, h1, ?_⟩, ?_⟩
  · rw [ht]
    exact h2.moved hW.alike
  · unfold va_F
    rw [ht]
    exact ⟨h3.1, h3.2.1⟩
set_option maxHeartbeats 1000000 in
theorem xr_ret {i : Instr} {v : Option Value} {XC : String → State → State → Prop} {mc ms : Nat} (C : xr_Cx p l s m args meth c T A b GW ST NC AO M) (hd : decode (xr_by M) pc = .ok (i, 1)) (he : xr_end M i st = some v) (hmc : h.1 - c0 ≤ mc) (hms : h.2.1 - s0 ≤ ms) :
    xr_G p l e R s m args below meth c (vx_MQ below (xr_Qc T D A b (.inl v) h a0) XC args s mc ms A) T D A b M a0 c0 s0 h pc L st := by
  obtain ⟨hx, hb, hml, hown, hts, hname, hret, hlocks, htab, hE, hl, hA⟩ := C
  intro H locs ads ws tys ls L' st' h1 h2 h3 h4 h5 h6
  refine vx_ret (W.widen hmc hms ?_)
  cases i
  case ireturn =>
    replace he : (match (generalizing := false) st with
      | [.int v] => bif xr_okr (xr_rt M) (.int v) then some (some (.int v)) else none
      | _ => none) = some v := he
    split at he
    · rename_i x
      obtain ⟨hk, rfl⟩ := xr_cond (y := none) he
      obtain ⟨v1, r1, rfl, hv1, hr1⟩ := h6.cons
      have e1 := hv1.int
      subst e1
      have e2 := hr1.nil
      subst e2
      cases hrt : xr_rt M with
      | none => rw [hrt] at hk; simp [xr_okr] at hk
      | some ty =>
        rw [hrt] at hk hret
        have hn : narrow ty (.int x) = .int x := by
          cases ty <;> simp [xr_okr] at hk
          · rfl
          · rcases hk with rfl | rfl <;> decide
        exact W.zret hx hb hret hn (xr_hq h1 h2 h3 (v := some (.int x)) (v' := some (.int x)) rfl) h3.2.2 hd (hlocks := hlocks)
    · cases he
  case lreturn =>
    replace he : (match (generalizing := false) st with
      | [.long v] => bif xr_okr (xr_rt M) (.long v) then some (some (.long v)) else none
      | _ => none) = some v := he
    split at he
    · rename_i x
      obtain ⟨hk, rfl⟩ := xr_cond (y := none) he
      obtain ⟨v1, r1, rfl, hv1, hr1⟩ := h6.cons
      have e1 := hv1.long
      subst e1
      have e2 := hr1.nil
      subst e2
      have hrt : xr_rt M = some .long := by
        cases hrt : xr_rt M with
        | none => rw [hrt] at hk; simp [xr_okr] at hk
        | some ty => rw [hrt] at hk; cases ty <;> simp [xr_okr] at hk; rfl
      rw [hrt] at hret
      exact W.lret hx hb hret (xr_hq h1 h2 h3 (v := some (.long x)) (v' := some (.long x)) rfl) h3.2.2 hd (hlocks := hlocks)
    · cases he
  case areturn =>
    replace he : (match (generalizing := false) st with
      | [.ref a] => bif xr_okr (xr_rt M) (.ref a) then some (some (.ref a)) else none
      | [.null] => bif xr_okr (xr_rt M) .null then some (some .null) else none
      | _ => none) = some v := he
    split at he
    · rename_i x
      obtain ⟨hk, rfl⟩ := xr_cond (y := none) he
      obtain ⟨v1, r1, rfl, hv1, hr1⟩ := h6.cons
      obtain ⟨q, rfl, hq⟩ := hv1.ref
      have e2 := hr1.nil
      subst e2
      have hrt : ∃ C, xr_rt M = some (.object C) := by
        cases hrt : xr_rt M with
        | none => rw [hrt] at hk; simp [xr_okr] at hk
        | some ty => rw [hrt] at hk; cases ty <;> simp [xr_okr] at hk; exact ⟨_, rfl⟩
      obtain ⟨C, hrt⟩ := hrt
      rw [hrt] at hret
      exact W.aret hx hb hret (Or.inl ⟨_, rfl⟩) (Or.inr ⟨_, rfl⟩) (xr_hq h1 h2 h3 (v := some (.ref x)) (v' := some (.ref q)) hq) h3.2.2 hd (hlocks := hlocks)
    · obtain ⟨hk, rfl⟩ := xr_cond (y := none) he
      obtain ⟨v1, r1, rfl, hv1, hr1⟩ := h6.cons
      have e1 := hv1.null
      subst e1
      have e2 := hr1.nil
      subst e2
      have hrt : ∃ C, xr_rt M = some (.object C) := by
        cases hrt : xr_rt M with
        | none => rw [hrt] at hk; simp [xr_okr] at hk
        | some ty => rw [hrt] at hk; cases ty <;> simp [xr_okr] at hk; exact ⟨_, rfl⟩
      obtain ⟨C, hrt⟩ := hrt
      rw [hrt] at hret
      exact W.aret hx hb hret (Or.inl ⟨_, rfl⟩) (Or.inl rfl) (xr_hq h1 h2 h3 (v := some .null) (v' := some .null) trivial) h3.2.2 hd (hlocks := hlocks)
    · cases he
  case return_ =>
    replace he : (match (generalizing := false) st with
      | [] => (match xr_rt M with
        | none => some none
        | _ => none)
      | _ => none) = some v := he
    split at he
    · split at he
      · rename_i hrt
        cases he
        have e2 := h6.nil
        subst e2
        rw [hrt] at hret
        exact W.vret hx hb hret (xr_hq h1 h2 h3 (v := none) (v' := none) trivial) h3.2.2 hd (hlocks := hlocks)
      · cases he
    · cases he
  all_goals exact nomatch (show (none : Option (Option Value)) = some v from he)
theorem xr_en_fit (k : Nat) : Bundle.fit (xr_en k) = true := by
  match k with
  | 0 => decide +kernel
  | 1 => decide +kernel
  | k + 2 => exact (by decide +kernel : Bundle.fit "java/lang/IndexOutOfBoundsException" = true)
theorem xr_up_fit : ∀ n ∈ xr_up, Bundle.fit n = true := by decide +kernel
set_option maxHeartbeats 1000000 in
theorem xr_thr {w z : Nat} {Qc : Array Value → State → Outcome → State → Prop} {mc ms : Nat} (C : xr_Cx p l s m args meth c T A b GW ST NC AO M) (hok : xr_ok T GW ST AO M pc (.multianewarray w z) n) (hhd : xr_hd M = []) (hw3 : w < 3) (hst : xr_cat st ≤ 8) (hR : 17 ≤ R.frames + 1 ∧ 200 ≤ R.locals) (hRc : h.1 + 1 - c0 ≤ R.cells ∧ h.2.1 + 6 - s0 ≤ R.slots) (hc : c0 ≤ h.1) (hc' : s0 ≤ h.2.1) (hmc : h.1 + 1 - c0 ≤ mc) (hms : h.2.1 + 6 - s0 ≤ ms) :
    xr_G p l e R s m args below meth c (vx_MQ below Qc (xr_XC T D A b (.inr w) (xr_exc h) a0) args s mc ms A) T D A b M a0 c0 s0 h pc L st := by
  obtain ⟨ik, is, ic, text, d0, d3, hz, w1, w2, w3, w4, w5⟩ := hok
  obtain ⟨hx, hb, hml, hown, hts, hname, hret, hlocks, htab, hE, hl, hA⟩ := C
  obtain ⟨hU, hN, -, -, -, hST, -, -⟩ := hE
  obtain ⟨sa, hsa⟩ := hST _ w3
  intro H locs ads ws tys ls L' st' h1 h2 h3 h4 h5 h6
  have hcs := h6.catsum
  have hout : ∀ (k : Nat), ∀ x ∈ c.exceptionTable.toList, covers x k = false := by
    intro k x hx
    rw [htab] at hx
    unfold xr_hh at hx
    rw [hhd] at hx
    exact absurd hx List.not_mem_nil
  have hXC : ∀ t : State, s.vm.Alike t.vm → H.size ≤ t.heap.size → (∀ q : Nat, q < H.size → t.heap[q]? = H[q]?) → (xr_XC T D A b (.inr w) (xr_exc h) a0) (xr_en w) s t := by
    intro t ha hz hk
    refine ⟨⟨w, ads, ws, tys, rfl, hw3, rfl, h1, (h2.exc hk).moved ha⟩, Nat.le_trans h3.1 hz, fun q hq hnA => ?_⟩
    rw [hk q (Nat.lt_of_lt_of_le hq h3.1)]
    exact h3.2.1 q hq hnA
  rcases hz with ⟨-, d4, d6, d9⟩ | ⟨-, d4, d7, d10⟩
  · exact vx_throwS hx hb hl hown (xr_en_fit w) xr_up_fit (hts _ w1) (hts _ w2) hsa (fun v hv => hts _ (w4 v hv)) w5 hU hN h3 (h4.1.trans hml.symm) d0 d3 d4 d6 d9 (hout _) (show 2 + 3 < R.frames by omega) (show (st'.map fun v => v.category).sum + (13 * (2 + 1) + 43) ≤ R.locals by omega) (by omega) (by omega) hlocks hXC h3.2.2 (by omega) (by omega)
  · exact vx_throwSW hx hb hl hown (xr_en_fit w) xr_up_fit (hts _ w1) (hts _ w2) hsa (fun v hv => hts _ (w4 v hv)) w5 hU hN h3 (h4.1.trans hml.symm) d0 d3 d4 d7 d10 (hout _) (show 2 + 3 < R.frames by omega) (show (st'.map fun v => v.category).sum + (13 * (2 + 1) + 43) ≤ R.locals by omega) (by omega) (by omega) hlocks hXC h3.2.2 (by omega) (by omega)
/-- what a call needs of the callee's start -/
theorem xr_pre {ads : List Nat} {ws : va_W} {tys : List (ClassId × FieldType)} {H : Heap} {locs : List Loc} (C : xr_Cx p l s m args meth c T A b GW ST NC AO M) (h2 : xr_W T D A b h ads s ws tys H) (h3 : va_S A s.heap H locs) (av : List Value) : PreS s H (xr_Pc T D A b ST NC AO h ads av) av := by
  obtain ⟨hx, hb, hml, hown, hts, hname, hret, hlocks, htab, hE, hl, hA⟩ := C
  refine ⟨xr_blind, fun U hU hW => ⟨rfl, ?_, fun q hq => hA q (Nat.le_trans h3.1 (by rw [← hU]; exact hq)), ws, tys, ?_⟩⟩
  · rw [hU]
    exact hE.go hW h3.1 h3.2.1
  · rw [hU]
    exact h2.moved hW.alike
theorem xr_ws_ok {K : xrM} (C : xr_Cx p l s m args meth c T A b GW ST NC AO M) (htw : ∀ w ∈ GW, xr_tw w = true) (hcal : xr_cal GW K) : ∀ w ∈ xr_ws GW K, ∀ (a' : Array Value) (U : State), s.WarmedH U.vm → w.before a' U = true := by
  intro w hw a' U hW
  have hw' : w ∈ GW := by
    rcases List.mem_cons.mp hw with rfl | h
    · exact hcal.2.1
    · exact h
  exact xr_tr (htw w hw') hW (C.2.2.2.2.1 w hw')
theorem xr_cw_0 {K : xrM} (h : xr_hd K = []) : xr_cw K = .code (xr_nm K) (xr_by K) (xr_mx K) (xr_rt K) := by
  unfold xr_cw
  rw [h]
theorem xr_cw_1 {K : xrM} (h : xr_hd K ≠ []) : xr_cw K = .codeWith (xr_nm K) (xr_by K) (xr_mx K) (xr_rt K) (xr_hh K) := by
  unfold xr_cw
  split
  · contradiction
  · rfl
set_option maxHeartbeats 1000000 in
/-- a call, from the callee's contract -/
theorem xr_vrun {i : Instr} {k d1 : Nat} {K : xrM} {as r : List Value} {o : xrO} {hh : xrH} {mc ms : Nat} (C : xr_Cx p l s m args meth c T A b GW ST NC AO M) (hSF : xr_SF T GW ST NC AO) (hok : xr_ok T GW ST AO M pc i n) (hcall : xr_call T i st h = some (k, K, as, r)) (hnx : xr_hd K = [] → xr_kind i = some (1, k) → ∃ v, o = .inl v)
    (hR : d1 + 17 ≤ R.frames ∧ 264 + 64 * d1 ≤ R.locals) (hRc : h.1 - c0 + mc ≤ R.cells ∧ h.2.1 - s0 + ms ≤ R.slots)
    {H : Heap} {locs : List Loc} {ads : List Nat} {ws : va_W} {tys : List (ClassId × FieldType)} {ls : Array Slot} {L' : xrL} {st' : List Value} (h2 : xr_W T D A b h ads s ws tys H) (h3 : va_S A s.heap H locs) (h4 : lv_has ls (xr_mx M) L') (h6 : xr_Vs ads b st st')
    (hM : ∀ as', xr_Vs ads b as as' → vx_Met l (xr_nm K) (xr_ws GW K) (xr_rm d1 mc ms) (xr_Pc T D A b ST NC AO h ads as') (xr_Qc T D A b o hh ads) (xr_XC T D A b o hh ads) mc ms A) :
    n = 3 ∧ ∃ (as' r' : List Value), xr_Vs ads b r r' ∧ vx_Run p l e R s m args below meth c H locs (h.1 - c0) (h.2.1 - s0) mc ms (F0 m pc ls st') r' ((xr_Qc T D A b o hh ads) as'.toArray) (xr_XC T D A b o hh ads) A := by
  have C' := C
  obtain ⟨hx, hb, hml, hown, hts, hname, hret, hlocks, htab, hE, hl, hA⟩ := C'
  unfold xr_call at hcall
  split at hcall
  · cases hcall
  · rename_i w k' hkind
    split at hcall
    · cases hcall
    · rename_i K' hK'
      split at hcall
      · cases hcall
      · rename_i as0 r0 hcut
        obtain ⟨hc1, hc2⟩ := xr_cond (y := none) hcall
        cases hc2
        simp only [Bool.and_eq_true] at hc1
        have hr8 := Nat.le_of_ble_eq_true hc1.1.1
        obtain ⟨as', r', ha, hr, heq, hlen⟩ := xr_Vs.cutd _ (acc' := []) hcut trivial h6
        have heq' : st' = as'.reverse ++ r' := by rw [heq]; simp
        have hW8 : 2 * (F0 m pc ls st').monitorRoom + (r'.map fun v => v.category).sum ≤ 8 := by
          have := hr.catsum
          show 2 * 0 + _ ≤ 8
          omega
        have hMet := hM as' ha
        have hPre := xr_pre C h2 h3 as'
        have hsz : (F0 m pc ls st').locals.size = xr_mx M := h4.1
        cases i
        case invokevirtual kk =>
          cases hkind
          obtain ⟨hn, x, K2, q, hd, hK2, hk0, w1, w2, w3, hq, hqn, hhd⟩ := hok
          cases Option.some.inj (hK'.symm.trans hK2)
          have hcal := hSF.2.2.2 _ _ hk0 hK'
          obtain ⟨g1, g2, g3, g4, g5, g6⟩ := id hcal
          have hrcv : xr_rcv K h as = true := by simpa using hc1.2
          cases as with
          | nil => simp [xr_rcv] at hrcv
          | cons v0 as1 =>
            cases v0 with
            | ref a =>
              obtain ⟨v0', as1', rfl, hv0, has1⟩ := ha.cons
              obtain ⟨qa, rfl, hqa⟩ := hv0.ref
              obtain ⟨e', hw, he⟩ := h2.at hqa
              have hobj : ∃ fs, xr_M h a = .inr (xr_ci K, fs) := by
                simp only [xr_rcv] at hrcv
                split at hrcv
                · rename_i c9 fs9 hm9
                  exact ⟨fs9, by rw [hm9, Nat.eq_of_beq_eq_true hrcv]⟩
                · cases hrcv
              obtain ⟨fs, hfs⟩ := hobj
              rw [hfs] at he
              obtain ⟨fs', rfl, -⟩ := he.obj
              refine ⟨hn, Value.ref qa :: as1', r', hr, ?_⟩
              have hrec := va_recv h2.1 h2.2.1 (ci := xr_ci K) (q0 := a) hq hw
              rw [hqn] at hrec
              exact vx_runV (C := (xr_nm K).cls) (n := xr_np K) ⟨hx, hb, hml, hown, hts⟩ hMet
                ⟨⟨rfl, rfl, by show d1 + 16 + 1 ≤ R.frames; omega, by show 8 + (xr_mx K + 11) + (200 + 64 * d1) ≤ R.locals; omega, xr_ws_ok C hSF.1 hcal, by rw [← xr_cw_0 hhd]; exact List.mem_cons_self, by rw [← xr_cw_0 hhd]; exact hts _ g2, hts _ g3, g4, fun sig hsig => by rw [hsig] at g5; exact (Option.some.inj g5).symm, hts _ w1⟩, hts _ w2, hts _ w3⟩
                ⟨hPre.1, hrec, hPre.2⟩ rfl (Nat.succ.inj (show as1'.length + 1 = xr_np K + 1 from hlen)) hsz (by rw [show (F0 m pc ls st').stack = st' from rfl, heq']; simp) hW8 hd hRc
            | _ => simp [xr_rcv] at hrcv
        case invokestatic kk =>
          cases hkind
          obtain ⟨hn, x, K2, hd, hK2, hk0, w1, w2⟩ := hok
          cases Option.some.inj (hK'.symm.trans hK2)
          have hcal := hSF.2.2.2 _ _ hk0 hK'
          obtain ⟨g1, g2, g3, g4, g5, g6⟩ := id hcal
          refine ⟨hn, as', r', hr, ?_⟩
          by_cases hhd : xr_hd K = []
          · exact vx_runS (n := xr_np K) ⟨hx, hb, hml, hown, hts⟩ hMet
              ⟨⟨rfl, rfl, by show d1 + 16 + 1 ≤ R.frames; omega, by show 8 + (xr_mx K + 11) + (200 + 64 * d1) ≤ R.locals; omega, xr_ws_ok C hSF.1 hcal, by rw [← xr_cw_0 hhd]; exact List.mem_cons_self, by rw [← xr_cw_0 hhd]; exact hts _ g2, hts _ g3, g4, fun sig hsig => by rw [hsig] at g5; exact (Option.some.inj g5).symm, hts _ w1⟩, hts _ w2⟩
              hPre rfl (show as'.length = xr_np K from hlen) hsz (by rw [show (F0 m pc ls st').stack = st' from rfl, heq']) hW8 hd hRc
          · exact vx_runSX (n := xr_np K) (hh := xr_hh K) ⟨hx, hb, hml, hown, hts⟩ hMet
              ⟨⟨rfl, rfl, by show d1 + 16 + 1 ≤ R.frames; omega, by show 8 + (xr_mx K + 11) + (200 + 64 * d1) ≤ R.locals; omega, xr_ws_ok C hSF.1 hcal, by rw [← xr_cw_1 hhd]; exact List.mem_cons_self⟩, by rw [← xr_cw_1 hhd]; exact hts _ g2, hts _ g3, g4, fun sig hsig => by rw [hsig] at g5; exact (Option.some.inj g5).symm, hts _ w1, hts _ w2⟩
              hPre rfl (show as'.length = xr_np K from hlen) hsz (by rw [show (F0 m pc ls st').stack = st' from rfl, heq']) hW8 hd hRc
        case invokespecial kk =>
          cases hkind
          obtain ⟨hn, x, K2, hd, hK2, hk0, w1, w2, w3, w4, hhd⟩ := hok
          cases Option.some.inj (hK'.symm.trans hK2)
          have hcal := hSF.2.2.2 _ _ hk0 hK'
          obtain ⟨g1, g2, g3, g4, g5, g6⟩ := id hcal
          obtain ⟨v9, rfl⟩ := hnx hhd rfl
          have hrcv : xr_rcv K h as = true := by simpa using hc1.2
          cases as with
          | nil => simp [xr_rcv] at hrcv
          | cons v0 as1 =>
            cases v0 with
            | ref a =>
              obtain ⟨v0', as1', rfl, hv0, has1⟩ := ha.cons
              obtain ⟨qa, rfl, hqa⟩ := hv0.ref
              have hMet2 : Met l (xr_nm K) (xr_ws GW K) (xr_rm d1 mc ms) (xr_Pc T D A b ST NC AO h ads (.ref qa :: as1')) (xr_Qc T D A b (.inl v9) hh ads) mc ms A := by
                refine MetFree.mono hMet (fun _ _ z => z) (fun _ _ _ _ _ z => z) ?_
                intro a9 s9 o9 t9 _ hq9
                rcases hq9 with hq9 | ⟨q9, -, E9, ce9, L9, ⟨⟨k9, _, _, _, hk9, -⟩, -⟩, -⟩
                · exact hq9
                · cases hk9
              refine ⟨hn, Value.ref qa :: as1', r', hr, ?_⟩
              rw [xr_cw_0 hhd, w4] at g2
              have hcode : Cond.code (xr_nm K) (xr_by K) (xr_mx K) none ∈ xr_ws GW K := by
                unfold xr_ws
                rw [xr_cw_0 hhd, w4]
                exact List.mem_cons_self
              have key : va_Run p l e R s m args below meth c H locs (h.1 - c0) (h.2.1 - s0) mc ms (F0 m pc ls st') r' ((xr_Qc T D A b (.inl v9) hh ads) (Value.ref qa :: as1').toArray) A := by
                rcases w1 with w1 | ⟨host, w1⟩
                · exact va_runI (n := xr_np K) (As := as1') ⟨hx, hb, hml, hown, hts⟩ hMet2
                    ⟨⟨rfl, rfl, by show d1 + 16 + 1 ≤ R.frames; omega, by show 8 + (xr_mx K + 11) + (200 + 64 * d1) ≤ R.locals; omega, xr_ws_ok C hSF.1 hcal, hcode, hts _ g2, hts _ g3, g4, fun sig hsig => by rw [hsig] at g5; exact (Option.some.inj g5).symm, hts _ w1⟩, w2, hts _ w3⟩
                    hPre rfl (Nat.succ.inj (show as1'.length + 1 = xr_np K + 1 from hlen)) hsz (by rw [show (F0 m pc ls st').stack = st' from rfl, heq']; simp) hW8 hd hRc
                · exact va_runIN (n := xr_np K) (As := as1') (host := host) ⟨hx, hb, hml, hown, hts⟩ hMet2
                    ⟨⟨⟨rfl, rfl, by show d1 + 16 + 1 ≤ R.frames; omega, by show 8 + (xr_mx K + 11) + (200 + 64 * d1) ≤ R.locals; omega, xr_ws_ok C hSF.1 hcal, hcode⟩, hts _ g2, hts _ g3, g4, fun sig hsig => by rw [hsig] at g5; exact (Option.some.inj g5).symm, hts _ w1⟩, w2, hts _ w3⟩
                    hPre rfl (Nat.succ.inj (show as1'.length + 1 = xr_np K + 1 from hlen)) hsz (by rw [show (F0 m pc ls st').stack = st' from rfl, heq']; simp) hW8 hd hRc
              intro T9 hT9 X9
              exact Or.inl (key T9 hT9 X9)
            | _ => simp [xr_rcv] at hrcv
        all_goals cases hkind
end XCL
