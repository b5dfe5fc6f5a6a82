/-! A STEP: each instruction that is no call, no return, no throw -/
section XSP
variable {p : Program} {l : Launch} {e : Env} {R : Room} {s : State} {m : MethodId} {args : Array Value} {below : List Frame} {meth : Method} {c : Code} {Q : State → Prop}
variable {T : xrT} {D : va_G} {A : Nat → Prop} {b : Nat} {GW : List Cond} {ST : List (String × Nat × String)} {NC : List (String × String)} {AO : List String} {M : xrM} {a0 : List Nat} {c0 s0 : Nat} {h : xrH} {pc n : Nat} {L : xrL} {st : List Value} {F : xrF × xrH}
set_option maxHeartbeats 4000000 in
theorem xr_step {i : Instr} (C : xr_Cx p l s m args meth c T A b GW ST NC AO M) (hK : xr_Ks T GW) (hok : xr_ok T GW ST AO M pc i n) (hs : xr_s T i n pc L st h = some F) (hc : c0 ≤ h.1) (hc' : s0 ≤ h.2.1) (hR : F.2.1 - c0 ≤ R.cells ∧ F.2.2.1 - s0 ≤ R.slots) (hR2 : 1 ≤ R.frames ∧ 20 ≤ R.locals) (k : xr_G p l e R s m args below meth c Q T D A b M a0 c0 s0 F.2 F.1.1 F.1.2.1 F.1.2.2) : xr_G p l e R s m args below meth c Q T D A b M a0 c0 s0 h pc L st := by
  have C' := C
  obtain ⟨hx, hb, hml, hown, hts, hname, hret, hlocks, htab, hE, hl, hA⟩ := C'
  cases i
  case aconst_null =>
    have hn : n = 1 := hok.1
    have hd : decode (xr_by M) pc = .ok (.aconst_null, 1) := by rw [← hn]; exact hok.2
    exact xg_push (fun H locs cells slots ls rest kk => lv_null hx hb hd kk) (Or.inr (Or.inr rfl)) hn hs k
  case iconst v =>
    have hn : n = 1 := hok.1
    have hd : decode (xr_by M) pc = .ok (.iconst v, 1) := by rw [← hn]; exact hok.2
    exact xg_push (fun H locs cells slots ls rest kk => lv_iconst hx hb hd rfl kk) (Or.inl ⟨_, rfl⟩) hn hs k
  case bipush v =>
    have hn : n = 2 := hok.1
    have hd : decode (xr_by M) pc = .ok (.bipush v, 2) := by rw [← hn]; exact hok.2
    exact xg_push (fun H locs cells slots ls rest kk => lv_bipush hx hb hd rfl kk) (Or.inl ⟨_, rfl⟩) hn hs k
  case sipush v =>
    have hn : n = 3 := hok.1
    have hd : decode (xr_by M) pc = .ok (.sipush v, 3) := by rw [← hn]; exact hok.2
    exact xg_push (fun H locs cells slots ls rest kk => lv_sipush hx hb hd rfl kk) (Or.inl ⟨_, rfl⟩) hn hs k
  case lconst v =>
    have hn : n = 1 := hok.1
    have hd : decode (xr_by M) pc = .ok (.lconst v, 1) := by rw [← hn]; exact hok.2
    exact xg_push (fun H locs cells slots ls rest kk => lv_lconst hx hb hd rfl kk) (Or.inr (Or.inl ⟨_, rfl⟩)) hn hs k
  case jsr_w v =>
    obtain ⟨hn, y, hd, hw⟩ := hok
    exact xg_push (fun H locs cells slots ls rest kk => lv_ldc hx hb hown (hts _ hw) hd kk) (Or.inl ⟨_, rfl⟩) hn hs k
  case jsr v =>
    obtain ⟨hn, y, hd, hw⟩ := hok
    exact xg_push (fun H locs cells slots ls rest kk => lv_ldcw hx hb hown (hts _ hw) hd kk) (Or.inl ⟨_, rfl⟩) hn hs k
  case goto_w v =>
    obtain ⟨hn, y, hd, hw⟩ := hok
    exact xg_push (fun H locs cells slots ls rest kk => lv_ldc2 hx hb hown (hts _ hw) hd kk) (Or.inr (Or.inl ⟨_, rfl⟩)) hn hs k
  case iload j =>
    have hn : n = 2 := hok.1
    have hd : decode (xr_by M) pc = .ok (.iload j, 2) := by rw [← hn]; exact hok.2
    exact xg_li (i := j) (fun H locs cells slots ls rest x hl kk => lv_iload hx hb hd hl kk) hn hs k
  case iload_n j =>
    have hn : n = 1 := hok.1
    have hd : decode (xr_by M) pc = .ok (.iload_n j, 1) := by rw [← hn]; exact hok.2
    exact xg_li (i := (j : Nat)) (fun H locs cells slots ls rest x hl kk => lv_iload_n hx hb hd rfl hl kk) hn hs k
  case lload j =>
    have hn : n = 2 := hok.1
    have hd : decode (xr_by M) pc = .ok (.lload j, 2) := by rw [← hn]; exact hok.2
    exact xg_ll (i := j) (fun H locs cells slots ls rest x hl kk => lv_lload hx hb hd hl kk) hn hs k
  case lload_n j =>
    have hn : n = 1 := hok.1
    have hd : decode (xr_by M) pc = .ok (.lload_n j, 1) := by rw [← hn]; exact hok.2
    exact xg_ll (i := (j : Nat)) (fun H locs cells slots ls rest x hl kk => lv_lload_n hx hb hd rfl hl kk) hn hs k
  case aload j =>
    have hn : n = 2 := hok.1
    have hd : decode (xr_by M) pc = .ok (.aload j, 2) := by rw [← hn]; exact hok.2
    exact xg_la (i := j) (fun H locs cells slots ls rest x hl kk => lv_aload hx hb hd hl kk) (fun H locs cells slots ls rest hl kk => lv_aloadN hx hb hd hl kk) hn hs k
  case aload_n j =>
    have hn : n = 1 := hok.1
    have hd : decode (xr_by M) pc = .ok (.aload_n j, 1) := by rw [← hn]; exact hok.2
    exact xg_la (i := (j : Nat)) (fun H locs cells slots ls rest x hl kk => lv_aload_n hx hb hd rfl hl kk) (fun H locs cells slots ls rest hl kk => lv_aload_nN hx hb hd rfl hl kk) hn hs k
  case istore j =>
    obtain ⟨hn, hj, hd⟩ := hok
    exact xg_si (i := j) (fun H locs cells slots ls rest x lv hl kk => lv_istore hx hb hd hl hj rfl kk) hn hs k
  case istore_n j =>
    obtain ⟨hn, hj, hd⟩ := hok
    exact xg_si (i := (j : Nat)) (fun H locs cells slots ls rest x lv hl kk => lv_istore_n hx hb hd rfl hl hj rfl kk) hn hs k
  case lstore j =>
    obtain ⟨hn, hj, hd⟩ := hok
    exact xg_sl (i := j) (fun H locs cells slots ls rest x lv hl kk => lv_lstore hx hb hd hl hj rfl kk) hn hs k
  case lstore_n j =>
    obtain ⟨hn, hj, hd⟩ := hok
    exact xg_sl (i := (j : Nat)) (fun H locs cells slots ls rest x lv hl kk => lv_lstore_n hx hb hd rfl hl hj rfl kk) hn hs k
  case astore j =>
    obtain ⟨hn, hj, hd⟩ := hok
    exact xg_sa (i := j) (fun H locs cells slots ls rest x lv hl kk => lv_astore hx hb hd hl hj rfl kk) (fun H locs cells slots ls rest lv hl kk => lv_astoreN hx hb hd hl hj rfl kk) hn hs k
  case astore_n j =>
    obtain ⟨hn, hj, hd⟩ := hok
    exact xg_sa (i := (j : Nat)) (fun H locs cells slots ls rest x lv hl kk => lv_astore_n hx hb hd rfl hl hj rfl kk) (fun H locs cells slots ls rest lv hl kk => lv_astore_nN hx hb hd rfl hl hj rfl kk) hn hs k
  case iinc j v =>
    obtain ⟨hn, hj, hd⟩ := hok
    subst hn
    replace hs : (match xr_get L j with
      | some (.int x) => some ((pc + 3, xr_st1 L j (.int (x + Int32.ofInt v)), st), h)
      | _ => none) = some F := hs
    split at hs
    · rename_i x hg
      cases hs
      intro H locs ads ws tys ls L' st' h1 h2 h3 h4 h5 h6
      obtain ⟨z, v', hz, hv⟩ := h5.get j _ hg
      have hv' := hv.int
      subst hv'
      exact lv_iinc hx hb hd h4 hz rfl hj rfl (fun ls' h4' => k H locs ads ws tys ls' _ st' h1 h2 h3 h4' (h5.st1 (v := .int _) (v' := .int _) rfl j) h6)
    · cases hs
  case iadd =>
    have hn : n = 1 := hok.1
    have hd : decode (xr_by M) pc = .ok (.iadd, 1) := by rw [← hn]; exact hok.2
    exact xg_bi (fun H locs cells slots ls rest x y kk => lv_iadd hx hb hd kk) hn hs k
  case isub =>
    have hn : n = 1 := hok.1
    have hd : decode (xr_by M) pc = .ok (.isub, 1) := by rw [← hn]; exact hok.2
    exact xg_bi (fun H locs cells slots ls rest x y kk => lv_isub hx hb hd kk) hn hs k
  case imul =>
    have hn : n = 1 := hok.1
    have hd : decode (xr_by M) pc = .ok (.imul, 1) := by rw [← hn]; exact hok.2
    exact xg_bi (fun H locs cells slots ls rest x y kk => lv_imul hx hb hd kk) hn hs k
  case iand =>
    have hn : n = 1 := hok.1
    have hd : decode (xr_by M) pc = .ok (.iand, 1) := by rw [← hn]; exact hok.2
    exact xg_bi (fun H locs cells slots ls rest x y kk => lv_iand hx hb hd kk) hn hs k
  case ior =>
    have hn : n = 1 := hok.1
    have hd : decode (xr_by M) pc = .ok (.ior, 1) := by rw [← hn]; exact hok.2
    exact xg_bi (fun H locs cells slots ls rest x y kk => lv_ior hx hb hd kk) hn hs k
  case ixor =>
    have hn : n = 1 := hok.1
    have hd : decode (xr_by M) pc = .ok (.ixor, 1) := by rw [← hn]; exact hok.2
    exact xg_bi (fun H locs cells slots ls rest x y kk => lv_ixor hx hb hd kk) hn hs k
  case ishl =>
    have hn : n = 1 := hok.1
    have hd : decode (xr_by M) pc = .ok (.ishl, 1) := by rw [← hn]; exact hok.2
    exact xg_bi (fun H locs cells slots ls rest x y kk => lv_ishl hx hb hd kk) hn hs k
  case ishr =>
    have hn : n = 1 := hok.1
    have hd : decode (xr_by M) pc = .ok (.ishr, 1) := by rw [← hn]; exact hok.2
    exact xg_bi (fun H locs cells slots ls rest x y kk => lv_ishr hx hb hd kk) hn hs k
  case idiv =>
    have hn : n = 1 := hok.1
    have hd : decode (xr_by M) pc = .ok (.idiv, 1) := by rw [← hn]; exact hok.2
    exact xg_bd (fun H locs cells slots ls rest x y hy kk => lv_idiv hx hb hd hy kk) hn hs k
  case irem =>
    have hn : n = 1 := hok.1
    have hd : decode (xr_by M) pc = .ok (.irem, 1) := by rw [← hn]; exact hok.2
    exact xg_bd (fun H locs cells slots ls rest x y hy kk => lv_irem hx hb hd hy kk) hn hs k
  case ladd =>
    have hn : n = 1 := hok.1
    have hd : decode (xr_by M) pc = .ok (.ladd, 1) := by rw [← hn]; exact hok.2
    exact xg_bl (fun H locs cells slots ls rest x y kk => lv_ladd hx hb hd kk) hn hs k
  case lsub =>
    have hn : n = 1 := hok.1
    have hd : decode (xr_by M) pc = .ok (.lsub, 1) := by rw [← hn]; exact hok.2
    exact xg_bl (fun H locs cells slots ls rest x y kk => lv_lsub hx hb hd kk) hn hs k
  case lmul =>
    have hn : n = 1 := hok.1
    have hd : decode (xr_by M) pc = .ok (.lmul, 1) := by rw [← hn]; exact hok.2
    exact xg_bl (fun H locs cells slots ls rest x y kk => lv_lmul hx hb hd kk) hn hs k
  case land =>
    have hn : n = 1 := hok.1
    have hd : decode (xr_by M) pc = .ok (.land, 1) := by rw [← hn]; exact hok.2
    exact xg_bl (fun H locs cells slots ls rest x y kk => lv_land hx hb hd kk) hn hs k
  case lor =>
    have hn : n = 1 := hok.1
    have hd : decode (xr_by M) pc = .ok (.lor, 1) := by rw [← hn]; exact hok.2
    exact xg_bl (fun H locs cells slots ls rest x y kk => lv_lor hx hb hd kk) hn hs k
  case lshl =>
    have hn : n = 1 := hok.1
    have hd : decode (xr_by M) pc = .ok (.lshl, 1) := by rw [← hn]; exact hok.2
    exact xg_bs (fun H locs cells slots ls rest x y kk => lv_lshl hx hb hd rfl kk) hn hs k
  case lshr =>
    have hn : n = 1 := hok.1
    have hd : decode (xr_by M) pc = .ok (.lshr, 1) := by rw [← hn]; exact hok.2
    exact xg_bs (fun H locs cells slots ls rest x y kk => lv_lshr hx hb hd rfl kk) hn hs k
  case lushr =>
    have hn : n = 1 := hok.1
    have hd : decode (xr_by M) pc = .ok (.lushr, 1) := by rw [← hn]; exact hok.2
    exact xg_bs (fun H locs cells slots ls rest x y kk => lv_lushr hx hb hd rfl kk) hn hs k
  case ineg =>
    have hn : n = 1 := hok.1
    have hd : decode (xr_by M) pc = .ok (.ineg, 1) := by rw [← hn]; exact hok.2
    subst hn
    cases st with
    | nil => cases hs
    | cons v r =>
      cases v with
      | int x =>
        cases hs
        intro H locs ads ws tys ls L' st' h1 h2 h3 h4 h5 h6
        obtain ⟨v1, r1, rfl, hv1, hr1⟩ := h6.cons
        have e1 := hv1.int
        subst e1
        exact lv_ineg hx hb hd (k H locs ads ws tys ls L' (.int (-x) :: r1) h1 h2 h3 h4 h5 ⟨rfl, hr1⟩)
      | _ => cases hs
  case i2l =>
    have hn : n = 1 := hok.1
    have hd : decode (xr_by M) pc = .ok (.i2l, 1) := by rw [← hn]; exact hok.2
    subst hn
    cases st with
    | nil => cases hs
    | cons v r =>
      cases v with
      | int x =>
        cases hs
        intro H locs ads ws tys ls L' st' h1 h2 h3 h4 h5 h6
        obtain ⟨v1, r1, rfl, hv1, hr1⟩ := h6.cons
        have e1 := hv1.int
        subst e1
        exact lv_i2l hx hb hd rfl (k H locs ads ws tys ls L' (.long x.toInt64 :: r1) h1 h2 h3 h4 h5 ⟨rfl, hr1⟩)
      | _ => cases hs
  case l2i =>
    have hn : n = 1 := hok.1
    have hd : decode (xr_by M) pc = .ok (.l2i, 1) := by rw [← hn]; exact hok.2
    subst hn
    cases st with
    | nil => cases hs
    | cons v r =>
      cases v with
      | long x =>
        cases hs
        intro H locs ads ws tys ls L' st' h1 h2 h3 h4 h5 h6
        obtain ⟨v1, r1, rfl, hv1, hr1⟩ := h6.cons
        have e1 := hv1.long
        subst e1
        exact lv_l2i hx hb hd rfl (k H locs ads ws tys ls L' (.int x.toInt32 :: r1) h1 h2 h3 h4 h5 ⟨rfl, hr1⟩)
      | _ => cases hs
  case lcmp =>
    have hn : n = 1 := hok.1
    have hd : decode (xr_by M) pc = .ok (.lcmp, 1) := by rw [← hn]; exact hok.2
    subst hn
    replace hs : (match (generalizing := false) st with
      | .long y :: .long x :: r => some ((pc + 1, L, .int (lg_cmp x y) :: r), h)
      | _ => none) = some F := hs
    split at hs
    · cases hs
      intro H locs ads ws tys ls L' st' h1 h2 h3 h4 h5 h6
      obtain ⟨v1, r1, rfl, hv1, hr1⟩ := h6.cons
      obtain ⟨v2, r2, rfl, hv2, hr2⟩ := hr1.cons
      have e1 := hv1.long
      have e2 := hv2.long
      subst e1
      subst e2
      exact W.lcmp hx hb hd (k H locs ads ws tys ls L' (.int _ :: r2) h1 h2 h3 h4 h5 ⟨rfl, hr2⟩)
    · cases hs
  case dup =>
    have hn : n = 1 := hok.1
    have hd : decode (xr_by M) pc = .ok (.dup, 1) := by rw [← hn]; exact hok.2
    subst hn
    cases st with
    | nil => cases hs
    | cons v r =>
      obtain ⟨hv, rfl⟩ := xr_cond (y := none) (show (bif Nat.beq v.category 1 then some ((pc + 1, L, v :: v :: r), h) else none) = some F from hs)
      intro H locs ads ws tys ls L' st' h1 h2 h3 h4 h5 h6
      obtain ⟨v1, r1, rfl, hv1, hr1⟩ := h6.cons
      exact lv_dup hx hb hd (hv1.cat.trans (Nat.eq_of_beq_eq_true hv)) (k H locs ads ws tys ls L' (v1 :: v1 :: r1) h1 h2 h3 h4 h5 ⟨hv1, hv1, hr1⟩)
  case pop =>
    have hn : n = 1 := hok.1
    have hd : decode (xr_by M) pc = .ok (.pop, 1) := by rw [← hn]; exact hok.2
    subst hn
    cases st with
    | nil => cases hs
    | cons v r =>
      obtain ⟨hv, rfl⟩ := xr_cond (y := none) (show (bif Nat.beq v.category 1 then some ((pc + 1, L, r), h) else none) = some F from hs)
      intro H locs ads ws tys ls L' st' h1 h2 h3 h4 h5 h6
      obtain ⟨v1, r1, rfl, hv1, hr1⟩ := h6.cons
      exact lv_pop hx hb hd (hv1.cat.trans (Nat.eq_of_beq_eq_true hv)) (k H locs ads ws tys ls L' r1 h1 h2 h3 h4 h5 hr1)
  case dup2 =>
    have hn : n = 1 := hok.1
    have hd : decode (xr_by M) pc = .ok (.dup2, 1) := by rw [← hn]; exact hok.2
    subst hn
    replace hs : (match (generalizing := false) st with
      | v :: w :: r => bif Nat.beq v.category 1 && Nat.beq w.category 1 then some ((pc + 1, L, v :: w :: v :: w :: r), h) else none
      | _ => none) = some F := hs
    split at hs
    · obtain ⟨hv, rfl⟩ := xr_cond (y := none) hs
      simp only [Bool.and_eq_true] at hv
      intro H locs ads ws tys ls L' st' h1 h2 h3 h4 h5 h6
      obtain ⟨v1, r1, rfl, hv1, hr1⟩ := h6.cons
      obtain ⟨v2, r2, rfl, hv2, hr2⟩ := hr1.cons
      exact lv_dup2_11 hx hb hd (hv1.cat.trans (Nat.eq_of_beq_eq_true hv.1)) (hv2.cat.trans (Nat.eq_of_beq_eq_true hv.2)) (k H locs ads ws tys ls L' (v1 :: v2 :: v1 :: v2 :: r2) h1 h2 h3 h4 h5 ⟨hv1, hv2, hv1, hv2, hr2⟩)
    · cases hs
  case ifCond w off =>
    obtain ⟨hn, ht, hd⟩ := hok
    replace hs : (match (generalizing := false) st with
      | .int x :: r => xr_br w x 0 (xr_to pc off L r h) (some ((pc + n, L, r), h))
      | _ => none) = some F := hs
    split at hs
    · cases w
      · exact xg_b1 (P := fun x => x = 0) (fun x => inferInstance) (fun H locs cells slots ls rest x tgt ht kt kf => lv_if_eq hx hb hd ht kt kf) hn ht (fun hp => by unfold xr_br at hs; simp only [if_pos hp] at hs; exact hs) (fun hp => by unfold xr_br at hs; simp only [if_neg hp] at hs; exact hs) k
      · exact xg_b1 (P := fun x => ¬ x = 0) (fun x => inferInstance) (fun H locs cells slots ls rest x tgt ht kt kf => lv_if_ne hx hb hd ht kt (fun z => kf (fun q => q z))) hn ht (fun hp => by unfold xr_br at hs; simp only [if_neg hp] at hs; exact hs) (fun hp => by unfold xr_br at hs; simp only [if_pos (Classical.not_not.mp hp)] at hs; exact hs) k
      · exact xg_b1 (P := fun x => x < 0) (fun x => inferInstance) (fun H locs cells slots ls rest x tgt ht kt kf => lv_if_lt hx hb hd ht kt kf) hn ht (fun hp => by unfold xr_br at hs; simp only [if_pos hp] at hs; exact hs) (fun hp => by unfold xr_br at hs; simp only [if_neg hp] at hs; exact hs) k
      · exact xg_b1 (P := fun x => 0 ≤ x) (fun x => inferInstance) (fun H locs cells slots ls rest x tgt ht kt kf => lv_if_ge hx hb hd ht kt kf) hn ht (fun hp => by unfold xr_br at hs; simp only [if_pos hp] at hs; exact hs) (fun hp => by unfold xr_br at hs; simp only [if_neg hp] at hs; exact hs) k
      · exact xg_b1 (P := fun x => 0 < x) (fun x => inferInstance) (fun H locs cells slots ls rest x tgt ht kt kf => lv_if_gt hx hb hd ht kt kf) hn ht (fun hp => by unfold xr_br at hs; simp only [if_pos hp] at hs; exact hs) (fun hp => by unfold xr_br at hs; simp only [if_neg hp] at hs; exact hs) k
      · exact xg_b1 (P := fun x => x ≤ 0) (fun x => inferInstance) (fun H locs cells slots ls rest x tgt ht kt kf => lv_if_le hx hb hd ht kt kf) hn ht (fun hp => by unfold xr_br at hs; simp only [if_pos hp] at hs; exact hs) (fun hp => by unfold xr_br at hs; simp only [if_neg hp] at hs; exact hs) k
    · cases hs
  case if_icmp w off =>
    obtain ⟨hn, ht, hd⟩ := hok
    replace hs : (match (generalizing := false) st with
      | .int y :: .int x :: r => xr_br w x y (xr_to pc off L r h) (some ((pc + n, L, r), h))
      | _ => none) = some F := hs
    split at hs
    · cases w
      · exact xg_b2 (P := fun x y => x = y) (fun x y => inferInstance) (fun H locs cells slots ls rest x y tgt ht kt kf => lv_icmp_eq hx hb hd ht kt kf) hn ht (fun hp => by unfold xr_br at hs; simp only [if_pos hp] at hs; exact hs) (fun hp => by unfold xr_br at hs; simp only [if_neg hp] at hs; exact hs) k
      · exact xg_b2 (P := fun x y => ¬ x = y) (fun x y => inferInstance) (fun H locs cells slots ls rest x y tgt ht kt kf => lv_icmp_ne hx hb hd ht kt (fun z => kf (fun q => q z))) hn ht (fun hp => by unfold xr_br at hs; simp only [if_neg hp] at hs; exact hs) (fun hp => by unfold xr_br at hs; simp only [if_pos (Classical.not_not.mp hp)] at hs; exact hs) k
      · exact xg_b2 (P := fun x y => x < y) (fun x y => inferInstance) (fun H locs cells slots ls rest x y tgt ht kt kf => lv_icmp_lt hx hb hd ht kt kf) hn ht (fun hp => by unfold xr_br at hs; simp only [if_pos hp] at hs; exact hs) (fun hp => by unfold xr_br at hs; simp only [if_neg hp] at hs; exact hs) k
      · exact xg_b2 (P := fun x y => y ≤ x) (fun x y => inferInstance) (fun H locs cells slots ls rest x y tgt ht kt kf => lv_icmp_ge hx hb hd ht kt kf) hn ht (fun hp => by unfold xr_br at hs; simp only [if_pos hp] at hs; exact hs) (fun hp => by unfold xr_br at hs; simp only [if_neg hp] at hs; exact hs) k
      · exact xg_b2 (P := fun x y => y < x) (fun x y => inferInstance) (fun H locs cells slots ls rest x y tgt ht kt kf => lv_icmp_gt hx hb hd ht kt kf) hn ht (fun hp => by unfold xr_br at hs; simp only [if_pos hp] at hs; exact hs) (fun hp => by unfold xr_br at hs; simp only [if_neg hp] at hs; exact hs) k
      · exact xg_b2 (P := fun x y => x ≤ y) (fun x y => inferInstance) (fun H locs cells slots ls rest x y tgt ht kt kf => lv_icmp_le hx hb hd ht kt kf) hn ht (fun hp => by unfold xr_br at hs; simp only [if_pos hp] at hs; exact hs) (fun hp => by unfold xr_br at hs; simp only [if_neg hp] at hs; exact hs) k
    · cases hs
  case ifnull off =>
    have hn : n = 3 := hok.1
    have hd : decode (xr_by M) pc = .ok (.ifnull off, 3) := by rw [← hn]; exact hok.2
    subst hn
    cases st with
    | nil => cases hs
    | cons v r =>
      cases v with
      | null =>
        obtain ⟨t, ht, rfl⟩ := xr_to_s (show xr_to pc off L r h = some F from hs)
        intro H locs ads ws tys ls L' st' h1 h2 h3 h4 h5 h6
        obtain ⟨v1, r1, rfl, hv1, hr1⟩ := h6.cons
        have e1 := hv1.null
        subst e1
        exact lv_ifnullN hx hb hd ht (k H locs ads ws tys ls L' r1 h1 h2 h3 h4 h5 hr1)
      | ref a =>
        cases hs
        intro H locs ads ws tys ls L' st' h1 h2 h3 h4 h5 h6
        obtain ⟨v1, r1, rfl, hv1, hr1⟩ := h6.cons
        obtain ⟨q, rfl, hq⟩ := hv1.ref
        exact lv_ifnull hx hb hd (k H locs ads ws tys ls L' r1 h1 h2 h3 h4 h5 hr1)
      | _ => cases hs
  case ifnonnull off =>
    have hn : n = 3 := hok.1
    have hd : decode (xr_by M) pc = .ok (.ifnonnull off, 3) := by rw [← hn]; exact hok.2
    subst hn
    cases st with
    | nil => cases hs
    | cons v r =>
      cases v with
      | null =>
        cases hs
        intro H locs ads ws tys ls L' st' h1 h2 h3 h4 h5 h6
        obtain ⟨v1, r1, rfl, hv1, hr1⟩ := h6.cons
        have e1 := hv1.null
        subst e1
        exact lv_ifnonnullN hx hb hd (k H locs ads ws tys ls L' r1 h1 h2 h3 h4 h5 hr1)
      | ref a =>
        obtain ⟨t, ht, rfl⟩ := xr_to_s (show xr_to pc off L r h = some F from hs)
        intro H locs ads ws tys ls L' st' h1 h2 h3 h4 h5 h6
        obtain ⟨v1, r1, rfl, hv1, hr1⟩ := h6.cons
        obtain ⟨q, rfl, hq⟩ := hv1.ref
        exact lv_ifnonnull hx hb hd ht (k H locs ads ws tys ls L' r1 h1 h2 h3 h4 h5 hr1)
      | _ => cases hs
  case goto off =>
    have hn : n = 3 := hok.1
    have hd : decode (xr_by M) pc = .ok (.goto off, 3) := by rw [← hn]; exact hok.2
    obtain ⟨t, ht, rfl⟩ := xr_to_s (show xr_to pc off L st h = some F from hs)
    intro H locs ads ws tys ls L' st' h1 h2 h3 h4 h5 h6
    exact lv_goto hx hb hd ht (k H locs ads ws tys ls L' st' h1 h2 h3 h4 h5 h6)
  case tableswitch d lo hi offs =>
    have hd : decode (xr_by M) pc = .ok (.tableswitch d lo hi offs, n) := hok
    cases st with
    | nil => cases hs
    | cons v r =>
      cases v with
      | int x =>
        replace hs : (if x.toInt < lo ∨ hi < x.toInt then xr_to pc d L r h else match offs[(x.toInt - lo).toNat]? with
          | some off => xr_to pc off L r h
          | none => none) = some F := hs
        split at hs
        · rename_i hout
          obtain ⟨t, ht, rfl⟩ := xr_to_s hs
          intro H locs ads ws tys ls L' st' h1 h2 h3 h4 h5 h6
          obtain ⟨v1, r1, rfl, hv1, hr1⟩ := h6.cons
          have e1 := hv1.int
          subst e1
          exact lv_tableOut hx hb hd hout ht (k H locs ads ws tys ls L' r1 h1 h2 h3 h4 h5 hr1)
        · rename_i hin
          split at hs
          · rename_i off ho
            obtain ⟨t, ht, rfl⟩ := xr_to_s hs
            intro H locs ads ws tys ls L' st' h1 h2 h3 h4 h5 h6
            obtain ⟨v1, r1, rfl, hv1, hr1⟩ := h6.cons
            have e1 := hv1.int
            subst e1
            exact lv_tableIn hx hb hd (fun z => hin (Or.inl z)) (fun z => hin (Or.inr z)) ho ht (k H locs ads ws tys ls L' r1 h1 h2 h3 h4 h5 hr1)
          · cases hs
      | _ => cases hs
  case lookupswitch d ps =>
    obtain ⟨hd, hp⟩ := hok
    cases st with
    | nil => cases hs
    | cons v r =>
      cases v with
      | int x =>
        obtain ⟨t, ht, rfl⟩ := xr_to_s (show xr_to pc (Op.lookupswitch.offset ps.toList d x.toInt) L r h = some F from hs)
        intro H locs ads ws tys ls L' st' h1 h2 h3 h4 h5 h6
        obtain ⟨v1, r1, rfl, hv1, hr1⟩ := h6.cons
        have e1 := hv1.int
        subst e1
        exact lv_lookup hx hb hd hp rfl ht (k H locs ads ws tys ls L' r1 h1 h2 h3 h4 h5 hr1)
      | _ => cases hs
  case iaload =>
    have hn : n = 1 := hok.1
    have hd : decode (xr_by M) pc = .ok (.iaload, 1) := by rw [← hn]; exact hok.2
    exact xg_ia C hd hn hs k
  case baload =>
    have hn : n = 1 := hok.1
    have hd : decode (xr_by M) pc = .ok (.baload, 1) := by rw [← hn]; exact hok.2
    exact xg_za C hd hn hs k
  case iastore =>
    have hn : n = 1 := hok.1
    have hd : decode (xr_by M) pc = .ok (.iastore, 1) := by rw [← hn]; exact hok.2
    exact xg_is C hd hn hs k
  case bastore =>
    have hn : n = 1 := hok.1
    have hd : decode (xr_by M) pc = .ok (.bastore, 1) := by rw [← hn]; exact hok.2
    exact xg_zs C hd hn hs k
  case laload =>
    have hn : n = 1 := hok.1
    have hd : decode (xr_by M) pc = .ok (.laload, 1) := by rw [← hn]; exact hok.2
    exact xg_la64 C hd hn hs k
  case lastore =>
    have hn : n = 1 := hok.1
    have hd : decode (xr_by M) pc = .ok (.lastore, 1) := by rw [← hn]; exact hok.2
    exact xg_ls64 C hd hn hs k
  case aaload =>
    have hn : n = 1 := hok.1
    have hd : decode (xr_by M) pc = .ok (.aaload, 1) := by rw [← hn]; exact hok.2
    exact xg_qa C hd hn hs k
  case aastore =>
    have hn : n = 1 := hok.1
    have hd : decode (xr_by M) pc = .ok (.aastore, 1) := by rw [← hn]; exact hok.2
    exact xg_qs C hd hn hs k
  case arraylength =>
    have hn : n = 1 := hok.1
    have hd : decode (xr_by M) pc = .ok (.arraylength, 1) := by rw [← hn]; exact hok.2
    exact xg_len C hd hn hs k
  case getfield f =>
    obtain ⟨hn, x, C0, F0', N, hd, hcl, hN, hl0⟩ := hok
    exact xg_fld C hK hd hcl hN hl0 hn hs k
  case putfield f =>
    exact xg_pfl C hK hok hs k
  case putstatic f =>
    exact xg_pfl C hK hok hs k
  case invokedynamic f =>
    exact xg_pfl C hK hok hs k
  case monitorexit =>
    obtain ⟨hn, x, hd, w1, w2, w3⟩ := hok
    subst hn
    cases st with
    | nil => cases hs
    | cons v r =>
      cases v with
      | ref a =>
        obtain ⟨hr8, rfl⟩ := xr_cond (y := none) (show (bif Nat.ble (xr_cat r) 8 then some ((pc + 3, L, r), h) else none) = some F from hs)
        have hr8' := Nat.le_of_ble_eq_true hr8
        intro H locs ads ws tys ls L' st' h1 h2 h3 h4 h5 h6
        obtain ⟨v1, r1, rfl, hv1, hr1⟩ := h6.cons
        obtain ⟨q, rfl, hq⟩ := hv1.ref
        have hcs := hr1.catsum
        refine W.objInit hx hb hown (hts _ w1) (hts _ w2) (hts _ w3) rfl (h4.1.trans hml.symm) rfl hd hR2.1 ?_ (k H locs ads ws tys ls L' r1 h1 h2 h3 h4 h5 hr1)
        show 2 * 0 + (r1.map fun v => v.category).sum + 12 ≤ R.locals
        omega
      | _ => cases hs
  case new ci =>
    obtain ⟨hn, x, C0, F0', N, hd, hcl, hl0⟩ := hok
    exact xg_new C hK hd hcl hl0 hn hs hc hc' hR k
  case newarray t =>
    obtain ⟨hn, hd, hl0⟩ := hok
    cases st with
    | nil => cases hs
    | cons v r =>
      cases v with
      | int kk =>
        replace hs : (if kk < 0 ∨ 65536 < kk.toNatClampNeg then none else match xr_nwa t with
          | some c => some ((pc + n, L, .ref h.2.2.1 :: r), xr_new h kk.toNatClampNeg (.inl (newarray.typeOf t, kk.toNatClampNeg, c.2)))
          | none => none) = some F := hs
        split at hs
        · cases hs
        · rename_i hk0
          split at hs
          · rename_i cc hcc
            exact xg_nwa C hd hl0 hcc hk0 hn hs hc hc' hR k
          · cases hs
      | _ => cases hs
  case anewarray ci =>
    obtain ⟨hn, x, q0, hd, hcl, hl0, hao⟩ := hok
    replace hs : (match (generalizing := false) st, T.2.1[ci]? with
      | .int k :: r, some q => if k < 0 ∨ 65536 < k.toNatClampNeg then none else some ((pc + n, L, .ref h.2.2.1 :: r), xr_new h k.toNatClampNeg (.inl (.object q.1, k.toNatClampNeg, .inr (.inr (.inr (.inr (fun _ => none)))))))
      | _, _ => none) = some F := hs
    rw [hcl] at hs
    split at hs
    · rename_i kk r q hq
      cases hq
      split at hs
      · cases hs
      · exact xg_anw C hd hl0 hao (by assumption) hn hs hc hc' hR k
    · cases hs
  all_goals exact nomatch (show (none : Option (xrF × xrH)) = some F from hs)
end XSP
