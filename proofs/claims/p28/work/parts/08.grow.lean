/-! WHAT WAS MADE only grows -/
theorem xr_new_le (h : xrH) (k : Nat) (e : xrE) : h.1 ≤ (xr_new h k e).1 ∧ h.2.1 ≤ (xr_new h k e).2.1 ∧ h.2.2.1 ≤ (xr_new h k e).2.2.1 := ⟨Nat.le_succ _, Nat.le_add_right _ _, Nat.le_succ _⟩
theorem xr_br_le {α : Type} {c : ClassFile.Cond} {x y : Int32} {A B : Option α} {z : α} (h : xr_br c x y A B = some z) : A = some z ∨ B = some z := by
  unfold xr_br at h
  split at h <;> split at h <;> first | exact Or.inl h | exact Or.inr h
set_option maxHeartbeats 4000000 in
theorem xr_s_le {T : xrT} {i : Instr} {n pc : Nat} {L : xrL} {st : List Value} {h : xrH} {F : xrF × xrH} (hs : xr_s T i n pc L st h = some F) : h.1 ≤ F.2.1 ∧ h.2.1 ≤ F.2.2.1 ∧ h.2.2.1 ≤ F.2.2.2.1 := by
  cases i
  case aconst_null =>
    cases hs
    exact ⟨Nat.le_refl _, Nat.le_refl _, Nat.le_refl _⟩
  case iconst v =>
    cases hs
    exact ⟨Nat.le_refl _, Nat.le_refl _, Nat.le_refl _⟩
  case bipush v =>
    cases hs
    exact ⟨Nat.le_refl _, Nat.le_refl _, Nat.le_refl _⟩
  case sipush v =>
    cases hs
    exact ⟨Nat.le_refl _, Nat.le_refl _, Nat.le_refl _⟩
  case lconst v =>
    cases hs
    exact ⟨Nat.le_refl _, Nat.le_refl _, Nat.le_refl _⟩
  case jsr_w v =>
    cases hs
    exact ⟨Nat.le_refl _, Nat.le_refl _, Nat.le_refl _⟩
  case jsr v =>
    cases hs
    exact ⟨Nat.le_refl _, Nat.le_refl _, Nat.le_refl _⟩
  case goto_w v =>
    cases hs
    exact ⟨Nat.le_refl _, Nat.le_refl _, Nat.le_refl _⟩
  case iload j =>
    obtain ⟨_, -, rfl⟩ := xr_li_s hs
    exact ⟨Nat.le_refl _, Nat.le_refl _, Nat.le_refl _⟩
  case iload_n j =>
    obtain ⟨_, -, rfl⟩ := xr_li_s hs
    exact ⟨Nat.le_refl _, Nat.le_refl _, Nat.le_refl _⟩
  case lload j =>
    obtain ⟨_, -, rfl⟩ := xr_ll_s hs
    exact ⟨Nat.le_refl _, Nat.le_refl _, Nat.le_refl _⟩
  case lload_n j =>
    obtain ⟨_, -, rfl⟩ := xr_ll_s hs
    exact ⟨Nat.le_refl _, Nat.le_refl _, Nat.le_refl _⟩
  case aload j =>
    obtain ⟨_, -, -, rfl⟩ := xr_la_s hs
    exact ⟨Nat.le_refl _, Nat.le_refl _, Nat.le_refl _⟩
  case aload_n j =>
    obtain ⟨_, -, -, rfl⟩ := xr_la_s hs
    exact ⟨Nat.le_refl _, Nat.le_refl _, Nat.le_refl _⟩
  case istore j =>
    obtain ⟨_, _, -, rfl⟩ := xr_si_s hs
    exact ⟨Nat.le_refl _, Nat.le_refl _, Nat.le_refl _⟩
  case istore_n j =>
    obtain ⟨_, _, -, rfl⟩ := xr_si_s hs
    exact ⟨Nat.le_refl _, Nat.le_refl _, Nat.le_refl _⟩
  case lstore j =>
    obtain ⟨_, _, -, rfl⟩ := xr_sl_s hs
    exact ⟨Nat.le_refl _, Nat.le_refl _, Nat.le_refl _⟩
  case lstore_n j =>
    obtain ⟨_, _, -, rfl⟩ := xr_sl_s hs
    exact ⟨Nat.le_refl _, Nat.le_refl _, Nat.le_refl _⟩
  case astore j =>
    obtain ⟨_, _, -, -, rfl⟩ := xr_sa_s hs
    exact ⟨Nat.le_refl _, Nat.le_refl _, Nat.le_refl _⟩
  case astore_n j =>
    obtain ⟨_, _, -, -, rfl⟩ := xr_sa_s hs
    exact ⟨Nat.le_refl _, Nat.le_refl _, Nat.le_refl _⟩
  case iinc j v =>
    unfold xr_s at hs
    dsimp only at hs
    split at hs
    · cases hs
      exact ⟨Nat.le_refl _, Nat.le_refl _, Nat.le_refl _⟩
    · cases hs
  case iadd =>
    obtain ⟨_, _, _, -, rfl⟩ := xr_bi_s hs
    exact ⟨Nat.le_refl _, Nat.le_refl _, Nat.le_refl _⟩
  case isub =>
    obtain ⟨_, _, _, -, rfl⟩ := xr_bi_s hs
    exact ⟨Nat.le_refl _, Nat.le_refl _, Nat.le_refl _⟩
  case imul =>
    obtain ⟨_, _, _, -, rfl⟩ := xr_bi_s hs
    exact ⟨Nat.le_refl _, Nat.le_refl _, Nat.le_refl _⟩
  case iand =>
    obtain ⟨_, _, _, -, rfl⟩ := xr_bi_s hs
    exact ⟨Nat.le_refl _, Nat.le_refl _, Nat.le_refl _⟩
  case ior =>
    obtain ⟨_, _, _, -, rfl⟩ := xr_bi_s hs
    exact ⟨Nat.le_refl _, Nat.le_refl _, Nat.le_refl _⟩
  case ixor =>
    obtain ⟨_, _, _, -, rfl⟩ := xr_bi_s hs
    exact ⟨Nat.le_refl _, Nat.le_refl _, Nat.le_refl _⟩
  case ishl =>
    obtain ⟨_, _, _, -, rfl⟩ := xr_bi_s hs
    exact ⟨Nat.le_refl _, Nat.le_refl _, Nat.le_refl _⟩
  case ishr =>
    obtain ⟨_, _, _, -, rfl⟩ := xr_bi_s hs
    exact ⟨Nat.le_refl _, Nat.le_refl _, Nat.le_refl _⟩
  case idiv =>
    obtain ⟨_, _, _, -, -, rfl⟩ := xr_bd_s hs
    exact ⟨Nat.le_refl _, Nat.le_refl _, Nat.le_refl _⟩
  case irem =>
    obtain ⟨_, _, _, -, -, rfl⟩ := xr_bd_s hs
    exact ⟨Nat.le_refl _, Nat.le_refl _, Nat.le_refl _⟩
  case ladd =>
    obtain ⟨_, _, _, -, rfl⟩ := xr_bl_s hs
    exact ⟨Nat.le_refl _, Nat.le_refl _, Nat.le_refl _⟩
  case lsub =>
    obtain ⟨_, _, _, -, rfl⟩ := xr_bl_s hs
    exact ⟨Nat.le_refl _, Nat.le_refl _, Nat.le_refl _⟩
  case lmul =>
    obtain ⟨_, _, _, -, rfl⟩ := xr_bl_s hs
    exact ⟨Nat.le_refl _, Nat.le_refl _, Nat.le_refl _⟩
  case land =>
    obtain ⟨_, _, _, -, rfl⟩ := xr_bl_s hs
    exact ⟨Nat.le_refl _, Nat.le_refl _, Nat.le_refl _⟩
  case lor =>
    obtain ⟨_, _, _, -, rfl⟩ := xr_bl_s hs
    exact ⟨Nat.le_refl _, Nat.le_refl _, Nat.le_refl _⟩
  case lshl =>
    obtain ⟨_, _, _, -, rfl⟩ := xr_bs_s hs
    exact ⟨Nat.le_refl _, Nat.le_refl _, Nat.le_refl _⟩
  case lshr =>
    obtain ⟨_, _, _, -, rfl⟩ := xr_bs_s hs
    exact ⟨Nat.le_refl _, Nat.le_refl _, Nat.le_refl _⟩
  case lushr =>
    obtain ⟨_, _, _, -, rfl⟩ := xr_bs_s hs
    exact ⟨Nat.le_refl _, Nat.le_refl _, Nat.le_refl _⟩
  case ineg =>
    unfold xr_s at hs
    dsimp only at hs
    split at hs
    · cases hs
      exact ⟨Nat.le_refl _, Nat.le_refl _, Nat.le_refl _⟩
    · cases hs
  case i2l =>
    unfold xr_s at hs
    dsimp only at hs
    split at hs
    · cases hs
      exact ⟨Nat.le_refl _, Nat.le_refl _, Nat.le_refl _⟩
    · cases hs
  case l2i =>
    unfold xr_s at hs
    dsimp only at hs
    split at hs
    · cases hs
      exact ⟨Nat.le_refl _, Nat.le_refl _, Nat.le_refl _⟩
    · cases hs
  case lcmp =>
    unfold xr_s at hs
    dsimp only at hs
    split at hs
    · cases hs
      exact ⟨Nat.le_refl _, Nat.le_refl _, Nat.le_refl _⟩
    · cases hs
  case dup =>
    unfold xr_s at hs
    dsimp only at hs
    split at hs
    · obtain ⟨-, rfl⟩ := xr_cond (y := none) hs
      exact ⟨Nat.le_refl _, Nat.le_refl _, Nat.le_refl _⟩
    · cases hs
  case dup2 =>
    unfold xr_s at hs
    dsimp only at hs
    split at hs
    · obtain ⟨-, rfl⟩ := xr_cond (y := none) hs
      exact ⟨Nat.le_refl _, Nat.le_refl _, Nat.le_refl _⟩
    · cases hs
  case pop =>
    unfold xr_s at hs
    dsimp only at hs
    split at hs
    · obtain ⟨-, rfl⟩ := xr_cond (y := none) hs
      exact ⟨Nat.le_refl _, Nat.le_refl _, Nat.le_refl _⟩
    · cases hs
  case ifCond w off =>
    unfold xr_s at hs
    dsimp only at hs
    split at hs
    · rcases xr_br_le hs with h1 | h1
      · obtain ⟨_, -, rfl⟩ := xr_to_s h1
        exact ⟨Nat.le_refl _, Nat.le_refl _, Nat.le_refl _⟩
      · cases h1
        exact ⟨Nat.le_refl _, Nat.le_refl _, Nat.le_refl _⟩
    · cases hs
  case if_icmp w off =>
    unfold xr_s at hs
    dsimp only at hs
    split at hs
    · rcases xr_br_le hs with h1 | h1
      · obtain ⟨_, -, rfl⟩ := xr_to_s h1
        exact ⟨Nat.le_refl _, Nat.le_refl _, Nat.le_refl _⟩
      · cases h1
        exact ⟨Nat.le_refl _, Nat.le_refl _, Nat.le_refl _⟩
    · cases hs
  case ifnull off =>
    unfold xr_s at hs
    dsimp only at hs
    split at hs
    · obtain ⟨_, -, rfl⟩ := xr_to_s hs
      exact ⟨Nat.le_refl _, Nat.le_refl _, Nat.le_refl _⟩
    · cases hs
      exact ⟨Nat.le_refl _, Nat.le_refl _, Nat.le_refl _⟩
    · cases hs
  case ifnonnull off =>
    unfold xr_s at hs
    dsimp only at hs
    split at hs
    · obtain ⟨_, -, rfl⟩ := xr_to_s hs
      exact ⟨Nat.le_refl _, Nat.le_refl _, Nat.le_refl _⟩
    · cases hs
      exact ⟨Nat.le_refl _, Nat.le_refl _, Nat.le_refl _⟩
    · cases hs
  case goto off =>
    obtain ⟨_, -, rfl⟩ := xr_to_s (show xr_to pc off L st h = some F from hs)
    exact ⟨Nat.le_refl _, Nat.le_refl _, Nat.le_refl _⟩
  case tableswitch d lo hi offs =>
    unfold xr_s at hs
    dsimp only at hs
    split at hs
    · split at hs
      · obtain ⟨_, -, rfl⟩ := xr_to_s hs
        exact ⟨Nat.le_refl _, Nat.le_refl _, Nat.le_refl _⟩
      · split at hs
        · obtain ⟨_, -, rfl⟩ := xr_to_s hs
          exact ⟨Nat.le_refl _, Nat.le_refl _, Nat.le_refl _⟩
        · cases hs
    · cases hs
  case lookupswitch d ps =>
    unfold xr_s at hs
    dsimp only at hs
    split at hs
    · obtain ⟨_, -, rfl⟩ := xr_to_s hs
      exact ⟨Nat.le_refl _, Nat.le_refl _, Nat.le_refl _⟩
    · cases hs
  case iaload =>
    rcases xr_ald_s hs with ⟨_, _, _, _, _, -, -, -, rfl⟩ | ⟨_, _, _, -, -, -, rfl⟩
    · exact ⟨Nat.le_refl _, Nat.le_refl _, Nat.le_refl _⟩
    · exact ⟨Nat.le_refl _, Nat.le_refl _, Nat.le_refl _⟩
  case baload =>
    rcases xr_ald_s hs with ⟨_, _, _, _, _, -, -, -, rfl⟩ | ⟨_, _, _, -, -, -, rfl⟩
    · exact ⟨Nat.le_refl _, Nat.le_refl _, Nat.le_refl _⟩
    · exact ⟨Nat.le_refl _, Nat.le_refl _, Nat.le_refl _⟩
  case iastore =>
    obtain ⟨_, _, _, _, _, _, -, -, -, -, rfl⟩ := xr_ast_s hs
    exact ⟨Nat.le_refl _, Nat.le_refl _, Nat.le_refl _⟩
  case bastore =>
    obtain ⟨_, _, _, _, _, _, -, -, -, -, rfl⟩ := xr_ast_s hs
    exact ⟨Nat.le_refl _, Nat.le_refl _, Nat.le_refl _⟩
  case laload =>
    obtain ⟨_, _, _, _, _, -, -, -, rfl⟩ := xr_lald_s hs
    exact ⟨Nat.le_refl _, Nat.le_refl _, Nat.le_refl _⟩
  case lastore =>
    obtain ⟨_, _, _, _, _, _, -, -, -, rfl⟩ := xr_last_s hs
    exact ⟨Nat.le_refl _, Nat.le_refl _, Nat.le_refl _⟩
  case aaload =>
    obtain ⟨_, _, _, _, _, _, -, -, -, rfl⟩ := xr_qald_s hs
    exact ⟨Nat.le_refl _, Nat.le_refl _, Nat.le_refl _⟩
  case aastore =>
    obtain ⟨_, _, _, _, _, _, _, _, _, -, -, -, -, -, rfl⟩ := xr_qast_s hs
    exact ⟨Nat.le_refl _, Nat.le_refl _, Nat.le_refl _⟩
  case arraylength =>
    rcases xr_len_s hs with ⟨_, _, _, _, _, -, -, rfl⟩ | ⟨_, _, -, rfl⟩
    · exact ⟨Nat.le_refl _, Nat.le_refl _, Nat.le_refl _⟩
    · exact ⟨Nat.le_refl _, Nat.le_refl _, Nat.le_refl _⟩
  case getfield f =>
    obtain ⟨_, _, _, _, -, -, -, rfl⟩ := xr_fld_s hs
    exact ⟨Nat.le_refl _, Nat.le_refl _, Nat.le_refl _⟩
  case putfield f =>
    obtain ⟨_, _, _, _, -, -, -, -, rfl⟩ := xr_pfl_s hs
    exact ⟨Nat.le_refl _, Nat.le_refl _, Nat.le_refl _⟩
  case putstatic f =>
    obtain ⟨_, _, _, _, -, -, -, -, rfl⟩ := xr_pfl_s hs
    exact ⟨Nat.le_refl _, Nat.le_refl _, Nat.le_refl _⟩
  case invokedynamic f =>
    obtain ⟨_, _, _, _, -, -, -, -, rfl⟩ := xr_pfl_s hs
    exact ⟨Nat.le_refl _, Nat.le_refl _, Nat.le_refl _⟩
  case monitorexit =>
    unfold xr_s at hs
    dsimp only at hs
    split at hs
    · obtain ⟨-, rfl⟩ := xr_cond (y := none) hs
      exact ⟨Nat.le_refl _, Nat.le_refl _, Nat.le_refl _⟩
    · cases hs
  case new ci =>
    cases hs
    exact xr_new_le _ _ _
  case newarray t =>
    unfold xr_s at hs
    dsimp only at hs
    split at hs
    · split at hs
      · cases hs
      · split at hs
        · cases hs
          exact xr_new_le _ _ _
        · cases hs
    · cases hs
  case anewarray ci =>
    unfold xr_s at hs
    dsimp only at hs
    split at hs
    · split at hs
      · cases hs
      · cases hs
        exact xr_new_le _ _ _
    · cases hs
  all_goals exact nomatch (show (none : Option (xrF × xrH)) = some F from hs)
theorem xr_cond2 {α : Type} {b : Bool} {y : Option α} {z : α} (e : (bif b then none else y) = some z) : b = false ∧ y = some z := by
  cases b
  · exact ⟨rfl, e⟩
  · cases e
theorem xr_run_le {T : xrT} : ∀ (N d j pc : Nat) (L : xrL) (st : List Value) (h : xrH) (o : xrO) (h' : xrH), xr_run T N d j pc L st h = some (o, h') → h.1 ≤ h'.1 ∧ h.2.1 ≤ h'.2.1 ∧ h.2.2.1 ≤ h'.2.2.1 := by
  intro N
  induction N with
  | zero =>
    intro d j pc L st h o h' e
    cases e
  | succ N ih =>
    intro d j pc L st h o h' e
    unfold xr_run at e
    split at e
    · cases e
    · split at e
      · cases e
      · split at e
        · split at e
          · cases e
          · rename_i f h1 hs
            have h2 := xr_s_le hs
            have h3 := ih _ _ _ _ _ _ _ _ e
            exact ⟨Nat.le_trans h2.1 h3.1, Nat.le_trans h2.2.1 h3.2.1, Nat.le_trans h2.2.2 h3.2.2⟩
        · split at e
          · cases e
          · cases e
            exact ⟨Nat.le_refl _, Nat.le_refl _, Nat.le_refl _⟩
        · split at e
          · obtain ⟨-, e2⟩ := xr_cond (y := none) e
            cases e2
            exact ⟨Nat.le_succ _, Nat.le_add_right _ _, Nat.le_refl _⟩
          · cases e
        · split at e
          · cases e
          · split at e
            · cases e
            · split at e
              · cases e
              · rename_i v h1 hc
                have h2 := ih _ _ _ _ _ _ _ _ hc
                have h3 := ih _ _ _ _ _ _ _ _ e
                exact ⟨Nat.le_trans h2.1 h3.1, Nat.le_trans h2.2.1 h3.2.1, Nat.le_trans h2.2.2 h3.2.2⟩
              · rename_i k h1 hc
                have h2 := ih _ _ _ _ _ _ _ _ hc
                replace e := (xr_cond2 e).2
                split at e
                · have h3 := ih _ _ _ _ _ _ _ _ e
                  exact ⟨Nat.le_trans h2.1 h3.1, Nat.le_trans h2.2.1 h3.2.1, Nat.le_trans h2.2.2 h3.2.2⟩
                · cases e
                  exact h2
