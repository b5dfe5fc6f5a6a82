/-! RULES: what a function of Lean computes, the runner computes. xq T q j F pc L st h: if F has a result, the run from there on has it too (calls q deep at most). -/
abbrev xrR : Type := Option (xrO × xrH)
theorem xr_run_up {T : xrT} : ∀ (N d j pc : Nat) (L : xrL) (st : List Value) (h : xrH) (r : xrO × xrH), xr_run T N d j pc L st h = some r → xr_run T (N + 1) d j pc L st h = some r := by
  intro N
  induction N with
  | zero =>
    intro d j pc L st h r e
    cases e
  | succ N ih =>
    intro d j pc L st h r e
    rw [xr_run] at e ⊢
    cases hM : T.1[j]? with
    | none =>
      rw [hM] at e
      cases e
    | some M =>
      rw [hM] at e
      try dsimp only at e ⊢
      cases hf : xr_fetch (xr_cd M) pc with
      | none =>
        rw [hf] at e
        cases e
      | some q =>
        obtain ⟨i, n⟩ := q
        rw [hf] at e
        try dsimp only at e ⊢
        generalize xr_what i = w at e ⊢
        match w, e with
        | 0, e =>
          try dsimp only at e ⊢
          cases hs : xr_s T i n pc L st h with
          | none =>
            rw [hs] at e
            cases e
          | some F =>
            rw [hs] at e
            exact ih _ _ _ _ _ _ _ e
        | 1, e => exact e
        | 2, e => exact e
        | w + 3, e =>
          try dsimp only at e ⊢
          cases hc : xr_call T i st h with
          | none =>
            rw [hc] at e
            cases e
          | some q =>
            obtain ⟨k, K, as, r0⟩ := q
            rw [hc] at e
            try dsimp only at e ⊢
            cases d with
            | zero => cases e
            | succ d1 =>
              try dsimp only at e ⊢
              cases hr : xr_run T N d1 k 0 (lv_args 0 as) [] h with
              | none =>
                rw [hr] at e
                cases e
              | some z =>
                rw [ih _ _ _ _ _ _ _ hr]
                rw [hr] at e
                obtain ⟨o, h1⟩ := z
                cases o with
                | inl v => exact ih _ _ _ _ _ _ _ e
                | inr x =>
                  try dsimp only at e ⊢
                  cases hb : Nat.beq (w + 3) 4 with
                  | true =>
                    rw [hb] at e
                    cases e
                  | false =>
                    rw [hb] at e
                    dsimp only [cond] at e ⊢
                    cases hh : xr_hnd (xr_hd M) pc x with
                    | none =>
                      rw [hh] at e
                      exact e
                    | some t =>
                      rw [hh] at e
                      exact ih _ _ _ _ _ _ _ e
theorem xr_run_ups {T : xrT} {N d j pc : Nat} {L : xrL} {st : List Value} {h : xrH} {r : xrO × xrH} (e : xr_run T N d j pc L st h = some r) : ∀ k, xr_run T (N + k) d j pc L st h = some r
  | 0 => e
  | k + 1 => xr_run_up _ _ _ _ _ _ _ _ (xr_run_ups e k)
theorem xr_run_upl {T : xrT} {N N' d j pc : Nat} {L : xrL} {st : List Value} {h : xrH} {r : xrO × xrH} (e : xr_run T N d j pc L st h = some r) (hN : N ≤ N') : xr_run T N' d j pc L st h = some r := by
  obtain ⟨k, rfl⟩ := Nat.le.dest hN
  exact xr_run_ups e k
/-- the run from there on comes to this end, with calls q deep at most -/
def xr_ev (T : xrT) (q j pc : Nat) (L : xrL) (st : List Value) (h : xrH) (r : xrO × xrH) : Prop := ∃ N, ∀ d, q ≤ d → xr_run T N d j pc L st h = some r
def xq (T : xrT) (q j : Nat) (F : xrR) (pc : Nat) (L : xrL) (st : List Value) (h : xrH) : Prop := ∀ r, F = some r → xr_ev T q j pc L st h r
theorem xq_none {T : xrT} {q j pc : Nat} {L : xrL} {st : List Value} {h : xrH} : xq T q j none pc L st h := fun _ e => by cases e
section
variable {T : xrT} {q j pc n : Nat} {L : xrL} {st : List Value} {h : xrH} {r : xrO × xrH} {M : xrM} {i : Instr}
theorem xr_ev_s {f : xrF} {h1 : xrH} (hM : T.1[j]? = some M) (hf : xr_fetch (xr_cd M) pc = some (i, n)) (hw : xr_what i = 0) (hs : xr_s T i n pc L st h = some (f, h1)) (k : xr_ev T q j f.1 f.2.1 f.2.2 h1 r) : xr_ev T q j pc L st h r := by
  obtain ⟨N, k⟩ := k
  refine ⟨N + 1, fun d hd => ?_⟩
  rw [xr_run, hM]
  try dsimp only
  rw [hf]
  try dsimp only
  rw [hw]
  try dsimp only
  rw [hs]
  exact k d hd
/-- so many steps that are no calls -/
def xr_sn (T : xrT) (c : xrC) : Nat → Nat → xrL → List Value → xrH → Option (xrF × xrH)
  | 0, pc, L, st, h => some ((pc, L, st), h)
  | k + 1, pc, L, st, h => match xr_fetch c pc with
    | none => none
    | some (i, n) => bif Nat.beq (xr_what i) 0 then (match xr_s T i n pc L st h with
      | none => none
      | some (f, h1) => xr_sn T c k f.1 f.2.1 f.2.2 h1) else none
theorem xr_ev_n (hM : T.1[j]? = some M) : ∀ {k pc : Nat} {L : xrL} {st : List Value} {h : xrH} {f : xrF} {h1 : xrH}, xr_sn T (xr_cd M) k pc L st h = some (f, h1) → xr_ev T q j f.1 f.2.1 f.2.2 h1 r → xr_ev T q j pc L st h r
  | 0, _, _, _, _, _, _, hs, k => by
    cases hs
    exact k
  | m + 1, pc, L, st, h, f, h1, hs, k => by
    unfold xr_sn at hs
    split at hs
    · cases hs
    · rename_i i n hf
      cases hb : Nat.beq (xr_what i) 0 with
      | false =>
        rw [hb] at hs
        cases hs
      | true =>
        rw [hb] at hs
        dsimp only [cond] at hs
        split at hs
        · cases hs
        · rename_i F h2 hs2
          exact xr_ev_s hM hf (Nat.eq_of_beq_eq_true hb) hs2 (xr_ev_n hM hs k)
theorem xq_n (k : Nat) {F : xrR} (pc' : Nat) (L' : xrL) (st' : List Value) (hM : T.1[j]? = some M) (hs : xr_sn T (xr_cd M) k pc L st h = some ((pc', L', st'), h)) (z : xq T q j F pc' L' st' h) : xq T q j F pc L st h := fun r e => xr_ev_n hM hs (z r e)
/-- the locals may be more -/
def xw_R (L' L : xrL) : Prop := ∀ i : Nat, L'.filter (fun z => z.1 == i) = [] ∨ L'.filter (fun z => z.1 == i) = L.filter (fun z => z.1 == i)
theorem xw_R_nil : xw_R [] L := fun _ => Or.inl rfl
theorem xw_R_cons {k : Nat} {v : Value} {L' : xrL} (h1 : L'.filter (fun z => z.1 == k) = []) (h2 : L.filter (fun z => z.1 == k) = [(k, v)]) (z : xw_R L' L) : xw_R ((k, v) :: L') L := by
  intro i
  by_cases hi : k = i
  · subst hi
    right
    rw [List.filter_cons_of_pos (by simp), h1, h2]
  · rw [List.filter_cons_of_neg (by simpa using hi)]
    exact z i
theorem xr_get_f : ∀ (L : xrL) (i : Nat), xr_get L i = ((L.filter (fun z => z.1 == i)).head?).map (fun z => z.2)
  | [], _ => rfl
  | z :: t, i => by
    unfold xr_get
    cases hb : Nat.beq z.1 i with
    | true =>
      rw [List.filter_cons_of_pos (by simpa using Nat.eq_of_beq_eq_true hb)]
      rfl
    | false =>
      rw [List.filter_cons_of_neg (by simpa using Nat.ne_of_beq_eq_false hb)]
      exact xr_get_f t i
theorem xw_R.get {L' : xrL} (z : xw_R L' L) {i : Nat} {v : Value} (e : xr_get L' i = some v) : xr_get L i = some v := by
  rw [xr_get_f] at e ⊢
  rcases z i with h | h
  · rw [h] at e
    cases e
  · rw [← h]
    exact e
theorem xw_R.filter {L' : xrL} (z : xw_R L' L) (p : Nat × Value → Bool) : xw_R (L'.filter p) (L.filter p) := by
  intro i
  rcases z i with h | h
  · left
    rw [List.filter_filter, ← List.filter_filter, List.filter_filter]
    rw [show (fun a : Nat × Value => (a.1 == i) && p a) = (fun a => p a && (a.1 == i)) from funext fun a => Bool.and_comm _ _, ← List.filter_filter, h]
    rfl
  · right
    have e : ∀ l : xrL, (l.filter p).filter (fun z => z.1 == i) = (l.filter (fun z => z.1 == i)).filter p := fun l => by
      rw [List.filter_filter, List.filter_filter]
      congr 1
      funext a
      exact Bool.and_comm _ _
    rw [e, e, h]
theorem xw_R.set {L' : xrL} (z : xw_R L' L) {k : Nat} {v : Value} {p : Nat × Value → Bool} (hp : ∀ w, p (k, w) = false) : xw_R ((k, v) :: L'.filter p) ((k, v) :: L.filter p) := by
  intro i
  by_cases hi : k = i
  · subst hi
    right
    have e : ∀ l : xrL, (l.filter p).filter (fun z => z.1 == k) = [] := fun l => by
      rw [List.filter_eq_nil_iff]
      intro a ha hk
      obtain ⟨h1, h2⟩ := List.mem_filter.mp ha
      have h3 : a.1 = k := by simpa using hk
      have h4 := hp a.2
      rw [← h3] at h4
      rw [show (a.1, a.2) = a from rfl] at h4
      rw [h4] at h2
      cases h2
    rw [List.filter_cons_of_pos (by simp), List.filter_cons_of_pos (by simp), e, e]
  · rw [List.filter_cons_of_neg (by simpa using hi), List.filter_cons_of_neg (by simpa using hi)]
    exact z.filter p i
theorem xw_R.st1 {L' : xrL} (z : xw_R L' L) (k : Nat) (v : Value) : xw_R (xr_st1 L' k v) (xr_st1 L k v) := z.set (fun w => by simp)
theorem xw_R.st2 {L' : xrL} (z : xw_R L' L) (k : Nat) (v : Value) : xw_R (xr_st2 L' k v) (xr_st2 L k v) := z.set (fun w => by simp)
end
/-! locals and steps -/
def xw_l (L : xrL) (z : xrF × xrH) : xrF × xrH := ((z.1.1, L, z.1.2.2), z.2)
section
variable {T : xrT} {n pc : Nat} {L : xrL} {st : List Value} {h : xrH}
theorem xr_bi_L {f : Int32 → Int32 → Int32} : xr_bi f n pc L st h = (xr_bi f n pc [] st h).map (xw_l L) := by
  unfold xr_bi
  (repeat' split) <;> first | rfl | simp_all [xw_l]
theorem xr_bd_L {f : Int32 → Int32 → Int32} : xr_bd f n pc L st h = (xr_bd f n pc [] st h).map (xw_l L) := by
  unfold xr_bd
  (repeat' split) <;> first | rfl | simp_all [xw_l]
theorem xr_bl_L {f : Int64 → Int64 → Int64} : xr_bl f n pc L st h = (xr_bl f n pc [] st h).map (xw_l L) := by
  unfold xr_bl
  (repeat' split) <;> first | rfl | simp_all [xw_l]
theorem xr_bs_L {f : Int64 → Int32 → Int64} : xr_bs f n pc L st h = (xr_bs f n pc [] st h).map (xw_l L) := by
  unfold xr_bs
  (repeat' split) <;> first | rfl | simp_all [xw_l]
theorem xr_to_L {off : Int} : xr_to pc off L st h = (xr_to pc off [] st h).map (xw_l L) := by
  unfold xr_to
  (repeat' split) <;> first | rfl | simp_all [xw_l]
theorem xr_ald_L {ty : FieldType} : xr_ald T ty n pc L st h = (xr_ald T ty n pc [] st h).map (xw_l L) := by
  unfold xr_ald
  (repeat' split) <;> first | rfl | simp_all [xw_l]
theorem xr_ast_L {ty : FieldType} : xr_ast ty n pc L st h = (xr_ast ty n pc [] st h).map (xw_l L) := by
  unfold xr_ast
  (repeat' split) <;> first | rfl | simp_all [xw_l]
theorem xr_lald_L : xr_lald n pc L st h = (xr_lald n pc [] st h).map (xw_l L) := by
  unfold xr_lald
  (repeat' split) <;> first | rfl | simp_all [xw_l]
theorem xr_last_L : xr_last n pc L st h = (xr_last n pc [] st h).map (xw_l L) := by
  unfold xr_last
  (repeat' split) <;> first | rfl | simp_all [xw_l]
theorem xr_qald_L : xr_qald n pc L st h = (xr_qald n pc [] st h).map (xw_l L) := by
  unfold xr_qald
  (repeat' split) <;> first | rfl | simp_all [xw_l]
theorem xr_qast_L : xr_qast T n pc L st h = (xr_qast T n pc [] st h).map (xw_l L) := by
  unfold xr_qast
  (repeat' split) <;> first | rfl | simp_all [xw_l]
theorem xr_len_L : xr_len T n pc L st h = (xr_len T n pc [] st h).map (xw_l L) := by
  unfold xr_len
  (repeat' split) <;> first | rfl | simp_all [xw_l]
theorem xr_fld_L {f : Nat} : xr_fld f n pc L st h = (xr_fld f n pc [] st h).map (xw_l L) := by
  unfold xr_fld
  split
  · split
    · rename_i c fs hM
      cases hb : Nat.beq c (f / 64) with
      | false => rfl
      | true =>
        dsimp only [cond]
        cases hg : fs[f % 64]? <;> rfl
    · rfl
  · rfl
theorem xr_pfl_L {k f : Nat} : xr_pfl k f n pc L st h = (xr_pfl k f n pc [] st h).map (xw_l L) := by
  unfold xr_pfl
  split
  · split
    · rename_i v _ _ _ c fs hM
      cases hb : (Nat.beq c (f / 64) && Nat.blt (f % 64) fs.length && xr_tak k v) <;> rfl
    · rfl
  · rfl
theorem xw_if {α β : Type} {b : Bool} {g : α → β} {A : Option α} : (bif b then A else none).map g = bif b then A.map g else none := by cases b <;> rfl
theorem xr_br_L {c : ClassFile.Cond} {x y : Int32} {α β : Type} {g : α → β} {A B : Option α} : (xr_br c x y A B).map g = xr_br c x y (A.map g) (B.map g) := by
  cases c <;> (unfold xr_br; dsimp only; split <;> rfl)
/-- whether an instruction reads or writes a local -/
def xr_loc (i : Instr) : Bool := match i with
  | .iload _ => true
  | .iload_n _ => true
  | .lload _ => true
  | .lload_n _ => true
  | .aload _ => true
  | .aload_n _ => true
  | .istore _ => true
  | .istore_n _ => true
  | .lstore _ => true
  | .lstore_n _ => true
  | .astore _ => true
  | .astore_n _ => true
  | .iinc _ _ => true
  | _ => false
theorem xr_s_L {i : Instr} (hi : xr_loc i = false) : xr_s T i n pc L st h = (xr_s T i n pc [] st h).map (xw_l L) := by
  cases i <;> first
    | (cases hi; done)
    | rfl
    | exact xr_bi_L
    | exact xr_bd_L
    | exact xr_bl_L
    | exact xr_bs_L
    | exact xr_to_L
    | exact xr_ald_L
    | exact xr_ast_L
    | exact xr_lald_L
    | exact xr_last_L
    | exact xr_qald_L
    | exact xr_qast_L
    | exact xr_len_L
    | exact xr_fld_L
    | exact xr_pfl_L
    | (unfold xr_s
       try dsimp only
       split <;> first
         | rfl
         | (rw [xr_br_L, ← xr_to_L]; rfl)
         | (rw [xw_if]; rfl)
         | exact xr_to_L
         | (split <;> first | rfl | exact xr_to_L | (split <;> first | rfl | exact xr_to_L))
         | skip)
theorem xr_s_R {L' : xrL} {i : Instr} {f : xrF} {h1 : xrH} (z : xw_R L' L) (e : xr_s T i n pc L' st h = some (f, h1)) : ∃ L2, xr_s T i n pc L st h = some ((f.1, L2, f.2.2), h1) ∧ xw_R f.2.1 L2 := by
  cases hi : xr_loc i with
  | false =>
    rw [xr_s_L hi] at e ⊢
    cases h0 : xr_s T i n pc [] st h with
    | none =>
      rw [h0] at e
      cases e
    | some q =>
      rw [h0] at e
      cases e
      exact ⟨L, rfl, z⟩
  | true =>
    cases i <;> first
      | (cases hi; done)
      | skip
    all_goals (unfold xr_s at e ⊢; (try dsimp only at e ⊢); (try unfold xr_li at e ⊢); (try unfold xr_ll at e ⊢); (try unfold xr_la at e ⊢); (try unfold xr_si at e ⊢); (try unfold xr_sl at e ⊢); (try unfold xr_sa at e ⊢))
    all_goals (split at e <;> first
      | (cases e; done)
      | (rename_i hg; cases e; rw [z.get hg]; exact ⟨_, rfl, z⟩)
      | (rename_i hg; cases e; rw [z.get hg]; exact ⟨_, rfl, z.st1 _ _⟩)
      | (cases e; exact ⟨_, rfl, z.st1 _ _⟩)
      | (cases e; exact ⟨_, rfl, z.st2 _ _⟩))
end
theorem xr_run_R {T : xrT} : ∀ (N d j pc : Nat) (L' L : xrL) (st : List Value) (h : xrH) (r : xrO × xrH), xw_R L' L → xr_run T N d j pc L' st h = some r → xr_run T N d j pc L st h = some r := by
  intro N
  induction N with
  | zero =>
    intro d j pc L' L st h r z e
    cases e
  | succ N ih =>
    intro d j pc L' L st h r z e
    rw [xr_run] at e ⊢
    cases hM : T.1[j]? with
    | none =>
      rw [hM] at e
      cases e
    | some M =>
      rw [hM] at e
      try dsimp only at e ⊢
      cases hf : xr_fetch (xr_cd M) pc with
      | none =>
        rw [hf] at e
        cases e
      | some q =>
        obtain ⟨i, n⟩ := q
        rw [hf] at e
        try dsimp only at e ⊢
        generalize xr_what i = w at e ⊢
        match w, e with
        | 0, e =>
          try dsimp only at e ⊢
          cases hs : xr_s T i n pc L' st h with
          | none =>
            rw [hs] at e
            cases e
          | some F =>
            obtain ⟨F, h1⟩ := F
            rw [hs] at e
            obtain ⟨L2, e2, z2⟩ := xr_s_R z hs
            rw [e2]
            exact ih _ _ _ _ _ _ _ _ z2 e
        | 1, e => exact e
        | 2, e => exact e
        | w + 3, e =>
          try dsimp only at e ⊢
          cases hc : xr_call T i st h with
          | none =>
            rw [hc] at e
            cases e
          | some q =>
            obtain ⟨k, K, as, r0⟩ := q
            rw [hc] at e
            try dsimp only at e ⊢
            cases d with
            | zero => cases e
            | succ d1 =>
              try dsimp only at e ⊢
              cases hr : xr_run T N d1 k 0 (lv_args 0 as) [] h with
              | none =>
                rw [hr] at e
                cases e
              | some y =>
                rw [hr] at e
                obtain ⟨o, h1⟩ := y
                cases o with
                | inl v => exact ih _ _ _ _ _ _ _ _ z e
                | inr x =>
                  try dsimp only at e ⊢
                  cases hb : Nat.beq (w + 3) 4 with
                  | true =>
                    rw [hb] at e
                    cases e
                  | false =>
                    rw [hb] at e
                    dsimp only [cond] at e ⊢
                    cases hh : xr_hnd (xr_hd M) pc x with
                    | none =>
                      rw [hh] at e
                      exact e
                    | some t =>
                      rw [hh] at e
                      exact ih _ _ _ _ _ _ _ _ z e
theorem xq_w {T : xrT} {q j pc : Nat} {L : xrL} {st : List Value} {h : xrH} {F : xrR} (L' : xrL) (z : xw_R L' L) (k : xq T q j F pc L' st h) : xq T q j F pc L st h := fun r e => by
  obtain ⟨N, g⟩ := k r e
  exact ⟨N, fun d hd => xr_run_R _ _ _ _ _ _ _ _ _ z (g d hd)⟩
