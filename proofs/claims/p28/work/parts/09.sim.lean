/-! CALLS, RETURNS, THROWS: the runner's run is the machine's -/
def xr_cw (M : xrM) : Cond := match xr_hd M with
  | [] => .code (xr_nm M) (xr_by M) (xr_mx M) (xr_rt M)
  | _ => .codeWith (xr_nm M) (xr_by M) (xr_mx M) (xr_rt M) (xr_hh M)
def xr_ws (GW : List Cond) (M : xrM) : List Cond := xr_cw M :: GW
def xr_hok (GW : List Cond) (NC : List (String × String)) (M : xrM) : Prop := ∀ q ∈ xr_hd M, q.2.2.2.1 ≠ 0 ∧ Cond.classLink (xr_nm M).cls q.2.2.2.1 (xr_en q.2.2.2.2) ∈ GW ∧ Cond.castable (xr_en q.2.2.2.2) (xr_en q.2.2.2.2) ∈ GW ∧ ∀ k, k < 3 → k ≠ q.2.2.2.2 → (xr_en k, xr_en q.2.2.2.2) ∈ NC
/-- what is known of a method that is called -/
def xr_cal (GW : List Cond) (M : xrM) : Prop := plainFor (xr_nm M) = true ∧ xr_cw M ∈ GW ∧ Cond.initialized (xr_nm M).cls ∈ GW ∧ ((xr_nm M).cls ≠ "java/lang/invoke/MethodHandle" ∧ (xr_nm M).cls ≠ "java/lang/invoke/VarHandle") ∧
  (parseMethodDescriptor (xr_nm M).desc).map (fun d => d.parameters.length) = some (xr_np M) ∧ xr_mx M ≤ 45
/-- what is known of the tables -/
def xr_SF (T : xrT) (GW : List Cond) (ST : List (String × Nat × String)) (NC : List (String × String)) (AO : List String) : Prop := (∀ w ∈ GW, xr_tw w = true) ∧ xr_Ks T GW ∧
  (∀ (j : Nat) (M : xrM), T.1[j]? = some M → (∀ (pc : Nat) (i : Instr) (n : Nat), xr_fetch (xr_cd M) pc = some (i, n) → xr_ok T GW ST AO M pc i n) ∧ xr_hok GW NC M) ∧
  ∀ (j : Nat) (M : xrM), j ≠ 0 → T.1[j]? = some M → xr_cal GW M
def xr_rm (d mc ms : Nat) : Room := { frames := d + 16, cells := mc, slots := ms, locals := 200 + 64 * d }
def xr_Vo (ads : List Nat) (b : Nat) : Option Value → Option Value → Prop
  | none, none => True
  | some v, some v' => xr_V ads b v v'
  | _, _ => False
def xr_Pc (T : xrT) (D : va_G) (A : Nat → Prop) (b : Nat) (ST : List (String × Nat × String)) (NC : List (String × String)) (AO : List String) (h : xrH) (ads : List Nat) (av : List Value) : Array Value → State → Prop :=
  va_Pc av (fun U => xr_Env T A b ST NC AO U U.heap ∧ (∀ q, U.heap.size ≤ q → A q) ∧ ∃ ws tys, xr_W T D A b h ads U ws tys U.heap)
def xr_Qc (T : xrT) (D : va_G) (A : Nat → Prop) (b : Nat) (o : xrO) (h : xrH) (ads : List Nat) : Array Value → State → Outcome → State → Prop :=
  fun _ st oc t => (∃ v v' ads' ws tys, o = .inl v ∧ oc = .returned v' ∧ xr_Vo ads' b v v' ∧ xr_le ads ads' ∧ xr_W T D A b h ads' t ws tys t.heap) ∧ va_F A st t
def xr_XC (T : xrT) (D : va_G) (A : Nat → Prop) (b : Nat) (o : xrO) (h : xrH) (ads : List Nat) : String → State → State → Prop :=
  fun E st t => (∃ k ads' ws tys, o = .inr k ∧ k < 3 ∧ E = xr_en k ∧ xr_le ads ads' ∧ xr_W T D A b h ads' t ws tys t.heap) ∧ va_F A st t
theorem xr_blind {T : xrT} {D : va_G} {A : Nat → Prop} {b : Nat} {ST : List (String × Nat × String)} {NC : List (String × String)} {AO : List String} {h : xrH} {ads : List Nat} {av : List Value} : FrameBlind (xr_Pc T D A b ST NC AO h ads av) := by
  intro a U g mk q
  obtain ⟨q0, q1, q2, ws, tys, q3⟩ := q
  exact ⟨q0, xr_Env.go (U := U.calling g mk a) q1 (State.WarmedH.refl U) (Nat.le_refl _) (fun _ _ _ => rfl), q2, ws, tys, q3.moved (U2 := U.calling g mk a) (Vm.Alike.refl U.vm)⟩
theorem xr_run_k {T : xrT} : ∀ (N d j pc : Nat) (L : xrL) (st : List Value) (h : xrH) (k : Nat) (h' : xrH), xr_run T N d j pc L st h = some (.inr k, h') → k < 3 := by
  intro N
  induction N with
  | zero =>
    intro d j pc L st h k h' e
    cases e
  | succ N ih =>
    intro d j pc L st h k h' e
    unfold xr_run at e
    split at e
    · cases e
    · split at e
      · cases e
      · split at e
        · split at e
          · cases e
          · exact ih _ _ _ _ _ _ _ _ e
        · split at e
          · cases e
          · cases e
        · split at e
          · obtain ⟨e1, e2⟩ := xr_cond (y := none) e
            cases e2
            simp only [Bool.and_eq_true] at e1
            exact Nat.le_of_ble_eq_true e1.2
          · cases e
        · split at e
          · cases e
          · split at e
            · cases e
            · split at e
              · cases e
              · exact ih _ _ _ _ _ _ _ _ e
              · rename_i hc
                replace e := (xr_cond2 e).2
                split at e
                · exact ih _ _ _ _ _ _ _ _ e
                · cases e
                  exact ih _ _ _ _ _ _ _ _ hc
theorem xr_hnd_s {pc k t : Nat} : ∀ {hd : List (Nat × Nat × Nat × Nat × Nat)}, xr_hnd hd pc k = some t → ∃ pre q suf, hd = pre ++ q :: suf ∧ q.2.2.1 = t ∧ q.1 ≤ pc ∧ pc < q.2.1 ∧ q.2.2.2.2 = k ∧ ∀ z ∈ pre, (¬ (z.1 ≤ pc ∧ pc < z.2.1)) ∨ z.2.2.2.2 ≠ k
  | [], e => by cases e
  | q :: r, e => by
    unfold xr_hnd at e
    cases hq : (Nat.ble q.1 pc && Nat.blt pc q.2.1 && Nat.beq q.2.2.2.2 k) with
    | true =>
      rw [hq] at e
      simp only [Bool.and_eq_true] at hq
      exact ⟨[], q, r, rfl, Option.some.inj e, Nat.le_of_ble_eq_true hq.1.1, Nat.le_of_ble_eq_true hq.1.2, Nat.eq_of_beq_eq_true hq.2, fun z hz => absurd hz List.not_mem_nil⟩
    | false =>
      rw [hq] at e
      obtain ⟨pre, x, suf, h1, h2, h3, h4, h5, h6⟩ := xr_hnd_s (hd := r) e
      refine ⟨q :: pre, x, suf, by rw [h1]; rfl, h2, h3, h4, h5, fun z hz => ?_⟩
      rcases List.mem_cons.mp hz with rfl | hz
      · by_cases hk : z.2.2.2.2 = k
        · refine Or.inl (fun hc => ?_)
          have h7 : (Nat.ble z.1 pc && Nat.blt pc z.2.1 && Nat.beq z.2.2.2.2 k) = true := by
            simp only [Bool.and_eq_true]
            exact ⟨⟨Nat.ble_eq_true_of_le hc.1, Nat.ble_eq_true_of_le hc.2⟩, by rw [hk]; exact Nat.beq_refl k⟩
          rw [hq] at h7
          cases h7
        · exact Or.inr hk
      · exact h6 z hz
theorem xr_hnd_n {pc k : Nat} : ∀ {hd : List (Nat × Nat × Nat × Nat × Nat)}, xr_hnd hd pc k = none → ∀ z ∈ hd, (¬ (z.1 ≤ pc ∧ pc < z.2.1)) ∨ z.2.2.2.2 ≠ k
  | [], _, z, hz => absurd hz List.not_mem_nil
  | q :: r, e, z, hz => by
    unfold xr_hnd at e
    cases hq : (Nat.ble q.1 pc && Nat.blt pc q.2.1 && Nat.beq q.2.2.2.2 k) with
    | true => rw [hq] at e; cases e
    | false =>
      rw [hq] at e
      rcases List.mem_cons.mp hz with rfl | hz
      · by_cases hk : z.2.2.2.2 = k
        · refine Or.inl (fun hc => ?_)
          have h7 : (Nat.ble z.1 pc && Nat.blt pc z.2.1 && Nat.beq z.2.2.2.2 k) = true := by
            simp only [Bool.and_eq_true]
            exact ⟨⟨Nat.ble_eq_true_of_le hc.1, Nat.ble_eq_true_of_le hc.2⟩, by rw [hk]; exact Nat.beq_refl k⟩
          rw [hq] at h7
          cases h7
        · exact Or.inr hk
      · exact xr_hnd_n (hd := r) e z hz
theorem xr_covers {q : Nat × Nat × Nat × Nat} {pc : Nat} (h : ¬ (q.1 ≤ pc ∧ pc < q.2.1)) : covers (⟨q.1, q.2.1, q.2.2.1, q.2.2.2⟩ : ExceptionTableEntry) pc = false := by
  cases hc : covers (⟨q.1, q.2.1, q.2.2.1, q.2.2.2⟩ : ExceptionTableEntry) pc with
  | false => rfl
  | true =>
    exfalso
    simp only [covers, Bool.and_eq_true, decide_eq_true_eq] at hc
    exact h hc
theorem xr_covers1 {q : Nat × Nat × Nat × Nat} {pc : Nat} (h : q.1 ≤ pc ∧ pc < q.2.1) : covers (⟨q.1, q.2.1, q.2.2.1, q.2.2.2⟩ : ExceptionTableEntry) pc = true := by
  simp only [covers, Bool.and_eq_true, decide_eq_true_eq]
  exact h
