/-! THE TABLES' CHECK: a program that the kernel runs over a method's code, and what it shows -/
def xr_cpm (cp : List (Nat × Nat × Int)) (i k : Nat) (v : Int) : Bool := cp.any (fun q => Nat.beq q.1 i && Nat.beq q.2.1 k && decide (q.2.2 = v))
def xr_cpp (T : xrT) (GW : List Cond) (own : String) (k : Nat) (f w : Nat) (fin : Bool) : Prop := ∃ (C : String) (F : u_T) (N : Nat) (ty : FieldType), T.2.1[f / 64]? = some (C, F, N) ∧ f % 64 < N ∧ Cond.fieldLink own k C (F (f % 64)).2.1 (F (f % 64)).2.2.1 ∈ GW ∧
  parseFieldDescriptor (F (f % 64)).2.2.1 = some ty ∧ xr_tyk w ty ∧ (F (f % 64)).2.2.2 = fin ∧ (fin = true → C = own)
/-- what an entry of a class's constant pool means: 1 a field; 2, 3, 4 one that is written (an int, a boolean, a reference), 5, 6, 7 a final one; 8 a method, 9 a constructor, 10 a static one, 11 Object's; 12 a new object, 13 a new array of them; 14 an int, 15 a long; 16 a new exception, 17 its text, 18 its constructor -/
def xr_cpf (T : xrT) (GW : List Cond) (ST : List (String × Nat × String)) (AO : List String) (own : String) (q : Nat × Nat × Int) : Prop := match q.2.1 with
  | 1 => ∃ (C : String) (F : u_T) (N : Nat), T.2.1[q.2.2.toNat / 64]? = some (C, F, N) ∧ q.2.2.toNat % 64 < N ∧ Cond.fieldLink own q.1 C (F (q.2.2.toNat % 64)).2.1 (F (q.2.2.toNat % 64)).2.2.1 ∈ GW
  | 2 => xr_cpp T GW own q.1 q.2.2.toNat 0 false
  | 3 => xr_cpp T GW own q.1 q.2.2.toNat 1 false
  | 4 => xr_cpp T GW own q.1 q.2.2.toNat 2 false
  | 5 => xr_cpp T GW own q.1 q.2.2.toNat 0 true
  | 6 => xr_cpp T GW own q.1 q.2.2.toNat 1 true
  | 7 => xr_cpp T GW own q.1 q.2.2.toNat 2 true
  | 8 => ∃ (K : xrM) (r : vw_C), T.1[q.2.2.toNat]? = some K ∧ q.2.2.toNat ≠ 0 ∧ Cond.methodLink own q.1 (xr_nm K) ∈ GW ∧ Cond.instanceMethod (xr_nm K) ∈ GW ∧ Cond.selects (xr_nm K).cls (xr_nm K) (xr_nm K) ∈ GW ∧ T.2.1[xr_ci K]? = some r ∧ r.1 = (xr_nm K).cls ∧ xr_hd K = []
  | 9 => ∃ (K : xrM), T.1[q.2.2.toNat]? = some K ∧ q.2.2.toNat ≠ 0 ∧ (Cond.methodLink own q.1 (xr_nm K) ∈ GW ∨ ∃ host, Cond.methodLinkNest own q.1 (xr_nm K) host ∈ GW) ∧ (xr_nm K).name = "<init>" ∧ Cond.instanceMethod (xr_nm K) ∈ GW ∧ xr_rt K = none ∧ xr_hd K = []
  | 10 => ∃ (K : xrM), T.1[q.2.2.toNat]? = some K ∧ q.2.2.toNat ≠ 0 ∧ Cond.methodLink own q.1 (xr_nm K) ∈ GW ∧ Cond.static (xr_nm K) ∈ GW
  | 11 => Cond.methodLink own q.1 Lib.objectInit ∈ GW ∧ Cond.instanceMethod Lib.objectInit ∈ GW ∧ Cond.code Lib.objectInit ⟨#[0xb1]⟩ 1 none ∈ GW
  | 12 => ∃ (C : String) (F : u_T) (N : Nat), T.2.1[q.2.2.toNat]? = some (C, F, N) ∧ Cond.classLink own q.1 C ∈ GW
  | 13 => ∃ (r : vw_C), T.2.1[q.2.2.toNat]? = some r ∧ Cond.classLink own q.1 r.1 ∈ GW ∧ r.1 ∈ AO
  | 14 => Cond.constant own q.1 (Int32.ofInt q.2.2) ∈ GW
  | 15 => Cond.constantLong own q.1 (Int64.ofInt q.2.2) ∈ GW
  | 16 => Cond.classLink own q.1 (xr_en q.2.2.toNat) ∈ GW ∧ Cond.initialized (xr_en q.2.2.toNat) ∈ GW ∧ vx_ot (Cond.classLink own q.1 (xr_en q.2.2.toNat)) = true ∧ vx_ot (Cond.initialized (xr_en q.2.2.toNat)) = true
  | 17 => ∃ text, (own, q.1, text) ∈ ST
  | 18 => (∀ v ∈ vx_atS own q.1 (xr_en q.2.2.toNat) xr_up, v ∈ GW) ∧ ∀ v ∈ vx_atS own q.1 (xr_en q.2.2.toNat) xr_up, vx_ot v = true
  | _ => True
theorem xr_cpm_s {T : xrT} {GW : List Cond} {ST : List (String × Nat × String)} {AO : List String} {own : String} {cp : List (Nat × Nat × Int)} (hcp : ∀ q ∈ cp, xr_cpf T GW ST AO own q) {i k : Nat} {v : Int} (h : xr_cpm cp i k v = true) : xr_cpf T GW ST AO own (i, k, v) := by
  unfold xr_cpm at h
  obtain ⟨q, hq, hb⟩ := List.any_eq_true.mp h
  simp only [Bool.and_eq_true, decide_eq_true_eq] at hb
  have e1 := Nat.eq_of_beq_eq_true hb.1.1
  have e2 := Nat.eq_of_beq_eq_true hb.1.2
  have e3 := hb.2
  obtain ⟨a, b, c⟩ := q
  dsimp only at e1 e2 e3
  subst e1; subst e2; subst e3
  exact hcp _ hq
/-- an instruction that stands as it is -/
def xr_eqb (cc : ByteArray) (pc : Nat) (i : Instr) (n : Nat) : Bool := match decode cc pc with
  | .ok (oi, len) => Nat.beq len n && decide (oi = i)
  | .error _ => false
theorem xr_eqb_s {cc : ByteArray} {pc n : Nat} {i : Instr} (h : xr_eqb cc pc i n = true) : decode cc pc = .ok (i, n) := by
  unfold xr_eqb at h
  split at h
  · rename_i oi len hd
    simp only [Bool.and_eq_true, decide_eq_true_eq] at h
    rw [hd, h.2, Nat.eq_of_beq_eq_true h.1]
  · cases h
def xr_oi (cc : ByteArray) (pc : Nat) : Option (Instr × Nat) := match decode cc pc with
  | .ok q => some q
  | .error _ => none
theorem xr_oi_s {cc : ByteArray} {pc : Nat} {q : Instr × Nat} (h : xr_oi cc pc = some q) : decode cc pc = .ok q := by
  unfold xr_oi at h
  split at h
  · rename_i z hz
    rw [hz, Option.some.inj h]
  · cases h
def xr_okb (cp : List (Nat × Nat × Int)) (ini : Bool) (M : xrM) (pc : Nat) (i : Instr) (n : Nat) : Bool := match i with
  | .jsr_w v => match xr_oi (xr_by M) pc with
    | some (.ldc k, 2) => Nat.beq n 2 && xr_cpm cp k 14 v
    | _ => false
  | .jsr v => match xr_oi (xr_by M) pc with
    | some (.ldc_w k, 3) => Nat.beq n 3 && xr_cpm cp k 14 v
    | _ => false
  | .goto_w v => match xr_oi (xr_by M) pc with
    | some (.ldc2_w k, 3) => Nat.beq n 3 && xr_cpm cp k 15 v
    | _ => false
  | .getfield f => match xr_oi (xr_by M) pc with
    | some (.getfield k, 3) => Nat.beq n 3 && xr_cpm cp k 1 f
    | _ => false
  | .putfield f => match xr_oi (xr_by M) pc with
    | some (.putfield k, 3) => Nat.beq n 3 && (xr_cpm cp k 2 f || (ini && xr_cpm cp k 5 f))
    | _ => false
  | .putstatic f => match xr_oi (xr_by M) pc with
    | some (.putfield k, 3) => Nat.beq n 3 && (xr_cpm cp k 3 f || (ini && xr_cpm cp k 6 f))
    | _ => false
  | .invokedynamic f => match xr_oi (xr_by M) pc with
    | some (.putfield k, 3) => Nat.beq n 3 && (xr_cpm cp k 4 f || (ini && xr_cpm cp k 7 f))
    | _ => false
  | .monitorexit => match xr_oi (xr_by M) pc with
    | some (.invokespecial k, 3) => Nat.beq n 3 && xr_cpm cp k 11 0
    | _ => false
  | .new c => match xr_oi (xr_by M) pc with
    | some (.new k, 3) => Nat.beq n 3 && xr_cpm cp k 12 c
    | _ => false
  | .newarray t => Nat.beq n 2 && xr_eqb (xr_by M) pc (.newarray t) 2 && (match t with
    | .int => true
    | .boolean => true
    | _ => false)
  | .anewarray c => match xr_oi (xr_by M) pc with
    | some (.anewarray k, 3) => Nat.beq n 3 && xr_cpm cp k 13 c
    | _ => false
  | .multianewarray w z => match xr_oi (xr_by M) pc with
    | some (.new ik, 3) => xr_cpm cp ik 16 w && xr_eqb (xr_by M) (pc + 3) .dup 1 && (match z with
      | 0 => match xr_oi (xr_by M) (pc + 4), xr_oi (xr_by M) (pc + 6) with
        | some (.ldc is, 2), some (.invokespecial ic, 3) => xr_cpm cp is 17 0 && xr_cpm cp ic 18 w && xr_eqb (xr_by M) (pc + 9) .athrow 1
        | _, _ => false
      | 1 => match xr_oi (xr_by M) (pc + 4), xr_oi (xr_by M) (pc + 7) with
        | some (.ldc_w is, 3), some (.invokespecial ic, 3) => xr_cpm cp is 17 0 && xr_cpm cp ic 18 w && xr_eqb (xr_by M) (pc + 10) .athrow 1
        | _, _ => false
      | _ => false)
    | _ => false
  | .invokevirtual k => match xr_oi (xr_by M) pc with
    | some (.invokevirtual x, 3) => Nat.beq n 3 && xr_cpm cp x 8 k
    | _ => false
  | .invokespecial k => match xr_oi (xr_by M) pc with
    | some (.invokespecial x, 3) => Nat.beq n 3 && xr_cpm cp x 9 k
    | _ => false
  | .invokestatic k => match xr_oi (xr_by M) pc with
    | some (.invokestatic x, 3) => Nat.beq n 3 && xr_cpm cp x 10 k
    | _ => false
  | .iinc k v => Nat.beq n 3 && Nat.blt k (xr_mx M) && xr_eqb (xr_by M) pc (.iinc k v) 3
  | .istore k => Nat.beq n 2 && Nat.blt k (xr_mx M) && xr_eqb (xr_by M) pc (.istore k) 2
  | .astore k => Nat.beq n 2 && Nat.blt k (xr_mx M) && xr_eqb (xr_by M) pc (.astore k) 2
  | .lstore k => Nat.beq n 2 && Nat.blt (k + 1) (xr_mx M) && xr_eqb (xr_by M) pc (.lstore k) 2
  | .istore_n k => Nat.beq n 1 && Nat.blt k (xr_mx M) && xr_eqb (xr_by M) pc (.istore_n k) 1
  | .astore_n k => Nat.beq n 1 && Nat.blt k (xr_mx M) && xr_eqb (xr_by M) pc (.astore_n k) 1
  | .lstore_n k => Nat.beq n 1 && Nat.blt (k + 1) (xr_mx M) && xr_eqb (xr_by M) pc (.lstore_n k) 1
  | .ifCond w off => Nat.beq n 3 && (xr_jmp pc off).isSome && xr_eqb (xr_by M) pc (.ifCond w off) 3
  | .if_icmp w off => Nat.beq n 3 && (xr_jmp pc off).isSome && xr_eqb (xr_by M) pc (.if_icmp w off) 3
  | .tableswitch d lo hi offs => xr_eqb (xr_by M) pc (.tableswitch d lo hi offs) n
  | .lookupswitch d ps => xr_eqb (xr_by M) pc (.lookupswitch d ps) n && (ps.toList.zip (ps.toList.drop 1)).all (fun (a, next) => a.1 < next.1)
  | i => Nat.beq n (xr_n i) && xr_eqb (xr_by M) pc i n
theorem xr_jmp_ex {pc : Nat} {off : Int} (h : (xr_jmp pc off).isSome = true) : ∃ t : Nat, (pc : Int) + off = (t : Int) := by
  cases hj : xr_jmp pc off with
  | none => rw [hj] at h; cases h
  | some t => exact ⟨t, xr_jmp_s hj⟩
theorem xr_okp_s {T : xrT} {GW : List Cond} {M : xrM} {pc k f w n : Nat} {fin : Bool} (hn : Nat.beq n 3 = true) (hd : decode (xr_by M) pc = .ok (.putfield k, 3)) (h : xr_cpp T GW (xr_nm M).cls k f w fin) (hf : fin = false ∨ (xr_nm M).name = "<init>") : xr_okp T GW M pc n f w := by
  obtain ⟨C, F, N, ty, h1, h2, h3, h4, h5, h6, h7⟩ := h
  refine ⟨Nat.eq_of_beq_eq_true hn, k, C, F, N, ty, hd, h1, h2, h3, h4, h5, ?_⟩
  cases fin with
  | false => exact Or.inl h6
  | true =>
    rcases hf with hf | hf
    · cases hf
    · exact Or.inr ⟨h6, hf, h7 rfl⟩
set_option maxHeartbeats 4000000 in
theorem xr_okb_s {T : xrT} {GW : List Cond} {ST : List (String × Nat × String)} {AO : List String} {cp : List (Nat × Nat × Int)} {ini : Bool} {M : xrM} {pc : Nat} {i : Instr} {n : Nat}
    (hcp : ∀ q ∈ cp, xr_cpf T GW ST AO (xr_nm M).cls q) (hini : ini = true → (xr_nm M).name = "<init>") (harr : Cond.arrayClass .int ∈ GW ∧ Cond.arrayClass .boolean ∈ GW) (h : xr_okb cp ini M pc i n = true) : xr_ok T GW ST AO M pc i n := by
  have hin2 : ∀ {x : Bool}, (ini && x) = true → (xr_nm M).name = "<init>" ∧ x = true := by
    intro x hx
    simp only [Bool.and_eq_true] at hx
    exact ⟨hini hx.1, hx.2⟩
  cases i
  case jsr_w v =>
    unfold xr_okb at h
    dsimp only at h
    split at h
    · rename_i k hd
      simp only [Bool.and_eq_true] at h
      exact ⟨Nat.eq_of_beq_eq_true h.1, k, xr_oi_s hd, xr_cpm_s hcp h.2⟩
    · cases h
  case jsr v =>
    unfold xr_okb at h
    dsimp only at h
    split at h
    · rename_i k hd
      simp only [Bool.and_eq_true] at h
      exact ⟨Nat.eq_of_beq_eq_true h.1, k, xr_oi_s hd, xr_cpm_s hcp h.2⟩
    · cases h
  case goto_w v =>
    unfold xr_okb at h
    dsimp only at h
    split at h
    · rename_i k hd
      simp only [Bool.and_eq_true] at h
      exact ⟨Nat.eq_of_beq_eq_true h.1, k, xr_oi_s hd, xr_cpm_s hcp h.2⟩
    · cases h
  case getfield f =>
    unfold xr_okb at h
    dsimp only at h
    split at h
    · rename_i k hd
      simp only [Bool.and_eq_true] at h
      obtain ⟨C, F, N, a1, a2, a3⟩ := xr_cpm_s hcp h.2
      exact ⟨Nat.eq_of_beq_eq_true h.1, k, C, F, N, xr_oi_s hd, a1, a2, a3⟩
    · cases h
  case putfield f =>
    unfold xr_okb at h
    dsimp only at h
    split at h
    · rename_i k hd
      simp only [Bool.and_eq_true, Bool.or_eq_true] at h
      rcases h.2 with h2 | h2
      · exact xr_okp_s h.1 (xr_oi_s hd) (xr_cpm_s hcp h2) (Or.inl rfl)
      · exact xr_okp_s h.1 (xr_oi_s hd) (xr_cpm_s hcp h2.2) (Or.inr (hini h2.1))
    · cases h
  case putstatic f =>
    unfold xr_okb at h
    dsimp only at h
    split at h
    · rename_i k hd
      simp only [Bool.and_eq_true, Bool.or_eq_true] at h
      rcases h.2 with h2 | h2
      · exact xr_okp_s h.1 (xr_oi_s hd) (xr_cpm_s hcp h2) (Or.inl rfl)
      · exact xr_okp_s h.1 (xr_oi_s hd) (xr_cpm_s hcp h2.2) (Or.inr (hini h2.1))
    · cases h
  case invokedynamic f =>
    unfold xr_okb at h
    dsimp only at h
    split at h
    · rename_i k hd
      simp only [Bool.and_eq_true, Bool.or_eq_true] at h
      rcases h.2 with h2 | h2
      · exact xr_okp_s h.1 (xr_oi_s hd) (xr_cpm_s hcp h2) (Or.inl rfl)
      · exact xr_okp_s h.1 (xr_oi_s hd) (xr_cpm_s hcp h2.2) (Or.inr (hini h2.1))
    · cases h
  case monitorexit =>
    unfold xr_okb at h
    dsimp only at h
    split at h
    · rename_i k hd
      simp only [Bool.and_eq_true] at h
      exact ⟨Nat.eq_of_beq_eq_true h.1, k, xr_oi_s hd, xr_cpm_s hcp h.2⟩
    · cases h
  case new c =>
    unfold xr_okb at h
    dsimp only at h
    split at h
    · rename_i k hd
      simp only [Bool.and_eq_true] at h
      obtain ⟨C, F, N, a1, a2⟩ := xr_cpm_s hcp h.2
      exact ⟨Nat.eq_of_beq_eq_true h.1, k, C, F, N, xr_oi_s hd, a1, a2⟩
    · cases h
  case newarray t =>
    unfold xr_okb at h
    dsimp only at h
    simp only [Bool.and_eq_true] at h
    refine ⟨Nat.eq_of_beq_eq_true h.1.1, xr_eqb_s h.1.2, ?_⟩
    obtain ⟨b1, b3⟩ := harr
    cases t <;> first | exact b1 | exact b3 | (cases h.2; done)
  case anewarray c =>
    unfold xr_okb at h
    dsimp only at h
    split at h
    · rename_i k hd
      simp only [Bool.and_eq_true] at h
      obtain ⟨r, a1, a2, a3⟩ := xr_cpm_s hcp h.2
      exact ⟨Nat.eq_of_beq_eq_true h.1, k, r, xr_oi_s hd, a1, a2, a3⟩
    · cases h
  case multianewarray w z =>
    unfold xr_okb at h
    dsimp only at h
    split at h
    · rename_i ik hd
      simp only [Bool.and_eq_true] at h
      obtain ⟨⟨h1, h2⟩, h3⟩ := h
      obtain ⟨a1, a2, a3, a4⟩ := xr_cpm_s hcp h1
      split at h3
      · split at h3
        · rename_i is ic hd1 hd2
          simp only [Bool.and_eq_true] at h3
          obtain ⟨text, ht⟩ := xr_cpm_s hcp h3.1.1
          obtain ⟨c1, c2⟩ := xr_cpm_s hcp h3.1.2
          refine ⟨ik, is, ic, text, xr_oi_s hd, xr_eqb_s h2, Or.inl ⟨rfl, xr_oi_s hd1, xr_oi_s hd2, xr_eqb_s h3.2⟩, a1, a2, ht, c1, ?_⟩
          intro v hv
          rcases List.mem_cons.mp hv with rfl | hv
          · exact a3
          · rcases List.mem_cons.mp hv with rfl | hv
            · exact a4
            · exact c2 v hv
        · cases h3
      · split at h3
        · rename_i is ic hd1 hd2
          simp only [Bool.and_eq_true] at h3
          obtain ⟨text, ht⟩ := xr_cpm_s hcp h3.1.1
          obtain ⟨c1, c2⟩ := xr_cpm_s hcp h3.1.2
          refine ⟨ik, is, ic, text, xr_oi_s hd, xr_eqb_s h2, Or.inr ⟨rfl, xr_oi_s hd1, xr_oi_s hd2, xr_eqb_s h3.2⟩, a1, a2, ht, c1, ?_⟩
          intro v hv
          rcases List.mem_cons.mp hv with rfl | hv
          · exact a3
          · rcases List.mem_cons.mp hv with rfl | hv
            · exact a4
            · exact c2 v hv
        · cases h3
      · cases h3
    · cases h
  case invokevirtual k =>
    unfold xr_okb at h
    dsimp only at h
    split at h
    · rename_i x hd
      simp only [Bool.and_eq_true] at h
      obtain ⟨K, r, a1, a2, a3, a4, a5, a6, a7, a8⟩ := xr_cpm_s hcp h.2
      exact ⟨Nat.eq_of_beq_eq_true h.1, x, K, r, xr_oi_s hd, a1, a2, a3, a4, a5, a6, a7, a8⟩
    · cases h
  case invokespecial k =>
    unfold xr_okb at h
    dsimp only at h
    split at h
    · rename_i x hd
      simp only [Bool.and_eq_true] at h
      obtain ⟨K, a1, a2, a3, a4, a5, a6, a7⟩ := xr_cpm_s hcp h.2
      exact ⟨Nat.eq_of_beq_eq_true h.1, x, K, xr_oi_s hd, a1, a2, a3, a4, a5, a6, a7⟩
    · cases h
  case invokestatic k =>
    unfold xr_okb at h
    dsimp only at h
    split at h
    · rename_i x hd
      simp only [Bool.and_eq_true] at h
      obtain ⟨K, a1, a2, a3, a4⟩ := xr_cpm_s hcp h.2
      exact ⟨Nat.eq_of_beq_eq_true h.1, x, K, xr_oi_s hd, a1, a2, a3, a4⟩
    · cases h
  case ifCond w off =>
    unfold xr_okb at h
    dsimp only at h
    simp only [Bool.and_eq_true] at h
    exact ⟨Nat.eq_of_beq_eq_true h.1.1, xr_jmp_ex h.1.2, xr_eqb_s h.2⟩
  case if_icmp w off =>
    unfold xr_okb at h
    dsimp only at h
    simp only [Bool.and_eq_true] at h
    exact ⟨Nat.eq_of_beq_eq_true h.1.1, xr_jmp_ex h.1.2, xr_eqb_s h.2⟩
  case tableswitch d lo hi offs => exact xr_eqb_s h
  case lookupswitch d ps =>
    unfold xr_okb at h
    dsimp only at h
    simp only [Bool.and_eq_true] at h
    exact ⟨xr_eqb_s h.1, h.2⟩
  case iinc k v =>
    unfold xr_okb at h
    dsimp only at h
    simp only [Bool.and_eq_true] at h
    exact ⟨Nat.eq_of_beq_eq_true h.1.1, Nat.le_of_ble_eq_true h.1.2, xr_eqb_s h.2⟩
  case istore k =>
    unfold xr_okb at h
    dsimp only at h
    simp only [Bool.and_eq_true] at h
    exact ⟨Nat.eq_of_beq_eq_true h.1.1, Nat.le_of_ble_eq_true h.1.2, xr_eqb_s h.2⟩
  case astore k =>
    unfold xr_okb at h
    dsimp only at h
    simp only [Bool.and_eq_true] at h
    exact ⟨Nat.eq_of_beq_eq_true h.1.1, Nat.le_of_ble_eq_true h.1.2, xr_eqb_s h.2⟩
  case lstore k =>
    unfold xr_okb at h
    dsimp only at h
    simp only [Bool.and_eq_true] at h
    exact ⟨Nat.eq_of_beq_eq_true h.1.1, Nat.le_of_ble_eq_true h.1.2, xr_eqb_s h.2⟩
  case istore_n k =>
    unfold xr_okb at h
    dsimp only at h
    simp only [Bool.and_eq_true] at h
    exact ⟨Nat.eq_of_beq_eq_true h.1.1, Nat.le_of_ble_eq_true h.1.2, xr_eqb_s h.2⟩
  case astore_n k =>
    unfold xr_okb at h
    dsimp only at h
    simp only [Bool.and_eq_true] at h
    exact ⟨Nat.eq_of_beq_eq_true h.1.1, Nat.le_of_ble_eq_true h.1.2, xr_eqb_s h.2⟩
  case lstore_n k =>
    unfold xr_okb at h
    dsimp only at h
    simp only [Bool.and_eq_true] at h
    exact ⟨Nat.eq_of_beq_eq_true h.1.1, Nat.le_of_ble_eq_true h.1.2, xr_eqb_s h.2⟩
  all_goals (
    unfold xr_okb at h
    dsimp only at h
    simp only [Bool.and_eq_true] at h
    exact ⟨Nat.eq_of_beq_eq_true h.1, xr_eqb_s h.2⟩)
theorem xr_fetch_m : ∀ {cd : xrC} {pc : Nat} {q : Instr × Nat}, xr_fetch cd pc = some q → (pc, q) ∈ cd
  | [], _, _, h => by cases h
  | x :: t, pc, q, h => by
    unfold xr_fetch at h
    cases hb : Nat.beq x.1 pc with
    | true =>
      rw [hb] at h
      have e := Nat.eq_of_beq_eq_true hb
      have e2 : x.2 = q := Option.some.inj h
      rw [← e, ← e2]
      exact List.mem_cons_self
    | false =>
      rw [hb] at h
      exact List.mem_cons_of_mem _ (xr_fetch_m (cd := t) h)
def xr_cdb (cp : List (Nat × Nat × Int)) (ini : Bool) (M : xrM) : Bool := (xr_cd M).all (fun q => xr_okb cp ini M q.1 q.2.1 q.2.2)
theorem xr_cdb_s {T : xrT} {GW : List Cond} {ST : List (String × Nat × String)} {AO : List String} {cp : List (Nat × Nat × Int)} {ini : Bool} {M : xrM}
    (hcp : ∀ q ∈ cp, xr_cpf T GW ST AO (xr_nm M).cls q) (hini : ini = true → (xr_nm M).name = "<init>") (harr : Cond.arrayClass .int ∈ GW ∧ Cond.arrayClass .boolean ∈ GW) (h : xr_cdb cp ini M = true) :
    ∀ (pc : Nat) (i : Instr) (n : Nat), xr_fetch (xr_cd M) pc = some (i, n) → xr_ok T GW ST AO M pc i n := by
  intro pc i n hf
  exact xr_okb_s hcp hini harr (List.all_eq_true.mp h _ (xr_fetch_m hf))
