/-! ONE INSTRUCTION: what the runner does with it, the machine does -/
/-- a word that holds on where the tables get warm -/
def xr_tw (w : Cond) : Bool := goodWord w || (match w with
  | .methodLinkNest .. => true
  | .castable .. => true
  | .declares _ => true
  | _ => false)
theorem xr_tr {w : Cond} (h : xr_tw w = true) {s U : State} (hW : s.WarmedH U.vm) {a a' : Array Value} (hb : w.before a s = true) : w.before a' U = true := by
  simp only [xr_tw, Bool.or_eq_true] at h
  rcases h with h | h
  · exact word_at hW (good_of_word h) hb
  · split at h
    · exact va_Nw.use rfl (va_Nw.warmM hW (va_Nw.of rfl hb))
    · exact va_Nw.use rfl (va_Nw.warmC hW (va_Nw.of rfl hb))
    · exact va_Nw.use rfl (va_Nw.warmD hW (va_Nw.of rfl hb))
    · cases h
/-- what the machine has beside the objects: the two statics of Throwable, the script, the texts, what can't be cast, arrays over a class -/
def xr_Env (T : xrT) (A : Nat → Prop) (b : Nat) (ST : List (String × Nat × String)) (NC : List (String × String)) (AO : List String) (U : State) (H : Heap) : Prop :=
  vx_Zq Bundle.tN "UNASSIGNED_STACK" Bundle.steD A U H ∧ vx_Zq Bundle.tN "SUPPRESSED_SENTINEL" Bundle.listD A U H ∧ va_X b T.2.2.2.1 T.2.2.2.2 U H ∧ b < H.size ∧ ¬ A b ∧
  (∀ q ∈ ST, ∃ a, vk_R q.1 q.2.1 q.2.2 a U) ∧ (∀ q ∈ NC, va_Nc q.1 q.2 U) ∧ (∀ C ∈ AO, va_AO C U)
theorem xr_Env.go {T : xrT} {A : Nat → Prop} {b : Nat} {ST : List (String × Nat × String)} {NC : List (String × String)} {AO : List String} {s U : State} {H H1 : Heap} (h : xr_Env T A b ST NC AO s H) (hW : s.WarmedH U.vm) (hz : H.size ≤ H1.size) (hk : ∀ a : Nat, a < H.size → ¬ A a → H1[a]? = H[a]?) : xr_Env T A b ST NC AO U H1 := by
  obtain ⟨h1, h2, h3, h4, h5, h6, h7, h8⟩ := h
  refine ⟨vx_Zq.moved hW.alike (h1.kept hk), vx_Zq.moved hW.alike (h2.kept hk), va_X.moved hW.alike (h3.kept (hk b h4 h5)), Nat.lt_of_lt_of_le h4 hz, h5, fun q hq => ?_, fun q hq => (h7 q hq).moved hW.alike, fun C hC => (h8 C hC).moved hW.alike⟩
  obtain ⟨a, ha⟩ := h6 q hq
  exact ⟨a, ha.warm hW⟩
def xr_hh (M : xrM) : List (Nat × Nat × Nat × Nat) := (xr_hd M).map (fun q => (q.1, q.2.1, q.2.2.1, q.2.2.2.1))
/-- a frame of method M -/
def xr_Cx (p : Program) (l : Launch) (s : State) (m : MethodId) (args : Array Value) (meth : Method) (c : Code) (T : xrT) (A : Nat → Prop) (b : Nat) (GW : List Cond) (ST : List (String × Nat × String)) (NC : List (String × String)) (AO : List String) (M : xrM) : Prop :=
  p.tables.exec = Jvm.exec ∧ c.code = xr_by M ∧ c.maxLocals = xr_mx M ∧ s.vm.findClass (xr_nm M).cls = some m.cls ∧ (∀ w ∈ GW, w.before args s = true) ∧ meth.name = (xr_nm M).name ∧ meth.sig.returnType = xr_rt M ∧ meth.locks = false ∧
  c.exceptionTable.toList = tableOf (xr_hh M) ∧ xr_Env T A b ST NC AO s s.heap ∧ l.stackTraces = false ∧ ∀ q, s.heap.size ≤ q → A q
/-- the classes, as the tables have them -/
def xr_Ks (T : xrT) (GW : List Cond) : Prop := ∀ (c : Nat) (C : String) (F : u_T) (N : Nat), T.2.1[c]? = some (C, F, N) →
  (∀ w ∈ u_ws C F N, w ∈ GW) ∧ (∃ ty : Nat → FieldType, (∀ k, k < N → parseFieldDescriptor (F k).2.2.1 = some (ty k)) ∧ ∀ j, j < N → defaultValue (ty j) = vp_V (T.2.2.1 c) j) ∧
  (∀ a, a < N → ∀ b, b < N → a ≠ b → (F a).2.1 ≠ (F b).2.1) ∧ (∀ k, k < N → (F k).1 = C) ∧ (T.2.2.1 c).length = N ∧ Cond.instantiable C N ∈ GW ∧ Cond.initialized C ∈ GW ∧ ∀ v ∈ T.2.2.1 c, v = .null ∨ v = .int 0 ∨ v = .long 0
/-- how long an instruction is -/
def xr_n (i : Instr) : Nat := match i with
  | .bipush _ => 2
  | .iload _ => 2
  | .lload _ => 2
  | .aload _ => 2
  | .sipush _ => 3
  | .ifnull _ => 3
  | .ifnonnull _ => 3
  | .goto _ => 3
  | _ => 1
def xr_tyk (k : Nat) (ty : FieldType) : Prop := (k = 0 ∧ ty = .int) ∨ (k = 1 ∧ ty = .boolean) ∨ (k = 2 ∧ ((∃ C, ty = .object C) ∨ ∃ t, ty = .array t))
def xr_okp (T : xrT) (GW : List Cond) (M : xrM) (pc n f w : Nat) : Prop := n = 3 ∧ ∃ (k : Nat) (C : String) (F : u_T) (N : Nat) (ty : FieldType), decode (xr_by M) pc = .ok (.putfield k, 3) ∧ T.2.1[f / 64]? = some (C, F, N) ∧ f % 64 < N ∧
  Cond.fieldLink (xr_nm M).cls k C (F (f % 64)).2.1 (F (f % 64)).2.2.1 ∈ GW ∧ parseFieldDescriptor (F (f % 64)).2.2.1 = some ty ∧ xr_tyk w ty ∧ ((F (f % 64)).2.2.2 = false ∨ ((F (f % 64)).2.2.2 = true ∧ (xr_nm M).name = "<init>" ∧ C = (xr_nm M).cls))
def xr_en (k : Nat) : String := match k with
  | 0 => "java/lang/IllegalArgumentException"
  | 1 => "java/lang/IllegalStateException"
  | _ => "java/lang/IndexOutOfBoundsException"
def xr_up : List String := ["java/lang/RuntimeException", "java/lang/Exception"]
/-- an instruction of the runner's code at a place of a method is the one that stands there, and the tables have what it needs -/
def xr_ok (T : xrT) (GW : List Cond) (ST : List (String × Nat × String)) (AO : List String) (M : xrM) (pc : Nat) (i : Instr) (n : Nat) : Prop := match i with
  | .jsr_w v => n = 2 ∧ ∃ k, decode (xr_by M) pc = .ok (.ldc k, 2) ∧ Cond.constant (xr_nm M).cls k (Int32.ofInt v) ∈ GW
  | .jsr v => n = 3 ∧ ∃ k, decode (xr_by M) pc = .ok (.ldc_w k, 3) ∧ Cond.constant (xr_nm M).cls k (Int32.ofInt v) ∈ GW
  | .goto_w v => n = 3 ∧ ∃ k, decode (xr_by M) pc = .ok (.ldc2_w k, 3) ∧ Cond.constantLong (xr_nm M).cls k (Int64.ofInt v) ∈ GW
  | .getfield f => n = 3 ∧ ∃ (k : Nat) (C : String) (F : u_T) (N : Nat), decode (xr_by M) pc = .ok (.getfield k, 3) ∧ T.2.1[f / 64]? = some (C, F, N) ∧ f % 64 < N ∧ Cond.fieldLink (xr_nm M).cls k C (F (f % 64)).2.1 (F (f % 64)).2.2.1 ∈ GW
  | .putfield f => xr_okp T GW M pc n f 0
  | .putstatic f => xr_okp T GW M pc n f 1
  | .invokedynamic f => xr_okp T GW M pc n f 2
  | .monitorexit => n = 3 ∧ ∃ k, decode (xr_by M) pc = .ok (.invokespecial k, 3) ∧ Cond.methodLink (xr_nm M).cls k Lib.objectInit ∈ GW ∧ Cond.instanceMethod Lib.objectInit ∈ GW ∧ Cond.code Lib.objectInit ⟨#[0xb1]⟩ 1 none ∈ GW
  | .new c => n = 3 ∧ ∃ (k : Nat) (C : String) (F : u_T) (N : Nat), decode (xr_by M) pc = .ok (.new k, 3) ∧ T.2.1[c]? = some (C, F, N) ∧ Cond.classLink (xr_nm M).cls k C ∈ GW
  | .newarray t => n = 2 ∧ decode (xr_by M) pc = .ok (.newarray t, 2) ∧ Cond.arrayClass (newarray.typeOf t) ∈ GW
  | .anewarray c => n = 3 ∧ ∃ (k : Nat) (q : vw_C), decode (xr_by M) pc = .ok (.anewarray k, 3) ∧ T.2.1[c]? = some q ∧ Cond.classLink (xr_nm M).cls k q.1 ∈ GW ∧ q.1 ∈ AO
  | .multianewarray w z => ∃ (ik is ic : Nat) (text : String), decode (xr_by M) pc = .ok (.new ik, 3) ∧ decode (xr_by M) (pc + 3) = .ok (.dup, 1) ∧
      ((z = 0 ∧ decode (xr_by M) (pc + 4) = .ok (.ldc is, 2) ∧ decode (xr_by M) (pc + 6) = .ok (.invokespecial ic, 3) ∧ decode (xr_by M) (pc + 9) = .ok (.athrow, 1)) ∨
       (z = 1 ∧ decode (xr_by M) (pc + 4) = .ok (.ldc_w is, 3) ∧ decode (xr_by M) (pc + 7) = .ok (.invokespecial ic, 3) ∧ decode (xr_by M) (pc + 10) = .ok (.athrow, 1))) ∧
      Cond.classLink (xr_nm M).cls ik (xr_en w) ∈ GW ∧ Cond.initialized (xr_en w) ∈ GW ∧ ((xr_nm M).cls, is, text) ∈ ST ∧
      (∀ v ∈ vx_atS (xr_nm M).cls ic (xr_en w) xr_up, v ∈ GW) ∧ (∀ v ∈ Cond.classLink (xr_nm M).cls ik (xr_en w) :: Cond.initialized (xr_en w) :: vx_atS (xr_nm M).cls ic (xr_en w) xr_up, vx_ot v = true)
  | .invokevirtual k => n = 3 ∧ ∃ (x : Nat) (K : xrM) (q : vw_C), decode (xr_by M) pc = .ok (.invokevirtual x, 3) ∧ T.1[k]? = some K ∧ k ≠ 0 ∧ Cond.methodLink (xr_nm M).cls x (xr_nm K) ∈ GW ∧ Cond.instanceMethod (xr_nm K) ∈ GW ∧
      Cond.selects (xr_nm K).cls (xr_nm K) (xr_nm K) ∈ GW ∧ T.2.1[xr_ci K]? = some q ∧ q.1 = (xr_nm K).cls ∧ xr_hd K = []
  | .invokespecial k => n = 3 ∧ ∃ (x : Nat) (K : xrM), decode (xr_by M) pc = .ok (.invokespecial x, 3) ∧ T.1[k]? = some K ∧ k ≠ 0 ∧ (Cond.methodLink (xr_nm M).cls x (xr_nm K) ∈ GW ∨ ∃ host, Cond.methodLinkNest (xr_nm M).cls x (xr_nm K) host ∈ GW) ∧
      (xr_nm K).name = "<init>" ∧ Cond.instanceMethod (xr_nm K) ∈ GW ∧ xr_rt K = none ∧ xr_hd K = []
  | .invokestatic k => n = 3 ∧ ∃ (x : Nat) (K : xrM), decode (xr_by M) pc = .ok (.invokestatic x, 3) ∧ T.1[k]? = some K ∧ k ≠ 0 ∧ Cond.methodLink (xr_nm M).cls x (xr_nm K) ∈ GW ∧ Cond.static (xr_nm K) ∈ GW
  | .iinc k v => n = 3 ∧ k < xr_mx M ∧ decode (xr_by M) pc = .ok (.iinc k v, 3)
  | .istore k => n = 2 ∧ k < xr_mx M ∧ decode (xr_by M) pc = .ok (.istore k, 2)
  | .astore k => n = 2 ∧ k < xr_mx M ∧ decode (xr_by M) pc = .ok (.astore k, 2)
  | .lstore k => n = 2 ∧ k + 1 < xr_mx M ∧ decode (xr_by M) pc = .ok (.lstore k, 2)
  | .istore_n k => n = 1 ∧ (k : Nat) < xr_mx M ∧ decode (xr_by M) pc = .ok (.istore_n k, 1)
  | .astore_n k => n = 1 ∧ (k : Nat) < xr_mx M ∧ decode (xr_by M) pc = .ok (.astore_n k, 1)
  | .lstore_n k => n = 1 ∧ (k : Nat) + 1 < xr_mx M ∧ decode (xr_by M) pc = .ok (.lstore_n k, 1)
  | .ifCond w off => n = 3 ∧ (∃ t : Nat, (pc : Int) + off = (t : Int)) ∧ decode (xr_by M) pc = .ok (.ifCond w off, 3)
  | .if_icmp w off => n = 3 ∧ (∃ t : Nat, (pc : Int) + off = (t : Int)) ∧ decode (xr_by M) pc = .ok (.if_icmp w off, 3)
  | .tableswitch d lo hi offs => decode (xr_by M) pc = .ok (.tableswitch d lo hi offs, n)
  | .lookupswitch d ps => decode (xr_by M) pc = .ok (.lookupswitch d ps, n) ∧ (ps.toList.zip (ps.toList.drop 1)).all (fun (a, next) => a.1 < next.1) = true
  | i => n = xr_n i ∧ decode (xr_by M) pc = .ok (i, n)
-- what a step of each kind is
theorem xr_li_s {L : xrL} {k n pc : Nat} {st : List Value} {h : xrH} {F : xrF × xrH} (e : xr_li L k n pc st h = some F) : ∃ x, xr_get L k = some (.int x) ∧ F = ((pc + n, L, .int x :: st), h) := by
  unfold xr_li at e; split at e
  · exact ⟨_, by assumption, (Option.some.inj e).symm⟩
  · cases e
theorem xr_ll_s {L : xrL} {k n pc : Nat} {st : List Value} {h : xrH} {F : xrF × xrH} (e : xr_ll L k n pc st h = some F) : ∃ x, xr_get L k = some (.long x) ∧ F = ((pc + n, L, .long x :: st), h) := by
  unfold xr_ll at e; split at e
  · exact ⟨_, by assumption, (Option.some.inj e).symm⟩
  · cases e
theorem xr_la_s {L : xrL} {k n pc : Nat} {st : List Value} {h : xrH} {F : xrF × xrH} (e : xr_la L k n pc st h = some F) : ∃ v, xr_get L k = some v ∧ ((∃ x, v = .ref x) ∨ v = .null ∨ ∃ x, v = .retAddr x) ∧ F = ((pc + n, L, v :: st), h) := by
  unfold xr_la at e; split at e
  · exact ⟨_, by assumption, Or.inl ⟨_, rfl⟩, (Option.some.inj e).symm⟩
  · exact ⟨_, by assumption, Or.inr (Or.inl rfl), (Option.some.inj e).symm⟩
  · exact ⟨_, by assumption, Or.inr (Or.inr ⟨_, rfl⟩), (Option.some.inj e).symm⟩
  · cases e
theorem xr_si_s {L : xrL} {k n pc : Nat} {st : List Value} {h : xrH} {F : xrF × xrH} (e : xr_si L k n pc st h = some F) : ∃ x r, st = .int x :: r ∧ F = ((pc + n, xr_st1 L k (.int x), r), h) := by
  unfold xr_si at e; split at e
  · exact ⟨_, _, rfl, (Option.some.inj e).symm⟩
  · cases e
theorem xr_sl_s {L : xrL} {k n pc : Nat} {st : List Value} {h : xrH} {F : xrF × xrH} (e : xr_sl L k n pc st h = some F) : ∃ x r, st = .long x :: r ∧ F = ((pc + n, xr_st2 L k (.long x), r), h) := by
  unfold xr_sl at e; split at e
  · exact ⟨_, _, rfl, (Option.some.inj e).symm⟩
  · cases e
theorem xr_sa_s {L : xrL} {k n pc : Nat} {st : List Value} {h : xrH} {F : xrF × xrH} (e : xr_sa L k n pc st h = some F) : ∃ v r, st = v :: r ∧ ((∃ x, v = .ref x) ∨ v = .null ∨ ∃ x, v = .retAddr x) ∧ F = ((pc + n, xr_st1 L k v, r), h) := by
  unfold xr_sa at e; split at e
  · exact ⟨_, _, rfl, Or.inl ⟨_, rfl⟩, (Option.some.inj e).symm⟩
  · exact ⟨_, _, rfl, Or.inr (Or.inl rfl), (Option.some.inj e).symm⟩
  · exact ⟨_, _, rfl, Or.inr (Or.inr ⟨_, rfl⟩), (Option.some.inj e).symm⟩
  · cases e
theorem xr_bi_s {f : Int32 → Int32 → Int32} {L : xrL} {n pc : Nat} {st : List Value} {h : xrH} {F : xrF × xrH} (e : xr_bi f n pc L st h = some F) : ∃ x y r, st = .int y :: .int x :: r ∧ F = ((pc + n, L, .int (f x y) :: r), h) := by
  unfold xr_bi at e; split at e
  · exact ⟨_, _, _, rfl, (Option.some.inj e).symm⟩
  · cases e
theorem xr_bd_s {f : Int32 → Int32 → Int32} {L : xrL} {n pc : Nat} {st : List Value} {h : xrH} {F : xrF × xrH} (e : xr_bd f n pc L st h = some F) : ∃ x y r, st = .int y :: .int x :: r ∧ ¬ y = 0 ∧ F = ((pc + n, L, .int (f x y) :: r), h) := by
  unfold xr_bd at e; split at e
  · split at e
    · cases e
    · exact ⟨_, _, _, rfl, by assumption, (Option.some.inj e).symm⟩
  · cases e
theorem xr_bl_s {f : Int64 → Int64 → Int64} {L : xrL} {n pc : Nat} {st : List Value} {h : xrH} {F : xrF × xrH} (e : xr_bl f n pc L st h = some F) : ∃ x y r, st = .long y :: .long x :: r ∧ F = ((pc + n, L, .long (f x y) :: r), h) := by
  unfold xr_bl at e; split at e
  · exact ⟨_, _, _, rfl, (Option.some.inj e).symm⟩
  · cases e
theorem xr_bs_s {f : Int64 → Int32 → Int64} {L : xrL} {n pc : Nat} {st : List Value} {h : xrH} {F : xrF × xrH} (e : xr_bs f n pc L st h = some F) : ∃ x y r, st = .int y :: .long x :: r ∧ F = ((pc + n, L, .long (f x y) :: r), h) := by
  unfold xr_bs at e; split at e
  · exact ⟨_, _, _, rfl, (Option.some.inj e).symm⟩
  · cases e
theorem xr_jmp_s {pc t : Nat} {off : Int} (e : xr_jmp pc off = some t) : (pc : Int) + off = (t : Int) := by
  unfold xr_jmp at e; split at e
  · rename_i h; cases e; exact h
  · cases e
theorem xr_to_s {pc : Nat} {off : Int} {L : xrL} {r : List Value} {h : xrH} {F : xrF × xrH} (e : xr_to pc off L r h = some F) : ∃ t : Nat, (pc : Int) + off = (t : Int) ∧ F = ((t, L, r), h) := by
  unfold xr_to at e; split at e
  · exact ⟨_, xr_jmp_s (by assumption), (Option.some.inj e).symm⟩
  · cases e
theorem xr_ald_s {T : xrT} {ty : FieldType} {L : xrL} {n pc : Nat} {st : List Value} {h : xrH} {F : xrF × xrH} (e : xr_ald T ty n pc L st h = some F) :
    (∃ i a r m f, st = .int i :: .ref a :: r ∧ xr_M h a = .inl (ty, m, .inl f) ∧ vp_in i m ∧ F = ((pc + n, L, .int (f i.toNatClampNeg) :: r), h)) ∨
    (∃ i k r, st = .int i :: .retAddr (k + 1) :: r ∧ ty = .int ∧ vp_in i T.2.2.2.1 ∧ F = ((pc + n, L, .int (T.2.2.2.2 i.toNatClampNeg) :: r), h)) := by
  unfold xr_ald at e; split at e
  · split at e
    · split at e
      · rename_i hty
        subst hty
        split at e
        · cases e
        · exact Or.inl ⟨_, _, _, _, _, rfl, by assumption, by assumption, (Option.some.inj e).symm⟩
      · cases e
    · cases e
  · split at e
    · split at e
      · cases e
      · exact Or.inr ⟨_, _, _, rfl, by assumption, by assumption, (Option.some.inj e).symm⟩
    · cases e
  · cases e
theorem xr_ast_s {ty : FieldType} {L : xrL} {n pc : Nat} {st : List Value} {h : xrH} {F : xrF × xrH} (e : xr_ast ty n pc L st h = some F) :
    ∃ x i a r m f, st = .int x :: .int i :: .ref a :: r ∧ xr_M h a = .inl (ty, m, .inl f) ∧ vp_in i m ∧ (ty = .int ∨ x = 0 ∨ x = 1) ∧ F = ((pc + n, L, r), xr_put h a (.inl (ty, m, .inl (upd f i.toNatClampNeg x)))) := by
  unfold xr_ast at e; split at e
  · split at e
    · split at e
      · rename_i hty
        subst hty
        split at e
        · cases e
        · split at e
          · exact ⟨_, _, _, _, _, _, rfl, by assumption, by assumption, by assumption, (Option.some.inj e).symm⟩
          · cases e
      · cases e
    · cases e
  · cases e
theorem xr_lald_s {L : xrL} {n pc : Nat} {st : List Value} {h : xrH} {F : xrF × xrH} (e : xr_lald n pc L st h = some F) :
    ∃ i a r m f, st = .int i :: .ref a :: r ∧ xr_M h a = .inl (.long, m, .inr (.inl f)) ∧ vp_in i m ∧ F = ((pc + n, L, .long (f i.toNatClampNeg) :: r), h) := by
  unfold xr_lald at e; split at e
  · split at e
    · split at e
      · cases e
      · exact ⟨_, _, _, _, _, rfl, by assumption, by assumption, (Option.some.inj e).symm⟩
    · cases e
  · cases e
theorem xr_last_s {L : xrL} {n pc : Nat} {st : List Value} {h : xrH} {F : xrF × xrH} (e : xr_last n pc L st h = some F) :
    ∃ x i a r m f, st = .long x :: .int i :: .ref a :: r ∧ xr_M h a = .inl (.long, m, .inr (.inl f)) ∧ vp_in i m ∧ F = ((pc + n, L, r), xr_put h a (.inl (.long, m, .inr (.inl (vp_updL f i.toNatClampNeg x))))) := by
  unfold xr_last at e; split at e
  · split at e
    · split at e
      · cases e
      · exact ⟨_, _, _, _, _, _, rfl, by assumption, by assumption, (Option.some.inj e).symm⟩
    · cases e
  · cases e
theorem xr_qald_s {L : xrL} {n pc : Nat} {st : List Value} {h : xrH} {F : xrF × xrH} (e : xr_qald n pc L st h = some F) :
    ∃ i a r C m f, st = .int i :: .ref a :: r ∧ xr_M h a = .inl (.object C, m, .inr (.inr (.inr (.inr f)))) ∧ vp_in i m ∧ F = ((pc + n, L, xr_rf (f i.toNatClampNeg) :: r), h) := by
  unfold xr_qald at e; split at e
  · split at e
    · split at e
      · cases e
      · exact ⟨_, _, _, _, _, _, rfl, by assumption, by assumption, (Option.some.inj e).symm⟩
    · cases e
  · cases e
theorem xr_qast_s {T : xrT} {L : xrL} {n pc : Nat} {st : List Value} {h : xrH} {F : xrF × xrH} (e : xr_qast T n pc L st h = some F) :
    ∃ v i a r m f ci vs q, st = .ref v :: .int i :: .ref a :: r ∧ xr_M h a = .inl (.object q.1, m, .inr (.inr (.inr (.inr f)))) ∧ xr_M h v = .inr (ci, vs) ∧ T.2.1[ci]? = some q ∧ vp_in i m ∧ F = ((pc + n, L, r), xr_put h a (.inl (.object q.1, m, .inr (.inr (.inr (.inr (va_up f i.toNatClampNeg (some v)))))))) := by
  unfold xr_qast at e; split at e
  · split at e
    · split at e
      · split at e
        · rename_i hq
          subst hq
          split at e
          · cases e
          · exact ⟨_, _, _, _, _, _, _, _, _, rfl, by assumption, by assumption, by assumption, by assumption, (Option.some.inj e).symm⟩
        · cases e
      · cases e
    · cases e
  · cases e
theorem xr_len_s {T : xrT} {L : xrL} {n pc : Nat} {st : List Value} {h : xrH} {F : xrF × xrH} (e : xr_len T n pc L st h = some F) :
    (∃ a r ty m cc, st = .ref a :: r ∧ xr_M h a = .inl (ty, m, cc) ∧ F = ((pc + n, L, .int (Int32.ofNat m) :: r), h)) ∨
    (∃ k r, st = .retAddr (k + 1) :: r ∧ F = ((pc + n, L, .int (Int32.ofNat T.2.2.2.1) :: r), h)) := by
  unfold xr_len at e; split at e
  · split at e
    · exact Or.inl ⟨_, _, _, _, _, rfl, by assumption, (Option.some.inj e).symm⟩
    · cases e
  · exact Or.inr ⟨_, _, rfl, (Option.some.inj e).symm⟩
  · cases e
theorem xr_cond {α : Type} {b : Bool} {x : α} {y : Option α} {z : α} (e : (bif b then some x else none) = some z) : b = true ∧ z = x := by
  cases b
  · cases e
  · exact ⟨rfl, (Option.some.inj e).symm⟩
theorem xr_fld_s {f : Nat} {L : xrL} {n pc : Nat} {st : List Value} {h : xrH} {F : xrF × xrH} (e : xr_fld f n pc L st h = some F) :
    ∃ a r fs v, st = .ref a :: r ∧ xr_M h a = .inr (f / 64, fs) ∧ fs[f % 64]? = some v ∧ F = ((pc + n, L, v :: r), h) := by
  unfold xr_fld at e; split at e
  · split at e
    · rename_i c fs hm
      cases hc : Nat.beq c (f / 64) with
      | false => rw [hc] at e; cases e
      | true =>
        rw [hc] at e
        have hc' := Nat.eq_of_beq_eq_true hc
        subst hc'
        simp only [cond_true] at e
        split at e
        · exact ⟨_, _, _, _, rfl, hm, by assumption, (Option.some.inj e).symm⟩
        · cases e
    · cases e
  · cases e
theorem xr_pfl_s {k f : Nat} {L : xrL} {n pc : Nat} {st : List Value} {h : xrH} {F : xrF × xrH} (e : xr_pfl k f n pc L st h = some F) :
    ∃ v a r fs, st = v :: .ref a :: r ∧ xr_M h a = .inr (f / 64, fs) ∧ f % 64 < fs.length ∧ xr_tak k v = true ∧ F = ((pc + n, L, r), xr_put h a (.inr (f / 64, fs.set (f % 64) v))) := by
  unfold xr_pfl at e; split at e
  · split at e
    · rename_i c fs hm
      obtain ⟨h1, h2⟩ := xr_cond (y := none) e
      simp only [Bool.and_eq_true] at h1
      have hc' := Nat.eq_of_beq_eq_true h1.1.1
      subst hc'
      exact ⟨_, _, _, _, rfl, hm, Nat.le_of_ble_eq_true h1.1.2, h1.2, h2⟩
    · cases e
  · cases e
