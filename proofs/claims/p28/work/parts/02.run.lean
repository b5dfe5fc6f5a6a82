/-! THE RUNNER: a small machine for the instructions that the claim's methods have, over a heap of its own (objects by number, in the order in which they are made). What it does, the machine does: part 04. -/
/-- what lies at a place: an array (its type, its length, its cells), or an object (its class, its fields) -/
abbrev xrE : Type := (FieldType × vp_A) ⊕ (Nat × List Value)
/-- how many cells and slots were ever made; how many objects; what they are -/
abbrev xrH : Type := Nat × Nat × Nat × (Nat → xrE)
abbrev xrL : Type := List (Nat × Value)
abbrev xrF : Type := Nat × xrL × List Value
/-- a value (or none), or the number of an exception -/
abbrev xrO : Type := Option Value ⊕ Nat
abbrev xrC : Type := List (Nat × Instr × Nat)
/-- class, parameters, name; bytes, locals, what it returns; its table (from, to, handler, catch entry, exception); its code -/
abbrev xrM : Type := (Nat × Nat × MethodName) × (ByteArray × Nat × Option FieldType) × List (Nat × Nat × Nat × Nat × Nat) × xrC
/-- methods; classes; what a new object has; the script -/
abbrev xrT : Type := List xrM × List vw_C × (Nat → List Value) × Nat × (Nat → Int32)
abbrev xr_ci (M : xrM) : Nat := M.1.1
abbrev xr_np (M : xrM) : Nat := M.1.2.1
abbrev xr_nm (M : xrM) : MethodName := M.1.2.2
abbrev xr_by (M : xrM) : ByteArray := M.2.1.1
abbrev xr_mx (M : xrM) : Nat := M.2.1.2.1
abbrev xr_rt (M : xrM) : Option FieldType := M.2.1.2.2
abbrev xr_hd (M : xrM) : List (Nat × Nat × Nat × Nat × Nat) := M.2.2.1
abbrev xr_cd (M : xrM) : xrC := M.2.2.2
abbrev xr_M (h : xrH) : Nat → xrE := h.2.2.2
abbrev xr_sz (h : xrH) : Nat := h.2.2.1
/-- the heap with another thing at a place -/
def xr_put (h : xrH) (a : Nat) (e : xrE) : xrH := (h.1, h.2.1, h.2.2.1, va_up h.2.2.2 a e)
/-- the heap with one thing more, of so many slots -/
def xr_new (h : xrH) (k : Nat) (e : xrE) : xrH := (h.1 + 1, h.2.1 + k, h.2.2.1 + 1, va_up h.2.2.2 h.2.2.1 e)
/-- .. and with an exception more, that is no object here -/
def xr_exc (h : xrH) : xrH := (h.1 + 1, h.2.1 + 6, h.2.2.1, h.2.2.2)
def xr_fetch : xrC → Nat → Option (Instr × Nat)
  | [], _ => none
  | q :: t, pc => bif Nat.beq q.1 pc then some q.2 else xr_fetch t pc
def xr_get : xrL → Nat → Option Value
  | [], _ => none
  | q :: t, i => bif Nat.beq q.1 i then some q.2 else xr_get t i
def xr_st1 (L : xrL) (i : Nat) (v : Value) : xrL := (i, v) :: L.filter (fun q => !(q.1 == i) && !(q.1 + 1 == i && q.2.category == 2))
def xr_st2 (L : xrL) (i : Nat) (v : Value) : xrL := (i, v) :: L.filter (fun q => !(q.1 == i) && (!(q.1 == i + 1) && !(q.1 + 1 == i && q.2.category == 2)))
def xr_jmp (pc : Nat) (off : Int) : Option Nat := match (pc : Int) + off with
  | .ofNat t => some t
  | .negSucc _ => none
def xr_br {α : Type} (c : ClassFile.Cond) (x y : Int32) (A B : α) : α := match c with
  | .eq => if x = y then A else B
  | .ne => if x = y then B else A
  | .lt => if x < y then A else B
  | .ge => if y ≤ x then A else B
  | .gt => if y < x then A else B
  | .le => if x ≤ y then A else B
def xr_li (L : xrL) (k n pc : Nat) (st : List Value) (h : xrH) : Option (xrF × xrH) := match xr_get L k with
  | some (.int x) => some ((pc + n, L, .int x :: st), h)
  | _ => none
def xr_ll (L : xrL) (k n pc : Nat) (st : List Value) (h : xrH) : Option (xrF × xrH) := match xr_get L k with
  | some (.long x) => some ((pc + n, L, .long x :: st), h)
  | _ => none
def xr_la (L : xrL) (k n pc : Nat) (st : List Value) (h : xrH) : Option (xrF × xrH) := match xr_get L k with
  | some (.ref x) => some ((pc + n, L, .ref x :: st), h)
  | some .null => some ((pc + n, L, .null :: st), h)
  | some (.retAddr x) => some ((pc + n, L, .retAddr x :: st), h)
  | _ => none
def xr_si (L : xrL) (k n pc : Nat) (st : List Value) (h : xrH) : Option (xrF × xrH) := match st with
  | .int x :: r => some ((pc + n, xr_st1 L k (.int x), r), h)
  | _ => none
def xr_sl (L : xrL) (k n pc : Nat) (st : List Value) (h : xrH) : Option (xrF × xrH) := match st with
  | .long x :: r => some ((pc + n, xr_st2 L k (.long x), r), h)
  | _ => none
def xr_sa (L : xrL) (k n pc : Nat) (st : List Value) (h : xrH) : Option (xrF × xrH) := match st with
  | .ref x :: r => some ((pc + n, xr_st1 L k (.ref x), r), h)
  | .null :: r => some ((pc + n, xr_st1 L k .null, r), h)
  | .retAddr x :: r => some ((pc + n, xr_st1 L k (.retAddr x), r), h)
  | _ => none
def xr_bi (f : Int32 → Int32 → Int32) (n pc : Nat) (L : xrL) (st : List Value) (h : xrH) : Option (xrF × xrH) := match st with
  | .int y :: .int x :: r => some ((pc + n, L, .int (f x y) :: r), h)
  | _ => none
def xr_bd (f : Int32 → Int32 → Int32) (n pc : Nat) (L : xrL) (st : List Value) (h : xrH) : Option (xrF × xrH) := match st with
  | .int y :: .int x :: r => if y = 0 then none else some ((pc + n, L, .int (f x y) :: r), h)
  | _ => none
def xr_bl (f : Int64 → Int64 → Int64) (n pc : Nat) (L : xrL) (st : List Value) (h : xrH) : Option (xrF × xrH) := match st with
  | .long y :: .long x :: r => some ((pc + n, L, .long (f x y) :: r), h)
  | _ => none
def xr_bs (f : Int64 → Int32 → Int64) (n pc : Nat) (L : xrL) (st : List Value) (h : xrH) : Option (xrF × xrH) := match st with
  | .int y :: .long x :: r => some ((pc + n, L, .long (f x y) :: r), h)
  | _ => none
def xr_to (pc : Nat) (off : Int) (L : xrL) (r : List Value) (h : xrH) : Option (xrF × xrH) := match xr_jmp pc off with
  | some t => some ((t, L, r), h)
  | none => none
/-- a read of an int array (boolean: the same cells), at an index that is looked at -/
def xr_ald (T : xrT) (ty : FieldType) (n pc : Nat) (L : xrL) (st : List Value) (h : xrH) : Option (xrF × xrH) := match st with
  | .int i :: .ref a :: r => match xr_M h a with
    | .inl (ty', m, .inl f) => if ty' = ty then (if i < 0 ∨ m ≤ i.toNatClampNeg then none else some ((pc + n, L, .int (f i.toNatClampNeg) :: r), h)) else none
    | _ => none
  | .int i :: .retAddr (_ + 1) :: r => if ty = .int then (if i < 0 ∨ T.2.2.2.1 ≤ i.toNatClampNeg then none else some ((pc + n, L, .int (T.2.2.2.2 i.toNatClampNeg) :: r), h)) else none
  | _ => none
def xr_ast (ty : FieldType) (n pc : Nat) (L : xrL) (st : List Value) (h : xrH) : Option (xrF × xrH) := match st with
  | .int x :: .int i :: .ref a :: r => match xr_M h a with
    | .inl (ty', m, .inl f) => if ty' = ty then (if i < 0 ∨ m ≤ i.toNatClampNeg then none else if ty = .int ∨ x = 0 ∨ x = 1 then some ((pc + n, L, r), xr_put h a (.inl (ty', m, .inl (upd f i.toNatClampNeg x)))) else none) else none
    | _ => none
  | _ => none
def xr_lald (n pc : Nat) (L : xrL) (st : List Value) (h : xrH) : Option (xrF × xrH) := match st with
  | .int i :: .ref a :: r => match xr_M h a with
    | .inl (.long, m, .inr (.inl f)) => if i < 0 ∨ m ≤ i.toNatClampNeg then none else some ((pc + n, L, .long (f i.toNatClampNeg) :: r), h)
    | _ => none
  | _ => none
def xr_last (n pc : Nat) (L : xrL) (st : List Value) (h : xrH) : Option (xrF × xrH) := match st with
  | .long x :: .int i :: .ref a :: r => match xr_M h a with
    | .inl (.long, m, .inr (.inl f)) => if i < 0 ∨ m ≤ i.toNatClampNeg then none else some ((pc + n, L, r), xr_put h a (.inl (.long, m, .inr (.inl (vp_updL f i.toNatClampNeg x)))))
    | _ => none
  | _ => none
def xr_rf (r : Option Nat) : Value := match r with
  | none => .null
  | some a => .ref a
def xr_qald (n pc : Nat) (L : xrL) (st : List Value) (h : xrH) : Option (xrF × xrH) := match st with
  | .int i :: .ref a :: r => match xr_M h a with
    | .inl (.object _, m, .inr (.inr (.inr (.inr f)))) => if i < 0 ∨ m ≤ i.toNatClampNeg then none else some ((pc + n, L, xr_rf (f i.toNatClampNeg) :: r), h)
    | _ => none
  | _ => none
def xr_qast (T : xrT) (n pc : Nat) (L : xrL) (st : List Value) (h : xrH) : Option (xrF × xrH) := match st with
  | .ref v :: .int i :: .ref a :: r => match xr_M h a, xr_M h v with
    | .inl (.object C, m, .inr (.inr (.inr (.inr f)))), .inr (c, _) => match T.2.1[c]? with
      | some q => if q.1 = C then (if i < 0 ∨ m ≤ i.toNatClampNeg then none else some ((pc + n, L, r), xr_put h a (.inl (.object C, m, .inr (.inr (.inr (.inr (va_up f i.toNatClampNeg (some v))))))))) else none
      | none => none
    | _, _ => none
  | _ => none
def xr_len (T : xrT) (n pc : Nat) (L : xrL) (st : List Value) (h : xrH) : Option (xrF × xrH) := match st with
  | .ref a :: r => match xr_M h a with
    | .inl (_, m, _) => some ((pc + n, L, .int (Int32.ofNat m) :: r), h)
    | _ => none
  | .retAddr (_ + 1) :: r => some ((pc + n, L, .int (Int32.ofNat T.2.2.2.1) :: r), h)
  | _ => none
def xr_fld (f n pc : Nat) (L : xrL) (st : List Value) (h : xrH) : Option (xrF × xrH) := match st with
  | .ref a :: r => match xr_M h a with
    | .inr (c, fs) => bif Nat.beq c (f / 64) then (match fs[f % 64]? with
      | some v => some ((pc + n, L, v :: r), h)
      | none => none) else none
    | _ => none
  | _ => none
/-- what a field of a kind takes: 0 an int, 1 a boolean, 2 a reference -/
def xr_tak (k : Nat) (v : Value) : Bool := match v with
  | .int x => Nat.beq k 0 || (Nat.beq k 1 && (x == 0 || x == 1))
  | .ref _ => Nat.beq k 2
  | .null => Nat.beq k 2
  | _ => false
def xr_pfl (k f n pc : Nat) (L : xrL) (st : List Value) (h : xrH) : Option (xrF × xrH) := match st with
  | v :: .ref a :: r => match xr_M h a with
    | .inr (c, fs) => bif Nat.beq c (f / 64) && Nat.blt (f % 64) fs.length && xr_tak k v then some ((pc + n, L, r), xr_put h a (.inr (c, fs.set (f % 64) v))) else none
    | _ => none
  | _ => none
def xr_nwa (t : ArrayType) : Option vp_A := match t with
  | .int => some (0, .inl (fun _ => 0))
  | .boolean => some (0, .inl (fun _ => 0))
  | .long => some (0, .inr (.inl (fun _ => 0)))
  | _ => none
/-- how many units a stack has -/
def xr_cat (st : List Value) : Nat := (st.map fun v => v.category).sum
/-- one instruction that is no call and no return -/
def xr_s (T : xrT) (i : Instr) (n pc : Nat) (L : xrL) (st : List Value) (h : xrH) : Option (xrF × xrH) := match i with
  | .aconst_null => some ((pc + n, L, .null :: st), h)
  | .iconst v => some ((pc + n, L, .int (Int32.ofInt v) :: st), h)
  | .bipush v => some ((pc + n, L, .int (Int8.ofInt v).toInt32 :: st), h)
  | .sipush v => some ((pc + n, L, .int (Int16.ofInt v).toInt32 :: st), h)
  | .lconst k => some ((pc + n, L, .long (Int64.ofNat (k : Nat)) :: st), h)
  | .jsr_w v => some ((pc + n, L, .int (Int32.ofInt v) :: st), h)
  | .jsr v => some ((pc + n, L, .int (Int32.ofInt v) :: st), h)
  | .goto_w v => some ((pc + n, L, .long (Int64.ofInt v) :: st), h)
  | .iload k => xr_li L k n pc st h
  | .iload_n k => xr_li L k n pc st h
  | .lload k => xr_ll L k n pc st h
  | .lload_n k => xr_ll L k n pc st h
  | .aload k => xr_la L k n pc st h
  | .aload_n k => xr_la L k n pc st h
  | .istore k => xr_si L k n pc st h
  | .istore_n k => xr_si L k n pc st h
  | .lstore k => xr_sl L k n pc st h
  | .lstore_n k => xr_sl L k n pc st h
  | .astore k => xr_sa L k n pc st h
  | .astore_n k => xr_sa L k n pc st h
  | .iinc k v => match xr_get L k with
    | some (.int x) => some ((pc + n, xr_st1 L k (.int (x + Int32.ofInt v)), st), h)
    | _ => none
  | .iadd => xr_bi (fun x y => x + y) n pc L st h
  | .isub => xr_bi (fun x y => x - y) n pc L st h
  | .imul => xr_bi (fun x y => x * y) n pc L st h
  | .iand => xr_bi (fun x y => x &&& y) n pc L st h
  | .ior => xr_bi (fun x y => x ||| y) n pc L st h
  | .ixor => xr_bi (fun x y => x ^^^ y) n pc L st h
  | .ishl => xr_bi (fun x y => x <<< (y &&& 31)) n pc L st h
  | .ishr => xr_bi (fun x y => x >>> (y &&& 31)) n pc L st h
  | .idiv => xr_bd (fun x y => x / y) n pc L st h
  | .irem => xr_bd (fun x y => x - x / y * y) n pc L st h
  | .ineg => match st with
    | .int x :: r => some ((pc + n, L, .int (-x) :: r), h)
    | _ => none
  | .ladd => xr_bl (fun x y => x + y) n pc L st h
  | .lsub => xr_bl (fun x y => x - y) n pc L st h
  | .lmul => xr_bl (fun x y => x * y) n pc L st h
  | .land => xr_bl (fun x y => x &&& y) n pc L st h
  | .lor => xr_bl (fun x y => x ||| y) n pc L st h
  | .lshl => xr_bs (fun x y => x <<< (y.toInt64 &&& 63)) n pc L st h
  | .lshr => xr_bs (fun x y => x >>> (y.toInt64 &&& 63)) n pc L st h
  | .lushr => xr_bs (fun x y => (x.toUInt64 >>> (y.toInt64.toUInt64 &&& Int64.toUInt64 63)).toInt64) n pc L st h
  | .i2l => match st with
    | .int x :: r => some ((pc + n, L, .long x.toInt64 :: r), h)
    | _ => none
  | .l2i => match st with
    | .long x :: r => some ((pc + n, L, .int x.toInt32 :: r), h)
    | _ => none
  | .lcmp => match st with
    | .long y :: .long x :: r => some ((pc + n, L, .int (lg_cmp x y) :: r), h)
    | _ => none
  | .dup => match st with
    | v :: r => bif Nat.beq v.category 1 then some ((pc + n, L, v :: v :: r), h) else none
    | _ => none
  | .dup2 => match st with
    | v :: w :: r => bif Nat.beq v.category 1 && Nat.beq w.category 1 then some ((pc + n, L, v :: w :: v :: w :: r), h) else none
    | _ => none
  | .pop => match st with
    | v :: r => bif Nat.beq v.category 1 then some ((pc + n, L, r), h) else none
    | _ => none
  | .ifCond c off => match st with
    | .int x :: r => xr_br c x 0 (xr_to pc off L r h) (some ((pc + n, L, r), h))
    | _ => none
  | .if_icmp c off => match st with
    | .int y :: .int x :: r => xr_br c x y (xr_to pc off L r h) (some ((pc + n, L, r), h))
    | _ => none
  | .ifnull off => match st with
    | .null :: r => xr_to pc off L r h
    | .ref _ :: r => some ((pc + n, L, r), h)
    | _ => none
  | .ifnonnull off => match st with
    | .ref _ :: r => xr_to pc off L r h
    | .null :: r => some ((pc + n, L, r), h)
    | _ => none
  | .goto off => xr_to pc off L st h
  | .tableswitch d lo hi offs => match st with
    | .int x :: r => if x.toInt < lo ∨ hi < x.toInt then xr_to pc d L r h else match offs[(x.toInt - lo).toNat]? with
      | some off => xr_to pc off L r h
      | none => none
    | _ => none
  | .lookupswitch d ps => match st with
    | .int x :: r => xr_to pc (Op.lookupswitch.offset ps.toList d x.toInt) L r h
    | _ => none
  | .iaload => xr_ald T .int n pc L st h
  | .baload => xr_ald T .boolean n pc L st h
  | .iastore => xr_ast .int n pc L st h
  | .bastore => xr_ast .boolean n pc L st h
  | .laload => xr_lald n pc L st h
  | .lastore => xr_last n pc L st h
  | .aaload => xr_qald n pc L st h
  | .aastore => xr_qast T n pc L st h
  | .arraylength => xr_len T n pc L st h
  | .getfield f => xr_fld f n pc L st h
  | .putfield f => xr_pfl 0 f n pc L st h
  | .putstatic f => xr_pfl 1 f n pc L st h
  | .invokedynamic f => xr_pfl 2 f n pc L st h
  | .monitorexit => match st with
    | .ref _ :: r => bif Nat.ble (xr_cat r) 8 then some ((pc + n, L, r), h) else none
    | _ => none
  | .new c => some ((pc + n, L, .ref h.2.2.1 :: st), xr_new h (T.2.2.1 c).length (.inr (c, T.2.2.1 c)))
  | .newarray t => match st with
    | .int k :: r => if k < 0 ∨ 65536 < k.toNatClampNeg then none else match xr_nwa t with
      | some c => some ((pc + n, L, .ref h.2.2.1 :: r), xr_new h k.toNatClampNeg (.inl (newarray.typeOf t, k.toNatClampNeg, c.2)))
      | none => none
    | _ => none
  | .anewarray c => match st, T.2.1[c]? with
    | .int k :: r, some q => if k < 0 ∨ 65536 < k.toNatClampNeg then none else some ((pc + n, L, .ref h.2.2.1 :: r), xr_new h k.toNatClampNeg (.inl (.object q.1, k.toNatClampNeg, .inr (.inr (.inr (.inr (fun _ => none)))))))
    | _, _ => none
  | _ => none
/-- whether a value is what a method of a type returns -/
def xr_okr (rt : Option FieldType) (v : Value) : Bool := match rt, v with
  | some .int, .int _ => true
  | some .boolean, .int x => x == 0 || x == 1
  | some .long, .long _ => true
  | some (.object _), .ref _ => true
  | some (.object _), .null => true
  | _, _ => false
/-- the first row of a table that takes an exception that is thrown at a place -/
def xr_hnd : List (Nat × Nat × Nat × Nat × Nat) → Nat → Nat → Option Nat
  | [], _, _ => none
  | q :: t, pc, k => bif Nat.ble q.1 pc && Nat.blt pc q.2.1 && Nat.beq q.2.2.2.2 k then some q.2.2.1 else xr_hnd t pc k
/-- the arguments of a call of a method of so many of them, the first one last on the stack; and the rest -/
def xr_cut : Nat → List Value → List Value → Option (List Value × List Value)
  | 0, acc, st => some (acc, st)
  | _ + 1, _, [] => none
  | n + 1, acc, v :: st => xr_cut n (v :: acc) st
/-- the receiver is an object of the method's class -/
def xr_rcv (K : xrM) (h : xrH) : List Value → Bool
  | .ref a :: _ => match xr_M h a with
    | .inr (c, _) => Nat.beq c (xr_ci K)
    | _ => false
  | _ => false
/-- the kinds of calls: 0 a method of an object, 1 a constructor, 2 a static method -/
def xr_kind (i : Instr) : Option (Nat × Nat) := match i with
  | .invokevirtual k => some (0, k)
  | .invokespecial k => some (1, k)
  | .invokestatic k => some (2, k)
  | _ => none
/-- what a call takes: the callee, its arguments, the rest of the stack -/
def xr_call (T : xrT) (i : Instr) (st : List Value) (h : xrH) : Option (Nat × xrM × List Value × List Value) := match xr_kind i with
  | none => none
  | some (w, k) => match T.1[k]? with
    | none => none
    | some K => match xr_cut (xr_np K + (bif Nat.beq w 2 then 0 else 1)) [] st with
      | none => none
      | some (as, r) => bif Nat.ble (xr_cat r) 8 && Nat.ble (xr_cat as) (xr_mx K) && (Nat.beq w 2 || xr_rcv K h as) then some (k, K, as, r) else none
/-- a return: its value -/
def xr_end (M : xrM) (i : Instr) (st : List Value) : Option (Option Value) := match i with
  | .ireturn => match st with
    | [.int v] => bif xr_okr (xr_rt M) (.int v) then some (some (.int v)) else none
    | _ => none
  | .lreturn => match st with
    | [.long v] => bif xr_okr (xr_rt M) (.long v) then some (some (.long v)) else none
    | _ => none
  | .areturn => match st with
    | [.ref a] => bif xr_okr (xr_rt M) (.ref a) then some (some (.ref a)) else none
    | [.null] => bif xr_okr (xr_rt M) .null then some (some .null) else none
    | _ => none
  | .return_ => match st with
    | [] => (match xr_rt M with
      | none => some none
      | _ => none)
    | _ => none
  | _ => none
/-- 0 a step, 1 a return, 2 a throw, 3 a call, 4 of a constructor -/
def xr_what (i : Instr) : Nat := match i with
  | .ireturn => 1
  | .lreturn => 1
  | .areturn => 1
  | .return_ => 1
  | .multianewarray _ _ => 2
  | .invokevirtual _ => 3
  | .invokespecial _ => 4
  | .invokestatic _ => 3
  | _ => 0
def xr_exn (i : Instr) : Nat := match i with
  | .multianewarray k _ => k
  | _ => 0
/-- the run from a place of method j on, by so many steps at most (a call's steps count beside what follows it), calls so deep at most -/
def xr_run (T : xrT) : Nat → Nat → Nat → Nat → xrL → List Value → xrH → Option (xrO × xrH)
  | 0, _, _, _, _, _, _ => none
  | N + 1, d, j, pc, L, st, h => match T.1[j]? with
    | none => none
    | some M => match xr_fetch (xr_cd M) pc with
      | none => none
      | some (i, n) => match xr_what i with
        | 0 => match xr_s T i n pc L st h with
          | none => none
          | some (f, h1) => xr_run T N d j f.1 f.2.1 f.2.2 h1
        | 1 => match xr_end M i st with
          | none => none
          | some v => some (.inl v, h)
        | 2 => match xr_hd M with
          | [] => bif Nat.ble (xr_cat st) 8 && Nat.blt (xr_exn i) 3 then some (.inr (xr_exn i), xr_exc h) else none
          | _ => none
        | _ => match xr_call T i st h with
          | none => none
          | some (k, _, as, r) => match d with
            | 0 => none
            | d1 + 1 => match xr_run T N d1 k 0 (lv_args 0 as) [] h with
              | none => none
              | some (.inl v, h1) => xr_run T N (d1 + 1) j (pc + n) L (v.toList ++ r) h1
              | some (.inr k, h1) => bif Nat.beq (xr_what i) 4 then none else match xr_hnd (xr_hd M) pc k with
                | some t => xr_run T N (d1 + 1) j t L [.retAddr 0] h1
                | none => some (.inr k, h1)
