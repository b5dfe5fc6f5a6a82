/-! what functions read and write -/
def xo_i (h : xrH) (a f : Nat) : Option Int32 := match xr_M h a with
  | .inr (c, fs) => bif Nat.beq c (f / 64) then (match fs[f % 64]? with
    | some (.int v) => some v
    | _ => none) else none
  | _ => none
def xo_r (h : xrH) (a f : Nat) : Option Nat := match xr_M h a with
  | .inr (c, fs) => bif Nat.beq c (f / 64) then (match fs[f % 64]? with
    | some (.ref v) => some v
    | _ => none) else none
  | _ => none
def xo_o (h : xrH) (a f : Nat) : Option (Option Nat) := match xr_M h a with
  | .inr (c, fs) => bif Nat.beq c (f / 64) then (match fs[f % 64]? with
    | some (.ref v) => some (some v)
    | some .null => some none
    | _ => none) else none
  | _ => none
def xo_p (k : Nat) (h : xrH) (a f : Nat) (v : Value) : Option xrH := match xr_M h a with
  | .inr (c, fs) => bif Nat.beq c (f / 64) && Nat.blt (f % 64) fs.length && xr_tak k v then some (xr_put h a (.inr (c, fs.set (f % 64) v))) else none
  | _ => none
def xo_a (ty : FieldType) (h : xrH) (a : Nat) (i : Int32) : Option Int32 := match xr_M h a with
  | .inl (ty', m, .inl f) => if ty' = ty then (if i < 0 ∨ m ≤ i.toNatClampNeg then none else some (f i.toNatClampNeg)) else none
  | _ => none
def xo_ap (ty : FieldType) (h : xrH) (a : Nat) (i x : Int32) : Option xrH := match xr_M h a with
  | .inl (ty', m, .inl f) => if ty' = ty then (if i < 0 ∨ m ≤ i.toNatClampNeg then none else if ty = .int ∨ x = 0 ∨ x = 1 then some (xr_put h a (.inl (ty', m, .inl (upd f i.toNatClampNeg x)))) else none) else none
  | _ => none
def xo_x (L : Nat) (xs : Nat → Int32) (i : Int32) : Option Int32 := if i < 0 ∨ L ≤ i.toNatClampNeg then none else some (xs i.toNatClampNeg)
def xo_l (h : xrH) (a : Nat) (i : Int32) : Option Int64 := match xr_M h a with
  | .inl (.long, m, .inr (.inl f)) => if i < 0 ∨ m ≤ i.toNatClampNeg then none else some (f i.toNatClampNeg)
  | _ => none
def xo_lp (h : xrH) (a : Nat) (i : Int32) (x : Int64) : Option xrH := match xr_M h a with
  | .inl (.long, m, .inr (.inl f)) => if i < 0 ∨ m ≤ i.toNatClampNeg then none else some (xr_put h a (.inl (.long, m, .inr (.inl (vp_updL f i.toNatClampNeg x)))))
  | _ => none
def xo_q (h : xrH) (a : Nat) (i : Int32) : Option (Option Nat) := match xr_M h a with
  | .inl (.object _, m, .inr (.inr (.inr (.inr f)))) => if i < 0 ∨ m ≤ i.toNatClampNeg then none else some (f i.toNatClampNeg)
  | _ => none
def xo_qp (CL : List vw_C) (h : xrH) (a : Nat) (i : Int32) (v : Nat) : Option xrH := match xr_M h a, xr_M h v with
  | .inl (.object C, m, .inr (.inr (.inr (.inr f)))), .inr (c, _) => match CL[c]? with
    | some q => if q.1 = C then (if i < 0 ∨ m ≤ i.toNatClampNeg then none else some (xr_put h a (.inl (.object C, m, .inr (.inr (.inr (.inr (va_up f i.toNatClampNeg (some v))))))))) else none
    | none => none
  | _, _ => none
def xo_n (h : xrH) (a : Nat) : Option Int32 := match xr_M h a with
  | .inl (_, m, _) => some (Int32.ofNat m)
  | _ => none
def xo_d (y v : Int32) : Option Int32 := if y = 0 then none else some v
/-- whether an object is of a class -/
def xo_c (h : xrH) (a c : Nat) : Bool := match xr_M h a with
  | .inr (c', _) => Nat.beq c' c
  | _ => false
def xn_o (D : Nat → List Value) (h : xrH) (c : Nat) (K : Nat → xrH → xrR) : xrR := K h.2.2.1 (xr_new h (D c).length (.inr (c, D c)))
def xn_a (h : xrH) (t : ArrayType) (k : Int32) (K : Nat → xrH → xrR) : xrR := if k < 0 ∨ 65536 < k.toNatClampNeg then none else match xr_nwa t with
  | some c => K h.2.2.1 (xr_new h k.toNatClampNeg (.inl (newarray.typeOf t, k.toNatClampNeg, c.2)))
  | none => none
def xn_q (CL : List vw_C) (h : xrH) (c : Nat) (k : Int32) (K : Nat → xrH → xrR) : xrR := match CL[c]? with
  | some q => if k < 0 ∨ 65536 < k.toNatClampNeg then none else K h.2.2.1 (xr_new h k.toNatClampNeg (.inl (.object q.1, k.toNatClampNeg, .inr (.inr (.inr (.inr (fun _ => none)))))))
  | none => none
def xif (o : Option Nat) (A : xrR) (B : Nat → xrR) : xrR := match o with
  | none => A
  | some a => B a
def xsw (x : Int32) : List (Int32 × xrR) → xrR → xrR
  | [], D => D
  | (v, A) :: t, D => if x = v then A else xsw x t D
/-- the ends: an int, a boolean, a long, a reference, nothing, a throw -/
def xi (v : Int32) (h : xrH) : xrR := some (.inl (some (.int v)), h)
def xz (v : Int32) (h : xrH) : xrR := bif v == 0 || v == 1 then some (.inl (some (.int v)), h) else none
def xl (v : Int64) (h : xrH) : xrR := some (.inl (some (.long v)), h)
def xo (o : Option Nat) (h : xrH) : xrR := some (.inl (some (xr_rf o)), h)
def xv (h : xrH) : xrR := some (.inl none, h)
def xt (e : Nat) (h : xrH) : xrR := some (.inr e, xr_exc h)
/-- calls: of what gives an int (a boolean), a long, a reference, nothing; of a constructor; with what follows a throw -/
def xc_i (F : xrR) (K : Int32 → xrH → xrR) : xrR := match F with
  | some (.inl (some (.int v)), h) => K v h
  | some (.inr e, h) => some (.inr e, h)
  | _ => none
def xc_l (F : xrR) (K : Int64 → xrH → xrR) : xrR := match F with
  | some (.inl (some (.long v)), h) => K v h
  | some (.inr e, h) => some (.inr e, h)
  | _ => none
def xc_o (F : xrR) (K : Option Nat → xrH → xrR) : xrR := match F with
  | some (.inl (some .null), h) => K none h
  | some (.inl (some (.ref a)), h) => K (some a) h
  | some (.inr e, h) => some (.inr e, h)
  | _ => none
def xc_v (F : xrR) (K : xrH → xrR) : xrR := match F with
  | some (.inl none, h) => K h
  | some (.inr e, h) => some (.inr e, h)
  | _ => none
def xc_n (F : xrR) (K : xrH → xrR) : xrR := match F with
  | some (.inl none, h) => K h
  | _ => none
def xc_ih (F : xrR) (K : Int32 → xrH → xrR) (E : Nat → xrH → xrR) : xrR := match F with
  | some (.inl (some (.int v)), h) => K v h
  | some (.inr e, h) => E e h
  | _ => none
section
variable {T : xrT} {q j pc n : Nat} {L : xrL} {st : List Value} {h : xrH} {r : xrO × xrH} {M : xrM} {i : Instr}
theorem xq_b {α : Type} {A : Option α} {K : α → xrR} (g : α → xrF × xrH) (hM : T.1[j]? = some M) (hf : xr_fetch (xr_cd M) pc = some (i, n)) (hw : xr_what i = 0) (hs : ∀ v, A = some v → xr_s T i n pc L st h = some (g v)) (k : ∀ v, xq T q j (K v) (g v).1.1 (g v).1.2.1 (g v).1.2.2 (g v).2) : xq T q j (A.bind K) pc L st h := by
  intro r e
  cases hA : A with
  | none =>
    rw [hA] at e
    cases e
  | some v =>
    rw [hA] at e
    exact xr_ev_s (f := (g v).1) (h1 := (g v).2) hM hf hw (hs v hA) (k v r e)
theorem xo_i_s {a f : Nat} {v : Int32} (e : xo_i h a f = some v) : xr_fld f n pc L (.ref a :: st) h = some ((pc + n, L, .int v :: st), h) := by
  unfold xo_i at e
  unfold xr_fld
  try dsimp only
  split at e
  · rename_i c fs hM2
    rw [hM2]
    try dsimp only
    cases hb : Nat.beq c (f / 64) with
    | false =>
      rw [hb] at e
      cases e
    | true =>
      rw [hb] at e
      dsimp only [cond] at e ⊢
      split at e
      · rename_i hg
        cases e
        rw [hg]
      · cases e
  · cases e
theorem xo_r_s {a f v : Nat} (e : xo_r h a f = some v) : xr_fld f n pc L (.ref a :: st) h = some ((pc + n, L, .ref v :: st), h) := by
  unfold xo_r at e
  unfold xr_fld
  try dsimp only
  split at e
  · rename_i c fs hM2
    rw [hM2]
    try dsimp only
    cases hb : Nat.beq c (f / 64) with
    | false =>
      rw [hb] at e
      cases e
    | true =>
      rw [hb] at e
      dsimp only [cond] at e ⊢
      split at e
      · rename_i hg
        cases e
        rw [hg]
      · cases e
  · cases e
theorem xo_o_s {a f : Nat} {v : Option Nat} (e : xo_o h a f = some v) : xr_fld f n pc L (.ref a :: st) h = some ((pc + n, L, xr_rf v :: st), h) := by
  unfold xo_o at e
  unfold xr_fld
  try dsimp only
  split at e
  · rename_i c fs hM2
    rw [hM2]
    try dsimp only
    cases hb : Nat.beq c (f / 64) with
    | false =>
      rw [hb] at e
      cases e
    | true =>
      rw [hb] at e
      dsimp only [cond] at e ⊢
      split at e
      · rename_i hg
        cases e
        rw [hg]
        rfl
      · rename_i hg
        cases e
        rw [hg]
        rfl
      · cases e
  · cases e
theorem xq_gi {K : Int32 → xrR} {a f : Nat} (hM : T.1[j]? = some M) (hf : xr_fetch (xr_cd M) pc = some (.getfield f, n)) (k : ∀ v, xq T q j (K v) (pc + n) L (.int v :: st) h) : xq T q j ((xo_i h a f).bind K) pc L (.ref a :: st) h :=
  xq_b (fun v => ((pc + n, L, .int v :: st), h)) hM hf rfl (fun _ e => xo_i_s e) k
theorem xq_gr {K : Nat → xrR} {a f : Nat} (hM : T.1[j]? = some M) (hf : xr_fetch (xr_cd M) pc = some (.getfield f, n)) (k : ∀ v, xq T q j (K v) (pc + n) L (.ref v :: st) h) : xq T q j ((xo_r h a f).bind K) pc L (.ref a :: st) h :=
  xq_b (fun v => ((pc + n, L, .ref v :: st), h)) hM hf rfl (fun _ e => xo_r_s e) k
theorem xq_go {K : Option Nat → xrR} {a f : Nat} (hM : T.1[j]? = some M) (hf : xr_fetch (xr_cd M) pc = some (.getfield f, n)) (k : ∀ v, xq T q j (K v) (pc + n) L (xr_rf v :: st) h) : xq T q j ((xo_o h a f).bind K) pc L (.ref a :: st) h :=
  xq_b (fun v => ((pc + n, L, xr_rf v :: st), h)) hM hf rfl (fun _ e => xo_o_s e) k
theorem xo_p_s {k a f : Nat} {v : Value} {h1 : xrH} (e : xo_p k h a f v = some h1) : xr_pfl k f n pc L (v :: .ref a :: st) h = some ((pc + n, L, st), h1) := by
  unfold xo_p at e
  unfold xr_pfl
  try dsimp only
  split at e
  · rename_i c fs hM2
    rw [hM2]
    try dsimp only
    cases hb : (Nat.beq c (f / 64) && Nat.blt (f % 64) fs.length && xr_tak k v) with
    | false =>
      rw [hb] at e
      cases e
    | true =>
      rw [hb] at e
      cases e
      rfl
  · cases e
theorem xq_p0 {K : xrH → xrR} {a f : Nat} {v : Value} (hM : T.1[j]? = some M) (hf : xr_fetch (xr_cd M) pc = some (.putfield f, n)) (k : ∀ h1, xq T q j (K h1) (pc + n) L st h1) : xq T q j ((xo_p 0 h a f v).bind K) pc L (v :: .ref a :: st) h :=
  xq_b (fun h1 => ((pc + n, L, st), h1)) hM hf rfl (fun _ e => xo_p_s e) k
theorem xq_p1 {K : xrH → xrR} {a f : Nat} {v : Value} (hM : T.1[j]? = some M) (hf : xr_fetch (xr_cd M) pc = some (.putstatic f, n)) (k : ∀ h1, xq T q j (K h1) (pc + n) L st h1) : xq T q j ((xo_p 1 h a f v).bind K) pc L (v :: .ref a :: st) h :=
  xq_b (fun h1 => ((pc + n, L, st), h1)) hM hf rfl (fun _ e => xo_p_s e) k
theorem xq_p2 {K : xrH → xrR} {a f : Nat} {v : Value} (hM : T.1[j]? = some M) (hf : xr_fetch (xr_cd M) pc = some (.invokedynamic f, n)) (k : ∀ h1, xq T q j (K h1) (pc + n) L st h1) : xq T q j ((xo_p 2 h a f v).bind K) pc L (v :: .ref a :: st) h :=
  xq_b (fun h1 => ((pc + n, L, st), h1)) hM hf rfl (fun _ e => xo_p_s e) k
theorem xo_a_s {ty : FieldType} {a : Nat} {x v : Int32} (e : xo_a ty h a x = some v) : xr_ald T ty n pc L (.int x :: .ref a :: st) h = some ((pc + n, L, .int v :: st), h) := by
  unfold xo_a at e
  unfold xr_ald
  try dsimp only
  split at e
  · rename_i ty' m f hM2
    rw [hM2]
    try dsimp only
    split at e
    · rename_i h1
      rw [if_pos h1]
      split at e
      · cases e
      · rename_i h2
        cases e
        rw [if_neg h2]
    · cases e
  · cases e
theorem xq_a0 {K : Int32 → xrR} {a : Nat} {x : Int32} (hM : T.1[j]? = some M) (hf : xr_fetch (xr_cd M) pc = some (.iaload, n)) (k : ∀ v, xq T q j (K v) (pc + n) L (.int v :: st) h) : xq T q j ((xo_a .int h a x).bind K) pc L (.int x :: .ref a :: st) h :=
  xq_b (fun v => ((pc + n, L, .int v :: st), h)) hM hf rfl (fun _ e => xo_a_s (T := T) e) k
theorem xq_a1 {K : Int32 → xrR} {a : Nat} {x : Int32} (hM : T.1[j]? = some M) (hf : xr_fetch (xr_cd M) pc = some (.baload, n)) (k : ∀ v, xq T q j (K v) (pc + n) L (.int v :: st) h) : xq T q j ((xo_a .boolean h a x).bind K) pc L (.int x :: .ref a :: st) h :=
  xq_b (fun v => ((pc + n, L, .int v :: st), h)) hM hf rfl (fun _ e => xo_a_s (T := T) e) k
theorem xo_ap_s {ty : FieldType} {a : Nat} {x v : Int32} {h1 : xrH} (e : xo_ap ty h a x v = some h1) : xr_ast ty n pc L (.int v :: .int x :: .ref a :: st) h = some ((pc + n, L, st), h1) := by
  unfold xo_ap at e
  unfold xr_ast
  try dsimp only
  split at e
  · rename_i ty' m f hM2
    rw [hM2]
    try dsimp only
    split at e
    · rename_i h1
      rw [if_pos h1]
      split at e
      · cases e
      · rename_i h2
        rw [if_neg h2]
        split at e
        · rename_i h3
          cases e
          rw [if_pos h3]
        · cases e
    · cases e
  · cases e
theorem xq_s0 {K : xrH → xrR} {a : Nat} {x v : Int32} (hM : T.1[j]? = some M) (hf : xr_fetch (xr_cd M) pc = some (.iastore, n)) (k : ∀ h1, xq T q j (K h1) (pc + n) L st h1) : xq T q j ((xo_ap .int h a x v).bind K) pc L (.int v :: .int x :: .ref a :: st) h :=
  xq_b (fun h1 => ((pc + n, L, st), h1)) hM hf rfl (fun _ e => xo_ap_s e) k
theorem xq_s1 {K : xrH → xrR} {a : Nat} {x v : Int32} (hM : T.1[j]? = some M) (hf : xr_fetch (xr_cd M) pc = some (.bastore, n)) (k : ∀ h1, xq T q j (K h1) (pc + n) L st h1) : xq T q j ((xo_ap .boolean h a x v).bind K) pc L (.int v :: .int x :: .ref a :: st) h :=
  xq_b (fun h1 => ((pc + n, L, st), h1)) hM hf rfl (fun _ e => xo_ap_s e) k
theorem xq_x {K : Int32 → xrR} {a : Nat} {x : Int32} (hM : T.1[j]? = some M) (hf : xr_fetch (xr_cd M) pc = some (.iaload, n)) (k : ∀ v, xq T q j (K v) (pc + n) L (.int v :: st) h) : xq T q j ((xo_x T.2.2.2.1 T.2.2.2.2 x).bind K) pc L (.int x :: .retAddr (a + 1) :: st) h :=
  xq_b (fun v => ((pc + n, L, .int v :: st), h)) hM hf rfl (fun v e => by
    unfold xo_x at e
    show xr_ald T .int n pc L (.int x :: .retAddr (a + 1) :: st) h = _
    unfold xr_ald
    try dsimp only
    rw [if_pos rfl]
    split at e
    · cases e
    · rename_i h2
      cases e
      rw [if_neg h2]) k
theorem xq_xn {F : xrR} {a : Nat} (hM : T.1[j]? = some M) (hf : xr_fetch (xr_cd M) pc = some (.arraylength, n)) (k : xq T q j F (pc + n) L (.int (Int32.ofNat T.2.2.2.1) :: st) h) : xq T q j F pc L (.retAddr (a + 1) :: st) h :=
  fun r e => xr_ev_s (f := (pc + n, L, .int (Int32.ofNat T.2.2.2.1) :: st)) (h1 := h) hM hf rfl rfl (k r e)
theorem xq_al {K : Int64 → xrR} {a : Nat} {x : Int32} (hM : T.1[j]? = some M) (hf : xr_fetch (xr_cd M) pc = some (.laload, n)) (k : ∀ v, xq T q j (K v) (pc + n) L (.long v :: st) h) : xq T q j ((xo_l h a x).bind K) pc L (.int x :: .ref a :: st) h :=
  xq_b (fun v => ((pc + n, L, .long v :: st), h)) hM hf rfl (fun v e => by
    unfold xo_l at e
    show xr_lald n pc L (.int x :: .ref a :: st) h = _
    unfold xr_lald
    try dsimp only
    split at e
    · rename_i hM2
      rw [hM2]
      try dsimp only
      split at e
      · cases e
      · rename_i h2
        cases e
        rw [if_neg h2]
    · cases e) k
theorem xq_sl {K : xrH → xrR} {a : Nat} {x : Int32} {v : Int64} (hM : T.1[j]? = some M) (hf : xr_fetch (xr_cd M) pc = some (.lastore, n)) (k : ∀ h1, xq T q j (K h1) (pc + n) L st h1) : xq T q j ((xo_lp h a x v).bind K) pc L (.long v :: .int x :: .ref a :: st) h :=
  xq_b (fun h1 => ((pc + n, L, st), h1)) hM hf rfl (fun h1 e => by
    unfold xo_lp at e
    show xr_last n pc L (.long v :: .int x :: .ref a :: st) h = _
    unfold xr_last
    try dsimp only
    split at e
    · rename_i hM2
      rw [hM2]
      try dsimp only
      split at e
      · cases e
      · rename_i h2
        cases e
        rw [if_neg h2]
    · cases e) k
theorem xq_aq {K : Option Nat → xrR} {a : Nat} {x : Int32} (hM : T.1[j]? = some M) (hf : xr_fetch (xr_cd M) pc = some (.aaload, n)) (k : ∀ v, xq T q j (K v) (pc + n) L (xr_rf v :: st) h) : xq T q j ((xo_q h a x).bind K) pc L (.int x :: .ref a :: st) h :=
  xq_b (fun v => ((pc + n, L, xr_rf v :: st), h)) hM hf rfl (fun v e => by
    unfold xo_q at e
    show xr_qald n pc L (.int x :: .ref a :: st) h = _
    unfold xr_qald
    try dsimp only
    split at e
    · rename_i hM2
      rw [hM2]
      try dsimp only
      split at e
      · cases e
      · rename_i h2
        cases e
        rw [if_neg h2]
    · cases e) k
theorem xq_sq {K : xrH → xrR} {a v : Nat} {x : Int32} (hM : T.1[j]? = some M) (hf : xr_fetch (xr_cd M) pc = some (.aastore, n)) (k : ∀ h1, xq T q j (K h1) (pc + n) L st h1) : xq T q j ((xo_qp T.2.1 h a x v).bind K) pc L (.ref v :: .int x :: .ref a :: st) h :=
  xq_b (fun h1 => ((pc + n, L, st), h1)) hM hf rfl (fun h1 e => by
    unfold xo_qp at e
    show xr_qast T n pc L (.ref v :: .int x :: .ref a :: st) h = _
    unfold xr_qast
    try dsimp only
    split at e
    · rename_i hM2 hM3
      rw [hM2, hM3]
      try dsimp only
      split at e
      · rename_i hq
        rw [hq]
        try dsimp only
        split at e
        · rename_i hc
          rw [if_pos hc]
          split at e
          · cases e
          · rename_i h2
            cases e
            rw [if_neg h2]
        · cases e
      · cases e
    · cases e) k
theorem xq_ln {K : Int32 → xrR} {a : Nat} (hM : T.1[j]? = some M) (hf : xr_fetch (xr_cd M) pc = some (.arraylength, n)) (k : ∀ v, xq T q j (K v) (pc + n) L (.int v :: st) h) : xq T q j ((xo_n h a).bind K) pc L (.ref a :: st) h :=
  xq_b (fun v => ((pc + n, L, .int v :: st), h)) hM hf rfl (fun v e => by
    unfold xo_n at e
    show xr_len T n pc L (.ref a :: st) h = _
    unfold xr_len
    try dsimp only
    split at e
    · rename_i hM2
      cases e
      rw [hM2]
    · cases e) k
theorem xq_dv {K : Int32 → xrR} {x y : Int32} (hM : T.1[j]? = some M) (hf : xr_fetch (xr_cd M) pc = some (.idiv, n)) (k : ∀ v, v = x / y → xq T q j (K v) (pc + n) L (.int v :: st) h) : xq T q j ((xo_d y (x / y)).bind K) pc L (.int y :: .int x :: st) h := by
  intro r e
  unfold xo_d at e
  split at e
  · cases e
  · rename_i hy
    refine xr_ev_s (f := (pc + n, L, .int (x / y) :: st)) (h1 := h) hM hf rfl ?_ (k _ rfl r e)
    show xr_bd (fun x y => x / y) n pc L (.int y :: .int x :: st) h = _
    unfold xr_bd
    try dsimp only
    rw [if_neg hy]
theorem xq_rm {K : Int32 → xrR} {x y : Int32} (hM : T.1[j]? = some M) (hf : xr_fetch (xr_cd M) pc = some (.irem, n)) (k : ∀ v, v = x - x / y * y → xq T q j (K v) (pc + n) L (.int v :: st) h) : xq T q j ((xo_d y (x - x / y * y)).bind K) pc L (.int y :: .int x :: st) h := by
  intro r e
  unfold xo_d at e
  split at e
  · cases e
  · rename_i hy
    refine xr_ev_s (f := (pc + n, L, .int (x - x / y * y) :: st)) (h1 := h) hM hf rfl ?_ (k _ rfl r e)
    show xr_bd (fun x y => x - x / y * y) n pc L (.int y :: .int x :: st) h = _
    unfold xr_bd
    try dsimp only
    rw [if_neg hy]
theorem xq_nw {K : Nat → xrH → xrR} {c : Nat} (hM : T.1[j]? = some M) (hf : xr_fetch (xr_cd M) pc = some (.new c, n)) (k : ∀ a h1, xq T q j (K a h1) (pc + n) L (.ref a :: st) h1) : xq T q j (xn_o T.2.2.1 h c K) pc L st h :=
  fun r e => xr_ev_s (f := (pc + n, L, .ref h.2.2.1 :: st)) (h1 := xr_new h (T.2.2.1 c).length (.inr (c, T.2.2.1 c))) hM hf rfl rfl (k _ _ r e)
theorem xq_na {K : Nat → xrH → xrR} {t : ArrayType} {x : Int32} (hM : T.1[j]? = some M) (hf : xr_fetch (xr_cd M) pc = some (.newarray t, n)) (k : ∀ a h1, xq T q j (K a h1) (pc + n) L (.ref a :: st) h1) : xq T q j (xn_a h t x K) pc L (.int x :: st) h := by
  intro r e
  unfold xn_a at e
  split at e
  · cases e
  · rename_i hx
    split at e
    · rename_i c hc
      refine xr_ev_s (f := (pc + n, L, .ref h.2.2.1 :: st)) (h1 := xr_new h x.toNatClampNeg (.inl (newarray.typeOf t, x.toNatClampNeg, c.2))) hM hf rfl ?_ (k _ _ r e)
      unfold xr_s
      try dsimp only
      rw [if_neg hx, hc]
    · cases e
theorem xq_nq {K : Nat → xrH → xrR} {c : Nat} {x : Int32} (hM : T.1[j]? = some M) (hf : xr_fetch (xr_cd M) pc = some (.anewarray c, n)) (k : ∀ a h1, xq T q j (K a h1) (pc + n) L (.ref a :: st) h1) : xq T q j (xn_q T.2.1 h c x K) pc L (.int x :: st) h := by
  intro r e
  unfold xn_q at e
  split at e
  · rename_i z hz
    split at e
    · cases e
    · rename_i hx
      refine xr_ev_s (f := (pc + n, L, .ref h.2.2.1 :: st)) (h1 := xr_new h x.toNatClampNeg (.inl (.object z.1, x.toNatClampNeg, .inr (.inr (.inr (.inr (fun _ => none))))))) hM hf rfl ?_ (k _ _ r e)
      unfold xr_s
      try dsimp only
      rw [hz]
      try dsimp only
      rw [if_neg hx]
  · cases e
/-! branches, switches -/
theorem xr_br_or {c : ClassFile.Cond} {x y : Int32} {A B : xrR} (e : xr_br c x y A B = some r) : (A = some r ∧ ∀ (P Q : Option (xrF × xrH)), xr_br c x y P Q = P) ∨ (B = some r ∧ ∀ (P Q : Option (xrF × xrH)), xr_br c x y P Q = Q) := by
  cases c <;> (dsimp only [xr_br] at e ⊢; split at e) <;> rename_i hp <;> first
    | exact Or.inl ⟨e, fun P Q => if_pos hp⟩
    | exact Or.inl ⟨e, fun P Q => if_neg hp⟩
    | exact Or.inr ⟨e, fun P Q => if_neg hp⟩
    | exact Or.inr ⟨e, fun P Q => if_pos hp⟩
theorem xq_i2 {c : ClassFile.Cond} {off : Int} {x y : Int32} {A B : xrR} (t : Nat) (hM : T.1[j]? = some M) (hf : xr_fetch (xr_cd M) pc = some (.if_icmp c off, n)) (ht : xr_jmp pc off = some t) (kA : xq T q j A t L st h) (kB : xq T q j B (pc + n) L st h) : xq T q j (xr_br c x y A B) pc L (.int y :: .int x :: st) h := by
  intro r e
  rcases xr_br_or e with ⟨e, g⟩ | ⟨e, g⟩
  · refine xr_ev_s (f := (t, L, st)) (h1 := h) hM hf rfl ?_ (kA r e)
    show xr_br c x y (xr_to pc off L st h) _ = _
    rw [g]
    unfold xr_to
    rw [ht]
  · refine xr_ev_s (f := (pc + n, L, st)) (h1 := h) hM hf rfl ?_ (kB r e)
    show xr_br c x y _ _ = _
    rw [g]
theorem xq_i1 {c : ClassFile.Cond} {off : Int} {x : Int32} {A B : xrR} (t : Nat) (hM : T.1[j]? = some M) (hf : xr_fetch (xr_cd M) pc = some (.ifCond c off, n)) (ht : xr_jmp pc off = some t) (kA : xq T q j A t L st h) (kB : xq T q j B (pc + n) L st h) : xq T q j (xr_br c x 0 A B) pc L (.int x :: st) h := by
  intro r e
  rcases xr_br_or e with ⟨e, g⟩ | ⟨e, g⟩
  · refine xr_ev_s (f := (t, L, st)) (h1 := h) hM hf rfl ?_ (kA r e)
    show xr_br c x 0 (xr_to pc off L st h) _ = _
    rw [g]
    unfold xr_to
    rw [ht]
  · refine xr_ev_s (f := (pc + n, L, st)) (h1 := h) hM hf rfl ?_ (kB r e)
    show xr_br c x 0 _ _ = _
    rw [g]
/-- the keys of a switch, and where it goes -/
def xq_sl' (T : xrT) (q j pc : Nat) (L : xrL) (st : List Value) (h : xrH) : List (Int × Int) → List (Int32 × xrR) → Prop
  | [], [] => True
  | (k, off) :: ps, (v, A) :: as => v.toInt = k ∧ (∃ t, xr_jmp pc off = some t ∧ xq T q j A t L st h) ∧ xq_sl' T q j pc L st h ps as
  | _, _ => False
theorem xq_swl {D : xrR} {d : Int} {x : Int32} (hD : ∃ t, xr_jmp pc d = some t ∧ xq T q j D t L st h) : ∀ {ps : List (Int × Int)} {as : List (Int32 × xrR)}, xq_sl' T q j pc L st h ps as → xsw x as D = some r → ∃ t, xr_jmp pc (Op.lookupswitch.offset ps d x.toInt) = some t ∧ xr_ev T q j t L st h r
  | [], [], _, e => by
    obtain ⟨t, ht, hk⟩ := hD
    exact ⟨t, ht, hk r e⟩
  | (k, off) :: ps, (v, A) :: as, hl, e => by
    obtain ⟨hv, ⟨t, ht, hA⟩, hl⟩ := hl
    unfold xsw at e
    rw [Op.lookupswitch.offset_cons]
    split at e
    · rename_i hx
      rw [if_pos (by rw [← hv, hx])]
      exact ⟨t, ht, hA r e⟩
    · rename_i hx
      rw [if_neg (fun z => hx (Int32.toInt_inj.mp (by rw [hv, z])))]
      exact xq_swl hD hl e
  | [], _ :: _, hl, _ => hl.elim
  | _ :: _, [], hl, _ => hl.elim
theorem xq_ls {D : xrR} {d : Int} {ps : Array (Int × Int)} {x : Int32} {as : List (Int32 × xrR)} (hM : T.1[j]? = some M) (hf : xr_fetch (xr_cd M) pc = some (.lookupswitch d ps, n)) (hD : ∃ t, xr_jmp pc d = some t ∧ xq T q j D t L st h) (hl : xq_sl' T q j pc L st h ps.toList as) : xq T q j (xsw x as D) pc L (.int x :: st) h := by
  intro r e
  obtain ⟨t, ht, k⟩ := xq_swl hD hl e
  refine xr_ev_s (f := (t, L, st)) (h1 := h) hM hf rfl ?_ k
  show xr_to pc _ L st h = _
  unfold xr_to
  rw [ht]
/-- the pairs of a table -/
def xq_en : Int → List Int → List (Int × Int)
  | _, [] => []
  | k, o :: t => (k, o) :: xq_en (k + 1) t
theorem xq_en_s {d : Int} : ∀ {l : List Int} {lo x : Int}, Op.lookupswitch.offset (xq_en lo l) d x = if x < lo ∨ lo + (l.length : Int) ≤ x then d else (l[(x - lo).toNat]?).getD d
  | [], lo, x => by
    rw [if_pos (by simp only [List.length_nil]; omega)]
    rfl
  | o :: t, lo, x => by
    show Op.lookupswitch.offset ((lo, o) :: xq_en (lo + 1) t) d x = _
    rw [Op.lookupswitch.offset_cons, xq_en_s]
    by_cases hx : lo = x
    · rw [if_pos hx, if_neg (by simp only [List.length_cons]; omega), show (x - lo).toNat = 0 by omega]
      rfl
    · rw [if_neg hx]
      by_cases h1 : x < lo ∨ lo + ((o :: t).length : Int) ≤ x
      · rw [if_pos h1, if_pos (by simp only [List.length_cons] at h1; omega)]
      · rw [if_neg h1, if_neg (by simp only [List.length_cons] at h1; omega), show (x - lo).toNat = (x - (lo + 1)).toNat + 1 by omega, List.getElem?_cons_succ]
theorem xq_ts {D : xrR} {d lo hi : Int} {ps : Array Int} {x : Int32} {as : List (Int32 × xrR)} (hM : T.1[j]? = some M) (hf : xr_fetch (xr_cd M) pc = some (.tableswitch d lo hi ps, n)) (hlen : lo + (ps.toList.length : Int) = hi + 1) (hD : ∃ t, xr_jmp pc d = some t ∧ xq T q j D t L st h) (hl : xq_sl' T q j pc L st h (xq_en lo ps.toList) as) : xq T q j (xsw x as D) pc L (.int x :: st) h := by
  intro r e
  obtain ⟨t, ht, k⟩ := xq_swl hD hl e
  rw [xq_en_s] at ht
  refine xr_ev_s (f := (t, L, st)) (h1 := h) hM hf rfl ?_ k
  show (if x.toInt < lo ∨ hi < x.toInt then xr_to pc d L st h else match ps[(x.toInt - lo).toNat]? with
      | some off => xr_to pc off L st h
      | none => none) = _
  by_cases h1 : x.toInt < lo ∨ hi < x.toInt
  · rw [if_pos h1]
    rw [if_pos (by omega)] at ht
    unfold xr_to
    rw [ht]
  · rw [if_neg h1]
    rw [if_neg (by omega)] at ht
    rw [← Array.getElem?_toList]
    have h2 : (x.toInt - lo).toNat < ps.toList.length := by omega
    rw [List.getElem?_eq_getElem h2] at ht ⊢
    dsimp only [Option.getD] at ht ⊢
    unfold xr_to
    rw [ht]
/-! ends -/
theorem xr_ev_e {v : Option Value} (hM : T.1[j]? = some M) (hf : xr_fetch (xr_cd M) pc = some (i, n)) (hw : xr_what i = 1) (he : xr_end M i st = some v) : xr_ev T q j pc L st h (.inl v, h) := by
  refine ⟨1, fun d _ => ?_⟩
  rw [xr_run, hM]
  try dsimp only
  rw [hf]
  try dsimp only
  rw [hw]
  try dsimp only
  rw [he]
  rfl
theorem xq_ri {v : Int32} (hM : T.1[j]? = some M) (hf : xr_fetch (xr_cd M) pc = some (.ireturn, n)) (hr : xr_rt M = some .int) : xq T q j (xi v h) pc L [.int v] h := by
  intro r e
  cases e
  refine xr_ev_e hM hf rfl ?_
  unfold xr_end
  try dsimp only
  rw [hr]
  rfl
theorem xq_rz {v : Int32} (hM : T.1[j]? = some M) (hf : xr_fetch (xr_cd M) pc = some (.ireturn, n)) (hr : xr_rt M = some .boolean) : xq T q j (xz v h) pc L [.int v] h := by
  intro r e
  unfold xz at e
  cases hb : (v == 0 || v == 1) with
  | false =>
    rw [hb] at e
    cases e
  | true =>
    rw [hb] at e
    cases e
    refine xr_ev_e hM hf rfl ?_
    unfold xr_end
    try dsimp only
    rw [hr]
    unfold xr_okr
    try dsimp only
    rw [hb]
    rfl
theorem xq_rl {v : Int64} (hM : T.1[j]? = some M) (hf : xr_fetch (xr_cd M) pc = some (.lreturn, n)) (hr : xr_rt M = some .long) : xq T q j (xl v h) pc L [.long v] h := by
  intro r e
  cases e
  refine xr_ev_e hM hf rfl ?_
  unfold xr_end
  try dsimp only
  rw [hr]
  rfl
theorem xq_rv (hM : T.1[j]? = some M) (hf : xr_fetch (xr_cd M) pc = some (.return_, n)) (hr : xr_rt M = none) : xq T q j (xv h) pc L [] h := by
  intro r e
  cases e
  refine xr_ev_e hM hf rfl ?_
  unfold xr_end
  try dsimp only
  rw [hr]
theorem xq_ro {C : String} {o : Option Nat} (hM : T.1[j]? = some M) (hf : xr_fetch (xr_cd M) pc = some (.areturn, n)) (hr : xr_rt M = some (.object C)) : xq T q j (xo o h) pc L [xr_rf o] h := by
  intro r e
  cases e
  refine xr_ev_e hM hf rfl ?_
  unfold xr_end
  cases o <;> (dsimp only [xr_rf]; rw [hr]; rfl)
theorem xq_t {e0 z : Nat} (hM : T.1[j]? = some M) (hf : xr_fetch (xr_cd M) pc = some (.multianewarray e0 z, n)) (hh : xr_hd M = []) (h8 : (Nat.ble (xr_cat st) 8 && Nat.blt e0 3) = true) : xq T q j (xt e0 h) pc L st h := by
  intro r e
  cases e
  refine ⟨1, fun d _ => ?_⟩
  rw [xr_run, hM]
  try dsimp only
  rw [hf]
  dsimp only [xr_what]
  rw [hh]
  try dsimp only
  rw [show (Nat.ble (xr_cat st) 8 && Nat.blt (xr_exn (.multianewarray e0 z)) 3) = true from h8]
  rfl
/-! calls -/
variable {k : Nat} {Kk : xrM} {as rs : List Value} {q1 : Nat}
theorem xr_ev_c {v : Option Value} {h1 : xrH} (hM : T.1[j]? = some M) (hf : xr_fetch (xr_cd M) pc = some (i, n)) (hw : xr_what i = 3 ∨ xr_what i = 4) (hc : xr_call T i st h = some (k, Kk, as, rs)) (hq : q1 + 1 ≤ q) (hk : xr_ev T q1 k 0 (lv_args 0 as) [] h (.inl v, h1)) (kk : xr_ev T q j (pc + n) L (v.toList ++ rs) h1 r) : xr_ev T q j pc L st h r := by
  obtain ⟨N1, g1⟩ := hk
  obtain ⟨N2, g2⟩ := kk
  refine ⟨max N1 N2 + 1, fun d hd => ?_⟩
  cases d with
  | zero => omega
  | succ d1 =>
    rw [xr_run, hM]
    try dsimp only
    rw [hf]
    try dsimp only
    rcases hw with hw | hw
    · rw [hw]
      try dsimp only
      rw [hc]
      try dsimp only
      rw [xr_run_upl (g1 d1 (by omega)) (Nat.le_max_left N1 N2)]
      exact xr_run_upl (g2 (d1 + 1) hd) (Nat.le_max_right N1 N2)
    · rw [hw]
      try dsimp only
      rw [hc]
      try dsimp only
      rw [xr_run_upl (g1 d1 (by omega)) (Nat.le_max_left N1 N2)]
      exact xr_run_upl (g2 (d1 + 1) hd) (Nat.le_max_right N1 N2)
theorem xr_ev_x {e0 : Nat} {h1 : xrH} (hM : T.1[j]? = some M) (hf : xr_fetch (xr_cd M) pc = some (i, n)) (hw : xr_what i = 3) (hc : xr_call T i st h = some (k, Kk, as, rs)) (hq : q1 + 1 ≤ q) (hk : xr_ev T q1 k 0 (lv_args 0 as) [] h (.inr e0, h1)) (hh : xr_hnd (xr_hd M) pc e0 = none) : xr_ev T q j pc L st h (.inr e0, h1) := by
  obtain ⟨N1, g1⟩ := hk
  refine ⟨N1 + 1, fun d hd => ?_⟩
  cases d with
  | zero => omega
  | succ d1 =>
    rw [xr_run, hM]
    try dsimp only
    rw [hf]
    try dsimp only
    rw [hw]
    try dsimp only
    rw [hc]
    try dsimp only
    rw [g1 d1 (by omega)]
    try dsimp only
    rw [hh]
    rfl
theorem xr_ev_h {e0 t : Nat} {h1 : xrH} (hM : T.1[j]? = some M) (hf : xr_fetch (xr_cd M) pc = some (i, n)) (hw : xr_what i = 3) (hc : xr_call T i st h = some (k, Kk, as, rs)) (hq : q1 + 1 ≤ q) (hk : xr_ev T q1 k 0 (lv_args 0 as) [] h (.inr e0, h1)) (hh : xr_hnd (xr_hd M) pc e0 = some t) (kk : xr_ev T q j t L [.retAddr 0] h1 r) : xr_ev T q j pc L st h r := by
  obtain ⟨N1, g1⟩ := hk
  obtain ⟨N2, g2⟩ := kk
  refine ⟨max N1 N2 + 1, fun d hd => ?_⟩
  cases d with
  | zero => omega
  | succ d1 =>
    rw [xr_run, hM]
    try dsimp only
    rw [hf]
    try dsimp only
    rw [hw]
    try dsimp only
    rw [hc]
    try dsimp only
    rw [xr_run_upl (g1 d1 (by omega)) (Nat.le_max_left N1 N2)]
    try dsimp only
    rw [hh]
    exact xr_run_upl (g2 (d1 + 1) hd) (Nat.le_max_right N1 N2)
/-- what a call wants: the callee's function, at the arguments -/
def xq_cl (T : xrT) (q : Nat) (i : Instr) (st : List Value) (h : xrH) (F : xrR) (rs : List Value) : Prop := ∃ k Kk as q1, xr_call T i st h = some (k, Kk, as, rs) ∧ q1 + 1 ≤ q ∧ xq T q1 k F 0 (lv_args 0 as) [] h
theorem xq_cl0 (hc : xr_call T i st h = some (k, Kk, as, rs)) (hq : q1 + 1 ≤ q) {F : xrR} (hk : xq T q1 k F 0 (lv_args 0 as) [] h) : xq_cl T q i st h F rs := ⟨k, Kk, as, q1, hc, hq, hk⟩
theorem xq_g {b : Bool} {F : xrR} (z : b = true → xq T q j F pc L st h) : xq T q j (bif b then F else none) pc L st h := by
  cases b with
  | false => exact xq_none
  | true => exact z rfl
theorem xq_ci {F : xrR} {K : Int32 → xrH → xrR} (hM : T.1[j]? = some M) (hf : xr_fetch (xr_cd M) pc = some (i, n)) (hw : xr_what i = 3) (hh : xr_hd M = []) (hc : xq_cl T q i st h F rs) (kk : ∀ v h1, xq T q j (K v h1) (pc + n) L (.int v :: rs) h1) : xq T q j (xc_i F K) pc L st h := by
  obtain ⟨k, Kk, as, q1, hc, hq, hk⟩ := hc
  intro r e
  unfold xc_i at e
  split at e
  · exact xr_ev_c hM hf (Or.inl hw) hc hq (hk _ rfl) (kk _ _ r e)
  · cases e
    exact xr_ev_x hM hf hw hc hq (hk _ rfl) (by rw [hh]; rfl)
  · cases e
theorem xq_cL {F : xrR} {K : Int64 → xrH → xrR} (hM : T.1[j]? = some M) (hf : xr_fetch (xr_cd M) pc = some (i, n)) (hw : xr_what i = 3) (hh : xr_hd M = []) (hc : xq_cl T q i st h F rs) (kk : ∀ v h1, xq T q j (K v h1) (pc + n) L (.long v :: rs) h1) : xq T q j (xc_l F K) pc L st h := by
  obtain ⟨k, Kk, as, q1, hc, hq, hk⟩ := hc
  intro r e
  unfold xc_l at e
  split at e
  · exact xr_ev_c hM hf (Or.inl hw) hc hq (hk _ rfl) (kk _ _ r e)
  · cases e
    exact xr_ev_x hM hf hw hc hq (hk _ rfl) (by rw [hh]; rfl)
  · cases e
theorem xq_co {F : xrR} {K : Option Nat → xrH → xrR} (hM : T.1[j]? = some M) (hf : xr_fetch (xr_cd M) pc = some (i, n)) (hw : xr_what i = 3) (hh : xr_hd M = []) (hc : xq_cl T q i st h F rs) (kk : ∀ v h1, xq T q j (K v h1) (pc + n) L (xr_rf v :: rs) h1) : xq T q j (xc_o F K) pc L st h := by
  obtain ⟨k, Kk, as, q1, hc, hq, hk⟩ := hc
  intro r e
  unfold xc_o at e
  split at e
  · exact xr_ev_c hM hf (Or.inl hw) hc hq (hk _ rfl) (kk none _ r e)
  · exact xr_ev_c hM hf (Or.inl hw) hc hq (hk _ rfl) (kk (some _) _ r e)
  · cases e
    exact xr_ev_x hM hf hw hc hq (hk _ rfl) (by rw [hh]; rfl)
  · cases e
theorem xq_cv {F : xrR} {K : xrH → xrR} (hM : T.1[j]? = some M) (hf : xr_fetch (xr_cd M) pc = some (i, n)) (hw : xr_what i = 3) (hh : xr_hd M = []) (hc : xq_cl T q i st h F rs) (kk : ∀ h1, xq T q j (K h1) (pc + n) L rs h1) : xq T q j (xc_v F K) pc L st h := by
  obtain ⟨k, Kk, as, q1, hc, hq, hk⟩ := hc
  intro r e
  unfold xc_v at e
  split at e
  · exact xr_ev_c hM hf (Or.inl hw) hc hq (hk _ rfl) (kk _ r e)
  · cases e
    exact xr_ev_x hM hf hw hc hq (hk _ rfl) (by rw [hh]; rfl)
  · cases e
theorem xq_cn {F : xrR} {K : xrH → xrR} (hM : T.1[j]? = some M) (hf : xr_fetch (xr_cd M) pc = some (i, n)) (hw : xr_what i = 4) (hc : xq_cl T q i st h F rs) (kk : ∀ h1, xq T q j (K h1) (pc + n) L rs h1) : xq T q j (xc_n F K) pc L st h := by
  obtain ⟨k, Kk, as, q1, hc, hq, hk⟩ := hc
  intro r e
  unfold xc_n at e
  split at e
  · exact xr_ev_c hM hf (Or.inr hw) hc hq (hk _ rfl) (kk _ r e)
  · cases e
theorem xq_ch {F : xrR} {K : Int32 → xrH → xrR} {E : Nat → xrH → xrR} (hM : T.1[j]? = some M) (hf : xr_fetch (xr_cd M) pc = some (i, n)) (hw : xr_what i = 3) (hc : xq_cl T q i st h F rs) (kk : ∀ v h1, xq T q j (K v h1) (pc + n) L (.int v :: rs) h1)
    (hE : ∀ e0 h1, (∃ t, xr_hnd (xr_hd M) pc e0 = some t ∧ xq T q j (E e0 h1) t L [.retAddr 0] h1) ∨ (xr_hnd (xr_hd M) pc e0 = none ∧ E e0 h1 = some (.inr e0, h1))) : xq T q j (xc_ih F K E) pc L st h := by
  obtain ⟨k, Kk, as, q1, hc, hq, hk⟩ := hc
  intro r e
  unfold xc_ih at e
  split at e
  · exact xr_ev_c hM hf (Or.inl hw) hc hq (hk _ rfl) (kk _ _ r e)
  · rcases hE _ _ with ⟨t, ht, hx⟩ | ⟨ht, hx⟩
    · exact xr_ev_h hM hf hw hc hq (hk _ rfl) ht (hx r e)
    · rw [hx] at e
      cases e
      exact xr_ev_x hM hf hw hc hq (hk _ rfl) ht
  · cases e
end
/-- the fuel of loops -/
def xfu : Nat := 10 ^ 60
theorem xq_w2 {T : xrT} {q j pc : Nat} {L L' : xrL} {st : List Value} {h : xrH} {F : xrR} (k : xq T q j F pc L' st h) (z : xw_R L' L) : xq T q j F pc L st h := xq_w L' z k
theorem xr_call_g {b : Bool} {A : Option (Nat × xrM × List Value × List Value)} {X : Nat × xrM × List Value × List Value} (e : A = bif b then some X else none) (hb : b = true) : A = some X := by
  rw [e, hb]
  rfl
theorem xq_if0 {T : xrT} {q j pc : Nat} {L : xrL} {st : List Value} {h : xrH} {A : xrR} {B : Nat → xrR} (z : xq T q j A pc L st h) : xq T q j (xif none A B) pc L st h := z
theorem xq_if1 {T : xrT} {q j pc : Nat} {L : xrL} {st : List Value} {h : xrH} {A : xrR} {B : Nat → xrR} {a : Nat} (z : xq T q j (B a) pc L st h) : xq T q j (xif (some a) A B) pc L st h := z
theorem xq_bd {T : xrT} {q j pc : Nat} {L : xrL} {st : List Value} {h : xrH} {K : Nat → xrR} {a : Nat} (z : xq T q j (K a) pc L st h) : xq T q j (Option.bind (some a) K) pc L st h := z
