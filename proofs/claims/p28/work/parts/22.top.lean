/-! THE TOP: what the Statement asks, out of a run of the runner -/
/-! THE CLAIM OUT OF ONE WALK OF THE LAW'S BODY. Your part is whole_start (and what it stands on); all else here is the same for every law, but numbers. -/
def R_law : String := "HexTemplatesLaw"
def lw_P (b : Addr) (xs : List Int32) (args : Array Value) (s : State) : Prop := args = #[.ref b] ∧ s.IntsAt b xs ∧ xs.length ≤ 260 ∧ (Jvm.Cond.and given_1 narrow_1).before args s = true
def lw_Q (_ : Array Value) (s : State) (o : Outcome) (t : State) : Prop := o = .returned (some (.int 1)) ∧ Framed s o t [] 600130 7301080
def lw_Z (below : List Frame) (a : Array Value) (s : State) : State → Prop := fun t => ∃ o, t.status = .running ∧ Ended t below o ∧ lw_Q a s o t
/-- the law's own end, with 1 on the stack, nothing written that was there before, its room as the claim has it -/
theorem lw_ret {p : Program} {l : Launch} {e : Env} {s : State} {m : MethodId} {below : List Frame} {meth : Method} {c : Code} {b : Nat} (hx : p.tables.exec = Jvm.exec) (hb : c.code = code) (hr : meth.sig.returnType = ret) (hlocks : meth.locks = false) {pc : Nat} {H : Heap} {ls : Array Slot} (hdg : decode code pc = .ok (.ireturn, 1)) : W p l e room_1 s m #[Value.ref b] below meth c H [] 600130 7301080 (lw_Z below #[Value.ref b] s) (F0 m pc ls [.int 1]) := by
  intro T hT X
  obtain ⟨fs, hret, hrun, hended, hW, hframe⟩ := X.leave (v := some (.int 1)) (hlocks := hlocks) (fun h => by rw [hr] at h; cases h)
  have hmeth' : T.vm.method? m = some meth := X.method'
  refine ⟨T.setFrames fs, ?_, .returned (some (.int 1)), hrun, hended, rfl, ⟨_, rfl⟩, hW, hframe⟩
  jvm_step X.here [X.here.top, hx, hb, hdg, hmeth', hr, ret, narrow_b1]
  (try refine ⟨rfl, ?_⟩); (try refine ⟨rfl, ?_⟩)
  first | (intro acts; rw [hret _ acts rfl rfl rfl]) | rw [hret _ _ rfl rfl rfl]
  exact Steps.refl _
/-- what holds at the law's entry: the machine, the code, the tables' words (any of lw_tbl by 'hts w (by decide +kernel)'), the script of L ints xs at the cell b, what the Statement gives of the start (any of its parts by flat_of_before) -/
def lw_At (p : Program) (s : State) (m : MethodId) (meth : Method) (c : Code) (b L : Nat) (xs : Nat → Int32) : Prop :=
  p.tables.exec = Jvm.exec ∧ c.code = code ∧ meth.sig.returnType = ret ∧ c.maxLocals = 13 ∧ s.vm.findClass R_law = some m.cls ∧ (∀ w ∈ lw_tbl, w.before #[Value.ref b] s = true) ∧ va_X b L xs s s.heap ∧ b < s.heap.size ∧ meth.locks = false ∧ (Jvm.Cond.and given_1 narrow_1).before #[Value.ref b] s = true
theorem xt_sref {s : State} {args : Array Value} {own tx : String} {k : Nat} (h : (Cond.stringRef own k tx).before args s = true) : ∃ a, vk_R own k tx a s := by
  have hcur : ∃ cur, s.vm.findClass own = some cur := by
    have h1 := h
    simp only [Cond.before, Cond.holds, Cond.value] at h1
    cases hc : s.vm.findClass own with
    | none => simp [hc] at h1
    | some cur => exact ⟨cur, rfl⟩
  obtain ⟨cur, hcur⟩ := hcur
  obtain ⟨k1, cf, i, a, -, -, -, -, -, hev⟩ := Cond.stringRef_spec hcur h
  exact ⟨a, vk_R.of h hev⟩
theorem xt_STin : ∀ q ∈ xt_ST, Cond.stringRef q.1 q.2.1 q.2.2 ∈ lw_tbl := by
  unfold xt_ST
  exact List.forall_mem_cons.mpr ⟨(List.mem_of_getElem? (i := 361) (by decide +kernel)),
  List.forall_mem_cons.mpr ⟨(List.mem_of_getElem? (i := 397) (by decide +kernel)),
  List.forall_mem_cons.mpr ⟨(List.mem_of_getElem? (i := 423) (by decide +kernel)),
  List.forall_mem_cons.mpr ⟨(List.mem_of_getElem? (i := 441) (by decide +kernel)),
  List.forall_mem_cons.mpr ⟨(List.mem_of_getElem? (i := 660) (by decide +kernel)),
  List.forall_mem_cons.mpr ⟨(List.mem_of_getElem? (i := 1029) (by decide +kernel)),
  List.forall_mem_cons.mpr ⟨(List.mem_of_getElem? (i := 1011) (by decide +kernel)),
  List.forall_mem_cons.mpr ⟨(List.mem_of_getElem? (i := 1038) (by decide +kernel)),
  List.forall_mem_cons.mpr ⟨(List.mem_of_getElem? (i := 1076) (by decide +kernel)),
  List.forall_mem_cons.mpr ⟨(List.mem_of_getElem? (i := 974) (by decide +kernel)),
  List.forall_mem_cons.mpr ⟨(List.mem_of_getElem? (i := 813) (by decide +kernel)),
  List.forall_mem_cons.mpr ⟨(List.mem_of_getElem? (i := 833) (by decide +kernel)),
  List.forall_mem_cons.mpr ⟨(List.mem_of_getElem? (i := 806) (by decide +kernel)),
  List.forall_mem_cons.mpr ⟨(List.mem_of_getElem? (i := 1051) (by decide +kernel)),
  List.forall_mem_cons.mpr ⟨(List.mem_of_getElem? (i := 831) (by decide +kernel)),
  List.forall_mem_cons.mpr ⟨(List.mem_of_getElem? (i := 891) (by decide +kernel)),
  List.forall_mem_cons.mpr ⟨(List.mem_of_getElem? (i := 932) (by decide +kernel)),
  fun _ h => absurd h List.not_mem_nil⟩⟩⟩⟩⟩⟩⟩⟩⟩⟩⟩⟩⟩⟩⟩⟩⟩
theorem xt_AOin : ∀ C ∈ xt_AO, Cond.arrayOver (.object C) ∈ lw_tbl := by
  unfold xt_AO
  exact List.forall_mem_cons.mpr ⟨(List.mem_of_getElem? (i := 125) (by decide +kernel)),
  fun _ h => absurd h List.not_mem_nil⟩
theorem xt_env {s : State} {b L : Nat} {xs : Nat → Int32} (hts : ∀ w ∈ lw_tbl, w.before #[Value.ref b] s = true) (hX : va_X b L xs s s.heap) (hbl : b < s.heap.size) (hgv : (Jvm.Cond.and given_1 narrow_1).before #[Value.ref b] s = true) :
    xr_Env (xt_T L xs) (fun q : Nat => s.heap.size ≤ q) b xt_ST xt_NC xt_AO s s.heap := by
  have hg := flat_of_before _ hgv
  have hA : ∀ a : Nat, a < s.heap.size → ¬ (fun q : Nat => s.heap.size ≤ q) a := fun a h => Nat.not_le.mpr h
  have hini : (Cond.initialized "java/lang/Throwable").before #[Value.ref b] s = true := hts _ (List.mem_of_getElem? (i := 63) (by decide +kernel))
  refine ⟨vx_Zqof (hts _ (List.mem_of_getElem? (i := 347) (by decide +kernel))) hini (hg _ (by decide +kernel)) hA, vx_Zqof (hts _ (List.mem_of_getElem? (i := 349) (by decide +kernel))) hini (hg _ (by decide +kernel)) hA, hX, hbl, hA b hbl, fun q hq => xt_sref (hts _ (xt_STin q hq)), ?_, fun C hC => va_AO.of (hts _ (xt_AOin C hC))⟩
  unfold xt_NC
  exact List.forall_mem_cons.mpr ⟨va_Nc.of (hg _ (by decide +kernel)),
  List.forall_mem_cons.mpr ⟨va_Nc.of (hg _ (by decide +kernel)),
  List.forall_mem_cons.mpr ⟨va_Nc.of (hg _ (by decide +kernel)),
  List.forall_mem_cons.mpr ⟨va_Nc.of (hg _ (by decide +kernel)),
  fun _ h => absurd h List.not_mem_nil⟩⟩⟩⟩
/-- the heap of the start -/
def xt_h0 : xrH := (0, 0, 0, fun _ => .inr (99, []))
theorem xt_known {s : State} {b : Nat} (hts : ∀ w ∈ lw_tbl, w.before #[Value.ref b] s = true) : ∃ D : va_G, ∀ (k : Nat) (q : vw_C), xt_cl[k]? = some q → u_Kn s q.1 q.2.1 q.2.2 (D.1 k) (D.2 k) := by
  obtain ⟨c0, iS0, hKn0⟩ := u_known (C := RX0) (T := TX0) (N := 2) (n := 2) hts (fun w hw => (xt_GW_ok w (xt_in 25 rfl hw)).1) (hts (.instantiable RX0 2) (xt_GW_ok _ (xt_in 1 rfl (List.mem_of_getElem? (i := 36) rfl))).1)
  obtain ⟨c1, iS1, hKn1⟩ := u_known (C := RX1) (T := TX1) (N := 2) (n := 2) hts (fun w hw => (xt_GW_ok w (xt_in 26 rfl hw)).1) (hts (.instantiable RX1 2) (xt_GW_ok _ (xt_in 4 rfl (List.mem_of_getElem? (i := 13) rfl))).1)
  obtain ⟨c2, iS2, hKn2⟩ := u_known (C := RX2) (T := TX2) (N := 3) (n := 3) hts (fun w hw => (xt_GW_ok w (xt_in 27 rfl hw)).1) (hts (.instantiable RX2 3) (xt_GW_ok _ (xt_in 4 rfl (List.mem_of_getElem? (i := 25) rfl))).1)
  obtain ⟨c3, iS3, hKn3⟩ := u_known (C := RX3) (T := TX3) (N := 8) (n := 8) hts (fun w hw => (xt_GW_ok w (xt_in 28 rfl hw)).1) (hts (.instantiable RX3 8) (xt_GW_ok _ (xt_in 3 rfl (List.mem_of_getElem? (i := 2) rfl))).1)
  obtain ⟨c4, iS4, hKn4⟩ := u_known (C := RX4) (T := TX4) (N := 6) (n := 6) hts (fun w hw => (xt_GW_ok w (xt_in 29 rfl hw)).1) (hts (.instantiable RX4 6) (xt_GW_ok _ (xt_in 2 rfl (List.mem_of_getElem? (i := 11) rfl))).1)
  obtain ⟨c5, iS5, hKn5⟩ := u_known (C := RX5) (T := TX5) (N := 11) (n := 11) hts (fun w hw => (xt_GW_ok w (xt_in 30 rfl hw)).1) (hts (.instantiable RX5 11) (xt_GW_ok _ (xt_in 2 rfl (List.mem_of_getElem? (i := 36) rfl))).1)
  obtain ⟨c6, iS6, hKn6⟩ := u_known (C := RX6) (T := TX6) (N := 5) (n := 5) hts (fun w hw => (xt_GW_ok w (xt_in 31 rfl hw)).1) (hts (.instantiable RX6 5) (xt_GW_ok _ (xt_in 2 rfl (List.mem_of_getElem? (i := 24) rfl))).1)
  obtain ⟨c7, iS7, hKn7⟩ := u_known (C := RX7) (T := TX7) (N := 21) (n := 21) hts (fun w hw => (xt_GW_ok w (xt_in 32 rfl hw)).1) (hts (.instantiable RX7 21) (xt_GW_ok _ (xt_in 6 rfl (List.mem_of_getElem? (i := 10) rfl))).1)
  obtain ⟨c8, iS8, hKn8⟩ := u_known (C := RX8) (T := TX8) (N := 12) (n := 12) hts (fun w hw => (xt_GW_ok w (xt_in 33 rfl hw)).1) (hts (.instantiable RX8 12) (xt_GW_ok _ (xt_in 1 rfl (List.mem_of_getElem? (i := 28) rfl))).1)
  refine ⟨(fun k => if k = 0 then c0 else if k = 1 then c1 else if k = 2 then c2 else if k = 3 then c3 else if k = 4 then c4 else if k = 5 then c5 else if k = 6 then c6 else if k = 7 then c7 else c8, fun k => if k = 0 then iS0 else if k = 1 then iS1 else if k = 2 then iS2 else if k = 3 then iS3 else if k = 4 then iS4 else if k = 5 then iS5 else if k = 6 then iS6 else if k = 7 then iS7 else iS8), ?_⟩
  intro k q hq
  match k, hq with
    | 0, hq => cases hq; exact hKn0
    | 1, hq => cases hq; exact hKn1
    | 2, hq => cases hq; exact hKn2
    | 3, hq => cases hq; exact hKn3
    | 4, hq => cases hq; exact hKn4
    | 5, hq => cases hq; exact hKn5
    | 6, hq => cases hq; exact hKn6
    | 7, hq => cases hq; exact hKn7
    | 8, hq => cases hq; exact hKn8
    | k + 9, hq => simp [xt_cl] at hq
set_option maxHeartbeats 4000000 in
/-- from the entry: a run of the runner to true is the law's own -/
theorem xt_start {p : Program} {e : Env} {s : State} {m : MethodId} {below : List Frame} {meth : Method} {c : Code} (l : Launch) (hflags : l.flags = flags0) {b L : Nat} {xs : Nat → Int32} (C0 : lw_At p s m meth c b L xs) (hname : meth.name = "law") (htab : c.exceptionTable.toList = [])
    {N : Nat} {h' : xrH} (hrun : xr_run (xt_T L xs) N 1000 0 0 (lv_args 0 [.retAddr 1]) [] xt_h0 = some (.inl (some (.int 1)), h')) (hc : h'.1 ≤ 600130) (hs : h'.2.1 ≤ 7301080) :
    W p l e room_1 s m #[Value.ref b] below meth c s.heap [] 0 0 (lw_Z below #[Value.ref b] s) (entryFrame m ([Value.ref b] : List Value).toArray 13) := by
  obtain ⟨hx, hb, hr, hml, hown, hts, hX, hbl, hlocks, hgv⟩ := id C0
  obtain ⟨D, hK0⟩ := xt_known hts
  have hE := xt_env hts hX hbl hgv
  have hl0 : l.stackTraces = false := by
    unfold Launch.stackTraces
    rw [hflags]
    decide +kernel
  have C : xr_Cx p l s m #[Value.ref b] meth c (xt_T L xs) (fun q : Nat => s.heap.size ≤ q) b xt_GW xt_ST xt_NC xt_AO xm_0 :=
    ⟨hx, hb, hml, hown, fun w hw => hts w (xt_GW_ok w hw).1, hname, hr, hlocks, htab, hE, hl0, fun _ h => h⟩
  have hl := lv_entry ([.ref b]) (n := 13) (Nat.le_of_ble_eq_true rfl)
  rw [lg_entry_eq]
  generalize (lg_sl ([.ref b]) ++ List.replicate (13 - (lg_sl ([.ref b])).length) Slot.unset).toArray = ls at hl ⊢
  have hl : lv_has ls 13 [(0, .ref b)] := hl
  have hW : xr_W (xt_T L xs) D (fun q : Nat => s.heap.size ≤ q) b xt_h0 [] s [] [] s.heap :=
    ⟨⟨hK0, fun k q h => by simp at h⟩, fun k q h => by simp at h, ⟨fun i j p q h => by simp at h, fun k q h => by simp at h⟩, rfl, rfl, fun a q e' h => by simp at h⟩
  refine xr_sim hl0 (xt_SF L xs) N p e room_1 s m #[Value.ref b] below meth c (lw_Z below #[Value.ref b] s) xm_0 0 1000 0 (lv_args 0 [.retAddr 1]) [] xt_h0 (.inl (some (.int 1))) h' [] 0 0 rfl C hrun (Nat.zero_le _) (Nat.zero_le _) ⟨hc, hs⟩ ⟨Nat.le_of_ble_eq_true rfl, Nat.le_of_ble_eq_true rfl⟩ ?_ ?_ s.heap [] [] [] [] ls [(0, .ref b)] [] (xr_le.rf _) hW va_S.rf hl ⟨rfl, rfl, trivial⟩ trivial
  · intro v i pc1 L1 st1 hv hend hd H locs ads ws tys ls1 L' st' g1 g2 g3 g4 g5 g6
    cases hv
    have hi : i = .ireturn ∧ st1 = [.int 1] := by
      unfold xr_end at hend
      split at hend
      · split at hend
        · cases hok : xr_okr (xr_rt xm_0) (.int _) with
          | false =>
            rw [hok] at hend
            cases hend
          | true =>
            rw [hok] at hend
            cases hend
            exact ⟨rfl, rfl⟩
        · cases hend
      · split at hend
        · rename_i z
          cases hok : xr_okr (xr_rt xm_0) (.long z) with
          | false =>
            rw [hok] at hend
            cases hend
          | true =>
            rw [hok] at hend
            cases hend
        · cases hend
      · split at hend
        · rename_i z
          cases hok : xr_okr (xr_rt xm_0) (.ref z) with
          | false =>
            rw [hok] at hend
            cases hend
          | true =>
            rw [hok] at hend
            cases hend
        · cases hok : xr_okr (xr_rt xm_0) .null with
          | false =>
            rw [hok] at hend
            cases hend
          | true =>
            rw [hok] at hend
            cases hend
        · cases hend
      · split at hend
        · split at hend
          · cases hend
          · cases hend
        · cases hend
      · cases hend
    obtain ⟨rfl, rfl⟩ := hi
    obtain ⟨v', r', rfl, hv1, hr1⟩ := g6.cons
    have hr2 := hr1.nil
    subst hr2
    have hv2 := hv1.int
    subst hv2
    refine va_forget (fun q hq => g3.2.2 q hq) ?_
    refine W.widen (k := 600130) (n := 7301080) hc hs ?_
    exact lw_ret hx hb hr hlocks hd
  · intro k hk
    cases hk
