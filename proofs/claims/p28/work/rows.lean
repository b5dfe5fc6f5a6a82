section
/-! ===== BEGIN words of one list among another's, by their places ===== -/
theorem goodIn_r {big : List Cond} (ws : List Cond) (ps : List Nat) (hp : ws = ps.filterMap (fun i => big[i]?)) (h : ws.all goodWord = true) : GoodIn big ws := by
  intro w hw
  have h1 := List.all_eq_true.mp h w hw
  rw [hp] at hw
  obtain ⟨i, -, hi⟩ := List.mem_filterMap.mp hw
  have hm : w ∈ big := by first | exact List.mem_of_getElem? hi | exact List.getElem?_mem hi
  exact ⟨hm, good_of_word h1⟩
theorem goodIn_app {big a b : List Cond} (ha : GoodIn big a) (hb : GoodIn big b) : GoodIn big (a ++ b) := fun w h => (List.mem_append.mp h).elim (ha w) (hb w)
theorem goodIn_ca {big a b : List Cond} {c : Cond} (ha : GoodIn big (c :: a)) (hb : GoodIn big b) : GoodIn big (c :: (a ++ b)) := fun w h => (List.mem_cons.mp h).elim (fun e => ha w (List.mem_cons.mpr (Or.inl e))) (fun h => (List.mem_append.mp h).elim (fun h => ha w (List.mem_cons.mpr (Or.inr h))) (hb w))
theorem goodIn_sub {big ws : List Cond} (hm : ∀ w ∈ ws, w ∈ big) (h : ws.all goodWord = true) : GoodIn big ws := fun w hw => ⟨hm w hw, good_of_word (List.all_eq_true.mp h w hw)⟩
/-! ===== END ===== -/

/-! ===== BEGIN exceptions that leave a method, and their catching by the caller (launches without stack traces) ===== -/
section VXA
/-! The laws vx_back, vx_callV, vx_callS, vx_callSW, vx_throw0, vx_throwS follow proofs of the library, with one case more: JvmDerived/Free/Laws.lean (Back.of_free), Shelf42/LK1.lean (callV, callS), Shelf/KitTraced.lean (throwNew0V, throwNewS). -/
/-- where a method has thrown q: the class by its name, the cell, what was written, the world -/
def vx_T (XC : String → State → State → Prop) (st : State) (q : Addr) (t : State) (mc ms : Nat) (free : Addr → Prop) : Prop :=
  ∃ (E : String) (ce : Cell) (L : List Loc), XC E st t ∧ t.heap[q]? = some ce ∧ ce.vm = .none ∧ st.vm.findClass E = some ce.cls ∧ st.WarmedH t.vm ∧ st.sameButNew ({ t with vm := st.vm } : State) L mc ms ∧ ∀ z ∈ L, free z.base
def vx_Q (Qc : Array Value → State → Outcome → State → Prop) (XC : String → State → State → Prop) (mc ms : Nat) (free : Addr → Prop) : Array Value → State → Outcome → State → Prop := fun a st o t =>
  (Qc a st o t ∧ ∃ L, FrameEnd st o t L mc ms ∧ ∀ q ∈ L, free q.base) ∨ ∃ q, o = .threw q ∧ vx_T XC st q t mc ms free
/-- a callee that returns or throws -/
def vx_Met (l : Launch) (y : MethodName) (ws : List Cond) (rm : Room) (Pc : Array Value → State → Prop) (Qc : Array Value → State → Outcome → State → Prop) (XC : String → State → State → Prop) (mc ms : Nat) (free : Addr → Prop) : Prop :=
  MetFree l y (headSpec ws rm) Pc (fun _ _ _ _ _ => True) (vx_Q Qc XC mc ms free)
def vx_Post (XC : String → State → State → Prop) (mc ms : Nat) (free : Addr → Prop) : Pt → Array Value → Addr → Pt → Prop := fun A a q B =>
  ∃ (g : JFrame) (mk : MethodId) (t : State) (L : List Loc) (E : String) (ce : Cell), B.U.heap = t.heap ∧ B.U.vm = t.vm ∧ XC E (A.U.calling g mk a) t ∧ t.heap[q]? = some ce ∧ ce.vm = .none ∧ A.U.vm.findClass E = some ce.cls ∧ B.locs = A.locs ++ L ∧ (∀ z ∈ L, free z.base) ∧ B.cells = A.cells + mc ∧ B.slots = A.slots + ms
def vx_Back (l : Launch) (R : Room) (p : Program) (e : Env) (below : List Frame) (s : State) (sargs : Array Value) (y : MethodName) (len W9 : Nat)
    (Pre : Pt → Array Value → Prop) (Post : Pt → Array Value → Option Value → Pt → Prop) (PostX : Pt → Array Value → Addr → Pt → Prop) : Prop :=
  ∀ (m : MethodId) (meth : Method) (c : Code) (A : Pt) (g : JFrame) (ig : Instr) (mk : MethodId) (a : Array Value),
    Stand p l e R s m sargs below meth c A.U A.locs A.cells A.slots → g.method = m → g.locals.size = c.maxLocals → decode c.code g.pc = .ok (ig, len) →
    2 * g.monitorRoom + (g.stack.map fun v => v.category).sum ≤ W9 → A.U.methodNamed? y = some mk → Pre A a →
    (∃ (v : Option Value) (B : Pt), Stand p l e R s m sargs below meth c B.U B.locs B.cells B.slots ∧ Post A a v B ∧
      Steps p.tables e below (doInvoke e (A.U.setTop g) [] mk a).1 (B.U.setTop { g with pc := g.pc + len, stack := v.toList ++ g.stack })) ∨
    (∃ (q : Addr) (B : Pt), Stand p l e R s m sargs below meth c B.U B.locs B.cells B.slots ∧ PostX A a q B ∧
      Steps p.tables e below (doInvoke e (A.U.setTop g) [] mk a).1 ((B.U.setTop g).pushFrame (.throwing q)))
section Payer
variable {l : Launch} {R : Room} {p : Program} {e : Env} {below : List Frame} {s : State} {sargs : Array Value} {y : MethodName} {len W9 : Nat}
theorem vx_back {ws : List Cond} {rm : Room} {Pc : Array Value → State → Prop} {Qc : Array Value → State → Outcome → State → Prop} {XC : String → State → State → Prop} {mc ms : Nat} {free : Addr → Prop} {bytes : ByteArray} {maxL : Nat} {ret : Option FieldType}
    (hM : vx_Met l y ws rm Pc Qc XC mc ms free) (hblind : FrameBlind Pc) (hrc : rm.cells = mc) (hrs : rm.slots = ms)
    (hframes : rm.frames + 1 ≤ R.frames) (hlocals : W9 + (maxL + 11) + rm.locals ≤ R.locals)
    (hws : ∀ w ∈ ws, ∀ a' U, s.WarmedH U.vm → w.before a' U = true) (hcode : Cond.code y bytes maxL ret ∈ ws) (hinit : ∀ a' U, s.WarmedH U.vm → (Cond.initialized y.cls).before a' U = true) :
    vx_Back l R p e below s sargs y len W9 (PreOf R mc ms Pc) (PostOf Qc mc ms free) (vx_Post XC mc ms free) := by
  intro m meth c A g ig mk a X hg hsize hdg hW hn hp
  have h1 : (headSpec ws rm).pre.before a A.U = true := atoms_intro fun w hw => hws w hw _ _ X.warmed
  have h2 : (Cond.code y bytes maxL ret).before a A.U = true := hws _ hcode _ _ X.warmed
  have h3 : (Cond.initialized y.cls).before a A.U = true := hinit _ _ X.warmed
  have h4 : A.cells + (headSpec ws rm).room.cells ≤ R.cells := by rw [show (headSpec ws rm).room.cells = mc from hrc]; exact hp.1
  have h5 : A.slots + (headSpec ws rm).room.slots ≤ R.slots := by rw [show (headSpec ws rm).room.slots = ms from hrs]; exact hp.2.1
  have hPc : Pc a (A.U.calling g mk a) := hblind _ _ _ _ hp.2.2
  obtain ⟨U, Ls, c0, s0⟩ := A
  dsimp only [Pt.U, Pt.locs, Pt.cells, Pt.slots] at h1 h2 h3 h4 h5 X hn hPc ⊢
  obtain ⟨methY, cY, hmY, hcY, -, hlY, -, -, -, -⟩ := Cond.code_spec hn h2
  obtain ⟨kY, hkY, -⟩ := className_of_methodNamed hn
  have hinitY : kY.init = .initialized := Cond.initialized_spec (findClass_of_methodNamed hn) hkY h3
  have h : At U g.method c below := by rw [hg]; exact X.here
  have hlocals9 : W9 + (maxL + 11) + (headSpec ws rm).room.locals ≤ R.locals := hlocals
  have happ : (headSpec ws rm).appliesLoose y e.platform (U.calling g mk a) = true :=
    Spec.appliesLoose_calling (g := g) h hdg hn hkY hinitY
      (X.room_calling (g := g) (R' := (headSpec ws rm).room) hsize hmY hcY hframes (by rw [hlY]; omega) h4 h5) h1
  obtain ⟨mid, hmid⟩ := h.above
  have hfr : (U.setTop g).frames = (.java g :: mid) ++ below := by rw [State.frames_setTop' g h.top, hmid]; rfl
  obtain ⟨o, s₂, hsteps, -, hend, hq⟩ := Steps.callFree hM p X.admits X.cas X.clock (acts := []) hfr happ hPc trivial
  have hq' : vx_Q Qc XC mc ms free a (U.calling g mk a) o s₂ := hq
  rw [State.frames_setTop' g h.top] at hend
  obtain ⟨g₀, hg0⟩ := Option.isSome_iff_exists.mp h.top
  obtain ⟨r, hr⟩ := State.topJava?_eq_some.mp hg0
  have hr' : (({ U with heap := s₂.heap, slotsUsed := s₂.slotsUsed } : State).setVm s₂.vm).frames = .java g₀ :: r := hr
  rcases hq' with ⟨hqc, L, hfe, hL⟩ | ⟨q, rfl, E, ce, L, hx, hce, hcv, hcl, hW₂, hsm, hL⟩
  · obtain ⟨⟨v, rfl⟩, hW₂, e2, q2, q3, q4, q5, q6⟩ := id hfe
    have e3 : s₂ = ({ (U.calling g mk a).setFrames s₂.frames with heap := s₂.heap, slotsUsed := s₂.slotsUsed } : State).setVm s₂.vm := by
      have : s₂ = ({ s₂ with vm := (U.calling g mk a).vm } : State).setVm s₂.vm := rfl
      rw [e2] at this
      exact this
    obtain ⟨c₂, i₂, len₂, hc₂, hd₂, hf₂⟩ := hend
    have hW' : U.WarmedH s₂.vm := hW₂
    have hcc : c₂ = c := by
      have h1 : s₂.code? g.method = U.code? g.method := by
        rw [State.code?_eq, State.code?_eq, hW'.alike.method?]
      exact Option.some.inj (hc₂.symm.trans (h1.trans h.code))
    subst hcc
    have hlen : len₂ = len := by rw [hdg] at hd₂; cases hd₂; rfl
    subst hlen
    have hs₂ : s₂ = (({ U with heap := s₂.heap, slotsUsed := s₂.slotsUsed } : State).setVm s₂.vm).setTop { g with pc := g.pc + len₂, stack := v.toList ++ g.stack } := by
      refine e3.trans ?_
      rw [hf₂, State.calling_eq h.top, State.setFrames_setFrames, State.setTop_of_frames _ hr', hr]
      rfl
    have hsame : U.sameButNew ({ U with heap := s₂.heap, slotsUsed := s₂.slotsUsed } : State) L mc ms := by
      refine ⟨?_, q2, q3, q4, q5, q6⟩
      obtain ⟨t, ht, -⟩ := State.frames_cons hr
      show ({ U with heap := s₂.heap, slotsUsed := s₂.slotsUsed } : State) = { U.setFrames U.frames with heap := s₂.heap, slotsUsed := s₂.slotsUsed }
      rw [State.setFrames_self ht]
    subst hg
    refine Or.inl ⟨v, ⟨(({ U with heap := s₂.heap, slotsUsed := s₂.slotsUsed } : State).setVm s₂.vm), Ls ++ L, c0 + mc, s0 + ms⟩,
      ⟨X.admits, X.cas, X.clock, X.frames, X.room, X.hears, X.method, X.code, (X.here.setHeapUsed s₂.heap s₂.slotsUsed).setVm hW'.alike, X.tail, State.WarmedH.trans X.warmed hW', X.limits, X.bytes, X.same.trans (hsame.setVm s.vm)⟩,
      ⟨g, mk, s₂, L, rfl, rfl, hqc, rfl, hL, rfl, rfl⟩, ?_⟩
    show Steps p.tables e below _ ((({ U with heap := s₂.heap, slotsUsed := s₂.slotsUsed } : State).setVm s₂.vm).setTop { g with pc := g.pc + len₂, stack := v.toList ++ g.stack })
    rw [← hs₂]
    exact hsteps
  · obtain ⟨e2, q2, q3, q4, q5, q6⟩ := id hsm
    have e3 : s₂ = ({ (U.calling g mk a).setFrames s₂.frames with heap := s₂.heap, slotsUsed := s₂.slotsUsed } : State).setVm s₂.vm := by
      have : s₂ = ({ s₂ with vm := (U.calling g mk a).vm } : State).setVm s₂.vm := rfl
      rw [e2] at this
      exact this
    have hf₂ : s₂.frames = .throwing q :: .java g :: U.frames.tail := hend
    have hW' : U.WarmedH s₂.vm := hW₂
    have hs₂ : s₂ = ((({ U with heap := s₂.heap, slotsUsed := s₂.slotsUsed } : State).setVm s₂.vm).setTop g).pushFrame (.throwing q) := by
      refine e3.trans ?_
      rw [hf₂, State.calling_eq h.top, State.setFrames_setFrames, State.pushFrame, State.frames_setTop _ hr', State.setTop_of_frames _ hr', State.setFrames_setFrames, hr]
      rfl
    have hsame : U.sameButNew ({ U with heap := s₂.heap, slotsUsed := s₂.slotsUsed } : State) L mc ms := by
      refine ⟨?_, q2, q3, q4, q5, q6⟩
      obtain ⟨t, ht, -⟩ := State.frames_cons hr
      show ({ U with heap := s₂.heap, slotsUsed := s₂.slotsUsed } : State) = { U.setFrames U.frames with heap := s₂.heap, slotsUsed := s₂.slotsUsed }
      rw [State.setFrames_self ht]
    subst hg
    refine Or.inr ⟨q, ⟨(({ U with heap := s₂.heap, slotsUsed := s₂.slotsUsed } : State).setVm s₂.vm), Ls ++ L, c0 + mc, s0 + ms⟩,
      ⟨X.admits, X.cas, X.clock, X.frames, X.room, X.hears, X.method, X.code, (X.here.setHeapUsed s₂.heap s₂.slotsUsed).setVm hW'.alike, X.tail, State.WarmedH.trans X.warmed hW', X.limits, X.bytes, X.same.trans (hsame.setVm s.vm)⟩,
      ⟨g, mk, s₂, L, E, ce, rfl, rfl, hx, hce, hcv, hcl, rfl, hL, rfl, rfl⟩, ?_⟩
    show Steps p.tables e below _ (((({ U with heap := s₂.heap, slotsUsed := s₂.slotsUsed } : State).setVm s₂.vm).setTop g).pushFrame (.throwing q))
    rw [← hs₂]
    exact hsteps
end Payer
section Calls
variable {p : Program} {l : Launch} {e : Env} {R : Room} {s : State} {m : MethodId} {args : Array Value} {below : List Frame} {meth : Method} {c : Code} {T : State} {locs : List Loc} {cells slots : Nat}
theorem vx_callV (X : Stand p l e R s m args below meth c T locs cells slots) (hexec : p.tables.exec = Jvm.exec) {own C : String} {index : Nat} {y : MethodName} {bytes : ByteArray} {maxL : Nat} {ret : Option FieldType}
    (hown : s.vm.findClass own = some m.cls) (hlink : (Cond.methodLink own index y).before args s = true) (hinst : (Cond.instanceMethod y).before args s = true) (hsel : (Cond.selects C y y).before args s = true)
    (hcode : (Cond.code y bytes maxL ret).before args s = true) (hy : y.cls ≠ "java/lang/invoke/MethodHandle" ∧ y.cls ≠ "java/lang/invoke/VarHandle")
    {W9 : Nat} {Pre : Pt → Array Value → Prop} {Post : Pt → Array Value → Option Value → Pt → Prop} {PostX : Pt → Array Value → Addr → Pt → Prop} (hK : vx_Back l R p e below s args y 3 W9 Pre Post PostX)
    {b : Addr} {cellB : Cell} (hcell : T.heap[b]? = some cellB) (hobj : cellB.vm.isStatics = false) (hcls : s.vm.findClass C = some cellB.cls)
    {g : JFrame} (hg : g.method = m) (hsize : g.locals.size = c.maxLocals) {argsL rest : List Value} (hlen : ∀ sig, parseMethodDescriptor y.desc = some sig → argsL.length = sig.parameters.length)
    (hstack : g.stack = argsL.reverse ++ .ref b :: rest) (hW : 2 * g.monitorRoom + (rest.map fun v => v.category).sum ≤ W9) (hdg : decode c.code g.pc = .ok (.invokevirtual index, 3))
    (hpre : ∀ vm₁, s.WarmedH vm₁ → Pre ⟨T.setVm vm₁, locs, cells, slots⟩ (Value.ref b :: argsL).toArray) :
    (∃ (v : Option Value) (vm₁ : Vm) (B : Pt), s.WarmedH vm₁ ∧ Stand p l e R s m args below meth c B.U B.locs B.cells B.slots ∧ Post ⟨T.setVm vm₁, locs, cells, slots⟩ (Value.ref b :: argsL).toArray v B ∧
      ∀ target, Steps p.tables e below (B.U.setTop { g with pc := g.pc + 3, stack := v.toList ++ rest }) target → Steps p.tables e below (T.setTop g) target) ∨
    (∃ (q : Addr) (vm₁ : Vm) (B : Pt), s.WarmedH vm₁ ∧ Stand p l e R s m args below meth c B.U B.locs B.cells B.slots ∧ PostX ⟨T.setVm vm₁, locs, cells, slots⟩ (Value.ref b :: argsL).toArray q B ∧
      Steps p.tables e below (T.setTop g) ((B.U.setTop { g with stack := rest }).pushFrame (.throwing q))) := by
  obtain ⟨mk, methM, hnamed, hmethM, hstM, habM⟩ := Cond.instanceMethod_spec hinst
  obtain ⟨methM', cM, hmethM', -, -, -, -, -, -, hsigM⟩ := Cond.code_spec hnamed hcode
  cases hmethM.symm.trans hmethM'
  obtain ⟨c2, r2, m2, q1, q2, q3, q4, kP, hkP, hkPi⟩ := Cond.selects_spec hsel
  cases hcls.symm.trans q1
  cases (State.methodFound?_of_named hnamed hy).symm.trans q2
  cases hnamed.symm.trans q3
  have hselP : selectMethod e.platform s.vm cellB.cls mk = .method mk := by rw [Launch.admits_selectMethod X.admits]; exact q4
  obtain ⟨vm₁, X₁, hstep₁⟩ := X.invokevirtual hexec hown hlink hnamed hmethM hstM hkP hkPi hy (a := b) (cell := cellB) hcell
    (fun z h => by rw [h] at hobj; cases hobj) hselP hmethM habM hkP hkPi (g := g) hg (argsL := argsL) (rest := rest) (hlen _ hsigM) hstack hdg
  rcases hK m meth c ⟨T.setVm vm₁, locs, cells, slots⟩ { g with stack := rest } (.invokevirtual index) mk (Value.ref b :: argsL).toArray X₁ hg hsize hdg hW (X₁.named hnamed) (hpre vm₁ X₁.warmed) with ⟨v, B, X', hpost, hsteps⟩ | ⟨q, B, X', hpost, hsteps⟩
  · exact Or.inl ⟨v, vm₁, B, X₁.warmed, X', hpost, fun target h => hstep₁ _ fun acts => by rw [doInvoke_state]; exact hsteps.trans h⟩
  · exact Or.inr ⟨q, vm₁, B, X₁.warmed, X', hpost, hstep₁ _ fun acts => by rw [doInvoke_state]; exact hsteps⟩
theorem vx_callS (X : Stand p l e R s m args below meth c T locs cells slots) (hexec : p.tables.exec = Jvm.exec) {own : String} {index : Nat} {y : MethodName} {bytes : ByteArray} {maxL : Nat} {ret : Option FieldType}
    (hown : s.vm.findClass own = some m.cls) (hlink : (Cond.methodLink own index y).before args s = true) (hstat : (Cond.static y).before args s = true) (hinit : (Cond.initialized y.cls).before args s = true)
    (hcode : (Cond.code y bytes maxL ret).before args s = true) (hy : y.cls ≠ "java/lang/invoke/MethodHandle" ∧ y.cls ≠ "java/lang/invoke/VarHandle")
    {W9 : Nat} {Pre : Pt → Array Value → Prop} {Post : Pt → Array Value → Option Value → Pt → Prop} {PostX : Pt → Array Value → Addr → Pt → Prop} (hK : vx_Back l R p e below s args y 3 W9 Pre Post PostX)
    {g : JFrame} (hg : g.method = m) (hsize : g.locals.size = c.maxLocals) {argsL rest : List Value} (hlen : ∀ sig, parseMethodDescriptor y.desc = some sig → argsL.length = sig.parameters.length)
    (hstack : g.stack = argsL.reverse ++ rest) (hW : 2 * g.monitorRoom + (rest.map fun v => v.category).sum ≤ W9) (hdg : decode c.code g.pc = .ok (.invokestatic index, 3))
    (hpre : ∀ vm₁, s.WarmedH vm₁ → Pre ⟨T.setVm vm₁, locs, cells, slots⟩ argsL.toArray) :
    (∃ (v : Option Value) (vm₁ : Vm) (B : Pt), s.WarmedH vm₁ ∧ Stand p l e R s m args below meth c B.U B.locs B.cells B.slots ∧ Post ⟨T.setVm vm₁, locs, cells, slots⟩ argsL.toArray v B ∧
      ∀ target, Steps p.tables e below (B.U.setTop { g with pc := g.pc + 3, stack := v.toList ++ rest }) target → Steps p.tables e below (T.setTop g) target) ∨
    (∃ (q : Addr) (vm₁ : Vm) (B : Pt), s.WarmedH vm₁ ∧ Stand p l e R s m args below meth c B.U B.locs B.cells B.slots ∧ PostX ⟨T.setVm vm₁, locs, cells, slots⟩ argsL.toArray q B ∧
      Steps p.tables e below (T.setTop g) ((B.U.setTop { g with stack := rest }).pushFrame (.throwing q))) := by
  obtain ⟨mk, hnamed⟩ := Cond.code_named hcode
  obtain ⟨methM, cM, hmethM, -, -, -, -, -, -, hsigM⟩ := Cond.code_spec hnamed hcode
  have hstatic : methM.isStatic = true := Cond.static_spec hnamed hmethM hstat
  obtain ⟨kP, hkP, -⟩ := className_of_methodNamed hnamed
  have hinitP : kP.init = .initialized := Cond.initialized_spec (findClass_of_methodNamed hnamed) hkP hinit
  obtain ⟨vm₁, X₁, hstep₁⟩ := X.invokestatic hexec hown hlink hnamed hmethM hstatic hkP hinitP hy (g := g) hg (argsL := argsL) (rest := rest) (hlen _ hsigM) hstack hdg
  rcases hK m meth c ⟨T.setVm vm₁, locs, cells, slots⟩ { g with stack := rest } (.invokestatic index) mk argsL.toArray X₁ hg hsize hdg hW (X₁.named hnamed) (hpre vm₁ X₁.warmed) with ⟨v, B, X', hpost, hsteps⟩ | ⟨q, B, X', hpost, hsteps⟩
  · exact Or.inl ⟨v, vm₁, B, X₁.warmed, X', hpost, fun target h => hstep₁ _ fun acts => by rw [doInvoke_state]; exact hsteps.trans h⟩
  · exact Or.inr ⟨q, vm₁, B, X₁.warmed, X', hpost, hstep₁ _ fun acts => by rw [doInvoke_state]; exact hsteps⟩
end Calls
theorem vx_cls {s : State} {T : State} {vm₁ : Vm} {E : String} {k : ClassId} (hW : s.WarmedH vm₁) (h : (T.setVm vm₁).vm.findClass E = some k) : s.vm.findClass E = some k := by
  have h1 : vm₁.findClass E = some k := h
  rw [hW.alike.findClass] at h1
  exact h1
/-- the method's frame g, with q thrown over it -/
def vx_W (p : Program) (l : Launch) (e : Env) (R : Room) (s : State) (m : MethodId) (args : Array Value) (below : List Frame) (meth : Method) (c : Code) (H : Heap) (locs : List Loc) (cells slots : Nat) (Q : State → Prop) (g : JFrame) (q : Addr) : Prop :=
  ∀ T : State, T.heap = H → Stand p l e R s m args below meth c T locs cells slots → ∃ t, Steps p.tables e below ((T.setTop g).pushFrame (.throwing q)) t ∧ Q t
def vx_Run (p : Program) (l : Launch) (e : Env) (R : Room) (s : State) (m : MethodId) (args : Array Value) (below : List Frame) (meth : Method) (c : Code) (H : Heap) (locs : List Loc) (cells slots mc ms : Nat) (g : JFrame) (rest : List Value) (Qa : State → Outcome → State → Prop) (XC : String → State → State → Prop) (free : Addr → Prop) : Prop :=
  ∀ T : State, T.heap = H → Stand p l e R s m args below meth c T locs cells slots →
    (∃ (v : Option Value) (st₀ t T' : State) (L : List Loc), st₀.heap = H ∧ Stand p l e R s m args below meth c T' (locs ++ L) (cells + mc) (slots + ms) ∧ (∀ q ∈ L, free q.base) ∧ T'.heap = t.heap ∧ T'.vm = t.vm ∧ Qa st₀ (.returned v) t ∧
      Goes p e below T g T' { g with pc := g.pc + 3, stack := v.toList ++ rest }) ∨
    (∃ (q : Addr) (st₀ t T' : State) (L : List Loc) (E : String) (ce : Cell), st₀.heap = H ∧ Stand p l e R s m args below meth c T' (locs ++ L) (cells + mc) (slots + ms) ∧ (∀ z ∈ L, free z.base) ∧ T'.heap = t.heap ∧ T'.vm = t.vm ∧ XC E st₀ t ∧ t.heap[q]? = some ce ∧ ce.vm = .none ∧ s.vm.findClass E = some ce.cls ∧
      Steps p.tables e below (T.setTop g) ((T'.setTop { g with stack := rest }).pushFrame (.throwing q)))
def vx_X {S : Type} (px : S → Prop) (B : String → S → State → Prop) (A : Nat → Prop) : String → State → State → Prop := fun E st t => ∃ u : S, px u ∧ B E u t ∧ va_F A st t
section Runs
variable {p : Program} {l : Launch} {e : Env} {R : Room} {s : State} {m : MethodId} {args : Array Value} {below : List Frame} {meth : Method} {c : Code} {H : Heap} {locs : List Loc} {cells slots : Nat}
variable {y : MethodName} {bytes cc : ByteArray} {maxL nL mc ms n index : Nat} {ret : Option FieldType} {ws : List Cond} {rm : Room} {Pc : Array Value → State → Prop} {Qc : Array Value → State → Outcome → State → Prop} {XC : String → State → State → Prop} {free : Addr → Prop} {Ts : List Cond} {own C : String} {b : Addr} {As rest : List Value} {g : JFrame}
theorem vx_callBack (cb : CallB R s args own index y bytes maxL ret ws rm mc ms n) (hM : vx_Met l y ws rm Pc Qc XC mc ms free) (hbl : FrameBlind Pc) : vx_Back l R p e below s args y 3 8 (PreOf R mc ms Pc) (PostOf Qc mc ms free) (vx_Post XC mc ms free) := by
  obtain ⟨hrc, hrs, hfr, hlo, hws, hcw, -, hini, -⟩ := cb
  exact vx_back (bytes := bytes) (maxL := maxL) (ret := ret) hM hbl hrc hrs hfr hlo hws hcw (fun a' U hW => word_at hW (Or.inl (by first | rfl | simp [Cond.onTables, Cond.keeps, Cond.steady])) hini)
theorem vx_runV (S : CallFix p m c cc nL s args Ts own) (hM : vx_Met l y ws rm Pc Qc XC mc ms free) (cw : CallW R s args own C index y bytes maxL ret ws rm mc ms n) (hp : PreV s H C b Pc As)
    (hg : g.method = m) (hn : As.length = n) (hsize : g.locals.size = nL) (hstack : g.stack = As.reverse ++ .ref b :: rest) (hW : 2 * g.monitorRoom + (rest.map fun v => v.category).sum ≤ 8) (hdg : decode cc g.pc = .ok (.invokevirtual index, 3)) (hf : cells + mc ≤ R.cells ∧ slots + ms ≤ R.slots) :
    vx_Run p l e R s m args below meth c H locs cells slots mc ms g rest (Qc (Value.ref b :: As).toArray) XC free := by
  have hK : vx_Back l R p e below s args y 3 8 (PreOf R mc ms Pc) (PostOf Qc mc ms free) (vx_Post XC mc ms free) := vx_callBack cw.1 hM hp.1
  obtain ⟨⟨-, -, -, -, -, -, hcode, -, hy, hlen, hl⟩, hin, hse⟩ := cw
  obtain ⟨hx, hb, hml, ho, -⟩ := S
  obtain ⟨-, ⟨cellB, hcB, hoB, hclB⟩, hPc⟩ := hp
  intro T hT X
  rcases vx_callV X hx (C := C) (bytes := bytes) (maxL := maxL) (ret := ret) ho hl hin hse hcode hy hK (by rw [hT]; exact hcB) hoB hclB hg (hsize.trans hml.symm) (argsL := As) (rest := rest) (fun sig h => hn.trans (hlen sig h)) hstack hW (by rw [hb]; exact hdg)
    (fun vm₁ hW₁ => ⟨hf.1, hf.2, hPc (T.setVm vm₁) hT hW₁⟩) with ⟨v, vm₁, ⟨U', l2, c2, s2⟩, hW₁, X', ⟨g', mk, t, L, e1, e2, hq, h1, hL, h2, h3⟩, st⟩ | ⟨q, vm₁, ⟨U', l2, c2, s2⟩, hW₁, X', ⟨g', mk, t, L, E, ce, e1, e2, hq, hce, hcv, hcl, h1, hL, h2, h3⟩, st⟩
  · dsimp only [Pt.U, Pt.locs, Pt.cells, Pt.slots] at X' e1 e2 h1 h2 h3 st
    subst h1; subst h2; subst h3
    exact Or.inl ⟨v, (T.setVm vm₁).calling g' mk (Value.ref b :: As).toArray, t, U', L, hT, X', hL, e1, e2, hq, st⟩
  · dsimp only [Pt.U, Pt.locs, Pt.cells, Pt.slots] at X' e1 e2 h1 h2 h3 st hcl
    subst h1; subst h2; subst h3
    exact Or.inr ⟨q, (T.setVm vm₁).calling g' mk (Value.ref b :: As).toArray, t, U', L, E, ce, hT, X', hL, e1, e2, hq, hce, hcv, vx_cls hW₁ hcl, st⟩
theorem vx_runS (S : CallFix p m c cc nL s args Ts own) (hM : vx_Met l y ws rm Pc Qc XC mc ms free) (cw : CallB R s args own index y bytes maxL ret ws rm mc ms n ∧ (Cond.static y).before args s = true) (hp : PreS s H Pc As)
    (hg : g.method = m) (hn : As.length = n) (hsize : g.locals.size = nL) (hstack : g.stack = As.reverse ++ rest) (hW : 2 * g.monitorRoom + (rest.map fun v => v.category).sum ≤ 8) (hdg : decode cc g.pc = .ok (.invokestatic index, 3)) (hf : cells + mc ≤ R.cells ∧ slots + ms ≤ R.slots) :
    vx_Run p l e R s m args below meth c H locs cells slots mc ms g rest (Qc As.toArray) XC free := by
  have hK : vx_Back l R p e below s args y 3 8 (PreOf R mc ms Pc) (PostOf Qc mc ms free) (vx_Post XC mc ms free) := vx_callBack cw.1 hM hp.1
  obtain ⟨⟨-, -, -, -, -, -, hcode, hini, hy, hlen, hl⟩, hstt⟩ := cw
  obtain ⟨hx, hb, hml, ho, -⟩ := S
  intro T hT X
  rcases vx_callS X hx (bytes := bytes) (maxL := maxL) (ret := ret) ho hl hstt hini hcode hy hK hg (hsize.trans hml.symm) (argsL := As) (rest := rest) (fun sig h => hn.trans (hlen sig h)) hstack hW (by rw [hb]; exact hdg)
    (fun vm₁ hW₁ => ⟨hf.1, hf.2, hp.2 (T.setVm vm₁) hT hW₁⟩) with ⟨v, vm₁, ⟨U', l2, c2, s2⟩, hW₁, X', ⟨g', mk, t, L, e1, e2, hq, h1, hL, h2, h3⟩, st⟩ | ⟨q, vm₁, ⟨U', l2, c2, s2⟩, hW₁, X', ⟨g', mk, t, L, E, ce, e1, e2, hq, hce, hcv, hcl, h1, hL, h2, h3⟩, st⟩
  · dsimp only [Pt.U, Pt.locs, Pt.cells, Pt.slots] at X' e1 e2 h1 h2 h3 st
    subst h1; subst h2; subst h3
    exact Or.inl ⟨v, (T.setVm vm₁).calling g' mk As.toArray, t, U', L, hT, X', hL, e1, e2, hq, st⟩
  · dsimp only [Pt.U, Pt.locs, Pt.cells, Pt.slots] at X' e1 e2 h1 h2 h3 st hcl
    subst h1; subst h2; subst h3
    exact Or.inr ⟨q, (T.setVm vm₁).calling g' mk As.toArray, t, U', L, E, ce, hT, X', hL, e1, e2, hq, hce, hcv, vx_cls hW₁ hcl, st⟩
end Runs
section Rows
variable {p : Program} {l : Launch} {e : Env} {R : Room} {s : State} {m : MethodId} {args : Array Value} {below : List Frame} {meth : Method} {c : Code} {H : Heap} {locs : List Loc} {cells slots : Nat} {Q : State → Prop}
variable {mc ms : Nat} {free : Addr → Prop} {A0 A1 : Nat → Prop} {H0 : Heap} {a : Array Value} {pc : Nat} {ls : Array Slot} {st0 rest : List Value}
theorem vx_keep {st₀ t T' : State} {L : List Loc} (h0 : st₀.heap = H) (e1 : T'.heap = t.heap) (hS : va_S A0 H0 H locs) (hA : ∀ q, q < H.size → A1 q → A0 q) (hf : ∀ q, free q → A0 q) (hL : ∀ q ∈ L, free q.base) (hF : va_F A1 st₀ t) :
    H.size ≤ T'.heap.size ∧ (∀ q : Nat, q < H.size → ¬ A1 q → T'.heap[q]? = H[q]?) ∧ va_S A0 H0 T'.heap (locs ++ L) := by
  obtain ⟨hz, hk⟩ := hF
  rw [h0] at hz hk
  exact ⟨by rw [e1]; exact hz, fun q h1 h2 => by rw [e1]; exact hk q h1 h2,
    ⟨Nat.le_trans hS.1 (by rw [e1]; exact hz), fun q h1 h2 => by rw [e1, hk q (Nat.lt_of_lt_of_le h1 hS.1) (fun z => h2 (hA q (Nat.lt_of_lt_of_le h1 hS.1) z))]; exact hS.2.1 q h1 h2, fun q hq => by
      rcases List.mem_append.mp hq with h | h
      · exact hS.2.2 q h
      · exact hf _ (hL q h)⟩⟩
theorem vx_calli {S SX : Type} {post : Int32 → S → Prop} {px : SX → Prop} {B : S → State → Prop} {BX : String → SX → State → Prop} {AX : Nat → Prop} (hr : vx_Run p l e R s m args below meth c H locs cells slots mc ms (F0 m pc ls st0) rest (va_Qi post B A1 a) (vx_X px BX AX) free) (hS : va_S A0 H0 H locs) (hA : ∀ q, q < H.size → A1 q → A0 q) (hf : ∀ q, free q → A0 q) (hAX : ∀ q, q < H.size → AX q → A0 q)
    (kx : ∀ (E : String) (ce : Cell) (q9 : Addr) (u : SX) (t : State) (H1 : Heap) (locs1 : List Loc), t.heap = H1 → s.vm.Alike t.vm → px u → BX E u t → H.size ≤ H1.size → (∀ q : Nat, q < H.size → ¬ AX q → H1[q]? = H[q]?) → va_S A0 H0 H1 locs1 → H1[q9]? = some ce → ce.vm = .none → s.vm.findClass E = some ce.cls → vx_W p l e R s m args below meth c H1 locs1 (cells + mc) (slots + ms) Q (F0 m pc ls rest) q9)
    (kk : ∀ (r : Int32) (u : S) (t : State) (H1 : Heap) (locs1 : List Loc), t.heap = H1 → s.vm.Alike t.vm → post r u → B u t → H.size ≤ H1.size → (∀ q : Nat, q < H.size → ¬ A1 q → H1[q]? = H[q]?) → va_S A0 H0 H1 locs1 → W p l e R s m args below meth c H1 locs1 (cells + mc) (slots + ms) Q (F0 m (pc + 3) ls (.int r :: rest))) : W p l e R s m args below meth c H locs cells slots Q (F0 m pc ls st0) := by
  intro T hT X
  rcases hr T hT X with ⟨v, st₀, t, T', L, h0, X', hL, e1, e2, ⟨⟨r, u, hv, hp, hb⟩, hF⟩, st⟩ | ⟨q, st₀, t, T', L, E, ce, h0, X', hL, e1, e2, ⟨u, hp, hb, hF⟩, hce, hcv, hcl, st⟩
  · cases hv
    obtain ⟨k1, k2, k3⟩ := vx_keep h0 e1 hS hA hf hL hF
    obtain ⟨t2, a1, b1⟩ := kk r u t T'.heap (locs ++ L) e1.symm (by rw [← e2]; exact X'.warmed.alike) hp hb k1 k2 k3 T' rfl X'
    exact ⟨t2, st t2 a1, b1⟩
  · obtain ⟨k1, k2, k3⟩ := vx_keep h0 e1 hS hAX hf hL hF
    obtain ⟨t2, a1, b1⟩ := kx E ce q u t T'.heap (locs ++ L) e1.symm (by rw [← e2]; exact X'.warmed.alike) hp hb k1 k2 k3 (by rw [e1]; exact hce) hcv hcl T' rfl X'
    exact ⟨t2, st.trans a1, b1⟩
theorem vx_calll {S SX : Type} {post : Int64 → S → Prop} {px : SX → Prop} {B : S → State → Prop} {BX : String → SX → State → Prop} {AX : Nat → Prop} (hr : vx_Run p l e R s m args below meth c H locs cells slots mc ms (F0 m pc ls st0) rest (va_Ql post B A1 a) (vx_X px BX AX) free) (hS : va_S A0 H0 H locs) (hA : ∀ q, q < H.size → A1 q → A0 q) (hf : ∀ q, free q → A0 q) (hAX : ∀ q, q < H.size → AX q → A0 q)
    (kx : ∀ (E : String) (ce : Cell) (q9 : Addr) (u : SX) (t : State) (H1 : Heap) (locs1 : List Loc), t.heap = H1 → s.vm.Alike t.vm → px u → BX E u t → H.size ≤ H1.size → (∀ q : Nat, q < H.size → ¬ AX q → H1[q]? = H[q]?) → va_S A0 H0 H1 locs1 → H1[q9]? = some ce → ce.vm = .none → s.vm.findClass E = some ce.cls → vx_W p l e R s m args below meth c H1 locs1 (cells + mc) (slots + ms) Q (F0 m pc ls rest) q9)
    (kk : ∀ (r : Int64) (u : S) (t : State) (H1 : Heap) (locs1 : List Loc), t.heap = H1 → s.vm.Alike t.vm → post r u → B u t → H.size ≤ H1.size → (∀ q : Nat, q < H.size → ¬ A1 q → H1[q]? = H[q]?) → va_S A0 H0 H1 locs1 → W p l e R s m args below meth c H1 locs1 (cells + mc) (slots + ms) Q (F0 m (pc + 3) ls (.long r :: rest))) : W p l e R s m args below meth c H locs cells slots Q (F0 m pc ls st0) := by
  intro T hT X
  rcases hr T hT X with ⟨v, st₀, t, T', L, h0, X', hL, e1, e2, ⟨⟨r, u, hv, hp, hb⟩, hF⟩, st⟩ | ⟨q, st₀, t, T', L, E, ce, h0, X', hL, e1, e2, ⟨u, hp, hb, hF⟩, hce, hcv, hcl, st⟩
  · cases hv
    obtain ⟨k1, k2, k3⟩ := vx_keep h0 e1 hS hA hf hL hF
    obtain ⟨t2, a1, b1⟩ := kk r u t T'.heap (locs ++ L) e1.symm (by rw [← e2]; exact X'.warmed.alike) hp hb k1 k2 k3 T' rfl X'
    exact ⟨t2, st t2 a1, b1⟩
  · obtain ⟨k1, k2, k3⟩ := vx_keep h0 e1 hS hAX hf hL hF
    obtain ⟨t2, a1, b1⟩ := kx E ce q u t T'.heap (locs ++ L) e1.symm (by rw [← e2]; exact X'.warmed.alike) hp hb k1 k2 k3 (by rw [e1]; exact hce) hcv hcl T' rfl X'
    exact ⟨t2, st.trans a1, b1⟩
theorem vx_callf {S SX : Type} {post : UInt32 → S → Prop} {px : SX → Prop} {B : S → State → Prop} {BX : String → SX → State → Prop} {AX : Nat → Prop} (hr : vx_Run p l e R s m args below meth c H locs cells slots mc ms (F0 m pc ls st0) rest (va_Qf post B A1 a) (vx_X px BX AX) free) (hS : va_S A0 H0 H locs) (hA : ∀ q, q < H.size → A1 q → A0 q) (hf : ∀ q, free q → A0 q) (hAX : ∀ q, q < H.size → AX q → A0 q)
    (kx : ∀ (E : String) (ce : Cell) (q9 : Addr) (u : SX) (t : State) (H1 : Heap) (locs1 : List Loc), t.heap = H1 → s.vm.Alike t.vm → px u → BX E u t → H.size ≤ H1.size → (∀ q : Nat, q < H.size → ¬ AX q → H1[q]? = H[q]?) → va_S A0 H0 H1 locs1 → H1[q9]? = some ce → ce.vm = .none → s.vm.findClass E = some ce.cls → vx_W p l e R s m args below meth c H1 locs1 (cells + mc) (slots + ms) Q (F0 m pc ls rest) q9)
    (kk : ∀ (r : UInt32) (u : S) (t : State) (H1 : Heap) (locs1 : List Loc), t.heap = H1 → s.vm.Alike t.vm → post r u → B u t → H.size ≤ H1.size → (∀ q : Nat, q < H.size → ¬ A1 q → H1[q]? = H[q]?) → va_S A0 H0 H1 locs1 → W p l e R s m args below meth c H1 locs1 (cells + mc) (slots + ms) Q (F0 m (pc + 3) ls (.float r :: rest))) : W p l e R s m args below meth c H locs cells slots Q (F0 m pc ls st0) := by
  intro T hT X
  rcases hr T hT X with ⟨v, st₀, t, T', L, h0, X', hL, e1, e2, ⟨⟨r, u, hv, hp, hb⟩, hF⟩, st⟩ | ⟨q, st₀, t, T', L, E, ce, h0, X', hL, e1, e2, ⟨u, hp, hb, hF⟩, hce, hcv, hcl, st⟩
  · cases hv
    obtain ⟨k1, k2, k3⟩ := vx_keep h0 e1 hS hA hf hL hF
    obtain ⟨t2, a1, b1⟩ := kk r u t T'.heap (locs ++ L) e1.symm (by rw [← e2]; exact X'.warmed.alike) hp hb k1 k2 k3 T' rfl X'
    exact ⟨t2, st t2 a1, b1⟩
  · obtain ⟨k1, k2, k3⟩ := vx_keep h0 e1 hS hAX hf hL hF
    obtain ⟨t2, a1, b1⟩ := kx E ce q u t T'.heap (locs ++ L) e1.symm (by rw [← e2]; exact X'.warmed.alike) hp hb k1 k2 k3 (by rw [e1]; exact hce) hcv hcl T' rfl X'
    exact ⟨t2, st.trans a1, b1⟩
theorem vx_calld {S SX : Type} {post : UInt64 → S → Prop} {px : SX → Prop} {B : S → State → Prop} {BX : String → SX → State → Prop} {AX : Nat → Prop} (hr : vx_Run p l e R s m args below meth c H locs cells slots mc ms (F0 m pc ls st0) rest (va_Qd post B A1 a) (vx_X px BX AX) free) (hS : va_S A0 H0 H locs) (hA : ∀ q, q < H.size → A1 q → A0 q) (hf : ∀ q, free q → A0 q) (hAX : ∀ q, q < H.size → AX q → A0 q)
    (kx : ∀ (E : String) (ce : Cell) (q9 : Addr) (u : SX) (t : State) (H1 : Heap) (locs1 : List Loc), t.heap = H1 → s.vm.Alike t.vm → px u → BX E u t → H.size ≤ H1.size → (∀ q : Nat, q < H.size → ¬ AX q → H1[q]? = H[q]?) → va_S A0 H0 H1 locs1 → H1[q9]? = some ce → ce.vm = .none → s.vm.findClass E = some ce.cls → vx_W p l e R s m args below meth c H1 locs1 (cells + mc) (slots + ms) Q (F0 m pc ls rest) q9)
    (kk : ∀ (r : UInt64) (u : S) (t : State) (H1 : Heap) (locs1 : List Loc), t.heap = H1 → s.vm.Alike t.vm → post r u → B u t → H.size ≤ H1.size → (∀ q : Nat, q < H.size → ¬ A1 q → H1[q]? = H[q]?) → va_S A0 H0 H1 locs1 → W p l e R s m args below meth c H1 locs1 (cells + mc) (slots + ms) Q (F0 m (pc + 3) ls (.double r :: rest))) : W p l e R s m args below meth c H locs cells slots Q (F0 m pc ls st0) := by
  intro T hT X
  rcases hr T hT X with ⟨v, st₀, t, T', L, h0, X', hL, e1, e2, ⟨⟨r, u, hv, hp, hb⟩, hF⟩, st⟩ | ⟨q, st₀, t, T', L, E, ce, h0, X', hL, e1, e2, ⟨u, hp, hb, hF⟩, hce, hcv, hcl, st⟩
  · cases hv
    obtain ⟨k1, k2, k3⟩ := vx_keep h0 e1 hS hA hf hL hF
    obtain ⟨t2, a1, b1⟩ := kk r u t T'.heap (locs ++ L) e1.symm (by rw [← e2]; exact X'.warmed.alike) hp hb k1 k2 k3 T' rfl X'
    exact ⟨t2, st t2 a1, b1⟩
  · obtain ⟨k1, k2, k3⟩ := vx_keep h0 e1 hS hAX hf hL hF
    obtain ⟨t2, a1, b1⟩ := kx E ce q u t T'.heap (locs ++ L) e1.symm (by rw [← e2]; exact X'.warmed.alike) hp hb k1 k2 k3 (by rw [e1]; exact hce) hcv hcl T' rfl X'
    exact ⟨t2, st.trans a1, b1⟩
theorem vx_callv {S SX : Type} {post : S → Prop} {px : SX → Prop} {B : S → State → Prop} {BX : String → SX → State → Prop} {AX : Nat → Prop} (hr : vx_Run p l e R s m args below meth c H locs cells slots mc ms (F0 m pc ls st0) rest (va_Qv post B A1 a) (vx_X px BX AX) free) (hS : va_S A0 H0 H locs) (hA : ∀ q, q < H.size → A1 q → A0 q) (hf : ∀ q, free q → A0 q) (hAX : ∀ q, q < H.size → AX q → A0 q)
    (kx : ∀ (E : String) (ce : Cell) (q9 : Addr) (u : SX) (t : State) (H1 : Heap) (locs1 : List Loc), t.heap = H1 → s.vm.Alike t.vm → px u → BX E u t → H.size ≤ H1.size → (∀ q : Nat, q < H.size → ¬ AX q → H1[q]? = H[q]?) → va_S A0 H0 H1 locs1 → H1[q9]? = some ce → ce.vm = .none → s.vm.findClass E = some ce.cls → vx_W p l e R s m args below meth c H1 locs1 (cells + mc) (slots + ms) Q (F0 m pc ls rest) q9)
    (kk : ∀ (u : S) (t : State) (H1 : Heap) (locs1 : List Loc), t.heap = H1 → s.vm.Alike t.vm → post u → B u t → H.size ≤ H1.size → (∀ q : Nat, q < H.size → ¬ A1 q → H1[q]? = H[q]?) → va_S A0 H0 H1 locs1 → W p l e R s m args below meth c H1 locs1 (cells + mc) (slots + ms) Q (F0 m (pc + 3) ls (rest))) : W p l e R s m args below meth c H locs cells slots Q (F0 m pc ls st0) := by
  intro T hT X
  rcases hr T hT X with ⟨v, st₀, t, T', L, h0, X', hL, e1, e2, ⟨⟨u, hv, hp, hb⟩, hF⟩, st⟩ | ⟨q, st₀, t, T', L, E, ce, h0, X', hL, e1, e2, ⟨u, hp, hb, hF⟩, hce, hcv, hcl, st⟩
  · cases hv
    obtain ⟨k1, k2, k3⟩ := vx_keep h0 e1 hS hA hf hL hF
    obtain ⟨t2, a1, b1⟩ := kk u t T'.heap (locs ++ L) e1.symm (by rw [← e2]; exact X'.warmed.alike) hp hb k1 k2 k3 T' rfl X'
    exact ⟨t2, st t2 a1, b1⟩
  · obtain ⟨k1, k2, k3⟩ := vx_keep h0 e1 hS hAX hf hL hF
    obtain ⟨t2, a1, b1⟩ := kx E ce q u t T'.heap (locs ++ L) e1.symm (by rw [← e2]; exact X'.warmed.alike) hp hb k1 k2 k3 (by rw [e1]; exact hce) hcv hcl T' rfl X'
    exact ⟨t2, st.trans a1, b1⟩
/-- caught by the row x of this method's table; the rows ahead don't take it -/
theorem vx_catch {own name : String} {E : String} {ce : Cell} {q : Addr} (hown : s.vm.findClass own = some m.cls) (pre : List ExceptionTableEntry) (x : ExceptionTableEntry) (suf : List ExceptionTableEntry) (hsplit : c.exceptionTable.toList = pre ++ x :: suf)
    (hpass : ∀ z ∈ pre, covers z pc = false ∨ (z.catchType ≠ 0 ∧ ∃ nm : String, (Cond.classLink own z.catchType nm).before args s = true ∧ va_Nc E nm s)) (hx : covers x pc = true) (h0 : x.catchType ≠ 0)
    (hlink : (Cond.classLink own x.catchType name).before args s = true) (hcast : (Cond.castable E name).before args s = true) (hcell : H[q]? = some ce) (hv : ce.vm = .none) (hcl : s.vm.findClass E = some ce.cls)
    (kk : W p l e R s m args below meth c H locs cells slots Q (F0 m x.handlerPc ls [.ref q])) : vx_W p l e R s m args below meth c H locs cells slots Q (F0 m pc ls rest) q := by
  intro T hT X
  have hpl : e.platform.magicAccessors = ({} : Platform).magicAccessors := by rw [X.admits.platform]
  obtain ⟨c3, c4, hc3, hc4, hasg⟩ := Cond.castable_spec hcast
  cases Option.some.inj (hc3.symm.trans hcl)
  obtain ⟨c5, hc5, hcl5⟩ := Cond.classLink_spec hown hlink e.platform hpl
  cases Option.some.inj (hc4.symm.trans hc5)
  obtain ⟨vm', X', st⟩ := X.thenCaughtThrough q (g := F0 m pc ls rest) rfl (Steps.refl _) (by rw [hT]; exact hcell) (by rw [hv]; rfl) (by obtain ⟨k9, h9, -⟩ := Vm.findClass_spec hcl; exact ⟨k9, h9⟩) pre x suf hsplit
    (fun z hz => by
      rcases hpass z hz with h | ⟨hz0, nm, hl1, hn1⟩
      · exact Or.inl h
      · obtain ⟨c6, hc6, hcl6⟩ := Cond.classLink_spec hown hl1 e.platform hpl
        obtain ⟨a8, b8, h1, h2, h3⟩ := hn1
        cases Option.some.inj (h1.symm.trans hcl)
        cases Option.some.inj (h2.symm.trans hc6)
        exact Or.inr ⟨hz0, _, hcl6, h3⟩) hx (Or.inr ⟨h0, c4, hcl5, hasg⟩)
  obtain ⟨t, a1, b1⟩ := kk (T.setVm vm') hT X'
  exact ⟨t, st.trans a1, b1⟩
end Rows
section Ends
variable {p : Program} {l : Launch} {e : Env} {R : Room} {s : State} {m : MethodId} {args : Array Value} {below : List Frame} {meth : Method} {c : Code} {H : Heap} {locs : List Loc} {cells slots : Nat} {Q : State → Prop}
variable {mc ms : Nat} {free : Addr → Prop} {A0 A1 : Nat → Prop} {H0 : Heap} {a : Array Value} {ls : Array Slot} {st0 rest : List Value}
variable {Qc : Array Value → State → Outcome → State → Prop} {XC : String → State → State → Prop}
/-- what a body that may throw owes at its end -/
def vx_MQ (below : List Frame) (Qc : Array Value → State → Outcome → State → Prop) (XC : String → State → State → Prop) (a : Array Value) (s : State) (mc ms : Nat) (free : Addr → Prop) : State → Prop := fun t =>
  ∃ o, t.status = .running ∧ Ended t below o ∧ vx_Q Qc XC mc ms free a s o t
theorem vx_ret {g : JFrame} {mc ms : Nat} (k : W p l e R s m args below meth c H locs cells slots (MQ below Qc args s mc ms free) g) : W p l e R s m args below meth c H locs cells slots (vx_MQ below Qc XC args s mc ms free) g := by
  intro T hT X
  obtain ⟨t, a1, o, b1, b2, b3, b4⟩ := k T hT X
  exact ⟨t, a1, o, b1, b2, Or.inl ⟨b3, b4⟩⟩
/-- not caught here: it goes on to the caller -/
theorem vx_widen {g : JFrame} {q : Addr} {k n : Nat} (h1 : cells ≤ k) (h2 : slots ≤ n) (kk : vx_W p l e R s m args below meth c H locs k n Q g q) : vx_W p l e R s m args below meth c H locs cells slots Q g q := fun T hT X => kk T hT (stand_widen X h1 h2)
theorem vx_out {pc : Nat} {E : String} {ce : Cell} {q : Addr} {mc ms : Nat} (hout : ∀ x ∈ c.exceptionTable.toList, covers x pc = false) (hlocks : meth.locks = false) (hcell : H[q]? = some ce) (hv : ce.vm = .none) (hcl : s.vm.findClass E = some ce.cls)
    (hx : ∀ t : State, t.heap = H → s.vm.Alike t.vm → XC E s t) (hf : ∀ z ∈ locs, free z.base) (hc : cells ≤ mc) (hs : slots ≤ ms) :
    vx_W p l e R s m args below meth c H locs cells slots (vx_MQ below Qc XC args s mc ms free) (F0 m pc ls rest) q := by
  intro T hT X
  obtain ⟨st1, hrun, hend, hW, hsm⟩ := X.leaveThrown q (g := F0 m pc ls rest) rfl rfl rfl hout hlocks
  have hcell9 : (T.setFrames (.throwing q :: below)).heap[q]? = some ce := by
    show T.heap[q]? = some ce
    rw [hT]; exact hcell
  exact ⟨_, st1, .threw q, hrun, hend, Or.inr ⟨q, rfl, E, ce, locs, hx _ hT hW.alike, hcell9, hv, hcl, hW, hsm.mono hc hs, hf⟩⟩
theorem vx_frame {U : State} {k n : Nat} (h : s.sameButNew ({ U with vm := s.vm } : State) locs k n) : s.heap.size ≤ U.heap.size ∧ ∀ q : Nat, q < s.heap.size → (∀ z ∈ locs, z.base ≠ q) → U.heap[q]? = s.heap[q]? := by
  obtain ⟨-, h2, -, -, -, h6⟩ := h
  refine ⟨h2, fun q hq hz => ?_⟩
  obtain ⟨c9, e1, e2, e3, e4⟩ := h6 q _ (Array.getElem?_eq_getElem hq)
  have hs : c9.slots = (s.heap[q]).slots := Array.ext_getElem? fun i => e4 i fun hm => hz _ hm rfl
  have h9 : c9 = s.heap[q] := by
    rw [hs] at e2
    exact e2
  have e5 : U.heap[q]? = some c9 := e1
  rw [e5, h9, Array.getElem?_eq_getElem hq]
/-- the words of a throw but the four that speak of the heap -/
def vx_no (w : Cond) : Bool := decide (w ≠ .isRef (.static Bundle.tN "UNASSIGNED_STACK" Bundle.steD)) && decide (w ≠ .isRef (.static Bundle.tN "SUPPRESSED_SENTINEL" Bundle.listD)) && decide (w ≠ .laysStatic Bundle.tN "UNASSIGNED_STACK" Bundle.steD) && decide (w ≠ .laysStatic Bundle.tN "SUPPRESSED_SENTINEL" Bundle.listD)
def vx_at0 (own : String) (ic : Nat) (X : String) (names : List String) : List Cond := (Bundle.ownAtoms0 own ic X names).filter vx_no
def vx_atS (own : String) (ic : Nat) (X : String) (names : List String) : List Cond := (Bundle.ownAtoms own ic X names).filter vx_no
/-- a word that the tables alone decide, or a good one -/
def vx_ot (w : Cond) : Bool := w.onTables || goodWord w
theorem vx_ot_at {args a' : Array Value} {s U : State} {w : Cond} (hW : s.WarmedH U.vm) (hvm : s.vm = U.vm) (hg : vx_ot w = true) (h : w.before args s = true) : w.before a' U = true := by
  simp only [vx_ot, Bool.or_eq_true] at hg
  rcases hg with hg | hg
  · exact va_tabs hg hvm h
  · exact word_at hW (good_of_word hg) h
/-- a list's words: the good ones out of the method's own list, the others by premises of their own -/
theorem vx_hat {args : Array Value} {s : State} {L B : List Cond} (h1 : ∀ w ∈ L.filter goodWord, w.before args s = true) (h2 : ∀ w ∈ L.filter (fun w => !goodWord w), w ∈ B) (h3 : ∀ w ∈ B, w.before args s = true) : ∀ w ∈ L, w.before args s = true := by
  intro w hw
  by_cases g : goodWord w = true
  · exact h1 w (List.mem_filter.mpr ⟨hw, g⟩)
  · refine h3 w (h2 w (List.mem_filter.mpr ⟨hw, ?_⟩))
    show (!goodWord w) = true
    cases hgw : goodWord w
    · rfl
    · exact absurd hgw g
theorem vx_c {args : Array Value} {s : State} {w : Cond} {B : List Cond} (h : w.before args s = true) (t : ∀ w ∈ B, w.before args s = true) : ∀ w' ∈ w :: B, w'.before args s = true := fun w' h' => (List.mem_cons.mp h').elim (fun e => by rw [e]; exact h) (t w')
theorem vx_n {args : Array Value} {s : State} : ∀ w ∈ ([] : List Cond), w.before args s = true := fun _ h => nomatch h
theorem vx_own {args : Array Value} {s : State} {L : List Cond} (h1 : ∀ w ∈ L.filter vx_no, w.before args s = true)
    (hU : (Cond.isRef (.static Bundle.tN "UNASSIGNED_STACK" Bundle.steD)).before args s = true) (hN : (Cond.isRef (.static Bundle.tN "SUPPRESSED_SENTINEL" Bundle.listD)).before args s = true)
    (lU : (Cond.laysStatic Bundle.tN "UNASSIGNED_STACK" Bundle.steD).before args s = true) (lN : (Cond.laysStatic Bundle.tN "SUPPRESSED_SENTINEL" Bundle.listD).before args s = true) : ∀ w ∈ L, w.before args s = true := by
  intro w hw
  by_cases e1 : w = .isRef (.static Bundle.tN "UNASSIGNED_STACK" Bundle.steD)
  · rw [e1]; exact hU
  · by_cases e2 : w = .isRef (.static Bundle.tN "SUPPRESSED_SENTINEL" Bundle.listD)
    · rw [e2]; exact hN
    · by_cases e3 : w = .laysStatic Bundle.tN "UNASSIGNED_STACK" Bundle.steD
      · rw [e3]; exact lU
      · by_cases e4 : w = .laysStatic Bundle.tN "SUPPRESSED_SENTINEL" Bundle.listD
        · rw [e4]; exact lN
        · exact h1 w (List.mem_filter.mpr ⟨hw, by unfold vx_no; rw [decide_eq_true e1, decide_eq_true e2, decide_eq_true e3, decide_eq_true e4]; rfl⟩)
/-- where a static field lies, its class's statics cell in H -/
def vx_L (C n d : String) (A : Nat → Prop) (U : State) (H : Heap) : Prop := ∃ (c : ClassId) (k : Class) (i : Nat) (f : Field) (a : Nat) (cell : Cell), U.vm.findClass C = some c ∧ U.fieldFound? C n d = some (c, k, i, f) ∧ f.isStatic = true ∧ k.statics = some a ∧ H[a]? = some cell ∧ cell.vm.isStatics = true ∧ cell.cls = c ∧ f.slot < cell.slots.size ∧ k.staticTypes[f.slot]? = some f.type ∧ ¬ A a
theorem vx_L.moved {C n d : String} {A : Nat → Prop} {u U : State} {H : Heap} (hvm : u.vm.Alike U.vm) (h : vx_L C n d A u H) : vx_L C n d A U H := by
  obtain ⟨c, k, i, f, a, cell, h1, h2, h3, h4, h5, h6, h7, h8, h9, h10⟩ := h
  obtain ⟨k', hi', he⟩ := State.fieldFound?_setVm hvm h2
  exact ⟨c, k', i, f, a, cell, by rw [hvm.findClass]; exact h1, hi', h3, by rw [he]; exact h4, h5, h6, h7, h8, by rw [he]; exact h9, h10⟩
theorem vx_L.kept {C n d : String} {A : Nat → Prop} {U : State} {H H1 : Heap} (h : vx_L C n d A U H) (hq : ∀ a : Nat, a < H.size → ¬ A a → H1[a]? = H[a]?) : vx_L C n d A U H1 := by
  obtain ⟨c, k, i, f, a, cell, h1, h2, h3, h4, h5, h6, h7, h8, h9, h10⟩ := h
  exact ⟨c, k, i, f, a, cell, h1, h2, h3, h4, by rw [hq a (Array.getElem?_eq_some_iff.mp h5).1 h10]; exact h5, h6, h7, h8, h9, h10⟩
theorem vx_L.narrow {C n d : String} {A B : Nat → Prop} {U : State} {H : Heap} (h : vx_L C n d A U H) (hAB : ∀ q, B q → A q) : vx_L C n d B U H := by
  obtain ⟨c, k, i, f, a, cell, h1, h2, h3, h4, h5, h6, h7, h8, h9, h10⟩ := h
  exact ⟨c, k, i, f, a, cell, h1, h2, h3, h4, h5, h6, h7, h8, h9, fun z => h10 (hAB _ z)⟩
theorem vx_L.word {C n d : String} {A : Nat → Prop} {s : State} {args : Array Value} (h : vx_L C n d A s s.heap) : (Cond.laysStatic C n d).before args s = true := by
  obtain ⟨c, k, i, f, a, cell, h1, h2, h3, h4, h5, h6, h7, h8, h9, -⟩ := h
  show (Cond.laysStatic C n d).holds args s none s [] = true
  exact Cond.laysStatic_of h1 h2 h3 h4 h5 h6 h7 h8 h9
/-- .. and what it holds: null or some reference -/
def vx_Zq (C n d : String) (A : Nat → Prop) (U : State) (H : Heap) : Prop := va_Zq C n d A U H ∧ vx_L C n d A U H
theorem vx_Zq.moved {C n d : String} {A : Nat → Prop} {u U : State} {H : Heap} (hvm : u.vm.Alike U.vm) (h : vx_Zq C n d A u H) : vx_Zq C n d A U H := ⟨va_Zq.moved hvm h.1, vx_L.moved hvm h.2⟩
theorem vx_Zq.kept {C n d : String} {A : Nat → Prop} {U : State} {H H1 : Heap} (h : vx_Zq C n d A U H) (hq : ∀ a : Nat, a < H.size → ¬ A a → H1[a]? = H[a]?) : vx_Zq C n d A U H1 := ⟨va_Zq.kept h.1 hq, vx_L.kept h.2 hq⟩
theorem vx_Zq.narrow {C n d : String} {A B : Nat → Prop} {U : State} {H : Heap} (h : vx_Zq C n d A U H) (hAB : ∀ q, B q → A q) : vx_Zq C n d B U H := ⟨va_Zq.narrow h.1 hAB, vx_L.narrow h.2 hAB⟩
theorem vx_Zqof {args : Array Value} {s : State} {C n d : String} {A : Nat → Prop} (hl : (Cond.laysStatic C n d).before args s = true) (hini : (Cond.initialized C).before args s = true) (h : (Cond.isRef (.static C n d)).before args s = true) (hA : ∀ a : Nat, a < s.heap.size → ¬ A a) : vx_Zq C n d A s s.heap := by
  refine ⟨va_Zqof hl hini h hA, ?_⟩
  obtain ⟨c, k, i, f, a, cell, h1, h2, h3, h4, h5, h6, h7, h8, h9⟩ := Cond.laysStatic_spec hl
  exact ⟨c, k, i, f, a, cell, h1, h2, h3, h4, h5, h6, h7, h8, h9, hA a (Array.getElem?_eq_some_iff.mp h5).1⟩
theorem vx_isRef {C n d : String} {v : Value} {A : Nat → Prop} {s : State} {args : Array Value} (h : va_Z C n d v A s s.heap) (hv : v.isRef = true) : (Cond.isRef (.static C n d)).before args s = true := by
  obtain ⟨cf, kf, fi, f, a, cell, h1, h2, h3, h4, h5, h6, h7, -⟩ := h
  have he : (Term.static C n d).eval args s none [] s = some v := by
    simp [Term.eval, State.fieldNamed?, h1, h2, h4, h5, h6, h7]
  simp only [Cond.before, Cond.holds, Cond.value, he]
  cases v <;> simp_all [Value.isRef]
theorem vx_isRefq {C n d : String} {A : Nat → Prop} {s : State} {args : Array Value} (h : va_Zq C n d A s s.heap) : (Cond.isRef (.static C n d)).before args s = true := by
  rcases h with h | ⟨t, h⟩
  · exact vx_isRef h rfl
  · exact vx_isRef h rfl
/-- the same frame, seen from here: as if the method were called anew in this heap -/
theorem vx_rebase {T : State} (X : Stand p l e R s m args below meth c T locs cells slots) {R' : Room} (hf : R'.frames ≤ R.frames) (hl : R'.locals ≤ R.locals) (hc : cells + R'.cells ≤ R.cells) (hs : slots + R'.slots ≤ R.slots) :
    Stand p l e R' ((T.setVm s.vm).setFrames (.invoking m args :: below)) m args below meth c T [] 0 0 := by
  have htop : (T.setVm s.vm).topJava?.isSome := X.here.top
  have hF : ((T.setVm s.vm).setFrames (.invoking m args :: below)).frames = .invoking m args :: below := State.frames_setFrames _ (State.cur_lt_of_top htop)
  obtain ⟨g₀, hg0⟩ := Option.isSome_iff_exists.mp htop
  obtain ⟨r, hr⟩ := State.topJava?_eq_some.mp hg0
  have hl9 : e.platform.stackLimits (T.setVm s.vm).me = e.platform.stackLimits s.me := X.limits
  have hb9 : (T.setVm s.vm).me.stackBytes = s.me.stackBytes := X.bytes
  refine ⟨X.admits, X.cas, X.clock, hF, ?_, X.hears, X.method, X.code, X.here, X.tail, X.warmed, ?_, ?_, ?_⟩
  · have h := X.room
    have hU : ((T.setVm s.vm).setFrames (.invoking m args :: below)).localsInUse = s.localsInUse := by
      rw [State.localsInUse_invoking hF (meth := meth) (c := c) X.method X.code, State.localsInUse_invoking X.frames X.method X.code]
    simp only [State.hasRoom, Bool.and_eq_true, decide_eq_true_eq] at h ⊢
    obtain ⟨⟨⟨⟨h1, h2, h3, h4, h5, h6⟩, h7⟩, h8⟩, h9⟩ := h
    rw [X.frames, List.length_cons] at h2 h3
    have q1 := X.heapSize
    have q2 := X.used
    simp only [hF, hU, List.length_cons, State.stackLimits_setFrames, State.stackBytes_setFrames, hl9, hb9]
    refine ⟨⟨⟨⟨by omega, by omega, by omega, by omega, by omega, h6⟩, ?_⟩, ?_⟩, X.book⟩
    · show T.heap.size + R'.cells ≤ e.platform.maxCells
      omega
    · show T.slotsUsed + R'.slots ≤ e.platform.maxSlots
      omega
  · rw [State.stackLimits_setFrames]; rfl
  · rw [State.stackBytes_setFrames]; rfl
  · refine ⟨?_, Nat.le_refl _, Nat.le_refl _, ?_, ?_, fun a c9 h9 => ⟨c9, h9, rfl, rfl, fun _ _ => rfl⟩⟩
    · obtain ⟨t, ht, -⟩ := State.frames_cons hr
      show T.setVm s.vm = { ((T.setVm s.vm).setFrames (.invoking m args :: below)).setFrames (T.setVm s.vm).frames with heap := T.heap, slotsUsed := T.slotsUsed }
      rw [State.setFrames_setFrames, State.setFrames_self ht]
      rfl
    · show T.slotsUsed = T.slotsUsed + ((T.heap.toList.drop T.heap.size).map (·.slots.size)).sum
      rw [List.drop_eq_nil_of_le (Nat.le_of_eq Array.length_toList)]
      rfl
    · show ((T.heap.toList.drop T.heap.size).map (·.slots.size)).sum ≤ 0
      rw [List.drop_eq_nil_of_le (Nat.le_of_eq Array.length_toList)]
      exact Nat.le_refl _
/-- 'throw new E()': new; dup; invokespecial; athrow -/
theorem vx_throw0 {cc : ByteArray} {pc : Nat} (hexec : p.tables.exec = Jvm.exec) (hb : c.code = cc) (hl : l.stackTraces = false) {own cls : String} {names : List String} {ik ic mc ms : Nat} {A : Nat → Prop}
    (hown : s.vm.findClass own = some m.cls) (hcls : Bundle.fit cls = true) (hnames : ∀ n ∈ names, Bundle.fit n = true)
    (hk : (Cond.classLink own ik cls).before args s = true) (hini : (Cond.initialized cls).before args s = true) (hat : ∀ w ∈ vx_at0 own ic cls names, w.before args s = true)
    (hgood : ∀ w ∈ Cond.classLink own ik cls :: Cond.initialized cls :: vx_at0 own ic cls names, vx_ot w = true)
    (hU : vx_Zq Bundle.tN "UNASSIGNED_STACK" Bundle.steD A s s.heap) (hN : vx_Zq Bundle.tN "SUPPRESSED_SENTINEL" Bundle.listD A s s.heap) (hS : va_S A s.heap H locs) (hsize : ls.size = c.maxLocals)
    (d0 : decode cc pc = .ok (.new ik, 3)) (d3 : decode cc (pc + 3) = .ok (.dup, 1)) (d4 : decode cc (pc + 4) = .ok (.invokespecial ic, 3)) (d7 : decode cc (pc + 7) = .ok (.athrow, 1))
    (hout : ∀ x ∈ c.exceptionTable.toList, covers x (pc + 7) = false)
    (hRframes : names.length + 3 < R.frames) (hRlocals : (rest.map fun v => v.category).sum + (13 * (names.length + 1) + 42) ≤ R.locals) (hRcells : cells + 1 ≤ R.cells) (hRslots : slots + 6 ≤ R.slots) (hlocks : meth.locks = false)
    (hx : ∀ t : State, s.vm.Alike t.vm → H.size ≤ t.heap.size → (∀ q : Nat, q < H.size → t.heap[q]? = H[q]?) → XC cls s t)
    (hf : ∀ z ∈ locs, free z.base) (hc : cells + 1 ≤ mc) (hs : slots + 6 ≤ ms) :
    W p l e R s m args below meth c H locs cells slots (vx_MQ below Qc XC args s mc ms free) (F0 m pc ls rest) := by
  intro T hT X
  have htr : e.platform.stackTraces = false := (show e.platform.stackTraces = l.stackTraces by rw [X.admits.platform]).trans hl
  have Y := vx_rebase X (R' := { frames := R.frames, locals := R.locals, cells := 1, slots := 6 }) (Nat.le_refl _) (Nat.le_refl _) hRcells hRslots
  obtain ⟨s', hA⟩ : ∃ z, z = (T.setVm s.vm).setFrames (.invoking m args :: below) := ⟨_, rfl⟩
  rw [← hA] at Y
  have hvm : s'.vm = s.vm := by rw [hA]; rfl
  have hhp : s'.heap = H := by rw [hA]; exact hT
  have hW0 : s.WarmedH s'.vm := by rw [hvm]; exact State.WarmedH.refl s
  have hat' : ∀ w ∈ vx_at0 own ic cls names, w.before args s' = true := fun w hw => vx_ot_at hW0 hvm.symm (hgood w (List.mem_cons_of_mem _ (List.mem_cons_of_mem _ hw))) (hat w hw)
  have hk' : (Cond.classLink own ik cls).before args s' = true := vx_ot_at hW0 hvm.symm (hgood _ List.mem_cons_self) hk
  have hini' : (Cond.initialized cls).before args s' = true := vx_ot_at hW0 hvm.symm (hgood _ (List.mem_cons_of_mem _ List.mem_cons_self)) hini
  have hU' : vx_Zq Bundle.tN "UNASSIGNED_STACK" Bundle.steD A s' s'.heap := by rw [hhp]; exact vx_Zq.moved hW0.alike (hU.kept hS.2.1)
  have hN' : vx_Zq Bundle.tN "SUPPRESSED_SENTINEL" Bundle.listD A s' s'.heap := by rw [hhp]; exact vx_Zq.moved hW0.alike (hN.kept hS.2.1)
  have h : ∀ w ∈ Bundle.ownAtoms0 own ic cls names, w.before args s' = true := vx_own hat' (vx_isRefq hU'.1) (vx_isRefq hN'.1) hU'.2.word hN'.2.word
  have hown' : s'.vm.findClass own = some m.cls := by rw [hvm]; exact hown
  have hins : (Cond.instantiable cls 6).before args s' = true := h _ (by simp [Bundle.ownAtoms0])
  obtain ⟨vm₁, cX, kX, hfX, hkX, -, -, X₁, st1⟩ := Y.newCold hexec (own := own) (C := cls) (index := ik) (n := 6) hown' hk' hins hini'
    (g := F0 m pc ls rest) rfl (by rw [hb]; exact d0) (Nat.le_refl _) (Nat.le_refl _)
  generalize hT1 : (T.setVm vm₁).pushCell { cls := cX, slots := kX.instanceTypes.map defaultValue, vm := .none } = T1 at X₁ st1
  have hcat : (Value.ref T.heap.size).category = 1 := rfl
  have hcellA : T1.heap[T.heap.size]? = some (freshCell cX kX) := by rw [← hT1]; exact State.heap_pushCell_size _ _
  have d3' : decode c.code (pc + 3) = .ok (.dup, 1) := by rw [hb]; exact d3
  obtain ⟨U, hsteps, hrun, hend, hW, hsame, ce, hce, hO⟩ := X₁.ctorThrow0 hexec htr (own := own) (cls := cls) (names := names) (ic := ic) hown' hcls hnames h (fun x hx => nomatch hx) hfX hkX hcellA (by rw [hhp, hT]; exact Nat.le_refl _)
    (g := { method := m, pc := pc + 4, locals := ls, stack := .ref T.heap.size :: .ref T.heap.size :: rest, locked := none }) rfl hsize rfl rfl (rest := rest) rfl
    (by rw [hb]; exact d4) (by rw [hb]; exact d7) hout hRframes (by simp only [List.map_cons, List.sum_cons, hcat]; omega) hlocks
  obtain ⟨f1, f2⟩ := vx_frame hsame
  rw [hhp] at f1 f2
  have hWs : s.WarmedH U.vm := State.WarmedH.trans hW0 hW
  have hcl : s.vm.findClass cls = some ce.cls := by
    have h9 := hO.cls
    rw [hvm] at h9
    exact h9
  have hall : s.sameButNew ({ U with vm := s.vm } : State) locs mc ms := by
    subst hA
    obtain ⟨e1, e2⟩ := hsame
    rw [State.setFrames_setFrames] at e1
    have h2 : (T.setVm s.vm).sameButNew ({ U with vm := s.vm } : State) [] (0 + 1) (0 + 6) := ⟨e1, e2⟩
    have h3 := X.same.trans h2
    rw [List.append_nil] at h3
    exact h3.mono hc hs
  refine ⟨U, ?_, .threw T.heap.size, hrun, hend, Or.inr ⟨T.heap.size, rfl, cls, ce, locs, hx U hWs.alike f1 (fun q hq => f2 q hq (fun z hz => nomatch hz)), hce, hO.vm, hcl, hWs, hall, hf⟩⟩
  refine st1 _ ?_
  show Steps p.tables e below (T1.setTop { method := m, pc := pc + 3, locals := ls, stack := .ref T.heap.size :: rest, locked := none }) _
  jvm_step X₁.here [X₁.here.top, hexec, d3', Value.category]
  exact hsteps
/-- 'throw new E("text")': new; dup; ldc; invokespecial; athrow -/
theorem vx_throwS {cc : ByteArray} {pc : Nat} (hexec : p.tables.exec = Jvm.exec) (hb : c.code = cc) (hl : l.stackTraces = false) {own cls text : String} {names : List String} {ik is ic mc ms sa : Nat} {A : Nat → Prop}
    (hown : s.vm.findClass own = some m.cls) (hcls : Bundle.fit cls = true) (hnames : ∀ n ∈ names, Bundle.fit n = true)
    (hk : (Cond.classLink own ik cls).before args s = true) (hini : (Cond.initialized cls).before args s = true) (hstr : vk_R own is text sa s) (hat : ∀ w ∈ vx_atS own ic cls names, w.before args s = true)
    (hgood : ∀ w ∈ Cond.classLink own ik cls :: Cond.initialized cls :: vx_atS own ic cls names, vx_ot w = true)
    (hU : vx_Zq Bundle.tN "UNASSIGNED_STACK" Bundle.steD A s s.heap) (hN : vx_Zq Bundle.tN "SUPPRESSED_SENTINEL" Bundle.listD A s s.heap) (hS : va_S A s.heap H locs) (hsize : ls.size = c.maxLocals)
    (d0 : decode cc pc = .ok (.new ik, 3)) (d3 : decode cc (pc + 3) = .ok (.dup, 1)) (d4 : decode cc (pc + 4) = .ok (.ldc is, 2)) (d6 : decode cc (pc + 6) = .ok (.invokespecial ic, 3)) (d9 : decode cc (pc + 9) = .ok (.athrow, 1))
    (hout : ∀ x ∈ c.exceptionTable.toList, covers x (pc + 9) = false)
    (hRframes : names.length + 3 < R.frames) (hRlocals : (rest.map fun v => v.category).sum + (13 * (names.length + 1) + 43) ≤ R.locals) (hRcells : cells + 1 ≤ R.cells) (hRslots : slots + 6 ≤ R.slots) (hlocks : meth.locks = false)
    (hx : ∀ t : State, s.vm.Alike t.vm → H.size ≤ t.heap.size → (∀ q : Nat, q < H.size → t.heap[q]? = H[q]?) → XC cls s t)
    (hf : ∀ z ∈ locs, free z.base) (hc : cells + 1 ≤ mc) (hs : slots + 6 ≤ ms) :
    W p l e R s m args below meth c H locs cells slots (vx_MQ below Qc XC args s mc ms free) (F0 m pc ls rest) := by
  intro T hT X
  have htr : e.platform.stackTraces = false := (show e.platform.stackTraces = l.stackTraces by rw [X.admits.platform]).trans hl
  have Y := vx_rebase X (R' := { frames := R.frames, locals := R.locals, cells := 1, slots := 6 }) (Nat.le_refl _) (Nat.le_refl _) hRcells hRslots
  obtain ⟨s', hA⟩ : ∃ z, z = (T.setVm s.vm).setFrames (.invoking m args :: below) := ⟨_, rfl⟩
  rw [← hA] at Y
  have hvm : s'.vm = s.vm := by rw [hA]; rfl
  have hhp : s'.heap = H := by rw [hA]; exact hT
  have hW0 : s.WarmedH s'.vm := by rw [hvm]; exact State.WarmedH.refl s
  have hat' : ∀ w ∈ vx_atS own ic cls names, w.before args s' = true := fun w hw => vx_ot_at hW0 hvm.symm (hgood w (List.mem_cons_of_mem _ (List.mem_cons_of_mem _ hw))) (hat w hw)
  have hk' : (Cond.classLink own ik cls).before args s' = true := vx_ot_at hW0 hvm.symm (hgood _ List.mem_cons_self) hk
  have hini' : (Cond.initialized cls).before args s' = true := vx_ot_at hW0 hvm.symm (hgood _ (List.mem_cons_of_mem _ List.mem_cons_self)) hini
  have hU' : vx_Zq Bundle.tN "UNASSIGNED_STACK" Bundle.steD A s' s'.heap := by rw [hhp]; exact vx_Zq.moved hW0.alike (hU.kept hS.2.1)
  have hN' : vx_Zq Bundle.tN "SUPPRESSED_SENTINEL" Bundle.listD A s' s'.heap := by rw [hhp]; exact vx_Zq.moved hW0.alike (hN.kept hS.2.1)
  have h : ∀ w ∈ Bundle.ownAtoms own ic cls names, w.before args s' = true := vx_own hat' (vx_isRefq hU'.1) (vx_isRefq hN'.1) hU'.2.word hN'.2.word
  have hown' : s'.vm.findClass own = some m.cls := by rw [hvm]; exact hown
  have hins : (Cond.instantiable cls 6).before args s' = true := h _ (by simp [Bundle.ownAtoms])
  obtain ⟨vm₁, cX, kX, hfX, hkX, -, -, X₁, st1⟩ := Y.newCold hexec (own := own) (C := cls) (index := ik) (n := 6) hown' hk' hins hini'
    (g := F0 m pc ls rest) rfl (by rw [hb]; exact d0) (Nat.le_refl _) (Nat.le_refl _)
  generalize hT1 : (T.setVm vm₁).pushCell { cls := cX, slots := kX.instanceTypes.map defaultValue, vm := .none } = T1 at X₁ st1
  have hcat : (Value.ref T.heap.size).category = 1 := rfl
  have hcellA : T1.heap[T.heap.size]? = some (freshCell cX kX) := by rw [← hT1]; exact State.heap_pushCell_size _ _
  have d3' : decode c.code (pc + 3) = .ok (.dup, 1) := by rw [hb]; exact d3
  have d4' : decode c.code (pc + 4) = .ok (.ldc is, 2) := by rw [hb]; exact d4
  have hstr' : vk_R own is text sa s' := vk_R.warm hW0 hstr
  obtain ⟨U, hsteps, hrun, hend, hW, hsame, ce, hce, hO⟩ := X₁.ctorThrowS hexec htr (own := own) (cls := cls) (names := names) (ic := ic) hown' hcls hnames h (fun x hx => nomatch hx) hfX hkX hcellA (by rw [hhp, hT]; exact Nat.le_refl _) (msg := .ref sa) rfl
    (g := { method := m, pc := pc + 6, locals := ls, stack := .ref sa :: .ref T.heap.size :: .ref T.heap.size :: rest, locked := none }) rfl hsize rfl rfl (rest := rest) rfl
    (by rw [hb]; exact d6) (by rw [hb]; exact d9) hout hRframes (by simp only [List.map_cons, List.sum_cons, hcat]; omega) hlocks
  obtain ⟨f1, f2⟩ := vx_frame hsame
  rw [hhp] at f1 f2
  have hWs : s.WarmedH U.vm := State.WarmedH.trans hW0 hW
  have hcl : s.vm.findClass cls = some ce.cls := by
    have h9 := hO.cls
    rw [hvm] at h9
    exact h9
  have hall : s.sameButNew ({ U with vm := s.vm } : State) locs mc ms := by
    subst hA
    obtain ⟨e1, e2⟩ := hsame
    rw [State.setFrames_setFrames] at e1
    have h2 : (T.setVm s.vm).sameButNew ({ U with vm := s.vm } : State) [] (0 + 1) (0 + 6) := ⟨e1, e2⟩
    have h3 := X.same.trans h2
    rw [List.append_nil] at h3
    exact h3.mono hc hs
  refine ⟨U, ?_, .threw T.heap.size, hrun, hend, Or.inr ⟨T.heap.size, rfl, cls, ce, locs, hx U hWs.alike f1 (fun q hq => f2 q hq (fun z hz => nomatch hz)), hce, hO.vm, hcl, hWs, hall, hf⟩⟩
  refine st1 _ ?_
  show Steps p.tables e below (T1.setTop { method := m, pc := pc + 3, locals := ls, stack := .ref T.heap.size :: rest, locked := none }) _
  jvm_step X₁.here [X₁.here.top, hexec, d3', Value.category]
  exact X₁.ldcString hexec (own := own) (text := text) (index := is) (a := sa) hown' hstr'.1 hstr'.2
    (g := { method := m, pc := pc + 4, locals := ls, stack := .ref T.heap.size :: .ref T.heap.size :: rest, locked := none }) rfl d4' _ hsteps
/-- 'throw new E("text")', the text by a wide index -/
theorem vx_throwSW {cc : ByteArray} {pc : Nat} (hexec : p.tables.exec = Jvm.exec) (hb : c.code = cc) (hl : l.stackTraces = false) {own cls text : String} {names : List String} {ik is ic mc ms sa : Nat} {A : Nat → Prop}
    (hown : s.vm.findClass own = some m.cls) (hcls : Bundle.fit cls = true) (hnames : ∀ n ∈ names, Bundle.fit n = true)
    (hk : (Cond.classLink own ik cls).before args s = true) (hini : (Cond.initialized cls).before args s = true) (hstr : vk_R own is text sa s) (hat : ∀ w ∈ vx_atS own ic cls names, w.before args s = true)
    (hgood : ∀ w ∈ Cond.classLink own ik cls :: Cond.initialized cls :: vx_atS own ic cls names, vx_ot w = true)
    (hU : vx_Zq Bundle.tN "UNASSIGNED_STACK" Bundle.steD A s s.heap) (hN : vx_Zq Bundle.tN "SUPPRESSED_SENTINEL" Bundle.listD A s s.heap) (hS : va_S A s.heap H locs) (hsize : ls.size = c.maxLocals)
    (d0 : decode cc pc = .ok (.new ik, 3)) (d3 : decode cc (pc + 3) = .ok (.dup, 1)) (d4 : decode cc (pc + 4) = .ok (.ldc_w is, 3)) (d7 : decode cc (pc + 7) = .ok (.invokespecial ic, 3)) (d10 : decode cc (pc + 10) = .ok (.athrow, 1))
    (hout : ∀ x ∈ c.exceptionTable.toList, covers x (pc + 10) = false)
    (hRframes : names.length + 3 < R.frames) (hRlocals : (rest.map fun v => v.category).sum + (13 * (names.length + 1) + 43) ≤ R.locals) (hRcells : cells + 1 ≤ R.cells) (hRslots : slots + 6 ≤ R.slots) (hlocks : meth.locks = false)
    (hx : ∀ t : State, s.vm.Alike t.vm → H.size ≤ t.heap.size → (∀ q : Nat, q < H.size → t.heap[q]? = H[q]?) → XC cls s t)
    (hf : ∀ z ∈ locs, free z.base) (hc : cells + 1 ≤ mc) (hs : slots + 6 ≤ ms) :
    W p l e R s m args below meth c H locs cells slots (vx_MQ below Qc XC args s mc ms free) (F0 m pc ls rest) := by
  intro T hT X
  have htr : e.platform.stackTraces = false := (show e.platform.stackTraces = l.stackTraces by rw [X.admits.platform]).trans hl
  have Y := vx_rebase X (R' := { frames := R.frames, locals := R.locals, cells := 1, slots := 6 }) (Nat.le_refl _) (Nat.le_refl _) hRcells hRslots
  obtain ⟨s', hA⟩ : ∃ z, z = (T.setVm s.vm).setFrames (.invoking m args :: below) := ⟨_, rfl⟩
  rw [← hA] at Y
  have hvm : s'.vm = s.vm := by rw [hA]; rfl
  have hhp : s'.heap = H := by rw [hA]; exact hT
  have hW0 : s.WarmedH s'.vm := by rw [hvm]; exact State.WarmedH.refl s
  have hat' : ∀ w ∈ vx_atS own ic cls names, w.before args s' = true := fun w hw => vx_ot_at hW0 hvm.symm (hgood w (List.mem_cons_of_mem _ (List.mem_cons_of_mem _ hw))) (hat w hw)
  have hk' : (Cond.classLink own ik cls).before args s' = true := vx_ot_at hW0 hvm.symm (hgood _ List.mem_cons_self) hk
  have hini' : (Cond.initialized cls).before args s' = true := vx_ot_at hW0 hvm.symm (hgood _ (List.mem_cons_of_mem _ List.mem_cons_self)) hini
  have hU' : vx_Zq Bundle.tN "UNASSIGNED_STACK" Bundle.steD A s' s'.heap := by rw [hhp]; exact vx_Zq.moved hW0.alike (hU.kept hS.2.1)
  have hN' : vx_Zq Bundle.tN "SUPPRESSED_SENTINEL" Bundle.listD A s' s'.heap := by rw [hhp]; exact vx_Zq.moved hW0.alike (hN.kept hS.2.1)
  have h : ∀ w ∈ Bundle.ownAtoms own ic cls names, w.before args s' = true := vx_own hat' (vx_isRefq hU'.1) (vx_isRefq hN'.1) hU'.2.word hN'.2.word
  have hown' : s'.vm.findClass own = some m.cls := by rw [hvm]; exact hown
  have hins : (Cond.instantiable cls 6).before args s' = true := h _ (by simp [Bundle.ownAtoms])
  obtain ⟨vm₁, cX, kX, hfX, hkX, -, -, X₁, st1⟩ := Y.newCold hexec (own := own) (C := cls) (index := ik) (n := 6) hown' hk' hins hini'
    (g := F0 m pc ls rest) rfl (by rw [hb]; exact d0) (Nat.le_refl _) (Nat.le_refl _)
  generalize hT1 : (T.setVm vm₁).pushCell { cls := cX, slots := kX.instanceTypes.map defaultValue, vm := .none } = T1 at X₁ st1
  have hcat : (Value.ref T.heap.size).category = 1 := rfl
  have hcellA : T1.heap[T.heap.size]? = some (freshCell cX kX) := by rw [← hT1]; exact State.heap_pushCell_size _ _
  have d3' : decode c.code (pc + 3) = .ok (.dup, 1) := by rw [hb]; exact d3
  have d4' : decode c.code (pc + 4) = .ok (.ldc_w is, 3) := by rw [hb]; exact d4
  have hstr' : vk_R own is text sa s' := vk_R.warm hW0 hstr
  obtain ⟨U, hsteps, hrun, hend, hW, hsame, ce, hce, hO⟩ := X₁.ctorThrowS hexec htr (own := own) (cls := cls) (names := names) (ic := ic) hown' hcls hnames h (fun x hx => nomatch hx) hfX hkX hcellA (by rw [hhp, hT]; exact Nat.le_refl _) (msg := .ref sa) rfl
    (g := { method := m, pc := pc + 7, locals := ls, stack := .ref sa :: .ref T.heap.size :: .ref T.heap.size :: rest, locked := none }) rfl hsize rfl rfl (rest := rest) rfl
    (by rw [hb]; exact d7) (by rw [hb]; exact d10) hout hRframes (by simp only [List.map_cons, List.sum_cons, hcat]; omega) hlocks
  obtain ⟨f1, f2⟩ := vx_frame hsame
  rw [hhp] at f1 f2
  have hWs : s.WarmedH U.vm := State.WarmedH.trans hW0 hW
  have hcl : s.vm.findClass cls = some ce.cls := by
    have h9 := hO.cls
    rw [hvm] at h9
    exact h9
  have hall : s.sameButNew ({ U with vm := s.vm } : State) locs mc ms := by
    subst hA
    obtain ⟨e1, e2⟩ := hsame
    rw [State.setFrames_setFrames] at e1
    have h2 : (T.setVm s.vm).sameButNew ({ U with vm := s.vm } : State) [] (0 + 1) (0 + 6) := ⟨e1, e2⟩
    have h3 := X.same.trans h2
    rw [List.append_nil] at h3
    exact h3.mono hc hs
  refine ⟨U, ?_, .threw T.heap.size, hrun, hend, Or.inr ⟨T.heap.size, rfl, cls, ce, locs, hx U hWs.alike f1 (fun q hq => f2 q hq (fun z hz => nomatch hz)), hce, hO.vm, hcl, hWs, hall, hf⟩⟩
  refine st1 _ ?_
  show Steps p.tables e below (T1.setTop { method := m, pc := pc + 3, locals := ls, stack := .ref T.heap.size :: rest, locked := none }) _
  jvm_step X₁.here [X₁.here.top, hexec, d3', Value.category]
  exact X₁.ldcStringW hexec (own := own) (text := text) (index := is) (a := sa) hown' hstr'.1 hstr'.2
    (g := { method := m, pc := pc + 4, locals := ls, stack := .ref T.heap.size :: .ref T.heap.size :: rest, locked := none }) rfl d4' _ hsteps
end Ends
section Bodies
variable {l : Launch}
theorem vx_ofW {y : MethodName} {ws ws' : List Cond} {rm : Room} {Pc : Array Value → State → Prop} {Qc : Array Value → State → Outcome → State → Prop} {XC : String → State → State → Prop} {mc ms : Nat} {free : Addr → Prop} {cc : ByteArray} {maxL : Nat} {ret : Option FieldType}
    (hy : plainName y.cls = true) (hw : ws = Cond.code y cc maxL ret :: ws')
    (body : ∀ p e s m args below meth c s₁, BodyLoose p l y (headSpec ws rm) cc maxL ret e s m args below meth c s₁ → c.maxLocals = maxL → (∀ x ∈ c.exceptionTable.toList, False) → Pc args s →
      W p l e (headSpec ws rm).room s m args below meth c s.heap [] 0 0 (vx_MQ below Qc XC args s mc ms free) (entryFrame m args maxL)) : vx_Met l y ws rm Pc Qc XC mc ms free := by
  refine MetFree.of_bodyS (code := cc) (maxLocals := maxL) (ret := ret) hy ?_ ?_
  · intro args s m h hn
    obtain ⟨meth, c, h1, h2, h3, h4, h5, h6, -, -⟩ := Cond.code_spec hn (atoms_spec (ws := ws) h _ (by rw [hw]; exact List.mem_cons_self))
    exact ⟨meth, c, h1, h2, h3, h4, h5, h6⟩
  · intro p e s m args below meth c s₁ B hml hP _
    have hh0 : s₁.heap = s.heap := by rw [B.state]; rfl
    have ht : ∀ x ∈ c.exceptionTable.toList, False := by
      obtain ⟨meth9, c9, h1, h2, -, -, -, -, h7, -⟩ := Cond.code_spec B.named (atoms_spec (ws := ws) B.pre _ (by rw [hw]; exact List.mem_cons_self))
      cases Option.some.inj (h1.symm.trans B.method)
      cases Option.some.inj (h2.symm.trans (Stand.of_body B).code)
      intro x hx
      rw [Array.isEmpty_iff.mp h7] at hx
      cases hx
    obtain ⟨t, a1, o, b1, b2, b3⟩ := body p e s m args below meth c s₁ B hml ht hP s₁ hh0 (Stand.of_body B)
    exact ⟨t, o, a1, b1, b2, b3⟩
/-- the table of a body with handlers -/
theorem vx_table {p : Program} {x y : MethodName} {S : Spec} {cc bytes : ByteArray} {maxL maxL' : Nat} {ret ret' : Option FieldType} {e : Env} {s s₁ : State} {m : MethodId} {args : Array Value} {below : List Frame} {meth : Method} {c : Code} {hh : List (Nat × Nat × Nat × Nat)}
    (B : BodyLoose p l y S cc maxL ret e s m args below meth c s₁) (h : (Cond.codeWith y bytes maxL' ret' hh).before args s = true) : c.exceptionTable.toList = tableOf hh := by
  obtain ⟨m9, meth9, c9, hn9, h1, h2, -, -, h6, -⟩ := Cond.codeWith_spec h
  cases Option.some.inj (hn9.symm.trans B.named)
  cases Option.some.inj (h1.symm.trans B.method)
  cases Option.some.inj (h2.symm.trans (Stand.of_body B).code)
  rw [← h6, table_eq]
end Bodies
end VXA
/-! ===== END ===== -/
/-! ===== BEGIN a static call of a method with an exception table ===== -/
section VXS
variable {p : Program} {l : Launch} {e : Env} {R : Room} {s : State} {m : MethodId} {args : Array Value} {below : List Frame} {meth : Method} {c : Code} {T : State} {H : Heap} {locs : List Loc} {cells slots : Nat}
abbrev vx_CSW (R : Room) (s : State) (args : Array Value) (own : String) (index : Nat) (y : MethodName) (bytes : ByteArray) (maxL : Nat) (ret : Option FieldType) (hh : List (Nat × Nat × Nat × Nat)) (ws : List Cond) (rm : Room) (mc ms n : Nat) : Prop :=
  (rm.cells = mc ∧ rm.slots = ms ∧ rm.frames + 1 ≤ R.frames ∧ 8 + (maxL + 11) + rm.locals ≤ R.locals ∧ (∀ w ∈ ws, ∀ (a' : Array Value) (U : State), s.WarmedH U.vm → w.before a' U = true) ∧ Cond.codeWith y bytes maxL ret hh ∈ ws) ∧
  (Cond.codeWith y bytes maxL ret hh).before args s = true ∧ (Cond.initialized y.cls).before args s = true ∧ (y.cls ≠ "java/lang/invoke/MethodHandle" ∧ y.cls ≠ "java/lang/invoke/VarHandle") ∧
  (∀ sig, parseMethodDescriptor y.desc = some sig → n = sig.parameters.length) ∧ (Cond.methodLink own index y).before args s = true ∧ (Cond.static y).before args s = true
theorem vx_cwSW {own : String} {index maxL mc ms : Nat} {y : MethodName} {bytes : ByteArray} {ret : Option FieldType} {hh : List (Nat × Nat × Nat × Nat)} {Ts ws ws' : List Cond} {rm : Room} (n : Nat) (ht : ∀ w ∈ Ts, w.before args s = true) (hT : GoodIn Ts (va_wsS own index y ws)) (hw : ws = Cond.codeWith y bytes maxL ret hh :: ws') (hrc : rm.cells = mc) (hrs : rm.slots = ms)
    (hd : y.cls ≠ "java/lang/invoke/MethodHandle" ∧ y.cls ≠ "java/lang/invoke/VarHandle" ∧ (parseMethodDescriptor y.desc).map (fun d => d.parameters.length) = some n) (hR : rm.frames + 1 ≤ R.frames ∧ 8 + (maxL + 11) + rm.locals ≤ R.locals) :
    vx_CSW R s args own index y bytes maxL ret hh ws rm mc ms n := by
  have ok : ∀ w ∈ va_wsS own index y ws, w.before args s = true := fun w h => ht w (hT w h).1
  have hG : GoodIn Ts ws := fun w h => hT w (by unfold va_wsS; exact List.mem_append_right _ h)
  have hc : Cond.codeWith y bytes maxL ret hh ∈ ws := by rw [hw]; exact List.mem_cons_self
  refine ⟨⟨hrc, hrs, hR.1, hR.2, pay_in ht hG, hc⟩, ht _ (hG _ hc).1, ok _ (by simp [va_wsS]), ⟨hd.1, hd.2.1⟩, fun sig h => ?_, ok _ (by simp [va_wsS]), ok _ (by simp [va_wsS])⟩
  have h2 := hd.2.2
  rw [h] at h2
  exact (Option.some.inj h2).symm
theorem vx_callSW (X : Stand p l e R s m args below meth c T locs cells slots) (hexec : p.tables.exec = Jvm.exec) {own : String} {index : Nat} {y : MethodName} {bytes : ByteArray} {maxL : Nat} {ret : Option FieldType} {hh : List (Nat × Nat × Nat × Nat)}
    (hown : s.vm.findClass own = some m.cls) (hlink : (Cond.methodLink own index y).before args s = true) (hstat : (Cond.static y).before args s = true) (hinit : (Cond.initialized y.cls).before args s = true)
    (hcode : (Cond.codeWith y bytes maxL ret hh).before args s = true) (hy : y.cls ≠ "java/lang/invoke/MethodHandle" ∧ y.cls ≠ "java/lang/invoke/VarHandle")
    {W9 : Nat} {Pre : Pt → Array Value → Prop} {Post : Pt → Array Value → Option Value → Pt → Prop} (hK : Back l R p e below s args y 3 W9 Pre Post)
    {g : JFrame} (hg : g.method = m) (hsize : g.locals.size = c.maxLocals) {argsL rest : List Value} (hlen : ∀ sig, parseMethodDescriptor y.desc = some sig → argsL.length = sig.parameters.length)
    (hstack : g.stack = argsL.reverse ++ rest) (hW : 2 * g.monitorRoom + (rest.map fun v => v.category).sum ≤ W9) (hdg : decode c.code g.pc = .ok (.invokestatic index, 3))
    (hpre : ∀ vm₁, s.WarmedH vm₁ → Pre ⟨T.setVm vm₁, locs, cells, slots⟩ argsL.toArray) :
    ∃ (v : Option Value) (vm₁ : Vm) (B : Pt), s.WarmedH vm₁ ∧ Stand p l e R s m args below meth c B.U B.locs B.cells B.slots ∧ Post ⟨T.setVm vm₁, locs, cells, slots⟩ argsL.toArray v B ∧
      ∀ target, Steps p.tables e below (B.U.setTop { g with pc := g.pc + 3, stack := v.toList ++ rest }) target → Steps p.tables e below (T.setTop g) target := by
  obtain ⟨mk, methM, cM, hnamed, hmethM, -, -, -, -, -, -, hsigM⟩ := Cond.codeWith_spec hcode
  have hstatic : methM.isStatic = true := Cond.static_spec hnamed hmethM hstat
  obtain ⟨kP, hkP, -⟩ := className_of_methodNamed hnamed
  have hinitP : kP.init = .initialized := Cond.initialized_spec (findClass_of_methodNamed hnamed) hkP hinit
  obtain ⟨vm₁, X₁, hstep₁⟩ := X.invokestatic hexec hown hlink hnamed hmethM hstatic hkP hinitP hy (g := g) hg (argsL := argsL) (rest := rest) (hlen _ hsigM) hstack hdg
  obtain ⟨v, B, X', hpost, hsteps⟩ := hK m meth c ⟨T.setVm vm₁, locs, cells, slots⟩ { g with stack := rest } (.invokestatic index) mk argsL.toArray X₁ hg hsize hdg hW (X₁.named hnamed) (hpre vm₁ X₁.warmed)
  exact ⟨v, vm₁, B, X₁.warmed, X', hpost, fun target h => hstep₁ _ fun acts => by rw [doInvoke_state]; exact hsteps.trans h⟩
theorem vx_runSW {y : MethodName} {bytes cc : ByteArray} {maxL nL mc ms n index : Nat} {ret : Option FieldType} {hh : List (Nat × Nat × Nat × Nat)} {ws : List Cond} {rm : Room} {Pc : Array Value → State → Prop} {Qc : Array Value → State → Outcome → State → Prop} {free : Addr → Prop} {Ts : List Cond} {own : String} {As rest : List Value} {g : JFrame}
    (S : CallFix p m c cc nL s args Ts own) (hM : Met l y ws rm Pc Qc mc ms free) (cw : vx_CSW R s args own index y bytes maxL ret hh ws rm mc ms n) (hp : PreS s H Pc As)
    (hg : g.method = m) (hn : As.length = n) (hsize : g.locals.size = nL) (hstack : g.stack = As.reverse ++ rest) (hW : 2 * g.monitorRoom + (rest.map fun v => v.category).sum ≤ 8) (hdg : decode cc g.pc = .ok (.invokestatic index, 3)) (hf : cells + mc ≤ R.cells ∧ slots + ms ≤ R.slots) :
    va_Run p l e R s m args below meth c H locs cells slots mc ms g rest (Qc As.toArray) (free) := by
  obtain ⟨⟨hrc, hrs, hfr, hlo, hws, hcw⟩, hcode, hini, hy, hlen, hl, hstt⟩ := cw
  have hK : Back l R p e below s args y 3 8 (PreOf R mc ms Pc) (PostOf Qc mc ms free) := va_backW (hh := hh) (bytes := bytes) (maxL := maxL) (ret := ret) hM hp.1 hrc hrs hfr hlo hws hcw (fun a' U hW => word_at hW (Or.inl (by first | rfl | simp [Cond.onTables, Cond.keeps, Cond.steady])) hini)
  obtain ⟨hx, hb, hml, ho, -⟩ := S
  intro T hT X
  obtain ⟨v, vm₁, ⟨U', l2, c2, s2⟩, hW₁, X', ⟨g', mk, t, L, e1, e2, hq, h1, hL, h2, h3⟩, st⟩ := vx_callSW X hx (hh := hh) (bytes := bytes) (maxL := maxL) (ret := ret) ho hl hstt hini hcode hy hK hg (hsize.trans hml.symm) (argsL := As) (rest := rest) (fun sig h => hn.trans (hlen sig h)) hstack hW (by rw [hb]; exact hdg)
    (fun vm₁ hW₁ => ⟨hf.1, hf.2, hp.2 (T.setVm vm₁) hT hW₁⟩)
  dsimp only [Pt.U, Pt.locs, Pt.cells, Pt.slots] at X' e1 e2 h1 h2 h3 st
  subst h1; subst h2; subst h3
  exact ⟨v, (T.setVm vm₁).calling g' mk As.toArray, t, U', L, hT, X', hL, e1, e2, hq, st⟩
/-- not caught here, past rows that name other classes: it goes on to the caller -/
theorem vx_outP {p : Program} {l : Launch} {e : Env} {R : Room} {s : State} {m : MethodId} {args : Array Value} {below : List Frame} {meth : Method} {c : Code} {H : Heap} {locs : List Loc} {cells slots : Nat} {free : Addr → Prop} {ls : Array Slot} {rest : List Value} {Qc : Array Value → State → Outcome → State → Prop} {XC : String → State → State → Prop}
    {pc : Nat} {own E : String} {ce : Cell} {q : Addr} {mc ms : Nat} (hown : s.vm.findClass own = some m.cls) (hlocks : meth.locks = false)
    (hpass : ∀ z ∈ c.exceptionTable.toList, covers z pc = false ∨ (z.catchType ≠ 0 ∧ ∃ nm : String, (Cond.classLink own z.catchType nm).before args s = true ∧ va_Nc E nm s)) (hcell : H[q]? = some ce) (hv : ce.vm = .none) (hcl : s.vm.findClass E = some ce.cls)
    (hx : ∀ t : State, t.heap = H → s.vm.Alike t.vm → XC E s t) (hf : ∀ z ∈ locs, free z.base) (hc : cells ≤ mc) (hs : slots ≤ ms) :
    vx_W p l e R s m args below meth c H locs cells slots (vx_MQ below Qc XC args s mc ms free) (F0 m pc ls rest) q := by
  intro T hT X
  have hpl : e.platform.magicAccessors = ({} : Platform).magicAccessors := by rw [X.admits.platform]
  obtain ⟨vm', hW', X', st⟩ := X.outThrough hlocks q (g := F0 m pc ls rest) rfl rfl rfl (cell := ce) (by rw [hT]; exact hcell) (by rw [hv]; rfl)
    (by obtain ⟨k9, h9, -⟩ := Vm.findClass_spec hcl; exact ⟨k9, h9⟩) (fun z hz => by
      rcases hpass z hz with h | ⟨hz0, nm, hl1, hn1⟩
      · exact Or.inl h
      · obtain ⟨c6, hc6, hcl6⟩ := Cond.classLink_spec hown hl1 e.platform hpl
        obtain ⟨a8, b8, h1, h2, h3⟩ := hn1
        cases Option.some.inj (h1.symm.trans hcl)
        cases Option.some.inj (h2.symm.trans hc6)
        exact Or.inr ⟨hz0, _, hcl6, h3⟩)
  obtain ⟨g₀, hfr⟩ := X'.frames_eq
  have hcell9 : ((T.setVm vm').setFrames (.throwing q :: below)).heap[q]? = some ce := by
    show T.heap[q]? = some ce
    rw [hT]; exact hcell
  have hend : Ended ((T.setVm vm').setFrames (.throwing q :: below)) below (.threw q) := State.frames_setFrames _ (State.cur_lt_of_frames hfr)
  refine ⟨(T.setVm vm').setFrames (.throwing q :: below), ?_, .threw q, X'.here.running, hend, Or.inr ⟨q, rfl, E, ce, locs, hx _ hT (X'.ends _).1.alike, hcell9, hv, hcl, (X'.ends _).1, (X'.ends _).2.mono hc hs, hf⟩⟩
  rw [X.pushThrowing_eq]
  exact st
/-- a thing of a world lies in the heap -/
theorem vx_lt {D : va_G} {cl : List vw_C} {ws : va_W} {H1 : Heap} (h : va_P D cl ws H1) {k : Nat} {q : Nat × va_E} (hk : ws[k]? = some q) : q.1 < H1.size := (h k q hk).lt
end VXS
/-! ===== END ===== -/
/-! ===== BEGIN methods with a table of their own: called by a name, returning or throwing ===== -/
section VXH
/-! vx_backW, vx_callVX, vx_callSX, vx_callVW, vx_runVW, vx_runVX, vx_runSX, vx_ofWH follow the same proofs as their sisters above (Free/Laws.lean, Shelf42/LK1.lean); vx_outP calls Shelf42/NT130.lean (outThrough). -/
section
variable {l : Launch} {R : Room} {p : Program} {e : Env} {below : List Frame} {s : State} {sargs : Array Value} {y : MethodName} {len W9 : Nat}
theorem vx_backW {ws : List Cond} {rm : Room} {Pc : Array Value → State → Prop} {Qc : Array Value → State → Outcome → State → Prop} {XC : String → State → State → Prop} {mc ms : Nat} {free : Addr → Prop} {bytes : ByteArray} {maxL : Nat} {ret : Option FieldType} {hh : List (Nat × Nat × Nat × Nat)}
    (hM : vx_Met l y ws rm Pc Qc XC mc ms free) (hblind : FrameBlind Pc) (hrc : rm.cells = mc) (hrs : rm.slots = ms)
    (hframes : rm.frames + 1 ≤ R.frames) (hlocals : W9 + (maxL + 11) + rm.locals ≤ R.locals)
    (hws : ∀ w ∈ ws, ∀ a' U, s.WarmedH U.vm → w.before a' U = true) (hcode : Cond.codeWith y bytes maxL ret hh ∈ ws) (hinit : ∀ a' U, s.WarmedH U.vm → (Cond.initialized y.cls).before a' U = true) :
    vx_Back l R p e below s sargs y len W9 (PreOf R mc ms Pc) (PostOf Qc mc ms free) (vx_Post XC mc ms free) := by
  intro m meth c A g ig mk a X hg hsize hdg hW hn hp
  have h1 : (headSpec ws rm).pre.before a A.U = true := atoms_intro fun w hw => hws w hw _ _ X.warmed
  have h2 : (Cond.codeWith y bytes maxL ret hh).before a A.U = true := hws _ hcode _ _ X.warmed
  have h3 : (Cond.initialized y.cls).before a A.U = true := hinit _ _ X.warmed
  have h4 : A.cells + (headSpec ws rm).room.cells ≤ R.cells := by rw [show (headSpec ws rm).room.cells = mc from hrc]; exact hp.1
  have h5 : A.slots + (headSpec ws rm).room.slots ≤ R.slots := by rw [show (headSpec ws rm).room.slots = ms from hrs]; exact hp.2.1
  have hPc : Pc a (A.U.calling g mk a) := hblind _ _ _ _ hp.2.2
  obtain ⟨U, Ls, c0, s0⟩ := A
  dsimp only [Pt.U, Pt.locs, Pt.cells, Pt.slots] at h1 h2 h3 h4 h5 X hn hPc ⊢
  obtain ⟨m9, methY, cY, hn9, hmY, hcY, -, hlY, -⟩ := Cond.codeWith_spec h2
  cases Option.some.inj (hn9.symm.trans hn)
  obtain ⟨kY, hkY, -⟩ := className_of_methodNamed hn
  have hinitY : kY.init = .initialized := Cond.initialized_spec (findClass_of_methodNamed hn) hkY h3
  have h : At U g.method c below := by rw [hg]; exact X.here
  have hlocals9 : W9 + (maxL + 11) + (headSpec ws rm).room.locals ≤ R.locals := hlocals
  have happ : (headSpec ws rm).appliesLoose y e.platform (U.calling g mk a) = true :=
    Spec.appliesLoose_calling (g := g) h hdg hn hkY hinitY
      (X.room_calling (g := g) (R' := (headSpec ws rm).room) hsize hmY hcY hframes (by rw [hlY]; omega) h4 h5) h1
  obtain ⟨mid, hmid⟩ := h.above
  have hfr : (U.setTop g).frames = (.java g :: mid) ++ below := by rw [State.frames_setTop' g h.top, hmid]; rfl
  obtain ⟨o, s₂, hsteps, -, hend, hq⟩ := Steps.callFree hM p X.admits X.cas X.clock (acts := []) hfr happ hPc trivial
  have hq' : vx_Q Qc XC mc ms free a (U.calling g mk a) o s₂ := hq
  rw [State.frames_setTop' g h.top] at hend
  obtain ⟨g₀, hg0⟩ := Option.isSome_iff_exists.mp h.top
  obtain ⟨r, hr⟩ := State.topJava?_eq_some.mp hg0
  have hr' : (({ U with heap := s₂.heap, slotsUsed := s₂.slotsUsed } : State).setVm s₂.vm).frames = .java g₀ :: r := hr
  rcases hq' with ⟨hqc, L, hfe, hL⟩ | ⟨q, rfl, E, ce, L, hx, hce, hcv, hcl, hW₂, hsm, hL⟩
  · obtain ⟨⟨v, rfl⟩, hW₂, e2, q2, q3, q4, q5, q6⟩ := id hfe
    have e3 : s₂ = ({ (U.calling g mk a).setFrames s₂.frames with heap := s₂.heap, slotsUsed := s₂.slotsUsed } : State).setVm s₂.vm := by
      have : s₂ = ({ s₂ with vm := (U.calling g mk a).vm } : State).setVm s₂.vm := rfl
      rw [e2] at this
      exact this
    obtain ⟨c₂, i₂, len₂, hc₂, hd₂, hf₂⟩ := hend
    have hW' : U.WarmedH s₂.vm := hW₂
    have hcc : c₂ = c := by
      have h1 : s₂.code? g.method = U.code? g.method := by
        rw [State.code?_eq, State.code?_eq, hW'.alike.method?]
      exact Option.some.inj (hc₂.symm.trans (h1.trans h.code))
    subst hcc
    have hlen : len₂ = len := by rw [hdg] at hd₂; cases hd₂; rfl
    subst hlen
    have hs₂ : s₂ = (({ U with heap := s₂.heap, slotsUsed := s₂.slotsUsed } : State).setVm s₂.vm).setTop { g with pc := g.pc + len₂, stack := v.toList ++ g.stack } := by
      refine e3.trans ?_
      rw [hf₂, State.calling_eq h.top, State.setFrames_setFrames, State.setTop_of_frames _ hr', hr]
      rfl
    have hsame : U.sameButNew ({ U with heap := s₂.heap, slotsUsed := s₂.slotsUsed } : State) L mc ms := by
      refine ⟨?_, q2, q3, q4, q5, q6⟩
      obtain ⟨t, ht, -⟩ := State.frames_cons hr
      show ({ U with heap := s₂.heap, slotsUsed := s₂.slotsUsed } : State) = { U.setFrames U.frames with heap := s₂.heap, slotsUsed := s₂.slotsUsed }
      rw [State.setFrames_self ht]
    subst hg
    refine Or.inl ⟨v, ⟨(({ U with heap := s₂.heap, slotsUsed := s₂.slotsUsed } : State).setVm s₂.vm), Ls ++ L, c0 + mc, s0 + ms⟩,
      ⟨X.admits, X.cas, X.clock, X.frames, X.room, X.hears, X.method, X.code, (X.here.setHeapUsed s₂.heap s₂.slotsUsed).setVm hW'.alike, X.tail, State.WarmedH.trans X.warmed hW', X.limits, X.bytes, X.same.trans (hsame.setVm s.vm)⟩,
      ⟨g, mk, s₂, L, rfl, rfl, hqc, rfl, hL, rfl, rfl⟩, ?_⟩
    show Steps p.tables e below _ ((({ U with heap := s₂.heap, slotsUsed := s₂.slotsUsed } : State).setVm s₂.vm).setTop { g with pc := g.pc + len₂, stack := v.toList ++ g.stack })
    rw [← hs₂]
    exact hsteps
  · obtain ⟨e2, q2, q3, q4, q5, q6⟩ := id hsm
    have e3 : s₂ = ({ (U.calling g mk a).setFrames s₂.frames with heap := s₂.heap, slotsUsed := s₂.slotsUsed } : State).setVm s₂.vm := by
      have : s₂ = ({ s₂ with vm := (U.calling g mk a).vm } : State).setVm s₂.vm := rfl
      rw [e2] at this
      exact this
    have hf₂ : s₂.frames = .throwing q :: .java g :: U.frames.tail := hend
    have hW' : U.WarmedH s₂.vm := hW₂
    have hs₂ : s₂ = ((({ U with heap := s₂.heap, slotsUsed := s₂.slotsUsed } : State).setVm s₂.vm).setTop g).pushFrame (.throwing q) := by
      refine e3.trans ?_
      rw [hf₂, State.calling_eq h.top, State.setFrames_setFrames, State.pushFrame, State.frames_setTop _ hr', State.setTop_of_frames _ hr', State.setFrames_setFrames, hr]
      rfl
    have hsame : U.sameButNew ({ U with heap := s₂.heap, slotsUsed := s₂.slotsUsed } : State) L mc ms := by
      refine ⟨?_, q2, q3, q4, q5, q6⟩
      obtain ⟨t, ht, -⟩ := State.frames_cons hr
      show ({ U with heap := s₂.heap, slotsUsed := s₂.slotsUsed } : State) = { U.setFrames U.frames with heap := s₂.heap, slotsUsed := s₂.slotsUsed }
      rw [State.setFrames_self ht]
    subst hg
    refine Or.inr ⟨q, ⟨(({ U with heap := s₂.heap, slotsUsed := s₂.slotsUsed } : State).setVm s₂.vm), Ls ++ L, c0 + mc, s0 + ms⟩,
      ⟨X.admits, X.cas, X.clock, X.frames, X.room, X.hears, X.method, X.code, (X.here.setHeapUsed s₂.heap s₂.slotsUsed).setVm hW'.alike, X.tail, State.WarmedH.trans X.warmed hW', X.limits, X.bytes, X.same.trans (hsame.setVm s.vm)⟩,
      ⟨g, mk, s₂, L, E, ce, rfl, rfl, hx, hce, hcv, hcl, rfl, hL, rfl, rfl⟩, ?_⟩
    show Steps p.tables e below _ (((({ U with heap := s₂.heap, slotsUsed := s₂.slotsUsed } : State).setVm s₂.vm).setTop g).pushFrame (.throwing q))
    rw [← hs₂]
    exact hsteps
end
variable {p : Program} {l : Launch} {e : Env} {R : Room} {s : State} {m : MethodId} {args : Array Value} {below : List Frame} {meth : Method} {c : Code} {T : State} {H : Heap} {locs : List Loc} {cells slots : Nat}
theorem vx_callVX (X : Stand p l e R s m args below meth c T locs cells slots) (hexec : p.tables.exec = Jvm.exec) {own C : String} {index : Nat} {y : MethodName} {bytes : ByteArray} {maxL : Nat} {ret : Option FieldType} {hh : List (Nat × Nat × Nat × Nat)}
    (hown : s.vm.findClass own = some m.cls) (hlink : (Cond.methodLink own index y).before args s = true) (hinst : (Cond.instanceMethod y).before args s = true) (hsel : (Cond.selects C y y).before args s = true)
    (hcode : (Cond.codeWith y bytes maxL ret hh).before args s = true) (hy : y.cls ≠ "java/lang/invoke/MethodHandle" ∧ y.cls ≠ "java/lang/invoke/VarHandle")
    {W9 : Nat} {Pre : Pt → Array Value → Prop} {Post : Pt → Array Value → Option Value → Pt → Prop} {PostX : Pt → Array Value → Addr → Pt → Prop} (hK : vx_Back l R p e below s args y 3 W9 Pre Post PostX)
    {b : Addr} {cellB : Cell} (hcell : T.heap[b]? = some cellB) (hobj : cellB.vm.isStatics = false) (hcls : s.vm.findClass C = some cellB.cls)
    {g : JFrame} (hg : g.method = m) (hsize : g.locals.size = c.maxLocals) {argsL rest : List Value} (hlen : ∀ sig, parseMethodDescriptor y.desc = some sig → argsL.length = sig.parameters.length)
    (hstack : g.stack = argsL.reverse ++ .ref b :: rest) (hW : 2 * g.monitorRoom + (rest.map fun v => v.category).sum ≤ W9) (hdg : decode c.code g.pc = .ok (.invokevirtual index, 3))
    (hpre : ∀ vm₁, s.WarmedH vm₁ → Pre ⟨T.setVm vm₁, locs, cells, slots⟩ (Value.ref b :: argsL).toArray) :
    (∃ (v : Option Value) (vm₁ : Vm) (B : Pt), s.WarmedH vm₁ ∧ Stand p l e R s m args below meth c B.U B.locs B.cells B.slots ∧ Post ⟨T.setVm vm₁, locs, cells, slots⟩ (Value.ref b :: argsL).toArray v B ∧
      ∀ target, Steps p.tables e below (B.U.setTop { g with pc := g.pc + 3, stack := v.toList ++ rest }) target → Steps p.tables e below (T.setTop g) target) ∨
    (∃ (q : Addr) (vm₁ : Vm) (B : Pt), s.WarmedH vm₁ ∧ Stand p l e R s m args below meth c B.U B.locs B.cells B.slots ∧ PostX ⟨T.setVm vm₁, locs, cells, slots⟩ (Value.ref b :: argsL).toArray q B ∧
      Steps p.tables e below (T.setTop g) ((B.U.setTop { g with stack := rest }).pushFrame (.throwing q))) := by
  obtain ⟨mk, methM, hnamed, hmethM, hstM, habM⟩ := Cond.instanceMethod_spec hinst
  obtain ⟨m8, methM', cM, hn8, hmethM', -, -, -, -, -, -, hsigM⟩ := Cond.codeWith_spec hcode
  cases Option.some.inj (hn8.symm.trans hnamed)
  cases hmethM.symm.trans hmethM'
  obtain ⟨c2, r2, m2, q1, q2, q3, q4, kP, hkP, hkPi⟩ := Cond.selects_spec hsel
  cases hcls.symm.trans q1
  cases (State.methodFound?_of_named hnamed hy).symm.trans q2
  cases hnamed.symm.trans q3
  have hselP : selectMethod e.platform s.vm cellB.cls mk = .method mk := by rw [Launch.admits_selectMethod X.admits]; exact q4
  obtain ⟨vm₁, X₁, hstep₁⟩ := X.invokevirtual hexec hown hlink hnamed hmethM hstM hkP hkPi hy (a := b) (cell := cellB) hcell
    (fun z h => by rw [h] at hobj; cases hobj) hselP hmethM habM hkP hkPi (g := g) hg (argsL := argsL) (rest := rest) (hlen _ hsigM) hstack hdg
  rcases hK m meth c ⟨T.setVm vm₁, locs, cells, slots⟩ { g with stack := rest } (.invokevirtual index) mk (Value.ref b :: argsL).toArray X₁ hg hsize hdg hW (X₁.named hnamed) (hpre vm₁ X₁.warmed) with ⟨v, B, X', hpost, hsteps⟩ | ⟨q, B, X', hpost, hsteps⟩
  · exact Or.inl ⟨v, vm₁, B, X₁.warmed, X', hpost, fun target h => hstep₁ _ fun acts => by rw [doInvoke_state]; exact hsteps.trans h⟩
  · exact Or.inr ⟨q, vm₁, B, X₁.warmed, X', hpost, hstep₁ _ fun acts => by rw [doInvoke_state]; exact hsteps⟩
theorem vx_callSX (X : Stand p l e R s m args below meth c T locs cells slots) (hexec : p.tables.exec = Jvm.exec) {own : String} {index : Nat} {y : MethodName} {bytes : ByteArray} {maxL : Nat} {ret : Option FieldType} {hh : List (Nat × Nat × Nat × Nat)}
    (hown : s.vm.findClass own = some m.cls) (hlink : (Cond.methodLink own index y).before args s = true) (hstat : (Cond.static y).before args s = true) (hinit : (Cond.initialized y.cls).before args s = true)
    (hcode : (Cond.codeWith y bytes maxL ret hh).before args s = true) (hy : y.cls ≠ "java/lang/invoke/MethodHandle" ∧ y.cls ≠ "java/lang/invoke/VarHandle")
    {W9 : Nat} {Pre : Pt → Array Value → Prop} {Post : Pt → Array Value → Option Value → Pt → Prop} {PostX : Pt → Array Value → Addr → Pt → Prop} (hK : vx_Back l R p e below s args y 3 W9 Pre Post PostX)
    {g : JFrame} (hg : g.method = m) (hsize : g.locals.size = c.maxLocals) {argsL rest : List Value} (hlen : ∀ sig, parseMethodDescriptor y.desc = some sig → argsL.length = sig.parameters.length)
    (hstack : g.stack = argsL.reverse ++ rest) (hW : 2 * g.monitorRoom + (rest.map fun v => v.category).sum ≤ W9) (hdg : decode c.code g.pc = .ok (.invokestatic index, 3))
    (hpre : ∀ vm₁, s.WarmedH vm₁ → Pre ⟨T.setVm vm₁, locs, cells, slots⟩ argsL.toArray) :
    (∃ (v : Option Value) (vm₁ : Vm) (B : Pt), s.WarmedH vm₁ ∧ Stand p l e R s m args below meth c B.U B.locs B.cells B.slots ∧ Post ⟨T.setVm vm₁, locs, cells, slots⟩ argsL.toArray v B ∧
      ∀ target, Steps p.tables e below (B.U.setTop { g with pc := g.pc + 3, stack := v.toList ++ rest }) target → Steps p.tables e below (T.setTop g) target) ∨
    (∃ (q : Addr) (vm₁ : Vm) (B : Pt), s.WarmedH vm₁ ∧ Stand p l e R s m args below meth c B.U B.locs B.cells B.slots ∧ PostX ⟨T.setVm vm₁, locs, cells, slots⟩ argsL.toArray q B ∧
      Steps p.tables e below (T.setTop g) ((B.U.setTop { g with stack := rest }).pushFrame (.throwing q))) := by
  obtain ⟨mk, methM, cM, hnamed, hmethM, -, -, -, -, -, -, hsigM⟩ := Cond.codeWith_spec hcode
  have hstatic : methM.isStatic = true := Cond.static_spec hnamed hmethM hstat
  obtain ⟨kP, hkP, -⟩ := className_of_methodNamed hnamed
  have hinitP : kP.init = .initialized := Cond.initialized_spec (findClass_of_methodNamed hnamed) hkP hinit
  obtain ⟨vm₁, X₁, hstep₁⟩ := X.invokestatic hexec hown hlink hnamed hmethM hstatic hkP hinitP hy (g := g) hg (argsL := argsL) (rest := rest) (hlen _ hsigM) hstack hdg
  rcases hK m meth c ⟨T.setVm vm₁, locs, cells, slots⟩ { g with stack := rest } (.invokestatic index) mk argsL.toArray X₁ hg hsize hdg hW (X₁.named hnamed) (hpre vm₁ X₁.warmed) with ⟨v, B, X', hpost, hsteps⟩ | ⟨q, B, X', hpost, hsteps⟩
  · exact Or.inl ⟨v, vm₁, B, X₁.warmed, X', hpost, fun target h => hstep₁ _ fun acts => by rw [doInvoke_state]; exact hsteps.trans h⟩
  · exact Or.inr ⟨q, vm₁, B, X₁.warmed, X', hpost, hstep₁ _ fun acts => by rw [doInvoke_state]; exact hsteps⟩
theorem vx_callVW (X : Stand p l e R s m args below meth c T locs cells slots) (hexec : p.tables.exec = Jvm.exec) {own C : String} {index : Nat} {y : MethodName} {bytes : ByteArray} {maxL : Nat} {ret : Option FieldType} {hh : List (Nat × Nat × Nat × Nat)}
    (hown : s.vm.findClass own = some m.cls) (hlink : (Cond.methodLink own index y).before args s = true) (hinst : (Cond.instanceMethod y).before args s = true) (hsel : (Cond.selects C y y).before args s = true)
    (hcode : (Cond.codeWith y bytes maxL ret hh).before args s = true) (hy : y.cls ≠ "java/lang/invoke/MethodHandle" ∧ y.cls ≠ "java/lang/invoke/VarHandle")
    {W9 : Nat} {Pre : Pt → Array Value → Prop} {Post : Pt → Array Value → Option Value → Pt → Prop} (hK : Back l R p e below s args y 3 W9 Pre Post)
    {b : Addr} {cellB : Cell} (hcell : T.heap[b]? = some cellB) (hobj : cellB.vm.isStatics = false) (hcls : s.vm.findClass C = some cellB.cls)
    {g : JFrame} (hg : g.method = m) (hsize : g.locals.size = c.maxLocals) {argsL rest : List Value} (hlen : ∀ sig, parseMethodDescriptor y.desc = some sig → argsL.length = sig.parameters.length)
    (hstack : g.stack = argsL.reverse ++ .ref b :: rest) (hW : 2 * g.monitorRoom + (rest.map fun v => v.category).sum ≤ W9) (hdg : decode c.code g.pc = .ok (.invokevirtual index, 3))
    (hpre : ∀ vm₁, s.WarmedH vm₁ → Pre ⟨T.setVm vm₁, locs, cells, slots⟩ (Value.ref b :: argsL).toArray) :
    ∃ (v : Option Value) (vm₁ : Vm) (B : Pt), s.WarmedH vm₁ ∧ Stand p l e R s m args below meth c B.U B.locs B.cells B.slots ∧ Post ⟨T.setVm vm₁, locs, cells, slots⟩ (Value.ref b :: argsL).toArray v B ∧
      ∀ target, Steps p.tables e below (B.U.setTop { g with pc := g.pc + 3, stack := v.toList ++ rest }) target → Steps p.tables e below (T.setTop g) target := by
  obtain ⟨mk, methM, hnamed, hmethM, hstM, habM⟩ := Cond.instanceMethod_spec hinst
  obtain ⟨m8, methM', cM, hn8, hmethM', -, -, -, -, -, -, hsigM⟩ := Cond.codeWith_spec hcode
  cases Option.some.inj (hn8.symm.trans hnamed)
  cases hmethM.symm.trans hmethM'
  obtain ⟨c2, r2, m2, q1, q2, q3, q4, kP, hkP, hkPi⟩ := Cond.selects_spec hsel
  cases hcls.symm.trans q1
  cases (State.methodFound?_of_named hnamed hy).symm.trans q2
  cases hnamed.symm.trans q3
  have hselP : selectMethod e.platform s.vm cellB.cls mk = .method mk := by rw [Launch.admits_selectMethod X.admits]; exact q4
  obtain ⟨vm₁, X₁, hstep₁⟩ := X.invokevirtual hexec hown hlink hnamed hmethM hstM hkP hkPi hy (a := b) (cell := cellB) hcell
    (fun z h => by rw [h] at hobj; cases hobj) hselP hmethM habM hkP hkPi (g := g) hg (argsL := argsL) (rest := rest) (hlen _ hsigM) hstack hdg
  obtain ⟨v, B, X', hpost, hsteps⟩ := hK m meth c ⟨T.setVm vm₁, locs, cells, slots⟩ { g with stack := rest } (.invokevirtual index) mk (Value.ref b :: argsL).toArray X₁ hg hsize hdg hW (X₁.named hnamed) (hpre vm₁ X₁.warmed)
  exact ⟨v, vm₁, B, X₁.warmed, X', hpost, fun target h => hstep₁ _ fun acts => by rw [doInvoke_state]; exact hsteps.trans h⟩
abbrev vx_CVW (R : Room) (s : State) (args : Array Value) (own C : String) (index : Nat) (y : MethodName) (bytes : ByteArray) (maxL : Nat) (ret : Option FieldType) (hh : List (Nat × Nat × Nat × Nat)) (ws : List Cond) (rm : Room) (mc ms n : Nat) : Prop :=
  (rm.cells = mc ∧ rm.slots = ms ∧ rm.frames + 1 ≤ R.frames ∧ 8 + (maxL + 11) + rm.locals ≤ R.locals ∧ (∀ w ∈ ws, ∀ (a' : Array Value) (U : State), s.WarmedH U.vm → w.before a' U = true) ∧ Cond.codeWith y bytes maxL ret hh ∈ ws) ∧
  (Cond.codeWith y bytes maxL ret hh).before args s = true ∧ (Cond.initialized y.cls).before args s = true ∧ (y.cls ≠ "java/lang/invoke/MethodHandle" ∧ y.cls ≠ "java/lang/invoke/VarHandle") ∧
  (∀ sig, parseMethodDescriptor y.desc = some sig → n = sig.parameters.length) ∧ (Cond.methodLink own index y).before args s = true ∧ (Cond.instanceMethod y).before args s = true ∧ (Cond.selects C y y).before args s = true
theorem vx_cwVW {own C : String} {index maxL mc ms : Nat} {y : MethodName} {bytes : ByteArray} {ret : Option FieldType} {hh : List (Nat × Nat × Nat × Nat)} {Ts ws ws' : List Cond} {rm : Room} (n : Nat) (ht : ∀ w ∈ Ts, w.before args s = true) (hT : GoodIn Ts (wsV own index C y ws)) (hw : ws = Cond.codeWith y bytes maxL ret hh :: ws') (hrc : rm.cells = mc) (hrs : rm.slots = ms)
    (hd : y.cls = C ∧ y.cls ≠ "java/lang/invoke/MethodHandle" ∧ y.cls ≠ "java/lang/invoke/VarHandle" ∧ (parseMethodDescriptor y.desc).map (fun d => d.parameters.length) = some n) (hR : rm.frames + 1 ≤ R.frames ∧ 8 + (maxL + 11) + rm.locals ≤ R.locals) :
    vx_CVW R s args own C index y bytes maxL ret hh ws rm mc ms n := by
  obtain ⟨hC, hd⟩ := hd
  subst hC
  have ok : ∀ w ∈ wsV own index y.cls y ws, w.before args s = true := fun w h => ht w (hT w h).1
  have hG : GoodIn Ts ws := fun w h => hT w (by unfold wsV; exact List.mem_append_right _ h)
  have hc : Cond.codeWith y bytes maxL ret hh ∈ ws := by rw [hw]; exact List.mem_cons_self
  refine ⟨⟨hrc, hrs, hR.1, hR.2, pay_in ht hG, hc⟩, ht _ (hG _ hc).1, ok _ (by simp [wsV]), ⟨hd.1, hd.2.1⟩, fun sig h => ?_, ok _ (by simp [wsV]), ok _ (by simp [wsV]), ok _ (by simp [wsV])⟩
  have h2 := hd.2.2
  rw [h] at h2
  exact (Option.some.inj h2).symm
theorem vx_runVW {y : MethodName} {bytes cc : ByteArray} {maxL nL mc ms n index : Nat} {ret : Option FieldType} {hh : List (Nat × Nat × Nat × Nat)} {ws : List Cond} {rm : Room} {Pc : Array Value → State → Prop} {Qc : Array Value → State → Outcome → State → Prop} {free : Addr → Prop} {Ts : List Cond} {own C : String} {b : Addr} {As rest : List Value} {g : JFrame}
    (S : CallFix p m c cc nL s args Ts own) (hM : Met l y ws rm Pc Qc mc ms free) (cw : vx_CVW R s args own C index y bytes maxL ret hh ws rm mc ms n) (hp : PreV s H C b Pc As)
    (hg : g.method = m) (hn : As.length = n) (hsize : g.locals.size = nL) (hstack : g.stack = As.reverse ++ .ref b :: rest) (hW : 2 * g.monitorRoom + (rest.map fun v => v.category).sum ≤ 8) (hdg : decode cc g.pc = .ok (.invokevirtual index, 3)) (hf : cells + mc ≤ R.cells ∧ slots + ms ≤ R.slots) :
    va_Run p l e R s m args below meth c H locs cells slots mc ms g rest (Qc (Value.ref b :: As).toArray) free := by
  obtain ⟨⟨hrc, hrs, hfr, hlo, hws, hcw⟩, hcode, hini, hy, hlen, hl, hin, hse⟩ := cw
  have hK : Back l R p e below s args y 3 8 (PreOf R mc ms Pc) (PostOf Qc mc ms free) := va_backW (hh := hh) (bytes := bytes) (maxL := maxL) (ret := ret) hM hp.1 hrc hrs hfr hlo hws hcw (fun a' U hW => word_at hW (Or.inl (by first | rfl | simp [Cond.onTables, Cond.keeps, Cond.steady])) hini)
  obtain ⟨hx, hb, hml, ho, -⟩ := S
  obtain ⟨-, ⟨cellB, hcB, hoB, hclB⟩, hPc⟩ := hp
  intro T hT X
  obtain ⟨v, vm₁, ⟨U', l2, c2, s2⟩, hW₁, X', ⟨g', mk, t, L, e1, e2, hq, h1, hL, h2, h3⟩, st⟩ := vx_callVW X hx (C := C) (hh := hh) (bytes := bytes) (maxL := maxL) (ret := ret) ho hl hin hse hcode hy hK (by rw [hT]; exact hcB) hoB hclB hg (hsize.trans hml.symm) (argsL := As) (rest := rest) (fun sig h => hn.trans (hlen sig h)) hstack hW (by rw [hb]; exact hdg)
    (fun vm₁ hW₁ => ⟨hf.1, hf.2, hPc (T.setVm vm₁) hT hW₁⟩)
  dsimp only [Pt.U, Pt.locs, Pt.cells, Pt.slots] at X' e1 e2 h1 h2 h3 st
  subst h1; subst h2; subst h3
  exact ⟨v, (T.setVm vm₁).calling g' mk (Value.ref b :: As).toArray, t, U', L, hT, X', hL, e1, e2, hq, st⟩
section
variable {y : MethodName} {bytes cc : ByteArray} {maxL nL mc ms n index : Nat} {ret : Option FieldType} {ws : List Cond} {rm : Room} {Pc : Array Value → State → Prop} {Qc : Array Value → State → Outcome → State → Prop} {XC : String → State → State → Prop} {free : Addr → Prop} {Ts : List Cond} {own C : String} {b : Addr} {As rest : List Value} {g : JFrame}
theorem vx_runVX {hh : List (Nat × Nat × Nat × Nat)} (S : CallFix p m c cc nL s args Ts own) (hM : vx_Met l y ws rm Pc Qc XC mc ms free) (cw : vx_CVW R s args own C index y bytes maxL ret hh ws rm mc ms n) (hp : PreV s H C b Pc As)
    (hg : g.method = m) (hn : As.length = n) (hsize : g.locals.size = nL) (hstack : g.stack = As.reverse ++ .ref b :: rest) (hW : 2 * g.monitorRoom + (rest.map fun v => v.category).sum ≤ 8) (hdg : decode cc g.pc = .ok (.invokevirtual index, 3)) (hf : cells + mc ≤ R.cells ∧ slots + ms ≤ R.slots) :
    vx_Run p l e R s m args below meth c H locs cells slots mc ms g rest (Qc (Value.ref b :: As).toArray) XC free := by
  obtain ⟨⟨hrc, hrs, hfr, hlo, hws, hcw⟩, hcode, hini, hy, hlen, hl, hin, hse⟩ := cw
  have hK : vx_Back l R p e below s args y 3 8 (PreOf R mc ms Pc) (PostOf Qc mc ms free) (vx_Post XC mc ms free) := vx_backW (hh := hh) (bytes := bytes) (maxL := maxL) (ret := ret) hM hp.1 hrc hrs hfr hlo hws hcw (fun a' U hW => word_at hW (Or.inl (by first | rfl | simp [Cond.onTables, Cond.keeps, Cond.steady])) hini)
  obtain ⟨hx, hb, hml, ho, -⟩ := S
  obtain ⟨-, ⟨cellB, hcB, hoB, hclB⟩, hPc⟩ := hp
  intro T hT X
  rcases vx_callVX X hx (C := C) (hh := hh) (bytes := bytes) (maxL := maxL) (ret := ret) ho hl hin hse hcode hy hK (by rw [hT]; exact hcB) hoB hclB hg (hsize.trans hml.symm) (argsL := As) (rest := rest) (fun sig h => hn.trans (hlen sig h)) hstack hW (by rw [hb]; exact hdg)
    (fun vm₁ hW₁ => ⟨hf.1, hf.2, hPc (T.setVm vm₁) hT hW₁⟩) with ⟨v, vm₁, ⟨U', l2, c2, s2⟩, hW₁, X', ⟨g', mk, t, L, e1, e2, hq, h1, hL, h2, h3⟩, st⟩ | ⟨q, vm₁, ⟨U', l2, c2, s2⟩, hW₁, X', ⟨g', mk, t, L, E, ce, e1, e2, hq, hce, hcv, hcl, h1, hL, h2, h3⟩, st⟩
  · dsimp only [Pt.U, Pt.locs, Pt.cells, Pt.slots] at X' e1 e2 h1 h2 h3 st
    subst h1; subst h2; subst h3
    exact Or.inl ⟨v, (T.setVm vm₁).calling g' mk (Value.ref b :: As).toArray, t, U', L, hT, X', hL, e1, e2, hq, st⟩
  · dsimp only [Pt.U, Pt.locs, Pt.cells, Pt.slots] at X' e1 e2 h1 h2 h3 st hcl
    subst h1; subst h2; subst h3
    exact Or.inr ⟨q, (T.setVm vm₁).calling g' mk (Value.ref b :: As).toArray, t, U', L, E, ce, hT, X', hL, e1, e2, hq, hce, hcv, vx_cls hW₁ hcl, st⟩
theorem vx_runSX {hh : List (Nat × Nat × Nat × Nat)} (S : CallFix p m c cc nL s args Ts own) (hM : vx_Met l y ws rm Pc Qc XC mc ms free) (cw : vx_CSW R s args own index y bytes maxL ret hh ws rm mc ms n) (hp : PreS s H Pc As)
    (hg : g.method = m) (hn : As.length = n) (hsize : g.locals.size = nL) (hstack : g.stack = As.reverse ++ rest) (hW : 2 * g.monitorRoom + (rest.map fun v => v.category).sum ≤ 8) (hdg : decode cc g.pc = .ok (.invokestatic index, 3)) (hf : cells + mc ≤ R.cells ∧ slots + ms ≤ R.slots) :
    vx_Run p l e R s m args below meth c H locs cells slots mc ms g rest (Qc As.toArray) XC free := by
  obtain ⟨⟨hrc, hrs, hfr, hlo, hws, hcw⟩, hcode, hini, hy, hlen, hl, hstt⟩ := cw
  have hK : vx_Back l R p e below s args y 3 8 (PreOf R mc ms Pc) (PostOf Qc mc ms free) (vx_Post XC mc ms free) := vx_backW (hh := hh) (bytes := bytes) (maxL := maxL) (ret := ret) hM hp.1 hrc hrs hfr hlo hws hcw (fun a' U hW => word_at hW (Or.inl (by first | rfl | simp [Cond.onTables, Cond.keeps, Cond.steady])) hini)
  obtain ⟨hx, hb, hml, ho, -⟩ := S
  intro T hT X
  rcases vx_callSX X hx (hh := hh) (bytes := bytes) (maxL := maxL) (ret := ret) ho hl hstt hini hcode hy hK hg (hsize.trans hml.symm) (argsL := As) (rest := rest) (fun sig h => hn.trans (hlen sig h)) hstack hW (by rw [hb]; exact hdg)
    (fun vm₁ hW₁ => ⟨hf.1, hf.2, hp.2 (T.setVm vm₁) hT hW₁⟩) with ⟨v, vm₁, ⟨U', l2, c2, s2⟩, hW₁, X', ⟨g', mk, t, L, e1, e2, hq, h1, hL, h2, h3⟩, st⟩ | ⟨q, vm₁, ⟨U', l2, c2, s2⟩, hW₁, X', ⟨g', mk, t, L, E, ce, e1, e2, hq, hce, hcv, hcl, h1, hL, h2, h3⟩, st⟩
  · dsimp only [Pt.U, Pt.locs, Pt.cells, Pt.slots] at X' e1 e2 h1 h2 h3 st
    subst h1; subst h2; subst h3
    exact Or.inl ⟨v, (T.setVm vm₁).calling g' mk As.toArray, t, U', L, hT, X', hL, e1, e2, hq, st⟩
  · dsimp only [Pt.U, Pt.locs, Pt.cells, Pt.slots] at X' e1 e2 h1 h2 h3 st hcl
    subst h1; subst h2; subst h3
    exact Or.inr ⟨q, (T.setVm vm₁).calling g' mk As.toArray, t, U', L, E, ce, hT, X', hL, e1, e2, hq, hce, hcv, vx_cls hW₁ hcl, st⟩
end
end VXH
theorem vx_ofWH {l : Launch} {y : MethodName} {ws ws' : List Cond} {rm : Room} {Pc : Array Value → State → Prop} {Qc : Array Value → State → Outcome → State → Prop} {XC : String → State → State → Prop} {mc ms : Nat} {free : Addr → Prop} {cc : ByteArray} {maxL : Nat} {ret : Option FieldType} {hh : List (Nat × Nat × Nat × Nat)}
    (hy : plainName y.cls = true) (hw : ws = Cond.codeWith y cc maxL ret hh :: ws')
    (body : ∀ p e s m args below meth c s₁, BodyLoose p l y (headSpec ws rm) cc maxL ret e s m args below meth c s₁ → c.maxLocals = maxL → Pc args s →
      W p l e (headSpec ws rm).room s m args below meth c s.heap [] 0 0 (vx_MQ below Qc XC args s mc ms free) (entryFrame m args maxL)) : vx_Met l y ws rm Pc Qc XC mc ms free := by
  refine MetFree.of_bodyS (code := cc) (maxLocals := maxL) (ret := ret) hy ?_ ?_
  · intro args s m h hn
    obtain ⟨m9, meth, c, hn9, h1, h2, h3, h4, -, h5, h6, -⟩ := Cond.codeWith_spec (atoms_spec (ws := ws) h _ (by rw [hw]; exact List.mem_cons_self))
    cases hn.symm.trans hn9
    exact ⟨meth, c, h1, h2, h3, h4, h5, h6⟩
  · intro p e s m args below meth c s₁ B hml hP _
    have hh0 : s₁.heap = s.heap := by rw [B.state]; rfl
    obtain ⟨t, a1, o, b1, b2, b3⟩ := body p e s m args below meth c s₁ B hml hP s₁ hh0 (Stand.of_body B)
    exact ⟨t, o, a1, b1, b2, b3⟩
/-! ===== END ===== -/
end
section
/-! THE RUNNER: a small machine for the instructions that the claim's methods have, over a heap of its own (objects by number, in the order in which they are made). What it does, the machine does: part 04. -/
/-- what lies at a place: an array (its type, its length, its cells), or an object (its class, its fields) -/
abbrev xrE : Type := (FieldType × vp_A) ⊕ (Nat × List Value)
/-- how many cells and slots were ever made; how many objects; what they are -/
abbrev xrH : Type := Nat × Nat × Nat × (Nat → xrE)
abbrev xrL : Type := List (Nat × Value)
abbrev xrF : Type := Nat × xrL × List Value
/-- a value (or none), or the number of an exception -/
abbrev xrO : Type := Option Value ⊕ Nat
abbrev xrC : Type := List (Nat × Instr × Nat)
/-- class, parameters, name; bytes, locals, what it returns; its table (from, to, handler, catch entry, exception); its code -/
abbrev xrM : Type := (Nat × Nat × MethodName) × (ByteArray × Nat × Option FieldType) × List (Nat × Nat × Nat × Nat × Nat) × xrC
/-- methods; classes; what a new object has; the script -/
abbrev xrT : Type := List xrM × List vw_C × (Nat → List Value) × Nat × (Nat → Int32)
abbrev xr_ci (M : xrM) : Nat := M.1.1
abbrev xr_np (M : xrM) : Nat := M.1.2.1
abbrev xr_nm (M : xrM) : MethodName := M.1.2.2
abbrev xr_by (M : xrM) : ByteArray := M.2.1.1
abbrev xr_mx (M : xrM) : Nat := M.2.1.2.1
abbrev xr_rt (M : xrM) : Option FieldType := M.2.1.2.2
abbrev xr_hd (M : xrM) : List (Nat × Nat × Nat × Nat × Nat) := M.2.2.1
abbrev xr_cd (M : xrM) : xrC := M.2.2.2
abbrev xr_M (h : xrH) : Nat → xrE := h.2.2.2
abbrev xr_sz (h : xrH) : Nat := h.2.2.1
/-- the heap with another thing at a place -/
def xr_put (h : xrH) (a : Nat) (e : xrE) : xrH := (h.1, h.2.1, h.2.2.1, va_up h.2.2.2 a e)
/-- the heap with one thing more, of so many slots -/
def xr_new (h : xrH) (k : Nat) (e : xrE) : xrH := (h.1 + 1, h.2.1 + k, h.2.2.1 + 1, va_up h.2.2.2 h.2.2.1 e)
/-- .. and with an exception more, that is no object here -/
def xr_exc (h : xrH) : xrH := (h.1 + 1, h.2.1 + 6, h.2.2.1, h.2.2.2)
def xr_fetch : xrC → Nat → Option (Instr × Nat)
  | [], _ => none
  | q :: t, pc => bif Nat.beq q.1 pc then some q.2 else xr_fetch t pc
def xr_get : xrL → Nat → Option Value
  | [], _ => none
  | q :: t, i => bif Nat.beq q.1 i then some q.2 else xr_get t i
def xr_st1 (L : xrL) (i : Nat) (v : Value) : xrL := (i, v) :: L.filter (fun q => !(q.1 == i) && !(q.1 + 1 == i && q.2.category == 2))
def xr_st2 (L : xrL) (i : Nat) (v : Value) : xrL := (i, v) :: L.filter (fun q => !(q.1 == i) && (!(q.1 == i + 1) && !(q.1 + 1 == i && q.2.category == 2)))
def xr_jmp (pc : Nat) (off : Int) : Option Nat := match (pc : Int) + off with
  | .ofNat t => some t
  | .negSucc _ => none
def xr_br {α : Type} (c : ClassFile.Cond) (x y : Int32) (A B : α) : α := match c with
  | .eq => if x = y then A else B
  | .ne => if x = y then B else A
  | .lt => if x < y then A else B
  | .ge => if y ≤ x then A else B
  | .gt => if y < x then A else B
  | .le => if x ≤ y then A else B
def xr_li (L : xrL) (k n pc : Nat) (st : List Value) (h : xrH) : Option (xrF × xrH) := match xr_get L k with
  | some (.int x) => some ((pc + n, L, .int x :: st), h)
  | _ => none
def xr_ll (L : xrL) (k n pc : Nat) (st : List Value) (h : xrH) : Option (xrF × xrH) := match xr_get L k with
  | some (.long x) => some ((pc + n, L, .long x :: st), h)
  | _ => none
def xr_la (L : xrL) (k n pc : Nat) (st : List Value) (h : xrH) : Option (xrF × xrH) := match xr_get L k with
  | some (.ref x) => some ((pc + n, L, .ref x :: st), h)
  | some .null => some ((pc + n, L, .null :: st), h)
  | some (.retAddr x) => some ((pc + n, L, .retAddr x :: st), h)
  | _ => none
def xr_si (L : xrL) (k n pc : Nat) (st : List Value) (h : xrH) : Option (xrF × xrH) := match st with
  | .int x :: r => some ((pc + n, xr_st1 L k (.int x), r), h)
  | _ => none
def xr_sl (L : xrL) (k n pc : Nat) (st : List Value) (h : xrH) : Option (xrF × xrH) := match st with
  | .long x :: r => some ((pc + n, xr_st2 L k (.long x), r), h)
  | _ => none
def xr_sa (L : xrL) (k n pc : Nat) (st : List Value) (h : xrH) : Option (xrF × xrH) := match st with
  | .ref x :: r => some ((pc + n, xr_st1 L k (.ref x), r), h)
  | .null :: r => some ((pc + n, xr_st1 L k .null, r), h)
  | .retAddr x :: r => some ((pc + n, xr_st1 L k (.retAddr x), r), h)
  | _ => none
def xr_bi (f : Int32 → Int32 → Int32) (n pc : Nat) (L : xrL) (st : List Value) (h : xrH) : Option (xrF × xrH) := match st with
  | .int y :: .int x :: r => some ((pc + n, L, .int (f x y) :: r), h)
  | _ => none
def xr_bd (f : Int32 → Int32 → Int32) (n pc : Nat) (L : xrL) (st : List Value) (h : xrH) : Option (xrF × xrH) := match st with
  | .int y :: .int x :: r => if y = 0 then none else some ((pc + n, L, .int (f x y) :: r), h)
  | _ => none
def xr_bl (f : Int64 → Int64 → Int64) (n pc : Nat) (L : xrL) (st : List Value) (h : xrH) : Option (xrF × xrH) := match st with
  | .long y :: .long x :: r => some ((pc + n, L, .long (f x y) :: r), h)
  | _ => none
def xr_bs (f : Int64 → Int32 → Int64) (n pc : Nat) (L : xrL) (st : List Value) (h : xrH) : Option (xrF × xrH) := match st with
  | .int y :: .long x :: r => some ((pc + n, L, .long (f x y) :: r), h)
  | _ => none
def xr_to (pc : Nat) (off : Int) (L : xrL) (r : List Value) (h : xrH) : Option (xrF × xrH) := match xr_jmp pc off with
  | some t => some ((t, L, r), h)
  | none => none
/-- a read of an int array (boolean: the same cells), at an index that is looked at -/
def xr_ald (T : xrT) (ty : FieldType) (n pc : Nat) (L : xrL) (st : List Value) (h : xrH) : Option (xrF × xrH) := match st with
  | .int i :: .ref a :: r => match xr_M h a with
    | .inl (ty', m, .inl f) => if ty' = ty then (if i < 0 ∨ m ≤ i.toNatClampNeg then none else some ((pc + n, L, .int (f i.toNatClampNeg) :: r), h)) else none
    | _ => none
  | .int i :: .retAddr (_ + 1) :: r => if ty = .int then (if i < 0 ∨ T.2.2.2.1 ≤ i.toNatClampNeg then none else some ((pc + n, L, .int (T.2.2.2.2 i.toNatClampNeg) :: r), h)) else none
  | _ => none
def xr_ast (ty : FieldType) (n pc : Nat) (L : xrL) (st : List Value) (h : xrH) : Option (xrF × xrH) := match st with
  | .int x :: .int i :: .ref a :: r => match xr_M h a with
    | .inl (ty', m, .inl f) => if ty' = ty then (if i < 0 ∨ m ≤ i.toNatClampNeg then none else if ty = .int ∨ x = 0 ∨ x = 1 then some ((pc + n, L, r), xr_put h a (.inl (ty', m, .inl (upd f i.toNatClampNeg x)))) else none) else none
    | _ => none
  | _ => none
def xr_lald (n pc : Nat) (L : xrL) (st : List Value) (h : xrH) : Option (xrF × xrH) := match st with
  | .int i :: .ref a :: r => match xr_M h a with
    | .inl (.long, m, .inr (.inl f)) => if i < 0 ∨ m ≤ i.toNatClampNeg then none else some ((pc + n, L, .long (f i.toNatClampNeg) :: r), h)
    | _ => none
  | _ => none
def xr_last (n pc : Nat) (L : xrL) (st : List Value) (h : xrH) : Option (xrF × xrH) := match st with
  | .long x :: .int i :: .ref a :: r => match xr_M h a with
    | .inl (.long, m, .inr (.inl f)) => if i < 0 ∨ m ≤ i.toNatClampNeg then none else some ((pc + n, L, r), xr_put h a (.inl (.long, m, .inr (.inl (vp_updL f i.toNatClampNeg x)))))
    | _ => none
  | _ => none
def xr_rf (r : Option Nat) : Value := match r with
  | none => .null
  | some a => .ref a
def xr_qald (n pc : Nat) (L : xrL) (st : List Value) (h : xrH) : Option (xrF × xrH) := match st with
  | .int i :: .ref a :: r => match xr_M h a with
    | .inl (.object _, m, .inr (.inr (.inr (.inr f)))) => if i < 0 ∨ m ≤ i.toNatClampNeg then none else some ((pc + n, L, xr_rf (f i.toNatClampNeg) :: r), h)
    | _ => none
  | _ => none
def xr_qast (T : xrT) (n pc : Nat) (L : xrL) (st : List Value) (h : xrH) : Option (xrF × xrH) := match st with
  | .ref v :: .int i :: .ref a :: r => match xr_M h a, xr_M h v with
    | .inl (.object C, m, .inr (.inr (.inr (.inr f)))), .inr (c, _) => match T.2.1[c]? with
      | some q => if q.1 = C then (if i < 0 ∨ m ≤ i.toNatClampNeg then none else some ((pc + n, L, r), xr_put h a (.inl (.object C, m, .inr (.inr (.inr (.inr (va_up f i.toNatClampNeg (some v))))))))) else none
      | none => none
    | _, _ => none
  | _ => none
def xr_len (T : xrT) (n pc : Nat) (L : xrL) (st : List Value) (h : xrH) : Option (xrF × xrH) := match st with
  | .ref a :: r => match xr_M h a with
    | .inl (_, m, _) => some ((pc + n, L, .int (Int32.ofNat m) :: r), h)
    | _ => none
  | .retAddr (_ + 1) :: r => some ((pc + n, L, .int (Int32.ofNat T.2.2.2.1) :: r), h)
  | _ => none
def xr_fld (f n pc : Nat) (L : xrL) (st : List Value) (h : xrH) : Option (xrF × xrH) := match st with
  | .ref a :: r => match xr_M h a with
    | .inr (c, fs) => bif Nat.beq c (f / 64) then (match fs[f % 64]? with
      | some v => some ((pc + n, L, v :: r), h)
      | none => none) else none
    | _ => none
  | _ => none
/-- what a field of a kind takes: 0 an int, 1 a boolean, 2 a reference -/
def xr_tak (k : Nat) (v : Value) : Bool := match v with
  | .int x => Nat.beq k 0 || (Nat.beq k 1 && (x == 0 || x == 1))
  | .ref _ => Nat.beq k 2
  | .null => Nat.beq k 2
  | _ => false
def xr_pfl (k f n pc : Nat) (L : xrL) (st : List Value) (h : xrH) : Option (xrF × xrH) := match st with
  | v :: .ref a :: r => match xr_M h a with
    | .inr (c, fs) => bif Nat.beq c (f / 64) && Nat.blt (f % 64) fs.length && xr_tak k v then some ((pc + n, L, r), xr_put h a (.inr (c, fs.set (f % 64) v))) else none
    | _ => none
  | _ => none
def xr_nwa (t : ArrayType) : Option vp_A := match t with
  | .int => some (0, .inl (fun _ => 0))
  | .boolean => some (0, .inl (fun _ => 0))
  | .long => some (0, .inr (.inl (fun _ => 0)))
  | _ => none
/-- how many units a stack has -/
def xr_cat (st : List Value) : Nat := (st.map fun v => v.category).sum
/-- one instruction that is no call and no return -/
def xr_s (T : xrT) (i : Instr) (n pc : Nat) (L : xrL) (st : List Value) (h : xrH) : Option (xrF × xrH) := match i with
  | .aconst_null => some ((pc + n, L, .null :: st), h)
  | .iconst v => some ((pc + n, L, .int (Int32.ofInt v) :: st), h)
  | .bipush v => some ((pc + n, L, .int (Int8.ofInt v).toInt32 :: st), h)
  | .sipush v => some ((pc + n, L, .int (Int16.ofInt v).toInt32 :: st), h)
  | .lconst k => some ((pc + n, L, .long (Int64.ofNat (k : Nat)) :: st), h)
  | .jsr_w v => some ((pc + n, L, .int (Int32.ofInt v) :: st), h)
  | .jsr v => some ((pc + n, L, .int (Int32.ofInt v) :: st), h)
  | .goto_w v => some ((pc + n, L, .long (Int64.ofInt v) :: st), h)
  | .iload k => xr_li L k n pc st h
  | .iload_n k => xr_li L k n pc st h
  | .lload k => xr_ll L k n pc st h
  | .lload_n k => xr_ll L k n pc st h
  | .aload k => xr_la L k n pc st h
  | .aload_n k => xr_la L k n pc st h
  | .istore k => xr_si L k n pc st h
  | .istore_n k => xr_si L k n pc st h
  | .lstore k => xr_sl L k n pc st h
  | .lstore_n k => xr_sl L k n pc st h
  | .astore k => xr_sa L k n pc st h
  | .astore_n k => xr_sa L k n pc st h
  | .iinc k v => match xr_get L k with
    | some (.int x) => some ((pc + n, xr_st1 L k (.int (x + Int32.ofInt v)), st), h)
    | _ => none
  | .iadd => xr_bi (fun x y => x + y) n pc L st h
  | .isub => xr_bi (fun x y => x - y) n pc L st h
  | .imul => xr_bi (fun x y => x * y) n pc L st h
  | .iand => xr_bi (fun x y => x &&& y) n pc L st h
  | .ior => xr_bi (fun x y => x ||| y) n pc L st h
  | .ixor => xr_bi (fun x y => x ^^^ y) n pc L st h
  | .ishl => xr_bi (fun x y => x <<< (y &&& 31)) n pc L st h
  | .ishr => xr_bi (fun x y => x >>> (y &&& 31)) n pc L st h
  | .idiv => xr_bd (fun x y => x / y) n pc L st h
  | .irem => xr_bd (fun x y => x - x / y * y) n pc L st h
  | .ineg => match st with
    | .int x :: r => some ((pc + n, L, .int (-x) :: r), h)
    | _ => none
  | .ladd => xr_bl (fun x y => x + y) n pc L st h
  | .lsub => xr_bl (fun x y => x - y) n pc L st h
  | .lmul => xr_bl (fun x y => x * y) n pc L st h
  | .land => xr_bl (fun x y => x &&& y) n pc L st h
  | .lor => xr_bl (fun x y => x ||| y) n pc L st h
  | .lshl => xr_bs (fun x y => x <<< (y.toInt64 &&& 63)) n pc L st h
  | .lshr => xr_bs (fun x y => x >>> (y.toInt64 &&& 63)) n pc L st h
  | .lushr => xr_bs (fun x y => (x.toUInt64 >>> (y.toInt64.toUInt64 &&& Int64.toUInt64 63)).toInt64) n pc L st h
  | .i2l => match st with
    | .int x :: r => some ((pc + n, L, .long x.toInt64 :: r), h)
    | _ => none
  | .l2i => match st with
    | .long x :: r => some ((pc + n, L, .int x.toInt32 :: r), h)
    | _ => none
  | .lcmp => match st with
    | .long y :: .long x :: r => some ((pc + n, L, .int (lg_cmp x y) :: r), h)
    | _ => none
  | .dup => match st with
    | v :: r => bif Nat.beq v.category 1 then some ((pc + n, L, v :: v :: r), h) else none
    | _ => none
  | .dup2 => match st with
    | v :: w :: r => bif Nat.beq v.category 1 && Nat.beq w.category 1 then some ((pc + n, L, v :: w :: v :: w :: r), h) else none
    | _ => none
  | .pop => match st with
    | v :: r => bif Nat.beq v.category 1 then some ((pc + n, L, r), h) else none
    | _ => none
  | .ifCond c off => match st with
    | .int x :: r => xr_br c x 0 (xr_to pc off L r h) (some ((pc + n, L, r), h))
    | _ => none
  | .if_icmp c off => match st with
    | .int y :: .int x :: r => xr_br c x y (xr_to pc off L r h) (some ((pc + n, L, r), h))
    | _ => none
  | .ifnull off => match st with
    | .null :: r => xr_to pc off L r h
    | .ref _ :: r => some ((pc + n, L, r), h)
    | _ => none
  | .ifnonnull off => match st with
    | .ref _ :: r => xr_to pc off L r h
    | .null :: r => some ((pc + n, L, r), h)
    | _ => none
  | .goto off => xr_to pc off L st h
  | .tableswitch d lo hi offs => match st with
    | .int x :: r => if x.toInt < lo ∨ hi < x.toInt then xr_to pc d L r h else match offs[(x.toInt - lo).toNat]? with
      | some off => xr_to pc off L r h
      | none => none
    | _ => none
  | .lookupswitch d ps => match st with
    | .int x :: r => xr_to pc (Op.lookupswitch.offset ps.toList d x.toInt) L r h
    | _ => none
  | .iaload => xr_ald T .int n pc L st h
  | .baload => xr_ald T .boolean n pc L st h
  | .iastore => xr_ast .int n pc L st h
  | .bastore => xr_ast .boolean n pc L st h
  | .laload => xr_lald n pc L st h
  | .lastore => xr_last n pc L st h
  | .aaload => xr_qald n pc L st h
  | .aastore => xr_qast T n pc L st h
  | .arraylength => xr_len T n pc L st h
  | .getfield f => xr_fld f n pc L st h
  | .putfield f => xr_pfl 0 f n pc L st h
  | .putstatic f => xr_pfl 1 f n pc L st h
  | .invokedynamic f => xr_pfl 2 f n pc L st h
  | .monitorexit => match st with
    | .ref _ :: r => bif Nat.ble (xr_cat r) 8 then some ((pc + n, L, r), h) else none
    | _ => none
  | .new c => some ((pc + n, L, .ref h.2.2.1 :: st), xr_new h (T.2.2.1 c).length (.inr (c, T.2.2.1 c)))
  | .newarray t => match st with
    | .int k :: r => if k < 0 ∨ 65536 < k.toNatClampNeg then none else match xr_nwa t with
      | some c => some ((pc + n, L, .ref h.2.2.1 :: r), xr_new h k.toNatClampNeg (.inl (newarray.typeOf t, k.toNatClampNeg, c.2)))
      | none => none
    | _ => none
  | .anewarray c => match st, T.2.1[c]? with
    | .int k :: r, some q => if k < 0 ∨ 65536 < k.toNatClampNeg then none else some ((pc + n, L, .ref h.2.2.1 :: r), xr_new h k.toNatClampNeg (.inl (.object q.1, k.toNatClampNeg, .inr (.inr (.inr (.inr (fun _ => none)))))))
    | _, _ => none
  | _ => none
/-- whether a value is what a method of a type returns -/
def xr_okr (rt : Option FieldType) (v : Value) : Bool := match rt, v with
  | some .int, .int _ => true
  | some .boolean, .int x => x == 0 || x == 1
  | some .long, .long _ => true
  | some (.object _), .ref _ => true
  | some (.object _), .null => true
  | _, _ => false
/-- the first row of a table that takes an exception that is thrown at a place -/
def xr_hnd : List (Nat × Nat × Nat × Nat × Nat) → Nat → Nat → Option Nat
  | [], _, _ => none
  | q :: t, pc, k => bif Nat.ble q.1 pc && Nat.blt pc q.2.1 && Nat.beq q.2.2.2.2 k then some q.2.2.1 else xr_hnd t pc k
/-- the arguments of a call of a method of so many of them, the first one last on the stack; and the rest -/
def xr_cut : Nat → List Value → List Value → Option (List Value × List Value)
  | 0, acc, st => some (acc, st)
  | _ + 1, _, [] => none
  | n + 1, acc, v :: st => xr_cut n (v :: acc) st
/-- the receiver is an object of the method's class -/
def xr_rcv (K : xrM) (h : xrH) : List Value → Bool
  | .ref a :: _ => match xr_M h a with
    | .inr (c, _) => Nat.beq c (xr_ci K)
    | _ => false
  | _ => false
/-- the kinds of calls: 0 a method of an object, 1 a constructor, 2 a static method -/
def xr_kind (i : Instr) : Option (Nat × Nat) := match i with
  | .invokevirtual k => some (0, k)
  | .invokespecial k => some (1, k)
  | .invokestatic k => some (2, k)
  | _ => none
/-- what a call takes: the callee, its arguments, the rest of the stack -/
def xr_call (T : xrT) (i : Instr) (st : List Value) (h : xrH) : Option (Nat × xrM × List Value × List Value) := match xr_kind i with
  | none => none
  | some (w, k) => match T.1[k]? with
    | none => none
    | some K => match xr_cut (xr_np K + (bif Nat.beq w 2 then 0 else 1)) [] st with
      | none => none
      | some (as, r) => bif Nat.ble (xr_cat r) 8 && Nat.ble (xr_cat as) (xr_mx K) && (Nat.beq w 2 || xr_rcv K h as) then some (k, K, as, r) else none
/-- a return: its value -/
def xr_end (M : xrM) (i : Instr) (st : List Value) : Option (Option Value) := match i with
  | .ireturn => match st with
    | [.int v] => bif xr_okr (xr_rt M) (.int v) then some (some (.int v)) else none
    | _ => none
  | .lreturn => match st with
    | [.long v] => bif xr_okr (xr_rt M) (.long v) then some (some (.long v)) else none
    | _ => none
  | .areturn => match st with
    | [.ref a] => bif xr_okr (xr_rt M) (.ref a) then some (some (.ref a)) else none
    | [.null] => bif xr_okr (xr_rt M) .null then some (some .null) else none
    | _ => none
  | .return_ => match st with
    | [] => (match xr_rt M with
      | none => some none
      | _ => none)
    | _ => none
  | _ => none
/-- 0 a step, 1 a return, 2 a throw, 3 a call, 4 of a constructor -/
def xr_what (i : Instr) : Nat := match i with
  | .ireturn => 1
  | .lreturn => 1
  | .areturn => 1
  | .return_ => 1
  | .multianewarray _ _ => 2
  | .invokevirtual _ => 3
  | .invokespecial _ => 4
  | .invokestatic _ => 3
  | _ => 0
def xr_exn (i : Instr) : Nat := match i with
  | .multianewarray k _ => k
  | _ => 0
/-- the run from a place of method j on, by so many steps at most (a call's steps count beside what follows it), calls so deep at most -/
def xr_run (T : xrT) : Nat → Nat → Nat → Nat → xrL → List Value → xrH → Option (xrO × xrH)
  | 0, _, _, _, _, _, _ => none
  | N + 1, d, j, pc, L, st, h => match T.1[j]? with
    | none => none
    | some M => match xr_fetch (xr_cd M) pc with
      | none => none
      | some (i, n) => match xr_what i with
        | 0 => match xr_s T i n pc L st h with
          | none => none
          | some (f, h1) => xr_run T N d j f.1 f.2.1 f.2.2 h1
        | 1 => match xr_end M i st with
          | none => none
          | some v => some (.inl v, h)
        | 2 => match xr_hd M with
          | [] => bif Nat.ble (xr_cat st) 8 && Nat.blt (xr_exn i) 3 then some (.inr (xr_exn i), xr_exc h) else none
          | _ => none
        | _ => match xr_call T i st h with
          | none => none
          | some (k, _, as, r) => match d with
            | 0 => none
            | d1 + 1 => match xr_run T N d1 k 0 (lv_args 0 as) [] h with
              | none => none
              | some (.inl v, h1) => xr_run T N (d1 + 1) j (pc + n) L (v.toList ++ r) h1
              | some (.inr k, h1) => bif Nat.beq (xr_what i) 4 then none else match xr_hnd (xr_hd M) pc k with
                | some t => xr_run T N (d1 + 1) j t L [.retAddr 0] h1
                | none => some (.inr k, h1)
end
section
/-! WHAT THE RUNNER'S VALUES AND HEAPS ARE IN THE MACHINE: a place is the number of an object, ads tells its address; retAddr 0 stands for any reference, retAddr (k + 1) for the script's. -/
def xr_V (ads : List Nat) (b : Nat) : Value → Value → Prop
  | .ref a, .ref q => ads[a]? = some q
  | .retAddr 0, .ref _ => True
  | .retAddr (_ + 1), .ref q => q = b
  | .int x, .int y => x = y
  | .long x, .long y => x = y
  | .null, .null => True
  | _, _ => False
def xr_Vs (ads : List Nat) (b : Nat) : List Value → List Value → Prop
  | [], [] => True
  | v :: r, v' :: r' => xr_V ads b v v' ∧ xr_Vs ads b r r'
  | _, _ => False
def xr_Ls (ads : List Nat) (b : Nat) : xrL → xrL → Prop
  | [], [] => True
  | v :: r, v' :: r' => v'.1 = v.1 ∧ xr_V ads b v.2 v'.2 ∧ xr_Ls ads b r r'
  | _, _ => False
/-- one list of addresses goes on with another one -/
def xr_le (a1 a2 : List Nat) : Prop := ∀ (a q : Nat), a1[a]? = some q → a2[a]? = some q
theorem xr_le.rf (a : List Nat) : xr_le a a := fun _ _ h => h
theorem xr_le.tr {a1 a2 a3 : List Nat} (h : xr_le a1 a2) (h2 : xr_le a2 a3) : xr_le a1 a3 := fun a q g => h2 a q (h a q g)
theorem xr_le.app (a1 a2 : List Nat) : xr_le a1 (a1 ++ a2) := fun a q h => by
  rw [List.getElem?_append_left (List.getElem?_eq_some_iff.mp h).1]; exact h
theorem xr_V.mono {a1 a2 : List Nat} {b : Nat} (h : xr_le a1 a2) : ∀ {v v' : Value}, xr_V a1 b v v' → xr_V a2 b v v' := by
  intro v v' g
  unfold xr_V at g ⊢
  split at g <;> first | exact h _ _ g | exact g | trivial
theorem xr_Vs.mono {a1 a2 : List Nat} {b : Nat} (h : xr_le a1 a2) : ∀ {v v' : List Value}, xr_Vs a1 b v v' → xr_Vs a2 b v v'
  | [], [], _ => trivial
  | _ :: _, _ :: _, g => ⟨g.1.mono h, xr_Vs.mono h g.2⟩
  | [], _ :: _, g => g
  | _ :: _, [], g => g
theorem xr_Ls.mono {a1 a2 : List Nat} {b : Nat} (h : xr_le a1 a2) : ∀ {v v' : xrL}, xr_Ls a1 b v v' → xr_Ls a2 b v v'
  | [], [], _ => trivial
  | _ :: _, _ :: _, g => ⟨g.1, g.2.1.mono h, xr_Ls.mono h g.2.2⟩
  | [], _ :: _, g => g
  | _ :: _, [], g => g
theorem xr_V.cat {ads : List Nat} {b : Nat} {v v' : Value} (g : xr_V ads b v v') : v'.category = v.category := by
  unfold xr_V at g
  split at g <;> first | rfl | exact g.elim
theorem xr_V.int {ads : List Nat} {b : Nat} {x : Int32} {v : Value} (g : xr_V ads b (.int x) v) : v = .int x := by
  cases v <;> first | (have g' : x = _ := g; rw [g']) | exact g.elim
theorem xr_V.long {ads : List Nat} {b : Nat} {x : Int64} {v : Value} (g : xr_V ads b (.long x) v) : v = .long x := by
  cases v <;> first | (have g' : x = _ := g; rw [g']) | exact g.elim
theorem xr_V.null {ads : List Nat} {b : Nat} {v : Value} (g : xr_V ads b .null v) : v = .null := by
  cases v <;> first | rfl | exact g.elim
theorem xr_V.ref {ads : List Nat} {b a : Nat} {v : Value} (g : xr_V ads b (.ref a) v) : ∃ q, v = .ref q ∧ ads[a]? = some q := by
  cases v <;> first | exact ⟨_, rfl, g⟩ | exact g.elim
theorem xr_V.ret {ads : List Nat} {b a : Nat} {v : Value} (g : xr_V ads b (.retAddr a) v) : ∃ q, v = .ref q := by
  cases a <;> cases v <;> first | exact ⟨_, rfl⟩ | exact g.elim
theorem xr_V.ret1 {ads : List Nat} {b a : Nat} {v : Value} (g : xr_V ads b (.retAddr (a + 1)) v) : v = .ref b := by
  cases v <;> first | (have g' : _ = b := g; rw [g']) | exact g.elim
theorem xr_V.rf {ads : List Nat} {b a q : Nat} (h : ads[a]? = some q) : xr_V ads b (.ref a) (.ref q) := h
theorem xr_Vs.cons {ads : List Nat} {b : Nat} {v : Value} {r s : List Value} (g : xr_Vs ads b (v :: r) s) : ∃ v' r', s = v' :: r' ∧ xr_V ads b v v' ∧ xr_Vs ads b r r' := by
  cases s with
  | nil => exact g.elim
  | cons v' r' => exact ⟨v', r', rfl, g.1, g.2⟩
theorem xr_Vs.nil {ads : List Nat} {b : Nat} {s : List Value} (g : xr_Vs ads b [] s) : s = [] := by
  cases s with
  | nil => rfl
  | cons v' r' => exact g.elim
theorem xr_Vs.len {ads : List Nat} {b : Nat} : ∀ {r s : List Value}, xr_Vs ads b r s → s.length = r.length
  | [], [], _ => rfl
  | _ :: _, _ :: _, g => by simp [xr_Vs.len g.2]
  | [], _ :: _, g => g.elim
  | _ :: _, [], g => g.elim
theorem xr_Vs.catsum {ads : List Nat} {b : Nat} : ∀ {r s : List Value}, xr_Vs ads b r s → (s.map fun v => v.category).sum = xr_cat r
  | [], [], _ => rfl
  | _ :: _, _ :: _, g => by simp [xr_cat, xr_Vs.catsum g.2, g.1.cat]
  | [], _ :: _, g => g.elim
  | _ :: _, [], g => g.elim
theorem xr_Vs.get {ads : List Nat} {b : Nat} : ∀ {r s : List Value}, xr_Vs ads b r s → ∀ (k : Nat) (v : Value), r[k]? = some v → ∃ v', s[k]? = some v' ∧ xr_V ads b v v'
  | [], [], _, k, v, h => by simp at h
  | _ :: _, v' :: _, g, 0, v, h => by
    simp at h
    subst h
    exact ⟨v', by simp, g.1⟩
  | _ :: _, _ :: _, g, k + 1, v, h => by
    simp at h
    obtain ⟨v', h1, h2⟩ := xr_Vs.get g.2 k v h
    exact ⟨v', by simpa using h1, h2⟩
  | [], _ :: _, g, _, _, _ => g.elim
  | _ :: _, [], g, _, _, _ => g.elim
theorem xr_Vs.set {ads : List Nat} {b : Nat} {v v' : Value} (hv : xr_V ads b v v') : ∀ {r s : List Value}, xr_Vs ads b r s → ∀ (k : Nat), xr_Vs ads b (r.set k v) (s.set k v')
  | [], [], _, _ => trivial
  | _ :: _, _ :: _, g, 0 => ⟨hv, g.2⟩
  | _ :: _, _ :: _, g, k + 1 => ⟨g.1, xr_Vs.set hv g.2 k⟩
  | [], _ :: _, g, _ => g.elim
  | _ :: _, [], g, _ => g.elim
theorem xr_Vs.app {ads : List Nat} {b : Nat} : ∀ {r s r2 s2 : List Value}, xr_Vs ads b r s → xr_Vs ads b r2 s2 → xr_Vs ads b (r ++ r2) (s ++ s2)
  | [], [], _, _, _, h => h
  | _ :: _, _ :: _, _, _, g, h => ⟨g.1, xr_Vs.app g.2 h⟩
  | [], _ :: _, _, _, g, _ => g.elim
  | _ :: _, [], _, _, g, _ => g.elim
theorem xr_Vs.cutd {ads : List Nat} {b : Nat} : ∀ (n : Nat) {acc acc' st st' as r : List Value}, xr_cut n acc st = some (as, r) → xr_Vs ads b acc acc' → xr_Vs ads b st st' →
    ∃ as' r', xr_Vs ads b as as' ∧ xr_Vs ads b r r' ∧ as'.reverse ++ r' = acc'.reverse ++ st' ∧ as'.length = n + acc'.length
  | 0, acc, acc', st, st', as, r, h, ha, hs => by
    simp [xr_cut] at h
    obtain ⟨rfl, rfl⟩ := h
    exact ⟨acc', st', ha, hs, rfl, by omega⟩
  | n + 1, acc, acc', [], st', as, r, h, ha, hs => by simp [xr_cut] at h
  | n + 1, acc, acc', v :: st, st', as, r, h, ha, hs => by
    obtain ⟨v', r1, rfl, hv, hr⟩ := hs.cons
    have h' : xr_cut n (v :: acc) st = some (as, r) := h
    obtain ⟨as', r', h1, h2, h3, h4⟩ := xr_Vs.cutd n (acc' := v' :: acc') h' ⟨hv, ha⟩ hr
    exact ⟨as', r', h1, h2, by rw [h3]; simp, by rw [h4]; simp; omega⟩
theorem xr_Ls.get {ads : List Nat} {b : Nat} : ∀ {r s : xrL}, xr_Ls ads b r s → ∀ (i : Nat) (v : Value), xr_get r i = some v → ∃ (k : Nat) (v' : Value), s[k]? = some (i, v') ∧ xr_V ads b v v'
  | [], [], _, i, v, h => by simp [xr_get] at h
  | q :: t, q' :: t', g, i, v, h => by
    unfold xr_get at h
    cases hq : Nat.beq q.1 i with
    | true =>
      rw [hq] at h
      have e : q.1 = i := Nat.eq_of_beq_eq_true hq
      simp at h
      subst h
      exact ⟨0, q'.2, by simp [← e, ← g.1], g.2.1⟩
    | false =>
      rw [hq] at h
      obtain ⟨k, v', h1, h2⟩ := xr_Ls.get g.2.2 i v h
      exact ⟨k + 1, v', by simpa using h1, h2⟩
  | [], _ :: _, g, _, _, _ => g.elim
  | _ :: _, [], g, _, _, _ => g.elim
theorem xr_Ls.fil {ads : List Nat} {b : Nat} (f : Nat → Nat → Bool) : ∀ {r s : xrL}, xr_Ls ads b r s → xr_Ls ads b (r.filter fun q => f q.1 q.2.category) (s.filter fun q => f q.1 q.2.category)
  | [], [], _ => trivial
  | q :: t, q' :: t', g => by
    have e : f q'.1 q'.2.category = f q.1 q.2.category := by rw [g.1, g.2.1.cat]
    cases hq : f q.1 q.2.category with
    | true =>
      rw [List.filter_cons_of_pos (by simpa using hq), List.filter_cons_of_pos (by simpa [e] using hq)]
      exact ⟨g.1, g.2.1, xr_Ls.fil f g.2.2⟩
    | false =>
      rw [List.filter_cons_of_neg (by simp [hq]), List.filter_cons_of_neg (by simp [e, hq])]
      exact xr_Ls.fil f g.2.2
  | [], _ :: _, g => g.elim
  | _ :: _, [], g => g.elim
theorem xr_Ls.st1 {ads : List Nat} {b : Nat} {v v' : Value} (hv : xr_V ads b v v') (i : Nat) {r s : xrL} (g : xr_Ls ads b r s) : xr_Ls ads b (xr_st1 r i v) (xr_st1 s i v') := ⟨rfl, hv, xr_Ls.fil (fun a c => !(a == i) && !(a + 1 == i && c == 2)) g⟩
theorem xr_Ls.st2 {ads : List Nat} {b : Nat} {v v' : Value} (hv : xr_V ads b v v') (i : Nat) {r s : xrL} (g : xr_Ls ads b r s) : xr_Ls ads b (xr_st2 r i v) (xr_st2 s i v') := ⟨rfl, hv, xr_Ls.fil (fun a c => !(a == i) && (!(a == i + 1) && !(a + 1 == i && c == 2))) g⟩
theorem xr_Ls.args {ads : List Nat} {b : Nat} : ∀ {r s : List Value} (n : Nat), xr_Vs ads b r s → xr_Ls ads b (lv_args n r) (lv_args n s)
  | [], [], _, _ => trivial
  | v :: _, v' :: _, n, g => by
    refine ⟨rfl, g.1, ?_⟩
    show xr_Ls ads b (lv_args (if v.category = 2 then n + 2 else n + 1) _) (lv_args (if v'.category = 2 then n + 2 else n + 1) _)
    rw [g.1.cat]
    exact xr_Ls.args _ g.2
  | [], _ :: _, _, g => g.elim
  | _ :: _, [], _, g => g.elim
theorem xr_sl_len : ∀ (vs : List Value), (lg_sl vs).length = xr_cat vs
  | [] => rfl
  | v :: t => by
    have h := xr_sl_len t
    unfold lg_sl at h ⊢
    rw [List.flatMap_cons, List.length_append, h]
    unfold xr_cat
    rcases lv_cat v with h1 | h1 <;> simp [h1]
def xr_R (ads : List Nat) (f g : Nat → Option Nat) : Prop := ∀ k, (f k = none ∧ g k = none) ∨ ∃ a q, f k = some a ∧ g k = some q ∧ ads[a]? = some q
def xr_A (ads : List Nat) : ((Nat → Int32) ⊕ (Nat → Int64) ⊕ (Nat → UInt32) ⊕ (Nat → UInt64) ⊕ (Nat → Option Nat)) → ((Nat → Int32) ⊕ (Nat → Int64) ⊕ (Nat → UInt32) ⊕ (Nat → UInt64) ⊕ (Nat → Option Nat)) → Prop
  | .inl f, .inl g => g = f
  | .inr (.inl f), .inr (.inl g) => g = f
  | .inr (.inr (.inr (.inr f))), .inr (.inr (.inr (.inr g))) => xr_R ads f g
  | _, _ => False
def xr_E (ads : List Nat) (b : Nat) (tys : List (ClassId × FieldType)) : xrE → va_E → Prop
  | .inl (ty, n, c), .inl (cA, n', c') => n' = n ∧ (∃ t0 : Nat, tys[t0]? = some (cA, ty)) ∧ xr_A ads c c'
  | .inr (ci, fs), .inr (ci', fs') => ci' = ci ∧ xr_Vs ads b fs fs'
  | _, _ => False
theorem xr_R.mono {a1 a2 : List Nat} (h : xr_le a1 a2) {f g : Nat → Option Nat} (r : xr_R a1 f g) : xr_R a2 f g := fun k => (r k).imp id (fun ⟨a, q, x, y, z⟩ => ⟨a, q, x, y, h _ _ z⟩)
theorem xr_A.mono {a1 a2 : List Nat} (h : xr_le a1 a2) : ∀ {c c'}, xr_A a1 c c' → xr_A a2 c c' := by
  intro c c' g
  unfold xr_A at g ⊢
  split at g <;> first | exact g.mono h | exact g
theorem xr_E.mono {a1 a2 : List Nat} {b : Nat} {t1 t2 : List (ClassId × FieldType)} (h : xr_le a1 a2) (ht : ∀ (k : Nat) (q : ClassId × FieldType), t1[k]? = some q → t2[k]? = some q) : ∀ {e : xrE} {e' : va_E}, xr_E a1 b t1 e e' → xr_E a2 b t2 e e'
  | .inl (_, _, _), .inl (_, _, _), ⟨g1, ⟨t0, g2⟩, g3⟩ => ⟨g1, ⟨t0, ht _ _ g2⟩, g3.mono h⟩
  | .inr (_, _), .inr (_, _), ⟨g1, g2⟩ => ⟨g1, g2.mono h⟩
  | .inl (_, _, _), .inr (_, _), g => g.elim
  | .inr (_, _), .inl (_, _, _), g => g.elim
theorem xr_E.arr {ads : List Nat} {b : Nat} {tys : List (ClassId × FieldType)} {ty : FieldType} {n : Nat} {c} {e' : va_E} (h : xr_E ads b tys (.inl (ty, n, c)) e') : ∃ (cA : ClassId) (c' : _) (t0 : Nat), e' = .inl (cA, n, c') ∧ tys[t0]? = some (cA, ty) ∧ xr_A ads c c' := by
  rcases e' with ⟨cA, n', c'⟩ | ⟨ci, fs⟩
  · obtain ⟨rfl, ⟨t0, g2⟩, g3⟩ := h
    exact ⟨cA, c', t0, rfl, g2, g3⟩
  · exact h.elim
theorem xr_E.obj {ads : List Nat} {b : Nat} {tys : List (ClassId × FieldType)} {ci : Nat} {fs : List Value} {e' : va_E} (h : xr_E ads b tys (.inr (ci, fs)) e') : ∃ fs', e' = .inr (ci, fs') ∧ xr_Vs ads b fs fs' := by
  rcases e' with ⟨cA, n', c'⟩ | ⟨ci', fs'⟩
  · exact h.elim
  · obtain ⟨rfl, g⟩ := h
    exact ⟨fs', rfl, g⟩
theorem xr_A.i {ads : List Nat} {f} {c'} (h : xr_A ads (.inl f) c') : c' = .inl f := by
  rcases c' with g | g | g | g | g <;> first | (have h' : g = f := h; rw [h']) | exact h.elim
theorem xr_A.l {ads : List Nat} {f} {c'} (h : xr_A ads (.inr (.inl f)) c') : c' = .inr (.inl f) := by
  rcases c' with g | g | g | g | g <;> first | (have h' : g = f := h; rw [h']) | exact h.elim
theorem xr_A.q {ads : List Nat} {f} {c'} (h : xr_A ads (.inr (.inr (.inr (.inr f)))) c') : ∃ g, c' = .inr (.inr (.inr (.inr g))) ∧ xr_R ads f g := by
  rcases c' with g | g | g | g | g <;> first | exact ⟨g, rfl, h⟩ | exact h.elim
/-- the machine's world ws, at a state U in a heap H, is the runner's heap h -/
def xr_W (T : xrT) (D : va_G) (A : Nat → Prop) (b : Nat) (h : xrH) (ads : List Nat) (U : State) (ws : va_W) (tys : List (ClassId × FieldType)) (H : Heap) : Prop :=
  va_K D T.2.1 tys U ∧ va_P D T.2.1 ws H ∧ va_D A ws ∧ ws.map (fun q => q.1) = ads ∧ ws.length = h.2.2.1 ∧ ∀ (a q : Nat) (e' : va_E), ws[a]? = some (q, e') → xr_E ads b tys (h.2.2.2 a) e'
section XRW
variable {T : xrT} {D : va_G} {A : Nat → Prop} {b : Nat} {h : xrH} {ads : List Nat} {U : State} {ws : va_W} {tys : List (ClassId × FieldType)} {H : Heap}
theorem xr_W.at (w : xr_W T D A b h ads U ws tys H) {a q : Nat} (hq : ads[a]? = some q) : ∃ e', ws[a]? = some (q, e') ∧ xr_E ads b tys (xr_M h a) e' := by
  obtain ⟨-, -, -, h4, -, h6⟩ := w
  rw [← h4, List.getElem?_map] at hq
  cases hw : ws[a]? with
  | none => rw [hw] at hq; cases hq
  | some x =>
    rw [hw] at hq
    obtain ⟨y, e'⟩ := x
    have hy : y = q := Option.some.inj hq
    subst hy
    exact ⟨e', rfl, h6 a y e' hw⟩
theorem xr_W.set {a q : Nat} {e0 e1 : va_E} {e : xrE} {H1 : Heap} (w : xr_W T D A b h ads U ws tys H) (ha : ws[a]? = some (q, e0)) (he : xr_E ads b tys e e1) (hP : va_P D T.2.1 (ws.set a (q, e1)) H1) (hD : va_D A (ws.set a (q, e1))) :
    xr_W T D A b (xr_put h a e) ads U (ws.set a (q, e1)) tys H1 := by
  obtain ⟨h1, -, -, h4, h5, h6⟩ := w
  have hl := (List.getElem?_eq_some_iff.mp ha).1
  refine ⟨h1, hP, hD, ?_, by rw [List.length_set]; exact h5, fun x y e' hx => ?_⟩
  · rw [← h4]
    apply List.ext_getElem?
    intro i
    rw [List.getElem?_map, List.getElem?_map]
    by_cases hi : i = a
    · subst hi
      rw [List.getElem?_set_self hl, ha]
      rfl
    · rw [List.getElem?_set_ne (Ne.symm hi)]
  · by_cases hi : x = a
    · subst hi
      rw [List.getElem?_set_self hl] at hx
      cases hx
      show xr_E ads b tys (va_up h.2.2.2 x e x) e1
      simp [va_up]
      exact he
    · rw [List.getElem?_set_ne (Ne.symm hi)] at hx
      show xr_E ads b tys (va_up h.2.2.2 a e x) e'
      simp [va_up, hi]
      exact h6 x y e' hx
theorem xr_W.add {q k : Nat} {e1 : va_E} {e : xrE} {H1 : Heap} {ts : List (ClassId × FieldType)} (w : xr_W T D A b h ads U ws tys H) (hK : va_K D T.2.1 (tys ++ ts) U) (he : xr_E (ads ++ [q]) b (tys ++ ts) e e1) (hP : va_P D T.2.1 (ws ++ [(q, e1)]) H1) (hD : va_D A (ws ++ [(q, e1)])) :
    xr_W T D A b (xr_new h k e) (ads ++ [q]) U (ws ++ [(q, e1)]) (tys ++ ts) H1 := by
  obtain ⟨-, -, -, h4, h5, h6⟩ := w
  refine ⟨hK, hP, hD, by rw [List.map_append, h4]; rfl, by rw [List.length_append, h5]; rfl, fun x y e' hx => ?_⟩
  show xr_E _ b _ (va_up h.2.2.2 h.2.2.1 e x) e'
  by_cases hi : x < ws.length
  · rw [List.getElem?_append_left hi] at hx
    have hne : x ≠ h.2.2.1 := by omega
    simp [va_up, hne]
    exact (h6 x y e' hx).mono (xr_le.app _ _) (fun k q hk => by rw [List.getElem?_append_left (List.getElem?_eq_some_iff.mp hk).1]; exact hk)
  · rw [List.getElem?_append_right (by omega)] at hx
    have hz : x - ws.length < 1 := (List.getElem?_eq_some_iff.mp hx).1
    have hx0 : x = ws.length := by omega
    subst hx0
    rw [Nat.sub_self] at hx
    cases hx
    rw [h5]
    simp [va_up]
    exact he
theorem xr_W.last (w : xr_W T D A b h ads U ws tys H) (q : Nat) : (ads ++ [q])[h.2.2.1]? = some q := by
  obtain ⟨-, -, -, h4, h5, -⟩ := w
  have hl : ads.length = h.2.2.1 := by rw [← h4, List.length_map]; exact h5
  rw [← hl]
  simp
theorem xr_W.moved {U2 : State} (w : xr_W T D A b h ads U ws tys H) (hvm : U.vm.Alike U2.vm) : xr_W T D A b h ads U2 ws tys H := ⟨va_K.moved hvm w.1, w.2⟩
theorem xr_W.exc (w : xr_W T D A b h ads U ws tys H) {H1 : Heap} (hk : ∀ q, q < H.size → H1[q]? = H[q]?) : xr_W T D A b (xr_exc h) ads U ws tys H1 := ⟨w.1, w.2.1.kept (fun k q hq => hk q.1 ((w.2.1 k q hq).lt)), w.2.2⟩
end XRW
end
section
/-! ONE INSTRUCTION: what the runner does with it, the machine does -/
/-- a word that holds on where the tables get warm -/
def xr_tw (w : Cond) : Bool := goodWord w || (match w with
  | .methodLinkNest .. => true
  | .castable .. => true
  | .declares _ => true
  | _ => false)
theorem xr_tr {w : Cond} (h : xr_tw w = true) {s U : State} (hW : s.WarmedH U.vm) {a a' : Array Value} (hb : w.before a s = true) : w.before a' U = true := by
  simp only [xr_tw, Bool.or_eq_true] at h
  rcases h with h | h
  · exact word_at hW (good_of_word h) hb
  · split at h
    · exact va_Nw.use rfl (va_Nw.warmM hW (va_Nw.of rfl hb))
    · exact va_Nw.use rfl (va_Nw.warmC hW (va_Nw.of rfl hb))
    · exact va_Nw.use rfl (va_Nw.warmD hW (va_Nw.of rfl hb))
    · cases h
/-- what the machine has beside the objects: the two statics of Throwable, the script, the texts, what can't be cast, arrays over a class -/
def xr_Env (T : xrT) (A : Nat → Prop) (b : Nat) (ST : List (String × Nat × String)) (NC : List (String × String)) (AO : List String) (U : State) (H : Heap) : Prop :=
  vx_Zq Bundle.tN "UNASSIGNED_STACK" Bundle.steD A U H ∧ vx_Zq Bundle.tN "SUPPRESSED_SENTINEL" Bundle.listD A U H ∧ va_X b T.2.2.2.1 T.2.2.2.2 U H ∧ b < H.size ∧ ¬ A b ∧
  (∀ q ∈ ST, ∃ a, vk_R q.1 q.2.1 q.2.2 a U) ∧ (∀ q ∈ NC, va_Nc q.1 q.2 U) ∧ (∀ C ∈ AO, va_AO C U)
theorem xr_Env.go {T : xrT} {A : Nat → Prop} {b : Nat} {ST : List (String × Nat × String)} {NC : List (String × String)} {AO : List String} {s U : State} {H H1 : Heap} (h : xr_Env T A b ST NC AO s H) (hW : s.WarmedH U.vm) (hz : H.size ≤ H1.size) (hk : ∀ a : Nat, a < H.size → ¬ A a → H1[a]? = H[a]?) : xr_Env T A b ST NC AO U H1 := by
  obtain ⟨h1, h2, h3, h4, h5, h6, h7, h8⟩ := h
  refine ⟨vx_Zq.moved hW.alike (h1.kept hk), vx_Zq.moved hW.alike (h2.kept hk), va_X.moved hW.alike (h3.kept (hk b h4 h5)), Nat.lt_of_lt_of_le h4 hz, h5, fun q hq => ?_, fun q hq => (h7 q hq).moved hW.alike, fun C hC => (h8 C hC).moved hW.alike⟩
  obtain ⟨a, ha⟩ := h6 q hq
  exact ⟨a, ha.warm hW⟩
def xr_hh (M : xrM) : List (Nat × Nat × Nat × Nat) := (xr_hd M).map (fun q => (q.1, q.2.1, q.2.2.1, q.2.2.2.1))
/-- a frame of method M -/
def xr_Cx (p : Program) (l : Launch) (s : State) (m : MethodId) (args : Array Value) (meth : Method) (c : Code) (T : xrT) (A : Nat → Prop) (b : Nat) (GW : List Cond) (ST : List (String × Nat × String)) (NC : List (String × String)) (AO : List String) (M : xrM) : Prop :=
  p.tables.exec = Jvm.exec ∧ c.code = xr_by M ∧ c.maxLocals = xr_mx M ∧ s.vm.findClass (xr_nm M).cls = some m.cls ∧ (∀ w ∈ GW, w.before args s = true) ∧ meth.name = (xr_nm M).name ∧ meth.sig.returnType = xr_rt M ∧ meth.locks = false ∧
  c.exceptionTable.toList = tableOf (xr_hh M) ∧ xr_Env T A b ST NC AO s s.heap ∧ l.stackTraces = false ∧ ∀ q, s.heap.size ≤ q → A q
/-- the classes, as the tables have them -/
def xr_Ks (T : xrT) (GW : List Cond) : Prop := ∀ (c : Nat) (C : String) (F : u_T) (N : Nat), T.2.1[c]? = some (C, F, N) →
  (∀ w ∈ u_ws C F N, w ∈ GW) ∧ (∃ ty : Nat → FieldType, (∀ k, k < N → parseFieldDescriptor (F k).2.2.1 = some (ty k)) ∧ ∀ j, j < N → defaultValue (ty j) = vp_V (T.2.2.1 c) j) ∧
  (∀ a, a < N → ∀ b, b < N → a ≠ b → (F a).2.1 ≠ (F b).2.1) ∧ (∀ k, k < N → (F k).1 = C) ∧ (T.2.2.1 c).length = N ∧ Cond.instantiable C N ∈ GW ∧ Cond.initialized C ∈ GW ∧ ∀ v ∈ T.2.2.1 c, v = .null ∨ v = .int 0 ∨ v = .long 0
/-- how long an instruction is -/
def xr_n (i : Instr) : Nat := match i with
  | .bipush _ => 2
  | .iload _ => 2
  | .lload _ => 2
  | .aload _ => 2
  | .sipush _ => 3
  | .ifnull _ => 3
  | .ifnonnull _ => 3
  | .goto _ => 3
  | _ => 1
def xr_tyk (k : Nat) (ty : FieldType) : Prop := (k = 0 ∧ ty = .int) ∨ (k = 1 ∧ ty = .boolean) ∨ (k = 2 ∧ ((∃ C, ty = .object C) ∨ ∃ t, ty = .array t))
def xr_okp (T : xrT) (GW : List Cond) (M : xrM) (pc n f w : Nat) : Prop := n = 3 ∧ ∃ (k : Nat) (C : String) (F : u_T) (N : Nat) (ty : FieldType), decode (xr_by M) pc = .ok (.putfield k, 3) ∧ T.2.1[f / 64]? = some (C, F, N) ∧ f % 64 < N ∧
  Cond.fieldLink (xr_nm M).cls k C (F (f % 64)).2.1 (F (f % 64)).2.2.1 ∈ GW ∧ parseFieldDescriptor (F (f % 64)).2.2.1 = some ty ∧ xr_tyk w ty ∧ ((F (f % 64)).2.2.2 = false ∨ ((F (f % 64)).2.2.2 = true ∧ (xr_nm M).name = "<init>" ∧ C = (xr_nm M).cls))
def xr_en (k : Nat) : String := match k with
  | 0 => "java/lang/IllegalArgumentException"
  | 1 => "java/lang/IllegalStateException"
  | _ => "java/lang/IndexOutOfBoundsException"
def xr_up : List String := ["java/lang/RuntimeException", "java/lang/Exception"]
/-- an instruction of the runner's code at a place of a method is the one that stands there, and the tables have what it needs -/
def xr_ok (T : xrT) (GW : List Cond) (ST : List (String × Nat × String)) (AO : List String) (M : xrM) (pc : Nat) (i : Instr) (n : Nat) : Prop := match i with
  | .jsr_w v => n = 2 ∧ ∃ k, decode (xr_by M) pc = .ok (.ldc k, 2) ∧ Cond.constant (xr_nm M).cls k (Int32.ofInt v) ∈ GW
  | .jsr v => n = 3 ∧ ∃ k, decode (xr_by M) pc = .ok (.ldc_w k, 3) ∧ Cond.constant (xr_nm M).cls k (Int32.ofInt v) ∈ GW
  | .goto_w v => n = 3 ∧ ∃ k, decode (xr_by M) pc = .ok (.ldc2_w k, 3) ∧ Cond.constantLong (xr_nm M).cls k (Int64.ofInt v) ∈ GW
  | .getfield f => n = 3 ∧ ∃ (k : Nat) (C : String) (F : u_T) (N : Nat), decode (xr_by M) pc = .ok (.getfield k, 3) ∧ T.2.1[f / 64]? = some (C, F, N) ∧ f % 64 < N ∧ Cond.fieldLink (xr_nm M).cls k C (F (f % 64)).2.1 (F (f % 64)).2.2.1 ∈ GW
  | .putfield f => xr_okp T GW M pc n f 0
  | .putstatic f => xr_okp T GW M pc n f 1
  | .invokedynamic f => xr_okp T GW M pc n f 2
  | .monitorexit => n = 3 ∧ ∃ k, decode (xr_by M) pc = .ok (.invokespecial k, 3) ∧ Cond.methodLink (xr_nm M).cls k Lib.objectInit ∈ GW ∧ Cond.instanceMethod Lib.objectInit ∈ GW ∧ Cond.code Lib.objectInit ⟨#[0xb1]⟩ 1 none ∈ GW
  | .new c => n = 3 ∧ ∃ (k : Nat) (C : String) (F : u_T) (N : Nat), decode (xr_by M) pc = .ok (.new k, 3) ∧ T.2.1[c]? = some (C, F, N) ∧ Cond.classLink (xr_nm M).cls k C ∈ GW
  | .newarray t => n = 2 ∧ decode (xr_by M) pc = .ok (.newarray t, 2) ∧ Cond.arrayClass (newarray.typeOf t) ∈ GW
  | .anewarray c => n = 3 ∧ ∃ (k : Nat) (q : vw_C), decode (xr_by M) pc = .ok (.anewarray k, 3) ∧ T.2.1[c]? = some q ∧ Cond.classLink (xr_nm M).cls k q.1 ∈ GW ∧ q.1 ∈ AO
  | .multianewarray w z => ∃ (ik is ic : Nat) (text : String), decode (xr_by M) pc = .ok (.new ik, 3) ∧ decode (xr_by M) (pc + 3) = .ok (.dup, 1) ∧
      ((z = 0 ∧ decode (xr_by M) (pc + 4) = .ok (.ldc is, 2) ∧ decode (xr_by M) (pc + 6) = .ok (.invokespecial ic, 3) ∧ decode (xr_by M) (pc + 9) = .ok (.athrow, 1)) ∨
       (z = 1 ∧ decode (xr_by M) (pc + 4) = .ok (.ldc_w is, 3) ∧ decode (xr_by M) (pc + 7) = .ok (.invokespecial ic, 3) ∧ decode (xr_by M) (pc + 10) = .ok (.athrow, 1))) ∧
      Cond.classLink (xr_nm M).cls ik (xr_en w) ∈ GW ∧ Cond.initialized (xr_en w) ∈ GW ∧ ((xr_nm M).cls, is, text) ∈ ST ∧
      (∀ v ∈ vx_atS (xr_nm M).cls ic (xr_en w) xr_up, v ∈ GW) ∧ (∀ v ∈ Cond.classLink (xr_nm M).cls ik (xr_en w) :: Cond.initialized (xr_en w) :: vx_atS (xr_nm M).cls ic (xr_en w) xr_up, vx_ot v = true)
  | .invokevirtual k => n = 3 ∧ ∃ (x : Nat) (K : xrM) (q : vw_C), decode (xr_by M) pc = .ok (.invokevirtual x, 3) ∧ T.1[k]? = some K ∧ k ≠ 0 ∧ Cond.methodLink (xr_nm M).cls x (xr_nm K) ∈ GW ∧ Cond.instanceMethod (xr_nm K) ∈ GW ∧
      Cond.selects (xr_nm K).cls (xr_nm K) (xr_nm K) ∈ GW ∧ T.2.1[xr_ci K]? = some q ∧ q.1 = (xr_nm K).cls ∧ xr_hd K = []
  | .invokespecial k => n = 3 ∧ ∃ (x : Nat) (K : xrM), decode (xr_by M) pc = .ok (.invokespecial x, 3) ∧ T.1[k]? = some K ∧ k ≠ 0 ∧ (Cond.methodLink (xr_nm M).cls x (xr_nm K) ∈ GW ∨ ∃ host, Cond.methodLinkNest (xr_nm M).cls x (xr_nm K) host ∈ GW) ∧
      (xr_nm K).name = "<init>" ∧ Cond.instanceMethod (xr_nm K) ∈ GW ∧ xr_rt K = none ∧ xr_hd K = []
  | .invokestatic k => n = 3 ∧ ∃ (x : Nat) (K : xrM), decode (xr_by M) pc = .ok (.invokestatic x, 3) ∧ T.1[k]? = some K ∧ k ≠ 0 ∧ Cond.methodLink (xr_nm M).cls x (xr_nm K) ∈ GW ∧ Cond.static (xr_nm K) ∈ GW
  | .iinc k v => n = 3 ∧ k < xr_mx M ∧ decode (xr_by M) pc = .ok (.iinc k v, 3)
  | .istore k => n = 2 ∧ k < xr_mx M ∧ decode (xr_by M) pc = .ok (.istore k, 2)
  | .astore k => n = 2 ∧ k < xr_mx M ∧ decode (xr_by M) pc = .ok (.astore k, 2)
  | .lstore k => n = 2 ∧ k + 1 < xr_mx M ∧ decode (xr_by M) pc = .ok (.lstore k, 2)
  | .istore_n k => n = 1 ∧ (k : Nat) < xr_mx M ∧ decode (xr_by M) pc = .ok (.istore_n k, 1)
  | .astore_n k => n = 1 ∧ (k : Nat) < xr_mx M ∧ decode (xr_by M) pc = .ok (.astore_n k, 1)
  | .lstore_n k => n = 1 ∧ (k : Nat) + 1 < xr_mx M ∧ decode (xr_by M) pc = .ok (.lstore_n k, 1)
  | .ifCond w off => n = 3 ∧ (∃ t : Nat, (pc : Int) + off = (t : Int)) ∧ decode (xr_by M) pc = .ok (.ifCond w off, 3)
  | .if_icmp w off => n = 3 ∧ (∃ t : Nat, (pc : Int) + off = (t : Int)) ∧ decode (xr_by M) pc = .ok (.if_icmp w off, 3)
  | .tableswitch d lo hi offs => decode (xr_by M) pc = .ok (.tableswitch d lo hi offs, n)
  | .lookupswitch d ps => decode (xr_by M) pc = .ok (.lookupswitch d ps, n) ∧ (ps.toList.zip (ps.toList.drop 1)).all (fun (a, next) => a.1 < next.1) = true
  | i => n = xr_n i ∧ decode (xr_by M) pc = .ok (i, n)
-- what a step of each kind is
theorem xr_li_s {L : xrL} {k n pc : Nat} {st : List Value} {h : xrH} {F : xrF × xrH} (e : xr_li L k n pc st h = some F) : ∃ x, xr_get L k = some (.int x) ∧ F = ((pc + n, L, .int x :: st), h) := by
  unfold xr_li at e; split at e
  · exact ⟨_, by assumption, (Option.some.inj e).symm⟩
  · cases e
theorem xr_ll_s {L : xrL} {k n pc : Nat} {st : List Value} {h : xrH} {F : xrF × xrH} (e : xr_ll L k n pc st h = some F) : ∃ x, xr_get L k = some (.long x) ∧ F = ((pc + n, L, .long x :: st), h) := by
  unfold xr_ll at e; split at e
  · exact ⟨_, by assumption, (Option.some.inj e).symm⟩
  · cases e
theorem xr_la_s {L : xrL} {k n pc : Nat} {st : List Value} {h : xrH} {F : xrF × xrH} (e : xr_la L k n pc st h = some F) : ∃ v, xr_get L k = some v ∧ ((∃ x, v = .ref x) ∨ v = .null ∨ ∃ x, v = .retAddr x) ∧ F = ((pc + n, L, v :: st), h) := by
  unfold xr_la at e; split at e
  · exact ⟨_, by assumption, Or.inl ⟨_, rfl⟩, (Option.some.inj e).symm⟩
  · exact ⟨_, by assumption, Or.inr (Or.inl rfl), (Option.some.inj e).symm⟩
  · exact ⟨_, by assumption, Or.inr (Or.inr ⟨_, rfl⟩), (Option.some.inj e).symm⟩
  · cases e
theorem xr_si_s {L : xrL} {k n pc : Nat} {st : List Value} {h : xrH} {F : xrF × xrH} (e : xr_si L k n pc st h = some F) : ∃ x r, st = .int x :: r ∧ F = ((pc + n, xr_st1 L k (.int x), r), h) := by
  unfold xr_si at e; split at e
  · exact ⟨_, _, rfl, (Option.some.inj e).symm⟩
  · cases e
theorem xr_sl_s {L : xrL} {k n pc : Nat} {st : List Value} {h : xrH} {F : xrF × xrH} (e : xr_sl L k n pc st h = some F) : ∃ x r, st = .long x :: r ∧ F = ((pc + n, xr_st2 L k (.long x), r), h) := by
  unfold xr_sl at e; split at e
  · exact ⟨_, _, rfl, (Option.some.inj e).symm⟩
  · cases e
theorem xr_sa_s {L : xrL} {k n pc : Nat} {st : List Value} {h : xrH} {F : xrF × xrH} (e : xr_sa L k n pc st h = some F) : ∃ v r, st = v :: r ∧ ((∃ x, v = .ref x) ∨ v = .null ∨ ∃ x, v = .retAddr x) ∧ F = ((pc + n, xr_st1 L k v, r), h) := by
  unfold xr_sa at e; split at e
  · exact ⟨_, _, rfl, Or.inl ⟨_, rfl⟩, (Option.some.inj e).symm⟩
  · exact ⟨_, _, rfl, Or.inr (Or.inl rfl), (Option.some.inj e).symm⟩
  · exact ⟨_, _, rfl, Or.inr (Or.inr ⟨_, rfl⟩), (Option.some.inj e).symm⟩
  · cases e
theorem xr_bi_s {f : Int32 → Int32 → Int32} {L : xrL} {n pc : Nat} {st : List Value} {h : xrH} {F : xrF × xrH} (e : xr_bi f n pc L st h = some F) : ∃ x y r, st = .int y :: .int x :: r ∧ F = ((pc + n, L, .int (f x y) :: r), h) := by
  unfold xr_bi at e; split at e
  · exact ⟨_, _, _, rfl, (Option.some.inj e).symm⟩
  · cases e
theorem xr_bd_s {f : Int32 → Int32 → Int32} {L : xrL} {n pc : Nat} {st : List Value} {h : xrH} {F : xrF × xrH} (e : xr_bd f n pc L st h = some F) : ∃ x y r, st = .int y :: .int x :: r ∧ ¬ y = 0 ∧ F = ((pc + n, L, .int (f x y) :: r), h) := by
  unfold xr_bd at e; split at e
  · split at e
    · cases e
    · exact ⟨_, _, _, rfl, by assumption, (Option.some.inj e).symm⟩
  · cases e
theorem xr_bl_s {f : Int64 → Int64 → Int64} {L : xrL} {n pc : Nat} {st : List Value} {h : xrH} {F : xrF × xrH} (e : xr_bl f n pc L st h = some F) : ∃ x y r, st = .long y :: .long x :: r ∧ F = ((pc + n, L, .long (f x y) :: r), h) := by
  unfold xr_bl at e; split at e
  · exact ⟨_, _, _, rfl, (Option.some.inj e).symm⟩
  · cases e
theorem xr_bs_s {f : Int64 → Int32 → Int64} {L : xrL} {n pc : Nat} {st : List Value} {h : xrH} {F : xrF × xrH} (e : xr_bs f n pc L st h = some F) : ∃ x y r, st = .int y :: .long x :: r ∧ F = ((pc + n, L, .long (f x y) :: r), h) := by
  unfold xr_bs at e; split at e
  · exact ⟨_, _, _, rfl, (Option.some.inj e).symm⟩
  · cases e
theorem xr_jmp_s {pc t : Nat} {off : Int} (e : xr_jmp pc off = some t) : (pc : Int) + off = (t : Int) := by
  unfold xr_jmp at e; split at e
  · rename_i h; cases e; exact h
  · cases e
theorem xr_to_s {pc : Nat} {off : Int} {L : xrL} {r : List Value} {h : xrH} {F : xrF × xrH} (e : xr_to pc off L r h = some F) : ∃ t : Nat, (pc : Int) + off = (t : Int) ∧ F = ((t, L, r), h) := by
  unfold xr_to at e; split at e
  · exact ⟨_, xr_jmp_s (by assumption), (Option.some.inj e).symm⟩
  · cases e
theorem xr_ald_s {T : xrT} {ty : FieldType} {L : xrL} {n pc : Nat} {st : List Value} {h : xrH} {F : xrF × xrH} (e : xr_ald T ty n pc L st h = some F) :
    (∃ i a r m f, st = .int i :: .ref a :: r ∧ xr_M h a = .inl (ty, m, .inl f) ∧ vp_in i m ∧ F = ((pc + n, L, .int (f i.toNatClampNeg) :: r), h)) ∨
    (∃ i k r, st = .int i :: .retAddr (k + 1) :: r ∧ ty = .int ∧ vp_in i T.2.2.2.1 ∧ F = ((pc + n, L, .int (T.2.2.2.2 i.toNatClampNeg) :: r), h)) := by
  unfold xr_ald at e; split at e
  · split at e
    · split at e
      · rename_i hty
        subst hty
        split at e
        · cases e
        · exact Or.inl ⟨_, _, _, _, _, rfl, by assumption, by assumption, (Option.some.inj e).symm⟩
      · cases e
    · cases e
  · split at e
    · split at e
      · cases e
      · exact Or.inr ⟨_, _, _, rfl, by assumption, by assumption, (Option.some.inj e).symm⟩
    · cases e
  · cases e
theorem xr_ast_s {ty : FieldType} {L : xrL} {n pc : Nat} {st : List Value} {h : xrH} {F : xrF × xrH} (e : xr_ast ty n pc L st h = some F) :
    ∃ x i a r m f, st = .int x :: .int i :: .ref a :: r ∧ xr_M h a = .inl (ty, m, .inl f) ∧ vp_in i m ∧ (ty = .int ∨ x = 0 ∨ x = 1) ∧ F = ((pc + n, L, r), xr_put h a (.inl (ty, m, .inl (upd f i.toNatClampNeg x)))) := by
  unfold xr_ast at e; split at e
  · split at e
    · split at e
      · rename_i hty
        subst hty
        split at e
        · cases e
        · split at e
          · exact ⟨_, _, _, _, _, _, rfl, by assumption, by assumption, by assumption, (Option.some.inj e).symm⟩
          · cases e
      · cases e
    · cases e
  · cases e
theorem xr_lald_s {L : xrL} {n pc : Nat} {st : List Value} {h : xrH} {F : xrF × xrH} (e : xr_lald n pc L st h = some F) :
    ∃ i a r m f, st = .int i :: .ref a :: r ∧ xr_M h a = .inl (.long, m, .inr (.inl f)) ∧ vp_in i m ∧ F = ((pc + n, L, .long (f i.toNatClampNeg) :: r), h) := by
  unfold xr_lald at e; split at e
  · split at e
    · split at e
      · cases e
      · exact ⟨_, _, _, _, _, rfl, by assumption, by assumption, (Option.some.inj e).symm⟩
    · cases e
  · cases e
theorem xr_last_s {L : xrL} {n pc : Nat} {st : List Value} {h : xrH} {F : xrF × xrH} (e : xr_last n pc L st h = some F) :
    ∃ x i a r m f, st = .long x :: .int i :: .ref a :: r ∧ xr_M h a = .inl (.long, m, .inr (.inl f)) ∧ vp_in i m ∧ F = ((pc + n, L, r), xr_put h a (.inl (.long, m, .inr (.inl (vp_updL f i.toNatClampNeg x))))) := by
  unfold xr_last at e; split at e
  · split at e
    · split at e
      · cases e
      · exact ⟨_, _, _, _, _, _, rfl, by assumption, by assumption, (Option.some.inj e).symm⟩
    · cases e
  · cases e
theorem xr_qald_s {L : xrL} {n pc : Nat} {st : List Value} {h : xrH} {F : xrF × xrH} (e : xr_qald n pc L st h = some F) :
    ∃ i a r C m f, st = .int i :: .ref a :: r ∧ xr_M h a = .inl (.object C, m, .inr (.inr (.inr (.inr f)))) ∧ vp_in i m ∧ F = ((pc + n, L, xr_rf (f i.toNatClampNeg) :: r), h) := by
  unfold xr_qald at e; split at e
  · split at e
    · split at e
      · cases e
      · exact ⟨_, _, _, _, _, _, rfl, by assumption, by assumption, (Option.some.inj e).symm⟩
    · cases e
  · cases e
theorem xr_qast_s {T : xrT} {L : xrL} {n pc : Nat} {st : List Value} {h : xrH} {F : xrF × xrH} (e : xr_qast T n pc L st h = some F) :
    ∃ v i a r m f ci vs q, st = .ref v :: .int i :: .ref a :: r ∧ xr_M h a = .inl (.object q.1, m, .inr (.inr (.inr (.inr f)))) ∧ xr_M h v = .inr (ci, vs) ∧ T.2.1[ci]? = some q ∧ vp_in i m ∧ F = ((pc + n, L, r), xr_put h a (.inl (.object q.1, m, .inr (.inr (.inr (.inr (va_up f i.toNatClampNeg (some v)))))))) := by
  unfold xr_qast at e; split at e
  · split at e
    · split at e
      · split at e
        · rename_i hq
          subst hq
          split at e
          · cases e
          · exact ⟨_, _, _, _, _, _, _, _, _, rfl, by assumption, by assumption, by assumption, by assumption, (Option.some.inj e).symm⟩
        · cases e
      · cases e
    · cases e
  · cases e
theorem xr_len_s {T : xrT} {L : xrL} {n pc : Nat} {st : List Value} {h : xrH} {F : xrF × xrH} (e : xr_len T n pc L st h = some F) :
    (∃ a r ty m cc, st = .ref a :: r ∧ xr_M h a = .inl (ty, m, cc) ∧ F = ((pc + n, L, .int (Int32.ofNat m) :: r), h)) ∨
    (∃ k r, st = .retAddr (k + 1) :: r ∧ F = ((pc + n, L, .int (Int32.ofNat T.2.2.2.1) :: r), h)) := by
  unfold xr_len at e; split at e
  · split at e
    · exact Or.inl ⟨_, _, _, _, _, rfl, by assumption, (Option.some.inj e).symm⟩
    · cases e
  · exact Or.inr ⟨_, _, rfl, (Option.some.inj e).symm⟩
  · cases e
theorem xr_cond {α : Type} {b : Bool} {x : α} {y : Option α} {z : α} (e : (bif b then some x else none) = some z) : b = true ∧ z = x := by
  cases b
  · cases e
  · exact ⟨rfl, (Option.some.inj e).symm⟩
theorem xr_fld_s {f : Nat} {L : xrL} {n pc : Nat} {st : List Value} {h : xrH} {F : xrF × xrH} (e : xr_fld f n pc L st h = some F) :
    ∃ a r fs v, st = .ref a :: r ∧ xr_M h a = .inr (f / 64, fs) ∧ fs[f % 64]? = some v ∧ F = ((pc + n, L, v :: r), h) := by
  unfold xr_fld at e; split at e
  · split at e
    · rename_i c fs hm
      cases hc : Nat.beq c (f / 64) with
      | false => rw [hc] at e; cases e
      | true =>
        rw [hc] at e
        have hc' := Nat.eq_of_beq_eq_true hc
        subst hc'
        simp only [cond_true] at e
        split at e
        · exact ⟨_, _, _, _, rfl, hm, by assumption, (Option.some.inj e).symm⟩
        · cases e
    · cases e
  · cases e
theorem xr_pfl_s {k f : Nat} {L : xrL} {n pc : Nat} {st : List Value} {h : xrH} {F : xrF × xrH} (e : xr_pfl k f n pc L st h = some F) :
    ∃ v a r fs, st = v :: .ref a :: r ∧ xr_M h a = .inr (f / 64, fs) ∧ f % 64 < fs.length ∧ xr_tak k v = true ∧ F = ((pc + n, L, r), xr_put h a (.inr (f / 64, fs.set (f % 64) v))) := by
  unfold xr_pfl at e; split at e
  · split at e
    · rename_i c fs hm
      obtain ⟨h1, h2⟩ := xr_cond (y := none) e
      simp only [Bool.and_eq_true] at h1
      have hc' := Nat.eq_of_beq_eq_true h1.1.1
      subst hc'
      exact ⟨_, _, _, _, rfl, hm, Nat.le_of_ble_eq_true h1.1.2, h1.2, h2⟩
    · cases e
  · cases e
end
section
/-! ONE INSTRUCTION, the machine's side -/
/-- from every state of the machine that is the runner's state, the machine comes to Q -/
def xr_G (p : Program) (l : Launch) (e : Env) (R : Room) (s : State) (m : MethodId) (args : Array Value) (below : List Frame) (meth : Method) (c : Code) (Q : State → Prop) (T : xrT) (D : va_G) (A : Nat → Prop) (b : Nat) (M : xrM) (a0 : List Nat) (c0 s0 : Nat) (h : xrH) (pc : Nat) (L : xrL) (st : List Value) : Prop :=
  ∀ (H : Heap) (locs : List Loc) (ads : List Nat) (ws : va_W) (tys : List (ClassId × FieldType)) (ls : Array Slot) (L' : xrL) (st' : List Value), xr_le a0 ads → xr_W T D A b h ads s ws tys H → va_S A s.heap H locs → lv_has ls (xr_mx M) L' → xr_Ls ads b L L' → xr_Vs ads b st st' →
    W p l e R s m args below meth c H locs (h.1 - c0) (h.2.1 - s0) Q (F0 m pc ls st')
section XST
variable {p : Program} {l : Launch} {e : Env} {R : Room} {s : State} {m : MethodId} {args : Array Value} {below : List Frame} {meth : Method} {c : Code} {Q : State → Prop}
variable {T : xrT} {D : va_G} {A : Nat → Prop} {b : Nat} {GW : List Cond} {ST : List (String × Nat × String)} {NC : List (String × String)} {AO : List String} {M : xrM} {a0 : List Nat} {c0 s0 : Nat} {h : xrH} {pc n : Nat} {L : xrL} {st : List Value} {F : xrF × xrH}
theorem xg_push {v : Value} {d : Nat} (row : ∀ (H : Heap) (locs : List Loc) (cells slots : Nat) (ls : Array Slot) (rest : List Value), W p l e R s m args below meth c H locs cells slots Q (F0 m (pc + d) ls (v :: rest)) → W p l e R s m args below meth c H locs cells slots Q (F0 m pc ls rest))
    (hv : (∃ x, v = .int x) ∨ (∃ x, v = .long x) ∨ v = .null) (hn : n = d) (hs : some ((pc + n, L, v :: st), h) = some F) (k : xr_G p l e R s m args below meth c Q T D A b M a0 c0 s0 F.2 F.1.1 F.1.2.1 F.1.2.2) : xr_G p l e R s m args below meth c Q T D A b M a0 c0 s0 h pc L st := by
  subst hn
  cases hs
  intro H locs ads ws tys ls L' st' h1 h2 h3 h4 h5 h6
  refine row _ _ _ _ _ _ (k H locs ads ws tys ls L' (v :: st') h1 h2 h3 h4 h5 ⟨?_, h6⟩)
  rcases hv with ⟨x, rfl⟩ | ⟨x, rfl⟩ | rfl
  · exact rfl
  · exact rfl
  · exact trivial
theorem xg_li {i d : Nat} (row : ∀ (H : Heap) (locs : List Loc) (cells slots : Nat) (ls : Array Slot) (rest : List Value) (x : Int32), ls[i]? = some (.val (.int x)) → W p l e R s m args below meth c H locs cells slots Q (F0 m (pc + d) ls (.int x :: rest)) → W p l e R s m args below meth c H locs cells slots Q (F0 m pc ls rest))
    (hn : n = d) (hs : xr_li L i n pc st h = some F) (k : xr_G p l e R s m args below meth c Q T D A b M a0 c0 s0 F.2 F.1.1 F.1.2.1 F.1.2.2) : xr_G p l e R s m args below meth c Q T D A b M a0 c0 s0 h pc L st := by
  subst hn
  obtain ⟨x, hg, rfl⟩ := xr_li_s hs
  intro H locs ads ws tys ls L' st' h1 h2 h3 h4 h5 h6
  obtain ⟨j, v', hj, hv⟩ := h5.get i _ hg
  have hv' := hv.int
  subst hv'
  exact row _ _ _ _ _ _ x (lv_at h4 j hj) (k H locs ads ws tys ls L' (.int x :: st') h1 h2 h3 h4 h5 ⟨rfl, h6⟩)
theorem xg_ll {i d : Nat} (row : ∀ (H : Heap) (locs : List Loc) (cells slots : Nat) (ls : Array Slot) (rest : List Value) (x : Int64), ls[i]? = some (.val (.long x)) → W p l e R s m args below meth c H locs cells slots Q (F0 m (pc + d) ls (.long x :: rest)) → W p l e R s m args below meth c H locs cells slots Q (F0 m pc ls rest))
    (hn : n = d) (hs : xr_ll L i n pc st h = some F) (k : xr_G p l e R s m args below meth c Q T D A b M a0 c0 s0 F.2 F.1.1 F.1.2.1 F.1.2.2) : xr_G p l e R s m args below meth c Q T D A b M a0 c0 s0 h pc L st := by
  subst hn
  obtain ⟨x, hg, rfl⟩ := xr_ll_s hs
  intro H locs ads ws tys ls L' st' h1 h2 h3 h4 h5 h6
  obtain ⟨j, v', hj, hv⟩ := h5.get i _ hg
  have hv' := hv.long
  subst hv'
  exact row _ _ _ _ _ _ x (lv_at h4 j hj) (k H locs ads ws tys ls L' (.long x :: st') h1 h2 h3 h4 h5 ⟨rfl, h6⟩)
theorem xg_la {i d : Nat} (row : ∀ (H : Heap) (locs : List Loc) (cells slots : Nat) (ls : Array Slot) (rest : List Value) (x : Nat), ls[i]? = some (.val (.ref x)) → W p l e R s m args below meth c H locs cells slots Q (F0 m (pc + d) ls (.ref x :: rest)) → W p l e R s m args below meth c H locs cells slots Q (F0 m pc ls rest))
    (rowN : ∀ (H : Heap) (locs : List Loc) (cells slots : Nat) (ls : Array Slot) (rest : List Value), ls[i]? = some (.val .null) → W p l e R s m args below meth c H locs cells slots Q (F0 m (pc + d) ls (.null :: rest)) → W p l e R s m args below meth c H locs cells slots Q (F0 m pc ls rest))
    (hn : n = d) (hs : xr_la L i n pc st h = some F) (k : xr_G p l e R s m args below meth c Q T D A b M a0 c0 s0 F.2 F.1.1 F.1.2.1 F.1.2.2) : xr_G p l e R s m args below meth c Q T D A b M a0 c0 s0 h pc L st := by
  subst hn
  obtain ⟨v, hg, hv, rfl⟩ := xr_la_s hs
  intro H locs ads ws tys ls L' st' h1 h2 h3 h4 h5 h6
  obtain ⟨j, v', hj, hw⟩ := h5.get i _ hg
  rcases hv with ⟨x, rfl⟩ | rfl | ⟨x, rfl⟩
  · obtain ⟨q, rfl, hq⟩ := hw.ref
    exact row _ _ _ _ _ _ q (lv_at h4 j hj) (k H locs ads ws tys ls L' (.ref q :: st') h1 h2 h3 h4 h5 ⟨hq, h6⟩)
  · have hv' := hw.null
    subst hv'
    exact rowN _ _ _ _ _ _ (lv_at h4 j hj) (k H locs ads ws tys ls L' (.null :: st') h1 h2 h3 h4 h5 ⟨trivial, h6⟩)
  · obtain ⟨q, rfl⟩ := hw.ret
    exact row _ _ _ _ _ _ q (lv_at h4 j hj) (k H locs ads ws tys ls L' (.ref q :: st') h1 h2 h3 h4 h5 ⟨hw, h6⟩)
theorem xg_si {i d : Nat} (row : ∀ (H : Heap) (locs : List Loc) (cells slots : Nat) (ls : Array Slot) (rest : List Value) (x : Int32) (lv : xrL), lv_has ls (xr_mx M) lv → (∀ ls' : Array Slot, lv_has ls' (xr_mx M) (xr_st1 lv i (.int x)) → W p l e R s m args below meth c H locs cells slots Q (F0 m (pc + d) ls' rest)) → W p l e R s m args below meth c H locs cells slots Q (F0 m pc ls (.int x :: rest)))
    (hn : n = d) (hs : xr_si L i n pc st h = some F) (k : xr_G p l e R s m args below meth c Q T D A b M a0 c0 s0 F.2 F.1.1 F.1.2.1 F.1.2.2) : xr_G p l e R s m args below meth c Q T D A b M a0 c0 s0 h pc L st := by
  subst hn
  obtain ⟨x, r, rfl, rfl⟩ := xr_si_s hs
  intro H locs ads ws tys ls L' st' h1 h2 h3 h4 h5 h6
  obtain ⟨v', r', rfl, hv, hr⟩ := h6.cons
  have hv' := hv.int
  subst hv'
  exact row _ _ _ _ _ _ x L' h4 (fun ls' h4' => k H locs ads ws tys ls' (xr_st1 L' i (.int x)) r' h1 h2 h3 h4' (h5.st1 (v := .int x) (v' := .int x) rfl i) hr)
theorem xg_sl {i d : Nat} (row : ∀ (H : Heap) (locs : List Loc) (cells slots : Nat) (ls : Array Slot) (rest : List Value) (x : Int64) (lv : xrL), lv_has ls (xr_mx M) lv → (∀ ls' : Array Slot, lv_has ls' (xr_mx M) (xr_st2 lv i (.long x)) → W p l e R s m args below meth c H locs cells slots Q (F0 m (pc + d) ls' rest)) → W p l e R s m args below meth c H locs cells slots Q (F0 m pc ls (.long x :: rest)))
    (hn : n = d) (hs : xr_sl L i n pc st h = some F) (k : xr_G p l e R s m args below meth c Q T D A b M a0 c0 s0 F.2 F.1.1 F.1.2.1 F.1.2.2) : xr_G p l e R s m args below meth c Q T D A b M a0 c0 s0 h pc L st := by
  subst hn
  obtain ⟨x, r, rfl, rfl⟩ := xr_sl_s hs
  intro H locs ads ws tys ls L' st' h1 h2 h3 h4 h5 h6
  obtain ⟨v', r', rfl, hv, hr⟩ := h6.cons
  have hv' := hv.long
  subst hv'
  exact row _ _ _ _ _ _ x L' h4 (fun ls' h4' => k H locs ads ws tys ls' (xr_st2 L' i (.long x)) r' h1 h2 h3 h4' (h5.st2 (v := .long x) (v' := .long x) rfl i) hr)
theorem xg_sa {i d : Nat} (row : ∀ (H : Heap) (locs : List Loc) (cells slots : Nat) (ls : Array Slot) (rest : List Value) (x : Nat) (lv : xrL), lv_has ls (xr_mx M) lv → (∀ ls' : Array Slot, lv_has ls' (xr_mx M) (xr_st1 lv i (.ref x)) → W p l e R s m args below meth c H locs cells slots Q (F0 m (pc + d) ls' rest)) → W p l e R s m args below meth c H locs cells slots Q (F0 m pc ls (.ref x :: rest)))
    (rowN : ∀ (H : Heap) (locs : List Loc) (cells slots : Nat) (ls : Array Slot) (rest : List Value) (lv : xrL), lv_has ls (xr_mx M) lv → (∀ ls' : Array Slot, lv_has ls' (xr_mx M) (xr_st1 lv i .null) → W p l e R s m args below meth c H locs cells slots Q (F0 m (pc + d) ls' rest)) → W p l e R s m args below meth c H locs cells slots Q (F0 m pc ls (.null :: rest)))
    (hn : n = d) (hs : xr_sa L i n pc st h = some F) (k : xr_G p l e R s m args below meth c Q T D A b M a0 c0 s0 F.2 F.1.1 F.1.2.1 F.1.2.2) : xr_G p l e R s m args below meth c Q T D A b M a0 c0 s0 h pc L st := by
  subst hn
  obtain ⟨v, r, rfl, hv, rfl⟩ := xr_sa_s hs
  intro H locs ads ws tys ls L' st' h1 h2 h3 h4 h5 h6
  obtain ⟨v', r', rfl, hw, hr⟩ := h6.cons
  rcases hv with ⟨x, rfl⟩ | rfl | ⟨x, rfl⟩
  · obtain ⟨q, rfl, hq⟩ := hw.ref
    exact row _ _ _ _ _ _ q L' h4 (fun ls' h4' => k H locs ads ws tys ls' _ r' h1 h2 h3 h4' (h5.st1 hw i) hr)
  · have hv' := hw.null
    subst hv'
    exact rowN _ _ _ _ _ _ L' h4 (fun ls' h4' => k H locs ads ws tys ls' _ r' h1 h2 h3 h4' (h5.st1 hw i) hr)
  · obtain ⟨q, rfl⟩ := hw.ret
    exact row _ _ _ _ _ _ q L' h4 (fun ls' h4' => k H locs ads ws tys ls' _ r' h1 h2 h3 h4' (h5.st1 hw i) hr)
theorem xg_bi {f : Int32 → Int32 → Int32} (row : ∀ (H : Heap) (locs : List Loc) (cells slots : Nat) (ls : Array Slot) (rest : List Value) (x y : Int32), W p l e R s m args below meth c H locs cells slots Q (F0 m (pc + 1) ls (.int (f x y) :: rest)) → W p l e R s m args below meth c H locs cells slots Q (F0 m pc ls (.int y :: .int x :: rest)))
    (hn : n = 1) (hs : xr_bi f n pc L st h = some F) (k : xr_G p l e R s m args below meth c Q T D A b M a0 c0 s0 F.2 F.1.1 F.1.2.1 F.1.2.2) : xr_G p l e R s m args below meth c Q T D A b M a0 c0 s0 h pc L st := by
  subst hn
  obtain ⟨x, y, r, rfl, rfl⟩ := xr_bi_s hs
  intro H locs ads ws tys ls L' st' h1 h2 h3 h4 h5 h6
  obtain ⟨v1, r1, rfl, hv1, hr1⟩ := h6.cons
  obtain ⟨v2, r2, rfl, hv2, hr2⟩ := hr1.cons
  have e1 := hv1.int
  have e2 := hv2.int
  subst e1
  subst e2
  exact row _ _ _ _ _ _ x y (k H locs ads ws tys ls L' (.int (f x y) :: r2) h1 h2 h3 h4 h5 ⟨rfl, hr2⟩)
theorem xg_bd {f : Int32 → Int32 → Int32} (row : ∀ (H : Heap) (locs : List Loc) (cells slots : Nat) (ls : Array Slot) (rest : List Value) (x y : Int32), ¬ y = 0 → W p l e R s m args below meth c H locs cells slots Q (F0 m (pc + 1) ls (.int (f x y) :: rest)) → W p l e R s m args below meth c H locs cells slots Q (F0 m pc ls (.int y :: .int x :: rest)))
    (hn : n = 1) (hs : xr_bd f n pc L st h = some F) (k : xr_G p l e R s m args below meth c Q T D A b M a0 c0 s0 F.2 F.1.1 F.1.2.1 F.1.2.2) : xr_G p l e R s m args below meth c Q T D A b M a0 c0 s0 h pc L st := by
  subst hn
  obtain ⟨x, y, r, rfl, hy, rfl⟩ := xr_bd_s hs
  intro H locs ads ws tys ls L' st' h1 h2 h3 h4 h5 h6
  obtain ⟨v1, r1, rfl, hv1, hr1⟩ := h6.cons
  obtain ⟨v2, r2, rfl, hv2, hr2⟩ := hr1.cons
  have e1 := hv1.int
  have e2 := hv2.int
  subst e1
  subst e2
  exact row _ _ _ _ _ _ x y hy (k H locs ads ws tys ls L' (.int (f x y) :: r2) h1 h2 h3 h4 h5 ⟨rfl, hr2⟩)
theorem xg_bl {f : Int64 → Int64 → Int64} (row : ∀ (H : Heap) (locs : List Loc) (cells slots : Nat) (ls : Array Slot) (rest : List Value) (x y : Int64), W p l e R s m args below meth c H locs cells slots Q (F0 m (pc + 1) ls (.long (f x y) :: rest)) → W p l e R s m args below meth c H locs cells slots Q (F0 m pc ls (.long y :: .long x :: rest)))
    (hn : n = 1) (hs : xr_bl f n pc L st h = some F) (k : xr_G p l e R s m args below meth c Q T D A b M a0 c0 s0 F.2 F.1.1 F.1.2.1 F.1.2.2) : xr_G p l e R s m args below meth c Q T D A b M a0 c0 s0 h pc L st := by
  subst hn
  obtain ⟨x, y, r, rfl, rfl⟩ := xr_bl_s hs
  intro H locs ads ws tys ls L' st' h1 h2 h3 h4 h5 h6
  obtain ⟨v1, r1, rfl, hv1, hr1⟩ := h6.cons
  obtain ⟨v2, r2, rfl, hv2, hr2⟩ := hr1.cons
  have e1 := hv1.long
  have e2 := hv2.long
  subst e1
  subst e2
  exact row _ _ _ _ _ _ x y (k H locs ads ws tys ls L' (.long (f x y) :: r2) h1 h2 h3 h4 h5 ⟨rfl, hr2⟩)
theorem xg_bs {f : Int64 → Int32 → Int64} (row : ∀ (H : Heap) (locs : List Loc) (cells slots : Nat) (ls : Array Slot) (rest : List Value) (x : Int64) (y : Int32), W p l e R s m args below meth c H locs cells slots Q (F0 m (pc + 1) ls (.long (f x y) :: rest)) → W p l e R s m args below meth c H locs cells slots Q (F0 m pc ls (.int y :: .long x :: rest)))
    (hn : n = 1) (hs : xr_bs f n pc L st h = some F) (k : xr_G p l e R s m args below meth c Q T D A b M a0 c0 s0 F.2 F.1.1 F.1.2.1 F.1.2.2) : xr_G p l e R s m args below meth c Q T D A b M a0 c0 s0 h pc L st := by
  subst hn
  obtain ⟨x, y, r, rfl, rfl⟩ := xr_bs_s hs
  intro H locs ads ws tys ls L' st' h1 h2 h3 h4 h5 h6
  obtain ⟨v1, r1, rfl, hv1, hr1⟩ := h6.cons
  obtain ⟨v2, r2, rfl, hv2, hr2⟩ := hr1.cons
  have e1 := hv1.int
  have e2 := hv2.long
  subst e1
  subst e2
  exact row _ _ _ _ _ _ x y (k H locs ads ws tys ls L' (.long (f x y) :: r2) h1 h2 h3 h4 h5 ⟨rfl, hr2⟩)
/-- a branch over one int -/
theorem xg_b1 {off : Int} {P : Int32 → Prop} (dP : ∀ x, Decidable (P x)) (row : ∀ (H : Heap) (locs : List Loc) (cells slots : Nat) (ls : Array Slot) (rest : List Value) (x : Int32) (tgt : Nat), (pc : Int) + off = (tgt : Int) → (P x → W p l e R s m args below meth c H locs cells slots Q (F0 m tgt ls rest)) → (¬ P x → W p l e R s m args below meth c H locs cells slots Q (F0 m (pc + 3) ls rest)) → W p l e R s m args below meth c H locs cells slots Q (F0 m pc ls (.int x :: rest)))
    (hn : n = 3) (ht : ∃ t : Nat, (pc : Int) + off = (t : Int)) {x : Int32} {r : List Value} (ys : P x → xr_to pc off L r h = some F) (no : ¬ P x → some ((pc + n, L, r), h) = some F) (k : xr_G p l e R s m args below meth c Q T D A b M a0 c0 s0 F.2 F.1.1 F.1.2.1 F.1.2.2) : xr_G p l e R s m args below meth c Q T D A b M a0 c0 s0 h pc L (.int x :: r) := by
  subst hn
  intro H locs ads ws tys ls L' st' h1 h2 h3 h4 h5 h6
  obtain ⟨v1, r1, rfl, hv1, hr1⟩ := h6.cons
  have e1 := hv1.int
  subst e1
  obtain ⟨t, ht⟩ := ht
  refine row _ _ _ _ _ _ x t ht (fun hp => ?_) (fun hp => ?_)
  · obtain ⟨t', ht', rfl⟩ := xr_to_s (ys hp)
    have : t' = t := by omega
    subst this
    exact k H locs ads ws tys ls L' r1 h1 h2 h3 h4 h5 hr1
  · cases no hp
    exact k H locs ads ws tys ls L' r1 h1 h2 h3 h4 h5 hr1
theorem xg_b2 {off : Int} {P : Int32 → Int32 → Prop} (dP : ∀ x y, Decidable (P x y)) (row : ∀ (H : Heap) (locs : List Loc) (cells slots : Nat) (ls : Array Slot) (rest : List Value) (x y : Int32) (tgt : Nat), (pc : Int) + off = (tgt : Int) → (P x y → W p l e R s m args below meth c H locs cells slots Q (F0 m tgt ls rest)) → (¬ P x y → W p l e R s m args below meth c H locs cells slots Q (F0 m (pc + 3) ls rest)) → W p l e R s m args below meth c H locs cells slots Q (F0 m pc ls (.int y :: .int x :: rest)))
    (hn : n = 3) (ht : ∃ t : Nat, (pc : Int) + off = (t : Int)) {x y : Int32} {r : List Value} (ys : P x y → xr_to pc off L r h = some F) (no : ¬ P x y → some ((pc + n, L, r), h) = some F) (k : xr_G p l e R s m args below meth c Q T D A b M a0 c0 s0 F.2 F.1.1 F.1.2.1 F.1.2.2) : xr_G p l e R s m args below meth c Q T D A b M a0 c0 s0 h pc L (.int y :: .int x :: r) := by
  subst hn
  intro H locs ads ws tys ls L' st' h1 h2 h3 h4 h5 h6
  obtain ⟨v1, r1, rfl, hv1, hr1⟩ := h6.cons
  obtain ⟨v2, r2, rfl, hv2, hr2⟩ := hr1.cons
  have e1 := hv1.int
  have e2 := hv2.int
  subst e1
  subst e2
  obtain ⟨t, ht⟩ := ht
  refine row _ _ _ _ _ _ x y t ht (fun hp => ?_) (fun hp => ?_)
  · obtain ⟨t', ht', rfl⟩ := xr_to_s (ys hp)
    have : t' = t := by omega
    subst this
    exact k H locs ads ws tys ls L' r2 h1 h2 h3 h4 h5 hr2
  · cases no hp
    exact k H locs ads ws tys ls L' r2 h1 h2 h3 h4 h5 hr2
end XST
end
section
/-! ONE INSTRUCTION over the heap -/
theorem xr_nar1 {x : Int32} (h : x = 0 ∨ x = 1) : vp_nar .boolean x = x := by
  rcases h with rfl | rfl <;> decide
theorem xr_take {w : Nat} {ty : FieldType} {v v' : Value} {ads : List Nat} {b : Nat} (ht : xr_tyk w ty) (hv : xr_tak w v = true) (hr : xr_V ads b v v') : narrow ty v' = v' ∧ fits ty v' = true := by
  cases v with
  | int x =>
    have e := hr.int
    subst e
    rcases ht with ⟨rfl, rfl⟩ | ⟨rfl, rfl⟩ | ⟨rfl, -⟩
    · exact ⟨rfl, rfl⟩
    · have hx : x = 0 ∨ x = 1 := by
        have : (x == 0 || x == 1) = true := by simpa [xr_tak] using hv
        simpa using this
      rcases hx with rfl | rfl <;> exact ⟨by decide, by decide⟩
    · simp [xr_tak] at hv
  | ref a =>
    obtain ⟨q, rfl, -⟩ := hr.ref
    rcases ht with ⟨rfl, rfl⟩ | ⟨rfl, rfl⟩ | ⟨rfl, ⟨C, rfl⟩ | ⟨t, rfl⟩⟩
    · simp [xr_tak] at hv
    · simp [xr_tak] at hv
    · exact ⟨rfl, rfl⟩
    · exact ⟨rfl, rfl⟩
  | null =>
    have e := hr.null
    subst e
    rcases ht with ⟨rfl, rfl⟩ | ⟨rfl, rfl⟩ | ⟨rfl, ⟨C, rfl⟩ | ⟨t, rfl⟩⟩
    · simp [xr_tak] at hv
    · simp [xr_tak] at hv
    · exact ⟨rfl, rfl⟩
    · exact ⟨rfl, rfl⟩
  | _ => simp [xr_tak] at hv
theorem xr_rf_V {ads : List Nat} {b : Nat} {f g : Nat → Option Nat} (h : xr_R ads f g) (i : Nat) : xr_V ads b (xr_rf (f i)) (va_rf (g i)) := by
  rcases h i with ⟨h1, h2⟩ | ⟨a, q, h1, h2, h3⟩
  · rw [h1, h2]; exact trivial
  · rw [h1, h2]; exact h3
theorem xr_R.up {ads : List Nat} {f g : Nat → Option Nat} (h : xr_R ads f g) (i : Nat) {v q : Nat} (hv : ads[v]? = some q) : xr_R ads (va_up f i (some v)) (va_up g i (some q)) := by
  intro k
  by_cases hk : k = i
  · exact Or.inr ⟨v, q, by simp [va_up, hk], by simp [va_up, hk], hv⟩
  · rcases h k with ⟨h1, h2⟩ | ⟨a, x, h1, h2, h3⟩
    · exact Or.inl ⟨by simpa [va_up, hk] using h1, by simpa [va_up, hk] using h2⟩
    · exact Or.inr ⟨a, x, by simpa [va_up, hk] using h1, by simpa [va_up, hk] using h2, h3⟩
theorem xr_E.mk1 {ads : List Nat} {b : Nat} {tys : List (ClassId × FieldType)} {ty : FieldType} {n t0 : Nat} {c c'} {cA : ClassId} (ht : tys[t0]? = some (cA, ty)) (ha : xr_A ads c c') : xr_E ads b tys (.inl (ty, n, c)) (.inl (cA, n, c')) := ⟨rfl, ⟨t0, ht⟩, ha⟩
theorem xr_E.mk2 {ads : List Nat} {b : Nat} {tys : List (ClassId × FieldType)} {ci : Nat} {fs fs' : List Value} (ha : xr_Vs ads b fs fs') : xr_E ads b tys (.inr (ci, fs)) (.inr (ci, fs')) := ⟨rfl, ha⟩
theorem xr_A.ii {ads : List Nat} (f : Nat → Int32) : xr_A ads (.inl f) (.inl f) := rfl
theorem xr_A.ll {ads : List Nat} (f : Nat → Int64) : xr_A ads (.inr (.inl f)) (.inr (.inl f)) := rfl
theorem xr_A.qq {ads : List Nat} {f g : Nat → Option Nat} (h : xr_R ads f g) : xr_A ads (.inr (.inr (.inr (.inr f)))) (.inr (.inr (.inr (.inr g)))) := h
section XSH
variable {p : Program} {l : Launch} {e : Env} {R : Room} {s : State} {m : MethodId} {args : Array Value} {below : List Frame} {meth : Method} {c : Code} {Q : State → Prop}
variable {T : xrT} {D : va_G} {A : Nat → Prop} {b : Nat} {GW : List Cond} {ST : List (String × Nat × String)} {NC : List (String × String)} {AO : List String} {M : xrM} {a0 : List Nat} {c0 s0 : Nat} {h : xrH} {pc n : Nat} {L : xrL} {st : List Value} {F : xrF × xrH}
theorem xg_ia (C : xr_Cx p l s m args meth c T A b GW ST NC AO M) (hd : decode (xr_by M) pc = .ok (.iaload, 1)) (hn : n = 1) (hs : xr_ald T .int n pc L st h = some F) (k : xr_G p l e R s m args below meth c Q T D A b M a0 c0 s0 F.2 F.1.1 F.1.2.1 F.1.2.2) : xr_G p l e R s m args below meth c Q T D A b M a0 c0 s0 h pc L st := by
  subst hn
  obtain ⟨hx, hb, -, -, -, -, -, -, -, hE, -, -⟩ := C
  rcases xr_ald_s hs with ⟨i, a, r, z, f, rfl, hm, hin, rfl⟩ | ⟨i, j, r, rfl, hty, hin, rfl⟩
  · intro H locs ads ws tys ls L' st' h1 h2 h3 h4 h5 h6
    obtain ⟨v1, r1, rfl, hv1, hr1⟩ := h6.cons
    obtain ⟨v2, r2, rfl, hv2, hr2⟩ := hr1.cons
    have e1 := hv1.int
    subst e1
    obtain ⟨q, rfl, hq⟩ := hv2.ref
    obtain ⟨e', hw, he⟩ := h2.at hq
    rw [hm] at he
    obtain ⟨cA, c', t0, rfl, ht0, hc'⟩ := he.arr
    have e2 := hc'.i
    subst e2
    exact va_iald hx hb h2.1 h2.2.1 a t0 hw ht0 hin hd (k H locs ads ws tys ls L' (.int (f i.toNatClampNeg) :: r2) h1 h2 h3 h4 h5 ⟨rfl, hr2⟩)
  · intro H locs ads ws tys ls L' st' h1 h2 h3 h4 h5 h6
    obtain ⟨v1, r1, rfl, hv1, hr1⟩ := h6.cons
    obtain ⟨v2, r2, rfl, hv2, hr2⟩ := hr1.cons
    have e1 := hv1.int
    subst e1
    have e2 := hv2.ret1
    subst e2
    exact va_sld hx hb hE.2.2.1 hE.2.2.2.1 hE.2.2.2.2.1 h3 hin hd (k H locs ads ws tys ls L' (.int (T.2.2.2.2 i.toNatClampNeg) :: r2) h1 h2 h3 h4 h5 ⟨rfl, hr2⟩)
theorem xg_za (C : xr_Cx p l s m args meth c T A b GW ST NC AO M) (hd : decode (xr_by M) pc = .ok (.baload, 1)) (hn : n = 1) (hs : xr_ald T .boolean n pc L st h = some F) (k : xr_G p l e R s m args below meth c Q T D A b M a0 c0 s0 F.2 F.1.1 F.1.2.1 F.1.2.2) : xr_G p l e R s m args below meth c Q T D A b M a0 c0 s0 h pc L st := by
  subst hn
  obtain ⟨hx, hb, -, -, -, -, -, -, -, hE, -, -⟩ := C
  rcases xr_ald_s hs with ⟨i, a, r, z, f, rfl, hm, hin, rfl⟩ | ⟨i, j, r, rfl, hty, hin, rfl⟩
  · intro H locs ads ws tys ls L' st' h1 h2 h3 h4 h5 h6
    obtain ⟨v1, r1, rfl, hv1, hr1⟩ := h6.cons
    obtain ⟨v2, r2, rfl, hv2, hr2⟩ := hr1.cons
    have e1 := hv1.int
    subst e1
    obtain ⟨q, rfl, hq⟩ := hv2.ref
    obtain ⟨e', hw, he⟩ := h2.at hq
    rw [hm] at he
    obtain ⟨cA, c', t0, rfl, ht0, hc'⟩ := he.arr
    have e2 := hc'.i
    subst e2
    exact va_zald hx hb h2.1 h2.2.1 a t0 hw ht0 hin hd (k H locs ads ws tys ls L' (.int (f i.toNatClampNeg) :: r2) h1 h2 h3 h4 h5 ⟨rfl, hr2⟩)
  · intro H locs ads ws tys ls L' st' h1 h2 h3 h4 h5 h6
    obtain ⟨v1, r1, rfl, hv1, hr1⟩ := h6.cons
    obtain ⟨v2, r2, rfl, hv2, hr2⟩ := hr1.cons
    have e1 := hv1.int
    subst e1
    have e2 := hv2.ret1
    subst e2
    cases hty
theorem xg_is (C : xr_Cx p l s m args meth c T A b GW ST NC AO M) (hd : decode (xr_by M) pc = .ok (.iastore, 1)) (hn : n = 1) (hs : xr_ast .int n pc L st h = some F) (k : xr_G p l e R s m args below meth c Q T D A b M a0 c0 s0 F.2 F.1.1 F.1.2.1 F.1.2.2) : xr_G p l e R s m args below meth c Q T D A b M a0 c0 s0 h pc L st := by
  subst hn
  obtain ⟨hx, hb, -⟩ := C
  obtain ⟨x, i, a, r, z, f, rfl, hm, hin, hx0, rfl⟩ := xr_ast_s hs
  intro H locs ads ws tys ls L' st' h1 h2 h3 h4 h5 h6
  obtain ⟨v1, r1, rfl, hv1, hr1⟩ := h6.cons
  obtain ⟨v2, r2, rfl, hv2, hr2⟩ := hr1.cons
  obtain ⟨v3, r3, rfl, hv3, hr3⟩ := hr2.cons
  have e1 := hv1.int
  subst e1
  have e2 := hv2.int
  subst e2
  obtain ⟨q, rfl, hq⟩ := hv3.ref
  obtain ⟨e', hw, he⟩ := h2.at hq
  rw [hm] at he
  obtain ⟨cA, c', t0, rfl, ht0, hc'⟩ := he.arr
  have e2 := hc'.i
  subst e2
  refine va_iast hx hb h2.1 h2.2.1 h2.2.2.1 h3 a t0 hw ht0 hin hd fun H1 l1 hP hD hS => ?_
  · skip
    exact k H1 l1 ads _ tys ls L' r3 h1 (h2.set hw (e := .inl (.int, z, .inl (upd f i.toNatClampNeg x))) (xr_E.mk1 ht0 (xr_A.ii _)) hP hD) hS h4 h5 hr3
theorem xg_zs (C : xr_Cx p l s m args meth c T A b GW ST NC AO M) (hd : decode (xr_by M) pc = .ok (.bastore, 1)) (hn : n = 1) (hs : xr_ast .boolean n pc L st h = some F) (k : xr_G p l e R s m args below meth c Q T D A b M a0 c0 s0 F.2 F.1.1 F.1.2.1 F.1.2.2) : xr_G p l e R s m args below meth c Q T D A b M a0 c0 s0 h pc L st := by
  subst hn
  obtain ⟨hx, hb, -⟩ := C
  obtain ⟨x, i, a, r, z, f, rfl, hm, hin, hx0, rfl⟩ := xr_ast_s hs
  intro H locs ads ws tys ls L' st' h1 h2 h3 h4 h5 h6
  obtain ⟨v1, r1, rfl, hv1, hr1⟩ := h6.cons
  obtain ⟨v2, r2, rfl, hv2, hr2⟩ := hr1.cons
  obtain ⟨v3, r3, rfl, hv3, hr3⟩ := hr2.cons
  have e1 := hv1.int
  subst e1
  have e2 := hv2.int
  subst e2
  obtain ⟨q, rfl, hq⟩ := hv3.ref
  obtain ⟨e', hw, he⟩ := h2.at hq
  rw [hm] at he
  obtain ⟨cA, c', t0, rfl, ht0, hc'⟩ := he.arr
  have e2 := hc'.i
  subst e2
  refine va_zast hx hb h2.1 h2.2.1 h2.2.2.1 h3 a t0 hw ht0 hin hd fun H1 l1 hP hD hS => ?_
  · skip
    have hxx : x = 0 ∨ x = 1 := by
      rcases hx0 with h0 | h0
      · cases h0
      · exact h0
    rw [xr_nar1 hxx] at hP hD
    exact k H1 l1 ads _ tys ls L' r3 h1 (h2.set hw (e := .inl (.boolean, z, .inl (upd f i.toNatClampNeg x))) (xr_E.mk1 ht0 (xr_A.ii _)) hP hD) hS h4 h5 hr3
theorem xg_la64 (C : xr_Cx p l s m args meth c T A b GW ST NC AO M) (hd : decode (xr_by M) pc = .ok (.laload, 1)) (hn : n = 1) (hs : xr_lald n pc L st h = some F) (k : xr_G p l e R s m args below meth c Q T D A b M a0 c0 s0 F.2 F.1.1 F.1.2.1 F.1.2.2) : xr_G p l e R s m args below meth c Q T D A b M a0 c0 s0 h pc L st := by
  subst hn
  obtain ⟨hx, hb, -⟩ := C
  obtain ⟨i, a, r, z, f, rfl, hm, hin, rfl⟩ := xr_lald_s hs
  intro H locs ads ws tys ls L' st' h1 h2 h3 h4 h5 h6
  obtain ⟨v1, r1, rfl, hv1, hr1⟩ := h6.cons
  obtain ⟨v2, r2, rfl, hv2, hr2⟩ := hr1.cons
  have e1 := hv1.int
  subst e1
  obtain ⟨q, rfl, hq⟩ := hv2.ref
  obtain ⟨e', hw, he⟩ := h2.at hq
  rw [hm] at he
  obtain ⟨cA, c', t0, rfl, ht0, hc'⟩ := he.arr
  have e2 := hc'.l
  subst e2
  exact va_lald hx hb h2.1 h2.2.1 a t0 hw ht0 hin hd (k H locs ads ws tys ls L' (.long (f i.toNatClampNeg) :: r2) h1 h2 h3 h4 h5 ⟨rfl, hr2⟩)
theorem xg_ls64 (C : xr_Cx p l s m args meth c T A b GW ST NC AO M) (hd : decode (xr_by M) pc = .ok (.lastore, 1)) (hn : n = 1) (hs : xr_last n pc L st h = some F) (k : xr_G p l e R s m args below meth c Q T D A b M a0 c0 s0 F.2 F.1.1 F.1.2.1 F.1.2.2) : xr_G p l e R s m args below meth c Q T D A b M a0 c0 s0 h pc L st := by
  subst hn
  obtain ⟨hx, hb, -⟩ := C
  obtain ⟨x, i, a, r, z, f, rfl, hm, hin, rfl⟩ := xr_last_s hs
  intro H locs ads ws tys ls L' st' h1 h2 h3 h4 h5 h6
  obtain ⟨v1, r1, rfl, hv1, hr1⟩ := h6.cons
  obtain ⟨v2, r2, rfl, hv2, hr2⟩ := hr1.cons
  obtain ⟨v3, r3, rfl, hv3, hr3⟩ := hr2.cons
  have e1 := hv1.long
  subst e1
  have e2 := hv2.int
  subst e2
  obtain ⟨q, rfl, hq⟩ := hv3.ref
  obtain ⟨e', hw, he⟩ := h2.at hq
  rw [hm] at he
  obtain ⟨cA, c', t0, rfl, ht0, hc'⟩ := he.arr
  have e2 := hc'.l
  subst e2
  exact va_last hx hb h2.1 h2.2.1 h2.2.2.1 h3 a t0 hw ht0 hin hd (fun H1 l1 hP hD hS => k H1 l1 ads _ tys ls L' r3 h1 (h2.set hw (e := .inl (.long, z, .inr (.inl (vp_updL f i.toNatClampNeg x)))) (xr_E.mk1 ht0 (xr_A.ll _)) hP hD) hS h4 h5 hr3)
theorem xg_qa (C : xr_Cx p l s m args meth c T A b GW ST NC AO M) (hd : decode (xr_by M) pc = .ok (.aaload, 1)) (hn : n = 1) (hs : xr_qald n pc L st h = some F) (k : xr_G p l e R s m args below meth c Q T D A b M a0 c0 s0 F.2 F.1.1 F.1.2.1 F.1.2.2) : xr_G p l e R s m args below meth c Q T D A b M a0 c0 s0 h pc L st := by
  subst hn
  obtain ⟨hx, hb, -⟩ := C
  obtain ⟨i, a, r, C0, z, f, rfl, hm, hin, rfl⟩ := xr_qald_s hs
  intro H locs ads ws tys ls L' st' h1 h2 h3 h4 h5 h6
  obtain ⟨v1, r1, rfl, hv1, hr1⟩ := h6.cons
  obtain ⟨v2, r2, rfl, hv2, hr2⟩ := hr1.cons
  have e1 := hv1.int
  subst e1
  obtain ⟨q, rfl, hq⟩ := hv2.ref
  obtain ⟨e', hw, he⟩ := h2.at hq
  rw [hm] at he
  obtain ⟨cA, c', t0, rfl, ht0, hc'⟩ := he.arr
  obtain ⟨g, rfl, hg⟩ := hc'.q
  exact va_aldq hx hb h2.1 h2.2.1 a t0 hw ht0 hin hd (k H locs ads ws tys ls L' (va_rf (g i.toNatClampNeg) :: r2) h1 h2 h3 h4 h5 ⟨xr_rf_V hg _, hr2⟩)
theorem xg_qs (C : xr_Cx p l s m args meth c T A b GW ST NC AO M) (hd : decode (xr_by M) pc = .ok (.aastore, 1)) (hn : n = 1) (hs : xr_qast T n pc L st h = some F) (k : xr_G p l e R s m args below meth c Q T D A b M a0 c0 s0 F.2 F.1.1 F.1.2.1 F.1.2.2) : xr_G p l e R s m args below meth c Q T D A b M a0 c0 s0 h pc L st := by
  subst hn
  obtain ⟨hx, hb, -⟩ := C
  obtain ⟨v, i, a, r, z, f, ci, vs, q0, rfl, hm, hmv, hcl, hin, rfl⟩ := xr_qast_s hs
  intro H locs ads ws tys ls L' st' h1 h2 h3 h4 h5 h6
  obtain ⟨v1, r1, rfl, hv1, hr1⟩ := h6.cons
  obtain ⟨v2, r2, rfl, hv2, hr2⟩ := hr1.cons
  obtain ⟨v3, r3, rfl, hv3, hr3⟩ := hr2.cons
  obtain ⟨qv, rfl, hqv⟩ := hv1.ref
  have e2 := hv2.int
  subst e2
  obtain ⟨q, rfl, hq⟩ := hv3.ref
  obtain ⟨e', hw, he⟩ := h2.at hq
  obtain ⟨e2', hw2, he2⟩ := h2.at hqv
  rw [hm] at he
  rw [hmv] at he2
  obtain ⟨cA, c', t0, rfl, ht0, hc'⟩ := he.arr
  obtain ⟨g, rfl, hg⟩ := hc'.q
  obtain ⟨fs', rfl, -⟩ := he2.obj
  exact va_astq hx hb h2.1 h2.2.1 h2.2.2.1 h3 a t0 v ci hw ht0 hw2 hcl hin hd (fun H1 l1 hP hD hS => k H1 l1 ads _ tys ls L' r3 h1 (h2.set hw (e := .inl (.object q0.1, z, .inr (.inr (.inr (.inr (va_up f i.toNatClampNeg (some v))))))) (xr_E.mk1 ht0 (xr_A.qq (hg.up _ hqv))) hP hD) hS h4 h5 hr3)
theorem xg_len (C : xr_Cx p l s m args meth c T A b GW ST NC AO M) (hd : decode (xr_by M) pc = .ok (.arraylength, 1)) (hn : n = 1) (hs : xr_len T n pc L st h = some F) (k : xr_G p l e R s m args below meth c Q T D A b M a0 c0 s0 F.2 F.1.1 F.1.2.1 F.1.2.2) : xr_G p l e R s m args below meth c Q T D A b M a0 c0 s0 h pc L st := by
  subst hn
  obtain ⟨hx, hb, -, -, -, -, -, -, -, hE, -, -⟩ := C
  rcases xr_len_s hs with ⟨a, r, ty, z, cc, rfl, hm, rfl⟩ | ⟨j, r, rfl, rfl⟩
  · intro H locs ads ws tys ls L' st' h1 h2 h3 h4 h5 h6
    obtain ⟨v2, r2, rfl, hv2, hr2⟩ := h6.cons
    obtain ⟨q, rfl, hq⟩ := hv2.ref
    obtain ⟨e', hw, he⟩ := h2.at hq
    rw [hm] at he
    obtain ⟨cA, c', t0, rfl, ht0, hc'⟩ := he.arr
    exact va_alen hx hb h2.1 h2.2.1 a t0 hw ht0 rfl hd (k H locs ads ws tys ls L' (.int (Int32.ofNat z) :: r2) h1 h2 h3 h4 h5 ⟨rfl, hr2⟩)
  · intro H locs ads ws tys ls L' st' h1 h2 h3 h4 h5 h6
    obtain ⟨v2, r2, rfl, hv2, hr2⟩ := h6.cons
    have e2 := hv2.ret1
    subst e2
    exact va_slen hx hb hE.2.2.1 hE.2.2.2.1 hE.2.2.2.2.1 h3 hd (k H locs ads ws tys ls L' (.int (Int32.ofNat T.2.2.2.1) :: r2) h1 h2 h3 h4 h5 ⟨rfl, hr2⟩)
theorem xg_fld {f x : Nat} {C0 : String} {F0' : u_T} {N : Nat} (C : xr_Cx p l s m args meth c T A b GW ST NC AO M) (hK : xr_Ks T GW) (hd : decode (xr_by M) pc = .ok (.getfield x, 3)) (hcl : T.2.1[f / 64]? = some (C0, F0', N)) (hN : f % 64 < N) (hl : Cond.fieldLink (xr_nm M).cls x C0 (F0' (f % 64)).2.1 (F0' (f % 64)).2.2.1 ∈ GW)
    (hn : n = 3) (hs : xr_fld f n pc L st h = some F) (k : xr_G p l e R s m args below meth c Q T D A b M a0 c0 s0 F.2 F.1.1 F.1.2.1 F.1.2.2) : xr_G p l e R s m args below meth c Q T D A b M a0 c0 s0 h pc L st := by
  subst hn
  obtain ⟨hx, hb, -, hown, hts, -⟩ := C
  obtain ⟨k1, -, -, k4, -⟩ := hK _ _ _ _ hcl
  obtain ⟨a, r, fs, v, rfl, hm, hv, rfl⟩ := xr_fld_s hs
  intro H locs ads ws tys ls L' st' h1 h2 h3 h4 h5 h6
  obtain ⟨v2, r2, rfl, hv2, hr2⟩ := h6.cons
  obtain ⟨q, rfl, hq⟩ := hv2.ref
  obtain ⟨e', hw, he⟩ := h2.at hq
  rw [hm] at he
  obtain ⟨fs', rfl, hfs⟩ := he.obj
  obtain ⟨v', hv', hvv⟩ := hfs.get _ _ hv
  exact va_get hx hb hts k1 hown h2.1 h2.2.1 a hw hcl (f % 64) hN (hts _ hl) (fun x hx => by rw [k4 _ hN] at hx; exact hx) hv' hd (k H locs ads ws tys ls L' (v' :: r2) h1 h2 h3 h4 h5 ⟨hvv, hr2⟩)
theorem xg_pfl {f y : Nat} (C : xr_Cx p l s m args meth c T A b GW ST NC AO M) (hK : xr_Ks T GW) (ho : xr_okp T GW M pc n f y)
    (hs : xr_pfl y f n pc L st h = some F) (k : xr_G p l e R s m args below meth c Q T D A b M a0 c0 s0 F.2 F.1.1 F.1.2.1 F.1.2.2) : xr_G p l e R s m args below meth c Q T D A b M a0 c0 s0 h pc L st := by
  obtain ⟨rfl, x, C0, F0', N, ty, hd, hcl, hN, hl, hty, htk, hfin⟩ := ho
  obtain ⟨hx, hb, -, hown, hts, hname, -⟩ := C
  obtain ⟨k1, ⟨ty0, k2, -⟩, k3, k4, k5, -⟩ := hK _ _ _ _ hcl
  obtain ⟨v, a, r, fs, rfl, hm, hlt, hta, rfl⟩ := xr_pfl_s hs
  intro H locs ads ws tys ls L' st' h1 h2 h3 h4 h5 h6
  obtain ⟨v1, r1, rfl, hv1, hr1⟩ := h6.cons
  obtain ⟨v2, r2, rfl, hv2, hr2⟩ := hr1.cons
  obtain ⟨q, rfl, hq⟩ := hv2.ref
  obtain ⟨e', hw, he⟩ := h2.at hq
  rw [hm] at he
  obtain ⟨fs', rfl, hfs⟩ := he.obj
  obtain ⟨hnar, hfit⟩ := xr_take htk hta hv1
  have hlt' : f % 64 < fs'.length := by rw [hfs.len]; exact hlt
  rcases hfin with hfin | ⟨hfin, hin2, hC0⟩
  · exact va_put hx hb hts k1 ty0 k2 k3 hown h2.1 h2.2.1 h2.2.2.1 h3 a hw hcl (f % 64) hN (hts _ hl) (fun x hx => by rw [k4 _ hN] at hx; exact hx) hfin hty hnar hfit hlt' hd (fun H1 l1 hP hD hS => k H1 l1 ads _ tys ls L' r2 h1 (h2.set hw (e := .inr (f / 64, fs.set (f % 64) v)) (xr_E.mk2 (hfs.set hv1 _)) hP hD) hS h4 h5 hr2)
  · exact va_putF hx hb hts k1 ty0 k2 k3 hown h2.1 h2.2.1 h2.2.2.1 h3 a hw hcl (f % 64) hN (hts _ hl) (fun x hx => by rw [k4 _ hN] at hx; exact hx) hfin (hname.trans hin2) ((k4 _ hN).trans hC0) hty hnar hfit hlt' hd (fun H1 l1 hP hD hS => k H1 l1 ads _ tys ls L' r2 h1 (h2.set hw (e := .inr (f / 64, fs.set (f % 64) v)) (xr_E.mk2 (hfs.set hv1 _)) hP hD) hS h4 h5 hr2)
theorem xr_Vs.self {ads : List Nat} {b : Nat} : ∀ {vs : List Value}, (∀ v ∈ vs, v = .null ∨ v = .int 0 ∨ v = .long 0) → xr_Vs ads b vs vs
  | [], _ => trivial
  | v :: t, g => by
    refine ⟨?_, xr_Vs.self (fun v hv => g v (List.mem_cons_of_mem _ hv))⟩
    rcases g v List.mem_cons_self with rfl | rfl | rfl
    · exact trivial
    · exact rfl
    · exact rfl
theorem xg_new {ci x : Nat} {C0 : String} {F0' : u_T} {N : Nat} (C : xr_Cx p l s m args meth c T A b GW ST NC AO M) (hK : xr_Ks T GW) (hd : decode (xr_by M) pc = .ok (.new x, 3)) (hcl : T.2.1[ci]? = some (C0, F0', N)) (hl : Cond.classLink (xr_nm M).cls x C0 ∈ GW)
    (hn : n = 3) (hs : some ((pc + n, L, .ref h.2.2.1 :: st), xr_new h (T.2.2.1 ci).length (.inr (ci, T.2.2.1 ci))) = some F) (hc : c0 ≤ h.1) (hc' : s0 ≤ h.2.1) (hR : F.2.1 - c0 ≤ R.cells ∧ F.2.2.1 - s0 ≤ R.slots) (k : xr_G p l e R s m args below meth c Q T D A b M a0 c0 s0 F.2 F.1.1 F.1.2.1 F.1.2.2) : xr_G p l e R s m args below meth c Q T D A b M a0 c0 s0 h pc L st := by
  subst hn
  cases hs
  obtain ⟨hx, hb, -, hown, hts, -, -, -, -, -, -, hA⟩ := C
  obtain ⟨k1, ⟨ty0, k2, k2'⟩, k3, k4, k5, k6, k7, k8⟩ := hK _ _ _ _ hcl
  have hR1 : h.1 + 1 - c0 ≤ R.cells := hR.1
  have hR2 : h.2.1 + (T.2.2.1 ci).length - s0 ≤ R.slots := hR.2
  intro H locs ads ws tys ls L' st' h1 h2 h3 h4 h5 h6
  refine va_new hx hb hts k1 ty0 k2 hown (hts _ hl) (hts _ k6) (hts _ k7) h2.1 h2.2.1 h2.2.2.1 h3 hA hcl k2' (by omega) (by omega) hd (fun q H1 hP hD hS => ?_)
  have w := h2.add (k := (T.2.2.1 ci).length) (e := .inr (ci, T.2.2.1 ci)) (ts := []) (by rw [List.append_nil]; exact h2.1) (xr_E.mk2 (xr_Vs.self k8)) hP hD
  rw [List.append_nil] at w
  refine W.cs (show h.1 - c0 + 1 = h.1 + 1 - c0 by omega) (show h.2.1 - s0 + N = h.2.1 + (T.2.2.1 ci).length - s0 by omega) ?_
  exact k H1 locs (ads ++ [q]) _ tys ls L' (.ref q :: st') (h1.tr (xr_le.app _ _)) w hS h4 (h5.mono (xr_le.app _ _)) ⟨h2.last q, h6.mono (xr_le.app _ _)⟩
theorem xg_nwa {t : ArrayType} (C : xr_Cx p l s m args meth c T A b GW ST NC AO M) (hd : decode (xr_by M) pc = .ok (.newarray t, 2)) (hl : Cond.arrayClass (newarray.typeOf t) ∈ GW) {kk : Int32} {r : List Value} {cc : vp_A} (hnw : xr_nwa t = some cc) (hk : ¬ (kk < 0 ∨ 65536 < kk.toNatClampNeg))
    (hn : n = 2) (hs : some ((pc + n, L, .ref h.2.2.1 :: r), xr_new h kk.toNatClampNeg (.inl (newarray.typeOf t, kk.toNatClampNeg, cc.2))) = some F) (hc : c0 ≤ h.1) (hc' : s0 ≤ h.2.1) (hR : F.2.1 - c0 ≤ R.cells ∧ F.2.2.1 - s0 ≤ R.slots) (k : xr_G p l e R s m args below meth c Q T D A b M a0 c0 s0 F.2 F.1.1 F.1.2.1 F.1.2.2) : xr_G p l e R s m args below meth c Q T D A b M a0 c0 s0 h pc L (.int kk :: r) := by
  subst hn
  cases hs
  obtain ⟨hx, hb, -, hown, hts, -, -, -, -, -, -, hA⟩ := C
  have hR1 : h.1 + 1 - c0 ≤ R.cells := hR.1
  have hR2 : h.2.1 + kk.toNatClampNeg - s0 ≤ R.slots := hR.2
  have hk0 : ¬ kk < 0 := fun z => hk (Or.inl z)
  have hk1 : kk.toNatClampNeg ≤ 65536 := Nat.not_lt.mp (fun z => hk (Or.inr z))
  have hcb : componentBytes (newarray.typeOf t) ≤ 8 := by cases t <;> decide
  have ha : ∀ cA : ClassId, vp_cell cA (kk.toNatClampNeg, cc.2) = arrV cA kk.toNatClampNeg (fun _ => defaultValue (newarray.typeOf t)) := by
    intro cA
    cases t <;> cases hnw <;> rfl
  have hAA : ∀ ads : List Nat, xr_A ads cc.2 cc.2 := by
    intro ads
    cases t <;> cases hnw <;> exact rfl
  intro H locs ads ws tys ls L' st' h1 h2 h3 h4 h5 h6
  obtain ⟨v1, r1, rfl, hv1, hr1⟩ := h6.cons
  have e1 := hv1.int
  subst e1
  refine va_newa hx hb (hts _ hl) rfl h2.1 h2.2.1 h2.2.2.1 h3 hA ha hk0 rfl (Nat.le_trans (Nat.mul_le_mul hk1 hcb) (Nat.le_of_ble_eq_true rfl)) (by omega) (by omega) hd (fun q cA H1 hK hP hD hS => ?_)
  have w := h2.add (k := kk.toNatClampNeg) (e := .inl (newarray.typeOf t, kk.toNatClampNeg, cc.2)) (ts := [(cA, newarray.typeOf t)]) hK (xr_E.mk1 (t0 := tys.length) (by simp) (hAA _)) hP hD
  refine W.cs (show h.1 - c0 + 1 = h.1 + 1 - c0 by omega) (show h.2.1 - s0 + kk.toNatClampNeg = h.2.1 + kk.toNatClampNeg - s0 by omega) ?_
  exact k H1 locs (ads ++ [q]) _ _ ls L' (.ref q :: r1) (h1.tr (xr_le.app _ _)) w hS h4 (h5.mono (xr_le.app _ _)) ⟨h2.last q, hr1.mono (xr_le.app _ _)⟩
theorem xg_anw {x : Nat} {q0 : vw_C} (C : xr_Cx p l s m args meth c T A b GW ST NC AO M) (hd : decode (xr_by M) pc = .ok (.anewarray x, 3)) (hl : Cond.classLink (xr_nm M).cls x q0.1 ∈ GW) (hao : q0.1 ∈ AO) {kk : Int32} {r : List Value} (hk : ¬ (kk < 0 ∨ 65536 < kk.toNatClampNeg))
    (hn : n = 3) (hs : some ((pc + n, L, .ref h.2.2.1 :: r), xr_new h kk.toNatClampNeg (.inl (.object q0.1, kk.toNatClampNeg, .inr (.inr (.inr (.inr (fun _ => none))))))) = some F) (hc : c0 ≤ h.1) (hc' : s0 ≤ h.2.1) (hR : F.2.1 - c0 ≤ R.cells ∧ F.2.2.1 - s0 ≤ R.slots) (k : xr_G p l e R s m args below meth c Q T D A b M a0 c0 s0 F.2 F.1.1 F.1.2.1 F.1.2.2) : xr_G p l e R s m args below meth c Q T D A b M a0 c0 s0 h pc L (.int kk :: r) := by
  subst hn
  cases hs
  obtain ⟨hx, hb, -, hown, hts, -, -, -, -, hE, -, hA⟩ := C
  have hR1 : h.1 + 1 - c0 ≤ R.cells := hR.1
  have hR2 : h.2.1 + kk.toNatClampNeg - s0 ≤ R.slots := hR.2
  have hk0 : ¬ kk < 0 := fun z => hk (Or.inl z)
  have hk1 : kk.toNatClampNeg ≤ 65536 := Nat.not_lt.mp (fun z => hk (Or.inr z))
  intro H locs ads ws tys ls L' st' h1 h2 h3 h4 h5 h6
  obtain ⟨v1, r1, rfl, hv1, hr1⟩ := h6.cons
  have e1 := hv1.int
  subst e1
  refine va_newq hx hb hown (hts _ hl) (hE.2.2.2.2.2.2.2 _ hao) h2.1 h2.2.1 h2.2.2.1 h3 hA hk0 rfl (by omega) (by omega) (by omega) hd (fun q cA H1 hK hP hD hS => ?_)
  have w := h2.add (k := kk.toNatClampNeg) (e := .inl (.object q0.1, kk.toNatClampNeg, .inr (.inr (.inr (.inr (fun _ => none)))))) (ts := [(cA, .object q0.1)]) hK (xr_E.mk1 (t0 := tys.length) (by simp) (xr_A.qq (fun _ => Or.inl ⟨rfl, rfl⟩))) hP hD
  refine W.cs (show h.1 - c0 + 1 = h.1 + 1 - c0 by omega) (show h.2.1 - s0 + kk.toNatClampNeg = h.2.1 + kk.toNatClampNeg - s0 by omega) ?_
  exact k H1 locs (ads ++ [q]) _ _ ls L' (.ref q :: r1) (h1.tr (xr_le.app _ _)) w hS h4 (h5.mono (xr_le.app _ _)) ⟨h2.last q, hr1.mono (xr_le.app _ _)⟩
end XSH
end
section
/-! A STEP: each instruction that is no call, no return, no throw -/
section XSP
variable {p : Program} {l : Launch} {e : Env} {R : Room} {s : State} {m : MethodId} {args : Array Value} {below : List Frame} {meth : Method} {c : Code} {Q : State → Prop}
variable {T : xrT} {D : va_G} {A : Nat → Prop} {b : Nat} {GW : List Cond} {ST : List (String × Nat × String)} {NC : List (String × String)} {AO : List String} {M : xrM} {a0 : List Nat} {c0 s0 : Nat} {h : xrH} {pc n : Nat} {L : xrL} {st : List Value} {F : xrF × xrH}
set_option maxHeartbeats 4000000 in
theorem xr_step {i : Instr} (C : xr_Cx p l s m args meth c T A b GW ST NC AO M) (hK : xr_Ks T GW) (hok : xr_ok T GW ST AO M pc i n) (hs : xr_s T i n pc L st h = some F) (hc : c0 ≤ h.1) (hc' : s0 ≤ h.2.1) (hR : F.2.1 - c0 ≤ R.cells ∧ F.2.2.1 - s0 ≤ R.slots) (hR2 : 1 ≤ R.frames ∧ 20 ≤ R.locals) (k : xr_G p l e R s m args below meth c Q T D A b M a0 c0 s0 F.2 F.1.1 F.1.2.1 F.1.2.2) : xr_G p l e R s m args below meth c Q T D A b M a0 c0 s0 h pc L st := by
  have C' := C
  obtain ⟨hx, hb, hml, hown, hts, hname, hret, hlocks, htab, hE, hl, hA⟩ := C'
  cases i
  case aconst_null =>
    have hn : n = 1 := hok.1
    have hd : decode (xr_by M) pc = .ok (.aconst_null, 1) := by rw [← hn]; exact hok.2
    exact xg_push (fun H locs cells slots ls rest kk => lv_null hx hb hd kk) (Or.inr (Or.inr rfl)) hn hs k
  case iconst v =>
    have hn : n = 1 := hok.1
    have hd : decode (xr_by M) pc = .ok (.iconst v, 1) := by rw [← hn]; exact hok.2
    exact xg_push (fun H locs cells slots ls rest kk => lv_iconst hx hb hd rfl kk) (Or.inl ⟨_, rfl⟩) hn hs k
  case bipush v =>
    have hn : n = 2 := hok.1
    have hd : decode (xr_by M) pc = .ok (.bipush v, 2) := by rw [← hn]; exact hok.2
    exact xg_push (fun H locs cells slots ls rest kk => lv_bipush hx hb hd rfl kk) (Or.inl ⟨_, rfl⟩) hn hs k
  case sipush v =>
    have hn : n = 3 := hok.1
    have hd : decode (xr_by M) pc = .ok (.sipush v, 3) := by rw [← hn]; exact hok.2
    exact xg_push (fun H locs cells slots ls rest kk => lv_sipush hx hb hd rfl kk) (Or.inl ⟨_, rfl⟩) hn hs k
  case lconst v =>
    have hn : n = 1 := hok.1
    have hd : decode (xr_by M) pc = .ok (.lconst v, 1) := by rw [← hn]; exact hok.2
    exact xg_push (fun H locs cells slots ls rest kk => lv_lconst hx hb hd rfl kk) (Or.inr (Or.inl ⟨_, rfl⟩)) hn hs k
  case jsr_w v =>
    obtain ⟨hn, y, hd, hw⟩ := hok
    exact xg_push (fun H locs cells slots ls rest kk => lv_ldc hx hb hown (hts _ hw) hd kk) (Or.inl ⟨_, rfl⟩) hn hs k
  case jsr v =>
    obtain ⟨hn, y, hd, hw⟩ := hok
    exact xg_push (fun H locs cells slots ls rest kk => lv_ldcw hx hb hown (hts _ hw) hd kk) (Or.inl ⟨_, rfl⟩) hn hs k
  case goto_w v =>
    obtain ⟨hn, y, hd, hw⟩ := hok
    exact xg_push (fun H locs cells slots ls rest kk => lv_ldc2 hx hb hown (hts _ hw) hd kk) (Or.inr (Or.inl ⟨_, rfl⟩)) hn hs k
  case iload j =>
    have hn : n = 2 := hok.1
    have hd : decode (xr_by M) pc = .ok (.iload j, 2) := by rw [← hn]; exact hok.2
    exact xg_li (i := j) (fun H locs cells slots ls rest x hl kk => lv_iload hx hb hd hl kk) hn hs k
  case iload_n j =>
    have hn : n = 1 := hok.1
    have hd : decode (xr_by M) pc = .ok (.iload_n j, 1) := by rw [← hn]; exact hok.2
    exact xg_li (i := (j : Nat)) (fun H locs cells slots ls rest x hl kk => lv_iload_n hx hb hd rfl hl kk) hn hs k
  case lload j =>
    have hn : n = 2 := hok.1
    have hd : decode (xr_by M) pc = .ok (.lload j, 2) := by rw [← hn]; exact hok.2
    exact xg_ll (i := j) (fun H locs cells slots ls rest x hl kk => lv_lload hx hb hd hl kk) hn hs k
  case lload_n j =>
    have hn : n = 1 := hok.1
    have hd : decode (xr_by M) pc = .ok (.lload_n j, 1) := by rw [← hn]; exact hok.2
    exact xg_ll (i := (j : Nat)) (fun H locs cells slots ls rest x hl kk => lv_lload_n hx hb hd rfl hl kk) hn hs k
  case aload j =>
    have hn : n = 2 := hok.1
    have hd : decode (xr_by M) pc = .ok (.aload j, 2) := by rw [← hn]; exact hok.2
    exact xg_la (i := j) (fun H locs cells slots ls rest x hl kk => lv_aload hx hb hd hl kk) (fun H locs cells slots ls rest hl kk => lv_aloadN hx hb hd hl kk) hn hs k
  case aload_n j =>
    have hn : n = 1 := hok.1
    have hd : decode (xr_by M) pc = .ok (.aload_n j, 1) := by rw [← hn]; exact hok.2
    exact xg_la (i := (j : Nat)) (fun H locs cells slots ls rest x hl kk => lv_aload_n hx hb hd rfl hl kk) (fun H locs cells slots ls rest hl kk => lv_aload_nN hx hb hd rfl hl kk) hn hs k
  case istore j =>
    obtain ⟨hn, hj, hd⟩ := hok
    exact xg_si (i := j) (fun H locs cells slots ls rest x lv hl kk => lv_istore hx hb hd hl hj rfl kk) hn hs k
  case istore_n j =>
    obtain ⟨hn, hj, hd⟩ := hok
    exact xg_si (i := (j : Nat)) (fun H locs cells slots ls rest x lv hl kk => lv_istore_n hx hb hd rfl hl hj rfl kk) hn hs k
  case lstore j =>
    obtain ⟨hn, hj, hd⟩ := hok
    exact xg_sl (i := j) (fun H locs cells slots ls rest x lv hl kk => lv_lstore hx hb hd hl hj rfl kk) hn hs k
  case lstore_n j =>
    obtain ⟨hn, hj, hd⟩ := hok
    exact xg_sl (i := (j : Nat)) (fun H locs cells slots ls rest x lv hl kk => lv_lstore_n hx hb hd rfl hl hj rfl kk) hn hs k
  case astore j =>
    obtain ⟨hn, hj, hd⟩ := hok
    exact xg_sa (i := j) (fun H locs cells slots ls rest x lv hl kk => lv_astore hx hb hd hl hj rfl kk) (fun H locs cells slots ls rest lv hl kk => lv_astoreN hx hb hd hl hj rfl kk) hn hs k
  case astore_n j =>
    obtain ⟨hn, hj, hd⟩ := hok
    exact xg_sa (i := (j : Nat)) (fun H locs cells slots ls rest x lv hl kk => lv_astore_n hx hb hd rfl hl hj rfl kk) (fun H locs cells slots ls rest lv hl kk => lv_astore_nN hx hb hd rfl hl hj rfl kk) hn hs k
  case iinc j v =>
    obtain ⟨hn, hj, hd⟩ := hok
    subst hn
    replace hs : (match xr_get L j with
      | some (.int x) => some ((pc + 3, xr_st1 L j (.int (x + Int32.ofInt v)), st), h)
      | _ => none) = some F := hs
    split at hs
    · rename_i x hg
      cases hs
      intro H locs ads ws tys ls L' st' h1 h2 h3 h4 h5 h6
      obtain ⟨z, v', hz, hv⟩ := h5.get j _ hg
      have hv' := hv.int
      subst hv'
      exact lv_iinc hx hb hd h4 hz rfl hj rfl (fun ls' h4' => k H locs ads ws tys ls' _ st' h1 h2 h3 h4' (h5.st1 (v := .int _) (v' := .int _) rfl j) h6)
    · cases hs
  case iadd =>
    have hn : n = 1 := hok.1
    have hd : decode (xr_by M) pc = .ok (.iadd, 1) := by rw [← hn]; exact hok.2
    exact xg_bi (fun H locs cells slots ls rest x y kk => lv_iadd hx hb hd kk) hn hs k
  case isub =>
    have hn : n = 1 := hok.1
    have hd : decode (xr_by M) pc = .ok (.isub, 1) := by rw [← hn]; exact hok.2
    exact xg_bi (fun H locs cells slots ls rest x y kk => lv_isub hx hb hd kk) hn hs k
  case imul =>
    have hn : n = 1 := hok.1
    have hd : decode (xr_by M) pc = .ok (.imul, 1) := by rw [← hn]; exact hok.2
    exact xg_bi (fun H locs cells slots ls rest x y kk => lv_imul hx hb hd kk) hn hs k
  case iand =>
    have hn : n = 1 := hok.1
    have hd : decode (xr_by M) pc = .ok (.iand, 1) := by rw [← hn]; exact hok.2
    exact xg_bi (fun H locs cells slots ls rest x y kk => lv_iand hx hb hd kk) hn hs k
  case ior =>
    have hn : n = 1 := hok.1
    have hd : decode (xr_by M) pc = .ok (.ior, 1) := by rw [← hn]; exact hok.2
    exact xg_bi (fun H locs cells slots ls rest x y kk => lv_ior hx hb hd kk) hn hs k
  case ixor =>
    have hn : n = 1 := hok.1
    have hd : decode (xr_by M) pc = .ok (.ixor, 1) := by rw [← hn]; exact hok.2
    exact xg_bi (fun H locs cells slots ls rest x y kk => lv_ixor hx hb hd kk) hn hs k
  case ishl =>
    have hn : n = 1 := hok.1
    have hd : decode (xr_by M) pc = .ok (.ishl, 1) := by rw [← hn]; exact hok.2
    exact xg_bi (fun H locs cells slots ls rest x y kk => lv_ishl hx hb hd kk) hn hs k
  case ishr =>
    have hn : n = 1 := hok.1
    have hd : decode (xr_by M) pc = .ok (.ishr, 1) := by rw [← hn]; exact hok.2
    exact xg_bi (fun H locs cells slots ls rest x y kk => lv_ishr hx hb hd kk) hn hs k
  case idiv =>
    have hn : n = 1 := hok.1
    have hd : decode (xr_by M) pc = .ok (.idiv, 1) := by rw [← hn]; exact hok.2
    exact xg_bd (fun H locs cells slots ls rest x y hy kk => lv_idiv hx hb hd hy kk) hn hs k
  case irem =>
    have hn : n = 1 := hok.1
    have hd : decode (xr_by M) pc = .ok (.irem, 1) := by rw [← hn]; exact hok.2
    exact xg_bd (fun H locs cells slots ls rest x y hy kk => lv_irem hx hb hd hy kk) hn hs k
  case ladd =>
    have hn : n = 1 := hok.1
    have hd : decode (xr_by M) pc = .ok (.ladd, 1) := by rw [← hn]; exact hok.2
    exact xg_bl (fun H locs cells slots ls rest x y kk => lv_ladd hx hb hd kk) hn hs k
  case lsub =>
    have hn : n = 1 := hok.1
    have hd : decode (xr_by M) pc = .ok (.lsub, 1) := by rw [← hn]; exact hok.2
    exact xg_bl (fun H locs cells slots ls rest x y kk => lv_lsub hx hb hd kk) hn hs k
  case lmul =>
    have hn : n = 1 := hok.1
    have hd : decode (xr_by M) pc = .ok (.lmul, 1) := by rw [← hn]; exact hok.2
    exact xg_bl (fun H locs cells slots ls rest x y kk => lv_lmul hx hb hd kk) hn hs k
  case land =>
    have hn : n = 1 := hok.1
    have hd : decode (xr_by M) pc = .ok (.land, 1) := by rw [← hn]; exact hok.2
    exact xg_bl (fun H locs cells slots ls rest x y kk => lv_land hx hb hd kk) hn hs k
  case lor =>
    have hn : n = 1 := hok.1
    have hd : decode (xr_by M) pc = .ok (.lor, 1) := by rw [← hn]; exact hok.2
    exact xg_bl (fun H locs cells slots ls rest x y kk => lv_lor hx hb hd kk) hn hs k
  case lshl =>
    have hn : n = 1 := hok.1
    have hd : decode (xr_by M) pc = .ok (.lshl, 1) := by rw [← hn]; exact hok.2
    exact xg_bs (fun H locs cells slots ls rest x y kk => lv_lshl hx hb hd rfl kk) hn hs k
  case lshr =>
    have hn : n = 1 := hok.1
    have hd : decode (xr_by M) pc = .ok (.lshr, 1) := by rw [← hn]; exact hok.2
    exact xg_bs (fun H locs cells slots ls rest x y kk => lv_lshr hx hb hd rfl kk) hn hs k
  case lushr =>
    have hn : n = 1 := hok.1
    have hd : decode (xr_by M) pc = .ok (.lushr, 1) := by rw [← hn]; exact hok.2
    exact xg_bs (fun H locs cells slots ls rest x y kk => lv_lushr hx hb hd rfl kk) hn hs k
  case ineg =>
    have hn : n = 1 := hok.1
    have hd : decode (xr_by M) pc = .ok (.ineg, 1) := by rw [← hn]; exact hok.2
    subst hn
    cases st with
    | nil => cases hs
    | cons v r =>
      cases v with
      | int x =>
        cases hs
        intro H locs ads ws tys ls L' st' h1 h2 h3 h4 h5 h6
        obtain ⟨v1, r1, rfl, hv1, hr1⟩ := h6.cons
        have e1 := hv1.int
        subst e1
        exact lv_ineg hx hb hd (k H locs ads ws tys ls L' (.int (-x) :: r1) h1 h2 h3 h4 h5 ⟨rfl, hr1⟩)
      | _ => cases hs
  case i2l =>
    have hn : n = 1 := hok.1
    have hd : decode (xr_by M) pc = .ok (.i2l, 1) := by rw [← hn]; exact hok.2
    subst hn
    cases st with
    | nil => cases hs
    | cons v r =>
      cases v with
      | int x =>
        cases hs
        intro H locs ads ws tys ls L' st' h1 h2 h3 h4 h5 h6
        obtain ⟨v1, r1, rfl, hv1, hr1⟩ := h6.cons
        have e1 := hv1.int
        subst e1
        exact lv_i2l hx hb hd rfl (k H locs ads ws tys ls L' (.long x.toInt64 :: r1) h1 h2 h3 h4 h5 ⟨rfl, hr1⟩)
      | _ => cases hs
  case l2i =>
    have hn : n = 1 := hok.1
    have hd : decode (xr_by M) pc = .ok (.l2i, 1) := by rw [← hn]; exact hok.2
    subst hn
    cases st with
    | nil => cases hs
    | cons v r =>
      cases v with
      | long x =>
        cases hs
        intro H locs ads ws tys ls L' st' h1 h2 h3 h4 h5 h6
        obtain ⟨v1, r1, rfl, hv1, hr1⟩ := h6.cons
        have e1 := hv1.long
        subst e1
        exact lv_l2i hx hb hd rfl (k H locs ads ws tys ls L' (.int x.toInt32 :: r1) h1 h2 h3 h4 h5 ⟨rfl, hr1⟩)
      | _ => cases hs
  case lcmp =>
    have hn : n = 1 := hok.1
    have hd : decode (xr_by M) pc = .ok (.lcmp, 1) := by rw [← hn]; exact hok.2
    subst hn
    replace hs : (match (generalizing := false) st with
      | .long y :: .long x :: r => some ((pc + 1, L, .int (lg_cmp x y) :: r), h)
      | _ => none) = some F := hs
    split at hs
    · cases hs
      intro H locs ads ws tys ls L' st' h1 h2 h3 h4 h5 h6
      obtain ⟨v1, r1, rfl, hv1, hr1⟩ := h6.cons
      obtain ⟨v2, r2, rfl, hv2, hr2⟩ := hr1.cons
      have e1 := hv1.long
      have e2 := hv2.long
      subst e1
      subst e2
      exact W.lcmp hx hb hd (k H locs ads ws tys ls L' (.int _ :: r2) h1 h2 h3 h4 h5 ⟨rfl, hr2⟩)
    · cases hs
  case dup =>
    have hn : n = 1 := hok.1
    have hd : decode (xr_by M) pc = .ok (.dup, 1) := by rw [← hn]; exact hok.2
    subst hn
    cases st with
    | nil => cases hs
    | cons v r =>
      obtain ⟨hv, rfl⟩ := xr_cond (y := none) (show (bif Nat.beq v.category 1 then some ((pc + 1, L, v :: v :: r), h) else none) = some F from hs)
      intro H locs ads ws tys ls L' st' h1 h2 h3 h4 h5 h6
      obtain ⟨v1, r1, rfl, hv1, hr1⟩ := h6.cons
      exact lv_dup hx hb hd (hv1.cat.trans (Nat.eq_of_beq_eq_true hv)) (k H locs ads ws tys ls L' (v1 :: v1 :: r1) h1 h2 h3 h4 h5 ⟨hv1, hv1, hr1⟩)
  case pop =>
    have hn : n = 1 := hok.1
    have hd : decode (xr_by M) pc = .ok (.pop, 1) := by rw [← hn]; exact hok.2
    subst hn
    cases st with
    | nil => cases hs
    | cons v r =>
      obtain ⟨hv, rfl⟩ := xr_cond (y := none) (show (bif Nat.beq v.category 1 then some ((pc + 1, L, r), h) else none) = some F from hs)
      intro H locs ads ws tys ls L' st' h1 h2 h3 h4 h5 h6
      obtain ⟨v1, r1, rfl, hv1, hr1⟩ := h6.cons
      exact lv_pop hx hb hd (hv1.cat.trans (Nat.eq_of_beq_eq_true hv)) (k H locs ads ws tys ls L' r1 h1 h2 h3 h4 h5 hr1)
  case dup2 =>
    have hn : n = 1 := hok.1
    have hd : decode (xr_by M) pc = .ok (.dup2, 1) := by rw [← hn]; exact hok.2
    subst hn
    replace hs : (match (generalizing := false) st with
      | v :: w :: r => bif Nat.beq v.category 1 && Nat.beq w.category 1 then some ((pc + 1, L, v :: w :: v :: w :: r), h) else none
      | _ => none) = some F := hs
    split at hs
    · obtain ⟨hv, rfl⟩ := xr_cond (y := none) hs
      simp only [Bool.and_eq_true] at hv
      intro H locs ads ws tys ls L' st' h1 h2 h3 h4 h5 h6
      obtain ⟨v1, r1, rfl, hv1, hr1⟩ := h6.cons
      obtain ⟨v2, r2, rfl, hv2, hr2⟩ := hr1.cons
      exact lv_dup2_11 hx hb hd (hv1.cat.trans (Nat.eq_of_beq_eq_true hv.1)) (hv2.cat.trans (Nat.eq_of_beq_eq_true hv.2)) (k H locs ads ws tys ls L' (v1 :: v2 :: v1 :: v2 :: r2) h1 h2 h3 h4 h5 ⟨hv1, hv2, hv1, hv2, hr2⟩)
    · cases hs
  case ifCond w off =>
    obtain ⟨hn, ht, hd⟩ := hok
    replace hs : (match (generalizing := false) st with
      | .int x :: r => xr_br w x 0 (xr_to pc off L r h) (some ((pc + n, L, r), h))
      | _ => none) = some F := hs
    split at hs
    · cases w
      · exact xg_b1 (P := fun x => x = 0) (fun x => inferInstance) (fun H locs cells slots ls rest x tgt ht kt kf => lv_if_eq hx hb hd ht kt kf) hn ht (fun hp => by unfold xr_br at hs; simp only [if_pos hp] at hs; exact hs) (fun hp => by unfold xr_br at hs; simp only [if_neg hp] at hs; exact hs) k
      · exact xg_b1 (P := fun x => ¬ x = 0) (fun x => inferInstance) (fun H locs cells slots ls rest x tgt ht kt kf => lv_if_ne hx hb hd ht kt (fun z => kf (fun q => q z))) hn ht (fun hp => by unfold xr_br at hs; simp only [if_neg hp] at hs; exact hs) (fun hp => by unfold xr_br at hs; simp only [if_pos (Classical.not_not.mp hp)] at hs; exact hs) k
      · exact xg_b1 (P := fun x => x < 0) (fun x => inferInstance) (fun H locs cells slots ls rest x tgt ht kt kf => lv_if_lt hx hb hd ht kt kf) hn ht (fun hp => by unfold xr_br at hs; simp only [if_pos hp] at hs; exact hs) (fun hp => by unfold xr_br at hs; simp only [if_neg hp] at hs; exact hs) k
      · exact xg_b1 (P := fun x => 0 ≤ x) (fun x => inferInstance) (fun H locs cells slots ls rest x tgt ht kt kf => lv_if_ge hx hb hd ht kt kf) hn ht (fun hp => by unfold xr_br at hs; simp only [if_pos hp] at hs; exact hs) (fun hp => by unfold xr_br at hs; simp only [if_neg hp] at hs; exact hs) k
      · exact xg_b1 (P := fun x => 0 < x) (fun x => inferInstance) (fun H locs cells slots ls rest x tgt ht kt kf => lv_if_gt hx hb hd ht kt kf) hn ht (fun hp => by unfold xr_br at hs; simp only [if_pos hp] at hs; exact hs) (fun hp => by unfold xr_br at hs; simp only [if_neg hp] at hs; exact hs) k
      · exact xg_b1 (P := fun x => x ≤ 0) (fun x => inferInstance) (fun H locs cells slots ls rest x tgt ht kt kf => lv_if_le hx hb hd ht kt kf) hn ht (fun hp => by unfold xr_br at hs; simp only [if_pos hp] at hs; exact hs) (fun hp => by unfold xr_br at hs; simp only [if_neg hp] at hs; exact hs) k
    · cases hs
  case if_icmp w off =>
    obtain ⟨hn, ht, hd⟩ := hok
    replace hs : (match (generalizing := false) st with
      | .int y :: .int x :: r => xr_br w x y (xr_to pc off L r h) (some ((pc + n, L, r), h))
      | _ => none) = some F := hs
    split at hs
    · cases w
      · exact xg_b2 (P := fun x y => x = y) (fun x y => inferInstance) (fun H locs cells slots ls rest x y tgt ht kt kf => lv_icmp_eq hx hb hd ht kt kf) hn ht (fun hp => by unfold xr_br at hs; simp only [if_pos hp] at hs; exact hs) (fun hp => by unfold xr_br at hs; simp only [if_neg hp] at hs; exact hs) k
      · exact xg_b2 (P := fun x y => ¬ x = y) (fun x y => inferInstance) (fun H locs cells slots ls rest x y tgt ht kt kf => lv_icmp_ne hx hb hd ht kt (fun z => kf (fun q => q z))) hn ht (fun hp => by unfold xr_br at hs; simp only [if_neg hp] at hs; exact hs) (fun hp => by unfold xr_br at hs; simp only [if_pos (Classical.not_not.mp hp)] at hs; exact hs) k
      · exact xg_b2 (P := fun x y => x < y) (fun x y => inferInstance) (fun H locs cells slots ls rest x y tgt ht kt kf => lv_icmp_lt hx hb hd ht kt kf) hn ht (fun hp => by unfold xr_br at hs; simp only [if_pos hp] at hs; exact hs) (fun hp => by unfold xr_br at hs; simp only [if_neg hp] at hs; exact hs) k
      · exact xg_b2 (P := fun x y => y ≤ x) (fun x y => inferInstance) (fun H locs cells slots ls rest x y tgt ht kt kf => lv_icmp_ge hx hb hd ht kt kf) hn ht (fun hp => by unfold xr_br at hs; simp only [if_pos hp] at hs; exact hs) (fun hp => by unfold xr_br at hs; simp only [if_neg hp] at hs; exact hs) k
      · exact xg_b2 (P := fun x y => y < x) (fun x y => inferInstance) (fun H locs cells slots ls rest x y tgt ht kt kf => lv_icmp_gt hx hb hd ht kt kf) hn ht (fun hp => by unfold xr_br at hs; simp only [if_pos hp] at hs; exact hs) (fun hp => by unfold xr_br at hs; simp only [if_neg hp] at hs; exact hs) k
      · exact xg_b2 (P := fun x y => x ≤ y) (fun x y => inferInstance) (fun H locs cells slots ls rest x y tgt ht kt kf => lv_icmp_le hx hb hd ht kt kf) hn ht (fun hp => by unfold xr_br at hs; simp only [if_pos hp] at hs; exact hs) (fun hp => by unfold xr_br at hs; simp only [if_neg hp] at hs; exact hs) k
    · cases hs
  case ifnull off =>
    have hn : n = 3 := hok.1
    have hd : decode (xr_by M) pc = .ok (.ifnull off, 3) := by rw [← hn]; exact hok.2
    subst hn
    cases st with
    | nil => cases hs
    | cons v r =>
      cases v with
      | null =>
        obtain ⟨t, ht, rfl⟩ := xr_to_s (show xr_to pc off L r h = some F from hs)
        intro H locs ads ws tys ls L' st' h1 h2 h3 h4 h5 h6
        obtain ⟨v1, r1, rfl, hv1, hr1⟩ := h6.cons
        have e1 := hv1.null
        subst e1
        exact lv_ifnullN hx hb hd ht (k H locs ads ws tys ls L' r1 h1 h2 h3 h4 h5 hr1)
      | ref a =>
        cases hs
        intro H locs ads ws tys ls L' st' h1 h2 h3 h4 h5 h6
        obtain ⟨v1, r1, rfl, hv1, hr1⟩ := h6.cons
        obtain ⟨q, rfl, hq⟩ := hv1.ref
        exact lv_ifnull hx hb hd (k H locs ads ws tys ls L' r1 h1 h2 h3 h4 h5 hr1)
      | _ => cases hs
  case ifnonnull off =>
    have hn : n = 3 := hok.1
    have hd : decode (xr_by M) pc = .ok (.ifnonnull off, 3) := by rw [← hn]; exact hok.2
    subst hn
    cases st with
    | nil => cases hs
    | cons v r =>
      cases v with
      | null =>
        cases hs
        intro H locs ads ws tys ls L' st' h1 h2 h3 h4 h5 h6
        obtain ⟨v1, r1, rfl, hv1, hr1⟩ := h6.cons
        have e1 := hv1.null
        subst e1
        exact lv_ifnonnullN hx hb hd (k H locs ads ws tys ls L' r1 h1 h2 h3 h4 h5 hr1)
      | ref a =>
        obtain ⟨t, ht, rfl⟩ := xr_to_s (show xr_to pc off L r h = some F from hs)
        intro H locs ads ws tys ls L' st' h1 h2 h3 h4 h5 h6
        obtain ⟨v1, r1, rfl, hv1, hr1⟩ := h6.cons
        obtain ⟨q, rfl, hq⟩ := hv1.ref
        exact lv_ifnonnull hx hb hd ht (k H locs ads ws tys ls L' r1 h1 h2 h3 h4 h5 hr1)
      | _ => cases hs
  case goto off =>
    have hn : n = 3 := hok.1
    have hd : decode (xr_by M) pc = .ok (.goto off, 3) := by rw [← hn]; exact hok.2
    obtain ⟨t, ht, rfl⟩ := xr_to_s (show xr_to pc off L st h = some F from hs)
    intro H locs ads ws tys ls L' st' h1 h2 h3 h4 h5 h6
    exact lv_goto hx hb hd ht (k H locs ads ws tys ls L' st' h1 h2 h3 h4 h5 h6)
  case tableswitch d lo hi offs =>
    have hd : decode (xr_by M) pc = .ok (.tableswitch d lo hi offs, n) := hok
    cases st with
    | nil => cases hs
    | cons v r =>
      cases v with
      | int x =>
        replace hs : (if x.toInt < lo ∨ hi < x.toInt then xr_to pc d L r h else match offs[(x.toInt - lo).toNat]? with
          | some off => xr_to pc off L r h
          | none => none) = some F := hs
        split at hs
        · rename_i hout
          obtain ⟨t, ht, rfl⟩ := xr_to_s hs
          intro H locs ads ws tys ls L' st' h1 h2 h3 h4 h5 h6
          obtain ⟨v1, r1, rfl, hv1, hr1⟩ := h6.cons
          have e1 := hv1.int
          subst e1
          exact lv_tableOut hx hb hd hout ht (k H locs ads ws tys ls L' r1 h1 h2 h3 h4 h5 hr1)
        · rename_i hin
          split at hs
          · rename_i off ho
            obtain ⟨t, ht, rfl⟩ := xr_to_s hs
            intro H locs ads ws tys ls L' st' h1 h2 h3 h4 h5 h6
            obtain ⟨v1, r1, rfl, hv1, hr1⟩ := h6.cons
            have e1 := hv1.int
            subst e1
            exact lv_tableIn hx hb hd (fun z => hin (Or.inl z)) (fun z => hin (Or.inr z)) ho ht (k H locs ads ws tys ls L' r1 h1 h2 h3 h4 h5 hr1)
          · cases hs
      | _ => cases hs
  case lookupswitch d ps =>
    obtain ⟨hd, hp⟩ := hok
    cases st with
    | nil => cases hs
    | cons v r =>
      cases v with
      | int x =>
        obtain ⟨t, ht, rfl⟩ := xr_to_s (show xr_to pc (Op.lookupswitch.offset ps.toList d x.toInt) L r h = some F from hs)
        intro H locs ads ws tys ls L' st' h1 h2 h3 h4 h5 h6
        obtain ⟨v1, r1, rfl, hv1, hr1⟩ := h6.cons
        have e1 := hv1.int
        subst e1
        exact lv_lookup hx hb hd hp rfl ht (k H locs ads ws tys ls L' r1 h1 h2 h3 h4 h5 hr1)
      | _ => cases hs
  case iaload =>
    have hn : n = 1 := hok.1
    have hd : decode (xr_by M) pc = .ok (.iaload, 1) := by rw [← hn]; exact hok.2
    exact xg_ia C hd hn hs k
  case baload =>
    have hn : n = 1 := hok.1
    have hd : decode (xr_by M) pc = .ok (.baload, 1) := by rw [← hn]; exact hok.2
    exact xg_za C hd hn hs k
  case iastore =>
    have hn : n = 1 := hok.1
    have hd : decode (xr_by M) pc = .ok (.iastore, 1) := by rw [← hn]; exact hok.2
    exact xg_is C hd hn hs k
  case bastore =>
    have hn : n = 1 := hok.1
    have hd : decode (xr_by M) pc = .ok (.bastore, 1) := by rw [← hn]; exact hok.2
    exact xg_zs C hd hn hs k
  case laload =>
    have hn : n = 1 := hok.1
    have hd : decode (xr_by M) pc = .ok (.laload, 1) := by rw [← hn]; exact hok.2
    exact xg_la64 C hd hn hs k
  case lastore =>
    have hn : n = 1 := hok.1
    have hd : decode (xr_by M) pc = .ok (.lastore, 1) := by rw [← hn]; exact hok.2
    exact xg_ls64 C hd hn hs k
  case aaload =>
    have hn : n = 1 := hok.1
    have hd : decode (xr_by M) pc = .ok (.aaload, 1) := by rw [← hn]; exact hok.2
    exact xg_qa C hd hn hs k
  case aastore =>
    have hn : n = 1 := hok.1
    have hd : decode (xr_by M) pc = .ok (.aastore, 1) := by rw [← hn]; exact hok.2
    exact xg_qs C hd hn hs k
  case arraylength =>
    have hn : n = 1 := hok.1
    have hd : decode (xr_by M) pc = .ok (.arraylength, 1) := by rw [← hn]; exact hok.2
    exact xg_len C hd hn hs k
  case getfield f =>
    obtain ⟨hn, x, C0, F0', N, hd, hcl, hN, hl0⟩ := hok
    exact xg_fld C hK hd hcl hN hl0 hn hs k
  case putfield f =>
    exact xg_pfl C hK hok hs k
  case putstatic f =>
    exact xg_pfl C hK hok hs k
  case invokedynamic f =>
    exact xg_pfl C hK hok hs k
  case monitorexit =>
    obtain ⟨hn, x, hd, w1, w2, w3⟩ := hok
    subst hn
    cases st with
    | nil => cases hs
    | cons v r =>
      cases v with
      | ref a =>
        obtain ⟨hr8, rfl⟩ := xr_cond (y := none) (show (bif Nat.ble (xr_cat r) 8 then some ((pc + 3, L, r), h) else none) = some F from hs)
        have hr8' := Nat.le_of_ble_eq_true hr8
        intro H locs ads ws tys ls L' st' h1 h2 h3 h4 h5 h6
        obtain ⟨v1, r1, rfl, hv1, hr1⟩ := h6.cons
        obtain ⟨q, rfl, hq⟩ := hv1.ref
        have hcs := hr1.catsum
        refine W.objInit hx hb hown (hts _ w1) (hts _ w2) (hts _ w3) rfl (h4.1.trans hml.symm) rfl hd hR2.1 ?_ (k H locs ads ws tys ls L' r1 h1 h2 h3 h4 h5 hr1)
        show 2 * 0 + (r1.map fun v => v.category).sum + 12 ≤ R.locals
        omega
      | _ => cases hs
  case new ci =>
    obtain ⟨hn, x, C0, F0', N, hd, hcl, hl0⟩ := hok
    exact xg_new C hK hd hcl hl0 hn hs hc hc' hR k
  case newarray t =>
    obtain ⟨hn, hd, hl0⟩ := hok
    cases st with
    | nil => cases hs
    | cons v r =>
      cases v with
      | int kk =>
        replace hs : (if kk < 0 ∨ 65536 < kk.toNatClampNeg then none else match xr_nwa t with
          | some c => some ((pc + n, L, .ref h.2.2.1 :: r), xr_new h kk.toNatClampNeg (.inl (newarray.typeOf t, kk.toNatClampNeg, c.2)))
          | none => none) = some F := hs
        split at hs
        · cases hs
        · rename_i hk0
          split at hs
          · rename_i cc hcc
            exact xg_nwa C hd hl0 hcc hk0 hn hs hc hc' hR k
          · cases hs
      | _ => cases hs
  case anewarray ci =>
    obtain ⟨hn, x, q0, hd, hcl, hl0, hao⟩ := hok
    replace hs : (match (generalizing := false) st, T.2.1[ci]? with
      | .int k :: r, some q => if k < 0 ∨ 65536 < k.toNatClampNeg then none else some ((pc + n, L, .ref h.2.2.1 :: r), xr_new h k.toNatClampNeg (.inl (.object q.1, k.toNatClampNeg, .inr (.inr (.inr (.inr (fun _ => none)))))))
      | _, _ => none) = some F := hs
    rw [hcl] at hs
    split at hs
    · rename_i kk r q hq
      cases hq
      split at hs
      · cases hs
      · exact xg_anw C hd hl0 hao (by assumption) hn hs hc hc' hR k
    · cases hs
  all_goals exact nomatch (show (none : Option (xrF × xrH)) = some F from hs)
end XSP
end
section
/-! WHAT WAS MADE only grows -/
theorem xr_new_le (h : xrH) (k : Nat) (e : xrE) : h.1 ≤ (xr_new h k e).1 ∧ h.2.1 ≤ (xr_new h k e).2.1 ∧ h.2.2.1 ≤ (xr_new h k e).2.2.1 := ⟨Nat.le_succ _, Nat.le_add_right _ _, Nat.le_succ _⟩
theorem xr_br_le {α : Type} {c : ClassFile.Cond} {x y : Int32} {A B : Option α} {z : α} (h : xr_br c x y A B = some z) : A = some z ∨ B = some z := by
  unfold xr_br at h
  split at h <;> split at h <;> first | exact Or.inl h | exact Or.inr h
set_option maxHeartbeats 4000000 in
theorem xr_s_le {T : xrT} {i : Instr} {n pc : Nat} {L : xrL} {st : List Value} {h : xrH} {F : xrF × xrH} (hs : xr_s T i n pc L st h = some F) : h.1 ≤ F.2.1 ∧ h.2.1 ≤ F.2.2.1 ∧ h.2.2.1 ≤ F.2.2.2.1 := by
  cases i
  case aconst_null =>
    cases hs
    exact ⟨Nat.le_refl _, Nat.le_refl _, Nat.le_refl _⟩
  case iconst v =>
    cases hs
    exact ⟨Nat.le_refl _, Nat.le_refl _, Nat.le_refl _⟩
  case bipush v =>
    cases hs
    exact ⟨Nat.le_refl _, Nat.le_refl _, Nat.le_refl _⟩
  case sipush v =>
    cases hs
    exact ⟨Nat.le_refl _, Nat.le_refl _, Nat.le_refl _⟩
  case lconst v =>
    cases hs
    exact ⟨Nat.le_refl _, Nat.le_refl _, Nat.le_refl _⟩
  case jsr_w v =>
    cases hs
    exact ⟨Nat.le_refl _, Nat.le_refl _, Nat.le_refl _⟩
  case jsr v =>
    cases hs
    exact ⟨Nat.le_refl _, Nat.le_refl _, Nat.le_refl _⟩
  case goto_w v =>
    cases hs
    exact ⟨Nat.le_refl _, Nat.le_refl _, Nat.le_refl _⟩
  case iload j =>
    obtain ⟨_, -, rfl⟩ := xr_li_s hs
    exact ⟨Nat.le_refl _, Nat.le_refl _, Nat.le_refl _⟩
  case iload_n j =>
    obtain ⟨_, -, rfl⟩ := xr_li_s hs
    exact ⟨Nat.le_refl _, Nat.le_refl _, Nat.le_refl _⟩
  case lload j =>
    obtain ⟨_, -, rfl⟩ := xr_ll_s hs
    exact ⟨Nat.le_refl _, Nat.le_refl _, Nat.le_refl _⟩
  case lload_n j =>
    obtain ⟨_, -, rfl⟩ := xr_ll_s hs
    exact ⟨Nat.le_refl _, Nat.le_refl _, Nat.le_refl _⟩
  case aload j =>
    obtain ⟨_, -, -, rfl⟩ := xr_la_s hs
    exact ⟨Nat.le_refl _, Nat.le_refl _, Nat.le_refl _⟩
  case aload_n j =>
    obtain ⟨_, -, -, rfl⟩ := xr_la_s hs
    exact ⟨Nat.le_refl _, Nat.le_refl _, Nat.le_refl _⟩
  case istore j =>
    obtain ⟨_, _, -, rfl⟩ := xr_si_s hs
    exact ⟨Nat.le_refl _, Nat.le_refl _, Nat.le_refl _⟩
  case istore_n j =>
    obtain ⟨_, _, -, rfl⟩ := xr_si_s hs
    exact ⟨Nat.le_refl _, Nat.le_refl _, Nat.le_refl _⟩
  case lstore j =>
    obtain ⟨_, _, -, rfl⟩ := xr_sl_s hs
    exact ⟨Nat.le_refl _, Nat.le_refl _, Nat.le_refl _⟩
  case lstore_n j =>
    obtain ⟨_, _, -, rfl⟩ := xr_sl_s hs
    exact ⟨Nat.le_refl _, Nat.le_refl _, Nat.le_refl _⟩
  case astore j =>
    obtain ⟨_, _, -, -, rfl⟩ := xr_sa_s hs
    exact ⟨Nat.le_refl _, Nat.le_refl _, Nat.le_refl _⟩
  case astore_n j =>
    obtain ⟨_, _, -, -, rfl⟩ := xr_sa_s hs
    exact ⟨Nat.le_refl _, Nat.le_refl _, Nat.le_refl _⟩
  case iinc j v =>
    unfold xr_s at hs
    dsimp only at hs
    split at hs
    · cases hs
      exact ⟨Nat.le_refl _, Nat.le_refl _, Nat.le_refl _⟩
    · cases hs
  case iadd =>
    obtain ⟨_, _, _, -, rfl⟩ := xr_bi_s hs
    exact ⟨Nat.le_refl _, Nat.le_refl _, Nat.le_refl _⟩
  case isub =>
    obtain ⟨_, _, _, -, rfl⟩ := xr_bi_s hs
    exact ⟨Nat.le_refl _, Nat.le_refl _, Nat.le_refl _⟩
  case imul =>
    obtain ⟨_, _, _, -, rfl⟩ := xr_bi_s hs
    exact ⟨Nat.le_refl _, Nat.le_refl _, Nat.le_refl _⟩
  case iand =>
    obtain ⟨_, _, _, -, rfl⟩ := xr_bi_s hs
    exact ⟨Nat.le_refl _, Nat.le_refl _, Nat.le_refl _⟩
  case ior =>
    obtain ⟨_, _, _, -, rfl⟩ := xr_bi_s hs
    exact ⟨Nat.le_refl _, Nat.le_refl _, Nat.le_refl _⟩
  case ixor =>
    obtain ⟨_, _, _, -, rfl⟩ := xr_bi_s hs
    exact ⟨Nat.le_refl _, Nat.le_refl _, Nat.le_refl _⟩
  case ishl =>
    obtain ⟨_, _, _, -, rfl⟩ := xr_bi_s hs
    exact ⟨Nat.le_refl _, Nat.le_refl _, Nat.le_refl _⟩
  case ishr =>
    obtain ⟨_, _, _, -, rfl⟩ := xr_bi_s hs
    exact ⟨Nat.le_refl _, Nat.le_refl _, Nat.le_refl _⟩
  case idiv =>
    obtain ⟨_, _, _, -, -, rfl⟩ := xr_bd_s hs
    exact ⟨Nat.le_refl _, Nat.le_refl _, Nat.le_refl _⟩
  case irem =>
    obtain ⟨_, _, _, -, -, rfl⟩ := xr_bd_s hs
    exact ⟨Nat.le_refl _, Nat.le_refl _, Nat.le_refl _⟩
  case ladd =>
    obtain ⟨_, _, _, -, rfl⟩ := xr_bl_s hs
    exact ⟨Nat.le_refl _, Nat.le_refl _, Nat.le_refl _⟩
  case lsub =>
    obtain ⟨_, _, _, -, rfl⟩ := xr_bl_s hs
    exact ⟨Nat.le_refl _, Nat.le_refl _, Nat.le_refl _⟩
  case lmul =>
    obtain ⟨_, _, _, -, rfl⟩ := xr_bl_s hs
    exact ⟨Nat.le_refl _, Nat.le_refl _, Nat.le_refl _⟩
  case land =>
    obtain ⟨_, _, _, -, rfl⟩ := xr_bl_s hs
    exact ⟨Nat.le_refl _, Nat.le_refl _, Nat.le_refl _⟩
  case lor =>
    obtain ⟨_, _, _, -, rfl⟩ := xr_bl_s hs
    exact ⟨Nat.le_refl _, Nat.le_refl _, Nat.le_refl _⟩
  case lshl =>
    obtain ⟨_, _, _, -, rfl⟩ := xr_bs_s hs
    exact ⟨Nat.le_refl _, Nat.le_refl _, Nat.le_refl _⟩
  case lshr =>
    obtain ⟨_, _, _, -, rfl⟩ := xr_bs_s hs
    exact ⟨Nat.le_refl _, Nat.le_refl _, Nat.le_refl _⟩
  case lushr =>
    obtain ⟨_, _, _, -, rfl⟩ := xr_bs_s hs
    exact ⟨Nat.le_refl _, Nat.le_refl _, Nat.le_refl _⟩
  case ineg =>
    unfold xr_s at hs
    dsimp only at hs
    split at hs
    · cases hs
      exact ⟨Nat.le_refl _, Nat.le_refl _, Nat.le_refl _⟩
    · cases hs
  case i2l =>
    unfold xr_s at hs
    dsimp only at hs
    split at hs
    · cases hs
      exact ⟨Nat.le_refl _, Nat.le_refl _, Nat.le_refl _⟩
    · cases hs
  case l2i =>
    unfold xr_s at hs
    dsimp only at hs
    split at hs
    · cases hs
      exact ⟨Nat.le_refl _, Nat.le_refl _, Nat.le_refl _⟩
    · cases hs
  case lcmp =>
    unfold xr_s at hs
    dsimp only at hs
    split at hs
    · cases hs
      exact ⟨Nat.le_refl _, Nat.le_refl _, Nat.le_refl _⟩
    · cases hs
  case dup =>
    unfold xr_s at hs
    dsimp only at hs
    split at hs
    · obtain ⟨-, rfl⟩ := xr_cond (y := none) hs
      exact ⟨Nat.le_refl _, Nat.le_refl _, Nat.le_refl _⟩
    · cases hs
  case dup2 =>
    unfold xr_s at hs
    dsimp only at hs
    split at hs
    · obtain ⟨-, rfl⟩ := xr_cond (y := none) hs
      exact ⟨Nat.le_refl _, Nat.le_refl _, Nat.le_refl _⟩
    · cases hs
  case pop =>
    unfold xr_s at hs
    dsimp only at hs
    split at hs
    · obtain ⟨-, rfl⟩ := xr_cond (y := none) hs
      exact ⟨Nat.le_refl _, Nat.le_refl _, Nat.le_refl _⟩
    · cases hs
  case ifCond w off =>
    unfold xr_s at hs
    dsimp only at hs
    split at hs
    · rcases xr_br_le hs with h1 | h1
      · obtain ⟨_, -, rfl⟩ := xr_to_s h1
        exact ⟨Nat.le_refl _, Nat.le_refl _, Nat.le_refl _⟩
      · cases h1
        exact ⟨Nat.le_refl _, Nat.le_refl _, Nat.le_refl _⟩
    · cases hs
  case if_icmp w off =>
    unfold xr_s at hs
    dsimp only at hs
    split at hs
    · rcases xr_br_le hs with h1 | h1
      · obtain ⟨_, -, rfl⟩ := xr_to_s h1
        exact ⟨Nat.le_refl _, Nat.le_refl _, Nat.le_refl _⟩
      · cases h1
        exact ⟨Nat.le_refl _, Nat.le_refl _, Nat.le_refl _⟩
    · cases hs
  case ifnull off =>
    unfold xr_s at hs
    dsimp only at hs
    split at hs
    · obtain ⟨_, -, rfl⟩ := xr_to_s hs
      exact ⟨Nat.le_refl _, Nat.le_refl _, Nat.le_refl _⟩
    · cases hs
      exact ⟨Nat.le_refl _, Nat.le_refl _, Nat.le_refl _⟩
    · cases hs
  case ifnonnull off =>
    unfold xr_s at hs
    dsimp only at hs
    split at hs
    · obtain ⟨_, -, rfl⟩ := xr_to_s hs
      exact ⟨Nat.le_refl _, Nat.le_refl _, Nat.le_refl _⟩
    · cases hs
      exact ⟨Nat.le_refl _, Nat.le_refl _, Nat.le_refl _⟩
    · cases hs
  case goto off =>
    obtain ⟨_, -, rfl⟩ := xr_to_s (show xr_to pc off L st h = some F from hs)
    exact ⟨Nat.le_refl _, Nat.le_refl _, Nat.le_refl _⟩
  case tableswitch d lo hi offs =>
    unfold xr_s at hs
    dsimp only at hs
    split at hs
    · split at hs
      · obtain ⟨_, -, rfl⟩ := xr_to_s hs
        exact ⟨Nat.le_refl _, Nat.le_refl _, Nat.le_refl _⟩
      · split at hs
        · obtain ⟨_, -, rfl⟩ := xr_to_s hs
          exact ⟨Nat.le_refl _, Nat.le_refl _, Nat.le_refl _⟩
        · cases hs
    · cases hs
  case lookupswitch d ps =>
    unfold xr_s at hs
    dsimp only at hs
    split at hs
    · obtain ⟨_, -, rfl⟩ := xr_to_s hs
      exact ⟨Nat.le_refl _, Nat.le_refl _, Nat.le_refl _⟩
    · cases hs
  case iaload =>
    rcases xr_ald_s hs with ⟨_, _, _, _, _, -, -, -, rfl⟩ | ⟨_, _, _, -, -, -, rfl⟩
    · exact ⟨Nat.le_refl _, Nat.le_refl _, Nat.le_refl _⟩
    · exact ⟨Nat.le_refl _, Nat.le_refl _, Nat.le_refl _⟩
  case baload =>
    rcases xr_ald_s hs with ⟨_, _, _, _, _, -, -, -, rfl⟩ | ⟨_, _, _, -, -, -, rfl⟩
    · exact ⟨Nat.le_refl _, Nat.le_refl _, Nat.le_refl _⟩
    · exact ⟨Nat.le_refl _, Nat.le_refl _, Nat.le_refl _⟩
  case iastore =>
    obtain ⟨_, _, _, _, _, _, -, -, -, -, rfl⟩ := xr_ast_s hs
    exact ⟨Nat.le_refl _, Nat.le_refl _, Nat.le_refl _⟩
  case bastore =>
    obtain ⟨_, _, _, _, _, _, -, -, -, -, rfl⟩ := xr_ast_s hs
    exact ⟨Nat.le_refl _, Nat.le_refl _, Nat.le_refl _⟩
  case laload =>
    obtain ⟨_, _, _, _, _, -, -, -, rfl⟩ := xr_lald_s hs
    exact ⟨Nat.le_refl _, Nat.le_refl _, Nat.le_refl _⟩
  case lastore =>
    obtain ⟨_, _, _, _, _, _, -, -, -, rfl⟩ := xr_last_s hs
    exact ⟨Nat.le_refl _, Nat.le_refl _, Nat.le_refl _⟩
  case aaload =>
    obtain ⟨_, _, _, _, _, _, -, -, -, rfl⟩ := xr_qald_s hs
    exact ⟨Nat.le_refl _, Nat.le_refl _, Nat.le_refl _⟩
  case aastore =>
    obtain ⟨_, _, _, _, _, _, _, _, _, -, -, -, -, -, rfl⟩ := xr_qast_s hs
    exact ⟨Nat.le_refl _, Nat.le_refl _, Nat.le_refl _⟩
  case arraylength =>
    rcases xr_len_s hs with ⟨_, _, _, _, _, -, -, rfl⟩ | ⟨_, _, -, rfl⟩
    · exact ⟨Nat.le_refl _, Nat.le_refl _, Nat.le_refl _⟩
    · exact ⟨Nat.le_refl _, Nat.le_refl _, Nat.le_refl _⟩
  case getfield f =>
    obtain ⟨_, _, _, _, -, -, -, rfl⟩ := xr_fld_s hs
    exact ⟨Nat.le_refl _, Nat.le_refl _, Nat.le_refl _⟩
  case putfield f =>
    obtain ⟨_, _, _, _, -, -, -, -, rfl⟩ := xr_pfl_s hs
    exact ⟨Nat.le_refl _, Nat.le_refl _, Nat.le_refl _⟩
  case putstatic f =>
    obtain ⟨_, _, _, _, -, -, -, -, rfl⟩ := xr_pfl_s hs
    exact ⟨Nat.le_refl _, Nat.le_refl _, Nat.le_refl _⟩
  case invokedynamic f =>
    obtain ⟨_, _, _, _, -, -, -, -, rfl⟩ := xr_pfl_s hs
    exact ⟨Nat.le_refl _, Nat.le_refl _, Nat.le_refl _⟩
  case monitorexit =>
    unfold xr_s at hs
    dsimp only at hs
    split at hs
    · obtain ⟨-, rfl⟩ := xr_cond (y := none) hs
      exact ⟨Nat.le_refl _, Nat.le_refl _, Nat.le_refl _⟩
    · cases hs
  case new ci =>
    cases hs
    exact xr_new_le _ _ _
  case newarray t =>
    unfold xr_s at hs
    dsimp only at hs
    split at hs
    · split at hs
      · cases hs
      · split at hs
        · cases hs
          exact xr_new_le _ _ _
        · cases hs
    · cases hs
  case anewarray ci =>
    unfold xr_s at hs
    dsimp only at hs
    split at hs
    · split at hs
      · cases hs
      · cases hs
        exact xr_new_le _ _ _
    · cases hs
  all_goals exact nomatch (show (none : Option (xrF × xrH)) = some F from hs)
theorem xr_cond2 {α : Type} {b : Bool} {y : Option α} {z : α} (e : (bif b then none else y) = some z) : b = false ∧ y = some z := by
  cases b
  · exact ⟨rfl, e⟩
  · cases e
theorem xr_run_le {T : xrT} : ∀ (N d j pc : Nat) (L : xrL) (st : List Value) (h : xrH) (o : xrO) (h' : xrH), xr_run T N d j pc L st h = some (o, h') → h.1 ≤ h'.1 ∧ h.2.1 ≤ h'.2.1 ∧ h.2.2.1 ≤ h'.2.2.1 := by
  intro N
  induction N with
  | zero =>
    intro d j pc L st h o h' e
    cases e
  | succ N ih =>
    intro d j pc L st h o h' e
    unfold xr_run at e
    split at e
    · cases e
    · split at e
      · cases e
      · split at e
        · split at e
          · cases e
          · rename_i f h1 hs
            have h2 := xr_s_le hs
            have h3 := ih _ _ _ _ _ _ _ _ e
            exact ⟨Nat.le_trans h2.1 h3.1, Nat.le_trans h2.2.1 h3.2.1, Nat.le_trans h2.2.2 h3.2.2⟩
        · split at e
          · cases e
          · cases e
            exact ⟨Nat.le_refl _, Nat.le_refl _, Nat.le_refl _⟩
        · split at e
          · obtain ⟨-, e2⟩ := xr_cond (y := none) e
            cases e2
            exact ⟨Nat.le_succ _, Nat.le_add_right _ _, Nat.le_refl _⟩
          · cases e
        · split at e
          · cases e
          · split at e
            · cases e
            · split at e
              · cases e
              · rename_i v h1 hc
                have h2 := ih _ _ _ _ _ _ _ _ hc
                have h3 := ih _ _ _ _ _ _ _ _ e
                exact ⟨Nat.le_trans h2.1 h3.1, Nat.le_trans h2.2.1 h3.2.1, Nat.le_trans h2.2.2 h3.2.2⟩
              · rename_i k h1 hc
                have h2 := ih _ _ _ _ _ _ _ _ hc
                replace e := (xr_cond2 e).2
                split at e
                · have h3 := ih _ _ _ _ _ _ _ _ e
                  exact ⟨Nat.le_trans h2.1 h3.1, Nat.le_trans h2.2.1 h3.2.1, Nat.le_trans h2.2.2 h3.2.2⟩
                · cases e
                  exact h2
end
section
/-! CALLS, RETURNS, THROWS: the runner's run is the machine's -/
def xr_cw (M : xrM) : Cond := match xr_hd M with
  | [] => .code (xr_nm M) (xr_by M) (xr_mx M) (xr_rt M)
  | _ => .codeWith (xr_nm M) (xr_by M) (xr_mx M) (xr_rt M) (xr_hh M)
def xr_ws (GW : List Cond) (M : xrM) : List Cond := xr_cw M :: GW
def xr_hok (GW : List Cond) (NC : List (String × String)) (M : xrM) : Prop := ∀ q ∈ xr_hd M, q.2.2.2.1 ≠ 0 ∧ Cond.classLink (xr_nm M).cls q.2.2.2.1 (xr_en q.2.2.2.2) ∈ GW ∧ Cond.castable (xr_en q.2.2.2.2) (xr_en q.2.2.2.2) ∈ GW ∧ ∀ k, k < 3 → k ≠ q.2.2.2.2 → (xr_en k, xr_en q.2.2.2.2) ∈ NC
/-- what is known of a method that is called -/
def xr_cal (GW : List Cond) (M : xrM) : Prop := plainFor (xr_nm M) = true ∧ xr_cw M ∈ GW ∧ Cond.initialized (xr_nm M).cls ∈ GW ∧ ((xr_nm M).cls ≠ "java/lang/invoke/MethodHandle" ∧ (xr_nm M).cls ≠ "java/lang/invoke/VarHandle") ∧
  (parseMethodDescriptor (xr_nm M).desc).map (fun d => d.parameters.length) = some (xr_np M) ∧ xr_mx M ≤ 45
/-- what is known of the tables -/
def xr_SF (T : xrT) (GW : List Cond) (ST : List (String × Nat × String)) (NC : List (String × String)) (AO : List String) : Prop := (∀ w ∈ GW, xr_tw w = true) ∧ xr_Ks T GW ∧
  (∀ (j : Nat) (M : xrM), T.1[j]? = some M → (∀ (pc : Nat) (i : Instr) (n : Nat), xr_fetch (xr_cd M) pc = some (i, n) → xr_ok T GW ST AO M pc i n) ∧ xr_hok GW NC M) ∧
  ∀ (j : Nat) (M : xrM), j ≠ 0 → T.1[j]? = some M → xr_cal GW M
def xr_rm (d mc ms : Nat) : Room := { frames := d + 16, cells := mc, slots := ms, locals := 200 + 64 * d }
def xr_Vo (ads : List Nat) (b : Nat) : Option Value → Option Value → Prop
  | none, none => True
  | some v, some v' => xr_V ads b v v'
  | _, _ => False
def xr_Pc (T : xrT) (D : va_G) (A : Nat → Prop) (b : Nat) (ST : List (String × Nat × String)) (NC : List (String × String)) (AO : List String) (h : xrH) (ads : List Nat) (av : List Value) : Array Value → State → Prop :=
  va_Pc av (fun U => xr_Env T A b ST NC AO U U.heap ∧ (∀ q, U.heap.size ≤ q → A q) ∧ ∃ ws tys, xr_W T D A b h ads U ws tys U.heap)
def xr_Qc (T : xrT) (D : va_G) (A : Nat → Prop) (b : Nat) (o : xrO) (h : xrH) (ads : List Nat) : Array Value → State → Outcome → State → Prop :=
  fun _ st oc t => (∃ v v' ads' ws tys, o = .inl v ∧ oc = .returned v' ∧ xr_Vo ads' b v v' ∧ xr_le ads ads' ∧ xr_W T D A b h ads' t ws tys t.heap) ∧ va_F A st t
def xr_XC (T : xrT) (D : va_G) (A : Nat → Prop) (b : Nat) (o : xrO) (h : xrH) (ads : List Nat) : String → State → State → Prop :=
  fun E st t => (∃ k ads' ws tys, o = .inr k ∧ k < 3 ∧ E = xr_en k ∧ xr_le ads ads' ∧ xr_W T D A b h ads' t ws tys t.heap) ∧ va_F A st t
theorem xr_blind {T : xrT} {D : va_G} {A : Nat → Prop} {b : Nat} {ST : List (String × Nat × String)} {NC : List (String × String)} {AO : List String} {h : xrH} {ads : List Nat} {av : List Value} : FrameBlind (xr_Pc T D A b ST NC AO h ads av) := by
  intro a U g mk q
  obtain ⟨q0, q1, q2, ws, tys, q3⟩ := q
  exact ⟨q0, xr_Env.go (U := U.calling g mk a) q1 (State.WarmedH.refl U) (Nat.le_refl _) (fun _ _ _ => rfl), q2, ws, tys, q3.moved (U2 := U.calling g mk a) (Vm.Alike.refl U.vm)⟩
theorem xr_run_k {T : xrT} : ∀ (N d j pc : Nat) (L : xrL) (st : List Value) (h : xrH) (k : Nat) (h' : xrH), xr_run T N d j pc L st h = some (.inr k, h') → k < 3 := by
  intro N
  induction N with
  | zero =>
    intro d j pc L st h k h' e
    cases e
  | succ N ih =>
    intro d j pc L st h k h' e
    unfold xr_run at e
    split at e
    · cases e
    · split at e
      · cases e
      · split at e
        · split at e
          · cases e
          · exact ih _ _ _ _ _ _ _ _ e
        · split at e
          · cases e
          · cases e
        · split at e
          · obtain ⟨e1, e2⟩ := xr_cond (y := none) e
            cases e2
            simp only [Bool.and_eq_true] at e1
            exact Nat.le_of_ble_eq_true e1.2
          · cases e
        · split at e
          · cases e
          · split at e
            · cases e
            · split at e
              · cases e
              · exact ih _ _ _ _ _ _ _ _ e
              · rename_i hc
                replace e := (xr_cond2 e).2
                split at e
                · exact ih _ _ _ _ _ _ _ _ e
                · cases e
                  exact ih _ _ _ _ _ _ _ _ hc
theorem xr_hnd_s {pc k t : Nat} : ∀ {hd : List (Nat × Nat × Nat × Nat × Nat)}, xr_hnd hd pc k = some t → ∃ pre q suf, hd = pre ++ q :: suf ∧ q.2.2.1 = t ∧ q.1 ≤ pc ∧ pc < q.2.1 ∧ q.2.2.2.2 = k ∧ ∀ z ∈ pre, (¬ (z.1 ≤ pc ∧ pc < z.2.1)) ∨ z.2.2.2.2 ≠ k
  | [], e => by cases e
  | q :: r, e => by
    unfold xr_hnd at e
    cases hq : (Nat.ble q.1 pc && Nat.blt pc q.2.1 && Nat.beq q.2.2.2.2 k) with
    | true =>
      rw [hq] at e
      simp only [Bool.and_eq_true] at hq
      exact ⟨[], q, r, rfl, Option.some.inj e, Nat.le_of_ble_eq_true hq.1.1, Nat.le_of_ble_eq_true hq.1.2, Nat.eq_of_beq_eq_true hq.2, fun z hz => absurd hz List.not_mem_nil⟩
    | false =>
      rw [hq] at e
      obtain ⟨pre, x, suf, h1, h2, h3, h4, h5, h6⟩ := xr_hnd_s (hd := r) e
      refine ⟨q :: pre, x, suf, by rw [h1]; rfl, h2, h3, h4, h5, fun z hz => ?_⟩
      rcases List.mem_cons.mp hz with rfl | hz
      · by_cases hk : z.2.2.2.2 = k
        · refine Or.inl (fun hc => ?_)
          have h7 : (Nat.ble z.1 pc && Nat.blt pc z.2.1 && Nat.beq z.2.2.2.2 k) = true := by
            simp only [Bool.and_eq_true]
            exact ⟨⟨Nat.ble_eq_true_of_le hc.1, Nat.ble_eq_true_of_le hc.2⟩, by rw [hk]; exact Nat.beq_refl k⟩
          rw [hq] at h7
          cases h7
        · exact Or.inr hk
      · exact h6 z hz
theorem xr_hnd_n {pc k : Nat} : ∀ {hd : List (Nat × Nat × Nat × Nat × Nat)}, xr_hnd hd pc k = none → ∀ z ∈ hd, (¬ (z.1 ≤ pc ∧ pc < z.2.1)) ∨ z.2.2.2.2 ≠ k
  | [], _, z, hz => absurd hz List.not_mem_nil
  | q :: r, e, z, hz => by
    unfold xr_hnd at e
    cases hq : (Nat.ble q.1 pc && Nat.blt pc q.2.1 && Nat.beq q.2.2.2.2 k) with
    | true => rw [hq] at e; cases e
    | false =>
      rw [hq] at e
      rcases List.mem_cons.mp hz with rfl | hz
      · by_cases hk : z.2.2.2.2 = k
        · refine Or.inl (fun hc => ?_)
          have h7 : (Nat.ble z.1 pc && Nat.blt pc z.2.1 && Nat.beq z.2.2.2.2 k) = true := by
            simp only [Bool.and_eq_true]
            exact ⟨⟨Nat.ble_eq_true_of_le hc.1, Nat.ble_eq_true_of_le hc.2⟩, by rw [hk]; exact Nat.beq_refl k⟩
          rw [hq] at h7
          cases h7
        · exact Or.inr hk
      · exact xr_hnd_n (hd := r) e z hz
theorem xr_covers {q : Nat × Nat × Nat × Nat} {pc : Nat} (h : ¬ (q.1 ≤ pc ∧ pc < q.2.1)) : covers (⟨q.1, q.2.1, q.2.2.1, q.2.2.2⟩ : ExceptionTableEntry) pc = false := by
  cases hc : covers (⟨q.1, q.2.1, q.2.2.1, q.2.2.2⟩ : ExceptionTableEntry) pc with
  | false => rfl
  | true =>
    exfalso
    simp only [covers, Bool.and_eq_true, decide_eq_true_eq] at hc
    exact h hc
theorem xr_covers1 {q : Nat × Nat × Nat × Nat} {pc : Nat} (h : q.1 ≤ pc ∧ pc < q.2.1) : covers (⟨q.1, q.2.1, q.2.2.1, q.2.2.2⟩ : ExceptionTableEntry) pc = true := by
  simp only [covers, Bool.and_eq_true, decide_eq_true_eq]
  exact h
end
section
/-! RETURNS, THROWS, CALLS, one by one -/
section XCL
variable {p : Program} {l : Launch} {e : Env} {R : Room} {s : State} {m : MethodId} {args : Array Value} {below : List Frame} {meth : Method} {c : Code} {Q : State → Prop}
variable {T : xrT} {D : va_G} {A : Nat → Prop} {b : Nat} {GW : List Cond} {ST : List (String × Nat × String)} {NC : List (String × String)} {AO : List String} {M : xrM} {a0 : List Nat} {c0 s0 : Nat} {h : xrH} {pc n : Nat} {L : xrL} {st : List Value} {F : xrF × xrH}
theorem xr_hq {v : Option Value} {v' : Option Value} {ads : List Nat} {ws : va_W} {tys : List (ClassId × FieldType)} {H : Heap} {locs : List Loc} (h1 : xr_le a0 ads) (h2 : xr_W T D A b h ads s ws tys H) (h3 : va_S A s.heap H locs) (hv : xr_Vo ads b v v') :
    ∀ t : State, t.heap = H → s.WarmedH t.vm → (xr_Qc T D A b (.inl v) h a0) args s (.returned v') t := by
  intro t ht hW
  refine ⟨⟨v, v', ads, ws, tys, rfl, rfl, hv, h1, ?_⟩, ?_⟩
  · rw [ht]
    exact h2.moved hW.alike
  · unfold va_F
    rw [ht]
    exact ⟨h3.1, h3.2.1⟩
set_option maxHeartbeats 1000000 in
theorem xr_ret {i : Instr} {v : Option Value} {XC : String → State → State → Prop} {mc ms : Nat} (C : xr_Cx p l s m args meth c T A b GW ST NC AO M) (hd : decode (xr_by M) pc = .ok (i, 1)) (he : xr_end M i st = some v) (hmc : h.1 - c0 ≤ mc) (hms : h.2.1 - s0 ≤ ms) :
    xr_G p l e R s m args below meth c (vx_MQ below (xr_Qc T D A b (.inl v) h a0) XC args s mc ms A) T D A b M a0 c0 s0 h pc L st := by
  obtain ⟨hx, hb, hml, hown, hts, hname, hret, hlocks, htab, hE, hl, hA⟩ := C
  intro H locs ads ws tys ls L' st' h1 h2 h3 h4 h5 h6
  refine vx_ret (W.widen hmc hms ?_)
  cases i
  case ireturn =>
    replace he : (match (generalizing := false) st with
      | [.int v] => bif xr_okr (xr_rt M) (.int v) then some (some (.int v)) else none
      | _ => none) = some v := he
    split at he
    · rename_i x
      obtain ⟨hk, rfl⟩ := xr_cond (y := none) he
      obtain ⟨v1, r1, rfl, hv1, hr1⟩ := h6.cons
      have e1 := hv1.int
      subst e1
      have e2 := hr1.nil
      subst e2
      cases hrt : xr_rt M with
      | none => rw [hrt] at hk; simp [xr_okr] at hk
      | some ty =>
        rw [hrt] at hk hret
        have hn : narrow ty (.int x) = .int x := by
          cases ty <;> simp [xr_okr] at hk
          · rfl
          · rcases hk with rfl | rfl <;> decide
        exact W.zret hx hb hret hn (xr_hq h1 h2 h3 (v := some (.int x)) (v' := some (.int x)) rfl) h3.2.2 hd (hlocks := hlocks)
    · cases he
  case lreturn =>
    replace he : (match (generalizing := false) st with
      | [.long v] => bif xr_okr (xr_rt M) (.long v) then some (some (.long v)) else none
      | _ => none) = some v := he
    split at he
    · rename_i x
      obtain ⟨hk, rfl⟩ := xr_cond (y := none) he
      obtain ⟨v1, r1, rfl, hv1, hr1⟩ := h6.cons
      have e1 := hv1.long
      subst e1
      have e2 := hr1.nil
      subst e2
      have hrt : xr_rt M = some .long := by
        cases hrt : xr_rt M with
        | none => rw [hrt] at hk; simp [xr_okr] at hk
        | some ty => rw [hrt] at hk; cases ty <;> simp [xr_okr] at hk; rfl
      rw [hrt] at hret
      exact W.lret hx hb hret (xr_hq h1 h2 h3 (v := some (.long x)) (v' := some (.long x)) rfl) h3.2.2 hd (hlocks := hlocks)
    · cases he
  case areturn =>
    replace he : (match (generalizing := false) st with
      | [.ref a] => bif xr_okr (xr_rt M) (.ref a) then some (some (.ref a)) else none
      | [.null] => bif xr_okr (xr_rt M) .null then some (some .null) else none
      | _ => none) = some v := he
    split at he
    · rename_i x
      obtain ⟨hk, rfl⟩ := xr_cond (y := none) he
      obtain ⟨v1, r1, rfl, hv1, hr1⟩ := h6.cons
      obtain ⟨q, rfl, hq⟩ := hv1.ref
      have e2 := hr1.nil
      subst e2
      have hrt : ∃ C, xr_rt M = some (.object C) := by
        cases hrt : xr_rt M with
        | none => rw [hrt] at hk; simp [xr_okr] at hk
        | some ty => rw [hrt] at hk; cases ty <;> simp [xr_okr] at hk; exact ⟨_, rfl⟩
      obtain ⟨C, hrt⟩ := hrt
      rw [hrt] at hret
      exact W.aret hx hb hret (Or.inl ⟨_, rfl⟩) (Or.inr ⟨_, rfl⟩) (xr_hq h1 h2 h3 (v := some (.ref x)) (v' := some (.ref q)) hq) h3.2.2 hd (hlocks := hlocks)
    · obtain ⟨hk, rfl⟩ := xr_cond (y := none) he
      obtain ⟨v1, r1, rfl, hv1, hr1⟩ := h6.cons
      have e1 := hv1.null
      subst e1
      have e2 := hr1.nil
      subst e2
      have hrt : ∃ C, xr_rt M = some (.object C) := by
        cases hrt : xr_rt M with
        | none => rw [hrt] at hk; simp [xr_okr] at hk
        | some ty => rw [hrt] at hk; cases ty <;> simp [xr_okr] at hk; exact ⟨_, rfl⟩
      obtain ⟨C, hrt⟩ := hrt
      rw [hrt] at hret
      exact W.aret hx hb hret (Or.inl ⟨_, rfl⟩) (Or.inl rfl) (xr_hq h1 h2 h3 (v := some .null) (v' := some .null) trivial) h3.2.2 hd (hlocks := hlocks)
    · cases he
  case return_ =>
    replace he : (match (generalizing := false) st with
      | [] => (match xr_rt M with
        | none => some none
        | _ => none)
      | _ => none) = some v := he
    split at he
    · split at he
      · rename_i hrt
        cases he
        have e2 := h6.nil
        subst e2
        rw [hrt] at hret
        exact W.vret hx hb hret (xr_hq h1 h2 h3 (v := none) (v' := none) trivial) h3.2.2 hd (hlocks := hlocks)
      · cases he
    · cases he
  all_goals exact nomatch (show (none : Option (Option Value)) = some v from he)
theorem xr_en_fit (k : Nat) : Bundle.fit (xr_en k) = true := by
  match k with
  | 0 => decide +kernel
  | 1 => decide +kernel
  | k + 2 => exact (by decide +kernel : Bundle.fit "java/lang/IndexOutOfBoundsException" = true)
theorem xr_up_fit : ∀ n ∈ xr_up, Bundle.fit n = true := by decide +kernel
set_option maxHeartbeats 1000000 in
theorem xr_thr {w z : Nat} {Qc : Array Value → State → Outcome → State → Prop} {mc ms : Nat} (C : xr_Cx p l s m args meth c T A b GW ST NC AO M) (hok : xr_ok T GW ST AO M pc (.multianewarray w z) n) (hhd : xr_hd M = []) (hw3 : w < 3) (hst : xr_cat st ≤ 8) (hR : 17 ≤ R.frames + 1 ∧ 200 ≤ R.locals) (hRc : h.1 + 1 - c0 ≤ R.cells ∧ h.2.1 + 6 - s0 ≤ R.slots) (hc : c0 ≤ h.1) (hc' : s0 ≤ h.2.1) (hmc : h.1 + 1 - c0 ≤ mc) (hms : h.2.1 + 6 - s0 ≤ ms) :
    xr_G p l e R s m args below meth c (vx_MQ below Qc (xr_XC T D A b (.inr w) (xr_exc h) a0) args s mc ms A) T D A b M a0 c0 s0 h pc L st := by
  obtain ⟨ik, is, ic, text, d0, d3, hz, w1, w2, w3, w4, w5⟩ := hok
  obtain ⟨hx, hb, hml, hown, hts, hname, hret, hlocks, htab, hE, hl, hA⟩ := C
  obtain ⟨hU, hN, -, -, -, hST, -, -⟩ := hE
  obtain ⟨sa, hsa⟩ := hST _ w3
  intro H locs ads ws tys ls L' st' h1 h2 h3 h4 h5 h6
  have hcs := h6.catsum
  have hout : ∀ (k : Nat), ∀ x ∈ c.exceptionTable.toList, covers x k = false := by
    intro k x hx
    rw [htab] at hx
    unfold xr_hh at hx
    rw [hhd] at hx
    exact absurd hx List.not_mem_nil
  have hXC : ∀ t : State, s.vm.Alike t.vm → H.size ≤ t.heap.size → (∀ q : Nat, q < H.size → t.heap[q]? = H[q]?) → (xr_XC T D A b (.inr w) (xr_exc h) a0) (xr_en w) s t := by
    intro t ha hz hk
    refine ⟨⟨w, ads, ws, tys, rfl, hw3, rfl, h1, (h2.exc hk).moved ha⟩, Nat.le_trans h3.1 hz, fun q hq hnA => ?_⟩
    rw [hk q (Nat.lt_of_lt_of_le hq h3.1)]
    exact h3.2.1 q hq hnA
  rcases hz with ⟨-, d4, d6, d9⟩ | ⟨-, d4, d7, d10⟩
  · exact vx_throwS hx hb hl hown (xr_en_fit w) xr_up_fit (hts _ w1) (hts _ w2) hsa (fun v hv => hts _ (w4 v hv)) w5 hU hN h3 (h4.1.trans hml.symm) d0 d3 d4 d6 d9 (hout _) (show 2 + 3 < R.frames by omega) (show (st'.map fun v => v.category).sum + (13 * (2 + 1) + 43) ≤ R.locals by omega) (by omega) (by omega) hlocks hXC h3.2.2 (by omega) (by omega)
  · exact vx_throwSW hx hb hl hown (xr_en_fit w) xr_up_fit (hts _ w1) (hts _ w2) hsa (fun v hv => hts _ (w4 v hv)) w5 hU hN h3 (h4.1.trans hml.symm) d0 d3 d4 d7 d10 (hout _) (show 2 + 3 < R.frames by omega) (show (st'.map fun v => v.category).sum + (13 * (2 + 1) + 43) ≤ R.locals by omega) (by omega) (by omega) hlocks hXC h3.2.2 (by omega) (by omega)
/-- what a call needs of the callee's start -/
theorem xr_pre {ads : List Nat} {ws : va_W} {tys : List (ClassId × FieldType)} {H : Heap} {locs : List Loc} (C : xr_Cx p l s m args meth c T A b GW ST NC AO M) (h2 : xr_W T D A b h ads s ws tys H) (h3 : va_S A s.heap H locs) (av : List Value) : PreS s H (xr_Pc T D A b ST NC AO h ads av) av := by
  obtain ⟨hx, hb, hml, hown, hts, hname, hret, hlocks, htab, hE, hl, hA⟩ := C
  refine ⟨xr_blind, fun U hU hW => ⟨rfl, ?_, fun q hq => hA q (Nat.le_trans h3.1 (by rw [← hU]; exact hq)), ws, tys, ?_⟩⟩
  · rw [hU]
    exact hE.go hW h3.1 h3.2.1
  · rw [hU]
    exact h2.moved hW.alike
theorem xr_ws_ok {K : xrM} (C : xr_Cx p l s m args meth c T A b GW ST NC AO M) (htw : ∀ w ∈ GW, xr_tw w = true) (hcal : xr_cal GW K) : ∀ w ∈ xr_ws GW K, ∀ (a' : Array Value) (U : State), s.WarmedH U.vm → w.before a' U = true := by
  intro w hw a' U hW
  have hw' : w ∈ GW := by
    rcases List.mem_cons.mp hw with rfl | h
    · exact hcal.2.1
    · exact h
  exact xr_tr (htw w hw') hW (C.2.2.2.2.1 w hw')
theorem xr_cw_0 {K : xrM} (h : xr_hd K = []) : xr_cw K = .code (xr_nm K) (xr_by K) (xr_mx K) (xr_rt K) := by
  unfold xr_cw
  rw [h]
theorem xr_cw_1 {K : xrM} (h : xr_hd K ≠ []) : xr_cw K = .codeWith (xr_nm K) (xr_by K) (xr_mx K) (xr_rt K) (xr_hh K) := by
  unfold xr_cw
  split
  · contradiction
  · rfl
set_option maxHeartbeats 1000000 in
/-- a call, from the callee's contract -/
theorem xr_vrun {i : Instr} {k d1 : Nat} {K : xrM} {as r : List Value} {o : xrO} {hh : xrH} {mc ms : Nat} (C : xr_Cx p l s m args meth c T A b GW ST NC AO M) (hSF : xr_SF T GW ST NC AO) (hok : xr_ok T GW ST AO M pc i n) (hcall : xr_call T i st h = some (k, K, as, r)) (hnx : xr_hd K = [] → xr_kind i = some (1, k) → ∃ v, o = .inl v)
    (hR : d1 + 17 ≤ R.frames ∧ 264 + 64 * d1 ≤ R.locals) (hRc : h.1 - c0 + mc ≤ R.cells ∧ h.2.1 - s0 + ms ≤ R.slots)
    {H : Heap} {locs : List Loc} {ads : List Nat} {ws : va_W} {tys : List (ClassId × FieldType)} {ls : Array Slot} {L' : xrL} {st' : List Value} (h2 : xr_W T D A b h ads s ws tys H) (h3 : va_S A s.heap H locs) (h4 : lv_has ls (xr_mx M) L') (h6 : xr_Vs ads b st st')
    (hM : ∀ as', xr_Vs ads b as as' → vx_Met l (xr_nm K) (xr_ws GW K) (xr_rm d1 mc ms) (xr_Pc T D A b ST NC AO h ads as') (xr_Qc T D A b o hh ads) (xr_XC T D A b o hh ads) mc ms A) :
    n = 3 ∧ ∃ (as' r' : List Value), xr_Vs ads b r r' ∧ vx_Run p l e R s m args below meth c H locs (h.1 - c0) (h.2.1 - s0) mc ms (F0 m pc ls st') r' ((xr_Qc T D A b o hh ads) as'.toArray) (xr_XC T D A b o hh ads) A := by
  have C' := C
  obtain ⟨hx, hb, hml, hown, hts, hname, hret, hlocks, htab, hE, hl, hA⟩ := C'
  unfold xr_call at hcall
  split at hcall
  · cases hcall
  · rename_i w k' hkind
    split at hcall
    · cases hcall
    · rename_i K' hK'
      split at hcall
      · cases hcall
      · rename_i as0 r0 hcut
        obtain ⟨hc1, hc2⟩ := xr_cond (y := none) hcall
        cases hc2
        simp only [Bool.and_eq_true] at hc1
        have hr8 := Nat.le_of_ble_eq_true hc1.1.1
        obtain ⟨as', r', ha, hr, heq, hlen⟩ := xr_Vs.cutd _ (acc' := []) hcut trivial h6
        have heq' : st' = as'.reverse ++ r' := by rw [heq]; simp
        have hW8 : 2 * (F0 m pc ls st').monitorRoom + (r'.map fun v => v.category).sum ≤ 8 := by
          have := hr.catsum
          show 2 * 0 + _ ≤ 8
          omega
        have hMet := hM as' ha
        have hPre := xr_pre C h2 h3 as'
        have hsz : (F0 m pc ls st').locals.size = xr_mx M := h4.1
        cases i
        case invokevirtual kk =>
          cases hkind
          obtain ⟨hn, x, K2, q, hd, hK2, hk0, w1, w2, w3, hq, hqn, hhd⟩ := hok
          cases Option.some.inj (hK'.symm.trans hK2)
          have hcal := hSF.2.2.2 _ _ hk0 hK'
          obtain ⟨g1, g2, g3, g4, g5, g6⟩ := id hcal
          have hrcv : xr_rcv K h as = true := by simpa using hc1.2
          cases as with
          | nil => simp [xr_rcv] at hrcv
          | cons v0 as1 =>
            cases v0 with
            | ref a =>
              obtain ⟨v0', as1', rfl, hv0, has1⟩ := ha.cons
              obtain ⟨qa, rfl, hqa⟩ := hv0.ref
              obtain ⟨e', hw, he⟩ := h2.at hqa
              have hobj : ∃ fs, xr_M h a = .inr (xr_ci K, fs) := by
                simp only [xr_rcv] at hrcv
                split at hrcv
                · rename_i c9 fs9 hm9
                  exact ⟨fs9, by rw [hm9, Nat.eq_of_beq_eq_true hrcv]⟩
                · cases hrcv
              obtain ⟨fs, hfs⟩ := hobj
              rw [hfs] at he
              obtain ⟨fs', rfl, -⟩ := he.obj
              refine ⟨hn, Value.ref qa :: as1', r', hr, ?_⟩
              have hrec := va_recv h2.1 h2.2.1 (ci := xr_ci K) (q0 := a) hq hw
              rw [hqn] at hrec
              exact vx_runV (C := (xr_nm K).cls) (n := xr_np K) ⟨hx, hb, hml, hown, hts⟩ hMet
                ⟨⟨rfl, rfl, by show d1 + 16 + 1 ≤ R.frames; omega, by show 8 + (xr_mx K + 11) + (200 + 64 * d1) ≤ R.locals; omega, xr_ws_ok C hSF.1 hcal, by rw [← xr_cw_0 hhd]; exact List.mem_cons_self, by rw [← xr_cw_0 hhd]; exact hts _ g2, hts _ g3, g4, fun sig hsig => by rw [hsig] at g5; exact (Option.some.inj g5).symm, hts _ w1⟩, hts _ w2, hts _ w3⟩
                ⟨hPre.1, hrec, hPre.2⟩ rfl (Nat.succ.inj (show as1'.length + 1 = xr_np K + 1 from hlen)) hsz (by rw [show (F0 m pc ls st').stack = st' from rfl, heq']; simp) hW8 hd hRc
            | _ => simp [xr_rcv] at hrcv
        case invokestatic kk =>
          cases hkind
          obtain ⟨hn, x, K2, hd, hK2, hk0, w1, w2⟩ := hok
          cases Option.some.inj (hK'.symm.trans hK2)
          have hcal := hSF.2.2.2 _ _ hk0 hK'
          obtain ⟨g1, g2, g3, g4, g5, g6⟩ := id hcal
          refine ⟨hn, as', r', hr, ?_⟩
          by_cases hhd : xr_hd K = []
          · exact vx_runS (n := xr_np K) ⟨hx, hb, hml, hown, hts⟩ hMet
              ⟨⟨rfl, rfl, by show d1 + 16 + 1 ≤ R.frames; omega, by show 8 + (xr_mx K + 11) + (200 + 64 * d1) ≤ R.locals; omega, xr_ws_ok C hSF.1 hcal, by rw [← xr_cw_0 hhd]; exact List.mem_cons_self, by rw [← xr_cw_0 hhd]; exact hts _ g2, hts _ g3, g4, fun sig hsig => by rw [hsig] at g5; exact (Option.some.inj g5).symm, hts _ w1⟩, hts _ w2⟩
              hPre rfl (show as'.length = xr_np K from hlen) hsz (by rw [show (F0 m pc ls st').stack = st' from rfl, heq']) hW8 hd hRc
          · exact vx_runSX (n := xr_np K) (hh := xr_hh K) ⟨hx, hb, hml, hown, hts⟩ hMet
              ⟨⟨rfl, rfl, by show d1 + 16 + 1 ≤ R.frames; omega, by show 8 + (xr_mx K + 11) + (200 + 64 * d1) ≤ R.locals; omega, xr_ws_ok C hSF.1 hcal, by rw [← xr_cw_1 hhd]; exact List.mem_cons_self⟩, by rw [← xr_cw_1 hhd]; exact hts _ g2, hts _ g3, g4, fun sig hsig => by rw [hsig] at g5; exact (Option.some.inj g5).symm, hts _ w1, hts _ w2⟩
              hPre rfl (show as'.length = xr_np K from hlen) hsz (by rw [show (F0 m pc ls st').stack = st' from rfl, heq']) hW8 hd hRc
        case invokespecial kk =>
          cases hkind
          obtain ⟨hn, x, K2, hd, hK2, hk0, w1, w2, w3, w4, hhd⟩ := hok
          cases Option.some.inj (hK'.symm.trans hK2)
          have hcal := hSF.2.2.2 _ _ hk0 hK'
          obtain ⟨g1, g2, g3, g4, g5, g6⟩ := id hcal
          obtain ⟨v9, rfl⟩ := hnx hhd rfl
          have hrcv : xr_rcv K h as = true := by simpa using hc1.2
          cases as with
          | nil => simp [xr_rcv] at hrcv
          | cons v0 as1 =>
            cases v0 with
            | ref a =>
              obtain ⟨v0', as1', rfl, hv0, has1⟩ := ha.cons
              obtain ⟨qa, rfl, hqa⟩ := hv0.ref
              have hMet2 : Met l (xr_nm K) (xr_ws GW K) (xr_rm d1 mc ms) (xr_Pc T D A b ST NC AO h ads (.ref qa :: as1')) (xr_Qc T D A b (.inl v9) hh ads) mc ms A := by
                refine MetFree.mono hMet (fun _ _ z => z) (fun _ _ _ _ _ z => z) ?_
                intro a9 s9 o9 t9 _ hq9
                rcases hq9 with hq9 | ⟨q9, -, E9, ce9, L9, ⟨⟨k9, _, _, _, hk9, -⟩, -⟩, -⟩
                · exact hq9
                · cases hk9
              refine ⟨hn, Value.ref qa :: as1', r', hr, ?_⟩
              rw [xr_cw_0 hhd, w4] at g2
              have hcode : Cond.code (xr_nm K) (xr_by K) (xr_mx K) none ∈ xr_ws GW K := by
                unfold xr_ws
                rw [xr_cw_0 hhd, w4]
                exact List.mem_cons_self
              have key : va_Run p l e R s m args below meth c H locs (h.1 - c0) (h.2.1 - s0) mc ms (F0 m pc ls st') r' ((xr_Qc T D A b (.inl v9) hh ads) (Value.ref qa :: as1').toArray) A := by
                rcases w1 with w1 | ⟨host, w1⟩
                · exact va_runI (n := xr_np K) (As := as1') ⟨hx, hb, hml, hown, hts⟩ hMet2
                    ⟨⟨rfl, rfl, by show d1 + 16 + 1 ≤ R.frames; omega, by show 8 + (xr_mx K + 11) + (200 + 64 * d1) ≤ R.locals; omega, xr_ws_ok C hSF.1 hcal, hcode, hts _ g2, hts _ g3, g4, fun sig hsig => by rw [hsig] at g5; exact (Option.some.inj g5).symm, hts _ w1⟩, w2, hts _ w3⟩
                    hPre rfl (Nat.succ.inj (show as1'.length + 1 = xr_np K + 1 from hlen)) hsz (by rw [show (F0 m pc ls st').stack = st' from rfl, heq']; simp) hW8 hd hRc
                · exact va_runIN (n := xr_np K) (As := as1') (host := host) ⟨hx, hb, hml, hown, hts⟩ hMet2
                    ⟨⟨⟨rfl, rfl, by show d1 + 16 + 1 ≤ R.frames; omega, by show 8 + (xr_mx K + 11) + (200 + 64 * d1) ≤ R.locals; omega, xr_ws_ok C hSF.1 hcal, hcode⟩, hts _ g2, hts _ g3, g4, fun sig hsig => by rw [hsig] at g5; exact (Option.some.inj g5).symm, hts _ w1⟩, w2, hts _ w3⟩
                    hPre rfl (Nat.succ.inj (show as1'.length + 1 = xr_np K + 1 from hlen)) hsz (by rw [show (F0 m pc ls st').stack = st' from rfl, heq']; simp) hW8 hd hRc
              intro T9 hT9 X9
              exact Or.inl (key T9 hT9 X9)
            | _ => simp [xr_rcv] at hrcv
        all_goals cases hkind
end XCL
end
section
/-! THE SIMULATION: by the number of steps -/
def xr_P (l : Launch) (T : xrT) (D : va_G) (A : Nat → Prop) (b : Nat) (GW : List Cond) (ST : List (String × Nat × String)) (NC : List (String × String)) (AO : List String) (N : Nat) : Prop :=
  ∀ (p : Program) (e : Env) (R : Room) (s : State) (m : MethodId) (args : Array Value) (below : List Frame) (meth : Method) (c : Code) (Q : State → Prop) (M : xrM) (j d pc : Nat) (L : xrL) (st : List Value) (h : xrH) (o : xrO) (h' : xrH) (a0 : List Nat) (c0 s0 : Nat),
    T.1[j]? = some M → xr_Cx p l s m args meth c T A b GW ST NC AO M → xr_run T N d j pc L st h = some (o, h') → c0 ≤ h.1 → s0 ≤ h.2.1 → (h'.1 - c0 ≤ R.cells ∧ h'.2.1 - s0 ≤ R.slots) → (d + 16 ≤ R.frames ∧ 200 + 64 * d ≤ R.locals) →
    (∀ (v : Option Value) (i : Instr) (pc1 : Nat) (L1 : xrL) (st1 : List Value), o = .inl v → xr_end M i st1 = some v → decode (xr_by M) pc1 = .ok (i, 1) → xr_G p l e R s m args below meth c Q T D A b M a0 c0 s0 h' pc1 L1 st1) →
    (∀ k, o = .inr k → ∃ mc ms, Q = vx_MQ below (xr_Qc T D A b o h' a0) (xr_XC T D A b o h' a0) args s mc ms A ∧ h'.1 - c0 ≤ mc ∧ h'.2.1 - s0 ≤ ms) →
    xr_G p l e R s m args below meth c Q T D A b M a0 c0 s0 h pc L st
theorem xr_Vo.list {ads : List Nat} {b : Nat} : ∀ {v v' : Option Value}, xr_Vo ads b v v' → xr_Vs ads b v.toList v'.toList
  | none, none, _ => trivial
  | some _, some _, g => ⟨g, trivial⟩
  | none, some _, g => g.elim
  | some _, none, g => g.elim
section XOF
variable {l : Launch}
/-- as vx_ofW, vx_ofWH, for methods of the JDK too -/
theorem xr_ofW {y : MethodName} {ws ws' : List Cond} {rm : Room} {Pc : Array Value → State → Prop} {Qc : Array Value → State → Outcome → State → Prop} {XC : String → State → State → Prop} {mc ms : Nat} {free : Addr → Prop} {cc : ByteArray} {maxL : Nat} {ret : Option FieldType}
    (hy : plainFor y = true) (hw : ws = Cond.code y cc maxL ret :: ws')
    (body : ∀ p e s m args below meth c s₁, BodyLoose p l y (headSpec ws rm) cc maxL ret e s m args below meth c s₁ → c.maxLocals = maxL → (∀ x ∈ c.exceptionTable.toList, False) → Pc args s →
      W p l e (headSpec ws rm).room s m args below meth c s.heap [] 0 0 (vx_MQ below Qc XC args s mc ms free) (entryFrame m args maxL)) : vx_Met l y ws rm Pc Qc XC mc ms free := by
  refine MetFree.of_bodySF (code := cc) (maxLocals := maxL) (ret := ret) hy ?_ ?_
  · intro args s m h hn
    obtain ⟨meth, c, h1, h2, h3, h4, h5, h6, -, -⟩ := Cond.code_spec hn (atoms_spec (ws := ws) h _ (by rw [hw]; exact List.mem_cons_self))
    exact ⟨meth, c, h1, h2, h3, h4, h5, h6⟩
  · intro p e s m args below meth c s₁ B hml hP _
    have hh0 : s₁.heap = s.heap := by rw [B.state]; rfl
    have ht : ∀ x ∈ c.exceptionTable.toList, False := by
      obtain ⟨meth9, c9, h1, h2, -, -, -, -, h7, -⟩ := Cond.code_spec B.named (atoms_spec (ws := ws) B.pre _ (by rw [hw]; exact List.mem_cons_self))
      cases Option.some.inj (h1.symm.trans B.method)
      cases Option.some.inj (h2.symm.trans (Stand.of_body B).code)
      intro x hx
      rw [Array.isEmpty_iff.mp h7] at hx
      cases hx
    obtain ⟨t, a1, o, b1, b2, b3⟩ := body p e s m args below meth c s₁ B hml ht hP s₁ hh0 (Stand.of_body B)
    exact ⟨t, o, a1, b1, b2, b3⟩
theorem xr_ofWH {y : MethodName} {ws ws' : List Cond} {rm : Room} {Pc : Array Value → State → Prop} {Qc : Array Value → State → Outcome → State → Prop} {XC : String → State → State → Prop} {mc ms : Nat} {free : Addr → Prop} {cc : ByteArray} {maxL : Nat} {ret : Option FieldType} {hh : List (Nat × Nat × Nat × Nat)}
    (hy : plainFor y = true) (hw : ws = Cond.codeWith y cc maxL ret hh :: ws')
    (body : ∀ p e s m args below meth c s₁, BodyLoose p l y (headSpec ws rm) cc maxL ret e s m args below meth c s₁ → c.maxLocals = maxL → Pc args s →
      W p l e (headSpec ws rm).room s m args below meth c s.heap [] 0 0 (vx_MQ below Qc XC args s mc ms free) (entryFrame m args maxL)) : vx_Met l y ws rm Pc Qc XC mc ms free := by
  refine MetFree.of_bodySF (code := cc) (maxLocals := maxL) (ret := ret) hy ?_ ?_
  · intro args s m h hn
    obtain ⟨m9, meth, c, hn9, h1, h2, h3, h4, -, h5, h6, -⟩ := Cond.codeWith_spec (atoms_spec (ws := ws) h _ (by rw [hw]; exact List.mem_cons_self))
    cases hn.symm.trans hn9
    exact ⟨meth, c, h1, h2, h3, h4, h5, h6⟩
  · intro p e s m args below meth c s₁ B hml hP _
    have hh0 : s₁.heap = s.heap := by rw [B.state]; rfl
    obtain ⟨t, a1, o, b1, b2, b3⟩ := body p e s m args below meth c s₁ B hml hP s₁ hh0 (Stand.of_body B)
    exact ⟨t, o, a1, b1, b2, b3⟩
end XOF
section XMN
variable {l : Launch} {T : xrT} {D : va_G} {A : Nat → Prop} {b : Nat} {GW : List Cond} {ST : List (String × Nat × String)} {NC : List (String × String)} {AO : List String}
theorem xr_met (hl : l.stackTraces = false) (hSF : xr_SF T GW ST NC AO) {N : Nat} (ih : xr_P l T D A b GW ST NC AO N) {k d : Nat} {K : xrM} {as : List Value} {o : xrO} {h h1 : xrH} (hk0 : k ≠ 0) (hK : T.1[k]? = some K) (hr : xr_run T N d k 0 (lv_args 0 as) [] h = some (o, h1)) (hcat : xr_cat as ≤ xr_mx K) {ads : List Nat} {as' : List Value} (ha : xr_Vs ads b as as') :
    vx_Met l (xr_nm K) (xr_ws GW K) (xr_rm d (h1.1 - h.1) (h1.2.1 - h.2.1)) (xr_Pc T D A b ST NC AO h ads as') (xr_Qc T D A b o h1 ads) (xr_XC T D A b o h1 ads) (h1.1 - h.1) (h1.2.1 - h.2.1) A := by
  obtain ⟨g1, g2, g3, g4, g5, g6⟩ := hSF.2.2.2 _ _ hk0 hK
  have key : ∀ (p : Program) (e : Env) (s : State) (m : MethodId) (args : Array Value) (below : List Frame) (meth : Method) (c : Code) (s₁ : State), BodyLoose p l (xr_nm K) (headSpec (xr_ws GW K) (xr_rm d (h1.1 - h.1) (h1.2.1 - h.2.1))) (xr_by K) (xr_mx K) (xr_rt K) e s m args below meth c s₁ → c.maxLocals = xr_mx K → c.exceptionTable.toList = tableOf (xr_hh K) → xr_Pc T D A b ST NC AO h ads as' args s →
      W p l e (headSpec (xr_ws GW K) (xr_rm d (h1.1 - h.1) (h1.2.1 - h.2.1))).room s m args below meth c s.heap [] 0 0 (vx_MQ below (xr_Qc T D A b o h1 ads) (xr_XC T D A b o h1 ads) args s (h1.1 - h.1) (h1.2.1 - h.2.1) A) (entryFrame m args (xr_mx K)) := by
    intro p e s m args below meth c s₁ B hml htab hv
    obtain ⟨rfl, hE, hA, ws, tys, hW⟩ := hv
    have C : xr_Cx p l s m as'.toArray meth c T A b GW ST NC AO K := ⟨B.exec, B.bytes, hml, findClass_of_methodNamed B.named, (fun w hw => atoms_spec (ws := xr_ws GW K) B.pre w (List.mem_cons_of_mem _ hw)), (name_of_methodNamed B.named B.method).1, B.returns, B.notSynchronized, htab, hE, hl, hA⟩
    have hle : (lg_sl as').length ≤ xr_mx K := by
      rw [xr_sl_len]
      have := ha.catsum
      unfold xr_cat at hcat ⊢
      unfold xr_cat at this
      omega
    have hlv := lv_entry as' (n := xr_mx K) hle
    rw [lg_entry_eq]
    generalize (lg_sl as' ++ List.replicate (xr_mx K - (lg_sl as').length) Slot.unset).toArray = ls at hlv ⊢
    refine W.cs (show 0 = h.1 - h.1 by omega) (show 0 = h.2.1 - h.2.1 by omega) ?_
    refine ih p e _ s m _ below meth c _ K k d 0 (lv_args 0 as) [] h o h1 ads h.1 h.2.1 hK C hr (Nat.le_refl _) (Nat.le_refl _) ⟨Nat.le_refl _, Nat.le_refl _⟩ ⟨Nat.le_refl _, Nat.le_refl _⟩ ?_ ?_ s.heap [] ads ws tys ls (lv_args 0 as') [] (xr_le.rf _) hW va_S.rf hlv (xr_Ls.args 0 ha) trivial
    · intro v i pc1 L1 st1 ho hend hd
      subst ho
      exact xr_ret C hd hend (Nat.le_refl _) (Nat.le_refl _)
    · intro k ho
      exact ⟨_, _, rfl, Nat.le_refl _, Nat.le_refl _⟩
  by_cases hhd : xr_hd K = []
  · refine xr_ofW (cc := xr_by K) (maxL := xr_mx K) (ret := xr_rt K) (ws' := GW) g1 (by unfold xr_ws; rw [xr_cw_0 hhd]) ?_
    intro p e s m args below meth c s₁ B hml ht hv
    refine key p e s m args below meth c s₁ B hml ?_ hv
    have h0 : c.exceptionTable.toList = [] := by
      cases hz : c.exceptionTable.toList with
      | nil => rfl
      | cons x t => exact (ht x (by rw [hz]; exact List.mem_cons_self)).elim
    rw [h0]
    unfold xr_hh
    rw [hhd]
    rfl
  · refine xr_ofWH (cc := xr_by K) (maxL := xr_mx K) (ret := xr_rt K) (hh := xr_hh K) (ws' := GW) g1 (by unfold xr_ws; rw [xr_cw_1 hhd]) ?_
    intro p e s m args below meth c s₁ B hml hv
    refine key p e s m args below meth c s₁ B hml ?_ hv
    exact vx_table (x := xr_nm K) (B := B) (atoms_spec (ws := xr_ws GW K) B.pre _ (by unfold xr_ws; rw [xr_cw_1 hhd]; exact List.mem_cons_self))
theorem xr_dec1 {M : xrM} {i : Instr} {pc n : Nat} {st : List Value} {v : Option Value} (hok : xr_ok T GW ST AO M pc i n) (he : xr_end M i st = some v) : decode (xr_by M) pc = .ok (i, 1) := by
  cases i
  case ireturn =>
    have hn : n = 1 := hok.1
    rw [← hn]
    exact hok.2
  case lreturn =>
    have hn : n = 1 := hok.1
    rw [← hn]
    exact hok.2
  case areturn =>
    have hn : n = 1 := hok.1
    rw [← hn]
    exact hok.2
  case return_ =>
    have hn : n = 1 := hok.1
    rw [← hn]
    exact hok.2
  all_goals exact nomatch (show (none : Option (Option Value)) = some v from he)
theorem xr_table {M : xrM} {pre suf : List (Nat × Nat × Nat × Nat × Nat)} {q : Nat × Nat × Nat × Nat × Nat} (h : xr_hd M = pre ++ q :: suf) : tableOf (xr_hh M) = (pre.map fun z => (⟨z.1, z.2.1, z.2.2.1, z.2.2.2.1⟩ : ExceptionTableEntry)) ++ (⟨q.1, q.2.1, q.2.2.1, q.2.2.2.1⟩ : ExceptionTableEntry) :: (suf.map fun z => (⟨z.1, z.2.1, z.2.2.1, z.2.2.2.1⟩ : ExceptionTableEntry)) := by
  unfold xr_hh tableOf
  rw [h]
  simp [List.map_append, Function.comp_def]
set_option maxHeartbeats 2000000 in
theorem xr_sim (hl : l.stackTraces = false) (hSF : xr_SF T GW ST NC AO) : ∀ N, xr_P l T D A b GW ST NC AO N := by
  intro N
  induction N with
  | zero =>
    intro p e R s m args below meth c Q M j d pc L st h o h' a0 c0 s0 hM C er
    cases er
  | succ N ih =>
    intro p e R s m args below meth c Q M j d pc L st h o h' a0 c0 s0 hM C er hc hc' hR hR2 f1 f2
    unfold xr_run at er
    rw [hM] at er
    dsimp only at er
    split at er
    · cases er
    · rename_i i n hf
      obtain ⟨hok0, hhok⟩ := hSF.2.2.1 _ _ hM
      have hok := hok0 _ _ _ hf
      split at er
      · split at er
        · cases er
        · rename_i F F2 hs
          have hle := xr_run_le _ _ _ _ _ _ _ _ _ er
          have hle0 := xr_s_le hs
          dsimp only at hle0
          have i1 := ih p e R s m args below meth c Q M j d _ _ _ _ o h' a0 c0 s0 hM C er (by omega) (by omega) hR hR2 f1 f2
          exact xr_step (F := (F, F2)) C hSF.2.1 hok hs hc hc' (show F2.1 - c0 ≤ R.cells ∧ F2.2.1 - s0 ≤ R.slots by omega) (by omega) i1
      · split at er
        · cases er
        · rename_i v he
          cases er
          exact f1 v i pc L st rfl he (xr_dec1 hok he)
      · rename_i hw
        split at er
        · rename_i hhd
          obtain ⟨e1, e2⟩ := xr_cond (y := none) er
          cases e2
          simp only [Bool.and_eq_true] at e1
          obtain ⟨mc, ms, rfl, hmc, hms⟩ := f2 _ rfl
          cases i <;> first | (cases hw; done) | skip
          exact xr_thr C hok hhd (Nat.le_of_ble_eq_true e1.2) (Nat.le_of_ble_eq_true e1.1) (by omega) hR hc hc' hmc hms
        · cases er
      · split at er
        · cases er
        · rename_i k K as r hcall
          split at er
          · cases er
          · rename_i d1
            have hKk : T.1[k]? = some K ∧ xr_cat as ≤ xr_mx K := by
              unfold xr_call at hcall
              split at hcall
              · cases hcall
              · split at hcall
                · cases hcall
                · split at hcall
                  · cases hcall
                  · obtain ⟨q1, q2⟩ := xr_cond (y := none) hcall
                    cases q2
                    simp only [Bool.and_eq_true] at q1
                    exact ⟨by assumption, Nat.le_of_ble_eq_true q1.1.2⟩
            have hk0 : k ≠ 0 := by
              unfold xr_call at hcall
              split at hcall
              · cases hcall
              · rename_i w k9 hkind
                split at hcall
                · cases hcall
                · split at hcall
                  · cases hcall
                  · obtain ⟨q1, q2⟩ := xr_cond (y := none) hcall
                    cases q2
                    cases i <;> first | (cases hkind; done) | (cases hkind; first | exact hok.2.choose_spec.choose_spec.choose_spec.2.2.1 | exact hok.2.choose_spec.choose_spec.2.2.1)
            split at er
            · cases er
            · rename_i v h1 hcr
              have hle := xr_run_le _ _ _ _ _ _ _ _ _ er
              have hle1 := xr_run_le _ _ _ _ _ _ _ _ _ hcr
              intro H locs ads ws tys ls L' st' g1 g2 g3 g4 g5 g6
              obtain ⟨hn, as', r', hrr, hrun⟩ := xr_vrun (o := .inl v) (hh := h1) (mc := h1.1 - h.1) (ms := h1.2.1 - h.2.1) (c0 := c0) (s0 := s0) (e := e) (R := R) (below := below) C hSF hok hcall (fun _ _ => ⟨v, rfl⟩) (show d1 + 17 ≤ R.frames ∧ 264 + 64 * d1 ≤ R.locals by omega) (by omega) g2 g3 g4 g6 (fun as' ha => xr_met hl hSF ih hk0 hKk.1 hcr hKk.2 ha)
              subst hn
              intro T0 hT X
              rcases hrun T0 hT X with ⟨v', st₀, t, T', L0, h0, X', hL, e1, e2, ⟨⟨v1, v2, ads2, ws2, tys2, hv1, hv2, hvo, hle2, hw2⟩, hF⟩, hgo⟩ | ⟨q, st₀, t, T', L0, E, ce, h0, X', hL, e1, e2, ⟨⟨k1, _, _, _, hk1, -⟩, -⟩, -⟩
              · cases hv1
                cases hv2
                obtain ⟨-, -, hS2⟩ := vx_keep h0 e1 g3 (fun _ _ z => z) (fun _ z => z) hL hF
                have key := ih p e R s m args below meth c Q M j (d1 + 1) _ _ _ _ o h' a0 c0 s0 hM C er (by omega) (by omega) hR hR2 f1 f2
                rw [show h.1 - c0 + (h1.1 - h.1) = h1.1 - c0 by omega, show h.2.1 - s0 + (h1.2.1 - h.2.1) = h1.2.1 - s0 by omega] at X'
                have hal : t.vm.Alike s.vm := by rw [← e2]; exact X'.warmed.alike.symm
                have hw3 : xr_W T D A b h1 ads2 s ws2 tys2 T'.heap := by rw [e1]; exact hw2.moved hal
                obtain ⟨t2, a1, b1⟩ := key T'.heap (locs ++ L0) ads2 ws2 tys2 ls L' (v'.toList ++ r') (g1.tr hle2) hw3 hS2 g4 (g5.mono hle2) (hvo.list.app (hrr.mono hle2)) T' rfl X'
                exact ⟨t2, hgo t2 a1, b1⟩
              · cases hk1
            · rename_i k3 h1 hcr
              have hle1 := xr_run_le _ _ _ _ _ _ _ _ _ hcr
              have hk3 := xr_run_k _ _ _ _ _ _ _ _ _ hcr
              obtain ⟨hw4, er⟩ := xr_cond2 er
              have hle : h1.1 ≤ h'.1 ∧ h1.2.1 ≤ h'.2.1 := by
                split at er
                · have := xr_run_le _ _ _ _ _ _ _ _ _ er
                  exact ⟨this.1, this.2.1⟩
                · cases er
                  exact ⟨Nat.le_refl _, Nat.le_refl _⟩
              intro H locs ads ws tys ls L' st' g1 g2 g3 g4 g5 g6
              obtain ⟨hn, as', r', hrr, hrun⟩ := xr_vrun (o := .inr k3) (hh := h1) (mc := h1.1 - h.1) (ms := h1.2.1 - h.2.1) (c0 := c0) (s0 := s0) (e := e) (R := R) (below := below) C hSF hok hcall (fun q1 q2 => by cases i <;> first | (cases q2; done) | (cases hw4; done)) (show d1 + 17 ≤ R.frames ∧ 264 + 64 * d1 ≤ R.locals by omega) (by omega) g2 g3 g4 g6 (fun as' ha => xr_met hl hSF ih hk0 hKk.1 hcr hKk.2 ha)
              subst hn
              intro T0 hT X
              rcases hrun T0 hT X with ⟨v', st₀, t, T', L0, h0, X', hL, e1, e2, ⟨⟨v1, v2, ads2, ws2, tys2, hv1, -⟩, -⟩, -⟩ | ⟨q, st₀, t, T', L0, E, ce, h0, X', hL, e1, e2, ⟨⟨k1, ads2, ws2, tys2, hk1, hk3', rfl, hle2, hw2⟩, hF⟩, hce, hcv, hcl, hst⟩
              · cases hv1
              · cases hk1
                obtain ⟨-, -, hS2⟩ := vx_keep h0 e1 g3 (fun _ _ z => z) (fun _ z => z) hL hF
                rw [show h.1 - c0 + (h1.1 - h.1) = h1.1 - c0 by omega, show h.2.1 - s0 + (h1.2.1 - h.2.1) = h1.2.1 - s0 by omega] at X'
                have hal : t.vm.Alike s.vm := by rw [← e2]; exact X'.warmed.alike.symm
                have hw3 : xr_W T D A b h1 ads2 s ws2 tys2 T'.heap := by rw [e1]; exact hw2.moved hal
                have hce' : T'.heap[q]? = some ce := by rw [e1]; exact hce
                have hC := C
                obtain ⟨hx, hb, hml, hown, hts, hname, hret, hlocks, htab, hE, hl', hA⟩ := hC
                have hpass : ∀ z : Nat × Nat × Nat × Nat × Nat, z ∈ xr_hd M → ((¬ (z.1 ≤ pc ∧ pc < z.2.1)) ∨ z.2.2.2.2 ≠ k3) → covers (⟨z.1, z.2.1, z.2.2.1, z.2.2.2.1⟩ : ExceptionTableEntry) pc = false ∨ (z.2.2.2.1 ≠ 0 ∧ ∃ nm : String, (Cond.classLink (xr_nm M).cls z.2.2.2.1 nm).before args s = true ∧ va_Nc (xr_en k3) nm s) := by
                  intro z hz hor
                  rcases hor with hor | hor
                  · exact Or.inl (xr_covers (q := (z.1, z.2.1, z.2.2.1, z.2.2.2.1)) hor)
                  · obtain ⟨u1, u2, u3, u4⟩ := hhok z hz
                    exact Or.inr ⟨u1, _, hts _ u2, hE.2.2.2.2.2.2.1 _ (u4 k3 hk3 (Ne.symm hor))⟩
                split at er
                · rename_i tg hhnd
                  obtain ⟨pre, q0, suf, v1, v2, v3, v4, v5, v6⟩ := xr_hnd_s hhnd
                  have hmem : q0 ∈ xr_hd M := by rw [v1]; simp
                  obtain ⟨u1, u2, u3, u4⟩ := hhok q0 hmem
                  rw [v5] at u2 u3
                  have key := ih p e R s m args below meth c Q M j (d1 + 1) _ _ _ _ o h' a0 c0 s0 hM C er (by omega) (by omega) hR hR2 f1 f2
                  have kk := key T'.heap (locs ++ L0) ads2 ws2 tys2 ls L' [.ref q] (g1.tr hle2) hw3 hS2 g4 (g5.mono hle2) ⟨trivial, trivial⟩
                  rw [← v2] at kk
                  have hcat := vx_catch (rest := r') (name := xr_en k3) hown (pre.map fun z => (⟨z.1, z.2.1, z.2.2.1, z.2.2.2.1⟩ : ExceptionTableEntry)) (⟨q0.1, q0.2.1, q0.2.2.1, q0.2.2.2.1⟩ : ExceptionTableEntry) (suf.map fun z => (⟨z.1, z.2.1, z.2.2.1, z.2.2.2.1⟩ : ExceptionTableEntry)) (htab.trans (xr_table v1))
                    (by
                      intro z hz
                      obtain ⟨z0, hz0, rfl⟩ := List.mem_map.mp hz
                      exact hpass z0 (by rw [v1]; exact List.mem_append_left _ hz0) (v6 z0 hz0)) (xr_covers1 (q := (q0.1, q0.2.1, q0.2.2.1, q0.2.2.2.1)) ⟨v3, v4⟩) u1 (hts _ u2) (hts _ u3) hce' hcv hcl kk
                  obtain ⟨t2, a1, b1⟩ := hcat T' rfl X'
                  exact ⟨t2, hst.trans a1, b1⟩
                · rename_i hhnd
                  cases er
                  obtain ⟨mc, ms, rfl, hmc, hms⟩ := f2 _ rfl
                  have hout := vx_outP (rest := r') (ls := ls) (Qc := xr_Qc T D A b (.inr k3) h' a0) (XC := xr_XC T D A b (.inr k3) h' a0) (free := A) (mc := mc) (ms := ms) (p := p) (l := l) (e := e) (R := R) (below := below) (m := m) (meth := meth) (c := c) (H := T'.heap) (locs := locs ++ L0) (cells := h'.1 - c0) (slots := h'.2.1 - s0) (args := args) hown hlocks
                    (by
                      intro z hz
                      rw [htab] at hz
                      unfold tableOf xr_hh at hz
                      rw [List.map_map] at hz
                      obtain ⟨z0, hz0, rfl⟩ := List.mem_map.mp hz
                      exact hpass z0 hz0 (xr_hnd_n hhnd z0 hz0)) hce' hcv hcl
                    (by
                      intro t9 ht9 ha9
                      refine ⟨⟨k3, ads2, ws2, tys2, rfl, hk3, rfl, g1.tr hle2, ?_⟩, ?_⟩
                      · rw [ht9]
                        exact hw3.moved ha9
                      · unfold va_F
                        rw [ht9]
                        exact ⟨hS2.1, hS2.2.1⟩) hS2.2.2 hmc hms
                  obtain ⟨t2, a1, b1⟩ := hout T' rfl X'
                  exact ⟨t2, hst.trans a1, b1⟩
end XMN
end
section
/-! THE TABLES' CHECK: a program that the kernel runs over a method's code, and what it shows -/
def xr_cpm (cp : List (Nat × Nat × Int)) (i k : Nat) (v : Int) : Bool := cp.any (fun q => Nat.beq q.1 i && Nat.beq q.2.1 k && decide (q.2.2 = v))
def xr_cpp (T : xrT) (GW : List Cond) (own : String) (k : Nat) (f w : Nat) (fin : Bool) : Prop := ∃ (C : String) (F : u_T) (N : Nat) (ty : FieldType), T.2.1[f / 64]? = some (C, F, N) ∧ f % 64 < N ∧ Cond.fieldLink own k C (F (f % 64)).2.1 (F (f % 64)).2.2.1 ∈ GW ∧
  parseFieldDescriptor (F (f % 64)).2.2.1 = some ty ∧ xr_tyk w ty ∧ (F (f % 64)).2.2.2 = fin ∧ (fin = true → C = own)
/-- what an entry of a class's constant pool means: 1 a field; 2, 3, 4 one that is written (an int, a boolean, a reference), 5, 6, 7 a final one; 8 a method, 9 a constructor, 10 a static one, 11 Object's; 12 a new object, 13 a new array of them; 14 an int, 15 a long; 16 a new exception, 17 its text, 18 its constructor -/
def xr_cpf (T : xrT) (GW : List Cond) (ST : List (String × Nat × String)) (AO : List String) (own : String) (q : Nat × Nat × Int) : Prop := match q.2.1 with
  | 1 => ∃ (C : String) (F : u_T) (N : Nat), T.2.1[q.2.2.toNat / 64]? = some (C, F, N) ∧ q.2.2.toNat % 64 < N ∧ Cond.fieldLink own q.1 C (F (q.2.2.toNat % 64)).2.1 (F (q.2.2.toNat % 64)).2.2.1 ∈ GW
  | 2 => xr_cpp T GW own q.1 q.2.2.toNat 0 false
  | 3 => xr_cpp T GW own q.1 q.2.2.toNat 1 false
  | 4 => xr_cpp T GW own q.1 q.2.2.toNat 2 false
  | 5 => xr_cpp T GW own q.1 q.2.2.toNat 0 true
  | 6 => xr_cpp T GW own q.1 q.2.2.toNat 1 true
  | 7 => xr_cpp T GW own q.1 q.2.2.toNat 2 true
  | 8 => ∃ (K : xrM) (r : vw_C), T.1[q.2.2.toNat]? = some K ∧ q.2.2.toNat ≠ 0 ∧ Cond.methodLink own q.1 (xr_nm K) ∈ GW ∧ Cond.instanceMethod (xr_nm K) ∈ GW ∧ Cond.selects (xr_nm K).cls (xr_nm K) (xr_nm K) ∈ GW ∧ T.2.1[xr_ci K]? = some r ∧ r.1 = (xr_nm K).cls ∧ xr_hd K = []
  | 9 => ∃ (K : xrM), T.1[q.2.2.toNat]? = some K ∧ q.2.2.toNat ≠ 0 ∧ (Cond.methodLink own q.1 (xr_nm K) ∈ GW ∨ ∃ host, Cond.methodLinkNest own q.1 (xr_nm K) host ∈ GW) ∧ (xr_nm K).name = "<init>" ∧ Cond.instanceMethod (xr_nm K) ∈ GW ∧ xr_rt K = none ∧ xr_hd K = []
  | 10 => ∃ (K : xrM), T.1[q.2.2.toNat]? = some K ∧ q.2.2.toNat ≠ 0 ∧ Cond.methodLink own q.1 (xr_nm K) ∈ GW ∧ Cond.static (xr_nm K) ∈ GW
  | 11 => Cond.methodLink own q.1 Lib.objectInit ∈ GW ∧ Cond.instanceMethod Lib.objectInit ∈ GW ∧ Cond.code Lib.objectInit ⟨#[0xb1]⟩ 1 none ∈ GW
  | 12 => ∃ (C : String) (F : u_T) (N : Nat), T.2.1[q.2.2.toNat]? = some (C, F, N) ∧ Cond.classLink own q.1 C ∈ GW
  | 13 => ∃ (r : vw_C), T.2.1[q.2.2.toNat]? = some r ∧ Cond.classLink own q.1 r.1 ∈ GW ∧ r.1 ∈ AO
  | 14 => Cond.constant own q.1 (Int32.ofInt q.2.2) ∈ GW
  | 15 => Cond.constantLong own q.1 (Int64.ofInt q.2.2) ∈ GW
  | 16 => Cond.classLink own q.1 (xr_en q.2.2.toNat) ∈ GW ∧ Cond.initialized (xr_en q.2.2.toNat) ∈ GW ∧ vx_ot (Cond.classLink own q.1 (xr_en q.2.2.toNat)) = true ∧ vx_ot (Cond.initialized (xr_en q.2.2.toNat)) = true
  | 17 => ∃ text, (own, q.1, text) ∈ ST
  | 18 => (∀ v ∈ vx_atS own q.1 (xr_en q.2.2.toNat) xr_up, v ∈ GW) ∧ ∀ v ∈ vx_atS own q.1 (xr_en q.2.2.toNat) xr_up, vx_ot v = true
  | _ => True
theorem xr_cpm_s {T : xrT} {GW : List Cond} {ST : List (String × Nat × String)} {AO : List String} {own : String} {cp : List (Nat × Nat × Int)} (hcp : ∀ q ∈ cp, xr_cpf T GW ST AO own q) {i k : Nat} {v : Int} (h : xr_cpm cp i k v = true) : xr_cpf T GW ST AO own (i, k, v) := by
  unfold xr_cpm at h
  obtain ⟨q, hq, hb⟩ := List.any_eq_true.mp h
  simp only [Bool.and_eq_true, decide_eq_true_eq] at hb
  have e1 := Nat.eq_of_beq_eq_true hb.1.1
  have e2 := Nat.eq_of_beq_eq_true hb.1.2
  have e3 := hb.2
  obtain ⟨a, b, c⟩ := q
  dsimp only at e1 e2 e3
  subst e1; subst e2; subst e3
  exact hcp _ hq
/-- an instruction that stands as it is -/
def xr_eqb (cc : ByteArray) (pc : Nat) (i : Instr) (n : Nat) : Bool := match decode cc pc with
  | .ok (oi, len) => Nat.beq len n && decide (oi = i)
  | .error _ => false
theorem xr_eqb_s {cc : ByteArray} {pc n : Nat} {i : Instr} (h : xr_eqb cc pc i n = true) : decode cc pc = .ok (i, n) := by
  unfold xr_eqb at h
  split at h
  · rename_i oi len hd
    simp only [Bool.and_eq_true, decide_eq_true_eq] at h
    rw [hd, h.2, Nat.eq_of_beq_eq_true h.1]
  · cases h
def xr_oi (cc : ByteArray) (pc : Nat) : Option (Instr × Nat) := match decode cc pc with
  | .ok q => some q
  | .error _ => none
theorem xr_oi_s {cc : ByteArray} {pc : Nat} {q : Instr × Nat} (h : xr_oi cc pc = some q) : decode cc pc = .ok q := by
  unfold xr_oi at h
  split at h
  · rename_i z hz
    rw [hz, Option.some.inj h]
  · cases h
def xr_okb (cp : List (Nat × Nat × Int)) (ini : Bool) (M : xrM) (pc : Nat) (i : Instr) (n : Nat) : Bool := match i with
  | .jsr_w v => match xr_oi (xr_by M) pc with
    | some (.ldc k, 2) => Nat.beq n 2 && xr_cpm cp k 14 v
    | _ => false
  | .jsr v => match xr_oi (xr_by M) pc with
    | some (.ldc_w k, 3) => Nat.beq n 3 && xr_cpm cp k 14 v
    | _ => false
  | .goto_w v => match xr_oi (xr_by M) pc with
    | some (.ldc2_w k, 3) => Nat.beq n 3 && xr_cpm cp k 15 v
    | _ => false
  | .getfield f => match xr_oi (xr_by M) pc with
    | some (.getfield k, 3) => Nat.beq n 3 && xr_cpm cp k 1 f
    | _ => false
  | .putfield f => match xr_oi (xr_by M) pc with
    | some (.putfield k, 3) => Nat.beq n 3 && (xr_cpm cp k 2 f || (ini && xr_cpm cp k 5 f))
    | _ => false
  | .putstatic f => match xr_oi (xr_by M) pc with
    | some (.putfield k, 3) => Nat.beq n 3 && (xr_cpm cp k 3 f || (ini && xr_cpm cp k 6 f))
    | _ => false
  | .invokedynamic f => match xr_oi (xr_by M) pc with
    | some (.putfield k, 3) => Nat.beq n 3 && (xr_cpm cp k 4 f || (ini && xr_cpm cp k 7 f))
    | _ => false
  | .monitorexit => match xr_oi (xr_by M) pc with
    | some (.invokespecial k, 3) => Nat.beq n 3 && xr_cpm cp k 11 0
    | _ => false
  | .new c => match xr_oi (xr_by M) pc with
    | some (.new k, 3) => Nat.beq n 3 && xr_cpm cp k 12 c
    | _ => false
  | .newarray t => Nat.beq n 2 && xr_eqb (xr_by M) pc (.newarray t) 2 && (match t with
    | .int => true
    | .boolean => true
    | _ => false)
  | .anewarray c => match xr_oi (xr_by M) pc with
    | some (.anewarray k, 3) => Nat.beq n 3 && xr_cpm cp k 13 c
    | _ => false
  | .multianewarray w z => match xr_oi (xr_by M) pc with
    | some (.new ik, 3) => xr_cpm cp ik 16 w && xr_eqb (xr_by M) (pc + 3) .dup 1 && (match z with
      | 0 => match xr_oi (xr_by M) (pc + 4), xr_oi (xr_by M) (pc + 6) with
        | some (.ldc is, 2), some (.invokespecial ic, 3) => xr_cpm cp is 17 0 && xr_cpm cp ic 18 w && xr_eqb (xr_by M) (pc + 9) .athrow 1
        | _, _ => false
      | 1 => match xr_oi (xr_by M) (pc + 4), xr_oi (xr_by M) (pc + 7) with
        | some (.ldc_w is, 3), some (.invokespecial ic, 3) => xr_cpm cp is 17 0 && xr_cpm cp ic 18 w && xr_eqb (xr_by M) (pc + 10) .athrow 1
        | _, _ => false
      | _ => false)
    | _ => false
  | .invokevirtual k => match xr_oi (xr_by M) pc with
    | some (.invokevirtual x, 3) => Nat.beq n 3 && xr_cpm cp x 8 k
    | _ => false
  | .invokespecial k => match xr_oi (xr_by M) pc with
    | some (.invokespecial x, 3) => Nat.beq n 3 && xr_cpm cp x 9 k
    | _ => false
  | .invokestatic k => match xr_oi (xr_by M) pc with
    | some (.invokestatic x, 3) => Nat.beq n 3 && xr_cpm cp x 10 k
    | _ => false
  | .iinc k v => Nat.beq n 3 && Nat.blt k (xr_mx M) && xr_eqb (xr_by M) pc (.iinc k v) 3
  | .istore k => Nat.beq n 2 && Nat.blt k (xr_mx M) && xr_eqb (xr_by M) pc (.istore k) 2
  | .astore k => Nat.beq n 2 && Nat.blt k (xr_mx M) && xr_eqb (xr_by M) pc (.astore k) 2
  | .lstore k => Nat.beq n 2 && Nat.blt (k + 1) (xr_mx M) && xr_eqb (xr_by M) pc (.lstore k) 2
  | .istore_n k => Nat.beq n 1 && Nat.blt k (xr_mx M) && xr_eqb (xr_by M) pc (.istore_n k) 1
  | .astore_n k => Nat.beq n 1 && Nat.blt k (xr_mx M) && xr_eqb (xr_by M) pc (.astore_n k) 1
  | .lstore_n k => Nat.beq n 1 && Nat.blt (k + 1) (xr_mx M) && xr_eqb (xr_by M) pc (.lstore_n k) 1
  | .ifCond w off => Nat.beq n 3 && (xr_jmp pc off).isSome && xr_eqb (xr_by M) pc (.ifCond w off) 3
  | .if_icmp w off => Nat.beq n 3 && (xr_jmp pc off).isSome && xr_eqb (xr_by M) pc (.if_icmp w off) 3
  | .tableswitch d lo hi offs => xr_eqb (xr_by M) pc (.tableswitch d lo hi offs) n
  | .lookupswitch d ps => xr_eqb (xr_by M) pc (.lookupswitch d ps) n && (ps.toList.zip (ps.toList.drop 1)).all (fun (a, next) => a.1 < next.1)
  | i => Nat.beq n (xr_n i) && xr_eqb (xr_by M) pc i n
theorem xr_jmp_ex {pc : Nat} {off : Int} (h : (xr_jmp pc off).isSome = true) : ∃ t : Nat, (pc : Int) + off = (t : Int) := by
  cases hj : xr_jmp pc off with
  | none => rw [hj] at h; cases h
  | some t => exact ⟨t, xr_jmp_s hj⟩
theorem xr_okp_s {T : xrT} {GW : List Cond} {M : xrM} {pc k f w n : Nat} {fin : Bool} (hn : Nat.beq n 3 = true) (hd : decode (xr_by M) pc = .ok (.putfield k, 3)) (h : xr_cpp T GW (xr_nm M).cls k f w fin) (hf : fin = false ∨ (xr_nm M).name = "<init>") : xr_okp T GW M pc n f w := by
  obtain ⟨C, F, N, ty, h1, h2, h3, h4, h5, h6, h7⟩ := h
  refine ⟨Nat.eq_of_beq_eq_true hn, k, C, F, N, ty, hd, h1, h2, h3, h4, h5, ?_⟩
  cases fin with
  | false => exact Or.inl h6
  | true =>
    rcases hf with hf | hf
    · cases hf
    · exact Or.inr ⟨h6, hf, h7 rfl⟩
set_option maxHeartbeats 4000000 in
theorem xr_okb_s {T : xrT} {GW : List Cond} {ST : List (String × Nat × String)} {AO : List String} {cp : List (Nat × Nat × Int)} {ini : Bool} {M : xrM} {pc : Nat} {i : Instr} {n : Nat}
    (hcp : ∀ q ∈ cp, xr_cpf T GW ST AO (xr_nm M).cls q) (hini : ini = true → (xr_nm M).name = "<init>") (harr : Cond.arrayClass .int ∈ GW ∧ Cond.arrayClass .boolean ∈ GW) (h : xr_okb cp ini M pc i n = true) : xr_ok T GW ST AO M pc i n := by
  have hin2 : ∀ {x : Bool}, (ini && x) = true → (xr_nm M).name = "<init>" ∧ x = true := by
    intro x hx
    simp only [Bool.and_eq_true] at hx
    exact ⟨hini hx.1, hx.2⟩
  cases i
  case jsr_w v =>
    unfold xr_okb at h
    dsimp only at h
    split at h
    · rename_i k hd
      simp only [Bool.and_eq_true] at h
      exact ⟨Nat.eq_of_beq_eq_true h.1, k, xr_oi_s hd, xr_cpm_s hcp h.2⟩
    · cases h
  case jsr v =>
    unfold xr_okb at h
    dsimp only at h
    split at h
    · rename_i k hd
      simp only [Bool.and_eq_true] at h
      exact ⟨Nat.eq_of_beq_eq_true h.1, k, xr_oi_s hd, xr_cpm_s hcp h.2⟩
    · cases h
  case goto_w v =>
    unfold xr_okb at h
    dsimp only at h
    split at h
    · rename_i k hd
      simp only [Bool.and_eq_true] at h
      exact ⟨Nat.eq_of_beq_eq_true h.1, k, xr_oi_s hd, xr_cpm_s hcp h.2⟩
    · cases h
  case getfield f =>
    unfold xr_okb at h
    dsimp only at h
    split at h
    · rename_i k hd
      simp only [Bool.and_eq_true] at h
      obtain ⟨C, F, N, a1, a2, a3⟩ := xr_cpm_s hcp h.2
      exact ⟨Nat.eq_of_beq_eq_true h.1, k, C, F, N, xr_oi_s hd, a1, a2, a3⟩
    · cases h
  case putfield f =>
    unfold xr_okb at h
    dsimp only at h
    split at h
    · rename_i k hd
      simp only [Bool.and_eq_true, Bool.or_eq_true] at h
      rcases h.2 with h2 | h2
      · exact xr_okp_s h.1 (xr_oi_s hd) (xr_cpm_s hcp h2) (Or.inl rfl)
      · exact xr_okp_s h.1 (xr_oi_s hd) (xr_cpm_s hcp h2.2) (Or.inr (hini h2.1))
    · cases h
  case putstatic f =>
    unfold xr_okb at h
    dsimp only at h
    split at h
    · rename_i k hd
      simp only [Bool.and_eq_true, Bool.or_eq_true] at h
      rcases h.2 with h2 | h2
      · exact xr_okp_s h.1 (xr_oi_s hd) (xr_cpm_s hcp h2) (Or.inl rfl)
      · exact xr_okp_s h.1 (xr_oi_s hd) (xr_cpm_s hcp h2.2) (Or.inr (hini h2.1))
    · cases h
  case invokedynamic f =>
    unfold xr_okb at h
    dsimp only at h
    split at h
    · rename_i k hd
      simp only [Bool.and_eq_true, Bool.or_eq_true] at h
      rcases h.2 with h2 | h2
      · exact xr_okp_s h.1 (xr_oi_s hd) (xr_cpm_s hcp h2) (Or.inl rfl)
      · exact xr_okp_s h.1 (xr_oi_s hd) (xr_cpm_s hcp h2.2) (Or.inr (hini h2.1))
    · cases h
  case monitorexit =>
    unfold xr_okb at h
    dsimp only at h
    split at h
    · rename_i k hd
      simp only [Bool.and_eq_true] at h
      exact ⟨Nat.eq_of_beq_eq_true h.1, k, xr_oi_s hd, xr_cpm_s hcp h.2⟩
    · cases h
  case new c =>
    unfold xr_okb at h
    dsimp only at h
    split at h
    · rename_i k hd
      simp only [Bool.and_eq_true] at h
      obtain ⟨C, F, N, a1, a2⟩ := xr_cpm_s hcp h.2
      exact ⟨Nat.eq_of_beq_eq_true h.1, k, C, F, N, xr_oi_s hd, a1, a2⟩
    · cases h
  case newarray t =>
    unfold xr_okb at h
    dsimp only at h
    simp only [Bool.and_eq_true] at h
    refine ⟨Nat.eq_of_beq_eq_true h.1.1, xr_eqb_s h.1.2, ?_⟩
    obtain ⟨b1, b3⟩ := harr
    cases t <;> first | exact b1 | exact b3 | (cases h.2; done)
  case anewarray c =>
    unfold xr_okb at h
    dsimp only at h
    split at h
    · rename_i k hd
      simp only [Bool.and_eq_true] at h
      obtain ⟨r, a1, a2, a3⟩ := xr_cpm_s hcp h.2
      exact ⟨Nat.eq_of_beq_eq_true h.1, k, r, xr_oi_s hd, a1, a2, a3⟩
    · cases h
  case multianewarray w z =>
    unfold xr_okb at h
    dsimp only at h
    split at h
    · rename_i ik hd
      simp only [Bool.and_eq_true] at h
      obtain ⟨⟨h1, h2⟩, h3⟩ := h
      obtain ⟨a1, a2, a3, a4⟩ := xr_cpm_s hcp h1
      split at h3
      · split at h3
        · rename_i is ic hd1 hd2
          simp only [Bool.and_eq_true] at h3
          obtain ⟨text, ht⟩ := xr_cpm_s hcp h3.1.1
          obtain ⟨c1, c2⟩ := xr_cpm_s hcp h3.1.2
          refine ⟨ik, is, ic, text, xr_oi_s hd, xr_eqb_s h2, Or.inl ⟨rfl, xr_oi_s hd1, xr_oi_s hd2, xr_eqb_s h3.2⟩, a1, a2, ht, c1, ?_⟩
          intro v hv
          rcases List.mem_cons.mp hv with rfl | hv
          · exact a3
          · rcases List.mem_cons.mp hv with rfl | hv
            · exact a4
            · exact c2 v hv
        · cases h3
      · split at h3
        · rename_i is ic hd1 hd2
          simp only [Bool.and_eq_true] at h3
          obtain ⟨text, ht⟩ := xr_cpm_s hcp h3.1.1
          obtain ⟨c1, c2⟩ := xr_cpm_s hcp h3.1.2
          refine ⟨ik, is, ic, text, xr_oi_s hd, xr_eqb_s h2, Or.inr ⟨rfl, xr_oi_s hd1, xr_oi_s hd2, xr_eqb_s h3.2⟩, a1, a2, ht, c1, ?_⟩
          intro v hv
          rcases List.mem_cons.mp hv with rfl | hv
          · exact a3
          · rcases List.mem_cons.mp hv with rfl | hv
            · exact a4
            · exact c2 v hv
        · cases h3
      · cases h3
    · cases h
  case invokevirtual k =>
    unfold xr_okb at h
    dsimp only at h
    split at h
    · rename_i x hd
      simp only [Bool.and_eq_true] at h
      obtain ⟨K, r, a1, a2, a3, a4, a5, a6, a7, a8⟩ := xr_cpm_s hcp h.2
      exact ⟨Nat.eq_of_beq_eq_true h.1, x, K, r, xr_oi_s hd, a1, a2, a3, a4, a5, a6, a7, a8⟩
    · cases h
  case invokespecial k =>
    unfold xr_okb at h
    dsimp only at h
    split at h
    · rename_i x hd
      simp only [Bool.and_eq_true] at h
      obtain ⟨K, a1, a2, a3, a4, a5, a6, a7⟩ := xr_cpm_s hcp h.2
      exact ⟨Nat.eq_of_beq_eq_true h.1, x, K, xr_oi_s hd, a1, a2, a3, a4, a5, a6, a7⟩
    · cases h
  case invokestatic k =>
    unfold xr_okb at h
    dsimp only at h
    split at h
    · rename_i x hd
      simp only [Bool.and_eq_true] at h
      obtain ⟨K, a1, a2, a3, a4⟩ := xr_cpm_s hcp h.2
      exact ⟨Nat.eq_of_beq_eq_true h.1, x, K, xr_oi_s hd, a1, a2, a3, a4⟩
    · cases h
  case ifCond w off =>
    unfold xr_okb at h
    dsimp only at h
    simp only [Bool.and_eq_true] at h
    exact ⟨Nat.eq_of_beq_eq_true h.1.1, xr_jmp_ex h.1.2, xr_eqb_s h.2⟩
  case if_icmp w off =>
    unfold xr_okb at h
    dsimp only at h
    simp only [Bool.and_eq_true] at h
    exact ⟨Nat.eq_of_beq_eq_true h.1.1, xr_jmp_ex h.1.2, xr_eqb_s h.2⟩
  case tableswitch d lo hi offs => exact xr_eqb_s h
  case lookupswitch d ps =>
    unfold xr_okb at h
    dsimp only at h
    simp only [Bool.and_eq_true] at h
    exact ⟨xr_eqb_s h.1, h.2⟩
  case iinc k v =>
    unfold xr_okb at h
    dsimp only at h
    simp only [Bool.and_eq_true] at h
    exact ⟨Nat.eq_of_beq_eq_true h.1.1, Nat.le_of_ble_eq_true h.1.2, xr_eqb_s h.2⟩
  case istore k =>
    unfold xr_okb at h
    dsimp only at h
    simp only [Bool.and_eq_true] at h
    exact ⟨Nat.eq_of_beq_eq_true h.1.1, Nat.le_of_ble_eq_true h.1.2, xr_eqb_s h.2⟩
  case astore k =>
    unfold xr_okb at h
    dsimp only at h
    simp only [Bool.and_eq_true] at h
    exact ⟨Nat.eq_of_beq_eq_true h.1.1, Nat.le_of_ble_eq_true h.1.2, xr_eqb_s h.2⟩
  case lstore k =>
    unfold xr_okb at h
    dsimp only at h
    simp only [Bool.and_eq_true] at h
    exact ⟨Nat.eq_of_beq_eq_true h.1.1, Nat.le_of_ble_eq_true h.1.2, xr_eqb_s h.2⟩
  case istore_n k =>
    unfold xr_okb at h
    dsimp only at h
    simp only [Bool.and_eq_true] at h
    exact ⟨Nat.eq_of_beq_eq_true h.1.1, Nat.le_of_ble_eq_true h.1.2, xr_eqb_s h.2⟩
  case astore_n k =>
    unfold xr_okb at h
    dsimp only at h
    simp only [Bool.and_eq_true] at h
    exact ⟨Nat.eq_of_beq_eq_true h.1.1, Nat.le_of_ble_eq_true h.1.2, xr_eqb_s h.2⟩
  case lstore_n k =>
    unfold xr_okb at h
    dsimp only at h
    simp only [Bool.and_eq_true] at h
    exact ⟨Nat.eq_of_beq_eq_true h.1.1, Nat.le_of_ble_eq_true h.1.2, xr_eqb_s h.2⟩
  all_goals (
    unfold xr_okb at h
    dsimp only at h
    simp only [Bool.and_eq_true] at h
    exact ⟨Nat.eq_of_beq_eq_true h.1, xr_eqb_s h.2⟩)
theorem xr_fetch_m : ∀ {cd : xrC} {pc : Nat} {q : Instr × Nat}, xr_fetch cd pc = some q → (pc, q) ∈ cd
  | [], _, _, h => by cases h
  | x :: t, pc, q, h => by
    unfold xr_fetch at h
    cases hb : Nat.beq x.1 pc with
    | true =>
      rw [hb] at h
      have e := Nat.eq_of_beq_eq_true hb
      have e2 : x.2 = q := Option.some.inj h
      rw [← e, ← e2]
      exact List.mem_cons_self
    | false =>
      rw [hb] at h
      exact List.mem_cons_of_mem _ (xr_fetch_m (cd := t) h)
def xr_cdb (cp : List (Nat × Nat × Int)) (ini : Bool) (M : xrM) : Bool := (xr_cd M).all (fun q => xr_okb cp ini M q.1 q.2.1 q.2.2)
theorem xr_cdb_s {T : xrT} {GW : List Cond} {ST : List (String × Nat × String)} {AO : List String} {cp : List (Nat × Nat × Int)} {ini : Bool} {M : xrM}
    (hcp : ∀ q ∈ cp, xr_cpf T GW ST AO (xr_nm M).cls q) (hini : ini = true → (xr_nm M).name = "<init>") (harr : Cond.arrayClass .int ∈ GW ∧ Cond.arrayClass .boolean ∈ GW) (h : xr_cdb cp ini M = true) :
    ∀ (pc : Nat) (i : Instr) (n : Nat), xr_fetch (xr_cd M) pc = some (i, n) → xr_ok T GW ST AO M pc i n := by
  intro pc i n hf
  exact xr_okb_s hcp hini harr (List.all_eq_true.mp h _ (xr_fetch_m hf))
end
section
-- ===== PART A: goes FIRST, ahead of the names: the tables' words, and 'selects' of the private methods out of them =====
/-- a private method of a class that the tables say can be made, by its rows of tables_1 -/
def lw_okq (q : MethodName × Nat) : Prop := (q.1.cls ≠ "java/lang/invoke/MethodHandle" ∧ q.1.cls ≠ "java/lang/invoke/VarHandle") ∧ Cond.instantiable q.1.cls q.2 ∈ tables_1 ∧ Cond.privateMethod q.1 ∈ tables_1 ∧ Cond.instanceMethod q.1 ∈ tables_1
theorem lw_p0 : lw_okq (⟨"java/lang/Throwable", "fillInStackTrace", "(I)Ljava/lang/Throwable;"⟩, 6) := ⟨⟨by decide +kernel, by decide +kernel⟩, List.mem_of_getElem? (i := 305) (by decide +kernel), List.mem_of_getElem? (i := 303) (by decide +kernel), List.mem_of_getElem? (i := 304) (by decide +kernel)⟩
theorem lw_p1 : lw_okq (⟨"HexTemplates", "keepFile", "()I"⟩, 12) := ⟨⟨by decide +kernel, by decide +kernel⟩, List.mem_of_getElem? (i := 18) (by decide +kernel), List.mem_of_getElem? (i := 371) (by decide +kernel), List.mem_of_getElem? (i := 372) (by decide +kernel)⟩
theorem lw_p2 : lw_okq (⟨"HexTemplates", "nextTemplate", "()LHexTemplates$Template;"⟩, 12) := ⟨⟨by decide +kernel, by decide +kernel⟩, List.mem_of_getElem? (i := 18) (by decide +kernel), List.mem_of_getElem? (i := 389) (by decide +kernel), List.mem_of_getElem? (i := 390) (by decide +kernel)⟩
theorem lw_p3 : lw_okq (⟨"HexTemplates$Parser", "begin", "(LHexTemplates$Bytes;LHexTemplates$Template;)V"⟩, 6) := ⟨⟨by decide +kernel, by decide +kernel⟩, List.mem_of_getElem? (i := 46) (by decide +kernel), List.mem_of_getElem? (i := 503) (by decide +kernel), List.mem_of_getElem? (i := 504) (by decide +kernel)⟩
theorem lw_p4 : lw_okq (⟨"HexTemplates$Parser", "advance", "()V"⟩, 6) := ⟨⟨by decide +kernel, by decide +kernel⟩, List.mem_of_getElem? (i := 46) (by decide +kernel), List.mem_of_getElem? (i := 511) (by decide +kernel), List.mem_of_getElem? (i := 512) (by decide +kernel)⟩
theorem lw_p5 : lw_okq (⟨"HexTemplates$Parser", "openStructure", "(I)Z"⟩, 6) := ⟨⟨by decide +kernel, by decide +kernel⟩, List.mem_of_getElem? (i := 46) (by decide +kernel), List.mem_of_getElem? (i := 515) (by decide +kernel), List.mem_of_getElem? (i := 516) (by decide +kernel)⟩
theorem lw_p6 : lw_okq (⟨"HexTemplates$Parser", "isName", "()Z"⟩, 6) := ⟨⟨by decide +kernel, by decide +kernel⟩, List.mem_of_getElem? (i := 46) (by decide +kernel), List.mem_of_getElem? (i := 519) (by decide +kernel), List.mem_of_getElem? (i := 520) (by decide +kernel)⟩
theorem lw_p7 : lw_okq (⟨"HexTemplates$Parser", "accept", "(I)Z"⟩, 6) := ⟨⟨by decide +kernel, by decide +kernel⟩, List.mem_of_getElem? (i := 46) (by decide +kernel), List.mem_of_getElem? (i := 527) (by decide +kernel), List.mem_of_getElem? (i := 528) (by decide +kernel)⟩
theorem lw_p8 : lw_okq (⟨"HexTemplates$Parser", "parseField", "(I)Z"⟩, 6) := ⟨⟨by decide +kernel, by decide +kernel⟩, List.mem_of_getElem? (i := 46) (by decide +kernel), List.mem_of_getElem? (i := 531) (by decide +kernel), List.mem_of_getElem? (i := 532) (by decide +kernel)⟩
theorem lw_p9 : lw_okq (⟨"HexTemplates$Parser", "parseType", "(I)Z"⟩, 6) := ⟨⟨by decide +kernel, by decide +kernel⟩, List.mem_of_getElem? (i := 46) (by decide +kernel), List.mem_of_getElem? (i := 539) (by decide +kernel), List.mem_of_getElem? (i := 540) (by decide +kernel)⟩
theorem lw_p10 : lw_okq (⟨"HexTemplates$Parser", "parseNames", "(I)Z"⟩, 6) := ⟨⟨by decide +kernel, by decide +kernel⟩, List.mem_of_getElem? (i := 46) (by decide +kernel), List.mem_of_getElem? (i := 543) (by decide +kernel), List.mem_of_getElem? (i := 544) (by decide +kernel)⟩
theorem lw_p11 : lw_okq (⟨"HexTemplates$Parser", "parseChoice", "()Z"⟩, 6) := ⟨⟨by decide +kernel, by decide +kernel⟩, List.mem_of_getElem? (i := 46) (by decide +kernel), List.mem_of_getElem? (i := 547) (by decide +kernel), List.mem_of_getElem? (i := 548) (by decide +kernel)⟩
theorem lw_p12 : lw_okq (⟨"HexTemplates$Parser", "parseCount", "(I)Z"⟩, 6) := ⟨⟨by decide +kernel, by decide +kernel⟩, List.mem_of_getElem? (i := 46) (by decide +kernel), List.mem_of_getElem? (i := 555) (by decide +kernel), List.mem_of_getElem? (i := 556) (by decide +kernel)⟩
theorem lw_p13 : lw_okq (⟨"HexTemplates$Parser", "parseInt", "()I"⟩, 6) := ⟨⟨by decide +kernel, by decide +kernel⟩, List.mem_of_getElem? (i := 46) (by decide +kernel), List.mem_of_getElem? (i := 559) (by decide +kernel), List.mem_of_getElem? (i := 560) (by decide +kernel)⟩
theorem lw_p14 : lw_okq (⟨"HexTemplates$Parser", "isDigit", "()Z"⟩, 6) := ⟨⟨by decide +kernel, by decide +kernel⟩, List.mem_of_getElem? (i := 46) (by decide +kernel), List.mem_of_getElem? (i := 563) (by decide +kernel), List.mem_of_getElem? (i := 564) (by decide +kernel)⟩
theorem lw_p15 : lw_okq (⟨"HexTemplates$Parser", "parseSum", "(I)Z"⟩, 6) := ⟨⟨by decide +kernel, by decide +kernel⟩, List.mem_of_getElem? (i := 46) (by decide +kernel), List.mem_of_getElem? (i := 570) (by decide +kernel), List.mem_of_getElem? (i := 571) (by decide +kernel)⟩
def lw_privs_1 : List (MethodName × Nat) := [(⟨"java/lang/Throwable", "fillInStackTrace", "(I)Ljava/lang/Throwable;"⟩, 6), (⟨"HexTemplates", "keepFile", "()I"⟩, 12), (⟨"HexTemplates", "nextTemplate", "()LHexTemplates$Template;"⟩, 12), (⟨"HexTemplates$Parser", "begin", "(LHexTemplates$Bytes;LHexTemplates$Template;)V"⟩, 6), (⟨"HexTemplates$Parser", "advance", "()V"⟩, 6), (⟨"HexTemplates$Parser", "openStructure", "(I)Z"⟩, 6), (⟨"HexTemplates$Parser", "isName", "()Z"⟩, 6), (⟨"HexTemplates$Parser", "accept", "(I)Z"⟩, 6), (⟨"HexTemplates$Parser", "parseField", "(I)Z"⟩, 6), (⟨"HexTemplates$Parser", "parseType", "(I)Z"⟩, 6), (⟨"HexTemplates$Parser", "parseNames", "(I)Z"⟩, 6), (⟨"HexTemplates$Parser", "parseChoice", "()Z"⟩, 6), (⟨"HexTemplates$Parser", "parseCount", "(I)Z"⟩, 6), (⟨"HexTemplates$Parser", "parseInt", "()I"⟩, 6), (⟨"HexTemplates$Parser", "isDigit", "()Z"⟩, 6), (⟨"HexTemplates$Parser", "parseSum", "(I)Z"⟩, 6)]
theorem lw_r1 : ∀ q ∈ lw_privs_1, lw_okq q := List.forall_mem_cons.mpr ⟨lw_p0, List.forall_mem_cons.mpr ⟨lw_p1, List.forall_mem_cons.mpr ⟨lw_p2, List.forall_mem_cons.mpr ⟨lw_p3, List.forall_mem_cons.mpr ⟨lw_p4, List.forall_mem_cons.mpr ⟨lw_p5, List.forall_mem_cons.mpr ⟨lw_p6, List.forall_mem_cons.mpr ⟨lw_p7, List.forall_mem_cons.mpr ⟨lw_p8, List.forall_mem_cons.mpr ⟨lw_p9, List.forall_mem_cons.mpr ⟨lw_p10, List.forall_mem_cons.mpr ⟨lw_p11, List.forall_mem_cons.mpr ⟨lw_p12, List.forall_mem_cons.mpr ⟨lw_p13, List.forall_mem_cons.mpr ⟨lw_p14, List.forall_mem_cons.mpr ⟨lw_p15, fun _ h => absurd h List.not_mem_nil⟩⟩⟩⟩⟩⟩⟩⟩⟩⟩⟩⟩⟩⟩⟩⟩
theorem lw_p16 : lw_okq (⟨"HexTemplates$Parser", "parseBits", "(I)Z"⟩, 6) := ⟨⟨by decide +kernel, by decide +kernel⟩, List.mem_of_getElem? (i := 46) (by decide +kernel), List.mem_of_getElem? (i := 586) (by decide +kernel), List.mem_of_getElem? (i := 587) (by decide +kernel)⟩
theorem lw_p17 : lw_okq (⟨"HexTemplates$Parser", "parseRelation", "(I)Z"⟩, 6) := ⟨⟨by decide +kernel, by decide +kernel⟩, List.mem_of_getElem? (i := 46) (by decide +kernel), List.mem_of_getElem? (i := 590) (by decide +kernel), List.mem_of_getElem? (i := 591) (by decide +kernel)⟩
theorem lw_p18 : lw_okq (⟨"HexTemplates$Parser", "closeStructure", "()Z"⟩, 6) := ⟨⟨by decide +kernel, by decide +kernel⟩, List.mem_of_getElem? (i := 46) (by decide +kernel), List.mem_of_getElem? (i := 595) (by decide +kernel), List.mem_of_getElem? (i := 596) (by decide +kernel)⟩
theorem lw_p19 : lw_okq (⟨"HexTemplates$Parser", "resolveRelation", "(I)Z"⟩, 6) := ⟨⟨by decide +kernel, by decide +kernel⟩, List.mem_of_getElem? (i := 46) (by decide +kernel), List.mem_of_getElem? (i := 599) (by decide +kernel), List.mem_of_getElem? (i := 600) (by decide +kernel)⟩
theorem lw_p20 : lw_okq (⟨"HexTemplates$Parser", "resolveChoices", "()Z"⟩, 6) := ⟨⟨by decide +kernel, by decide +kernel⟩, List.mem_of_getElem? (i := 46) (by decide +kernel), List.mem_of_getElem? (i := 603) (by decide +kernel), List.mem_of_getElem? (i := 604) (by decide +kernel)⟩
theorem lw_p21 : lw_okq (⟨"HexTemplates", "checkNode", "(I)V"⟩, 12) := ⟨⟨by decide +kernel, by decide +kernel⟩, List.mem_of_getElem? (i := 18) (by decide +kernel), List.mem_of_getElem? (i := 626) (by decide +kernel), List.mem_of_getElem? (i := 627) (by decide +kernel)⟩
theorem lw_p22 : lw_okq (⟨"HexTemplates", "readFile", "()V"⟩, 12) := ⟨⟨by decide +kernel, by decide +kernel⟩, List.mem_of_getElem? (i := 18) (by decide +kernel), List.mem_of_getElem? (i := 630) (by decide +kernel), List.mem_of_getElem? (i := 631) (by decide +kernel)⟩
theorem lw_p23 : lw_okq (⟨"HexTemplates$Reader", "readStructure", "(IIII)Z"⟩, 11) := ⟨⟨by decide +kernel, by decide +kernel⟩, List.mem_of_getElem? (i := 96) (by decide +kernel), List.mem_of_getElem? (i := 638) (by decide +kernel), List.mem_of_getElem? (i := 639) (by decide +kernel)⟩
theorem lw_p24 : lw_okq (⟨"HexTemplates$Reader", "fail", "(II)Z"⟩, 11) := ⟨⟨by decide +kernel, by decide +kernel⟩, List.mem_of_getElem? (i := 96) (by decide +kernel), List.mem_of_getElem? (i := 642) (by decide +kernel), List.mem_of_getElem? (i := 643) (by decide +kernel)⟩
theorem lw_p25 : lw_okq (⟨"HexTemplates$Reader", "make", "(III)I"⟩, 11) := ⟨⟨by decide +kernel, by decide +kernel⟩, List.mem_of_getElem? (i := 96) (by decide +kernel), List.mem_of_getElem? (i := 646) (by decide +kernel), List.mem_of_getElem? (i := 647) (by decide +kernel)⟩
theorem lw_p26 : lw_okq (⟨"HexTemplates$Reader", "readField", "(III)Z"⟩, 11) := ⟨⟨by decide +kernel, by decide +kernel⟩, List.mem_of_getElem? (i := 96) (by decide +kernel), List.mem_of_getElem? (i := 654) (by decide +kernel), List.mem_of_getElem? (i := 655) (by decide +kernel)⟩
theorem lw_p27 : lw_okq (⟨"HexTemplates$Reader", "readNames", "(IIII)Z"⟩, 11) := ⟨⟨by decide +kernel, by decide +kernel⟩, List.mem_of_getElem? (i := 96) (by decide +kernel), List.mem_of_getElem? (i := 658) (by decide +kernel), List.mem_of_getElem? (i := 659) (by decide +kernel)⟩
theorem lw_p28 : lw_okq (⟨"HexTemplates$Reader", "goBack", "(III)V"⟩, 11) := ⟨⟨by decide +kernel, by decide +kernel⟩, List.mem_of_getElem? (i := 96) (by decide +kernel), List.mem_of_getElem? (i := 662) (by decide +kernel), List.mem_of_getElem? (i := 663) (by decide +kernel)⟩
theorem lw_p29 : lw_okq (⟨"HexTemplates$Reader", "readArray", "(III)Z"⟩, 11) := ⟨⟨by decide +kernel, by decide +kernel⟩, List.mem_of_getElem? (i := 96) (by decide +kernel), List.mem_of_getElem? (i := 666) (by decide +kernel), List.mem_of_getElem? (i := 667) (by decide +kernel)⟩
theorem lw_p30 : lw_okq (⟨"HexTemplates$Reader", "reckonSum", "(II)I"⟩, 11) := ⟨⟨by decide +kernel, by decide +kernel⟩, List.mem_of_getElem? (i := 96) (by decide +kernel), List.mem_of_getElem? (i := 670) (by decide +kernel), List.mem_of_getElem? (i := 671) (by decide +kernel)⟩
theorem lw_p31 : lw_okq (⟨"HexTemplates$Reader", "readWhileFine", "(III)I"⟩, 11) := ⟨⟨by decide +kernel, by decide +kernel⟩, List.mem_of_getElem? (i := 96) (by decide +kernel), List.mem_of_getElem? (i := 682) (by decide +kernel), List.mem_of_getElem? (i := 683) (by decide +kernel)⟩
def lw_privs_2 : List (MethodName × Nat) := [(⟨"HexTemplates$Parser", "parseBits", "(I)Z"⟩, 6), (⟨"HexTemplates$Parser", "parseRelation", "(I)Z"⟩, 6), (⟨"HexTemplates$Parser", "closeStructure", "()Z"⟩, 6), (⟨"HexTemplates$Parser", "resolveRelation", "(I)Z"⟩, 6), (⟨"HexTemplates$Parser", "resolveChoices", "()Z"⟩, 6), (⟨"HexTemplates", "checkNode", "(I)V"⟩, 12), (⟨"HexTemplates", "readFile", "()V"⟩, 12), (⟨"HexTemplates$Reader", "readStructure", "(IIII)Z"⟩, 11), (⟨"HexTemplates$Reader", "fail", "(II)Z"⟩, 11), (⟨"HexTemplates$Reader", "make", "(III)I"⟩, 11), (⟨"HexTemplates$Reader", "readField", "(III)Z"⟩, 11), (⟨"HexTemplates$Reader", "readNames", "(IIII)Z"⟩, 11), (⟨"HexTemplates$Reader", "goBack", "(III)V"⟩, 11), (⟨"HexTemplates$Reader", "readArray", "(III)Z"⟩, 11), (⟨"HexTemplates$Reader", "reckonSum", "(II)I"⟩, 11), (⟨"HexTemplates$Reader", "readWhileFine", "(III)I"⟩, 11)]
theorem lw_r2 : ∀ q ∈ lw_privs_2, lw_okq q := List.forall_mem_cons.mpr ⟨lw_p16, List.forall_mem_cons.mpr ⟨lw_p17, List.forall_mem_cons.mpr ⟨lw_p18, List.forall_mem_cons.mpr ⟨lw_p19, List.forall_mem_cons.mpr ⟨lw_p20, List.forall_mem_cons.mpr ⟨lw_p21, List.forall_mem_cons.mpr ⟨lw_p22, List.forall_mem_cons.mpr ⟨lw_p23, List.forall_mem_cons.mpr ⟨lw_p24, List.forall_mem_cons.mpr ⟨lw_p25, List.forall_mem_cons.mpr ⟨lw_p26, List.forall_mem_cons.mpr ⟨lw_p27, List.forall_mem_cons.mpr ⟨lw_p28, List.forall_mem_cons.mpr ⟨lw_p29, List.forall_mem_cons.mpr ⟨lw_p30, List.forall_mem_cons.mpr ⟨lw_p31, fun _ h => absurd h List.not_mem_nil⟩⟩⟩⟩⟩⟩⟩⟩⟩⟩⟩⟩⟩⟩⟩⟩
theorem lw_p32 : lw_okq (⟨"HexTemplates$Reader", "readToEnd", "(III)I"⟩, 11) := ⟨⟨by decide +kernel, by decide +kernel⟩, List.mem_of_getElem? (i := 96) (by decide +kernel), List.mem_of_getElem? (i := 686) (by decide +kernel), List.mem_of_getElem? (i := 687) (by decide +kernel)⟩
theorem lw_p33 : lw_okq (⟨"HexTemplates$Reader", "readCounted", "(IIII)Z"⟩, 11) := ⟨⟨by decide +kernel, by decide +kernel⟩, List.mem_of_getElem? (i := 96) (by decide +kernel), List.mem_of_getElem? (i := 691) (by decide +kernel), List.mem_of_getElem? (i := 692) (by decide +kernel)⟩
theorem lw_p34 : lw_okq (⟨"HexTemplates$Reader", "readPlain", "(III)Z"⟩, 11) := ⟨⟨by decide +kernel, by decide +kernel⟩, List.mem_of_getElem? (i := 96) (by decide +kernel), List.mem_of_getElem? (i := 703) (by decide +kernel), List.mem_of_getElem? (i := 704) (by decide +kernel)⟩
theorem lw_p35 : lw_okq (⟨"HexTemplates$Reader", "measureCounted", "(II)Z"⟩, 11) := ⟨⟨by decide +kernel, by decide +kernel⟩, List.mem_of_getElem? (i := 96) (by decide +kernel), List.mem_of_getElem? (i := 711) (by decide +kernel), List.mem_of_getElem? (i := 712) (by decide +kernel)⟩
theorem lw_p36 : lw_okq (⟨"HexTemplates$Reader", "measureEnded", "(I)Z"⟩, 11) := ⟨⟨by decide +kernel, by decide +kernel⟩, List.mem_of_getElem? (i := 96) (by decide +kernel), List.mem_of_getElem? (i := 715) (by decide +kernel), List.mem_of_getElem? (i := 716) (by decide +kernel)⟩
theorem lw_p37 : lw_okq (⟨"HexTemplates$Reader", "measureBits", "(II)Z"⟩, 11) := ⟨⟨by decide +kernel, by decide +kernel⟩, List.mem_of_getElem? (i := 96) (by decide +kernel), List.mem_of_getElem? (i := 719) (by decide +kernel), List.mem_of_getElem? (i := 720) (by decide +kernel)⟩
theorem lw_p38 : lw_okq (⟨"HexTemplates$Reader", "cut", "(II)I"⟩, 11) := ⟨⟨by decide +kernel, by decide +kernel⟩, List.mem_of_getElem? (i := 96) (by decide +kernel), List.mem_of_getElem? (i := 723) (by decide +kernel), List.mem_of_getElem? (i := 724) (by decide +kernel)⟩
theorem lw_p39 : lw_okq (⟨"HexTemplates$Reader", "measureNumber", "(II)Z"⟩, 11) := ⟨⟨by decide +kernel, by decide +kernel⟩, List.mem_of_getElem? (i := 96) (by decide +kernel), List.mem_of_getElem? (i := 727) (by decide +kernel), List.mem_of_getElem? (i := 728) (by decide +kernel)⟩
theorem lw_p40 : lw_okq (⟨"HexTemplates$Reader", "countWrongIn", "(II)V"⟩, 11) := ⟨⟨by decide +kernel, by decide +kernel⟩, List.mem_of_getElem? (i := 96) (by decide +kernel), List.mem_of_getElem? (i := 731) (by decide +kernel), List.mem_of_getElem? (i := 732) (by decide +kernel)⟩
theorem lw_p41 : lw_okq (⟨"HexTemplates$Reader", "reckon", "(IIII)I"⟩, 11) := ⟨⟨by decide +kernel, by decide +kernel⟩, List.mem_of_getElem? (i := 96) (by decide +kernel), List.mem_of_getElem? (i := 735) (by decide +kernel), List.mem_of_getElem? (i := 736) (by decide +kernel)⟩
theorem lw_p42 : lw_okq (⟨"HexTemplates", "chosenTemplate", "()LHexTemplates$Template;"⟩, 12) := ⟨⟨by decide +kernel, by decide +kernel⟩, List.mem_of_getElem? (i := 18) (by decide +kernel), List.mem_of_getElem? (i := 739) (by decide +kernel), List.mem_of_getElem? (i := 740) (by decide +kernel)⟩
theorem lw_p43 : lw_okq (⟨"HexTemplates", "checkPlace", "(II)V"⟩, 12) := ⟨⟨by decide +kernel, by decide +kernel⟩, List.mem_of_getElem? (i := 18) (by decide +kernel), List.mem_of_getElem? (i := 774) (by decide +kernel), List.mem_of_getElem? (i := 775) (by decide +kernel)⟩
theorem lw_p44 : lw_okq (⟨"HexTemplates$Editor", "tellNewLengths", "(LHexTemplates$Reader;III)V"⟩, 2) := ⟨⟨by decide +kernel, by decide +kernel⟩, List.mem_of_getElem? (i := 193) (by decide +kernel), List.mem_of_getElem? (i := 808) (by decide +kernel), List.mem_of_getElem? (i := 809) (by decide +kernel)⟩
theorem lw_p45 : lw_okq (⟨"HexTemplates", "checkEdit", "(Z)V"⟩, 12) := ⟨⟨by decide +kernel, by decide +kernel⟩, List.mem_of_getElem? (i := 18) (by decide +kernel), List.mem_of_getElem? (i := 834) (by decide +kernel), List.mem_of_getElem? (i := 835) (by decide +kernel)⟩
theorem lw_p46 : lw_okq (⟨"HexTemplates", "finishEdit", "()I"⟩, 12) := ⟨⟨by decide +kernel, by decide +kernel⟩, List.mem_of_getElem? (i := 18) (by decide +kernel), List.mem_of_getElem? (i := 839) (by decide +kernel), List.mem_of_getElem? (i := 840) (by decide +kernel)⟩
theorem lw_p47 : lw_okq (⟨"HexTemplates$Editor", "mendCounts", "(LHexTemplates$Reader;)I"⟩, 2) := ⟨⟨by decide +kernel, by decide +kernel⟩, List.mem_of_getElem? (i := 193) (by decide +kernel), List.mem_of_getElem? (i := 848) (by decide +kernel), List.mem_of_getElem? (i := 849) (by decide +kernel)⟩
def lw_privs_3 : List (MethodName × Nat) := [(⟨"HexTemplates$Reader", "readToEnd", "(III)I"⟩, 11), (⟨"HexTemplates$Reader", "readCounted", "(IIII)Z"⟩, 11), (⟨"HexTemplates$Reader", "readPlain", "(III)Z"⟩, 11), (⟨"HexTemplates$Reader", "measureCounted", "(II)Z"⟩, 11), (⟨"HexTemplates$Reader", "measureEnded", "(I)Z"⟩, 11), (⟨"HexTemplates$Reader", "measureBits", "(II)Z"⟩, 11), (⟨"HexTemplates$Reader", "cut", "(II)I"⟩, 11), (⟨"HexTemplates$Reader", "measureNumber", "(II)Z"⟩, 11), (⟨"HexTemplates$Reader", "countWrongIn", "(II)V"⟩, 11), (⟨"HexTemplates$Reader", "reckon", "(IIII)I"⟩, 11), (⟨"HexTemplates", "chosenTemplate", "()LHexTemplates$Template;"⟩, 12), (⟨"HexTemplates", "checkPlace", "(II)V"⟩, 12), (⟨"HexTemplates$Editor", "tellNewLengths", "(LHexTemplates$Reader;III)V"⟩, 2), (⟨"HexTemplates", "checkEdit", "(Z)V"⟩, 12), (⟨"HexTemplates", "finishEdit", "()I"⟩, 12), (⟨"HexTemplates$Editor", "mendCounts", "(LHexTemplates$Reader;)I"⟩, 2)]
theorem lw_r3 : ∀ q ∈ lw_privs_3, lw_okq q := List.forall_mem_cons.mpr ⟨lw_p32, List.forall_mem_cons.mpr ⟨lw_p33, List.forall_mem_cons.mpr ⟨lw_p34, List.forall_mem_cons.mpr ⟨lw_p35, List.forall_mem_cons.mpr ⟨lw_p36, List.forall_mem_cons.mpr ⟨lw_p37, List.forall_mem_cons.mpr ⟨lw_p38, List.forall_mem_cons.mpr ⟨lw_p39, List.forall_mem_cons.mpr ⟨lw_p40, List.forall_mem_cons.mpr ⟨lw_p41, List.forall_mem_cons.mpr ⟨lw_p42, List.forall_mem_cons.mpr ⟨lw_p43, List.forall_mem_cons.mpr ⟨lw_p44, List.forall_mem_cons.mpr ⟨lw_p45, List.forall_mem_cons.mpr ⟨lw_p46, List.forall_mem_cons.mpr ⟨lw_p47, fun _ h => absurd h List.not_mem_nil⟩⟩⟩⟩⟩⟩⟩⟩⟩⟩⟩⟩⟩⟩⟩⟩
theorem lw_p48 : lw_okq (⟨"HexTemplates$Editor", "firstReady", "(LHexTemplates$Reader;)I"⟩, 2) := ⟨⟨by decide +kernel, by decide +kernel⟩, List.mem_of_getElem? (i := 193) (by decide +kernel), List.mem_of_getElem? (i := 861) (by decide +kernel), List.mem_of_getElem? (i := 862) (by decide +kernel)⟩
theorem lw_p49 : lw_okq (⟨"HexTemplates$Editor", "hasLeftIn", "(LHexTemplates$Nodes;I)Z"⟩, 2) := ⟨⟨by decide +kernel, by decide +kernel⟩, List.mem_of_getElem? (i := 193) (by decide +kernel), List.mem_of_getElem? (i := 865) (by decide +kernel), List.mem_of_getElem? (i := 866) (by decide +kernel)⟩
theorem lw_p50 : lw_okq (⟨"HexTemplates", "isFree", "(I)Z"⟩, 12) := ⟨⟨by decide +kernel, by decide +kernel⟩, List.mem_of_getElem? (i := 18) (by decide +kernel), List.mem_of_getElem? (i := 911) (by decide +kernel), List.mem_of_getElem? (i := 912) (by decide +kernel)⟩
theorem lw_p51 : lw_okq (⟨"HexTemplates", "checkReference", "(I)V"⟩, 12) := ⟨⟨by decide +kernel, by decide +kernel⟩, List.mem_of_getElem? (i := 18) (by decide +kernel), List.mem_of_getElem? (i := 994) (by decide +kernel), List.mem_of_getElem? (i := 995) (by decide +kernel)⟩
theorem lw_p52 : lw_okq (⟨"HexTemplates", "forgetVisits", "()V"⟩, 12) := ⟨⟨by decide +kernel, by decide +kernel⟩, List.mem_of_getElem? (i := 18) (by decide +kernel), List.mem_of_getElem? (i := 1007) (by decide +kernel), List.mem_of_getElem? (i := 1008) (by decide +kernel)⟩
theorem lw_p53 : lw_okq (⟨"HexTemplates", "isVisited", "(II)Z"⟩, 12) := ⟨⟨by decide +kernel, by decide +kernel⟩, List.mem_of_getElem? (i := 18) (by decide +kernel), List.mem_of_getElem? (i := 1011) (by decide +kernel), List.mem_of_getElem? (i := 1012) (by decide +kernel)⟩
def lw_privs_4 : List (MethodName × Nat) := [(⟨"HexTemplates$Editor", "firstReady", "(LHexTemplates$Reader;)I"⟩, 2), (⟨"HexTemplates$Editor", "hasLeftIn", "(LHexTemplates$Nodes;I)Z"⟩, 2), (⟨"HexTemplates", "isFree", "(I)Z"⟩, 12), (⟨"HexTemplates", "checkReference", "(I)V"⟩, 12), (⟨"HexTemplates", "forgetVisits", "()V"⟩, 12), (⟨"HexTemplates", "isVisited", "(II)Z"⟩, 12)]
theorem lw_r4 : ∀ q ∈ lw_privs_4, lw_okq q := List.forall_mem_cons.mpr ⟨lw_p48, List.forall_mem_cons.mpr ⟨lw_p49, List.forall_mem_cons.mpr ⟨lw_p50, List.forall_mem_cons.mpr ⟨lw_p51, List.forall_mem_cons.mpr ⟨lw_p52, List.forall_mem_cons.mpr ⟨lw_p53, fun _ h => absurd h List.not_mem_nil⟩⟩⟩⟩⟩⟩
def lw_privs : List (MethodName × Nat) := lw_privs_1 ++ (lw_privs_2 ++ (lw_privs_3 ++ (lw_privs_4)))
def lw_tbl : List Cond := k2_sels lw_privs ++ tables_1
theorem lw_privs_ok : ∀ q ∈ lw_privs, lw_okq q := by
  show ∀ q ∈ lw_privs_1 ++ (lw_privs_2 ++ (lw_privs_3 ++ (lw_privs_4))), lw_okq q
  exact List.forall_mem_append.mpr ⟨lw_r1, List.forall_mem_append.mpr ⟨lw_r2, List.forall_mem_append.mpr ⟨lw_r3, lw_r4⟩⟩⟩
end
section
/-! the classes (printed by the claim, NAMES): names, fields, types -/
def RX0 : String := "HexTemplates$Bytes"
def TX0 : u_T := fun k => match k with
  | 0 => ("HexTemplates$Bytes", "cells", "[I", true)
  | _ => ("HexTemplates$Bytes", "length", "I", false)
def tyX0 : Nat → FieldType := fun k => match k with
  | 0 => .array .int
  | _ => .int
abbrev wsX00 : List Cond := u_ws RX0 TX0 2
theorem nmX0 : ∀ a, a < 2 → ∀ b, b < 2 → a ≠ b → (TX0 a).2.1 ≠ (TX0 b).2.1 := by decide +kernel
theorem tyX0_ok : ∀ k, k < 2 → parseFieldDescriptor (TX0 k).2.2.1 = some (tyX0 k) := by decide +kernel
def RX1 : String := "HexTemplates$Editor"
def TX1 : u_T := fun k => match k with
  | 0 => ("HexTemplates$Editor", "work", "LHexTemplates$Bytes;", true)
  | _ => ("HexTemplates$Editor", "isLeft", "[Z", true)
def tyX1 : Nat → FieldType := fun k => match k with
  | 0 => .object "HexTemplates$Bytes"
  | _ => .array .boolean
abbrev wsX10 : List Cond := u_ws RX1 TX1 2
theorem nmX1 : ∀ a, a < 2 → ∀ b, b < 2 → a ≠ b → (TX1 a).2.1 ≠ (TX1 b).2.1 := by decide +kernel
theorem tyX1_ok : ∀ k, k < 2 → parseFieldDescriptor (TX1 k).2.2.1 = some (tyX1 k) := by decide +kernel
def RX2 : String := "HexTemplates$Hunk"
def TX2 : u_T := fun k => match k with
  | 0 => ("HexTemplates$Hunk", "offset", "I", false)
  | 1 => ("HexTemplates$Hunk", "taken", "I", false)
  | _ => ("HexTemplates$Hunk", "put", "I", false)
def tyX2 : Nat → FieldType := fun k => match k with
  | 0 => .int
  | 1 => .int
  | _ => .int
abbrev wsX20 : List Cond := u_ws RX2 TX2 3
theorem nmX2 : ∀ a, a < 3 → ∀ b, b < 3 → a ≠ b → (TX2 a).2.1 ≠ (TX2 b).2.1 := by decide +kernel
theorem tyX2_ok : ∀ k, k < 3 → parseFieldDescriptor (TX2 k).2.2.1 = some (tyX2 k) := by decide +kernel
def RX3 : String := "HexTemplates$Nodes"
def TX3 : u_T := fun k => match k with
  | 0 => ("HexTemplates$Nodes", "kind", "[I", true)
  | 1 => ("HexTemplates$Nodes", "name", "[I", true)
  | 2 => ("HexTemplates$Nodes", "offset", "[I", true)
  | 3 => ("HexTemplates$Nodes", "length", "[I", true)
  | 4 => ("HexTemplates$Nodes", "value", "[I", true)
  | 5 => ("HexTemplates$Nodes", "parent", "[I", true)
  | 6 => ("HexTemplates$Nodes", "field", "[I", true)
  | _ => ("HexTemplates$Nodes", "count", "I", false)
def tyX3 : Nat → FieldType := fun k => match k with
  | 0 => .array .int
  | 1 => .array .int
  | 2 => .array .int
  | 3 => .array .int
  | 4 => .array .int
  | 5 => .array .int
  | 6 => .array .int
  | _ => .int
abbrev wsX30 : List Cond := u_ws RX3 TX3 8
theorem nmX3 : ∀ a, a < 8 → ∀ b, b < 8 → a ≠ b → (TX3 a).2.1 ≠ (TX3 b).2.1 := by decide +kernel
theorem tyX3_ok : ∀ k, k < 8 → parseFieldDescriptor (TX3 k).2.2.1 = some (tyX3 k) := by decide +kernel
def RX4 : String := "HexTemplates$Parser"
def TX4 : u_T := fun k => match k with
  | 0 => ("HexTemplates$Parser", "text", "LHexTemplates$Bytes;", false)
  | 1 => ("HexTemplates$Parser", "into", "LHexTemplates$Template;", false)
  | 2 => ("HexTemplates$Parser", "at", "I", false)
  | 3 => ("HexTemplates$Parser", "sign", "I", false)
  | 4 => ("HexTemplates$Parser", "structure", "I", false)
  | _ => ("HexTemplates$Parser", "bitsTaken", "I", false)
def tyX4 : Nat → FieldType := fun k => match k with
  | 0 => .object "HexTemplates$Bytes"
  | 1 => .object "HexTemplates$Template"
  | 2 => .int
  | 3 => .int
  | 4 => .int
  | _ => .int
abbrev wsX40 : List Cond := u_ws RX4 TX4 6
theorem nmX4 : ∀ a, a < 6 → ∀ b, b < 6 → a ≠ b → (TX4 a).2.1 ≠ (TX4 b).2.1 := by decide +kernel
theorem tyX4_ok : ∀ k, k < 6 → parseFieldDescriptor (TX4 k).2.2.1 = some (tyX4 k) := by decide +kernel
def RX5 : String := "HexTemplates$Reader"
def TX5 : u_T := fun k => match k with
  | 0 => ("HexTemplates$Reader", "table", "LHexTemplates$Nodes;", true)
  | 1 => ("HexTemplates$Reader", "template", "LHexTemplates$Template;", false)
  | 2 => ("HexTemplates$Reader", "file", "LHexTemplates$Bytes;", false)
  | 3 => ("HexTemplates$Reader", "at", "I", false)
  | 4 => ("HexTemplates$Reader", "made", "I", false)
  | 5 => ("HexTemplates$Reader", "fault", "I", false)
  | 6 => ("HexTemplates$Reader", "faultAt", "I", false)
  | 7 => ("HexTemplates$Reader", "wrongs", "I", false)
  | 8 => ("HexTemplates$Reader", "starts", "[I", true)
  | 9 => ("HexTemplates$Reader", "lengths", "[I", true)
  | _ => ("HexTemplates$Reader", "values", "[I", true)
def tyX5 : Nat → FieldType := fun k => match k with
  | 0 => .object "HexTemplates$Nodes"
  | 1 => .object "HexTemplates$Template"
  | 2 => .object "HexTemplates$Bytes"
  | 3 => .int
  | 4 => .int
  | 5 => .int
  | 6 => .int
  | 7 => .int
  | 8 => .array .int
  | 9 => .array .int
  | _ => .array .int
abbrev wsX50 : List Cond := u_ws RX5 TX5 11
theorem nmX5 : ∀ a, a < 11 → ∀ b, b < 11 → a ≠ b → (TX5 a).2.1 ≠ (TX5 b).2.1 := by decide +kernel
theorem tyX5_ok : ∀ k, k < 11 → parseFieldDescriptor (TX5 k).2.2.1 = some (tyX5 k) := by decide +kernel
def RX6 : String := "HexTemplates$States"
def TX6 : u_T := fun k => match k with
  | 0 => ("HexTemplates$States", "cells", "[I", true)
  | 1 => ("HexTemplates$States", "sizes", "[I", true)
  | 2 => ("HexTemplates$States", "parents", "[I", true)
  | 3 => ("HexTemplates$States", "count", "I", false)
  | _ => ("HexTemplates$States", "present", "I", false)
def tyX6 : Nat → FieldType := fun k => match k with
  | 0 => .array .int
  | 1 => .array .int
  | 2 => .array .int
  | 3 => .int
  | _ => .int
abbrev wsX60 : List Cond := u_ws RX6 TX6 5
theorem nmX6 : ∀ a, a < 5 → ∀ b, b < 5 → a ≠ b → (TX6 a).2.1 ≠ (TX6 b).2.1 := by decide +kernel
theorem tyX6_ok : ∀ k, k < 5 → parseFieldDescriptor (TX6 k).2.2.1 = some (tyX6 k) := by decide +kernel
def RX7 : String := "HexTemplates$Template"
def TX7 : u_T := fun k => match k with
  | 0 => ("HexTemplates$Template", "rank", "I", false)
  | 1 => ("HexTemplates$Template", "structureCount", "I", false)
  | 2 => ("HexTemplates$Template", "termCount", "I", false)
  | 3 => ("HexTemplates$Template", "choiceCount", "I", false)
  | 4 => ("HexTemplates$Template", "structureName", "[I", true)
  | 5 => ("HexTemplates$Template", "fieldCount", "[I", true)
  | 6 => ("HexTemplates$Template", "terms", "[I", true)
  | 7 => ("HexTemplates$Template", "termSign", "[I", true)
  | 8 => ("HexTemplates$Template", "choices", "[I", true)
  | 9 => ("HexTemplates$Template", "name", "[I", true)
  | 10 => ("HexTemplates$Template", "type", "[I", true)
  | 11 => ("HexTemplates$Template", "bits", "[I", true)
  | 12 => ("HexTemplates$Template", "shift", "[I", true)
  | 13 => ("HexTemplates$Template", "sumFrom", "[I", true)
  | 14 => ("HexTemplates$Template", "sumTo", "[I", true)
  | 15 => ("HexTemplates$Template", "choiceFrom", "[I", true)
  | 16 => ("HexTemplates$Template", "choiceTo", "[I", true)
  | 17 => ("HexTemplates$Template", "way", "[I", true)
  | 18 => ("HexTemplates$Template", "end", "[I", true)
  | 19 => ("HexTemplates$Template", "relation", "[I", true)
  | _ => ("HexTemplates$Template", "argument", "[I", true)
def tyX7 : Nat → FieldType := fun k => match k with
  | 0 => .int
  | 1 => .int
  | 2 => .int
  | 3 => .int
  | 4 => .array .int
  | 5 => .array .int
  | 6 => .array .int
  | 7 => .array .int
  | 8 => .array .int
  | 9 => .array .int
  | 10 => .array .int
  | 11 => .array .int
  | 12 => .array .int
  | 13 => .array .int
  | 14 => .array .int
  | 15 => .array .int
  | 16 => .array .int
  | 17 => .array .int
  | 18 => .array .int
  | 19 => .array .int
  | _ => .array .int
abbrev wsX70 : List Cond := u_ws RX7 TX7 21
theorem nmX7 : ∀ a, a < 21 → ∀ b, b < 21 → a ≠ b → (TX7 a).2.1 ≠ (TX7 b).2.1 := by decide +kernel
theorem tyX7_ok : ∀ k, k < 21 → parseFieldDescriptor (TX7 k).2.2.1 = some (tyX7 k) := by decide +kernel
def RX8 : String := "HexTemplates"
def TX8 : u_T := fun k => match k with
  | 0 => ("HexTemplates", "tape", "LHexTemplates$Bytes;", true)
  | 1 => ("HexTemplates", "file", "LHexTemplates$Bytes;", true)
  | 2 => ("HexTemplates", "parser", "LHexTemplates$Parser;", true)
  | 3 => ("HexTemplates", "templates", "[LHexTemplates$Template;", true)
  | 4 => ("HexTemplates", "states", "LHexTemplates$States;", true)
  | 5 => ("HexTemplates", "reader", "LHexTemplates$Reader;", true)
  | 6 => ("HexTemplates", "trial", "LHexTemplates$Reader;", true)
  | 7 => ("HexTemplates", "editor", "LHexTemplates$Editor;", true)
  | 8 => ("HexTemplates", "change", "LHexTemplates$Hunk;", true)
  | 9 => ("HexTemplates", "visited", "[Z", true)
  | 10 => ("HexTemplates", "templateCount", "I", false)
  | _ => ("HexTemplates", "chosenNumber", "I", false)
def tyX8 : Nat → FieldType := fun k => match k with
  | 0 => .object "HexTemplates$Bytes"
  | 1 => .object "HexTemplates$Bytes"
  | 2 => .object "HexTemplates$Parser"
  | 3 => .array (.object "HexTemplates$Template")
  | 4 => .object "HexTemplates$States"
  | 5 => .object "HexTemplates$Reader"
  | 6 => .object "HexTemplates$Reader"
  | 7 => .object "HexTemplates$Editor"
  | 8 => .object "HexTemplates$Hunk"
  | 9 => .array .boolean
  | 10 => .int
  | _ => .int
abbrev wsX80 : List Cond := u_ws RX8 TX8 12
theorem nmX8 : ∀ a, a < 12 → ∀ b, b < 12 → a ≠ b → (TX8 a).2.1 ≠ (TX8 b).2.1 := by decide +kernel
theorem tyX8_ok : ∀ k, k < 12 → parseFieldDescriptor (TX8 k).2.2.1 = some (tyX8 k) := by decide +kernel
def xt_cl : List vw_C := [(RX0, TX0, 2), (RX1, TX1, 2), (RX2, TX2, 3), (RX3, TX3, 8), (RX4, TX4, 6), (RX5, TX5, 11), (RX6, TX6, 5), (RX7, TX7, 21), (RX8, TX8, 12)]
def xt_dX0 : List Value := [.null, .int 0]
def xt_dX1 : List Value := [.null, .null]
def xt_dX2 : List Value := [.int 0, .int 0, .int 0]
def xt_dX3 : List Value := [.null, .null, .null, .null, .null, .null, .null, .int 0]
def xt_dX4 : List Value := [.null, .null, .int 0, .int 0, .int 0, .int 0]
def xt_dX5 : List Value := [.null, .null, .null, .int 0, .int 0, .int 0, .int 0, .int 0, .null, .null, .null]
def xt_dX6 : List Value := [.null, .null, .null, .int 0, .int 0]
def xt_dX7 : List Value := [.int 0, .int 0, .int 0, .int 0, .null, .null, .null, .null, .null, .null, .null, .null, .null, .null, .null, .null, .null, .null, .null, .null, .null]
def xt_dX8 : List Value := [.null, .null, .null, .null, .null, .null, .null, .null, .null, .null, .int 0, .int 0]
def xt_df (c : Nat) : List Value := match c with
  | 0 => xt_dX0
  | 1 => xt_dX1
  | 2 => xt_dX2
  | 3 => xt_dX3
  | 4 => xt_dX4
  | 5 => xt_dX5
  | 6 => xt_dX6
  | 7 => xt_dX7
  | 8 => xt_dX8
  | _ => []
end
section
/-! the words that are used, with their places in the tables (checked by tens: forty at once want more than 7 GB) -/
theorem xt_cut {l : List Cond} {ps : List Nat} (n : Nat) (a : l.take n = (ps.take n).filterMap (fun i => lw_tbl[i]?)) (b : l.drop n = (ps.drop n).filterMap (fun i => lw_tbl[i]?)) : l = ps.filterMap (fun i => lw_tbl[i]?) := by
  rw [← List.take_append_drop n l, a, b, ← List.filterMap_append, List.take_append_drop]
def xt_g0 : List Cond := [(Jvm.Cond.selects "HexTemplates" (⟨"HexTemplates", "keepFile", "()I"⟩ : MethodName) (⟨"HexTemplates", "keepFile", "()I"⟩ : MethodName)),
  (Jvm.Cond.selects "HexTemplates" (⟨"HexTemplates", "nextTemplate", "()LHexTemplates$Template;"⟩ : MethodName) (⟨"HexTemplates", "nextTemplate", "()LHexTemplates$Template;"⟩ : MethodName)),
  (Jvm.Cond.selects "HexTemplates$Parser" (⟨"HexTemplates$Parser", "begin", "(LHexTemplates$Bytes;LHexTemplates$Template;)V"⟩ : MethodName) (⟨"HexTemplates$Parser", "begin", "(LHexTemplates$Bytes;LHexTemplates$Template;)V"⟩ : MethodName)),
  (Jvm.Cond.selects "HexTemplates$Parser" (⟨"HexTemplates$Parser", "advance", "()V"⟩ : MethodName) (⟨"HexTemplates$Parser", "advance", "()V"⟩ : MethodName)),
  (Jvm.Cond.selects "HexTemplates$Parser" (⟨"HexTemplates$Parser", "openStructure", "(I)Z"⟩ : MethodName) (⟨"HexTemplates$Parser", "openStructure", "(I)Z"⟩ : MethodName)),
  (Jvm.Cond.selects "HexTemplates$Parser" (⟨"HexTemplates$Parser", "isName", "()Z"⟩ : MethodName) (⟨"HexTemplates$Parser", "isName", "()Z"⟩ : MethodName)),
  (Jvm.Cond.selects "HexTemplates$Parser" (⟨"HexTemplates$Parser", "accept", "(I)Z"⟩ : MethodName) (⟨"HexTemplates$Parser", "accept", "(I)Z"⟩ : MethodName)),
  (Jvm.Cond.selects "HexTemplates$Parser" (⟨"HexTemplates$Parser", "parseField", "(I)Z"⟩ : MethodName) (⟨"HexTemplates$Parser", "parseField", "(I)Z"⟩ : MethodName)),
  (Jvm.Cond.selects "HexTemplates$Parser" (⟨"HexTemplates$Parser", "parseType", "(I)Z"⟩ : MethodName) (⟨"HexTemplates$Parser", "parseType", "(I)Z"⟩ : MethodName)),
  (Jvm.Cond.selects "HexTemplates$Parser" (⟨"HexTemplates$Parser", "parseNames", "(I)Z"⟩ : MethodName) (⟨"HexTemplates$Parser", "parseNames", "(I)Z"⟩ : MethodName)),
  (Jvm.Cond.selects "HexTemplates$Parser" (⟨"HexTemplates$Parser", "parseChoice", "()Z"⟩ : MethodName) (⟨"HexTemplates$Parser", "parseChoice", "()Z"⟩ : MethodName)),
  (Jvm.Cond.selects "HexTemplates$Parser" (⟨"HexTemplates$Parser", "parseCount", "(I)Z"⟩ : MethodName) (⟨"HexTemplates$Parser", "parseCount", "(I)Z"⟩ : MethodName)),
  (Jvm.Cond.selects "HexTemplates$Parser" (⟨"HexTemplates$Parser", "parseInt", "()I"⟩ : MethodName) (⟨"HexTemplates$Parser", "parseInt", "()I"⟩ : MethodName)),
  (Jvm.Cond.selects "HexTemplates$Parser" (⟨"HexTemplates$Parser", "isDigit", "()Z"⟩ : MethodName) (⟨"HexTemplates$Parser", "isDigit", "()Z"⟩ : MethodName)),
  (Jvm.Cond.selects "HexTemplates$Parser" (⟨"HexTemplates$Parser", "parseSum", "(I)Z"⟩ : MethodName) (⟨"HexTemplates$Parser", "parseSum", "(I)Z"⟩ : MethodName)),
  (Jvm.Cond.selects "HexTemplates$Parser" (⟨"HexTemplates$Parser", "parseBits", "(I)Z"⟩ : MethodName) (⟨"HexTemplates$Parser", "parseBits", "(I)Z"⟩ : MethodName)),
  (Jvm.Cond.selects "HexTemplates$Parser" (⟨"HexTemplates$Parser", "parseRelation", "(I)Z"⟩ : MethodName) (⟨"HexTemplates$Parser", "parseRelation", "(I)Z"⟩ : MethodName)),
  (Jvm.Cond.selects "HexTemplates$Parser" (⟨"HexTemplates$Parser", "closeStructure", "()Z"⟩ : MethodName) (⟨"HexTemplates$Parser", "closeStructure", "()Z"⟩ : MethodName)),
  (Jvm.Cond.selects "HexTemplates$Parser" (⟨"HexTemplates$Parser", "resolveRelation", "(I)Z"⟩ : MethodName) (⟨"HexTemplates$Parser", "resolveRelation", "(I)Z"⟩ : MethodName)),
  (Jvm.Cond.selects "HexTemplates$Parser" (⟨"HexTemplates$Parser", "resolveChoices", "()Z"⟩ : MethodName) (⟨"HexTemplates$Parser", "resolveChoices", "()Z"⟩ : MethodName)),
  (Jvm.Cond.selects "HexTemplates" (⟨"HexTemplates", "checkNode", "(I)V"⟩ : MethodName) (⟨"HexTemplates", "checkNode", "(I)V"⟩ : MethodName)),
  (Jvm.Cond.selects "HexTemplates" (⟨"HexTemplates", "readFile", "()V"⟩ : MethodName) (⟨"HexTemplates", "readFile", "()V"⟩ : MethodName)),
  (Jvm.Cond.selects "HexTemplates$Reader" (⟨"HexTemplates$Reader", "readStructure", "(IIII)Z"⟩ : MethodName) (⟨"HexTemplates$Reader", "readStructure", "(IIII)Z"⟩ : MethodName)),
  (Jvm.Cond.selects "HexTemplates$Reader" (⟨"HexTemplates$Reader", "fail", "(II)Z"⟩ : MethodName) (⟨"HexTemplates$Reader", "fail", "(II)Z"⟩ : MethodName)),
  (Jvm.Cond.selects "HexTemplates$Reader" (⟨"HexTemplates$Reader", "make", "(III)I"⟩ : MethodName) (⟨"HexTemplates$Reader", "make", "(III)I"⟩ : MethodName)),
  (Jvm.Cond.selects "HexTemplates$Reader" (⟨"HexTemplates$Reader", "readField", "(III)Z"⟩ : MethodName) (⟨"HexTemplates$Reader", "readField", "(III)Z"⟩ : MethodName)),
  (Jvm.Cond.selects "HexTemplates$Reader" (⟨"HexTemplates$Reader", "readNames", "(IIII)Z"⟩ : MethodName) (⟨"HexTemplates$Reader", "readNames", "(IIII)Z"⟩ : MethodName)),
  (Jvm.Cond.selects "HexTemplates$Reader" (⟨"HexTemplates$Reader", "goBack", "(III)V"⟩ : MethodName) (⟨"HexTemplates$Reader", "goBack", "(III)V"⟩ : MethodName)),
  (Jvm.Cond.selects "HexTemplates$Reader" (⟨"HexTemplates$Reader", "readArray", "(III)Z"⟩ : MethodName) (⟨"HexTemplates$Reader", "readArray", "(III)Z"⟩ : MethodName)),
  (Jvm.Cond.selects "HexTemplates$Reader" (⟨"HexTemplates$Reader", "reckonSum", "(II)I"⟩ : MethodName) (⟨"HexTemplates$Reader", "reckonSum", "(II)I"⟩ : MethodName)),
  (Jvm.Cond.selects "HexTemplates$Reader" (⟨"HexTemplates$Reader", "readWhileFine", "(III)I"⟩ : MethodName) (⟨"HexTemplates$Reader", "readWhileFine", "(III)I"⟩ : MethodName)),
  (Jvm.Cond.selects "HexTemplates$Reader" (⟨"HexTemplates$Reader", "readToEnd", "(III)I"⟩ : MethodName) (⟨"HexTemplates$Reader", "readToEnd", "(III)I"⟩ : MethodName)),
  (Jvm.Cond.selects "HexTemplates$Reader" (⟨"HexTemplates$Reader", "readCounted", "(IIII)Z"⟩ : MethodName) (⟨"HexTemplates$Reader", "readCounted", "(IIII)Z"⟩ : MethodName)),
  (Jvm.Cond.selects "HexTemplates$Reader" (⟨"HexTemplates$Reader", "readPlain", "(III)Z"⟩ : MethodName) (⟨"HexTemplates$Reader", "readPlain", "(III)Z"⟩ : MethodName)),
  (Jvm.Cond.selects "HexTemplates$Reader" (⟨"HexTemplates$Reader", "measureCounted", "(II)Z"⟩ : MethodName) (⟨"HexTemplates$Reader", "measureCounted", "(II)Z"⟩ : MethodName)),
  (Jvm.Cond.selects "HexTemplates$Reader" (⟨"HexTemplates$Reader", "measureEnded", "(I)Z"⟩ : MethodName) (⟨"HexTemplates$Reader", "measureEnded", "(I)Z"⟩ : MethodName)),
  (Jvm.Cond.selects "HexTemplates$Reader" (⟨"HexTemplates$Reader", "measureBits", "(II)Z"⟩ : MethodName) (⟨"HexTemplates$Reader", "measureBits", "(II)Z"⟩ : MethodName)),
  (Jvm.Cond.selects "HexTemplates$Reader" (⟨"HexTemplates$Reader", "cut", "(II)I"⟩ : MethodName) (⟨"HexTemplates$Reader", "cut", "(II)I"⟩ : MethodName)),
  (Jvm.Cond.selects "HexTemplates$Reader" (⟨"HexTemplates$Reader", "measureNumber", "(II)Z"⟩ : MethodName) (⟨"HexTemplates$Reader", "measureNumber", "(II)Z"⟩ : MethodName)),
  (Jvm.Cond.selects "HexTemplates$Reader" (⟨"HexTemplates$Reader", "countWrongIn", "(II)V"⟩ : MethodName) (⟨"HexTemplates$Reader", "countWrongIn", "(II)V"⟩ : MethodName))]
def xt_i0 : List Nat := [1, 2, 3, 4, 5, 6, 7, 8, 9, 10, 11, 12, 13, 14, 15, 16, 17, 18, 19, 20, 21, 22, 23, 24, 25, 26, 27, 28, 29, 30, 31, 32, 33, 34, 35, 36, 37, 38, 39, 40]
theorem xt_g0_0 : xt_g0.take 10 = (xt_i0.take 10).filterMap (fun i => lw_tbl[i]?) := by decide +kernel
theorem xt_g0_1 : (xt_g0.drop 10).take 10 = ((xt_i0.drop 10).take 10).filterMap (fun i => lw_tbl[i]?) := by decide +kernel
theorem xt_g0_2 : ((xt_g0.drop 10).drop 10).take 10 = (((xt_i0.drop 10).drop 10).take 10).filterMap (fun i => lw_tbl[i]?) := by decide +kernel
theorem xt_g0_3 : (((xt_g0.drop 10).drop 10).drop 10) = (((xt_i0.drop 10).drop 10).drop 10).filterMap (fun i => lw_tbl[i]?) := by decide +kernel
theorem xt_g0_p : xt_g0 = xt_i0.filterMap (fun i => lw_tbl[i]?) := xt_cut 10 xt_g0_0 (xt_cut 10 xt_g0_1 (xt_cut 10 xt_g0_2 (xt_g0_3)))
theorem xt_g0_t : xt_g0.all xr_tw = true := by decide +kernel
def xt_g1 : List Cond := [(Jvm.Cond.selects "HexTemplates$Reader" (⟨"HexTemplates$Reader", "reckon", "(IIII)I"⟩ : MethodName) (⟨"HexTemplates$Reader", "reckon", "(IIII)I"⟩ : MethodName)),
  (Jvm.Cond.selects "HexTemplates" (⟨"HexTemplates", "chosenTemplate", "()LHexTemplates$Template;"⟩ : MethodName) (⟨"HexTemplates", "chosenTemplate", "()LHexTemplates$Template;"⟩ : MethodName)),
  (Jvm.Cond.selects "HexTemplates" (⟨"HexTemplates", "checkPlace", "(II)V"⟩ : MethodName) (⟨"HexTemplates", "checkPlace", "(II)V"⟩ : MethodName)),
  (Jvm.Cond.selects "HexTemplates$Editor" (⟨"HexTemplates$Editor", "tellNewLengths", "(LHexTemplates$Reader;III)V"⟩ : MethodName) (⟨"HexTemplates$Editor", "tellNewLengths", "(LHexTemplates$Reader;III)V"⟩ : MethodName)),
  (Jvm.Cond.selects "HexTemplates" (⟨"HexTemplates", "checkEdit", "(Z)V"⟩ : MethodName) (⟨"HexTemplates", "checkEdit", "(Z)V"⟩ : MethodName)),
  (Jvm.Cond.selects "HexTemplates" (⟨"HexTemplates", "finishEdit", "()I"⟩ : MethodName) (⟨"HexTemplates", "finishEdit", "()I"⟩ : MethodName)),
  (Jvm.Cond.selects "HexTemplates$Editor" (⟨"HexTemplates$Editor", "mendCounts", "(LHexTemplates$Reader;)I"⟩ : MethodName) (⟨"HexTemplates$Editor", "mendCounts", "(LHexTemplates$Reader;)I"⟩ : MethodName)),
  (Jvm.Cond.selects "HexTemplates$Editor" (⟨"HexTemplates$Editor", "firstReady", "(LHexTemplates$Reader;)I"⟩ : MethodName) (⟨"HexTemplates$Editor", "firstReady", "(LHexTemplates$Reader;)I"⟩ : MethodName)),
  (Jvm.Cond.selects "HexTemplates$Editor" (⟨"HexTemplates$Editor", "hasLeftIn", "(LHexTemplates$Nodes;I)Z"⟩ : MethodName) (⟨"HexTemplates$Editor", "hasLeftIn", "(LHexTemplates$Nodes;I)Z"⟩ : MethodName)),
  (Jvm.Cond.selects "HexTemplates" (⟨"HexTemplates", "isFree", "(I)Z"⟩ : MethodName) (⟨"HexTemplates", "isFree", "(I)Z"⟩ : MethodName)),
  (Jvm.Cond.selects "HexTemplates" (⟨"HexTemplates", "checkReference", "(I)V"⟩ : MethodName) (⟨"HexTemplates", "checkReference", "(I)V"⟩ : MethodName)),
  (Jvm.Cond.selects "HexTemplates" (⟨"HexTemplates", "forgetVisits", "()V"⟩ : MethodName) (⟨"HexTemplates", "forgetVisits", "()V"⟩ : MethodName)),
  (Jvm.Cond.selects "HexTemplates" (⟨"HexTemplates", "isVisited", "(II)Z"⟩ : MethodName) (⟨"HexTemplates", "isVisited", "(II)Z"⟩ : MethodName)),
  (Jvm.Cond.initialized "HexTemplatesLaw"),
  (Jvm.Cond.initialized "HexTemplates"),
  (Jvm.Cond.initialized "HexTemplates$Bytes"),
  (Jvm.Cond.initialized "HexTemplates$Parser"),
  (Jvm.Cond.initialized "HexTemplates$States"),
  (Jvm.Cond.initialized "HexTemplates$Reader"),
  (Jvm.Cond.initialized "HexTemplates$Nodes"),
  (Jvm.Cond.initialized "HexTemplates$Editor"),
  (Jvm.Cond.initialized "HexTemplates$Hunk"),
  (Jvm.Cond.initialized "java/lang/IllegalArgumentException"),
  (Jvm.Cond.initialized "java/lang/IllegalStateException"),
  (Jvm.Cond.initialized "HexTemplates$Template"),
  (Jvm.Cond.initialized "java/lang/Math"),
  (Jvm.Cond.initialized "java/lang/IndexOutOfBoundsException"),
  (Jvm.Cond.classLink "HexTemplatesLaw" (11 : Nat) "HexTemplates"),
  (Jvm.Cond.instantiable "HexTemplates" (12 : Nat)),
  (Jvm.Cond.methodLink "HexTemplatesLaw" (111 : Nat) ({ cls := "HexTemplates", name := "<init>", desc := "()V" } : Jvm.MethodName)),
  (Jvm.Cond.instanceMethod ({ cls := "HexTemplates", name := "<init>", desc := "()V" } : Jvm.MethodName)),
  (Jvm.Cond.code ({ cls := "HexTemplates", name := "<init>", desc := "()V" } : Jvm.MethodName) prog_1_method_1_code (1 : Nat) (Option.none : Option Jvm.ClassFile.FieldType)),
  (Jvm.Cond.methodLink "HexTemplates" (3 : Nat) ({ cls := "java/lang/Object", name := "<init>", desc := "()V" } : Jvm.MethodName)),
  (Jvm.Cond.instanceMethod ({ cls := "java/lang/Object", name := "<init>", desc := "()V" } : Jvm.MethodName)),
  (Jvm.Cond.code ({ cls := "java/lang/Object", name := "<init>", desc := "()V" } : Jvm.MethodName) object_method_1_code (1 : Nat) (Option.none : Option Jvm.ClassFile.FieldType)),
  (Jvm.Cond.classLink "HexTemplates" (9 : Nat) "HexTemplates$Bytes"),
  (Jvm.Cond.instantiable "HexTemplates$Bytes" (2 : Nat)),
  (Jvm.Cond.methodLink "HexTemplates" (11 : Nat) ({ cls := "HexTemplates$Bytes", name := "<init>", desc := "(I)V" } : Jvm.MethodName)),
  (Jvm.Cond.instanceMethod ({ cls := "HexTemplates$Bytes", name := "<init>", desc := "(I)V" } : Jvm.MethodName)),
  (Jvm.Cond.code ({ cls := "HexTemplates$Bytes", name := "<init>", desc := "(I)V" } : Jvm.MethodName) prog_2_method_1_code (2 : Nat) (Option.none : Option Jvm.ClassFile.FieldType))]
def xt_i1 : List Nat := [41, 42, 43, 44, 45, 46, 47, 48, 49, 50, 51, 52, 53, 54, 55, 56, 57, 58, 59, 60, 61, 62, 66, 67, 68, 69, 70, 71, 72, 73, 74, 75, 76, 77, 78, 79, 80, 81, 82, 83]
theorem xt_g1_0 : xt_g1.take 10 = (xt_i1.take 10).filterMap (fun i => lw_tbl[i]?) := by decide +kernel
theorem xt_g1_1 : (xt_g1.drop 10).take 10 = ((xt_i1.drop 10).take 10).filterMap (fun i => lw_tbl[i]?) := by decide +kernel
theorem xt_g1_2 : ((xt_g1.drop 10).drop 10).take 10 = (((xt_i1.drop 10).drop 10).take 10).filterMap (fun i => lw_tbl[i]?) := by decide +kernel
theorem xt_g1_3 : (((xt_g1.drop 10).drop 10).drop 10) = (((xt_i1.drop 10).drop 10).drop 10).filterMap (fun i => lw_tbl[i]?) := by decide +kernel
theorem xt_g1_p : xt_g1 = xt_i1.filterMap (fun i => lw_tbl[i]?) := xt_cut 10 xt_g1_0 (xt_cut 10 xt_g1_1 (xt_cut 10 xt_g1_2 (xt_g1_3)))
theorem xt_g1_t : xt_g1.all xr_tw = true := by decide +kernel
def xt_g2 : List Cond := [(Jvm.Cond.methodLink "HexTemplates$Bytes" (1 : Nat) ({ cls := "java/lang/Object", name := "<init>", desc := "()V" } : Jvm.MethodName)),
  (Jvm.Cond.fieldLink "HexTemplates$Bytes" (13 : Nat) "HexTemplates$Bytes" "cells" "[I"),
  (Jvm.Cond.fieldLink "HexTemplates$Parser" (66 : Nat) "HexTemplates$Bytes" "cells" "[I"),
  (Jvm.Cond.fieldLink "HexTemplates$Bytes" (7 : Nat) "HexTemplates$Bytes" "length" "I"),
  (Jvm.Cond.fieldLink "HexTemplates" (83 : Nat) "HexTemplates$Bytes" "length" "I"),
  (Jvm.Cond.fieldLink "HexTemplates$Editor" (57 : Nat) "HexTemplates$Bytes" "length" "I"),
  (Jvm.Cond.fieldLink "HexTemplates$Parser" (61 : Nat) "HexTemplates$Bytes" "length" "I"),
  (Jvm.Cond.fieldLink "HexTemplates$States" (40 : Nat) "HexTemplates$Bytes" "length" "I"),
  (Jvm.Cond.fieldLink "HexTemplates$Reader" (132 : Nat) "HexTemplates$Bytes" "length" "I"),
  (Jvm.Cond.arrayClass Jvm.ClassFile.FieldType.int),
  (Jvm.Cond.classLink "HexTemplates" (21 : Nat) "HexTemplates$Parser"),
  (Jvm.Cond.instantiable "HexTemplates$Parser" (6 : Nat)),
  (Jvm.Cond.methodLinkNest "HexTemplates" (23 : Nat) ({ cls := "HexTemplates$Parser", name := "<init>", desc := "()V" } : Jvm.MethodName) "HexTemplates"),
  (Jvm.Cond.instanceMethod ({ cls := "HexTemplates$Parser", name := "<init>", desc := "()V" } : Jvm.MethodName)),
  (Jvm.Cond.code ({ cls := "HexTemplates$Parser", name := "<init>", desc := "()V" } : Jvm.MethodName) prog_6_method_1_code (1 : Nat) (Option.none : Option Jvm.ClassFile.FieldType)),
  (Jvm.Cond.methodLink "HexTemplates$Parser" (3 : Nat) ({ cls := "java/lang/Object", name := "<init>", desc := "()V" } : Jvm.MethodName)),
  (Jvm.Cond.fieldLink "HexTemplates$Parser" (9 : Nat) "HexTemplates$Parser" "text" "LHexTemplates$Bytes;"),
  (Jvm.Cond.fieldLink "HexTemplates$Parser" (15 : Nat) "HexTemplates$Parser" "into" "LHexTemplates$Template;"),
  (Jvm.Cond.fieldLink "HexTemplates$Parser" (19 : Nat) "HexTemplates$Parser" "at" "I"),
  (Jvm.Cond.fieldLink "HexTemplates$Parser" (23 : Nat) "HexTemplates$Parser" "sign" "I"),
  (Jvm.Cond.fieldLink "HexTemplates$Parser" (26 : Nat) "HexTemplates$Parser" "structure" "I"),
  (Jvm.Cond.fieldLink "HexTemplates$Parser" (29 : Nat) "HexTemplates$Parser" "bitsTaken" "I"),
  (Jvm.Cond.classLink "HexTemplates" (28 : Nat) "HexTemplates$Template"),
  (Jvm.Cond.classLink "HexTemplates" (34 : Nat) "HexTemplates$States"),
  (Jvm.Cond.instantiable "HexTemplates$States" (5 : Nat)),
  (Jvm.Cond.methodLinkNest "HexTemplates" (36 : Nat) ({ cls := "HexTemplates$States", name := "<init>", desc := "()V" } : Jvm.MethodName) "HexTemplates"),
  (Jvm.Cond.instanceMethod ({ cls := "HexTemplates$States", name := "<init>", desc := "()V" } : Jvm.MethodName)),
  (Jvm.Cond.code ({ cls := "HexTemplates$States", name := "<init>", desc := "()V" } : Jvm.MethodName) prog_8_method_1_code (1 : Nat) (Option.none : Option Jvm.ClassFile.FieldType)),
  (Jvm.Cond.methodLink "HexTemplates$States" (3 : Nat) ({ cls := "java/lang/Object", name := "<init>", desc := "()V" } : Jvm.MethodName)),
  (Jvm.Cond.fieldLink "HexTemplates$States" (9 : Nat) "HexTemplates$States" "cells" "[I"),
  (Jvm.Cond.fieldLink "HexTemplates$States" (15 : Nat) "HexTemplates$States" "sizes" "[I"),
  (Jvm.Cond.fieldLink "HexTemplates$States" (18 : Nat) "HexTemplates$States" "parents" "[I"),
  (Jvm.Cond.fieldLink "HexTemplates$States" (21 : Nat) "HexTemplates$States" "count" "I"),
  (Jvm.Cond.fieldLink "HexTemplates$States" (25 : Nat) "HexTemplates$States" "present" "I"),
  (Jvm.Cond.fieldLink "HexTemplates" (132 : Nat) "HexTemplates$States" "present" "I"),
  (Jvm.Cond.classLink "HexTemplates" (41 : Nat) "HexTemplates$Reader"),
  (Jvm.Cond.instantiable "HexTemplates$Reader" (11 : Nat)),
  (Jvm.Cond.methodLinkNest "HexTemplates" (43 : Nat) ({ cls := "HexTemplates$Reader", name := "<init>", desc := "()V" } : Jvm.MethodName) "HexTemplates"),
  (Jvm.Cond.instanceMethod ({ cls := "HexTemplates$Reader", name := "<init>", desc := "()V" } : Jvm.MethodName)),
  (Jvm.Cond.code ({ cls := "HexTemplates$Reader", name := "<init>", desc := "()V" } : Jvm.MethodName) prog_7_method_1_code (1 : Nat) (Option.none : Option Jvm.ClassFile.FieldType))]
def xt_i2 : List Nat := [84, 85, 86, 87, 88, 89, 90, 91, 92, 98, 99, 100, 101, 102, 103, 104, 105, 106, 107, 108, 109, 110, 124, 126, 127, 128, 129, 130, 131, 132, 133, 134, 135, 136, 137, 149, 150, 151, 152, 153]
theorem xt_g2_0 : xt_g2.take 10 = (xt_i2.take 10).filterMap (fun i => lw_tbl[i]?) := by decide +kernel
theorem xt_g2_1 : (xt_g2.drop 10).take 10 = ((xt_i2.drop 10).take 10).filterMap (fun i => lw_tbl[i]?) := by decide +kernel
theorem xt_g2_2 : ((xt_g2.drop 10).drop 10).take 10 = (((xt_i2.drop 10).drop 10).take 10).filterMap (fun i => lw_tbl[i]?) := by decide +kernel
theorem xt_g2_3 : (((xt_g2.drop 10).drop 10).drop 10) = (((xt_i2.drop 10).drop 10).drop 10).filterMap (fun i => lw_tbl[i]?) := by decide +kernel
theorem xt_g2_p : xt_g2 = xt_i2.filterMap (fun i => lw_tbl[i]?) := xt_cut 10 xt_g2_0 (xt_cut 10 xt_g2_1 (xt_cut 10 xt_g2_2 (xt_g2_3)))
theorem xt_g2_t : xt_g2.all xr_tw = true := by decide +kernel
def xt_g3 : List Cond := [(Jvm.Cond.methodLink "HexTemplates$Reader" (3 : Nat) ({ cls := "java/lang/Object", name := "<init>", desc := "()V" } : Jvm.MethodName)),
  (Jvm.Cond.classLink "HexTemplates$Reader" (9 : Nat) "HexTemplates$Nodes"),
  (Jvm.Cond.instantiable "HexTemplates$Nodes" (8 : Nat)),
  (Jvm.Cond.methodLinkNest "HexTemplates$Reader" (11 : Nat) ({ cls := "HexTemplates$Nodes", name := "<init>", desc := "()V" } : Jvm.MethodName) "HexTemplates"),
  (Jvm.Cond.instanceMethod ({ cls := "HexTemplates$Nodes", name := "<init>", desc := "()V" } : Jvm.MethodName)),
  (Jvm.Cond.code ({ cls := "HexTemplates$Nodes", name := "<init>", desc := "()V" } : Jvm.MethodName) prog_5_method_1_code (1 : Nat) (Option.none : Option Jvm.ClassFile.FieldType)),
  (Jvm.Cond.methodLink "HexTemplates$Nodes" (3 : Nat) ({ cls := "java/lang/Object", name := "<init>", desc := "()V" } : Jvm.MethodName)),
  (Jvm.Cond.fieldLink "HexTemplates$Nodes" (9 : Nat) "HexTemplates$Nodes" "kind" "[I"),
  (Jvm.Cond.fieldLink "HexTemplates$Editor" (64 : Nat) "HexTemplates$Nodes" "kind" "[I"),
  (Jvm.Cond.fieldLink "HexTemplates" (174 : Nat) "HexTemplates$Nodes" "kind" "[I"),
  (Jvm.Cond.fieldLink "HexTemplates$Reader" (241 : Nat) "HexTemplates$Nodes" "kind" "[I"),
  (Jvm.Cond.fieldLink "HexTemplates$Nodes" (15 : Nat) "HexTemplates$Nodes" "name" "[I"),
  (Jvm.Cond.fieldLink "HexTemplates" (178 : Nat) "HexTemplates$Nodes" "name" "[I"),
  (Jvm.Cond.fieldLink "HexTemplates$Nodes" (18 : Nat) "HexTemplates$Nodes" "offset" "[I"),
  (Jvm.Cond.fieldLink "HexTemplates$Editor" (34 : Nat) "HexTemplates$Nodes" "offset" "[I"),
  (Jvm.Cond.fieldLink "HexTemplates" (181 : Nat) "HexTemplates$Nodes" "offset" "[I"),
  (Jvm.Cond.fieldLink "HexTemplates$Reader" (230 : Nat) "HexTemplates$Nodes" "offset" "[I"),
  (Jvm.Cond.fieldLink "HexTemplates$Nodes" (21 : Nat) "HexTemplates$Nodes" "length" "[I"),
  (Jvm.Cond.fieldLink "HexTemplates$Editor" (100 : Nat) "HexTemplates$Nodes" "length" "[I"),
  (Jvm.Cond.fieldLink "HexTemplates" (184 : Nat) "HexTemplates$Nodes" "length" "[I"),
  (Jvm.Cond.fieldLink "HexTemplates$Reader" (233 : Nat) "HexTemplates$Nodes" "length" "[I"),
  (Jvm.Cond.fieldLink "HexTemplates$Nodes" (24 : Nat) "HexTemplates$Nodes" "value" "[I"),
  (Jvm.Cond.fieldLink "HexTemplates$Editor" (67 : Nat) "HexTemplates$Nodes" "value" "[I"),
  (Jvm.Cond.fieldLink "HexTemplates" (186 : Nat) "HexTemplates$Nodes" "value" "[I"),
  (Jvm.Cond.fieldLink "HexTemplates$Reader" (227 : Nat) "HexTemplates$Nodes" "value" "[I"),
  (Jvm.Cond.fieldLink "HexTemplates$Nodes" (27 : Nat) "HexTemplates$Nodes" "parent" "[I"),
  (Jvm.Cond.fieldLink "HexTemplates" (189 : Nat) "HexTemplates$Nodes" "parent" "[I"),
  (Jvm.Cond.fieldLink "HexTemplates$Reader" (218 : Nat) "HexTemplates$Nodes" "parent" "[I"),
  (Jvm.Cond.fieldLink "HexTemplates$Nodes" (30 : Nat) "HexTemplates$Nodes" "field" "[I"),
  (Jvm.Cond.fieldLink "HexTemplates" (208 : Nat) "HexTemplates$Nodes" "field" "[I"),
  (Jvm.Cond.fieldLink "HexTemplates$Reader" (212 : Nat) "HexTemplates$Nodes" "field" "[I"),
  (Jvm.Cond.fieldLink "HexTemplates$Nodes" (33 : Nat) "HexTemplates$Nodes" "count" "I"),
  (Jvm.Cond.fieldLink "HexTemplates$Reader" (52 : Nat) "HexTemplates$Nodes" "count" "I"),
  (Jvm.Cond.fieldLink "HexTemplates$Editor" (61 : Nat) "HexTemplates$Nodes" "count" "I"),
  (Jvm.Cond.fieldLink "HexTemplates" (164 : Nat) "HexTemplates$Nodes" "count" "I"),
  (Jvm.Cond.fieldLink "HexTemplates$Reader" (12 : Nat) "HexTemplates$Reader" "table" "LHexTemplates$Nodes;"),
  (Jvm.Cond.fieldLink "HexTemplates$Editor" (28 : Nat) "HexTemplates$Reader" "table" "LHexTemplates$Nodes;"),
  (Jvm.Cond.fieldLink "HexTemplates" (160 : Nat) "HexTemplates$Reader" "table" "LHexTemplates$Nodes;"),
  (Jvm.Cond.fieldLink "HexTemplates$Reader" (18 : Nat) "HexTemplates$Reader" "template" "LHexTemplates$Template;"),
  (Jvm.Cond.fieldLink "HexTemplates$Reader" (22 : Nat) "HexTemplates$Reader" "file" "LHexTemplates$Bytes;")]
def xt_i3 : List Nat := [154, 155, 156, 157, 158, 159, 160, 161, 162, 163, 164, 165, 166, 167, 168, 169, 170, 171, 172, 173, 174, 175, 176, 177, 178, 179, 180, 181, 182, 183, 184, 185, 186, 187, 188, 206, 207, 208, 209, 210]
theorem xt_g3_0 : xt_g3.take 10 = (xt_i3.take 10).filterMap (fun i => lw_tbl[i]?) := by decide +kernel
theorem xt_g3_1 : (xt_g3.drop 10).take 10 = ((xt_i3.drop 10).take 10).filterMap (fun i => lw_tbl[i]?) := by decide +kernel
theorem xt_g3_2 : ((xt_g3.drop 10).drop 10).take 10 = (((xt_i3.drop 10).drop 10).take 10).filterMap (fun i => lw_tbl[i]?) := by decide +kernel
theorem xt_g3_3 : (((xt_g3.drop 10).drop 10).drop 10) = (((xt_i3.drop 10).drop 10).drop 10).filterMap (fun i => lw_tbl[i]?) := by decide +kernel
theorem xt_g3_p : xt_g3 = xt_i3.filterMap (fun i => lw_tbl[i]?) := xt_cut 10 xt_g3_0 (xt_cut 10 xt_g3_1 (xt_cut 10 xt_g3_2 (xt_g3_3)))
theorem xt_g3_t : xt_g3.all xr_tw = true := by decide +kernel
def xt_g4 : List Cond := [(Jvm.Cond.fieldLink "HexTemplates$Reader" (26 : Nat) "HexTemplates$Reader" "at" "I"),
  (Jvm.Cond.fieldLink "HexTemplates" (214 : Nat) "HexTemplates$Reader" "at" "I"),
  (Jvm.Cond.fieldLink "HexTemplates$Reader" (30 : Nat) "HexTemplates$Reader" "made" "I"),
  (Jvm.Cond.fieldLink "HexTemplates$Reader" (33 : Nat) "HexTemplates$Reader" "fault" "I"),
  (Jvm.Cond.fieldLink "HexTemplates" (157 : Nat) "HexTemplates$Reader" "fault" "I"),
  (Jvm.Cond.fieldLink "HexTemplates$Reader" (36 : Nat) "HexTemplates$Reader" "faultAt" "I"),
  (Jvm.Cond.fieldLink "HexTemplates" (154 : Nat) "HexTemplates$Reader" "faultAt" "I"),
  (Jvm.Cond.fieldLink "HexTemplates$Reader" (39 : Nat) "HexTemplates$Reader" "wrongs" "I"),
  (Jvm.Cond.fieldLink "HexTemplates" (202 : Nat) "HexTemplates$Reader" "wrongs" "I"),
  (Jvm.Cond.fieldLink "HexTemplates$Reader" (42 : Nat) "HexTemplates$Reader" "starts" "[I"),
  (Jvm.Cond.fieldLink "HexTemplates$Reader" (46 : Nat) "HexTemplates$Reader" "lengths" "[I"),
  (Jvm.Cond.fieldLink "HexTemplates$Reader" (49 : Nat) "HexTemplates$Reader" "values" "[I"),
  (Jvm.Cond.classLink "HexTemplates" (51 : Nat) "HexTemplates$Editor"),
  (Jvm.Cond.instantiable "HexTemplates$Editor" (2 : Nat)),
  (Jvm.Cond.methodLinkNest "HexTemplates" (53 : Nat) ({ cls := "HexTemplates$Editor", name := "<init>", desc := "()V" } : Jvm.MethodName) "HexTemplates"),
  (Jvm.Cond.instanceMethod ({ cls := "HexTemplates$Editor", name := "<init>", desc := "()V" } : Jvm.MethodName)),
  (Jvm.Cond.code ({ cls := "HexTemplates$Editor", name := "<init>", desc := "()V" } : Jvm.MethodName) prog_3_method_1_code (1 : Nat) (Option.none : Option Jvm.ClassFile.FieldType)),
  (Jvm.Cond.methodLink "HexTemplates$Editor" (3 : Nat) ({ cls := "java/lang/Object", name := "<init>", desc := "()V" } : Jvm.MethodName)),
  (Jvm.Cond.classLink "HexTemplates$Editor" (9 : Nat) "HexTemplates$Bytes"),
  (Jvm.Cond.methodLink "HexTemplates$Editor" (11 : Nat) ({ cls := "HexTemplates$Bytes", name := "<init>", desc := "(I)V" } : Jvm.MethodName)),
  (Jvm.Cond.fieldLink "HexTemplates$Editor" (14 : Nat) "HexTemplates$Editor" "work" "LHexTemplates$Bytes;"),
  (Jvm.Cond.fieldLink "HexTemplates" (269 : Nat) "HexTemplates$Editor" "work" "LHexTemplates$Bytes;"),
  (Jvm.Cond.fieldLink "HexTemplates$Editor" (20 : Nat) "HexTemplates$Editor" "isLeft" "[Z"),
  (Jvm.Cond.arrayClass Jvm.ClassFile.FieldType.boolean),
  (Jvm.Cond.classLink "HexTemplates" (58 : Nat) "HexTemplates$Hunk"),
  (Jvm.Cond.instantiable "HexTemplates$Hunk" (3 : Nat)),
  (Jvm.Cond.methodLinkNest "HexTemplates" (60 : Nat) ({ cls := "HexTemplates$Hunk", name := "<init>", desc := "()V" } : Jvm.MethodName) "HexTemplates"),
  (Jvm.Cond.instanceMethod ({ cls := "HexTemplates$Hunk", name := "<init>", desc := "()V" } : Jvm.MethodName)),
  (Jvm.Cond.code ({ cls := "HexTemplates$Hunk", name := "<init>", desc := "()V" } : Jvm.MethodName) prog_4_method_1_code (1 : Nat) (Option.none : Option Jvm.ClassFile.FieldType)),
  (Jvm.Cond.methodLink "HexTemplates$Hunk" (3 : Nat) ({ cls := "java/lang/Object", name := "<init>", desc := "()V" } : Jvm.MethodName)),
  (Jvm.Cond.fieldLink "HexTemplates$Hunk" (9 : Nat) "HexTemplates$Hunk" "offset" "I"),
  (Jvm.Cond.fieldLink "HexTemplates$Hunk" (15 : Nat) "HexTemplates$Hunk" "taken" "I"),
  (Jvm.Cond.fieldLink "HexTemplates$Hunk" (18 : Nat) "HexTemplates$Hunk" "put" "I"),
  (Jvm.Cond.fieldLink "HexTemplates" (14 : Nat) "HexTemplates" "tape" "LHexTemplates$Bytes;"),
  (Jvm.Cond.fieldLink "HexTemplates" (18 : Nat) "HexTemplates" "file" "LHexTemplates$Bytes;"),
  (Jvm.Cond.fieldLink "HexTemplates" (24 : Nat) "HexTemplates" "parser" "LHexTemplates$Parser;"),
  (Jvm.Cond.fieldLink "HexTemplates" (30 : Nat) "HexTemplates" "templates" "[LHexTemplates$Template;"),
  (Jvm.Cond.fieldLink "HexTemplates" (37 : Nat) "HexTemplates" "states" "LHexTemplates$States;"),
  (Jvm.Cond.fieldLink "HexTemplates" (44 : Nat) "HexTemplates" "reader" "LHexTemplates$Reader;"),
  (Jvm.Cond.fieldLink "HexTemplates" (48 : Nat) "HexTemplates" "trial" "LHexTemplates$Reader;")]
def xt_i4 : List Nat := [211, 212, 213, 214, 215, 216, 217, 218, 219, 220, 221, 222, 246, 247, 248, 249, 250, 251, 252, 253, 254, 255, 256, 262, 263, 264, 265, 266, 267, 268, 269, 270, 271, 279, 280, 281, 282, 283, 284, 285]
theorem xt_g4_0 : xt_g4.take 10 = (xt_i4.take 10).filterMap (fun i => lw_tbl[i]?) := by decide +kernel
theorem xt_g4_1 : (xt_g4.drop 10).take 10 = ((xt_i4.drop 10).take 10).filterMap (fun i => lw_tbl[i]?) := by decide +kernel
theorem xt_g4_2 : ((xt_g4.drop 10).drop 10).take 10 = (((xt_i4.drop 10).drop 10).take 10).filterMap (fun i => lw_tbl[i]?) := by decide +kernel
theorem xt_g4_3 : (((xt_g4.drop 10).drop 10).drop 10) = (((xt_i4.drop 10).drop 10).drop 10).filterMap (fun i => lw_tbl[i]?) := by decide +kernel
theorem xt_g4_p : xt_g4 = xt_i4.filterMap (fun i => lw_tbl[i]?) := xt_cut 10 xt_g4_0 (xt_cut 10 xt_g4_1 (xt_cut 10 xt_g4_2 (xt_g4_3)))
theorem xt_g4_t : xt_g4.all xr_tw = true := by decide +kernel
def xt_g5 : List Cond := [(Jvm.Cond.fieldLink "HexTemplates" (54 : Nat) "HexTemplates" "editor" "LHexTemplates$Editor;"),
  (Jvm.Cond.fieldLink "HexTemplates" (61 : Nat) "HexTemplates" "change" "LHexTemplates$Hunk;"),
  (Jvm.Cond.fieldLink "HexTemplates" (65 : Nat) "HexTemplates" "visited" "[Z"),
  (Jvm.Cond.fieldLink "HexTemplates" (69 : Nat) "HexTemplates" "templateCount" "I"),
  (Jvm.Cond.fieldLink "HexTemplates" (73 : Nat) "HexTemplates" "chosenNumber" "I"),
  (Jvm.Cond.methodLink "HexTemplatesLaw" (35 : Nat) ({ cls := "HexTemplates", name := "feed", desc := "(JI)I" } : Jvm.MethodName)),
  (Jvm.Cond.instanceMethod ({ cls := "HexTemplates", name := "feed", desc := "(JI)I" } : Jvm.MethodName)),
  (Jvm.Cond.selects "HexTemplates" ({ cls := "HexTemplates", name := "feed", desc := "(JI)I" } : Jvm.MethodName) ({ cls := "HexTemplates", name := "feed", desc := "(JI)I" } : Jvm.MethodName)),
  (Jvm.Cond.code ({ cls := "HexTemplates", name := "feed", desc := "(JI)I" } : Jvm.MethodName) prog_1_method_2_code (5 : Nat) (Option.some Jvm.ClassFile.FieldType.int)),
  (Jvm.Cond.classLink "HexTemplates" (76 : Nat) "java/lang/IllegalArgumentException"),
  (Jvm.Cond.classLink "HexTemplates" (86 : Nat) "java/lang/IllegalStateException"),
  (Jvm.Cond.castable "java/lang/IllegalStateException" "java/lang/IllegalStateException"),
  (Jvm.Cond.methodLink "HexTemplates" (91 : Nat) ({ cls := "HexTemplates$Bytes", name := "append", desc := "(I)V" } : Jvm.MethodName)),
  (Jvm.Cond.instanceMethod ({ cls := "HexTemplates$Bytes", name := "append", desc := "(I)V" } : Jvm.MethodName)),
  (Jvm.Cond.selects "HexTemplates$Bytes" ({ cls := "HexTemplates$Bytes", name := "append", desc := "(I)V" } : Jvm.MethodName) ({ cls := "HexTemplates$Bytes", name := "append", desc := "(I)V" } : Jvm.MethodName)),
  (Jvm.Cond.code ({ cls := "HexTemplates$Bytes", name := "append", desc := "(I)V" } : Jvm.MethodName) prog_2_method_4_code (2 : Nat) (Option.none : Option Jvm.ClassFile.FieldType)),
  (Jvm.Cond.methodLink "HexTemplatesLaw" (123 : Nat) ({ cls := "HexTemplates", name := "give", desc := "()I" } : Jvm.MethodName)),
  (Jvm.Cond.instanceMethod ({ cls := "HexTemplates", name := "give", desc := "()I" } : Jvm.MethodName)),
  (Jvm.Cond.selects "HexTemplates" ({ cls := "HexTemplates", name := "give", desc := "()I" } : Jvm.MethodName) ({ cls := "HexTemplates", name := "give", desc := "()I" } : Jvm.MethodName)),
  (Jvm.Cond.code ({ cls := "HexTemplates", name := "give", desc := "()I" } : Jvm.MethodName) prog_1_method_3_code (2 : Nat) (Option.some Jvm.ClassFile.FieldType.int)),
  (Jvm.Cond.methodLink "HexTemplates" (94 : Nat) ({ cls := "HexTemplates$States", name := "isFull", desc := "()Z" } : Jvm.MethodName)),
  (Jvm.Cond.instanceMethod ({ cls := "HexTemplates$States", name := "isFull", desc := "()Z" } : Jvm.MethodName)),
  (Jvm.Cond.selects "HexTemplates$States" ({ cls := "HexTemplates$States", name := "isFull", desc := "()Z" } : Jvm.MethodName) ({ cls := "HexTemplates$States", name := "isFull", desc := "()Z" } : Jvm.MethodName)),
  (Jvm.Cond.code ({ cls := "HexTemplates$States", name := "isFull", desc := "()Z" } : Jvm.MethodName) prog_8_method_2_code (1 : Nat) (Option.some Jvm.ClassFile.FieldType.boolean)),
  (Jvm.Cond.methodLink "HexTemplates" (98 : Nat) ({ cls := "HexTemplates$Bytes", name := "copy", desc := "(LHexTemplates$Bytes;)V" } : Jvm.MethodName)),
  (Jvm.Cond.instanceMethod ({ cls := "HexTemplates$Bytes", name := "copy", desc := "(LHexTemplates$Bytes;)V" } : Jvm.MethodName)),
  (Jvm.Cond.selects "HexTemplates$Bytes" ({ cls := "HexTemplates$Bytes", name := "copy", desc := "(LHexTemplates$Bytes;)V" } : Jvm.MethodName) ({ cls := "HexTemplates$Bytes", name := "copy", desc := "(LHexTemplates$Bytes;)V" } : Jvm.MethodName)),
  (Jvm.Cond.code ({ cls := "HexTemplates$Bytes", name := "copy", desc := "(LHexTemplates$Bytes;)V" } : Jvm.MethodName) prog_2_method_5_code (3 : Nat) (Option.none : Option Jvm.ClassFile.FieldType)),
  (Jvm.Cond.methodLink "HexTemplates$Bytes" (17 : Nat) ({ cls := "java/lang/Math", name := "min", desc := "(II)I" } : Jvm.MethodName)),
  (Jvm.Cond.static ({ cls := "java/lang/Math", name := "min", desc := "(II)I" } : Jvm.MethodName)),
  (Jvm.Cond.code ({ cls := "java/lang/Math", name := "min", desc := "(II)I" } : Jvm.MethodName) prog_16_method_69_code (2 : Nat) (Option.some Jvm.ClassFile.FieldType.int)),
  (Jvm.Cond.methodLink "HexTemplates" (104 : Nat) ({ cls := "HexTemplates", name := "keepFile", desc := "()I" } : Jvm.MethodName)),
  (Jvm.Cond.instanceMethod ({ cls := "HexTemplates", name := "keepFile", desc := "()I" } : Jvm.MethodName)),
  (Jvm.Cond.code ({ cls := "HexTemplates", name := "keepFile", desc := "()I" } : Jvm.MethodName) prog_1_method_28_code (1 : Nat) (Option.some Jvm.ClassFile.FieldType.int)),
  (Jvm.Cond.methodLink "HexTemplates" (312 : Nat) ({ cls := "HexTemplates$States", name := "keep", desc := "(LHexTemplates$Bytes;)I" } : Jvm.MethodName)),
  (Jvm.Cond.instanceMethod ({ cls := "HexTemplates$States", name := "keep", desc := "(LHexTemplates$Bytes;)I" } : Jvm.MethodName)),
  (Jvm.Cond.selects "HexTemplates$States" ({ cls := "HexTemplates$States", name := "keep", desc := "(LHexTemplates$Bytes;)I" } : Jvm.MethodName) ({ cls := "HexTemplates$States", name := "keep", desc := "(LHexTemplates$Bytes;)I" } : Jvm.MethodName)),
  (Jvm.Cond.code ({ cls := "HexTemplates$States", name := "keep", desc := "(LHexTemplates$Bytes;)I" } : Jvm.MethodName) prog_8_method_7_code (3 : Nat) (Option.some Jvm.ClassFile.FieldType.int)),
  (Jvm.Cond.methodLink "HexTemplates$States" (36 : Nat) ({ cls := "HexTemplates$States", name := "isFull", desc := "()Z" } : Jvm.MethodName)),
  (Jvm.Cond.methodLink "HexTemplates$States" (45 : Nat) ({ cls := "HexTemplates$Bytes", name := "get", desc := "(I)I" } : Jvm.MethodName))]
def xt_i5 : List Nat := [286, 287, 288, 289, 290, 316, 317, 318, 319, 320, 388, 390, 404, 405, 406, 407, 408, 409, 410, 411, 412, 413, 414, 415, 416, 417, 418, 419, 420, 421, 422, 424, 426, 427, 428, 429, 430, 431, 432, 433]
theorem xt_g5_0 : xt_g5.take 10 = (xt_i5.take 10).filterMap (fun i => lw_tbl[i]?) := by decide +kernel
theorem xt_g5_1 : (xt_g5.drop 10).take 10 = ((xt_i5.drop 10).take 10).filterMap (fun i => lw_tbl[i]?) := by decide +kernel
theorem xt_g5_2 : ((xt_g5.drop 10).drop 10).take 10 = (((xt_i5.drop 10).drop 10).take 10).filterMap (fun i => lw_tbl[i]?) := by decide +kernel
theorem xt_g5_3 : (((xt_g5.drop 10).drop 10).drop 10) = (((xt_i5.drop 10).drop 10).drop 10).filterMap (fun i => lw_tbl[i]?) := by decide +kernel
theorem xt_g5_p : xt_g5 = xt_i5.filterMap (fun i => lw_tbl[i]?) := xt_cut 10 xt_g5_0 (xt_cut 10 xt_g5_1 (xt_cut 10 xt_g5_2 (xt_g5_3)))
theorem xt_g5_t : xt_g5.all xr_tw = true := by decide +kernel
def xt_g6 : List Cond := [(Jvm.Cond.instanceMethod ({ cls := "HexTemplates$Bytes", name := "get", desc := "(I)I" } : Jvm.MethodName)),
  (Jvm.Cond.selects "HexTemplates$Bytes" ({ cls := "HexTemplates$Bytes", name := "get", desc := "(I)I" } : Jvm.MethodName) ({ cls := "HexTemplates$Bytes", name := "get", desc := "(I)I" } : Jvm.MethodName)),
  (Jvm.Cond.code ({ cls := "HexTemplates$Bytes", name := "get", desc := "(I)I" } : Jvm.MethodName) prog_2_method_2_code (2 : Nat) (Option.some Jvm.ClassFile.FieldType.int)),
  (Jvm.Cond.methodLink "HexTemplatesLaw" (116 : Nat) ({ cls := "HexTemplates", name := "template", desc := "(I)I" } : Jvm.MethodName)),
  (Jvm.Cond.instanceMethod ({ cls := "HexTemplates", name := "template", desc := "(I)I" } : Jvm.MethodName)),
  (Jvm.Cond.selects "HexTemplates" ({ cls := "HexTemplates", name := "template", desc := "(I)I" } : Jvm.MethodName) ({ cls := "HexTemplates", name := "template", desc := "(I)I" } : Jvm.MethodName)),
  (Jvm.Cond.code ({ cls := "HexTemplates", name := "template", desc := "(I)I" } : Jvm.MethodName) prog_1_method_4_code (4 : Nat) (Option.some Jvm.ClassFile.FieldType.int)),
  (Jvm.Cond.methodLink "HexTemplates" (110 : Nat) ({ cls := "HexTemplates", name := "nextTemplate", desc := "()LHexTemplates$Template;" } : Jvm.MethodName)),
  (Jvm.Cond.instanceMethod ({ cls := "HexTemplates", name := "nextTemplate", desc := "()LHexTemplates$Template;" } : Jvm.MethodName)),
  (Jvm.Cond.code ({ cls := "HexTemplates", name := "nextTemplate", desc := "()LHexTemplates$Template;" } : Jvm.MethodName) prog_1_method_27_code (1 : Nat) (Option.some (Jvm.ClassFile.FieldType.object "HexTemplates$Template"))),
  (Jvm.Cond.instantiable "HexTemplates$Template" (21 : Nat)),
  (Jvm.Cond.methodLinkNest "HexTemplates" (311 : Nat) ({ cls := "HexTemplates$Template", name := "<init>", desc := "()V" } : Jvm.MethodName) "HexTemplates"),
  (Jvm.Cond.instanceMethod ({ cls := "HexTemplates$Template", name := "<init>", desc := "()V" } : Jvm.MethodName)),
  (Jvm.Cond.code ({ cls := "HexTemplates$Template", name := "<init>", desc := "()V" } : Jvm.MethodName) prog_9_method_1_code (1 : Nat) (Option.none : Option Jvm.ClassFile.FieldType)),
  (Jvm.Cond.methodLink "HexTemplates$Template" (3 : Nat) ({ cls := "java/lang/Object", name := "<init>", desc := "()V" } : Jvm.MethodName)),
  (Jvm.Cond.fieldLink "HexTemplates$Template" (9 : Nat) "HexTemplates$Template" "rank" "I"),
  (Jvm.Cond.fieldLink "HexTemplates" (120 : Nat) "HexTemplates$Template" "rank" "I"),
  (Jvm.Cond.fieldLink "HexTemplates$Template" (15 : Nat) "HexTemplates$Template" "structureCount" "I"),
  (Jvm.Cond.fieldLink "HexTemplates$Reader" (55 : Nat) "HexTemplates$Template" "structureCount" "I"),
  (Jvm.Cond.fieldLink "HexTemplates$Parser" (47 : Nat) "HexTemplates$Template" "structureCount" "I"),
  (Jvm.Cond.fieldLink "HexTemplates$Template" (18 : Nat) "HexTemplates$Template" "termCount" "I"),
  (Jvm.Cond.fieldLink "HexTemplates$Parser" (160 : Nat) "HexTemplates$Template" "termCount" "I"),
  (Jvm.Cond.fieldLink "HexTemplates$Template" (21 : Nat) "HexTemplates$Template" "choiceCount" "I"),
  (Jvm.Cond.fieldLink "HexTemplates$Parser" (89 : Nat) "HexTemplates$Template" "choiceCount" "I"),
  (Jvm.Cond.fieldLink "HexTemplates$Template" (24 : Nat) "HexTemplates$Template" "structureName" "[I"),
  (Jvm.Cond.fieldLink "HexTemplates$Reader" (87 : Nat) "HexTemplates$Template" "structureName" "[I"),
  (Jvm.Cond.fieldLink "HexTemplates$Parser" (77 : Nat) "HexTemplates$Template" "structureName" "[I"),
  (Jvm.Cond.fieldLink "HexTemplates$Template" (28 : Nat) "HexTemplates$Template" "fieldCount" "[I"),
  (Jvm.Cond.fieldLink "HexTemplates$Reader" (76 : Nat) "HexTemplates$Template" "fieldCount" "[I"),
  (Jvm.Cond.fieldLink "HexTemplates$Parser" (80 : Nat) "HexTemplates$Template" "fieldCount" "[I"),
  (Jvm.Cond.fieldLink "HexTemplates$Template" (31 : Nat) "HexTemplates$Template" "terms" "[I"),
  (Jvm.Cond.fieldLink "HexTemplates$Reader" (187 : Nat) "HexTemplates$Template" "terms" "[I"),
  (Jvm.Cond.fieldLink "HexTemplates$Template" (34 : Nat) "HexTemplates$Template" "termSign" "[I"),
  (Jvm.Cond.fieldLink "HexTemplates$Reader" (190 : Nat) "HexTemplates$Template" "termSign" "[I"),
  (Jvm.Cond.fieldLink "HexTemplates$Template" (37 : Nat) "HexTemplates$Template" "choices" "[I"),
  (Jvm.Cond.fieldLink "HexTemplates$Parser" (92 : Nat) "HexTemplates$Template" "choices" "[I"),
  (Jvm.Cond.fieldLink "HexTemplates$Reader" (163 : Nat) "HexTemplates$Template" "choices" "[I"),
  (Jvm.Cond.fieldLink "HexTemplates$Template" (40 : Nat) "HexTemplates$Template" "name" "[I"),
  (Jvm.Cond.fieldLink "HexTemplates$Reader" (90 : Nat) "HexTemplates$Template" "name" "[I"),
  (Jvm.Cond.fieldLink "HexTemplates$Parser" (111 : Nat) "HexTemplates$Template" "name" "[I")]
def xt_i6 : List Nat := [434, 435, 436, 437, 438, 439, 440, 442, 444, 445, 446, 447, 448, 449, 450, 451, 452, 453, 454, 455, 456, 457, 458, 459, 460, 461, 462, 463, 464, 465, 466, 467, 468, 469, 470, 471, 472, 473, 474, 475]
theorem xt_g6_0 : xt_g6.take 10 = (xt_i6.take 10).filterMap (fun i => lw_tbl[i]?) := by decide +kernel
theorem xt_g6_1 : (xt_g6.drop 10).take 10 = ((xt_i6.drop 10).take 10).filterMap (fun i => lw_tbl[i]?) := by decide +kernel
theorem xt_g6_2 : ((xt_g6.drop 10).drop 10).take 10 = (((xt_i6.drop 10).drop 10).take 10).filterMap (fun i => lw_tbl[i]?) := by decide +kernel
theorem xt_g6_3 : (((xt_g6.drop 10).drop 10).drop 10) = (((xt_i6.drop 10).drop 10).drop 10).filterMap (fun i => lw_tbl[i]?) := by decide +kernel
theorem xt_g6_p : xt_g6 = xt_i6.filterMap (fun i => lw_tbl[i]?) := xt_cut 10 xt_g6_0 (xt_cut 10 xt_g6_1 (xt_cut 10 xt_g6_2 (xt_g6_3)))
theorem xt_g6_t : xt_g6.all xr_tw = true := by decide +kernel
def xt_g7 : List Cond := [(Jvm.Cond.fieldLink "HexTemplates$Template" (43 : Nat) "HexTemplates$Template" "type" "[I"),
  (Jvm.Cond.fieldLink "HexTemplates$Reader" (97 : Nat) "HexTemplates$Template" "type" "[I"),
  (Jvm.Cond.fieldLink "HexTemplates$Parser" (105 : Nat) "HexTemplates$Template" "type" "[I"),
  (Jvm.Cond.fieldLink "HexTemplates$Template" (46 : Nat) "HexTemplates$Template" "bits" "[I"),
  (Jvm.Cond.fieldLink "HexTemplates$Reader" (129 : Nat) "HexTemplates$Template" "bits" "[I"),
  (Jvm.Cond.fieldLink "HexTemplates$Parser" (123 : Nat) "HexTemplates$Template" "bits" "[I"),
  (Jvm.Cond.fieldLink "HexTemplates$Template" (49 : Nat) "HexTemplates$Template" "shift" "[I"),
  (Jvm.Cond.fieldLink "HexTemplates$Reader" (126 : Nat) "HexTemplates$Template" "shift" "[I"),
  (Jvm.Cond.fieldLink "HexTemplates$Parser" (144 : Nat) "HexTemplates$Template" "shift" "[I"),
  (Jvm.Cond.fieldLink "HexTemplates$Template" (52 : Nat) "HexTemplates$Template" "sumFrom" "[I"),
  (Jvm.Cond.fieldLink "HexTemplates$Parser" (157 : Nat) "HexTemplates$Template" "sumFrom" "[I"),
  (Jvm.Cond.fieldLink "HexTemplates$Reader" (181 : Nat) "HexTemplates$Template" "sumFrom" "[I"),
  (Jvm.Cond.fieldLink "HexTemplates$Template" (55 : Nat) "HexTemplates$Template" "sumTo" "[I"),
  (Jvm.Cond.fieldLink "HexTemplates$Reader" (184 : Nat) "HexTemplates$Template" "sumTo" "[I"),
  (Jvm.Cond.fieldLink "HexTemplates$Parser" (173 : Nat) "HexTemplates$Template" "sumTo" "[I"),
  (Jvm.Cond.fieldLink "HexTemplates$Template" (58 : Nat) "HexTemplates$Template" "choiceFrom" "[I"),
  (Jvm.Cond.fieldLink "HexTemplates$Reader" (153 : Nat) "HexTemplates$Template" "choiceFrom" "[I"),
  (Jvm.Cond.fieldLink "HexTemplates$Parser" (126 : Nat) "HexTemplates$Template" "choiceFrom" "[I"),
  (Jvm.Cond.fieldLink "HexTemplates$Template" (61 : Nat) "HexTemplates$Template" "choiceTo" "[I"),
  (Jvm.Cond.fieldLink "HexTemplates$Reader" (156 : Nat) "HexTemplates$Template" "choiceTo" "[I"),
  (Jvm.Cond.fieldLink "HexTemplates$Parser" (129 : Nat) "HexTemplates$Template" "choiceTo" "[I"),
  (Jvm.Cond.fieldLink "HexTemplates$Template" (64 : Nat) "HexTemplates$Template" "way" "[I"),
  (Jvm.Cond.fieldLink "HexTemplates$Reader" (166 : Nat) "HexTemplates$Template" "way" "[I"),
  (Jvm.Cond.fieldLink "HexTemplates$Parser" (147 : Nat) "HexTemplates$Template" "way" "[I"),
  (Jvm.Cond.fieldLink "HexTemplates$Template" (67 : Nat) "HexTemplates$Template" "end" "[I"),
  (Jvm.Cond.fieldLink "HexTemplates$Reader" (178 : Nat) "HexTemplates$Template" "end" "[I"),
  (Jvm.Cond.fieldLink "HexTemplates$Parser" (150 : Nat) "HexTemplates$Template" "end" "[I"),
  (Jvm.Cond.fieldLink "HexTemplates$Template" (70 : Nat) "HexTemplates$Template" "relation" "[I"),
  (Jvm.Cond.fieldLink "HexTemplates$Reader" (140 : Nat) "HexTemplates$Template" "relation" "[I"),
  (Jvm.Cond.fieldLink "HexTemplates$Parser" (95 : Nat) "HexTemplates$Template" "relation" "[I"),
  (Jvm.Cond.fieldLink "HexTemplates$Template" (73 : Nat) "HexTemplates$Template" "argument" "[I"),
  (Jvm.Cond.fieldLink "HexTemplates$Reader" (143 : Nat) "HexTemplates$Template" "argument" "[I"),
  (Jvm.Cond.fieldLink "HexTemplates$Parser" (98 : Nat) "HexTemplates$Template" "argument" "[I"),
  (Jvm.Cond.methodLink "HexTemplates" (114 : Nat) ({ cls := "HexTemplates$Parser", name := "parse", desc := "(LHexTemplates$Bytes;LHexTemplates$Template;)Z" } : Jvm.MethodName)),
  (Jvm.Cond.instanceMethod ({ cls := "HexTemplates$Parser", name := "parse", desc := "(LHexTemplates$Bytes;LHexTemplates$Template;)Z" } : Jvm.MethodName)),
  (Jvm.Cond.selects "HexTemplates$Parser" ({ cls := "HexTemplates$Parser", name := "parse", desc := "(LHexTemplates$Bytes;LHexTemplates$Template;)Z" } : Jvm.MethodName) ({ cls := "HexTemplates$Parser", name := "parse", desc := "(LHexTemplates$Bytes;LHexTemplates$Template;)Z" } : Jvm.MethodName)),
  (Jvm.Cond.code ({ cls := "HexTemplates$Parser", name := "parse", desc := "(LHexTemplates$Bytes;LHexTemplates$Template;)Z" } : Jvm.MethodName) prog_6_method_2_code (5 : Nat) (Option.some Jvm.ClassFile.FieldType.boolean)),
  (Jvm.Cond.methodLink "HexTemplates$Parser" (32 : Nat) ({ cls := "HexTemplates$Parser", name := "begin", desc := "(LHexTemplates$Bytes;LHexTemplates$Template;)V" } : Jvm.MethodName)),
  (Jvm.Cond.instanceMethod ({ cls := "HexTemplates$Parser", name := "begin", desc := "(LHexTemplates$Bytes;LHexTemplates$Template;)V" } : Jvm.MethodName)),
  (Jvm.Cond.code ({ cls := "HexTemplates$Parser", name := "begin", desc := "(LHexTemplates$Bytes;LHexTemplates$Template;)V" } : Jvm.MethodName) prog_6_method_3_code (3 : Nat) (Option.none : Option Jvm.ClassFile.FieldType))]
def xt_i7 : List Nat := [476, 477, 478, 479, 480, 481, 482, 483, 484, 485, 486, 487, 488, 489, 490, 491, 492, 493, 494, 495, 496, 497, 498, 499, 500, 501, 502, 503, 504, 505, 506, 507, 508, 552, 553, 554, 555, 556, 558, 559]
theorem xt_g7_0 : xt_g7.take 10 = (xt_i7.take 10).filterMap (fun i => lw_tbl[i]?) := by decide +kernel
theorem xt_g7_1 : (xt_g7.drop 10).take 10 = ((xt_i7.drop 10).take 10).filterMap (fun i => lw_tbl[i]?) := by decide +kernel
theorem xt_g7_2 : ((xt_g7.drop 10).drop 10).take 10 = (((xt_i7.drop 10).drop 10).take 10).filterMap (fun i => lw_tbl[i]?) := by decide +kernel
theorem xt_g7_3 : (((xt_g7.drop 10).drop 10).drop 10) = (((xt_i7.drop 10).drop 10).drop 10).filterMap (fun i => lw_tbl[i]?) := by decide +kernel
theorem xt_g7_p : xt_g7 = xt_i7.filterMap (fun i => lw_tbl[i]?) := xt_cut 10 xt_g7_0 (xt_cut 10 xt_g7_1 (xt_cut 10 xt_g7_2 (xt_g7_3)))
theorem xt_g7_t : xt_g7.all xr_tw = true := by decide +kernel
def xt_g8 : List Cond := [(Jvm.Cond.methodLink "HexTemplates$Parser" (55 : Nat) ({ cls := "HexTemplates$Template", name := "clear", desc := "()V" } : Jvm.MethodName)),
  (Jvm.Cond.instanceMethod ({ cls := "HexTemplates$Template", name := "clear", desc := "()V" } : Jvm.MethodName)),
  (Jvm.Cond.selects "HexTemplates$Template" ({ cls := "HexTemplates$Template", name := "clear", desc := "()V" } : Jvm.MethodName) ({ cls := "HexTemplates$Template", name := "clear", desc := "()V" } : Jvm.MethodName)),
  (Jvm.Cond.code ({ cls := "HexTemplates$Template", name := "clear", desc := "()V" } : Jvm.MethodName) prog_9_method_2_code (1 : Nat) (Option.none : Option Jvm.ClassFile.FieldType)),
  (Jvm.Cond.methodLink "HexTemplates$Parser" (58 : Nat) ({ cls := "HexTemplates$Parser", name := "advance", desc := "()V" } : Jvm.MethodName)),
  (Jvm.Cond.instanceMethod ({ cls := "HexTemplates$Parser", name := "advance", desc := "()V" } : Jvm.MethodName)),
  (Jvm.Cond.code ({ cls := "HexTemplates$Parser", name := "advance", desc := "()V" } : Jvm.MethodName) prog_6_method_4_code (1 : Nat) (Option.none : Option Jvm.ClassFile.FieldType)),
  (Jvm.Cond.methodLink "HexTemplates$Parser" (36 : Nat) ({ cls := "HexTemplates$Parser", name := "openStructure", desc := "(I)Z" } : Jvm.MethodName)),
  (Jvm.Cond.instanceMethod ({ cls := "HexTemplates$Parser", name := "openStructure", desc := "(I)Z" } : Jvm.MethodName)),
  (Jvm.Cond.code ({ cls := "HexTemplates$Parser", name := "openStructure", desc := "(I)Z" } : Jvm.MethodName) prog_6_method_8_code (2 : Nat) (Option.some Jvm.ClassFile.FieldType.boolean)),
  (Jvm.Cond.methodLink "HexTemplates$Parser" (70 : Nat) ({ cls := "HexTemplates$Parser", name := "isName", desc := "()Z" } : Jvm.MethodName)),
  (Jvm.Cond.instanceMethod ({ cls := "HexTemplates$Parser", name := "isName", desc := "()Z" } : Jvm.MethodName)),
  (Jvm.Cond.code ({ cls := "HexTemplates$Parser", name := "isName", desc := "()Z" } : Jvm.MethodName) prog_6_method_6_code (1 : Nat) (Option.some Jvm.ClassFile.FieldType.boolean)),
  (Jvm.Cond.methodLink "HexTemplates$Parser" (73 : Nat) ({ cls := "HexTemplates$Template", name := "structureNamed", desc := "(I)I" } : Jvm.MethodName)),
  (Jvm.Cond.instanceMethod ({ cls := "HexTemplates$Template", name := "structureNamed", desc := "(I)I" } : Jvm.MethodName)),
  (Jvm.Cond.selects "HexTemplates$Template" ({ cls := "HexTemplates$Template", name := "structureNamed", desc := "(I)I" } : Jvm.MethodName) ({ cls := "HexTemplates$Template", name := "structureNamed", desc := "(I)I" } : Jvm.MethodName)),
  (Jvm.Cond.code ({ cls := "HexTemplates$Template", name := "structureNamed", desc := "(I)I" } : Jvm.MethodName) prog_9_method_3_code (3 : Nat) (Option.some Jvm.ClassFile.FieldType.int)),
  (Jvm.Cond.methodLink "HexTemplates$Parser" (83 : Nat) ({ cls := "HexTemplates$Parser", name := "accept", desc := "(I)Z" } : Jvm.MethodName)),
  (Jvm.Cond.instanceMethod ({ cls := "HexTemplates$Parser", name := "accept", desc := "(I)Z" } : Jvm.MethodName)),
  (Jvm.Cond.code ({ cls := "HexTemplates$Parser", name := "accept", desc := "(I)Z" } : Jvm.MethodName) prog_6_method_5_code (2 : Nat) (Option.some Jvm.ClassFile.FieldType.boolean)),
  (Jvm.Cond.methodLink "HexTemplates$Parser" (40 : Nat) ({ cls := "HexTemplates$Parser", name := "parseField", desc := "(I)Z" } : Jvm.MethodName)),
  (Jvm.Cond.instanceMethod ({ cls := "HexTemplates$Parser", name := "parseField", desc := "(I)Z" } : Jvm.MethodName)),
  (Jvm.Cond.code ({ cls := "HexTemplates$Parser", name := "parseField", desc := "(I)Z" } : Jvm.MethodName) prog_6_method_12_code (3 : Nat) (Option.some Jvm.ClassFile.FieldType.boolean)),
  (Jvm.Cond.methodLink "HexTemplates$Parser" (101 : Nat) ({ cls := "HexTemplates$Template", name := "placeOf", desc := "(II)I" } : Jvm.MethodName)),
  (Jvm.Cond.instanceMethod ({ cls := "HexTemplates$Template", name := "placeOf", desc := "(II)I" } : Jvm.MethodName)),
  (Jvm.Cond.selects "HexTemplates$Template" ({ cls := "HexTemplates$Template", name := "placeOf", desc := "(II)I" } : Jvm.MethodName) ({ cls := "HexTemplates$Template", name := "placeOf", desc := "(II)I" } : Jvm.MethodName)),
  (Jvm.Cond.code ({ cls := "HexTemplates$Template", name := "placeOf", desc := "(II)I" } : Jvm.MethodName) prog_9_method_4_code (4 : Nat) (Option.some Jvm.ClassFile.FieldType.int)),
  (Jvm.Cond.methodLink "HexTemplates$Parser" (108 : Nat) ({ cls := "HexTemplates$Parser", name := "parseType", desc := "(I)Z" } : Jvm.MethodName)),
  (Jvm.Cond.instanceMethod ({ cls := "HexTemplates$Parser", name := "parseType", desc := "(I)Z" } : Jvm.MethodName)),
  (Jvm.Cond.code ({ cls := "HexTemplates$Parser", name := "parseType", desc := "(I)Z" } : Jvm.MethodName) prog_6_method_13_code (3 : Nat) (Option.some Jvm.ClassFile.FieldType.boolean)),
  (Jvm.Cond.methodLink "HexTemplates$Parser" (117 : Nat) ({ cls := "HexTemplates$Parser", name := "parseNames", desc := "(I)Z" } : Jvm.MethodName)),
  (Jvm.Cond.instanceMethod ({ cls := "HexTemplates$Parser", name := "parseNames", desc := "(I)Z" } : Jvm.MethodName)),
  (Jvm.Cond.code ({ cls := "HexTemplates$Parser", name := "parseNames", desc := "(I)Z" } : Jvm.MethodName) prog_6_method_16_code (3 : Nat) (Option.some Jvm.ClassFile.FieldType.boolean)),
  (Jvm.Cond.methodLink "HexTemplates$Parser" (132 : Nat) ({ cls := "HexTemplates$Parser", name := "parseChoice", desc := "()Z" } : Jvm.MethodName)),
  (Jvm.Cond.instanceMethod ({ cls := "HexTemplates$Parser", name := "parseChoice", desc := "()Z" } : Jvm.MethodName)),
  (Jvm.Cond.code ({ cls := "HexTemplates$Parser", name := "parseChoice", desc := "()Z" } : Jvm.MethodName) prog_6_method_14_code (1 : Nat) (Option.some Jvm.ClassFile.FieldType.boolean)),
  (Jvm.Cond.methodLink "HexTemplates$Parser" (141 : Nat) ({ cls := "HexTemplates$Template", name := "addChoice", desc := "(I)Z" } : Jvm.MethodName)),
  (Jvm.Cond.instanceMethod ({ cls := "HexTemplates$Template", name := "addChoice", desc := "(I)Z" } : Jvm.MethodName)),
  (Jvm.Cond.selects "HexTemplates$Template" ({ cls := "HexTemplates$Template", name := "addChoice", desc := "(I)Z" } : Jvm.MethodName) ({ cls := "HexTemplates$Template", name := "addChoice", desc := "(I)Z" } : Jvm.MethodName)),
  (Jvm.Cond.code ({ cls := "HexTemplates$Template", name := "addChoice", desc := "(I)Z" } : Jvm.MethodName) prog_9_method_9_code (2 : Nat) (Option.some Jvm.ClassFile.FieldType.boolean))]
def xt_i8 : List Nat := [560, 561, 562, 563, 564, 566, 567, 568, 570, 571, 572, 574, 575, 576, 577, 578, 579, 580, 582, 583, 584, 586, 587, 588, 589, 590, 591, 592, 594, 595, 596, 598, 599, 600, 602, 603, 604, 605, 606, 607]
theorem xt_g8_0 : xt_g8.take 10 = (xt_i8.take 10).filterMap (fun i => lw_tbl[i]?) := by decide +kernel
theorem xt_g8_1 : (xt_g8.drop 10).take 10 = ((xt_i8.drop 10).take 10).filterMap (fun i => lw_tbl[i]?) := by decide +kernel
theorem xt_g8_2 : ((xt_g8.drop 10).drop 10).take 10 = (((xt_i8.drop 10).drop 10).take 10).filterMap (fun i => lw_tbl[i]?) := by decide +kernel
theorem xt_g8_3 : (((xt_g8.drop 10).drop 10).drop 10) = (((xt_i8.drop 10).drop 10).drop 10).filterMap (fun i => lw_tbl[i]?) := by decide +kernel
theorem xt_g8_p : xt_g8 = xt_i8.filterMap (fun i => lw_tbl[i]?) := xt_cut 10 xt_g8_0 (xt_cut 10 xt_g8_1 (xt_cut 10 xt_g8_2 (xt_g8_3)))
theorem xt_g8_t : xt_g8.all xr_tw = true := by decide +kernel
def xt_g9 : List Cond := [(Jvm.Cond.methodLink "HexTemplates$Parser" (120 : Nat) ({ cls := "HexTemplates$Parser", name := "parseCount", desc := "(I)Z" } : Jvm.MethodName)),
  (Jvm.Cond.instanceMethod ({ cls := "HexTemplates$Parser", name := "parseCount", desc := "(I)Z" } : Jvm.MethodName)),
  (Jvm.Cond.code ({ cls := "HexTemplates$Parser", name := "parseCount", desc := "(I)Z" } : Jvm.MethodName) prog_6_method_17_code (2 : Nat) (Option.some Jvm.ClassFile.FieldType.boolean)),
  (Jvm.Cond.methodLink "HexTemplates$Parser" (153 : Nat) ({ cls := "HexTemplates$Parser", name := "parseInt", desc := "()I" } : Jvm.MethodName)),
  (Jvm.Cond.instanceMethod ({ cls := "HexTemplates$Parser", name := "parseInt", desc := "()I" } : Jvm.MethodName)),
  (Jvm.Cond.code ({ cls := "HexTemplates$Parser", name := "parseInt", desc := "()I" } : Jvm.MethodName) prog_6_method_19_code (3 : Nat) (Option.some Jvm.ClassFile.FieldType.int)),
  (Jvm.Cond.methodLink "HexTemplates$Parser" (163 : Nat) ({ cls := "HexTemplates$Parser", name := "isDigit", desc := "()Z" } : Jvm.MethodName)),
  (Jvm.Cond.instanceMethod ({ cls := "HexTemplates$Parser", name := "isDigit", desc := "()Z" } : Jvm.MethodName)),
  (Jvm.Cond.code ({ cls := "HexTemplates$Parser", name := "isDigit", desc := "()Z" } : Jvm.MethodName) prog_6_method_7_code (1 : Nat) (Option.some Jvm.ClassFile.FieldType.boolean)),
  (Jvm.Cond.methodLink "HexTemplates$Parser" (176 : Nat) ({ cls := "java/lang/Math", name := "max", desc := "(II)I" } : Jvm.MethodName)),
  (Jvm.Cond.static ({ cls := "java/lang/Math", name := "max", desc := "(II)I" } : Jvm.MethodName)),
  (Jvm.Cond.code ({ cls := "java/lang/Math", name := "max", desc := "(II)I" } : Jvm.MethodName) prog_16_method_65_code (2 : Nat) (Option.some Jvm.ClassFile.FieldType.int)),
  (Jvm.Cond.methodLink "HexTemplates$Parser" (138 : Nat) ({ cls := "HexTemplates$Parser", name := "parseSum", desc := "(I)Z" } : Jvm.MethodName)),
  (Jvm.Cond.instanceMethod ({ cls := "HexTemplates$Parser", name := "parseSum", desc := "(I)Z" } : Jvm.MethodName)),
  (Jvm.Cond.code ({ cls := "HexTemplates$Parser", name := "parseSum", desc := "(I)Z" } : Jvm.MethodName) prog_6_method_18_code (6 : Nat) (Option.some Jvm.ClassFile.FieldType.boolean)),
  (Jvm.Cond.methodLink "HexTemplates$Parser" (166 : Nat) ({ cls := "HexTemplates$Template", name := "isNumeric", desc := "(I)Z" } : Jvm.MethodName)),
  (Jvm.Cond.instanceMethod ({ cls := "HexTemplates$Template", name := "isNumeric", desc := "(I)Z" } : Jvm.MethodName)),
  (Jvm.Cond.selects "HexTemplates$Template" ({ cls := "HexTemplates$Template", name := "isNumeric", desc := "(I)Z" } : Jvm.MethodName) ({ cls := "HexTemplates$Template", name := "isNumeric", desc := "(I)Z" } : Jvm.MethodName)),
  (Jvm.Cond.code ({ cls := "HexTemplates$Template", name := "isNumeric", desc := "(I)Z" } : Jvm.MethodName) prog_9_method_5_code (3 : Nat) (Option.some Jvm.ClassFile.FieldType.boolean)),
  (Jvm.Cond.methodLink "HexTemplates$Template" (76 : Nat) ({ cls := "HexTemplates$Template", name := "isRelatable", desc := "(I)Z" } : Jvm.MethodName)),
  (Jvm.Cond.instanceMethod ({ cls := "HexTemplates$Template", name := "isRelatable", desc := "(I)Z" } : Jvm.MethodName)),
  (Jvm.Cond.selects "HexTemplates$Template" ({ cls := "HexTemplates$Template", name := "isRelatable", desc := "(I)Z" } : Jvm.MethodName) ({ cls := "HexTemplates$Template", name := "isRelatable", desc := "(I)Z" } : Jvm.MethodName)),
  (Jvm.Cond.code ({ cls := "HexTemplates$Template", name := "isRelatable", desc := "(I)Z" } : Jvm.MethodName) prog_9_method_7_code (3 : Nat) (Option.some Jvm.ClassFile.FieldType.boolean)),
  (Jvm.Cond.methodLink "HexTemplates$Parser" (169 : Nat) ({ cls := "HexTemplates$Template", name := "addTerm", desc := "(II)Z" } : Jvm.MethodName)),
  (Jvm.Cond.instanceMethod ({ cls := "HexTemplates$Template", name := "addTerm", desc := "(II)Z" } : Jvm.MethodName)),
  (Jvm.Cond.selects "HexTemplates$Template" ({ cls := "HexTemplates$Template", name := "addTerm", desc := "(II)Z" } : Jvm.MethodName) ({ cls := "HexTemplates$Template", name := "addTerm", desc := "(II)Z" } : Jvm.MethodName)),
  (Jvm.Cond.code ({ cls := "HexTemplates$Template", name := "addTerm", desc := "(II)Z" } : Jvm.MethodName) prog_9_method_8_code (3 : Nat) (Option.some Jvm.ClassFile.FieldType.boolean)),
  (Jvm.Cond.methodLink "HexTemplates$Parser" (135 : Nat) ({ cls := "HexTemplates$Parser", name := "parseBits", desc := "(I)Z" } : Jvm.MethodName)),
  (Jvm.Cond.instanceMethod ({ cls := "HexTemplates$Parser", name := "parseBits", desc := "(I)Z" } : Jvm.MethodName)),
  (Jvm.Cond.code ({ cls := "HexTemplates$Parser", name := "parseBits", desc := "(I)Z" } : Jvm.MethodName) prog_6_method_15_code (3 : Nat) (Option.some Jvm.ClassFile.FieldType.boolean)),
  (Jvm.Cond.methodLink "HexTemplates$Parser" (114 : Nat) ({ cls := "HexTemplates$Parser", name := "parseRelation", desc := "(I)Z" } : Jvm.MethodName)),
  (Jvm.Cond.instanceMethod ({ cls := "HexTemplates$Parser", name := "parseRelation", desc := "(I)Z" } : Jvm.MethodName)),
  (Jvm.Cond.code ({ cls := "HexTemplates$Parser", name := "parseRelation", desc := "(I)Z" } : Jvm.MethodName) prog_6_method_20_code (2 : Nat) (Option.some Jvm.ClassFile.FieldType.boolean)),
  (Jvm.Cond.methodLink "HexTemplates$Parser" (181 : Nat) ({ cls := "HexTemplates$Template", name := "isRelatable", desc := "(I)Z" } : Jvm.MethodName)),
  (Jvm.Cond.methodLink "HexTemplates$Parser" (43 : Nat) ({ cls := "HexTemplates$Parser", name := "closeStructure", desc := "()Z" } : Jvm.MethodName)),
  (Jvm.Cond.instanceMethod ({ cls := "HexTemplates$Parser", name := "closeStructure", desc := "()Z" } : Jvm.MethodName)),
  (Jvm.Cond.code ({ cls := "HexTemplates$Parser", name := "closeStructure", desc := "()Z" } : Jvm.MethodName) prog_6_method_9_code (2 : Nat) (Option.some Jvm.ClassFile.FieldType.boolean)),
  (Jvm.Cond.methodLink "HexTemplates$Parser" (86 : Nat) ({ cls := "HexTemplates$Parser", name := "resolveRelation", desc := "(I)Z" } : Jvm.MethodName)),
  (Jvm.Cond.instanceMethod ({ cls := "HexTemplates$Parser", name := "resolveRelation", desc := "(I)Z" } : Jvm.MethodName)),
  (Jvm.Cond.code ({ cls := "HexTemplates$Parser", name := "resolveRelation", desc := "(I)Z" } : Jvm.MethodName) prog_6_method_11_code (5 : Nat) (Option.some Jvm.ClassFile.FieldType.boolean))]
def xt_i9 : List Nat := [608, 610, 611, 612, 614, 615, 616, 618, 619, 620, 621, 622, 623, 625, 626, 627, 628, 629, 630, 631, 632, 633, 634, 635, 636, 637, 638, 639, 641, 642, 643, 645, 646, 647, 648, 650, 651, 652, 654, 655]
theorem xt_g9_0 : xt_g9.take 10 = (xt_i9.take 10).filterMap (fun i => lw_tbl[i]?) := by decide +kernel
theorem xt_g9_1 : (xt_g9.drop 10).take 10 = ((xt_i9.drop 10).take 10).filterMap (fun i => lw_tbl[i]?) := by decide +kernel
theorem xt_g9_2 : ((xt_g9.drop 10).drop 10).take 10 = (((xt_i9.drop 10).drop 10).take 10).filterMap (fun i => lw_tbl[i]?) := by decide +kernel
theorem xt_g9_3 : (((xt_g9.drop 10).drop 10).drop 10) = (((xt_i9.drop 10).drop 10).drop 10).filterMap (fun i => lw_tbl[i]?) := by decide +kernel
theorem xt_g9_p : xt_g9 = xt_i9.filterMap (fun i => lw_tbl[i]?) := xt_cut 10 xt_g9_0 (xt_cut 10 xt_g9_1 (xt_cut 10 xt_g9_2 (xt_g9_3)))
theorem xt_g9_t : xt_g9.all xr_tw = true := by decide +kernel
def xt_g10 : List Cond := [(Jvm.Cond.methodLink "HexTemplates$Parser" (52 : Nat) ({ cls := "HexTemplates$Parser", name := "resolveChoices", desc := "()Z" } : Jvm.MethodName)),
  (Jvm.Cond.instanceMethod ({ cls := "HexTemplates$Parser", name := "resolveChoices", desc := "()Z" } : Jvm.MethodName)),
  (Jvm.Cond.code ({ cls := "HexTemplates$Parser", name := "resolveChoices", desc := "()Z" } : Jvm.MethodName) prog_6_method_10_code (2 : Nat) (Option.some Jvm.ClassFile.FieldType.boolean)),
  (Jvm.Cond.methodLink "HexTemplatesLaw" (119 : Nat) ({ cls := "HexTemplatesLaw", name := "cell", desc := "([II)I" } : Jvm.MethodName)),
  (Jvm.Cond.static ({ cls := "HexTemplatesLaw", name := "cell", desc := "([II)I" } : Jvm.MethodName)),
  (Jvm.Cond.code ({ cls := "HexTemplatesLaw", name := "cell", desc := "([II)I" } : Jvm.MethodName) method_2_code (2 : Nat) (Option.some Jvm.ClassFile.FieldType.int)),
  (Jvm.Cond.constant "HexTemplatesLaw" (7 : Nat) (51797 : Int32)),
  (Jvm.Cond.constant "HexTemplatesLaw" (8 : Nat) (2957131 : Int32)),
  (Jvm.Cond.methodLink "HexTemplatesLaw" (90 : Nat) ({ cls := "HexTemplatesLaw", name := "low", desc := "(II)I" } : Jvm.MethodName)),
  (Jvm.Cond.static ({ cls := "HexTemplatesLaw", name := "low", desc := "(II)I" } : Jvm.MethodName)),
  (Jvm.Cond.code ({ cls := "HexTemplatesLaw", name := "low", desc := "(II)I" } : Jvm.MethodName) method_3_code (2 : Nat) (Option.some Jvm.ClassFile.FieldType.int)),
  (Jvm.Cond.constant "HexTemplatesLaw" (9 : Nat) (2147483647 : Int32)),
  (Jvm.Cond.methodLink "HexTemplatesLaw" (103 : Nat) ({ cls := "HexTemplatesLaw", name := "calls", desc := "(LHexTemplates;IIII)I" } : Jvm.MethodName)),
  (Jvm.Cond.static ({ cls := "HexTemplatesLaw", name := "calls", desc := "(LHexTemplates;IIII)I" } : Jvm.MethodName)),
  (Jvm.Cond.codeWith ({ cls := "HexTemplatesLaw", name := "calls", desc := "(LHexTemplates;IIII)I" } : Jvm.MethodName) method_4_code (6 : Nat) (Option.some Jvm.ClassFile.FieldType.int) [((0 : Nat), (72 : Nat), (73 : Nat), (31 : Nat)), ((0 : Nat), (72 : Nat), (79 : Nat), (33 : Nat))]),
  (Jvm.Cond.classLink "HexTemplatesLaw" (31 : Nat) "java/lang/IndexOutOfBoundsException"),
  (Jvm.Cond.classLink "HexTemplatesLaw" (33 : Nat) "java/lang/IllegalStateException"),
  (Jvm.Cond.methodLink "HexTemplatesLaw" (10 : Nat) ({ cls := "HexTemplates", name := "insert", desc := "(III)I" } : Jvm.MethodName)),
  (Jvm.Cond.instanceMethod ({ cls := "HexTemplates", name := "insert", desc := "(III)I" } : Jvm.MethodName)),
  (Jvm.Cond.selects "HexTemplates" ({ cls := "HexTemplates", name := "insert", desc := "(III)I" } : Jvm.MethodName) ({ cls := "HexTemplates", name := "insert", desc := "(III)I" } : Jvm.MethodName)),
  (Jvm.Cond.code ({ cls := "HexTemplates", name := "insert", desc := "(III)I" } : Jvm.MethodName) prog_1_method_21_code (6 : Nat) (Option.some Jvm.ClassFile.FieldType.int)),
  (Jvm.Cond.methodLink "HexTemplates" (169 : Nat) ({ cls := "HexTemplates", name := "checkNode", desc := "(I)V" } : Jvm.MethodName)),
  (Jvm.Cond.instanceMethod ({ cls := "HexTemplates", name := "checkNode", desc := "(I)V" } : Jvm.MethodName)),
  (Jvm.Cond.code ({ cls := "HexTemplates", name := "checkNode", desc := "(I)V" } : Jvm.MethodName) prog_1_method_32_code (2 : Nat) (Option.none : Option Jvm.ClassFile.FieldType)),
  (Jvm.Cond.methodLink "HexTemplates" (145 : Nat) ({ cls := "HexTemplates", name := "readFile", desc := "()V" } : Jvm.MethodName)),
  (Jvm.Cond.instanceMethod ({ cls := "HexTemplates", name := "readFile", desc := "()V" } : Jvm.MethodName)),
  (Jvm.Cond.code ({ cls := "HexTemplates", name := "readFile", desc := "()V" } : Jvm.MethodName) prog_1_method_30_code (4 : Nat) (Option.none : Option Jvm.ClassFile.FieldType)),
  (Jvm.Cond.methodLink "HexTemplates" (150 : Nat) ({ cls := "HexTemplates$Reader", name := "readAt", desc := "(LHexTemplates$Template;LHexTemplates$Bytes;II)Z" } : Jvm.MethodName)),
  (Jvm.Cond.instanceMethod ({ cls := "HexTemplates$Reader", name := "readAt", desc := "(LHexTemplates$Template;LHexTemplates$Bytes;II)Z" } : Jvm.MethodName)),
  (Jvm.Cond.selects "HexTemplates$Reader" ({ cls := "HexTemplates$Reader", name := "readAt", desc := "(LHexTemplates$Template;LHexTemplates$Bytes;II)Z" } : Jvm.MethodName) ({ cls := "HexTemplates$Reader", name := "readAt", desc := "(LHexTemplates$Template;LHexTemplates$Bytes;II)Z" } : Jvm.MethodName)),
  (Jvm.Cond.code ({ cls := "HexTemplates$Reader", name := "readAt", desc := "(LHexTemplates$Template;LHexTemplates$Bytes;II)Z" } : Jvm.MethodName) prog_7_method_2_code (6 : Nat) (Option.some Jvm.ClassFile.FieldType.boolean)),
  (Jvm.Cond.methodLink "HexTemplates$Reader" (60 : Nat) ({ cls := "HexTemplates$Reader", name := "readStructure", desc := "(IIII)Z" } : Jvm.MethodName)),
  (Jvm.Cond.instanceMethod ({ cls := "HexTemplates$Reader", name := "readStructure", desc := "(IIII)Z" } : Jvm.MethodName)),
  (Jvm.Cond.code ({ cls := "HexTemplates$Reader", name := "readStructure", desc := "(IIII)Z" } : Jvm.MethodName) prog_7_method_5_code (8 : Nat) (Option.some Jvm.ClassFile.FieldType.boolean)),
  (Jvm.Cond.methodLink "HexTemplates$Reader" (68 : Nat) ({ cls := "HexTemplates$Reader", name := "fail", desc := "(II)Z" } : Jvm.MethodName)),
  (Jvm.Cond.instanceMethod ({ cls := "HexTemplates$Reader", name := "fail", desc := "(II)Z" } : Jvm.MethodName)),
  (Jvm.Cond.code ({ cls := "HexTemplates$Reader", name := "fail", desc := "(II)Z" } : Jvm.MethodName) prog_7_method_3_code (3 : Nat) (Option.some Jvm.ClassFile.FieldType.boolean)),
  (Jvm.Cond.methodLink "HexTemplates$Reader" (72 : Nat) ({ cls := "HexTemplates$Reader", name := "make", desc := "(III)I" } : Jvm.MethodName)),
  (Jvm.Cond.instanceMethod ({ cls := "HexTemplates$Reader", name := "make", desc := "(III)I" } : Jvm.MethodName)),
  (Jvm.Cond.code ({ cls := "HexTemplates$Reader", name := "make", desc := "(III)I" } : Jvm.MethodName) prog_7_method_4_code (4 : Nat) (Option.some Jvm.ClassFile.FieldType.int))]
def xt_i10 : List Nat := [656, 658, 659, 661, 662, 663, 664, 665, 666, 667, 668, 669, 670, 671, 672, 673, 674, 675, 676, 677, 678, 679, 681, 682, 683, 685, 686, 687, 688, 689, 690, 691, 693, 694, 695, 697, 698, 699, 701, 702]
theorem xt_g10_0 : xt_g10.take 10 = (xt_i10.take 10).filterMap (fun i => lw_tbl[i]?) := by decide +kernel
theorem xt_g10_1 : (xt_g10.drop 10).take 10 = ((xt_i10.drop 10).take 10).filterMap (fun i => lw_tbl[i]?) := by decide +kernel
theorem xt_g10_2 : ((xt_g10.drop 10).drop 10).take 10 = (((xt_i10.drop 10).drop 10).take 10).filterMap (fun i => lw_tbl[i]?) := by decide +kernel
theorem xt_g10_3 : (((xt_g10.drop 10).drop 10).drop 10) = (((xt_i10.drop 10).drop 10).drop 10).filterMap (fun i => lw_tbl[i]?) := by decide +kernel
theorem xt_g10_p : xt_g10 = xt_i10.filterMap (fun i => lw_tbl[i]?) := xt_cut 10 xt_g10_0 (xt_cut 10 xt_g10_1 (xt_cut 10 xt_g10_2 (xt_g10_3)))
theorem xt_g10_t : xt_g10.all xr_tw = true := by decide +kernel
def xt_g11 : List Cond := [(Jvm.Cond.methodLink "HexTemplates$Reader" (64 : Nat) ({ cls := "HexTemplates$Nodes", name := "add", desc := "(IIII)I" } : Jvm.MethodName)),
  (Jvm.Cond.instanceMethod ({ cls := "HexTemplates$Nodes", name := "add", desc := "(IIII)I" } : Jvm.MethodName)),
  (Jvm.Cond.selects "HexTemplates$Nodes" ({ cls := "HexTemplates$Nodes", name := "add", desc := "(IIII)I" } : Jvm.MethodName) ({ cls := "HexTemplates$Nodes", name := "add", desc := "(IIII)I" } : Jvm.MethodName)),
  (Jvm.Cond.code ({ cls := "HexTemplates$Nodes", name := "add", desc := "(IIII)I" } : Jvm.MethodName) prog_5_method_3_code (5 : Nat) (Option.some Jvm.ClassFile.FieldType.int)),
  (Jvm.Cond.methodLink "HexTemplates$Reader" (79 : Nat) ({ cls := "HexTemplates$Reader", name := "readField", desc := "(III)Z" } : Jvm.MethodName)),
  (Jvm.Cond.instanceMethod ({ cls := "HexTemplates$Reader", name := "readField", desc := "(III)Z" } : Jvm.MethodName)),
  (Jvm.Cond.code ({ cls := "HexTemplates$Reader", name := "readField", desc := "(III)Z" } : Jvm.MethodName) prog_7_method_6_code (6 : Nat) (Option.some Jvm.ClassFile.FieldType.boolean)),
  (Jvm.Cond.methodLink "HexTemplates$Reader" (100 : Nat) ({ cls := "HexTemplates$Reader", name := "readNames", desc := "(IIII)Z" } : Jvm.MethodName)),
  (Jvm.Cond.instanceMethod ({ cls := "HexTemplates$Reader", name := "readNames", desc := "(IIII)Z" } : Jvm.MethodName)),
  (Jvm.Cond.code ({ cls := "HexTemplates$Reader", name := "readNames", desc := "(IIII)Z" } : Jvm.MethodName) prog_7_method_12_code (9 : Nat) (Option.some Jvm.ClassFile.FieldType.boolean)),
  (Jvm.Cond.methodLink "HexTemplates$Reader" (159 : Nat) ({ cls := "HexTemplates$Reader", name := "goBack", desc := "(III)V" } : Jvm.MethodName)),
  (Jvm.Cond.instanceMethod ({ cls := "HexTemplates$Reader", name := "goBack", desc := "(III)V" } : Jvm.MethodName)),
  (Jvm.Cond.code ({ cls := "HexTemplates$Reader", name := "goBack", desc := "(III)V" } : Jvm.MethodName) prog_7_method_13_code (4 : Nat) (Option.none : Option Jvm.ClassFile.FieldType)),
  (Jvm.Cond.methodLink "HexTemplates$Reader" (103 : Nat) ({ cls := "HexTemplates$Reader", name := "readArray", desc := "(III)Z" } : Jvm.MethodName)),
  (Jvm.Cond.instanceMethod ({ cls := "HexTemplates$Reader", name := "readArray", desc := "(III)Z" } : Jvm.MethodName)),
  (Jvm.Cond.code ({ cls := "HexTemplates$Reader", name := "readArray", desc := "(III)Z" } : Jvm.MethodName) prog_7_method_14_code (9 : Nat) (Option.some Jvm.ClassFile.FieldType.boolean)),
  (Jvm.Cond.methodLink "HexTemplates$Reader" (150 : Nat) ({ cls := "HexTemplates$Reader", name := "reckonSum", desc := "(II)I" } : Jvm.MethodName)),
  (Jvm.Cond.instanceMethod ({ cls := "HexTemplates$Reader", name := "reckonSum", desc := "(II)I" } : Jvm.MethodName)),
  (Jvm.Cond.code ({ cls := "HexTemplates$Reader", name := "reckonSum", desc := "(II)I" } : Jvm.MethodName) prog_7_method_18_code (11 : Nat) (Option.some Jvm.ClassFile.FieldType.int)),
  (Jvm.Cond.constantLong "HexTemplates$Reader" (193 : Nat) (-99999 : Int64)),
  (Jvm.Cond.constantLong "HexTemplates$Reader" (195 : Nat) (99999 : Int64)),
  (Jvm.Cond.methodLink "HexTemplates$Reader" (197 : Nat) ({ cls := "java/lang/Math", name := "min", desc := "(JJ)J" } : Jvm.MethodName)),
  (Jvm.Cond.static ({ cls := "java/lang/Math", name := "min", desc := "(JJ)J" } : Jvm.MethodName)),
  (Jvm.Cond.code ({ cls := "java/lang/Math", name := "min", desc := "(JJ)J" } : Jvm.MethodName) prog_16_method_70_code (4 : Nat) (Option.some Jvm.ClassFile.FieldType.long)),
  (Jvm.Cond.methodLink "HexTemplates$Reader" (203 : Nat) ({ cls := "java/lang/Math", name := "max", desc := "(JJ)J" } : Jvm.MethodName)),
  (Jvm.Cond.static ({ cls := "java/lang/Math", name := "max", desc := "(JJ)J" } : Jvm.MethodName)),
  (Jvm.Cond.code ({ cls := "java/lang/Math", name := "max", desc := "(JJ)J" } : Jvm.MethodName) prog_16_method_66_code (4 : Nat) (Option.some Jvm.ClassFile.FieldType.long)),
  (Jvm.Cond.methodLink "HexTemplates$Reader" (169 : Nat) ({ cls := "HexTemplates$Reader", name := "readWhileFine", desc := "(III)I" } : Jvm.MethodName)),
  (Jvm.Cond.instanceMethod ({ cls := "HexTemplates$Reader", name := "readWhileFine", desc := "(III)I" } : Jvm.MethodName)),
  (Jvm.Cond.code ({ cls := "HexTemplates$Reader", name := "readWhileFine", desc := "(III)I" } : Jvm.MethodName) prog_7_method_16_code (9 : Nat) (Option.some Jvm.ClassFile.FieldType.int)),
  (Jvm.Cond.methodLink "HexTemplates$Reader" (172 : Nat) ({ cls := "HexTemplates$Reader", name := "readToEnd", desc := "(III)I" } : Jvm.MethodName)),
  (Jvm.Cond.instanceMethod ({ cls := "HexTemplates$Reader", name := "readToEnd", desc := "(III)I" } : Jvm.MethodName)),
  (Jvm.Cond.code ({ cls := "HexTemplates$Reader", name := "readToEnd", desc := "(III)I" } : Jvm.MethodName) prog_7_method_17_code (8 : Nat) (Option.some Jvm.ClassFile.FieldType.int)),
  (Jvm.Cond.methodLink "HexTemplates$Reader" (137 : Nat) ({ cls := "HexTemplates$Bytes", name := "get", desc := "(I)I" } : Jvm.MethodName)),
  (Jvm.Cond.methodLink "HexTemplates$Reader" (175 : Nat) ({ cls := "HexTemplates$Reader", name := "readCounted", desc := "(IIII)Z" } : Jvm.MethodName)),
  (Jvm.Cond.instanceMethod ({ cls := "HexTemplates$Reader", name := "readCounted", desc := "(IIII)Z" } : Jvm.MethodName)),
  (Jvm.Cond.code ({ cls := "HexTemplates$Reader", name := "readCounted", desc := "(IIII)Z" } : Jvm.MethodName) prog_7_method_15_code (6 : Nat) (Option.some Jvm.ClassFile.FieldType.boolean)),
  (Jvm.Cond.methodLink "HexTemplates$Reader" (93 : Nat) ({ cls := "HexTemplates$Nodes", name := "tell", desc := "(IIII)V" } : Jvm.MethodName)),
  (Jvm.Cond.instanceMethod ({ cls := "HexTemplates$Nodes", name := "tell", desc := "(IIII)V" } : Jvm.MethodName)),
  (Jvm.Cond.selects "HexTemplates$Nodes" ({ cls := "HexTemplates$Nodes", name := "tell", desc := "(IIII)V" } : Jvm.MethodName) ({ cls := "HexTemplates$Nodes", name := "tell", desc := "(IIII)V" } : Jvm.MethodName))]
def xt_i11 : List Nat := [703, 704, 705, 706, 707, 709, 710, 711, 713, 714, 715, 717, 718, 719, 721, 722, 723, 725, 726, 727, 728, 729, 730, 731, 732, 733, 734, 735, 737, 738, 739, 741, 742, 743, 744, 746, 747, 748, 749, 750]
theorem xt_g11_0 : xt_g11.take 10 = (xt_i11.take 10).filterMap (fun i => lw_tbl[i]?) := by decide +kernel
theorem xt_g11_1 : (xt_g11.drop 10).take 10 = ((xt_i11.drop 10).take 10).filterMap (fun i => lw_tbl[i]?) := by decide +kernel
theorem xt_g11_2 : ((xt_g11.drop 10).drop 10).take 10 = (((xt_i11.drop 10).drop 10).take 10).filterMap (fun i => lw_tbl[i]?) := by decide +kernel
theorem xt_g11_3 : (((xt_g11.drop 10).drop 10).drop 10) = (((xt_i11.drop 10).drop 10).drop 10).filterMap (fun i => lw_tbl[i]?) := by decide +kernel
theorem xt_g11_p : xt_g11 = xt_i11.filterMap (fun i => lw_tbl[i]?) := xt_cut 10 xt_g11_0 (xt_cut 10 xt_g11_1 (xt_cut 10 xt_g11_2 (xt_g11_3)))
theorem xt_g11_t : xt_g11.all xr_tw = true := by decide +kernel
def xt_g12 : List Cond := [(Jvm.Cond.code ({ cls := "HexTemplates$Nodes", name := "tell", desc := "(IIII)V" } : Jvm.MethodName) prog_5_method_4_code (5 : Nat) (Option.none : Option Jvm.ClassFile.FieldType)),
  (Jvm.Cond.methodLink "HexTemplates$Nodes" (37 : Nat) ({ cls := "HexTemplates$Nodes", name := "has", desc := "(I)Z" } : Jvm.MethodName)),
  (Jvm.Cond.instanceMethod ({ cls := "HexTemplates$Nodes", name := "has", desc := "(I)Z" } : Jvm.MethodName)),
  (Jvm.Cond.selects "HexTemplates$Nodes" ({ cls := "HexTemplates$Nodes", name := "has", desc := "(I)Z" } : Jvm.MethodName) ({ cls := "HexTemplates$Nodes", name := "has", desc := "(I)Z" } : Jvm.MethodName)),
  (Jvm.Cond.code ({ cls := "HexTemplates$Nodes", name := "has", desc := "(I)Z" } : Jvm.MethodName) prog_5_method_2_code (2 : Nat) (Option.some Jvm.ClassFile.FieldType.boolean)),
  (Jvm.Cond.methodLink "HexTemplates$Reader" (106 : Nat) ({ cls := "HexTemplates$Reader", name := "readPlain", desc := "(III)Z" } : Jvm.MethodName)),
  (Jvm.Cond.instanceMethod ({ cls := "HexTemplates$Reader", name := "readPlain", desc := "(III)Z" } : Jvm.MethodName)),
  (Jvm.Cond.code ({ cls := "HexTemplates$Reader", name := "readPlain", desc := "(III)Z" } : Jvm.MethodName) prog_7_method_7_code (7 : Nat) (Option.some Jvm.ClassFile.FieldType.boolean)),
  (Jvm.Cond.methodLink "HexTemplates$Reader" (109 : Nat) ({ cls := "HexTemplates$Template", name := "kindOf", desc := "(I)I" } : Jvm.MethodName)),
  (Jvm.Cond.instanceMethod ({ cls := "HexTemplates$Template", name := "kindOf", desc := "(I)I" } : Jvm.MethodName)),
  (Jvm.Cond.selects "HexTemplates$Template" ({ cls := "HexTemplates$Template", name := "kindOf", desc := "(I)I" } : Jvm.MethodName) ({ cls := "HexTemplates$Template", name := "kindOf", desc := "(I)I" } : Jvm.MethodName)),
  (Jvm.Cond.code ({ cls := "HexTemplates$Template", name := "kindOf", desc := "(I)I" } : Jvm.MethodName) prog_9_method_6_code (2 : Nat) (Option.some Jvm.ClassFile.FieldType.int)),
  (Jvm.Cond.methodLink "HexTemplates$Reader" (113 : Nat) ({ cls := "HexTemplates$Reader", name := "measureCounted", desc := "(II)Z" } : Jvm.MethodName)),
  (Jvm.Cond.instanceMethod ({ cls := "HexTemplates$Reader", name := "measureCounted", desc := "(II)Z" } : Jvm.MethodName)),
  (Jvm.Cond.code ({ cls := "HexTemplates$Reader", name := "measureCounted", desc := "(II)Z" } : Jvm.MethodName) prog_7_method_10_code (4 : Nat) (Option.some Jvm.ClassFile.FieldType.boolean)),
  (Jvm.Cond.methodLink "HexTemplates$Reader" (116 : Nat) ({ cls := "HexTemplates$Reader", name := "measureEnded", desc := "(I)Z" } : Jvm.MethodName)),
  (Jvm.Cond.instanceMethod ({ cls := "HexTemplates$Reader", name := "measureEnded", desc := "(I)Z" } : Jvm.MethodName)),
  (Jvm.Cond.code ({ cls := "HexTemplates$Reader", name := "measureEnded", desc := "(I)Z" } : Jvm.MethodName) prog_7_method_11_code (3 : Nat) (Option.some Jvm.ClassFile.FieldType.boolean)),
  (Jvm.Cond.methodLink "HexTemplates$Reader" (120 : Nat) ({ cls := "HexTemplates$Reader", name := "measureBits", desc := "(II)Z" } : Jvm.MethodName)),
  (Jvm.Cond.instanceMethod ({ cls := "HexTemplates$Reader", name := "measureBits", desc := "(II)Z" } : Jvm.MethodName)),
  (Jvm.Cond.code ({ cls := "HexTemplates$Reader", name := "measureBits", desc := "(II)Z" } : Jvm.MethodName) prog_7_method_9_code (3 : Nat) (Option.some Jvm.ClassFile.FieldType.boolean)),
  (Jvm.Cond.methodLink "HexTemplates$Reader" (146 : Nat) ({ cls := "HexTemplates$Reader", name := "cut", desc := "(II)I" } : Jvm.MethodName)),
  (Jvm.Cond.instanceMethod ({ cls := "HexTemplates$Reader", name := "cut", desc := "(II)I" } : Jvm.MethodName)),
  (Jvm.Cond.code ({ cls := "HexTemplates$Reader", name := "cut", desc := "(II)I" } : Jvm.MethodName) prog_7_method_21_code (3 : Nat) (Option.some Jvm.ClassFile.FieldType.int)),
  (Jvm.Cond.methodLink "HexTemplates$Reader" (123 : Nat) ({ cls := "HexTemplates$Reader", name := "measureNumber", desc := "(II)Z" } : Jvm.MethodName)),
  (Jvm.Cond.instanceMethod ({ cls := "HexTemplates$Reader", name := "measureNumber", desc := "(II)Z" } : Jvm.MethodName)),
  (Jvm.Cond.code ({ cls := "HexTemplates$Reader", name := "measureNumber", desc := "(II)Z" } : Jvm.MethodName) prog_7_method_8_code (6 : Nat) (Option.some Jvm.ClassFile.FieldType.boolean)),
  (Jvm.Cond.methodLink "HexTemplates$Reader" (83 : Nat) ({ cls := "HexTemplates$Reader", name := "countWrongIn", desc := "(II)V" } : Jvm.MethodName)),
  (Jvm.Cond.instanceMethod ({ cls := "HexTemplates$Reader", name := "countWrongIn", desc := "(II)V" } : Jvm.MethodName)),
  (Jvm.Cond.code ({ cls := "HexTemplates$Reader", name := "countWrongIn", desc := "(II)V" } : Jvm.MethodName) prog_7_method_19_code (8 : Nat) (Option.none : Option Jvm.ClassFile.FieldType)),
  (Jvm.Cond.methodLink "HexTemplates$Reader" (206 : Nat) ({ cls := "HexTemplates$Reader", name := "reckon", desc := "(IIII)I" } : Jvm.MethodName)),
  (Jvm.Cond.instanceMethod ({ cls := "HexTemplates$Reader", name := "reckon", desc := "(IIII)I" } : Jvm.MethodName)),
  (Jvm.Cond.code ({ cls := "HexTemplates$Reader", name := "reckon", desc := "(IIII)I" } : Jvm.MethodName) prog_7_method_20_code (7 : Nat) (Option.some Jvm.ClassFile.FieldType.int)),
  (Jvm.Cond.methodLink "HexTemplates" (199 : Nat) ({ cls := "HexTemplates", name := "chosenTemplate", desc := "()LHexTemplates$Template;" } : Jvm.MethodName)),
  (Jvm.Cond.instanceMethod ({ cls := "HexTemplates", name := "chosenTemplate", desc := "()LHexTemplates$Template;" } : Jvm.MethodName)),
  (Jvm.Cond.code ({ cls := "HexTemplates", name := "chosenTemplate", desc := "()LHexTemplates$Template;" } : Jvm.MethodName) prog_1_method_29_code (1 : Nat) (Option.some (Jvm.ClassFile.FieldType.object "HexTemplates$Template"))),
  (Jvm.Cond.methodLink "HexTemplates" (319 : Nat) ({ cls := "HexTemplates$Nodes", name := "has", desc := "(I)Z" } : Jvm.MethodName)),
  (Jvm.Cond.classLink "HexTemplates" (123 : Nat) "java/lang/IndexOutOfBoundsException"),
  (Jvm.Cond.castable "java/lang/IndexOutOfBoundsException" "java/lang/IndexOutOfBoundsException"),
  (Jvm.Cond.methodLink "HexTemplates" (253 : Nat) ({ cls := "HexTemplates$Reader", name := "stringLength", desc := "(I)I" } : Jvm.MethodName))]
def xt_i12 : List Nat := [751, 752, 753, 754, 755, 756, 758, 759, 760, 761, 762, 763, 764, 766, 767, 768, 770, 771, 772, 774, 775, 776, 778, 779, 780, 782, 783, 784, 786, 787, 788, 790, 791, 792, 794, 795, 796, 797, 799, 814]
theorem xt_g12_0 : xt_g12.take 10 = (xt_i12.take 10).filterMap (fun i => lw_tbl[i]?) := by decide +kernel
theorem xt_g12_1 : (xt_g12.drop 10).take 10 = ((xt_i12.drop 10).take 10).filterMap (fun i => lw_tbl[i]?) := by decide +kernel
theorem xt_g12_2 : ((xt_g12.drop 10).drop 10).take 10 = (((xt_i12.drop 10).drop 10).take 10).filterMap (fun i => lw_tbl[i]?) := by decide +kernel
theorem xt_g12_3 : (((xt_g12.drop 10).drop 10).drop 10) = (((xt_i12.drop 10).drop 10).drop 10).filterMap (fun i => lw_tbl[i]?) := by decide +kernel
theorem xt_g12_p : xt_g12 = xt_i12.filterMap (fun i => lw_tbl[i]?) := xt_cut 10 xt_g12_0 (xt_cut 10 xt_g12_1 (xt_cut 10 xt_g12_2 (xt_g12_3)))
theorem xt_g12_t : xt_g12.all xr_tw = true := by decide +kernel
def xt_g13 : List Cond := [(Jvm.Cond.instanceMethod ({ cls := "HexTemplates$Reader", name := "stringLength", desc := "(I)I" } : Jvm.MethodName)),
  (Jvm.Cond.selects "HexTemplates$Reader" ({ cls := "HexTemplates$Reader", name := "stringLength", desc := "(I)I" } : Jvm.MethodName) ({ cls := "HexTemplates$Reader", name := "stringLength", desc := "(I)I" } : Jvm.MethodName)),
  (Jvm.Cond.code ({ cls := "HexTemplates$Reader", name := "stringLength", desc := "(I)I" } : Jvm.MethodName) prog_7_method_32_code (2 : Nat) (Option.some Jvm.ClassFile.FieldType.int)),
  (Jvm.Cond.methodLink "HexTemplates$Reader" (209 : Nat) ({ cls := "HexTemplates$Nodes", name := "has", desc := "(I)Z" } : Jvm.MethodName)),
  (Jvm.Cond.methodLink "HexTemplates$Reader" (244 : Nat) ({ cls := "HexTemplates$Reader", name := "isEndedByZero", desc := "(I)Z" } : Jvm.MethodName)),
  (Jvm.Cond.instanceMethod ({ cls := "HexTemplates$Reader", name := "isEndedByZero", desc := "(I)Z" } : Jvm.MethodName)),
  (Jvm.Cond.selects "HexTemplates$Reader" ({ cls := "HexTemplates$Reader", name := "isEndedByZero", desc := "(I)Z" } : Jvm.MethodName) ({ cls := "HexTemplates$Reader", name := "isEndedByZero", desc := "(I)Z" } : Jvm.MethodName)),
  (Jvm.Cond.code ({ cls := "HexTemplates$Reader", name := "isEndedByZero", desc := "(I)Z" } : Jvm.MethodName) prog_7_method_31_code (2 : Nat) (Option.some Jvm.ClassFile.FieldType.boolean)),
  (Jvm.Cond.methodLink "HexTemplates$Reader" (238 : Nat) ({ cls := "HexTemplates$Reader", name := "typeOf", desc := "(I)I" } : Jvm.MethodName)),
  (Jvm.Cond.instanceMethod ({ cls := "HexTemplates$Reader", name := "typeOf", desc := "(I)I" } : Jvm.MethodName)),
  (Jvm.Cond.selects "HexTemplates$Reader" ({ cls := "HexTemplates$Reader", name := "typeOf", desc := "(I)I" } : Jvm.MethodName) ({ cls := "HexTemplates$Reader", name := "typeOf", desc := "(I)I" } : Jvm.MethodName)),
  (Jvm.Cond.code ({ cls := "HexTemplates$Reader", name := "typeOf", desc := "(I)I" } : Jvm.MethodName) prog_7_method_27_code (3 : Nat) (Option.some Jvm.ClassFile.FieldType.int)),
  (Jvm.Cond.methodLink "HexTemplates" (256 : Nat) ({ cls := "HexTemplates", name := "checkPlace", desc := "(II)V" } : Jvm.MethodName)),
  (Jvm.Cond.instanceMethod ({ cls := "HexTemplates", name := "checkPlace", desc := "(II)V" } : Jvm.MethodName)),
  (Jvm.Cond.code ({ cls := "HexTemplates", name := "checkPlace", desc := "(II)V" } : Jvm.MethodName) prog_1_method_34_code (3 : Nat) (Option.none : Option Jvm.ClassFile.FieldType)),
  (Jvm.Cond.methodLink "HexTemplates" (260 : Nat) ({ cls := "HexTemplates$Reader", name := "isEndedByZero", desc := "(I)Z" } : Jvm.MethodName)),
  (Jvm.Cond.methodLink "HexTemplates" (241 : Nat) ({ cls := "HexTemplates$Editor", name := "begin", desc := "(LHexTemplates$Bytes;)V" } : Jvm.MethodName)),
  (Jvm.Cond.instanceMethod ({ cls := "HexTemplates$Editor", name := "begin", desc := "(LHexTemplates$Bytes;)V" } : Jvm.MethodName)),
  (Jvm.Cond.selects "HexTemplates$Editor" ({ cls := "HexTemplates$Editor", name := "begin", desc := "(LHexTemplates$Bytes;)V" } : Jvm.MethodName) ({ cls := "HexTemplates$Editor", name := "begin", desc := "(LHexTemplates$Bytes;)V" } : Jvm.MethodName)),
  (Jvm.Cond.code ({ cls := "HexTemplates$Editor", name := "begin", desc := "(LHexTemplates$Bytes;)V" } : Jvm.MethodName) prog_3_method_2_code (2 : Nat) (Option.none : Option Jvm.ClassFile.FieldType)),
  (Jvm.Cond.methodLink "HexTemplates$Editor" (24 : Nat) ({ cls := "HexTemplates$Bytes", name := "copy", desc := "(LHexTemplates$Bytes;)V" } : Jvm.MethodName)),
  (Jvm.Cond.methodLink "HexTemplates" (265 : Nat) ({ cls := "HexTemplates$Editor", name := "putIn", desc := "(LHexTemplates$Reader;III)Z" } : Jvm.MethodName)),
  (Jvm.Cond.instanceMethod ({ cls := "HexTemplates$Editor", name := "putIn", desc := "(LHexTemplates$Reader;III)Z" } : Jvm.MethodName)),
  (Jvm.Cond.selects "HexTemplates$Editor" ({ cls := "HexTemplates$Editor", name := "putIn", desc := "(LHexTemplates$Reader;III)Z" } : Jvm.MethodName) ({ cls := "HexTemplates$Editor", name := "putIn", desc := "(LHexTemplates$Reader;III)Z" } : Jvm.MethodName)),
  (Jvm.Cond.code ({ cls := "HexTemplates$Editor", name := "putIn", desc := "(LHexTemplates$Reader;III)Z" } : Jvm.MethodName) prog_3_method_4_code (7 : Nat) (Option.some Jvm.ClassFile.FieldType.boolean)),
  (Jvm.Cond.methodLink "HexTemplates$Editor" (70 : Nat) ({ cls := "HexTemplates$Editor", name := "write", desc := "(LHexTemplates$Reader;II)V" } : Jvm.MethodName)),
  (Jvm.Cond.instanceMethod ({ cls := "HexTemplates$Editor", name := "write", desc := "(LHexTemplates$Reader;II)V" } : Jvm.MethodName)),
  (Jvm.Cond.selects "HexTemplates$Editor" ({ cls := "HexTemplates$Editor", name := "write", desc := "(LHexTemplates$Reader;II)V" } : Jvm.MethodName) ({ cls := "HexTemplates$Editor", name := "write", desc := "(LHexTemplates$Reader;II)V" } : Jvm.MethodName)),
  (Jvm.Cond.code ({ cls := "HexTemplates$Editor", name := "write", desc := "(LHexTemplates$Reader;II)V" } : Jvm.MethodName) prog_3_method_3_code (7 : Nat) (Option.none : Option Jvm.ClassFile.FieldType)),
  (Jvm.Cond.methodLink "HexTemplates$Editor" (40 : Nat) ({ cls := "HexTemplates$Reader", name := "typeOf", desc := "(I)I" } : Jvm.MethodName)),
  (Jvm.Cond.methodLink "HexTemplates$Editor" (44 : Nat) ({ cls := "HexTemplates$Bytes", name := "put", desc := "(II)V" } : Jvm.MethodName)),
  (Jvm.Cond.instanceMethod ({ cls := "HexTemplates$Bytes", name := "put", desc := "(II)V" } : Jvm.MethodName)),
  (Jvm.Cond.selects "HexTemplates$Bytes" ({ cls := "HexTemplates$Bytes", name := "put", desc := "(II)V" } : Jvm.MethodName) ({ cls := "HexTemplates$Bytes", name := "put", desc := "(II)V" } : Jvm.MethodName)),
  (Jvm.Cond.code ({ cls := "HexTemplates$Bytes", name := "put", desc := "(II)V" } : Jvm.MethodName) prog_2_method_3_code (3 : Nat) (Option.none : Option Jvm.ClassFile.FieldType)),
  (Jvm.Cond.methodLink "HexTemplates$Editor" (48 : Nat) ({ cls := "HexTemplates$Reader", name := "shiftOf", desc := "(I)I" } : Jvm.MethodName)),
  (Jvm.Cond.instanceMethod ({ cls := "HexTemplates$Reader", name := "shiftOf", desc := "(I)I" } : Jvm.MethodName)),
  (Jvm.Cond.selects "HexTemplates$Reader" ({ cls := "HexTemplates$Reader", name := "shiftOf", desc := "(I)I" } : Jvm.MethodName) ({ cls := "HexTemplates$Reader", name := "shiftOf", desc := "(I)I" } : Jvm.MethodName)),
  (Jvm.Cond.code ({ cls := "HexTemplates$Reader", name := "shiftOf", desc := "(I)I" } : Jvm.MethodName) prog_7_method_30_code (2 : Nat) (Option.some Jvm.ClassFile.FieldType.int)),
  (Jvm.Cond.methodLink "HexTemplates$Editor" (51 : Nat) ({ cls := "HexTemplates$Bytes", name := "get", desc := "(I)I" } : Jvm.MethodName)),
  (Jvm.Cond.methodLink "HexTemplates$Editor" (54 : Nat) ({ cls := "HexTemplates$Reader", name := "greatest", desc := "(I)I" } : Jvm.MethodName))]
def xt_i13 : List Nat := [815, 816, 817, 818, 819, 820, 821, 822, 823, 824, 825, 826, 827, 829, 830, 832, 834, 835, 836, 837, 838, 839, 840, 841, 842, 843, 844, 845, 846, 847, 848, 849, 850, 851, 852, 853, 854, 855, 856, 857]
theorem xt_g13_0 : xt_g13.take 10 = (xt_i13.take 10).filterMap (fun i => lw_tbl[i]?) := by decide +kernel
theorem xt_g13_1 : (xt_g13.drop 10).take 10 = ((xt_i13.drop 10).take 10).filterMap (fun i => lw_tbl[i]?) := by decide +kernel
theorem xt_g13_2 : ((xt_g13.drop 10).drop 10).take 10 = (((xt_i13.drop 10).drop 10).take 10).filterMap (fun i => lw_tbl[i]?) := by decide +kernel
theorem xt_g13_3 : (((xt_g13.drop 10).drop 10).drop 10) = (((xt_i13.drop 10).drop 10).drop 10).filterMap (fun i => lw_tbl[i]?) := by decide +kernel
theorem xt_g13_p : xt_g13 = xt_i13.filterMap (fun i => lw_tbl[i]?) := xt_cut 10 xt_g13_0 (xt_cut 10 xt_g13_1 (xt_cut 10 xt_g13_2 (xt_g13_3)))
theorem xt_g13_t : xt_g13.all xr_tw = true := by decide +kernel
def xt_g14 : List Cond := [(Jvm.Cond.instanceMethod ({ cls := "HexTemplates$Reader", name := "greatest", desc := "(I)I" } : Jvm.MethodName)),
  (Jvm.Cond.selects "HexTemplates$Reader" ({ cls := "HexTemplates$Reader", name := "greatest", desc := "(I)I" } : Jvm.MethodName) ({ cls := "HexTemplates$Reader", name := "greatest", desc := "(I)I" } : Jvm.MethodName)),
  (Jvm.Cond.code ({ cls := "HexTemplates$Reader", name := "greatest", desc := "(I)I" } : Jvm.MethodName) prog_7_method_29_code (3 : Nat) (Option.some Jvm.ClassFile.FieldType.int)),
  (Jvm.Cond.methodLink "HexTemplates$Editor" (74 : Nat) ({ cls := "HexTemplates$Editor", name := "tellNewLengths", desc := "(LHexTemplates$Reader;III)V" } : Jvm.MethodName)),
  (Jvm.Cond.instanceMethod ({ cls := "HexTemplates$Editor", name := "tellNewLengths", desc := "(LHexTemplates$Reader;III)V" } : Jvm.MethodName)),
  (Jvm.Cond.code ({ cls := "HexTemplates$Editor", name := "tellNewLengths", desc := "(LHexTemplates$Reader;III)V" } : Jvm.MethodName) prog_3_method_6_code (9 : Nat) (Option.none : Option Jvm.ClassFile.FieldType)),
  (Jvm.Cond.methodLink "HexTemplates$Editor" (91 : Nat) ({ cls := "HexTemplates$Reader", name := "relationOf", desc := "(I)I" } : Jvm.MethodName)),
  (Jvm.Cond.instanceMethod ({ cls := "HexTemplates$Reader", name := "relationOf", desc := "(I)I" } : Jvm.MethodName)),
  (Jvm.Cond.selects "HexTemplates$Reader" ({ cls := "HexTemplates$Reader", name := "relationOf", desc := "(I)I" } : Jvm.MethodName) ({ cls := "HexTemplates$Reader", name := "relationOf", desc := "(I)I" } : Jvm.MethodName)),
  (Jvm.Cond.code ({ cls := "HexTemplates$Reader", name := "relationOf", desc := "(I)I" } : Jvm.MethodName) prog_7_method_22_code (3 : Nat) (Option.some Jvm.ClassFile.FieldType.int)),
  (Jvm.Cond.methodLink "HexTemplates$Editor" (94 : Nat) ({ cls := "HexTemplates$Reader", name := "otherOf", desc := "(I)I" } : Jvm.MethodName)),
  (Jvm.Cond.instanceMethod ({ cls := "HexTemplates$Reader", name := "otherOf", desc := "(I)I" } : Jvm.MethodName)),
  (Jvm.Cond.selects "HexTemplates$Reader" ({ cls := "HexTemplates$Reader", name := "otherOf", desc := "(I)I" } : Jvm.MethodName) ({ cls := "HexTemplates$Reader", name := "otherOf", desc := "(I)I" } : Jvm.MethodName)),
  (Jvm.Cond.code ({ cls := "HexTemplates$Reader", name := "otherOf", desc := "(I)I" } : Jvm.MethodName) prog_7_method_23_code (3 : Nat) (Option.some Jvm.ClassFile.FieldType.int)),
  (Jvm.Cond.methodLink "HexTemplates$Reader" (215 : Nat) ({ cls := "HexTemplates$Reader", name := "relationOf", desc := "(I)I" } : Jvm.MethodName)),
  (Jvm.Cond.methodLink "HexTemplates$Reader" (221 : Nat) ({ cls := "HexTemplates$Nodes", name := "fieldIn", desc := "(II)I" } : Jvm.MethodName)),
  (Jvm.Cond.instanceMethod ({ cls := "HexTemplates$Nodes", name := "fieldIn", desc := "(II)I" } : Jvm.MethodName)),
  (Jvm.Cond.selects "HexTemplates$Nodes" ({ cls := "HexTemplates$Nodes", name := "fieldIn", desc := "(II)I" } : Jvm.MethodName) ({ cls := "HexTemplates$Nodes", name := "fieldIn", desc := "(II)I" } : Jvm.MethodName)),
  (Jvm.Cond.code ({ cls := "HexTemplates$Nodes", name := "fieldIn", desc := "(II)I" } : Jvm.MethodName) prog_5_method_6_code (4 : Nat) (Option.some Jvm.ClassFile.FieldType.int)),
  (Jvm.Cond.methodLink "HexTemplates$Editor" (97 : Nat) ({ cls := "HexTemplates$Nodes", name := "holds", desc := "(II)Z" } : Jvm.MethodName)),
  (Jvm.Cond.instanceMethod ({ cls := "HexTemplates$Nodes", name := "holds", desc := "(II)Z" } : Jvm.MethodName)),
  (Jvm.Cond.selects "HexTemplates$Nodes" ({ cls := "HexTemplates$Nodes", name := "holds", desc := "(II)Z" } : Jvm.MethodName) ({ cls := "HexTemplates$Nodes", name := "holds", desc := "(II)Z" } : Jvm.MethodName)),
  (Jvm.Cond.code ({ cls := "HexTemplates$Nodes", name := "holds", desc := "(II)Z" } : Jvm.MethodName) prog_5_method_9_code (5 : Nat) (Option.some Jvm.ClassFile.FieldType.boolean)),
  (Jvm.Cond.methodLink "HexTemplates$Editor" (78 : Nat) ({ cls := "HexTemplates$Bytes", name := "open", desc := "(II)Z" } : Jvm.MethodName)),
  (Jvm.Cond.instanceMethod ({ cls := "HexTemplates$Bytes", name := "open", desc := "(II)Z" } : Jvm.MethodName)),
  (Jvm.Cond.selects "HexTemplates$Bytes" ({ cls := "HexTemplates$Bytes", name := "open", desc := "(II)Z" } : Jvm.MethodName) ({ cls := "HexTemplates$Bytes", name := "open", desc := "(II)Z" } : Jvm.MethodName)),
  (Jvm.Cond.code ({ cls := "HexTemplates$Bytes", name := "open", desc := "(II)Z" } : Jvm.MethodName) prog_2_method_6_code (4 : Nat) (Option.some Jvm.ClassFile.FieldType.boolean)),
  (Jvm.Cond.methodLink "HexTemplates" (272 : Nat) ({ cls := "HexTemplates$Bytes", name := "put", desc := "(II)V" } : Jvm.MethodName)),
  (Jvm.Cond.methodLink "HexTemplates" (275 : Nat) ({ cls := "HexTemplates", name := "checkEdit", desc := "(Z)V" } : Jvm.MethodName)),
  (Jvm.Cond.instanceMethod ({ cls := "HexTemplates", name := "checkEdit", desc := "(Z)V" } : Jvm.MethodName)),
  (Jvm.Cond.code ({ cls := "HexTemplates", name := "checkEdit", desc := "(Z)V" } : Jvm.MethodName) prog_1_method_35_code (2 : Nat) (Option.none : Option Jvm.ClassFile.FieldType)),
  (Jvm.Cond.methodLink "HexTemplates" (248 : Nat) ({ cls := "HexTemplates", name := "finishEdit", desc := "()I" } : Jvm.MethodName)),
  (Jvm.Cond.instanceMethod ({ cls := "HexTemplates", name := "finishEdit", desc := "()I" } : Jvm.MethodName)),
  (Jvm.Cond.code ({ cls := "HexTemplates", name := "finishEdit", desc := "()I" } : Jvm.MethodName) prog_1_method_37_code (2 : Nat) (Option.some Jvm.ClassFile.FieldType.int)),
  (Jvm.Cond.methodLink "HexTemplates" (333 : Nat) ({ cls := "HexTemplates$Editor", name := "settleCounts", desc := "(LHexTemplates$Reader;LHexTemplates$Template;)Z" } : Jvm.MethodName)),
  (Jvm.Cond.instanceMethod ({ cls := "HexTemplates$Editor", name := "settleCounts", desc := "(LHexTemplates$Reader;LHexTemplates$Template;)Z" } : Jvm.MethodName)),
  (Jvm.Cond.selects "HexTemplates$Editor" ({ cls := "HexTemplates$Editor", name := "settleCounts", desc := "(LHexTemplates$Reader;LHexTemplates$Template;)Z" } : Jvm.MethodName) ({ cls := "HexTemplates$Editor", name := "settleCounts", desc := "(LHexTemplates$Reader;LHexTemplates$Template;)Z" } : Jvm.MethodName)),
  (Jvm.Cond.code ({ cls := "HexTemplates$Editor", name := "settleCounts", desc := "(LHexTemplates$Reader;LHexTemplates$Template;)Z" } : Jvm.MethodName) prog_3_method_7_code (4 : Nat) (Option.some Jvm.ClassFile.FieldType.boolean)),
  (Jvm.Cond.methodLink "HexTemplates$Editor" (102 : Nat) ({ cls := "HexTemplates$Reader", name := "readAt", desc := "(LHexTemplates$Template;LHexTemplates$Bytes;II)Z" } : Jvm.MethodName)),
  (Jvm.Cond.methodLink "HexTemplates$Editor" (106 : Nat) ({ cls := "HexTemplates$Editor", name := "mendCounts", desc := "(LHexTemplates$Reader;)I" } : Jvm.MethodName))]
def xt_i14 : List Nat := [858, 859, 860, 861, 863, 864, 865, 866, 867, 868, 869, 870, 871, 872, 873, 874, 875, 876, 877, 878, 879, 880, 881, 882, 883, 884, 885, 886, 887, 889, 890, 892, 894, 895, 896, 897, 898, 899, 900, 901]
theorem xt_g14_0 : xt_g14.take 10 = (xt_i14.take 10).filterMap (fun i => lw_tbl[i]?) := by decide +kernel
theorem xt_g14_1 : (xt_g14.drop 10).take 10 = ((xt_i14.drop 10).take 10).filterMap (fun i => lw_tbl[i]?) := by decide +kernel
theorem xt_g14_2 : ((xt_g14.drop 10).drop 10).take 10 = (((xt_i14.drop 10).drop 10).take 10).filterMap (fun i => lw_tbl[i]?) := by decide +kernel
theorem xt_g14_3 : (((xt_g14.drop 10).drop 10).drop 10) = (((xt_i14.drop 10).drop 10).drop 10).filterMap (fun i => lw_tbl[i]?) := by decide +kernel
theorem xt_g14_p : xt_g14 = xt_i14.filterMap (fun i => lw_tbl[i]?) := xt_cut 10 xt_g14_0 (xt_cut 10 xt_g14_1 (xt_cut 10 xt_g14_2 (xt_g14_3)))
theorem xt_g14_t : xt_g14.all xr_tw = true := by decide +kernel
def xt_g15 : List Cond := [(Jvm.Cond.instanceMethod ({ cls := "HexTemplates$Editor", name := "mendCounts", desc := "(LHexTemplates$Reader;)I" } : Jvm.MethodName)),
  (Jvm.Cond.code ({ cls := "HexTemplates$Editor", name := "mendCounts", desc := "(LHexTemplates$Reader;)I" } : Jvm.MethodName) prog_3_method_8_code (6 : Nat) (Option.some Jvm.ClassFile.FieldType.int)),
  (Jvm.Cond.methodLink "HexTemplates$Editor" (110 : Nat) ({ cls := "HexTemplates$Reader", name := "dueOf", desc := "(I)I" } : Jvm.MethodName)),
  (Jvm.Cond.instanceMethod ({ cls := "HexTemplates$Reader", name := "dueOf", desc := "(I)I" } : Jvm.MethodName)),
  (Jvm.Cond.selects "HexTemplates$Reader" ({ cls := "HexTemplates$Reader", name := "dueOf", desc := "(I)I" } : Jvm.MethodName) ({ cls := "HexTemplates$Reader", name := "dueOf", desc := "(I)I" } : Jvm.MethodName)),
  (Jvm.Cond.code ({ cls := "HexTemplates$Reader", name := "dueOf", desc := "(I)I" } : Jvm.MethodName) prog_7_method_24_code (4 : Nat) (Option.some Jvm.ClassFile.FieldType.int)),
  (Jvm.Cond.methodLink "HexTemplates$Reader" (224 : Nat) ({ cls := "HexTemplates$Reader", name := "otherOf", desc := "(I)I" } : Jvm.MethodName)),
  (Jvm.Cond.methodLink "HexTemplates" (337 : Nat) ({ cls := "HexTemplates$Editor", name := "settleSums", desc := "(LHexTemplates$Reader;)Z" } : Jvm.MethodName)),
  (Jvm.Cond.instanceMethod ({ cls := "HexTemplates$Editor", name := "settleSums", desc := "(LHexTemplates$Reader;)Z" } : Jvm.MethodName)),
  (Jvm.Cond.selects "HexTemplates$Editor" ({ cls := "HexTemplates$Editor", name := "settleSums", desc := "(LHexTemplates$Reader;)Z" } : Jvm.MethodName) ({ cls := "HexTemplates$Editor", name := "settleSums", desc := "(LHexTemplates$Reader;)Z" } : Jvm.MethodName)),
  (Jvm.Cond.code ({ cls := "HexTemplates$Editor", name := "settleSums", desc := "(LHexTemplates$Reader;)Z" } : Jvm.MethodName) prog_3_method_9_code (6 : Nat) (Option.some Jvm.ClassFile.FieldType.boolean)),
  (Jvm.Cond.methodLink "HexTemplates$Editor" (113 : Nat) ({ cls := "HexTemplates$Editor", name := "firstReady", desc := "(LHexTemplates$Reader;)I" } : Jvm.MethodName)),
  (Jvm.Cond.instanceMethod ({ cls := "HexTemplates$Editor", name := "firstReady", desc := "(LHexTemplates$Reader;)I" } : Jvm.MethodName)),
  (Jvm.Cond.code ({ cls := "HexTemplates$Editor", name := "firstReady", desc := "(LHexTemplates$Reader;)I" } : Jvm.MethodName) prog_3_method_10_code (3 : Nat) (Option.some Jvm.ClassFile.FieldType.int)),
  (Jvm.Cond.methodLink "HexTemplates$Editor" (116 : Nat) ({ cls := "HexTemplates$Editor", name := "hasLeftIn", desc := "(LHexTemplates$Nodes;I)Z" } : Jvm.MethodName)),
  (Jvm.Cond.instanceMethod ({ cls := "HexTemplates$Editor", name := "hasLeftIn", desc := "(LHexTemplates$Nodes;I)Z" } : Jvm.MethodName)),
  (Jvm.Cond.code ({ cls := "HexTemplates$Editor", name := "hasLeftIn", desc := "(LHexTemplates$Nodes;I)Z" } : Jvm.MethodName) prog_3_method_11_code (4 : Nat) (Option.some Jvm.ClassFile.FieldType.boolean)),
  (Jvm.Cond.methodLink "HexTemplates$Editor" (120 : Nat) ({ cls := "HexTemplates$Nodes", name := "has", desc := "(I)Z" } : Jvm.MethodName)),
  (Jvm.Cond.methodLink "HexTemplates" (341 : Nat) ({ cls := "HexTemplates$Editor", name := "stands", desc := "(LHexTemplates$Reader;LHexTemplates$Template;)Z" } : Jvm.MethodName)),
  (Jvm.Cond.instanceMethod ({ cls := "HexTemplates$Editor", name := "stands", desc := "(LHexTemplates$Reader;LHexTemplates$Template;)Z" } : Jvm.MethodName)),
  (Jvm.Cond.selects "HexTemplates$Editor" ({ cls := "HexTemplates$Editor", name := "stands", desc := "(LHexTemplates$Reader;LHexTemplates$Template;)Z" } : Jvm.MethodName) ({ cls := "HexTemplates$Editor", name := "stands", desc := "(LHexTemplates$Reader;LHexTemplates$Template;)Z" } : Jvm.MethodName)),
  (Jvm.Cond.code ({ cls := "HexTemplates$Editor", name := "stands", desc := "(LHexTemplates$Reader;LHexTemplates$Template;)Z" } : Jvm.MethodName) prog_3_method_12_code (3 : Nat) (Option.some Jvm.ClassFile.FieldType.boolean)),
  (Jvm.Cond.methodLink "HexTemplates$Editor" (124 : Nat) ({ cls := "HexTemplates$Reader", name := "countWrong", desc := "()I" } : Jvm.MethodName)),
  (Jvm.Cond.instanceMethod ({ cls := "HexTemplates$Reader", name := "countWrong", desc := "()I" } : Jvm.MethodName)),
  (Jvm.Cond.selects "HexTemplates$Reader" ({ cls := "HexTemplates$Reader", name := "countWrong", desc := "()I" } : Jvm.MethodName) ({ cls := "HexTemplates$Reader", name := "countWrong", desc := "()I" } : Jvm.MethodName)),
  (Jvm.Cond.code ({ cls := "HexTemplates$Reader", name := "countWrong", desc := "()I" } : Jvm.MethodName) prog_7_method_26_code (3 : Nat) (Option.some Jvm.ClassFile.FieldType.int)),
  (Jvm.Cond.methodLink "HexTemplates$Reader" (235 : Nat) ({ cls := "HexTemplates$Reader", name := "dueOf", desc := "(I)I" } : Jvm.MethodName)),
  (Jvm.Cond.methodLink "HexTemplatesLaw" (16 : Nat) ({ cls := "HexTemplates", name := "remove", desc := "(II)I" } : Jvm.MethodName)),
  (Jvm.Cond.instanceMethod ({ cls := "HexTemplates", name := "remove", desc := "(II)I" } : Jvm.MethodName)),
  (Jvm.Cond.selects "HexTemplates" ({ cls := "HexTemplates", name := "remove", desc := "(II)I" } : Jvm.MethodName) ({ cls := "HexTemplates", name := "remove", desc := "(II)I" } : Jvm.MethodName)),
  (Jvm.Cond.code ({ cls := "HexTemplates", name := "remove", desc := "(II)I" } : Jvm.MethodName) prog_1_method_22_code (3 : Nat) (Option.some Jvm.ClassFile.FieldType.int)),
  (Jvm.Cond.methodLink "HexTemplates" (279 : Nat) ({ cls := "HexTemplates$Editor", name := "takeOut", desc := "(LHexTemplates$Reader;III)V" } : Jvm.MethodName)),
  (Jvm.Cond.instanceMethod ({ cls := "HexTemplates$Editor", name := "takeOut", desc := "(LHexTemplates$Reader;III)V" } : Jvm.MethodName)),
  (Jvm.Cond.selects "HexTemplates$Editor" ({ cls := "HexTemplates$Editor", name := "takeOut", desc := "(LHexTemplates$Reader;III)V" } : Jvm.MethodName) ({ cls := "HexTemplates$Editor", name := "takeOut", desc := "(LHexTemplates$Reader;III)V" } : Jvm.MethodName)),
  (Jvm.Cond.code ({ cls := "HexTemplates$Editor", name := "takeOut", desc := "(LHexTemplates$Reader;III)V" } : Jvm.MethodName) prog_3_method_5_code (7 : Nat) (Option.none : Option Jvm.ClassFile.FieldType)),
  (Jvm.Cond.methodLink "HexTemplates$Editor" (82 : Nat) ({ cls := "java/lang/Math", name := "max", desc := "(II)I" } : Jvm.MethodName)),
  (Jvm.Cond.methodLink "HexTemplates$Editor" (88 : Nat) ({ cls := "HexTemplates$Bytes", name := "close", desc := "(II)V" } : Jvm.MethodName)),
  (Jvm.Cond.instanceMethod ({ cls := "HexTemplates$Bytes", name := "close", desc := "(II)V" } : Jvm.MethodName)),
  (Jvm.Cond.selects "HexTemplates$Bytes" ({ cls := "HexTemplates$Bytes", name := "close", desc := "(II)V" } : Jvm.MethodName) ({ cls := "HexTemplates$Bytes", name := "close", desc := "(II)V" } : Jvm.MethodName)),
  (Jvm.Cond.code ({ cls := "HexTemplates$Bytes", name := "close", desc := "(II)V" } : Jvm.MethodName) prog_2_method_7_code (4 : Nat) (Option.none : Option Jvm.ClassFile.FieldType))]
def xt_i15 : List Nat := [903, 904, 905, 906, 907, 908, 909, 910, 911, 912, 913, 914, 916, 917, 918, 920, 921, 922, 923, 924, 925, 926, 927, 928, 929, 930, 931, 933, 934, 935, 936, 937, 938, 939, 940, 941, 942, 943, 944, 945]
theorem xt_g15_0 : xt_g15.take 10 = (xt_i15.take 10).filterMap (fun i => lw_tbl[i]?) := by decide +kernel
theorem xt_g15_1 : (xt_g15.drop 10).take 10 = ((xt_i15.drop 10).take 10).filterMap (fun i => lw_tbl[i]?) := by decide +kernel
theorem xt_g15_2 : ((xt_g15.drop 10).drop 10).take 10 = (((xt_i15.drop 10).drop 10).take 10).filterMap (fun i => lw_tbl[i]?) := by decide +kernel
theorem xt_g15_3 : (((xt_g15.drop 10).drop 10).drop 10) = (((xt_i15.drop 10).drop 10).drop 10).filterMap (fun i => lw_tbl[i]?) := by decide +kernel
theorem xt_g15_p : xt_g15 = xt_i15.filterMap (fun i => lw_tbl[i]?) := xt_cut 10 xt_g15_0 (xt_cut 10 xt_g15_1 (xt_cut 10 xt_g15_2 (xt_g15_3)))
theorem xt_g15_t : xt_g15.all xr_tw = true := by decide +kernel
def xt_g16 : List Cond := [(Jvm.Cond.methodLink "HexTemplatesLaw" (20 : Nat) ({ cls := "HexTemplates", name := "element", desc := "(IIZ)I" } : Jvm.MethodName)),
  (Jvm.Cond.instanceMethod ({ cls := "HexTemplates", name := "element", desc := "(IIZ)I" } : Jvm.MethodName)),
  (Jvm.Cond.selects "HexTemplates" ({ cls := "HexTemplates", name := "element", desc := "(IIZ)I" } : Jvm.MethodName) ({ cls := "HexTemplates", name := "element", desc := "(IIZ)I" } : Jvm.MethodName)),
  (Jvm.Cond.code ({ cls := "HexTemplates", name := "element", desc := "(IIZ)I" } : Jvm.MethodName) prog_1_method_23_code (8 : Nat) (Option.some Jvm.ClassFile.FieldType.int)),
  (Jvm.Cond.methodLink "HexTemplates" (283 : Nat) ({ cls := "HexTemplates$Nodes", name := "elementAt", desc := "(II)I" } : Jvm.MethodName)),
  (Jvm.Cond.instanceMethod ({ cls := "HexTemplates$Nodes", name := "elementAt", desc := "(II)I" } : Jvm.MethodName)),
  (Jvm.Cond.selects "HexTemplates$Nodes" ({ cls := "HexTemplates$Nodes", name := "elementAt", desc := "(II)I" } : Jvm.MethodName) ({ cls := "HexTemplates$Nodes", name := "elementAt", desc := "(II)I" } : Jvm.MethodName)),
  (Jvm.Cond.code ({ cls := "HexTemplates$Nodes", name := "elementAt", desc := "(II)I" } : Jvm.MethodName) prog_5_method_8_code (5 : Nat) (Option.some Jvm.ClassFile.FieldType.int)),
  (Jvm.Cond.methodLink "HexTemplates" (287 : Nat) ({ cls := "HexTemplates$Bytes", name := "repeat", desc := "(II)V" } : Jvm.MethodName)),
  (Jvm.Cond.instanceMethod ({ cls := "HexTemplates$Bytes", name := "repeat", desc := "(II)V" } : Jvm.MethodName)),
  (Jvm.Cond.selects "HexTemplates$Bytes" ({ cls := "HexTemplates$Bytes", name := "repeat", desc := "(II)V" } : Jvm.MethodName) ({ cls := "HexTemplates$Bytes", name := "repeat", desc := "(II)V" } : Jvm.MethodName)),
  (Jvm.Cond.code ({ cls := "HexTemplates$Bytes", name := "repeat", desc := "(II)V" } : Jvm.MethodName) prog_2_method_8_code (4 : Nat) (Option.none : Option Jvm.ClassFile.FieldType)),
  (Jvm.Cond.methodLink "HexTemplates$Bytes" (23 : Nat) ({ cls := "HexTemplates$Bytes", name := "get", desc := "(I)I" } : Jvm.MethodName)),
  (Jvm.Cond.methodLink "HexTemplates$Bytes" (27 : Nat) ({ cls := "HexTemplates$Bytes", name := "put", desc := "(II)V" } : Jvm.MethodName)),
  (Jvm.Cond.methodLink "HexTemplatesLaw" (24 : Nat) ({ cls := "HexTemplates", name := "set", desc := "(II)I" } : Jvm.MethodName)),
  (Jvm.Cond.instanceMethod ({ cls := "HexTemplates", name := "set", desc := "(II)I" } : Jvm.MethodName)),
  (Jvm.Cond.selects "HexTemplates" ({ cls := "HexTemplates", name := "set", desc := "(II)I" } : Jvm.MethodName) ({ cls := "HexTemplates", name := "set", desc := "(II)I" } : Jvm.MethodName)),
  (Jvm.Cond.code ({ cls := "HexTemplates", name := "set", desc := "(II)I" } : Jvm.MethodName) prog_1_method_20_code (3 : Nat) (Option.some Jvm.ClassFile.FieldType.int)),
  (Jvm.Cond.methodLink "HexTemplates" (233 : Nat) ({ cls := "HexTemplates", name := "isFree", desc := "(I)Z" } : Jvm.MethodName)),
  (Jvm.Cond.instanceMethod ({ cls := "HexTemplates", name := "isFree", desc := "(I)Z" } : Jvm.MethodName)),
  (Jvm.Cond.code ({ cls := "HexTemplates", name := "isFree", desc := "(I)Z" } : Jvm.MethodName) prog_1_method_36_code (2 : Nat) (Option.some Jvm.ClassFile.FieldType.boolean)),
  (Jvm.Cond.methodLink "HexTemplates" (230 : Nat) ({ cls := "HexTemplates$Nodes", name := "isNumeric", desc := "(I)Z" } : Jvm.MethodName)),
  (Jvm.Cond.instanceMethod ({ cls := "HexTemplates$Nodes", name := "isNumeric", desc := "(I)Z" } : Jvm.MethodName)),
  (Jvm.Cond.selects "HexTemplates$Nodes" ({ cls := "HexTemplates$Nodes", name := "isNumeric", desc := "(I)Z" } : Jvm.MethodName) ({ cls := "HexTemplates$Nodes", name := "isNumeric", desc := "(I)Z" } : Jvm.MethodName)),
  (Jvm.Cond.code ({ cls := "HexTemplates$Nodes", name := "isNumeric", desc := "(I)Z" } : Jvm.MethodName) prog_5_method_5_code (2 : Nat) (Option.some Jvm.ClassFile.FieldType.boolean)),
  (Jvm.Cond.methodLink "HexTemplates" (330 : Nat) ({ cls := "HexTemplates$Reader", name := "relationOf", desc := "(I)I" } : Jvm.MethodName)),
  (Jvm.Cond.methodLink "HexTemplates" (236 : Nat) ({ cls := "HexTemplates$Reader", name := "greatest", desc := "(I)I" } : Jvm.MethodName)),
  (Jvm.Cond.methodLink "HexTemplates" (244 : Nat) ({ cls := "HexTemplates$Editor", name := "write", desc := "(LHexTemplates$Reader;II)V" } : Jvm.MethodName)),
  (Jvm.Cond.methodLink "HexTemplatesLaw" (27 : Nat) ({ cls := "HexTemplates", name := "repair", desc := "()I" } : Jvm.MethodName)),
  (Jvm.Cond.instanceMethod ({ cls := "HexTemplates", name := "repair", desc := "()I" } : Jvm.MethodName)),
  (Jvm.Cond.selects "HexTemplates" ({ cls := "HexTemplates", name := "repair", desc := "()I" } : Jvm.MethodName) ({ cls := "HexTemplates", name := "repair", desc := "()I" } : Jvm.MethodName)),
  (Jvm.Cond.code ({ cls := "HexTemplates", name := "repair", desc := "()I" } : Jvm.MethodName) prog_1_method_24_code (1 : Nat) (Option.some Jvm.ClassFile.FieldType.int)),
  (Jvm.Cond.methodLink "HexTemplatesLaw" (112 : Nat) ({ cls := "HexTemplatesLaw", name := "puts", desc := "(LHexTemplates;IIIIIIII)V" } : Jvm.MethodName)),
  (Jvm.Cond.static ({ cls := "HexTemplatesLaw", name := "puts", desc := "(LHexTemplates;IIIIIIII)V" } : Jvm.MethodName)),
  (Jvm.Cond.code ({ cls := "HexTemplatesLaw", name := "puts", desc := "(LHexTemplates;IIIIIIII)V" } : Jvm.MethodName) method_5_code (11 : Nat) (Option.none : Option Jvm.ClassFile.FieldType)),
  (Jvm.Cond.methodLink "HexTemplatesLaw" (45 : Nat) ({ cls := "HexTemplatesLaw", name := "atElement", desc := "(I[I[I)I" } : Jvm.MethodName)),
  (Jvm.Cond.static ({ cls := "HexTemplatesLaw", name := "atElement", desc := "(I[I[I)I" } : Jvm.MethodName)),
  (Jvm.Cond.code ({ cls := "HexTemplatesLaw", name := "atElement", desc := "(I[I[I)I" } : Jvm.MethodName) method_7_code (5 : Nat) (Option.some Jvm.ClassFile.FieldType.int)),
  (Jvm.Cond.methodLink "HexTemplatesLaw" (39 : Nat) ({ cls := "HexTemplatesLaw", name := "atArray", desc := "([I)I" } : Jvm.MethodName)),
  (Jvm.Cond.static ({ cls := "HexTemplatesLaw", name := "atArray", desc := "([I)I" } : Jvm.MethodName))]
def xt_i16 : List Nat := [946, 947, 948, 949, 950, 951, 952, 953, 954, 955, 956, 957, 958, 959, 960, 961, 962, 963, 964, 966, 967, 968, 969, 970, 971, 972, 973, 975, 976, 977, 978, 979, 980, 981, 982, 983, 984, 985, 986, 987]
theorem xt_g16_0 : xt_g16.take 10 = (xt_i16.take 10).filterMap (fun i => lw_tbl[i]?) := by decide +kernel
theorem xt_g16_1 : (xt_g16.drop 10).take 10 = ((xt_i16.drop 10).take 10).filterMap (fun i => lw_tbl[i]?) := by decide +kernel
theorem xt_g16_2 : ((xt_g16.drop 10).drop 10).take 10 = (((xt_i16.drop 10).drop 10).take 10).filterMap (fun i => lw_tbl[i]?) := by decide +kernel
theorem xt_g16_3 : (((xt_g16.drop 10).drop 10).drop 10) = (((xt_i16.drop 10).drop 10).drop 10).filterMap (fun i => lw_tbl[i]?) := by decide +kernel
theorem xt_g16_p : xt_g16 = xt_i16.filterMap (fun i => lw_tbl[i]?) := xt_cut 10 xt_g16_0 (xt_cut 10 xt_g16_1 (xt_cut 10 xt_g16_2 (xt_g16_3)))
theorem xt_g16_t : xt_g16.all xr_tw = true := by decide +kernel
def xt_g17 : List Cond := [(Jvm.Cond.code ({ cls := "HexTemplatesLaw", name := "atArray", desc := "([I)I" } : Jvm.MethodName) method_6_code (1 : Nat) (Option.some Jvm.ClassFile.FieldType.int)),
  (Jvm.Cond.methodLink "HexTemplatesLaw" (78 : Nat) ({ cls := "HexTemplatesLaw", name := "byteAt", desc := "(I[I[I[I)I" } : Jvm.MethodName)),
  (Jvm.Cond.static ({ cls := "HexTemplatesLaw", name := "byteAt", desc := "(I[I[I[I)I" } : Jvm.MethodName)),
  (Jvm.Cond.code ({ cls := "HexTemplatesLaw", name := "byteAt", desc := "(I[I[I[I)I" } : Jvm.MethodName) method_8_code (10 : Nat) (Option.some Jvm.ClassFile.FieldType.int)),
  (Jvm.Cond.methodLink "HexTemplatesLaw" (134 : Nat) ({ cls := "HexTemplatesLaw", name := "same", desc := "(LHexTemplates;I[I[I[I)Z" } : Jvm.MethodName)),
  (Jvm.Cond.static ({ cls := "HexTemplatesLaw", name := "same", desc := "(LHexTemplates;I[I[I[I)Z" } : Jvm.MethodName)),
  (Jvm.Cond.code ({ cls := "HexTemplatesLaw", name := "same", desc := "(LHexTemplates;I[I[I[I)Z" } : Jvm.MethodName) method_10_code (16 : Nat) (Option.some Jvm.ClassFile.FieldType.boolean)),
  (Jvm.Cond.methodLink "HexTemplatesLaw" (52 : Nat) ({ cls := "HexTemplates", name := "size", desc := "()I" } : Jvm.MethodName)),
  (Jvm.Cond.instanceMethod ({ cls := "HexTemplates", name := "size", desc := "()I" } : Jvm.MethodName)),
  (Jvm.Cond.selects "HexTemplates" ({ cls := "HexTemplates", name := "size", desc := "()I" } : Jvm.MethodName) ({ cls := "HexTemplates", name := "size", desc := "()I" } : Jvm.MethodName)),
  (Jvm.Cond.code ({ cls := "HexTemplates", name := "size", desc := "()I" } : Jvm.MethodName) prog_1_method_5_code (1 : Nat) (Option.some Jvm.ClassFile.FieldType.int)),
  (Jvm.Cond.methodLink "HexTemplatesLaw" (55 : Nat) ({ cls := "HexTemplates", name := "state", desc := "()I" } : Jvm.MethodName)),
  (Jvm.Cond.instanceMethod ({ cls := "HexTemplates", name := "state", desc := "()I" } : Jvm.MethodName)),
  (Jvm.Cond.selects "HexTemplates" ({ cls := "HexTemplates", name := "state", desc := "()I" } : Jvm.MethodName) ({ cls := "HexTemplates", name := "state", desc := "()I" } : Jvm.MethodName)),
  (Jvm.Cond.code ({ cls := "HexTemplates", name := "state", desc := "()I" } : Jvm.MethodName) prog_1_method_7_code (1 : Nat) (Option.some Jvm.ClassFile.FieldType.int)),
  (Jvm.Cond.methodLink "HexTemplatesLaw" (58 : Nat) ({ cls := "HexTemplates", name := "chosen", desc := "()I" } : Jvm.MethodName)),
  (Jvm.Cond.instanceMethod ({ cls := "HexTemplates", name := "chosen", desc := "()I" } : Jvm.MethodName)),
  (Jvm.Cond.selects "HexTemplates" ({ cls := "HexTemplates", name := "chosen", desc := "()I" } : Jvm.MethodName) ({ cls := "HexTemplates", name := "chosen", desc := "()I" } : Jvm.MethodName)),
  (Jvm.Cond.code ({ cls := "HexTemplates", name := "chosen", desc := "()I" } : Jvm.MethodName) prog_1_method_10_code (1 : Nat) (Option.some Jvm.ClassFile.FieldType.int)),
  (Jvm.Cond.methodLink "HexTemplatesLaw" (61 : Nat) ({ cls := "HexTemplates", name := "fault", desc := "(IZ)I" } : Jvm.MethodName)),
  (Jvm.Cond.instanceMethod ({ cls := "HexTemplates", name := "fault", desc := "(IZ)I" } : Jvm.MethodName)),
  (Jvm.Cond.selects "HexTemplates" ({ cls := "HexTemplates", name := "fault", desc := "(IZ)I" } : Jvm.MethodName) ({ cls := "HexTemplates", name := "fault", desc := "(IZ)I" } : Jvm.MethodName)),
  (Jvm.Cond.code ({ cls := "HexTemplates", name := "fault", desc := "(IZ)I" } : Jvm.MethodName) prog_1_method_11_code (3 : Nat) (Option.some Jvm.ClassFile.FieldType.int)),
  (Jvm.Cond.methodLink "HexTemplatesLaw" (65 : Nat) ({ cls := "HexTemplates", name := "wrong", desc := "()I" } : Jvm.MethodName)),
  (Jvm.Cond.instanceMethod ({ cls := "HexTemplates", name := "wrong", desc := "()I" } : Jvm.MethodName)),
  (Jvm.Cond.selects "HexTemplates" ({ cls := "HexTemplates", name := "wrong", desc := "()I" } : Jvm.MethodName) ({ cls := "HexTemplates", name := "wrong", desc := "()I" } : Jvm.MethodName)),
  (Jvm.Cond.code ({ cls := "HexTemplates", name := "wrong", desc := "()I" } : Jvm.MethodName) prog_1_method_14_code (1 : Nat) (Option.some Jvm.ClassFile.FieldType.int)),
  (Jvm.Cond.methodLink "HexTemplates" (196 : Nat) ({ cls := "HexTemplates$Reader", name := "countWrong", desc := "()I" } : Jvm.MethodName)),
  (Jvm.Cond.methodLink "HexTemplatesLaw" (68 : Nat) ({ cls := "HexTemplates", name := "wrongByAll", desc := "()I" } : Jvm.MethodName)),
  (Jvm.Cond.instanceMethod ({ cls := "HexTemplates", name := "wrongByAll", desc := "()I" } : Jvm.MethodName)),
  (Jvm.Cond.selects "HexTemplates" ({ cls := "HexTemplates", name := "wrongByAll", desc := "()I" } : Jvm.MethodName) ({ cls := "HexTemplates", name := "wrongByAll", desc := "()I" } : Jvm.MethodName)),
  (Jvm.Cond.code ({ cls := "HexTemplates", name := "wrongByAll", desc := "()I" } : Jvm.MethodName) prog_1_method_15_code (1 : Nat) (Option.some Jvm.ClassFile.FieldType.int)),
  (Jvm.Cond.methodLink "HexTemplatesLaw" (71 : Nat) ({ cls := "HexTemplates", name := "nodes", desc := "()I" } : Jvm.MethodName)),
  (Jvm.Cond.instanceMethod ({ cls := "HexTemplates", name := "nodes", desc := "()I" } : Jvm.MethodName)),
  (Jvm.Cond.selects "HexTemplates" ({ cls := "HexTemplates", name := "nodes", desc := "()I" } : Jvm.MethodName) ({ cls := "HexTemplates", name := "nodes", desc := "()I" } : Jvm.MethodName)),
  (Jvm.Cond.code ({ cls := "HexTemplates", name := "nodes", desc := "()I" } : Jvm.MethodName) prog_1_method_12_code (1 : Nat) (Option.some Jvm.ClassFile.FieldType.int)),
  (Jvm.Cond.methodLink "HexTemplatesLaw" (74 : Nat) ({ cls := "HexTemplates", name := "byteAt", desc := "(I)I" } : Jvm.MethodName)),
  (Jvm.Cond.instanceMethod ({ cls := "HexTemplates", name := "byteAt", desc := "(I)I" } : Jvm.MethodName)),
  (Jvm.Cond.selects "HexTemplates" ({ cls := "HexTemplates", name := "byteAt", desc := "(I)I" } : Jvm.MethodName) ({ cls := "HexTemplates", name := "byteAt", desc := "(I)I" } : Jvm.MethodName)),
  (Jvm.Cond.code ({ cls := "HexTemplates", name := "byteAt", desc := "(I)I" } : Jvm.MethodName) prog_1_method_6_code (2 : Nat) (Option.some Jvm.ClassFile.FieldType.int))]
def xt_i17 : List Nat := [988, 989, 990, 991, 992, 993, 994, 995, 996, 997, 998, 999, 1000, 1001, 1002, 1003, 1004, 1005, 1006, 1007, 1008, 1009, 1010, 1012, 1013, 1014, 1015, 1016, 1017, 1018, 1019, 1020, 1021, 1022, 1023, 1024, 1025, 1026, 1027, 1028]
theorem xt_g17_0 : xt_g17.take 10 = (xt_i17.take 10).filterMap (fun i => lw_tbl[i]?) := by decide +kernel
theorem xt_g17_1 : (xt_g17.drop 10).take 10 = ((xt_i17.drop 10).take 10).filterMap (fun i => lw_tbl[i]?) := by decide +kernel
theorem xt_g17_2 : ((xt_g17.drop 10).drop 10).take 10 = (((xt_i17.drop 10).drop 10).take 10).filterMap (fun i => lw_tbl[i]?) := by decide +kernel
theorem xt_g17_3 : (((xt_g17.drop 10).drop 10).drop 10) = (((xt_i17.drop 10).drop 10).drop 10).filterMap (fun i => lw_tbl[i]?) := by decide +kernel
theorem xt_g17_p : xt_g17 = xt_i17.filterMap (fun i => lw_tbl[i]?) := xt_cut 10 xt_g17_0 (xt_cut 10 xt_g17_1 (xt_cut 10 xt_g17_2 (xt_g17_3)))
theorem xt_g17_t : xt_g17.all xr_tw = true := by decide +kernel
def xt_g18 : List Cond := [(Jvm.Cond.methodLink "HexTemplates" (128 : Nat) ({ cls := "HexTemplates$Bytes", name := "get", desc := "(I)I" } : Jvm.MethodName)),
  (Jvm.Cond.methodLink "HexTemplatesLaw" (81 : Nat) ({ cls := "HexTemplatesLaw", name := "node", desc := "(LHexTemplates;IIIIIII)Z" } : Jvm.MethodName)),
  (Jvm.Cond.static ({ cls := "HexTemplatesLaw", name := "node", desc := "(LHexTemplates;IIIIIII)Z" } : Jvm.MethodName)),
  (Jvm.Cond.code ({ cls := "HexTemplatesLaw", name := "node", desc := "(LHexTemplates;IIIIIII)Z" } : Jvm.MethodName) method_9_code (8 : Nat) (Option.some Jvm.ClassFile.FieldType.boolean)),
  (Jvm.Cond.methodLink "HexTemplatesLaw" (49 : Nat) ({ cls := "HexTemplates", name := "node", desc := "(II)I" } : Jvm.MethodName)),
  (Jvm.Cond.instanceMethod ({ cls := "HexTemplates", name := "node", desc := "(II)I" } : Jvm.MethodName)),
  (Jvm.Cond.selects "HexTemplates" ({ cls := "HexTemplates", name := "node", desc := "(II)I" } : Jvm.MethodName) ({ cls := "HexTemplates", name := "node", desc := "(II)I" } : Jvm.MethodName)),
  (Jvm.Cond.code ({ cls := "HexTemplates", name := "node", desc := "(II)I" } : Jvm.MethodName) prog_1_method_13_code (4 : Nat) (Option.some Jvm.ClassFile.FieldType.int)),
  (Jvm.Cond.methodLink "HexTemplates" (192 : Nat) ({ cls := "HexTemplates$Reader", name := "holds", desc := "(I)Z" } : Jvm.MethodName)),
  (Jvm.Cond.instanceMethod ({ cls := "HexTemplates$Reader", name := "holds", desc := "(I)Z" } : Jvm.MethodName)),
  (Jvm.Cond.selects "HexTemplates$Reader" ({ cls := "HexTemplates$Reader", name := "holds", desc := "(I)Z" } : Jvm.MethodName) ({ cls := "HexTemplates$Reader", name := "holds", desc := "(I)Z" } : Jvm.MethodName)),
  (Jvm.Cond.code ({ cls := "HexTemplates$Reader", name := "holds", desc := "(I)Z" } : Jvm.MethodName) prog_7_method_25_code (2 : Nat) (Option.some Jvm.ClassFile.FieldType.boolean)),
  (Jvm.Cond.methodLink "HexTemplatesLaw" (84 : Nat) ({ cls := "HexTemplates", name := "follow", desc := "(I)I" } : Jvm.MethodName)),
  (Jvm.Cond.instanceMethod ({ cls := "HexTemplates", name := "follow", desc := "(I)I" } : Jvm.MethodName)),
  (Jvm.Cond.selects "HexTemplates" ({ cls := "HexTemplates", name := "follow", desc := "(I)I" } : Jvm.MethodName) ({ cls := "HexTemplates", name := "follow", desc := "(I)I" } : Jvm.MethodName)),
  (Jvm.Cond.code ({ cls := "HexTemplates", name := "follow", desc := "(I)I" } : Jvm.MethodName) prog_1_method_16_code (5 : Nat) (Option.some Jvm.ClassFile.FieldType.int)),
  (Jvm.Cond.methodLink "HexTemplates" (205 : Nat) ({ cls := "HexTemplates", name := "checkReference", desc := "(I)V" } : Jvm.MethodName)),
  (Jvm.Cond.instanceMethod ({ cls := "HexTemplates", name := "checkReference", desc := "(I)V" } : Jvm.MethodName)),
  (Jvm.Cond.code ({ cls := "HexTemplates", name := "checkReference", desc := "(I)V" } : Jvm.MethodName) prog_1_method_33_code (2 : Nat) (Option.none : Option Jvm.ClassFile.FieldType)),
  (Jvm.Cond.methodLink "HexTemplates" (211 : Nat) ({ cls := "HexTemplates$Reader", name := "structureTold", desc := "(I)I" } : Jvm.MethodName)),
  (Jvm.Cond.instanceMethod ({ cls := "HexTemplates$Reader", name := "structureTold", desc := "(I)I" } : Jvm.MethodName)),
  (Jvm.Cond.selects "HexTemplates$Reader" ({ cls := "HexTemplates$Reader", name := "structureTold", desc := "(I)I" } : Jvm.MethodName) ({ cls := "HexTemplates$Reader", name := "structureTold", desc := "(I)I" } : Jvm.MethodName)),
  (Jvm.Cond.code ({ cls := "HexTemplates$Reader", name := "structureTold", desc := "(I)I" } : Jvm.MethodName) prog_7_method_28_code (2 : Nat) (Option.some Jvm.ClassFile.FieldType.int)),
  (Jvm.Cond.methodLink "HexTemplatesLaw" (87 : Nat) ({ cls := "HexTemplates", name := "chain", desc := "(I)I" } : Jvm.MethodName)),
  (Jvm.Cond.instanceMethod ({ cls := "HexTemplates", name := "chain", desc := "(I)I" } : Jvm.MethodName)),
  (Jvm.Cond.selects "HexTemplates" ({ cls := "HexTemplates", name := "chain", desc := "(I)I" } : Jvm.MethodName) ({ cls := "HexTemplates", name := "chain", desc := "(I)I" } : Jvm.MethodName)),
  (Jvm.Cond.code ({ cls := "HexTemplates", name := "chain", desc := "(I)I" } : Jvm.MethodName) prog_1_method_17_code (8 : Nat) (Option.some Jvm.ClassFile.FieldType.int)),
  (Jvm.Cond.methodLink "HexTemplates" (217 : Nat) ({ cls := "HexTemplates", name := "forgetVisits", desc := "()V" } : Jvm.MethodName)),
  (Jvm.Cond.instanceMethod ({ cls := "HexTemplates", name := "forgetVisits", desc := "()V" } : Jvm.MethodName)),
  (Jvm.Cond.code ({ cls := "HexTemplates", name := "forgetVisits", desc := "()V" } : Jvm.MethodName) prog_1_method_38_code (2 : Nat) (Option.none : Option Jvm.ClassFile.FieldType)),
  (Jvm.Cond.methodLink "HexTemplates" (220 : Nat) ({ cls := "HexTemplates", name := "isVisited", desc := "(II)Z" } : Jvm.MethodName)),
  (Jvm.Cond.instanceMethod ({ cls := "HexTemplates", name := "isVisited", desc := "(II)Z" } : Jvm.MethodName)),
  (Jvm.Cond.code ({ cls := "HexTemplates", name := "isVisited", desc := "(II)Z" } : Jvm.MethodName) prog_1_method_39_code (5 : Nat) (Option.some Jvm.ClassFile.FieldType.boolean)),
  (Jvm.Cond.methodLink "HexTemplates" (224 : Nat) ({ cls := "HexTemplates$Nodes", name := "firstReferenceIn", desc := "(I)I" } : Jvm.MethodName)),
  (Jvm.Cond.instanceMethod ({ cls := "HexTemplates$Nodes", name := "firstReferenceIn", desc := "(I)I" } : Jvm.MethodName)),
  (Jvm.Cond.selects "HexTemplates$Nodes" ({ cls := "HexTemplates$Nodes", name := "firstReferenceIn", desc := "(I)I" } : Jvm.MethodName) ({ cls := "HexTemplates$Nodes", name := "firstReferenceIn", desc := "(I)I" } : Jvm.MethodName)),
  (Jvm.Cond.code ({ cls := "HexTemplates$Nodes", name := "firstReferenceIn", desc := "(I)I" } : Jvm.MethodName) prog_5_method_7_code (3 : Nat) (Option.some Jvm.ClassFile.FieldType.int)),
  (Jvm.Cond.methodLink "HexTemplatesLaw" (93 : Nat) ({ cls := "HexTemplates", name := "find", desc := "(III)I" } : Jvm.MethodName)),
  (Jvm.Cond.instanceMethod ({ cls := "HexTemplates", name := "find", desc := "(III)I" } : Jvm.MethodName)),
  (Jvm.Cond.selects "HexTemplates" ({ cls := "HexTemplates", name := "find", desc := "(III)I" } : Jvm.MethodName) ({ cls := "HexTemplates", name := "find", desc := "(III)I" } : Jvm.MethodName))]
def xt_i18 : List Nat := [1030, 1031, 1032, 1033, 1034, 1035, 1036, 1037, 1039, 1040, 1041, 1042, 1043, 1044, 1045, 1046, 1047, 1049, 1050, 1052, 1053, 1054, 1055, 1056, 1057, 1058, 1059, 1060, 1062, 1063, 1064, 1066, 1067, 1068, 1069, 1070, 1071, 1072, 1073, 1074]
theorem xt_g18_0 : xt_g18.take 10 = (xt_i18.take 10).filterMap (fun i => lw_tbl[i]?) := by decide +kernel
theorem xt_g18_1 : (xt_g18.drop 10).take 10 = ((xt_i18.drop 10).take 10).filterMap (fun i => lw_tbl[i]?) := by decide +kernel
theorem xt_g18_2 : ((xt_g18.drop 10).drop 10).take 10 = (((xt_i18.drop 10).drop 10).take 10).filterMap (fun i => lw_tbl[i]?) := by decide +kernel
theorem xt_g18_3 : (((xt_g18.drop 10).drop 10).drop 10) = (((xt_i18.drop 10).drop 10).drop 10).filterMap (fun i => lw_tbl[i]?) := by decide +kernel
theorem xt_g18_p : xt_g18 = xt_i18.filterMap (fun i => lw_tbl[i]?) := xt_cut 10 xt_g18_0 (xt_cut 10 xt_g18_1 (xt_cut 10 xt_g18_2 (xt_g18_3)))
theorem xt_g18_t : xt_g18.all xr_tw = true := by decide +kernel
def xt_g19 : List Cond := [(Jvm.Cond.code ({ cls := "HexTemplates", name := "find", desc := "(III)I" } : Jvm.MethodName) prog_1_method_18_code (5 : Nat) (Option.some Jvm.ClassFile.FieldType.int)),
  (Jvm.Cond.methodLink "HexTemplatesLaw" (96 : Nat) ({ cls := "HexTemplates", name := "findField", desc := "(III)I" } : Jvm.MethodName)),
  (Jvm.Cond.instanceMethod ({ cls := "HexTemplates", name := "findField", desc := "(III)I" } : Jvm.MethodName)),
  (Jvm.Cond.selects "HexTemplates" ({ cls := "HexTemplates", name := "findField", desc := "(III)I" } : Jvm.MethodName) ({ cls := "HexTemplates", name := "findField", desc := "(III)I" } : Jvm.MethodName)),
  (Jvm.Cond.code ({ cls := "HexTemplates", name := "findField", desc := "(III)I" } : Jvm.MethodName) prog_1_method_19_code (6 : Nat) (Option.some Jvm.ClassFile.FieldType.int)),
  (Jvm.Cond.constant "HexTemplates" (229 : Nat) (65535 : Int32)),
  (Jvm.Cond.methodLink "HexTemplatesLaw" (126 : Nat) ({ cls := "HexTemplatesLaw", name := "strings", desc := "(LHexTemplates;ZI[I[I[I)Z" } : Jvm.MethodName)),
  (Jvm.Cond.static ({ cls := "HexTemplatesLaw", name := "strings", desc := "(LHexTemplates;ZI[I[I[I)Z" } : Jvm.MethodName)),
  (Jvm.Cond.code ({ cls := "HexTemplatesLaw", name := "strings", desc := "(LHexTemplates;ZI[I[I[I)Z" } : Jvm.MethodName) method_12_code (16 : Nat) (Option.some Jvm.ClassFile.FieldType.boolean)),
  (Jvm.Cond.methodLink "HexTemplatesLaw" (99 : Nat) ({ cls := "HexTemplatesLaw", name := "moved", desc := "(IIZ[I)I" } : Jvm.MethodName)),
  (Jvm.Cond.static ({ cls := "HexTemplatesLaw", name := "moved", desc := "(IIZ[I)I" } : Jvm.MethodName)),
  (Jvm.Cond.code ({ cls := "HexTemplatesLaw", name := "moved", desc := "(IIZ[I)I" } : Jvm.MethodName) method_11_code (4 : Nat) (Option.some Jvm.ClassFile.FieldType.int)),
  (Jvm.Cond.methodLink "HexTemplatesLaw" (130 : Nat) ({ cls := "HexTemplatesLaw", name := "elements", desc := "(LHexTemplates;ZI[I[I)Z" } : Jvm.MethodName)),
  (Jvm.Cond.static ({ cls := "HexTemplatesLaw", name := "elements", desc := "(LHexTemplates;ZI[I[I)Z" } : Jvm.MethodName)),
  (Jvm.Cond.code ({ cls := "HexTemplatesLaw", name := "elements", desc := "(LHexTemplates;ZI[I[I)Z" } : Jvm.MethodName) method_13_code (11 : Nat) (Option.some Jvm.ClassFile.FieldType.boolean)),
  (Jvm.Cond.methodLink "HexTemplatesLaw" (107 : Nat) ({ cls := "HexTemplatesLaw", name := "copies", desc := "(II[I)V" } : Jvm.MethodName)),
  (Jvm.Cond.static ({ cls := "HexTemplatesLaw", name := "copies", desc := "(II[I)V" } : Jvm.MethodName)),
  (Jvm.Cond.code ({ cls := "HexTemplatesLaw", name := "copies", desc := "(II[I)V" } : Jvm.MethodName) method_14_code (4 : Nat) (Option.none : Option Jvm.ClassFile.FieldType))]
def xt_i19 : List Nat := [1075, 1077, 1078, 1079, 1080, 1081, 1082, 1083, 1084, 1085, 1086, 1087, 1088, 1089, 1090, 1091, 1092, 1093]
theorem xt_g19_0 : xt_g19.take 10 = (xt_i19.take 10).filterMap (fun i => lw_tbl[i]?) := by decide +kernel
theorem xt_g19_1 : (xt_g19.drop 10) = (xt_i19.drop 10).filterMap (fun i => lw_tbl[i]?) := by decide +kernel
theorem xt_g19_p : xt_g19 = xt_i19.filterMap (fun i => lw_tbl[i]?) := xt_cut 10 xt_g19_0 (xt_g19_1)
theorem xt_g19_t : xt_g19.all xr_tw = true := by decide +kernel
end
section
/-! all words together -/
theorem xt_x0_p : ∀ w ∈ vx_atS "HexTemplates" 80 (xr_en 0) xr_up, w ∈ lw_tbl := by decide +kernel
theorem xt_x0_t : (vx_atS "HexTemplates" 80 (xr_en 0) xr_up).all xr_tw = true := by decide +kernel
theorem xt_x1_p : ∀ w ∈ vx_atS "HexTemplates" 90 (xr_en 1) xr_up, w ∈ lw_tbl := by decide +kernel
theorem xt_x1_t : (vx_atS "HexTemplates" 90 (xr_en 1) xr_up).all xr_tw = true := by decide +kernel
theorem xt_x2_p : ∀ w ∈ vx_atS "HexTemplates" 127 (xr_en 2) xr_up, w ∈ lw_tbl := by decide +kernel
theorem xt_x2_t : (vx_atS "HexTemplates" 127 (xr_en 2) xr_up).all xr_tw = true := by decide +kernel
theorem xt_x3_p : ∀ w ∈ u_ws RX0 TX0 2, w ∈ lw_tbl := by decide +kernel
theorem xt_x3_t : (u_ws RX0 TX0 2).all xr_tw = true := by decide +kernel
theorem xt_x4_p : ∀ w ∈ u_ws RX1 TX1 2, w ∈ lw_tbl := by decide +kernel
theorem xt_x4_t : (u_ws RX1 TX1 2).all xr_tw = true := by decide +kernel
theorem xt_x5_p : ∀ w ∈ u_ws RX2 TX2 3, w ∈ lw_tbl := by decide +kernel
theorem xt_x5_t : (u_ws RX2 TX2 3).all xr_tw = true := by decide +kernel
theorem xt_x6_p : ∀ w ∈ u_ws RX3 TX3 8, w ∈ lw_tbl := by decide +kernel
theorem xt_x6_t : (u_ws RX3 TX3 8).all xr_tw = true := by decide +kernel
theorem xt_x7_p : ∀ w ∈ u_ws RX4 TX4 6, w ∈ lw_tbl := by decide +kernel
theorem xt_x7_t : (u_ws RX4 TX4 6).all xr_tw = true := by decide +kernel
theorem xt_x8_p : ∀ w ∈ u_ws RX5 TX5 11, w ∈ lw_tbl := by decide +kernel
theorem xt_x8_t : (u_ws RX5 TX5 11).all xr_tw = true := by decide +kernel
theorem xt_x9_p : ∀ w ∈ u_ws RX6 TX6 5, w ∈ lw_tbl := by decide +kernel
theorem xt_x9_t : (u_ws RX6 TX6 5).all xr_tw = true := by decide +kernel
theorem xt_x10_p : ∀ w ∈ u_ws RX7 TX7 21, w ∈ lw_tbl := by decide +kernel
theorem xt_x10_t : (u_ws RX7 TX7 21).all xr_tw = true := by decide +kernel
theorem xt_x11_p : ∀ w ∈ u_ws RX8 TX8 12, w ∈ lw_tbl := by decide +kernel
theorem xt_x11_t : (u_ws RX8 TX8 12).all xr_tw = true := by decide +kernel
def xt_ch : List (List Cond) := [xt_g0, xt_g1, xt_g2, xt_g3, xt_g4, xt_g5, xt_g6, xt_g7, xt_g8, xt_g9, xt_g10, xt_g11, xt_g12, xt_g13, xt_g14, xt_g15, xt_g16, xt_g17, xt_g18, xt_g19, vx_atS "HexTemplates" 80 (xr_en 0) xr_up, vx_atS "HexTemplates" 90 (xr_en 1) xr_up, vx_atS "HexTemplates" 127 (xr_en 2) xr_up, u_ws RX0 TX0 2, u_ws RX1 TX1 2, u_ws RX2 TX2 3, u_ws RX3 TX3 8, u_ws RX4 TX4 6, u_ws RX5 TX5 11, u_ws RX6 TX6 5, u_ws RX7 TX7 21, u_ws RX8 TX8 12]
def xt_GW : List Cond := xt_ch.flatten
theorem xt_in (c : Nat) {l : List Cond} (h : xt_ch[c]? = some l) {w : Cond} (hw : w ∈ l) : w ∈ xt_GW := List.mem_flatten_of_mem (List.mem_of_getElem? h) hw
theorem xt_mem {l : List Cond} {ps : List Nat} (hp : l = ps.filterMap (fun i => lw_tbl[i]?)) : ∀ w ∈ l, w ∈ lw_tbl := by
  intro w hw
  rw [hp] at hw
  obtain ⟨i, -, hi⟩ := List.mem_filterMap.mp hw
  exact List.mem_of_getElem? hi
theorem xt_ch_ok : ∀ l ∈ xt_ch, (∀ w ∈ l, w ∈ lw_tbl) ∧ ∀ w ∈ l, xr_tw w = true := by
  unfold xt_ch
  exact List.forall_mem_cons.mpr ⟨⟨xt_mem xt_g0_p, List.all_eq_true.mp xt_g0_t⟩,
  List.forall_mem_cons.mpr ⟨⟨xt_mem xt_g1_p, List.all_eq_true.mp xt_g1_t⟩,
  List.forall_mem_cons.mpr ⟨⟨xt_mem xt_g2_p, List.all_eq_true.mp xt_g2_t⟩,
  List.forall_mem_cons.mpr ⟨⟨xt_mem xt_g3_p, List.all_eq_true.mp xt_g3_t⟩,
  List.forall_mem_cons.mpr ⟨⟨xt_mem xt_g4_p, List.all_eq_true.mp xt_g4_t⟩,
  List.forall_mem_cons.mpr ⟨⟨xt_mem xt_g5_p, List.all_eq_true.mp xt_g5_t⟩,
  List.forall_mem_cons.mpr ⟨⟨xt_mem xt_g6_p, List.all_eq_true.mp xt_g6_t⟩,
  List.forall_mem_cons.mpr ⟨⟨xt_mem xt_g7_p, List.all_eq_true.mp xt_g7_t⟩,
  List.forall_mem_cons.mpr ⟨⟨xt_mem xt_g8_p, List.all_eq_true.mp xt_g8_t⟩,
  List.forall_mem_cons.mpr ⟨⟨xt_mem xt_g9_p, List.all_eq_true.mp xt_g9_t⟩,
  List.forall_mem_cons.mpr ⟨⟨xt_mem xt_g10_p, List.all_eq_true.mp xt_g10_t⟩,
  List.forall_mem_cons.mpr ⟨⟨xt_mem xt_g11_p, List.all_eq_true.mp xt_g11_t⟩,
  List.forall_mem_cons.mpr ⟨⟨xt_mem xt_g12_p, List.all_eq_true.mp xt_g12_t⟩,
  List.forall_mem_cons.mpr ⟨⟨xt_mem xt_g13_p, List.all_eq_true.mp xt_g13_t⟩,
  List.forall_mem_cons.mpr ⟨⟨xt_mem xt_g14_p, List.all_eq_true.mp xt_g14_t⟩,
  List.forall_mem_cons.mpr ⟨⟨xt_mem xt_g15_p, List.all_eq_true.mp xt_g15_t⟩,
  List.forall_mem_cons.mpr ⟨⟨xt_mem xt_g16_p, List.all_eq_true.mp xt_g16_t⟩,
  List.forall_mem_cons.mpr ⟨⟨xt_mem xt_g17_p, List.all_eq_true.mp xt_g17_t⟩,
  List.forall_mem_cons.mpr ⟨⟨xt_mem xt_g18_p, List.all_eq_true.mp xt_g18_t⟩,
  List.forall_mem_cons.mpr ⟨⟨xt_mem xt_g19_p, List.all_eq_true.mp xt_g19_t⟩,
  List.forall_mem_cons.mpr ⟨⟨xt_x0_p, List.all_eq_true.mp xt_x0_t⟩,
  List.forall_mem_cons.mpr ⟨⟨xt_x1_p, List.all_eq_true.mp xt_x1_t⟩,
  List.forall_mem_cons.mpr ⟨⟨xt_x2_p, List.all_eq_true.mp xt_x2_t⟩,
  List.forall_mem_cons.mpr ⟨⟨xt_x3_p, List.all_eq_true.mp xt_x3_t⟩,
  List.forall_mem_cons.mpr ⟨⟨xt_x4_p, List.all_eq_true.mp xt_x4_t⟩,
  List.forall_mem_cons.mpr ⟨⟨xt_x5_p, List.all_eq_true.mp xt_x5_t⟩,
  List.forall_mem_cons.mpr ⟨⟨xt_x6_p, List.all_eq_true.mp xt_x6_t⟩,
  List.forall_mem_cons.mpr ⟨⟨xt_x7_p, List.all_eq_true.mp xt_x7_t⟩,
  List.forall_mem_cons.mpr ⟨⟨xt_x8_p, List.all_eq_true.mp xt_x8_t⟩,
  List.forall_mem_cons.mpr ⟨⟨xt_x9_p, List.all_eq_true.mp xt_x9_t⟩,
  List.forall_mem_cons.mpr ⟨⟨xt_x10_p, List.all_eq_true.mp xt_x10_t⟩,
  List.forall_mem_cons.mpr ⟨⟨xt_x11_p, List.all_eq_true.mp xt_x11_t⟩,
  fun _ h => absurd h List.not_mem_nil⟩⟩⟩⟩⟩⟩⟩⟩⟩⟩⟩⟩⟩⟩⟩⟩⟩⟩⟩⟩⟩⟩⟩⟩⟩⟩⟩⟩⟩⟩⟩⟩
theorem xt_GW_ok : ∀ w ∈ xt_GW, w ∈ lw_tbl ∧ xr_tw w = true := by
  intro w hw
  obtain ⟨l, hl, hw⟩ := List.mem_flatten.mp hw
  exact ⟨(xt_ch_ok l hl).1 w hw, (xt_ch_ok l hl).2 w hw⟩
end
section
/-! the methods, as the runner has them -/
-- 0: HexTemplatesLaw.law([I)Z
def xc_0 : xrC := [(0, .new 8, 3), (3, .dup, 1), (4, .invokespecial 104, 3), (7, .astore_n 1, 1), (8, .bipush 21, 2), (10, .newarray .int, 2), (12, .astore_n 2, 1), (13, .bipush 64, 2),
  (15, .newarray .int, 2), (17, .astore_n 3, 1), (18, .iconst 4, 1), (19, .newarray .int, 2), (21, .astore 4, 2), (23, .aload_n 1, 1), (24, .bipush 65, 2), (26, .bipush 123, 2),
  (28, .bipush 109, 2), (30, .bipush 58, 2), (32, .bipush 98, 2), (34, .bipush 61, 2), (36, .bipush 55, 2), (38, .bipush 55, 2), (40, .invokestatic 92, 3), (43, .aload_n 1, 1),
  (44, .bipush 59, 2), (46, .bipush 108, 2), (48, .bipush 58, 2), (50, .bipush 98, 2), (52, .bipush 61, 2), (54, .bipush 35, 2), (56, .bipush 100, 2), (58, .bipush 59, 2),
  (60, .invokestatic 92, 3), (63, .aload_n 1, 1), (64, .bipush 110, 2), (66, .bipush 58, 2), (68, .bipush 98, 2), (70, .bipush 61, 2), (72, .bipush 37, 2), (74, .bipush 101, 2),
  (76, .bipush 59, 2), (78, .bipush 100, 2), (80, .invokestatic 92, 3), (83, .aload_n 1, 1), (84, .bipush 58, 2), (86, .bipush 115, 2), (88, .bipush 40, 2), (90, .bipush 108, 2),
  (92, .bipush 41, 2), (94, .bipush 59, 2), (96, .bipush 101, 2), (98, .bipush 58, 2), (100, .invokestatic 92, 3), (103, .aload_n 1, 1), (104, .bipush 66, 2), (106, .bipush 91, 2),
  (108, .bipush 110, 2), (110, .bipush 93, 2), (112, .bipush 59, 2), (114, .bipush 99, 2), (116, .bipush 58, 2), (118, .bipush 98, 2), (120, .invokestatic 92, 3), (123, .aload_n 1, 1),
  (124, .bipush 61, 2), (126, .bipush 43, 2), (128, .bipush 100, 2), (130, .bipush 59, 2), (132, .bipush 120, 2), (134, .bipush 58, 2), (136, .bipush 98, 2), (138, .bipush 61, 2),
  (140, .invokestatic 92, 3), (143, .aload_n 1, 1), (144, .bipush 94, 2), (146, .bipush 101, 2), (148, .bipush 59, 2), (150, .bipush 114, 2), (152, .bipush 58, 2), (154, .bipush 114, 2),
  (156, .bipush 66, 2), (158, .bipush 59, 2), (160, .invokestatic 92, 3), (163, .aload_n 1, 1), (164, .bipush 125, 2), (166, .bipush 66, 2), (168, .bipush 123, 2), (170, .bipush 116, 2),
  (172, .bipush 58, 2), (174, .bipush 98, 2), (176, .bipush 61, 2), (178, .bipush 35, 2), (180, .invokestatic 92, 3), (183, .aload_n 1, 1), (184, .bipush 118, 2), (186, .bipush 59, 2),
  (188, .bipush 118, 2), (190, .bipush 58, 2), (192, .bipush 115, 2), (194, .bipush 40, 2), (196, .bipush 116, 2), (198, .bipush 41, 2), (200, .invokestatic 92, 3), (203, .aload_n 1, 1),
  (204, .bipush 59, 2), (206, .bipush 125, 2), (208, .iconst 0, 1), (209, .iconst 0, 1), (210, .iconst 0, 1), (211, .iconst 0, 1), (212, .iconst 0, 1), (213, .iconst 0, 1),
  (214, .invokestatic 92, 3), (217, .aload_n 1, 1), (218, .iconst 3, 1), (219, .invokevirtual 107, 3), (222, .ifCond .ne 7, 3), (225, .iconst 1, 1), (226, .goto 4, 3), (229, .iconst 0, 1),
  (230, .istore 5, 2), (232, .aload 4, 2), (234, .iconst 0, 1), (235, .aload_n 0, 1), (236, .iconst 0, 1), (237, .invokestatic 89, 3), (240, .bipush 6, 2), (242, .invokestatic 90, 3),
  (245, .iastore, 1), (246, .aload 4, 2), (248, .iconst 1, 1), (249, .aload_n 0, 1), (250, .iconst 0, 1), (251, .invokestatic 89, 3), (254, .iconst 3, 1), (255, .ishr, 1),
  (256, .iconst 4, 1), (257, .invokestatic 90, 3), (260, .iastore, 1), (261, .aload 4, 2), (263, .iconst 2, 1), (264, .aload_n 0, 1), (265, .iconst 0, 1), (266, .invokestatic 89, 3),
  (269, .iconst 5, 1), (270, .ishr, 1), (271, .iconst 4, 1), (272, .invokestatic 90, 3), (275, .ifCond .ne 23, 3), (278, .sipush 250, 3), (281, .aload_n 0, 1), (282, .iconst 0, 1),
  (283, .invokestatic 89, 3), (286, .bipush 7, 2), (288, .ishr, 1), (289, .bipush 6, 2), (291, .invokestatic 90, 3), (294, .iadd, 1), (295, .goto 16, 3), (298, .aload_n 0, 1),
  (299, .iconst 0, 1), (300, .invokestatic 89, 3), (303, .bipush 7, 2), (305, .ishr, 1), (306, .bipush 30, 2), (308, .invokestatic 90, 3), (311, .iastore, 1), (312, .iconst 0, 1),
  (313, .istore 6, 2), (315, .iload 6, 2), (317, .aload 4, 2), (319, .iconst 0, 1), (320, .iaload, 1), (321, .if_icmp .ge 27, 3), (324, .aload_n 2, 1), (325, .iload 6, 2),
  (327, .aload_n 0, 1), (328, .iconst 1, 1), (329, .iload 6, 2), (331, .iadd, 1), (332, .invokestatic 89, 3), (335, .sipush 256, 3), (338, .invokestatic 90, 3), (341, .iastore, 1),
  (342, .iinc 6 1, 3), (345, .goto (-30), 3), (348, .iconst 0, 1), (349, .istore 6, 2), (351, .iload 6, 2), (353, .aload 4, 2), (355, .iconst 1, 1), (356, .iaload, 1),
  (357, .if_icmp .ge 82, 3), (360, .aload_n 3, 1), (361, .bipush 56, 2), (363, .iload 6, 2), (365, .iadd, 1), (366, .aload_n 0, 1), (367, .bipush 7, 2), (369, .iload 6, 2),
  (371, .iadd, 1), (372, .invokestatic 89, 3), (375, .iconst 4, 1), (376, .invokestatic 90, 3), (379, .iastore, 1), (380, .iconst 0, 1), (381, .istore 7, 2), (383, .iload 7, 2),
  (385, .aload_n 3, 1), (386, .bipush 56, 2), (388, .iload 6, 2), (390, .iadd, 1), (391, .iaload, 1), (392, .if_icmp .ge 41, 3), (395, .aload_n 3, 1), (396, .bipush 8, 2),
  (398, .iload 6, 2), (400, .imul, 1), (401, .iload 7, 2), (403, .iadd, 1), (404, .aload_n 0, 1), (405, .bipush 7, 2), (407, .iload 6, 2), (409, .iadd, 1),
  (410, .invokestatic 89, 3), (413, .iconst 3, 1), (414, .iconst 5, 1), (415, .iload 7, 2), (417, .imul, 1), (418, .iadd, 1), (419, .ishr, 1), (420, .sipush 256, 3),
  (423, .invokestatic 90, 3), (426, .iastore, 1), (427, .iinc 7 1, 3), (430, .goto (-47), 3), (433, .iinc 6 1, 3), (436, .goto (-85), 3), (439, .aload 4, 2), (441, .iconst 1, 1),
  (442, .iaload, 1), (443, .aload_n 3, 1), (444, .aload 4, 2), (446, .invokestatic 111, 3), (449, .iconst 5, 1), (450, .iadd, 1), (451, .istore 6, 2), (453, .iconst 0, 1),
  (454, .istore 7, 2), (456, .iload 7, 2), (458, .iload 6, 2), (460, .if_icmp .ge 43, 3), (463, .iload 5, 2), (465, .ifCond .eq 29, 3), (468, .aload_n 1, 1), (469, .iload 7, 2),
  (471, .aload_n 2, 1), (472, .aload_n 3, 1), (473, .aload 4, 2), (475, .invokestatic 112, 3), (478, .i2l, 1), (479, .iconst 1, 1), (480, .invokevirtual 105, 3), (483, .iload 7, 2),
  (485, .iconst 1, 1), (486, .iadd, 1), (487, .if_icmp .ne 7, 3), (490, .iconst 1, 1), (491, .goto 4, 3), (494, .iconst 0, 1), (495, .istore 5, 2), (497, .iinc 7 1, 3),
  (500, .goto (-44), 3), (503, .iload 5, 2), (505, .ifCond .eq 14, 3), (508, .aload_n 1, 1), (509, .invokevirtual 106, 3), (512, .ifCond .ne 7, 3), (515, .iconst 1, 1), (516, .goto 4, 3),
  (519, .iconst 0, 1), (520, .istore 5, 2), (522, .iconst 0, 1), (523, .istore 7, 2), (525, .iload 7, 2), (527, .bipush 36, 2), (529, .if_icmp .ge 387, 3), (532, .iload 5, 2),
  (534, .ifCond .eq 382, 3), (537, .aload_n 0, 1), (538, .bipush 11, 2), (540, .iload 7, 2), (542, .iadd, 1), (543, .invokestatic 89, 3), (546, .istore 8, 2), (548, .iload 8, 2),
  (550, .bipush 8, 2), (552, .invokestatic 90, 3), (555, .istore 9, 2), (557, .iload 8, 2), (559, .iconst 4, 1), (560, .ishr, 1), (561, .istore 10, 2), (563, .iload 9, 2),
  (565, .iconst 3, 1), (566, .if_icmp .ge 19, 3), (569, .aload_n 1, 1), (570, .iconst 1, 1), (571, .iload 10, 2), (573, .aload_n 2, 1), (574, .aload_n 3, 1), (575, .aload 4, 2),
  (577, .invokestatic 143, 3), (580, .istore 5, 2), (582, .goto 301, 3), (585, .iload 9, 2), (587, .iconst 3, 1), (588, .if_icmp .ne 19, 3), (591, .aload_n 1, 1), (592, .iconst 0, 1),
  (593, .iload 10, 2), (595, .aload_n 2, 1), (596, .aload_n 3, 1), (597, .aload 4, 2), (599, .invokestatic 143, 3), (602, .istore 5, 2), (604, .goto 279, 3), (607, .iload 9, 2),
  (609, .bipush 6, 2), (611, .if_icmp .ge 28, 3), (614, .aload_n 1, 1), (615, .iload 9, 2), (617, .iconst 4, 1), (618, .if_icmp .ne 7, 3), (621, .iconst 1, 1), (622, .goto 4, 3),
  (625, .iconst 0, 1), (626, .iload 10, 2), (628, .aload_n 3, 1), (629, .aload 4, 2), (631, .invokestatic 144, 3), (634, .istore 5, 2), (636, .goto 247, 3), (639, .iload 9, 2),
  (641, .bipush 6, 2), (643, .if_icmp .ne 125, 3), (646, .iload 10, 2), (648, .sipush 300, 3), (651, .invokestatic 90, 3), (654, .bipush 10, 2), (656, .isub, 1), (657, .istore 11, 2),
  (659, .iload 11, 2), (661, .ifCond .lt 24, 3), (664, .iload 11, 2), (666, .sipush 256, 3), (669, .if_icmp .ge 16, 3), (672, .aload 4, 2), (674, .iconst 3, 1), (675, .iaload, 1),
  (676, .bipush 29, 2), (678, .if_icmp .ge 7, 3), (681, .iconst 1, 1), (682, .goto 4, 3), (685, .iconst 0, 1), (686, .istore 12, 2), (688, .aload 4, 2), (690, .iconst 2, 1),
  (691, .iload 12, 2), (693, .ifCond .eq 8, 3), (696, .iload 11, 2), (698, .goto 7, 3), (701, .aload 4, 2), (703, .iconst 2, 1), (704, .iaload, 1), (705, .iastore, 1),
  (706, .aload 4, 2), (708, .iconst 3, 1), (709, .dup2, 1), (710, .iaload, 1), (711, .iload 12, 2), (713, .ifCond .eq 7, 3), (716, .iconst 1, 1), (717, .goto 4, 3),
  (720, .iconst 0, 1), (721, .iadd, 1), (722, .iastore, 1), (723, .aload_n 1, 1), (724, .iconst 3, 1), (725, .bipush 8, 2), (727, .iconst 3, 1), (728, .aload 4, 2),
  (730, .iconst 1, 1), (731, .iaload, 1), (732, .imul, 1), (733, .iadd, 1), (734, .iload 11, 2), (736, .iconst 0, 1), (737, .invokestatic 91, 3), (740, .iload 12, 2),
  (742, .ifCond .eq 10, 3), (745, .aload 4, 2), (747, .iconst 3, 1), (748, .iaload, 1), (749, .goto 6, 3), (752, .sipush (-1003), 3), (755, .if_icmp .ne 7, 3), (758, .iconst 1, 1),
  (759, .goto 4, 3), (762, .iconst 0, 1), (763, .istore 5, 2), (765, .goto 118, 3), (768, .aload 4, 2), (770, .iconst 3, 1), (771, .iaload, 1), (772, .bipush 29, 2),
  (774, .if_icmp .ge 7, 3), (777, .iconst 1, 1), (778, .goto 4, 3), (781, .iconst 0, 1), (782, .istore 11, 2), (784, .aload 4, 2), (786, .iconst 3, 1), (787, .dup2, 1),
  (788, .iaload, 1), (789, .iload 11, 2), (791, .ifCond .eq 16, 3), (794, .iload 10, 2), (796, .iconst 3, 1), (797, .invokestatic 90, 3), (800, .ifCond .ne 7, 3), (803, .iconst 1, 1),
  (804, .goto 4, 3), (807, .iconst 0, 1), (808, .iadd, 1), (809, .iastore, 1), (810, .iload 10, 2), (812, .iconst 3, 1), (813, .invokestatic 90, 3), (816, .ifCond .le 34, 3),
  (819, .aload_n 1, 1), (820, .iconst 3, 1), (821, .iconst 1, 1), (822, .iload 10, 2), (824, .iconst 2, 1), (825, .ishr, 1), (826, .iconst 3, 1), (827, .invokestatic 90, 3),
  (830, .iadd, 1), (831, .iconst 5, 1), (832, .iconst 0, 1), (833, .invokestatic 91, 3), (836, .sipush (-1003), 3), (839, .if_icmp .ne 7, 3), (842, .iconst 1, 1), (843, .goto 38, 3),
  (846, .iconst 0, 1), (847, .goto 34, 3), (850, .aload_n 1, 1), (851, .iconst 4, 1), (852, .iconst 0, 1), (853, .iconst 0, 1), (854, .iconst 0, 1), (855, .invokestatic 91, 3),
  (858, .iload 11, 2), (860, .ifCond .eq 10, 3), (863, .aload 4, 2), (865, .iconst 3, 1), (866, .iaload, 1), (867, .goto 6, 3), (870, .sipush (-1003), 3), (873, .if_icmp .ne 7, 3),
  (876, .iconst 1, 1), (877, .goto 4, 3), (880, .iconst 0, 1), (881, .istore 5, 2), (883, .iload 5, 2), (885, .ifCond .eq 22, 3), (888, .aload_n 1, 1), (889, .iload 10, 2),
  (891, .iconst 3, 1), (892, .ishr, 1), (893, .aload_n 2, 1), (894, .aload_n 3, 1), (895, .aload 4, 2), (897, .invokestatic 129, 3), (900, .ifCond .eq 7, 3), (903, .iconst 1, 1),
  (904, .goto 4, 3), (907, .iconst 0, 1), (908, .istore 5, 2), (910, .iinc 7 1, 3), (913, .goto (-388), 3), (916, .iload 5, 2), (918, .ireturn, 1)]
def xm_0 : xrM := ((99, 1, ⟨"HexTemplatesLaw", "law", "([I)Z"⟩), (code, 13, (some .boolean)), [], xc_0)
-- 1: HexTemplates$Bytes.<init>(I)V
def xc_1 : xrC := [(0, .aload_n 0, 1), (1, .monitorexit, 3), (4, .aload_n 0, 1), (5, .iconst 0, 1), (6, .putfield 1, 3), (9, .aload_n 0, 1), (10, .iload_n 1, 1), (11, .ifCond .ge 7, 3),
  (14, .iconst 0, 1), (15, .goto 4, 3), (18, .iload_n 1, 1), (19, .newarray .int, 2), (21, .invokedynamic 0, 3), (24, .return_, 1)]
def xm_1 : xrM := ((0, 1, ⟨"HexTemplates$Bytes", "<init>", "(I)V"⟩), (prog_2_method_1_code, 2, (none)), [], xc_1)
-- 2: HexTemplates$Bytes.get(I)I
def xc_2 : xrC := [(0, .iload_n 1, 1), (1, .ifCond .lt 20, 3), (4, .iload_n 1, 1), (5, .aload_n 0, 1), (6, .getfield 1, 3), (9, .if_icmp .ge 12, 3), (12, .aload_n 0, 1), (13, .getfield 0, 3),
  (16, .iload_n 1, 1), (17, .iaload, 1), (18, .goto 4, 3), (21, .iconst 0, 1), (22, .ireturn, 1)]
def xm_2 : xrM := ((0, 1, ⟨"HexTemplates$Bytes", "get", "(I)I"⟩), (prog_2_method_2_code, 2, (some FieldType.int)), [], xc_2)
-- 3: HexTemplates$Bytes.put(II)V
def xc_3 : xrC := [(0, .iload_n 1, 1), (1, .ifCond .lt 18, 3), (4, .iload_n 1, 1), (5, .aload_n 0, 1), (6, .getfield 1, 3), (9, .if_icmp .ge 10, 3), (12, .aload_n 0, 1), (13, .getfield 0, 3),
  (16, .iload_n 1, 1), (17, .iload_n 2, 1), (18, .iastore, 1), (19, .return_, 1)]
def xm_3 : xrM := ((0, 2, ⟨"HexTemplates$Bytes", "put", "(II)V"⟩), (prog_2_method_3_code, 3, (none)), [], xc_3)
-- 4: HexTemplates$Bytes.append(I)V
def xc_4 : xrC := [(0, .aload_n 0, 1), (1, .getfield 1, 3), (4, .aload_n 0, 1), (5, .getfield 0, 3), (8, .arraylength, 1), (9, .if_icmp .ge 23, 3), (12, .aload_n 0, 1), (13, .getfield 0, 3),
  (16, .aload_n 0, 1), (17, .getfield 1, 3), (20, .iload_n 1, 1), (21, .iastore, 1), (22, .aload_n 0, 1), (23, .dup, 1), (24, .getfield 1, 3), (27, .iconst 1, 1),
  (28, .iadd, 1), (29, .putfield 1, 3), (32, .return_, 1)]
def xm_4 : xrM := ((0, 1, ⟨"HexTemplates$Bytes", "append", "(I)V"⟩), (prog_2_method_4_code, 2, (none)), [], xc_4)
-- 5: HexTemplates$Bytes.copy(LHexTemplates$Bytes;)V
def xc_5 : xrC := [(0, .aload_n 0, 1), (1, .aload_n 1, 1), (2, .getfield 1, 3), (5, .aload_n 0, 1), (6, .getfield 0, 3), (9, .arraylength, 1), (10, .invokestatic 24, 3), (13, .putfield 1, 3),
  (16, .iconst 0, 1), (17, .istore_n 2, 1), (18, .iload_n 2, 1), (19, .aload_n 0, 1), (20, .getfield 1, 3), (23, .if_icmp .ge 21, 3), (26, .aload_n 0, 1), (27, .getfield 0, 3),
  (30, .iload_n 2, 1), (31, .aload_n 1, 1), (32, .getfield 0, 3), (35, .iload_n 2, 1), (36, .iaload, 1), (37, .iastore, 1), (38, .iinc 2 1, 3), (41, .goto (-23), 3),
  (44, .return_, 1)]
def xm_5 : xrM := ((0, 1, ⟨"HexTemplates$Bytes", "copy", "(LHexTemplates$Bytes;)V"⟩), (prog_2_method_5_code, 3, (none)), [], xc_5)
-- 6: HexTemplates$Bytes.open(II)Z
def xc_6 : xrC := [(0, .iload_n 1, 1), (1, .ifCond .lt 29, 3), (4, .iload_n 1, 1), (5, .aload_n 0, 1), (6, .getfield 1, 3), (9, .if_icmp .gt 21, 3), (12, .iload_n 2, 1), (13, .ifCond .lt 17, 3),
  (16, .iload_n 2, 1), (17, .aload_n 0, 1), (18, .getfield 0, 3), (21, .arraylength, 1), (22, .aload_n 0, 1), (23, .getfield 1, 3), (26, .isub, 1), (27, .if_icmp .le 5, 3),
  (30, .iconst 0, 1), (31, .ireturn, 1), (32, .aload_n 0, 1), (33, .getfield 1, 3), (36, .iconst 1, 1), (37, .isub, 1), (38, .istore_n 3, 1), (39, .iload_n 3, 1),
  (40, .iload_n 1, 1), (41, .if_icmp .lt 23, 3), (44, .aload_n 0, 1), (45, .getfield 0, 3), (48, .iload_n 3, 1), (49, .iload_n 2, 1), (50, .iadd, 1), (51, .aload_n 0, 1),
  (52, .getfield 0, 3), (55, .iload_n 3, 1), (56, .iaload, 1), (57, .iastore, 1), (58, .iinc 3 (-1), 3), (61, .goto (-22), 3), (64, .aload_n 0, 1), (65, .dup, 1),
  (66, .getfield 1, 3), (69, .iload_n 2, 1), (70, .iadd, 1), (71, .putfield 1, 3), (74, .iconst 1, 1), (75, .ireturn, 1)]
def xm_6 : xrM := ((0, 2, ⟨"HexTemplates$Bytes", "open", "(II)Z"⟩), (prog_2_method_6_code, 4, (some FieldType.boolean)), [], xc_6)
-- 7: HexTemplates$Bytes.close(II)V
def xc_7 : xrC := [(0, .iload_n 1, 1), (1, .ifCond .lt 17, 3), (4, .iload_n 2, 1), (5, .ifCond .lt 13, 3), (8, .iload_n 2, 1), (9, .aload_n 0, 1), (10, .getfield 1, 3), (13, .iload_n 1, 1),
  (14, .isub, 1), (15, .if_icmp .le 4, 3), (18, .return_, 1), (19, .iload_n 1, 1), (20, .iload_n 2, 1), (21, .iadd, 1), (22, .istore_n 3, 1), (23, .iload_n 3, 1),
  (24, .aload_n 0, 1), (25, .getfield 1, 3), (28, .if_icmp .ge 23, 3), (31, .aload_n 0, 1), (32, .getfield 0, 3), (35, .iload_n 3, 1), (36, .iload_n 2, 1), (37, .isub, 1),
  (38, .aload_n 0, 1), (39, .getfield 0, 3), (42, .iload_n 3, 1), (43, .iaload, 1), (44, .iastore, 1), (45, .iinc 3 1, 3), (48, .goto (-25), 3), (51, .aload_n 0, 1),
  (52, .dup, 1), (53, .getfield 1, 3), (56, .iload_n 2, 1), (57, .isub, 1), (58, .putfield 1, 3), (61, .return_, 1)]
def xm_7 : xrM := ((0, 2, ⟨"HexTemplates$Bytes", "close", "(II)V"⟩), (prog_2_method_7_code, 4, (none)), [], xc_7)
-- 8: HexTemplates$Bytes.repeat(II)V
def xc_8 : xrC := [(0, .iload_n 1, 1), (1, .istore_n 3, 1), (2, .iload_n 3, 1), (3, .iload_n 1, 1), (4, .iload_n 2, 1), (5, .iadd, 1), (6, .if_icmp .ge 21, 3), (9, .aload_n 0, 1),
  (10, .iload_n 3, 1), (11, .iload_n 2, 1), (12, .iadd, 1), (13, .aload_n 0, 1), (14, .iload_n 3, 1), (15, .invokevirtual 2, 3), (18, .invokevirtual 3, 3), (21, .iinc 3 1, 3),
  (24, .goto (-22), 3), (27, .return_, 1)]
def xm_8 : xrM := ((0, 2, ⟨"HexTemplates$Bytes", "repeat", "(II)V"⟩), (prog_2_method_8_code, 4, (none)), [], xc_8)
-- 9: HexTemplates$Editor.<init>()V
def xc_9 : xrC := [(0, .aload_n 0, 1), (1, .monitorexit, 3), (4, .aload_n 0, 1), (5, .new 0, 3), (8, .dup, 1), (9, .sipush 160, 3), (12, .invokespecial 1, 3), (15, .invokedynamic 64, 3),
  (18, .aload_n 0, 1), (19, .sipush 200, 3), (22, .newarray .boolean, 2), (24, .invokedynamic 65, 3), (27, .return_, 1)]
def xm_9 : xrM := ((1, 0, ⟨"HexTemplates$Editor", "<init>", "()V"⟩), (prog_3_method_1_code, 1, (none)), [], xc_9)
-- 10: HexTemplates$Editor.begin(LHexTemplates$Bytes;)V
def xc_10 : xrC := [(0, .aload_n 0, 1), (1, .getfield 64, 3), (4, .aload_n 1, 1), (5, .invokevirtual 5, 3), (8, .return_, 1)]
def xm_10 : xrM := ((1, 1, ⟨"HexTemplates$Editor", "begin", "(LHexTemplates$Bytes;)V"⟩), (prog_3_method_2_code, 2, (none)), [], xc_10)
-- 11: HexTemplates$Editor.write(LHexTemplates$Reader;II)V
def xc_11 : xrC := [(0, .aload_n 1, 1), (1, .getfield 320, 3), (4, .getfield 194, 3), (7, .iload_n 2, 1), (8, .iaload, 1), (9, .istore 4, 2), (11, .aload_n 1, 1), (12, .iload_n 2, 1),
  (13, .invokevirtual 81, 3), (16, .lookupswitch 148 #[(87, 68), (110, 100), (119, 36)], 36), (52, .aload_n 0, 1), (53, .getfield 64, 3), (56, .iload 4, 2), (58, .iload_n 3, 1), (59, .sipush 255, 3), (62, .iand, 1),
  (63, .invokevirtual 3, 3), (66, .aload_n 0, 1), (67, .getfield 64, 3), (70, .iload 4, 2), (72, .iconst 1, 1), (73, .iadd, 1), (74, .iload_n 3, 1), (75, .bipush 8, 2),
  (77, .ishr, 1), (78, .invokevirtual 3, 3), (81, .goto 93, 3), (84, .aload_n 0, 1), (85, .getfield 64, 3), (88, .iload 4, 2), (90, .iload_n 3, 1), (91, .bipush 8, 2),
  (93, .ishr, 1), (94, .invokevirtual 3, 3), (97, .aload_n 0, 1), (98, .getfield 64, 3), (101, .iload 4, 2), (103, .iconst 1, 1), (104, .iadd, 1), (105, .iload_n 3, 1),
  (106, .sipush 255, 3), (109, .iand, 1), (110, .invokevirtual 3, 3), (113, .goto 61, 3), (116, .aload_n 1, 1), (117, .iload_n 2, 1), (118, .invokevirtual 84, 3), (121, .istore 5, 2),
  (123, .aload_n 0, 1), (124, .getfield 64, 3), (127, .iload 4, 2), (129, .invokevirtual 2, 3), (132, .aload_n 1, 1), (133, .iload_n 2, 1), (134, .invokevirtual 83, 3), (137, .iload 5, 2),
  (139, .ishl, 1), (140, .iconst (-1), 1), (141, .ixor, 1), (142, .iand, 1), (143, .istore 6, 2), (145, .aload_n 0, 1), (146, .getfield 64, 3), (149, .iload 4, 2),
  (151, .iload 6, 2), (153, .iload_n 3, 1), (154, .iload 5, 2), (156, .ishl, 1), (157, .ior, 1), (158, .invokevirtual 3, 3), (161, .goto 13, 3), (164, .aload_n 0, 1),
  (165, .getfield 64, 3), (168, .iload 4, 2), (170, .iload_n 3, 1), (171, .invokevirtual 3, 3), (174, .return_, 1)]
def xm_11 : xrM := ((1, 3, ⟨"HexTemplates$Editor", "write", "(LHexTemplates$Reader;II)V"⟩), (prog_3_method_3_code, 7, (none)), [], xc_11)
-- 12: HexTemplates$Editor.putIn(LHexTemplates$Reader;III)Z
def xc_12 : xrC := [(0, .aload_n 1, 1), (1, .getfield 320, 3), (4, .astore 5, 2), (6, .aload_n 0, 1), (7, .getfield 64, 3), (10, .getfield 1, 3), (13, .iload 4, 2), (15, .iadd, 1),
  (16, .sipush 160, 3), (19, .if_icmp .le 5, 3), (22, .iconst 0, 1), (23, .ireturn, 1), (24, .iconst 0, 1), (25, .istore 6, 2), (27, .iload 6, 2), (29, .aload 5, 2),
  (31, .getfield 199, 3), (34, .if_icmp .ge 70, 3), (37, .aload 5, 2), (39, .getfield 192, 3), (42, .iload 6, 2), (44, .iaload, 1), (45, .iconst 3, 1), (46, .if_icmp .ne 52, 3),
  (49, .aload 5, 2), (51, .getfield 196, 3), (54, .iload 6, 2), (56, .iaload, 1), (57, .iload_n 3, 1), (58, .if_icmp .lt 40, 3), (61, .aload 5, 2), (63, .getfield 196, 3),
  (66, .iload 6, 2), (68, .iaload, 1), (69, .iload 4, 2), (71, .iadd, 1), (72, .sipush 255, 3), (75, .if_icmp .le 5, 3), (78, .iconst 0, 1), (79, .ireturn, 1),
  (80, .aload_n 0, 1), (81, .aload_n 1, 1), (82, .iload 6, 2), (84, .aload 5, 2), (86, .getfield 196, 3), (89, .iload 6, 2), (91, .iaload, 1), (92, .iload 4, 2),
  (94, .iadd, 1), (95, .invokevirtual 11, 3), (98, .iinc 6 1, 3), (101, .goto (-74), 3), (104, .aload_n 0, 1), (105, .aload_n 1, 1), (106, .iload_n 2, 1), (107, .iload 4, 2),
  (109, .iconst 1, 1), (110, .invokevirtual 14, 3), (113, .aload_n 0, 1), (114, .getfield 64, 3), (117, .iload_n 3, 1), (118, .iload 4, 2), (120, .invokevirtual 6, 3), (123, .ireturn, 1)]
def xm_12 : xrM := ((1, 4, ⟨"HexTemplates$Editor", "putIn", "(LHexTemplates$Reader;III)Z"⟩), (prog_3_method_4_code, 7, (some FieldType.boolean)), [], xc_12)
-- 13: HexTemplates$Editor.takeOut(LHexTemplates$Reader;III)V
def xc_13 : xrC := [(0, .aload_n 1, 1), (1, .getfield 320, 3), (4, .astore 5, 2), (6, .iconst 0, 1), (7, .istore 6, 2), (9, .iload 6, 2), (11, .aload 5, 2), (13, .getfield 199, 3),
  (16, .if_icmp .ge 55, 3), (19, .aload 5, 2), (21, .getfield 192, 3), (24, .iload 6, 2), (26, .iaload, 1), (27, .iconst 3, 1), (28, .if_icmp .ne 37, 3), (31, .aload 5, 2),
  (33, .getfield 196, 3), (36, .iload 6, 2), (38, .iaload, 1), (39, .iload_n 3, 1), (40, .if_icmp .le 25, 3), (43, .aload_n 0, 1), (44, .aload_n 1, 1), (45, .iload 6, 2),
  (47, .aload 5, 2), (49, .getfield 196, 3), (52, .iload 6, 2), (54, .iaload, 1), (55, .iload 4, 2), (57, .isub, 1), (58, .iload_n 3, 1), (59, .invokestatic 22, 3),
  (62, .invokevirtual 11, 3), (65, .iinc 6 1, 3), (68, .goto (-59), 3), (71, .aload_n 0, 1), (72, .aload_n 1, 1), (73, .iload_n 2, 1), (74, .iload 4, 2), (76, .ineg, 1),
  (77, .iconst (-1), 1), (78, .invokevirtual 14, 3), (81, .aload_n 0, 1), (82, .getfield 64, 3), (85, .iload_n 3, 1), (86, .iload 4, 2), (88, .invokevirtual 7, 3), (91, .return_, 1)]
def xm_13 : xrM := ((1, 4, ⟨"HexTemplates$Editor", "takeOut", "(LHexTemplates$Reader;III)V"⟩), (prog_3_method_5_code, 7, (none)), [], xc_13)
-- 14: HexTemplates$Editor.tellNewLengths(LHexTemplates$Reader;III)V
def xc_14 : xrC := [(0, .aload_n 1, 1), (1, .getfield 320, 3), (4, .astore 5, 2), (6, .iconst 0, 1), (7, .istore 6, 2), (9, .iload 6, 2), (11, .aload 5, 2), (13, .getfield 199, 3),
  (16, .if_icmp .ge 91, 3), (19, .aload_n 1, 1), (20, .iload 6, 2), (22, .invokevirtual 76, 3), (25, .istore 7, 2), (27, .aload_n 1, 1), (28, .iload 6, 2), (30, .invokevirtual 77, 3),
  (33, .istore 8, 2), (35, .iload 7, 2), (37, .bipush 35, 2), (39, .if_icmp .ne 31, 3), (42, .aload 5, 2), (44, .iload 8, 2), (46, .iload_n 2, 1), (47, .invokevirtual 34, 3),
  (50, .ifCond .eq 20, 3), (53, .aload_n 0, 1), (54, .aload_n 1, 1), (55, .iload 6, 2), (57, .aload 5, 2), (59, .getfield 195, 3), (62, .iload 8, 2), (64, .iaload, 1),
  (65, .iload_n 3, 1), (66, .iadd, 1), (67, .invokevirtual 11, 3), (70, .iload 7, 2), (72, .bipush 37, 2), (74, .if_icmp .ne 27, 3), (77, .iload 8, 2), (79, .iload_n 2, 1),
  (80, .if_icmp .ne 21, 3), (83, .aload_n 0, 1), (84, .aload_n 1, 1), (85, .iload 6, 2), (87, .aload 5, 2), (89, .getfield 196, 3), (92, .iload 8, 2), (94, .iaload, 1),
  (95, .iload 4, 2), (97, .iadd, 1), (98, .invokevirtual 11, 3), (101, .iinc 6 1, 3), (104, .goto (-95), 3), (107, .return_, 1)]
def xm_14 : xrM := ((1, 4, ⟨"HexTemplates$Editor", "tellNewLengths", "(LHexTemplates$Reader;III)V"⟩), (prog_3_method_6_code, 9, (none)), [], xc_14)
-- 15: HexTemplates$Editor.settleCounts(LHexTemplates$Reader;LHexTemplates$Template;)Z
def xc_15 : xrC := [(0, .iconst 0, 1), (1, .istore_n 3, 1), (2, .iload_n 3, 1), (3, .iconst 4, 1), (4, .if_icmp .gt 35, 3), (7, .aload_n 1, 1), (8, .aload_n 2, 1), (9, .aload_n 0, 1),
  (10, .getfield 64, 3), (13, .iconst 0, 1), (14, .iconst 0, 1), (15, .invokevirtual 56, 3), (18, .ifCond .ne 5, 3), (21, .iconst 0, 1), (22, .ireturn, 1), (23, .aload_n 0, 1),
  (24, .aload_n 1, 1), (25, .invokevirtual 16, 3), (28, .ifCond .ne 5, 3), (31, .iconst 1, 1), (32, .ireturn, 1), (33, .iinc 3 1, 3), (36, .goto (-34), 3), (39, .iconst 0, 1),
  (40, .ireturn, 1)]
def xm_15 : xrM := ((1, 2, ⟨"HexTemplates$Editor", "settleCounts", "(LHexTemplates$Reader;LHexTemplates$Template;)Z"⟩), (prog_3_method_7_code, 4, (some FieldType.boolean)), [], xc_15)
-- 16: HexTemplates$Editor.mendCounts(LHexTemplates$Reader;)I
def xc_16 : xrC := [(0, .iconst 0, 1), (1, .istore_n 2, 1), (2, .iconst 0, 1), (3, .istore_n 3, 1), (4, .iload_n 3, 1), (5, .aload_n 1, 1), (6, .getfield 320, 3), (9, .getfield 199, 3),
  (12, .if_icmp .ge 62, 3), (15, .aload_n 1, 1), (16, .iload_n 3, 1), (17, .invokevirtual 76, 3), (20, .istore 4, 2), (22, .aload_n 1, 1), (23, .iload_n 3, 1), (24, .invokevirtual 78, 3),
  (27, .istore 5, 2), (29, .iload 4, 2), (31, .bipush 35, 2), (33, .if_icmp .eq 10, 3), (36, .iload 4, 2), (38, .bipush 37, 2), (40, .if_icmp .ne 28, 3), (43, .aload_n 1, 1),
  (44, .getfield 320, 3), (47, .getfield 196, 3), (50, .iload_n 3, 1), (51, .iaload, 1), (52, .iload 5, 2), (54, .if_icmp .eq 14, 3), (57, .aload_n 0, 1), (58, .aload_n 1, 1),
  (59, .iload_n 3, 1), (60, .iload 5, 2), (62, .invokevirtual 11, 3), (65, .iinc 2 1, 3), (68, .iinc 3 1, 3), (71, .goto (-67), 3), (74, .iload_n 2, 1), (75, .ireturn, 1)]
def xm_16 : xrM := ((1, 1, ⟨"HexTemplates$Editor", "mendCounts", "(LHexTemplates$Reader;)I"⟩), (prog_3_method_8_code, 6, (some FieldType.int)), [], xc_16)
-- 17: HexTemplates$Editor.settleSums(LHexTemplates$Reader;)Z
def xc_17 : xrC := [(0, .aload_n 1, 1), (1, .getfield 320, 3), (4, .astore_n 2, 1), (5, .iconst 0, 1), (6, .istore_n 3, 1), (7, .iconst 0, 1), (8, .istore 4, 2), (10, .iload 4, 2),
  (12, .aload_n 2, 1), (13, .getfield 199, 3), (16, .if_icmp .ge 61, 3), (19, .aload_n 1, 1), (20, .iload 4, 2), (22, .invokevirtual 76, 3), (25, .istore 5, 2), (27, .aload_n 0, 1),
  (28, .getfield 65, 3), (31, .iload 4, 2), (33, .iload 5, 2), (35, .bipush 43, 2), (37, .if_icmp .eq 10, 3), (40, .iload 5, 2), (42, .bipush 94, 2), (44, .if_icmp .ne 7, 3),
  (47, .iconst 1, 1), (48, .goto 4, 3), (51, .iconst 0, 1), (52, .bastore, 1), (53, .iload_n 3, 1), (54, .aload_n 0, 1), (55, .getfield 65, 3), (58, .iload 4, 2),
  (60, .baload, 1), (61, .ifCond .eq 7, 3), (64, .iconst 1, 1), (65, .goto 4, 3), (68, .iconst 0, 1), (69, .iadd, 1), (70, .istore_n 3, 1), (71, .iinc 4 1, 3),
  (74, .goto (-64), 3), (77, .iload_n 3, 1), (78, .istore 4, 2), (80, .iload 4, 2), (82, .ifCond .le 45, 3), (85, .aload_n 0, 1), (86, .aload_n 1, 1), (87, .invokevirtual 18, 3),
  (90, .istore 5, 2), (92, .iload 5, 2), (94, .iconst (-1), 1), (95, .if_icmp .ne 5, 3), (98, .iconst 0, 1), (99, .ireturn, 1), (100, .aload_n 0, 1), (101, .aload_n 1, 1),
  (102, .iload 5, 2), (104, .aload_n 1, 1), (105, .iload 5, 2), (107, .invokevirtual 78, 3), (110, .invokevirtual 11, 3), (113, .aload_n 0, 1), (114, .getfield 65, 3), (117, .iload 5, 2),
  (119, .iconst 0, 1), (120, .bastore, 1), (121, .iinc 4 (-1), 3), (124, .goto (-44), 3), (127, .iconst 1, 1), (128, .ireturn, 1)]
def xm_17 : xrM := ((1, 1, ⟨"HexTemplates$Editor", "settleSums", "(LHexTemplates$Reader;)Z"⟩), (prog_3_method_9_code, 6, (some FieldType.boolean)), [], xc_17)
-- 18: HexTemplates$Editor.firstReady(LHexTemplates$Reader;)I
def xc_18 : xrC := [(0, .iconst 0, 1), (1, .istore_n 2, 1), (2, .iload_n 2, 1), (3, .aload_n 1, 1), (4, .getfield 320, 3), (7, .getfield 199, 3), (10, .if_icmp .ge 36, 3), (13, .aload_n 0, 1),
  (14, .getfield 65, 3), (17, .iload_n 2, 1), (18, .baload, 1), (19, .ifCond .eq 21, 3), (22, .aload_n 0, 1), (23, .aload_n 1, 1), (24, .getfield 320, 3), (27, .aload_n 1, 1),
  (28, .iload_n 2, 1), (29, .invokevirtual 77, 3), (32, .invokevirtual 19, 3), (35, .ifCond .ne 5, 3), (38, .iload_n 2, 1), (39, .ireturn, 1), (40, .iinc 2 1, 3), (43, .goto (-41), 3),
  (46, .iconst (-1), 1), (47, .ireturn, 1)]
def xm_18 : xrM := ((1, 1, ⟨"HexTemplates$Editor", "firstReady", "(LHexTemplates$Reader;)I"⟩), (prog_3_method_10_code, 3, (some FieldType.int)), [], xc_18)
-- 19: HexTemplates$Editor.hasLeftIn(LHexTemplates$Nodes;I)Z
def xc_19 : xrC := [(0, .iload_n 2, 1), (1, .istore_n 3, 1), (2, .aload_n 1, 1), (3, .iload_n 3, 1), (4, .invokevirtual 27, 3), (7, .ifCond .eq 42, 3), (10, .aload_n 1, 1), (11, .getfield 194, 3),
  (14, .iload_n 3, 1), (15, .iaload, 1), (16, .aload_n 1, 1), (17, .getfield 194, 3), (20, .iload_n 2, 1), (21, .iaload, 1), (22, .aload_n 1, 1), (23, .getfield 195, 3),
  (26, .iload_n 2, 1), (27, .iaload, 1), (28, .iadd, 1), (29, .if_icmp .ge 20, 3), (32, .aload_n 0, 1), (33, .getfield 65, 3), (36, .iload_n 3, 1), (37, .baload, 1),
  (38, .ifCond .eq 5, 3), (41, .iconst 1, 1), (42, .ireturn, 1), (43, .iinc 3 1, 3), (46, .goto (-44), 3), (49, .iconst 0, 1), (50, .ireturn, 1)]
def xm_19 : xrM := ((1, 2, ⟨"HexTemplates$Editor", "hasLeftIn", "(LHexTemplates$Nodes;I)Z"⟩), (prog_3_method_11_code, 4, (some FieldType.boolean)), [], xc_19)
-- 20: HexTemplates$Editor.stands(LHexTemplates$Reader;LHexTemplates$Template;)Z
def xc_20 : xrC := [(0, .aload_n 1, 1), (1, .aload_n 2, 1), (2, .aload_n 0, 1), (3, .getfield 64, 3), (6, .iconst 0, 1), (7, .iconst 0, 1), (8, .invokevirtual 56, 3), (11, .ifCond .eq 14, 3),
  (14, .aload_n 1, 1), (15, .invokevirtual 80, 3), (18, .ifCond .ne 7, 3), (21, .iconst 1, 1), (22, .goto 4, 3), (25, .iconst 0, 1), (26, .ireturn, 1)]
def xm_20 : xrM := ((1, 2, ⟨"HexTemplates$Editor", "stands", "(LHexTemplates$Reader;LHexTemplates$Template;)Z"⟩), (prog_3_method_12_code, 3, (some FieldType.boolean)), [], xc_20)
-- 21: HexTemplates$Hunk.<init>()V
def xc_21 : xrC := [(0, .aload_n 0, 1), (1, .monitorexit, 3), (4, .aload_n 0, 1), (5, .iconst 0, 1), (6, .putfield 128, 3), (9, .aload_n 0, 1), (10, .iconst 0, 1), (11, .putfield 129, 3),
  (14, .aload_n 0, 1), (15, .iconst 0, 1), (16, .putfield 130, 3), (19, .return_, 1)]
def xm_21 : xrM := ((2, 0, ⟨"HexTemplates$Hunk", "<init>", "()V"⟩), (prog_4_method_1_code, 1, (none)), [], xc_21)
-- 22: java/lang/Math.max(II)I
def xc_22 : xrC := [(0, .iload_n 0, 1), (1, .iload_n 1, 1), (2, .if_icmp .lt 7, 3), (5, .iload_n 0, 1), (6, .goto 4, 3), (9, .iload_n 1, 1), (10, .ireturn, 1)]
def xm_22 : xrM := ((99, 2, ⟨"java/lang/Math", "max", "(II)I"⟩), (prog_16_method_65_code, 2, (some FieldType.int)), [], xc_22)
-- 23: java/lang/Math.max(JJ)J
def xc_23 : xrC := [(0, .lload_n 0, 1), (1, .lload_n 2, 1), (2, .lcmp, 1), (3, .ifCond .lt 7, 3), (6, .lload_n 0, 1), (7, .goto 4, 3), (10, .lload_n 2, 1), (11, .lreturn, 1)]
def xm_23 : xrM := ((99, 2, ⟨"java/lang/Math", "max", "(JJ)J"⟩), (prog_16_method_66_code, 4, (some FieldType.long)), [], xc_23)
-- 24: java/lang/Math.min(II)I
def xc_24 : xrC := [(0, .iload_n 0, 1), (1, .iload_n 1, 1), (2, .if_icmp .gt 7, 3), (5, .iload_n 0, 1), (6, .goto 4, 3), (9, .iload_n 1, 1), (10, .ireturn, 1)]
def xm_24 : xrM := ((99, 2, ⟨"java/lang/Math", "min", "(II)I"⟩), (prog_16_method_69_code, 2, (some FieldType.int)), [], xc_24)
-- 25: java/lang/Math.min(JJ)J
def xc_25 : xrC := [(0, .lload_n 0, 1), (1, .lload_n 2, 1), (2, .lcmp, 1), (3, .ifCond .gt 7, 3), (6, .lload_n 0, 1), (7, .goto 4, 3), (10, .lload_n 2, 1), (11, .lreturn, 1)]
def xm_25 : xrM := ((99, 2, ⟨"java/lang/Math", "min", "(JJ)J"⟩), (prog_16_method_70_code, 4, (some FieldType.long)), [], xc_25)
-- 26: HexTemplates$Nodes.<init>()V
def xc_26 : xrC := [(0, .aload_n 0, 1), (1, .monitorexit, 3), (4, .aload_n 0, 1), (5, .sipush 200, 3), (8, .newarray .int, 2), (10, .invokedynamic 192, 3), (13, .aload_n 0, 1), (14, .sipush 200, 3),
  (17, .newarray .int, 2), (19, .invokedynamic 193, 3), (22, .aload_n 0, 1), (23, .sipush 200, 3), (26, .newarray .int, 2), (28, .invokedynamic 194, 3), (31, .aload_n 0, 1), (32, .sipush 200, 3),
  (35, .newarray .int, 2), (37, .invokedynamic 195, 3), (40, .aload_n 0, 1), (41, .sipush 200, 3), (44, .newarray .int, 2), (46, .invokedynamic 196, 3), (49, .aload_n 0, 1), (50, .sipush 200, 3),
  (53, .newarray .int, 2), (55, .invokedynamic 197, 3), (58, .aload_n 0, 1), (59, .sipush 200, 3), (62, .newarray .int, 2), (64, .invokedynamic 198, 3), (67, .aload_n 0, 1), (68, .iconst 0, 1),
  (69, .putfield 199, 3), (72, .return_, 1)]
def xm_26 : xrM := ((3, 0, ⟨"HexTemplates$Nodes", "<init>", "()V"⟩), (prog_5_method_1_code, 1, (none)), [], xc_26)
-- 27: HexTemplates$Nodes.has(I)Z
def xc_27 : xrC := [(0, .iload_n 1, 1), (1, .ifCond .lt 15, 3), (4, .iload_n 1, 1), (5, .aload_n 0, 1), (6, .getfield 199, 3), (9, .if_icmp .ge 7, 3), (12, .iconst 1, 1), (13, .goto 4, 3),
  (16, .iconst 0, 1), (17, .ireturn, 1)]
def xm_27 : xrM := ((3, 1, ⟨"HexTemplates$Nodes", "has", "(I)Z"⟩), (prog_5_method_2_code, 2, (some FieldType.boolean)), [], xc_27)
-- 28: HexTemplates$Nodes.add(IIII)I
def xc_28 : xrC := [(0, .aload_n 0, 1), (1, .getfield 199, 3), (4, .sipush 200, 3), (7, .if_icmp .lt 5, 3), (10, .iconst (-1), 1), (11, .ireturn, 1), (12, .aload_n 0, 1), (13, .getfield 192, 3),
  (16, .aload_n 0, 1), (17, .getfield 199, 3), (20, .iload_n 1, 1), (21, .iastore, 1), (22, .aload_n 0, 1), (23, .getfield 198, 3), (26, .aload_n 0, 1), (27, .getfield 199, 3),
  (30, .iload_n 2, 1), (31, .iastore, 1), (32, .aload_n 0, 1), (33, .getfield 194, 3), (36, .aload_n 0, 1), (37, .getfield 199, 3), (40, .iload_n 3, 1), (41, .iastore, 1),
  (42, .aload_n 0, 1), (43, .getfield 197, 3), (46, .aload_n 0, 1), (47, .getfield 199, 3), (50, .iload 4, 2), (52, .iastore, 1), (53, .aload_n 0, 1), (54, .dup, 1),
  (55, .getfield 199, 3), (58, .iconst 1, 1), (59, .iadd, 1), (60, .putfield 199, 3), (63, .aload_n 0, 1), (64, .getfield 199, 3), (67, .iconst 1, 1), (68, .isub, 1),
  (69, .ireturn, 1)]
def xm_28 : xrM := ((3, 4, ⟨"HexTemplates$Nodes", "add", "(IIII)I"⟩), (prog_5_method_3_code, 5, (some FieldType.int)), [], xc_28)
-- 29: HexTemplates$Nodes.tell(IIII)V
def xc_29 : xrC := [(0, .aload_n 0, 1), (1, .iload_n 1, 1), (2, .invokevirtual 27, 3), (5, .ifCond .eq 25, 3), (8, .aload_n 0, 1), (9, .getfield 193, 3), (12, .iload_n 1, 1), (13, .iload_n 2, 1),
  (14, .iastore, 1), (15, .aload_n 0, 1), (16, .getfield 195, 3), (19, .iload_n 1, 1), (20, .iload_n 3, 1), (21, .iastore, 1), (22, .aload_n 0, 1), (23, .getfield 196, 3),
  (26, .iload_n 1, 1), (27, .iload 4, 2), (29, .iastore, 1), (30, .return_, 1)]
def xm_29 : xrM := ((3, 4, ⟨"HexTemplates$Nodes", "tell", "(IIII)V"⟩), (prog_5_method_4_code, 5, (none)), [], xc_29)
-- 30: HexTemplates$Nodes.isNumeric(I)Z
def xc_30 : xrC := [(0, .aload_n 0, 1), (1, .iload_n 1, 1), (2, .invokevirtual 27, 3), (5, .ifCond .eq 37, 3), (8, .aload_n 0, 1), (9, .getfield 192, 3), (12, .iload_n 1, 1), (13, .iaload, 1),
  (14, .iconst 2, 1), (15, .if_icmp .eq 23, 3), (18, .aload_n 0, 1), (19, .getfield 192, 3), (22, .iload_n 1, 1), (23, .iaload, 1), (24, .iconst 3, 1), (25, .if_icmp .eq 13, 3),
  (28, .aload_n 0, 1), (29, .getfield 192, 3), (32, .iload_n 1, 1), (33, .iaload, 1), (34, .iconst 4, 1), (35, .if_icmp .ne 7, 3), (38, .iconst 1, 1), (39, .goto 4, 3),
  (42, .iconst 0, 1), (43, .ireturn, 1)]
def xm_30 : xrM := ((3, 1, ⟨"HexTemplates$Nodes", "isNumeric", "(I)Z"⟩), (prog_5_method_5_code, 2, (some FieldType.boolean)), [], xc_30)
-- 31: HexTemplates$Nodes.fieldIn(II)I
def xc_31 : xrC := [(0, .iload_n 1, 1), (1, .iconst 1, 1), (2, .iadd, 1), (3, .istore_n 3, 1), (4, .iload_n 3, 1), (5, .aload_n 0, 1), (6, .getfield 199, 3), (9, .if_icmp .ge 31, 3),
  (12, .aload_n 0, 1), (13, .getfield 197, 3), (16, .iload_n 3, 1), (17, .iaload, 1), (18, .iload_n 1, 1), (19, .if_icmp .ne 15, 3), (22, .aload_n 0, 1), (23, .getfield 198, 3),
  (26, .iload_n 3, 1), (27, .iaload, 1), (28, .iload_n 2, 1), (29, .if_icmp .ne 5, 3), (32, .iload_n 3, 1), (33, .ireturn, 1), (34, .iinc 3 1, 3), (37, .goto (-33), 3),
  (40, .iconst (-1), 1), (41, .ireturn, 1)]
def xm_31 : xrM := ((3, 2, ⟨"HexTemplates$Nodes", "fieldIn", "(II)I"⟩), (prog_5_method_6_code, 4, (some FieldType.int)), [], xc_31)
-- 32: HexTemplates$Nodes.firstReferenceIn(I)I
def xc_32 : xrC := [(0, .iload_n 1, 1), (1, .iconst 1, 1), (2, .iadd, 1), (3, .istore_n 2, 1), (4, .iload_n 2, 1), (5, .aload_n 0, 1), (6, .getfield 199, 3), (9, .if_icmp .ge 31, 3),
  (12, .aload_n 0, 1), (13, .getfield 197, 3), (16, .iload_n 2, 1), (17, .iaload, 1), (18, .iload_n 1, 1), (19, .if_icmp .ne 15, 3), (22, .aload_n 0, 1), (23, .getfield 192, 3),
  (26, .iload_n 2, 1), (27, .iaload, 1), (28, .iconst 3, 1), (29, .if_icmp .ne 5, 3), (32, .iload_n 2, 1), (33, .ireturn, 1), (34, .iinc 2 1, 3), (37, .goto (-33), 3),
  (40, .iconst (-1), 1), (41, .ireturn, 1)]
def xm_32 : xrM := ((3, 1, ⟨"HexTemplates$Nodes", "firstReferenceIn", "(I)I"⟩), (prog_5_method_7_code, 3, (some FieldType.int)), [], xc_32)
-- 33: HexTemplates$Nodes.elementAt(II)I
def xc_33 : xrC := [(0, .aload_n 0, 1), (1, .iload_n 1, 1), (2, .invokevirtual 27, 3), (5, .ifCond .eq 17, 3), (8, .aload_n 0, 1), (9, .getfield 192, 3), (12, .iload_n 1, 1), (13, .iaload, 1),
  (14, .iconst 1, 1), (15, .if_icmp .ne 7, 3), (18, .iload_n 2, 1), (19, .ifCond .ge 5, 3), (22, .iconst (-1), 1), (23, .ireturn, 1), (24, .iload_n 2, 1), (25, .istore_n 3, 1),
  (26, .iload_n 1, 1), (27, .iconst 1, 1), (28, .iadd, 1), (29, .istore 4, 2), (31, .iload 4, 2), (33, .aload_n 0, 1), (34, .getfield 199, 3), (37, .if_icmp .ge 30, 3),
  (40, .aload_n 0, 1), (41, .getfield 197, 3), (44, .iload 4, 2), (46, .iaload, 1), (47, .iload_n 1, 1), (48, .if_icmp .ne 13, 3), (51, .iload_n 3, 1), (52, .ifCond .ne 6, 3),
  (55, .iload 4, 2), (57, .ireturn, 1), (58, .iinc 3 (-1), 3), (61, .iinc 4 1, 3), (64, .goto (-33), 3), (67, .iconst (-1), 1), (68, .ireturn, 1)]
def xm_33 : xrM := ((3, 2, ⟨"HexTemplates$Nodes", "elementAt", "(II)I"⟩), (prog_5_method_8_code, 5, (some FieldType.int)), [], xc_33)
-- 34: HexTemplates$Nodes.holds(II)Z
def xc_34 : xrC := [(0, .iload_n 2, 1), (1, .istore_n 3, 1), (2, .iconst 0, 1), (3, .istore 4, 2), (5, .iload 4, 2), (7, .sipush 200, 3), (10, .if_icmp .ge 31, 3), (13, .aload_n 0, 1),
  (14, .iload_n 3, 1), (15, .invokevirtual 27, 3), (18, .ifCond .eq 23, 3), (21, .iload_n 3, 1), (22, .iload_n 1, 1), (23, .if_icmp .ne 5, 3), (26, .iconst 1, 1), (27, .ireturn, 1),
  (28, .aload_n 0, 1), (29, .getfield 197, 3), (32, .iload_n 3, 1), (33, .iaload, 1), (34, .istore_n 3, 1), (35, .iinc 4 1, 3), (38, .goto (-33), 3), (41, .iconst 0, 1),
  (42, .ireturn, 1)]
def xm_34 : xrM := ((3, 2, ⟨"HexTemplates$Nodes", "holds", "(II)Z"⟩), (prog_5_method_9_code, 5, (some FieldType.boolean)), [], xc_34)
-- 35: HexTemplates$Parser.<init>()V
def xc_35 : xrC := [(0, .aload_n 0, 1), (1, .monitorexit, 3), (4, .aload_n 0, 1), (5, .aconst_null, 1), (6, .invokedynamic 256, 3), (9, .aload_n 0, 1), (10, .aconst_null, 1), (11, .invokedynamic 257, 3),
  (14, .aload_n 0, 1), (15, .iconst 0, 1), (16, .putfield 258, 3), (19, .aload_n 0, 1), (20, .iconst (-1), 1), (21, .putfield 259, 3), (24, .aload_n 0, 1), (25, .iconst 0, 1),
  (26, .putfield 260, 3), (29, .aload_n 0, 1), (30, .iconst 0, 1), (31, .putfield 261, 3), (34, .return_, 1)]
def xm_35 : xrM := ((4, 0, ⟨"HexTemplates$Parser", "<init>", "()V"⟩), (prog_6_method_1_code, 1, (none)), [], xc_35)
-- 36: HexTemplates$Parser.parse(LHexTemplates$Bytes;LHexTemplates$Template;)Z
def xc_36 : xrC := [(0, .aload_n 0, 1), (1, .aload_n 1, 1), (2, .aload_n 2, 1), (3, .invokevirtual 37, 3), (6, .iconst 0, 1), (7, .istore_n 3, 1), (8, .iload_n 3, 1), (9, .bipush 6, 2),
  (11, .if_icmp .ge 77, 3), (14, .aload_n 0, 1), (15, .getfield 259, 3), (18, .iconst (-1), 1), (19, .if_icmp .eq 69, 3), (22, .aload_n 0, 1), (23, .iload_n 3, 1), (24, .invokevirtual 42, 3),
  (27, .ifCond .ne 5, 3), (30, .iconst 0, 1), (31, .ireturn, 1), (32, .iconst 0, 1), (33, .istore 4, 2), (35, .iload 4, 2), (37, .bipush 8, 2), (39, .if_icmp .ge 34, 3),
  (42, .aload_n 0, 1), (43, .getfield 259, 3), (46, .bipush 125, 2), (48, .if_icmp .eq 25, 3), (51, .aload_n 0, 1), (52, .iload_n 3, 1), (53, .bipush 8, 2), (55, .imul, 1),
  (56, .iload 4, 2), (58, .iadd, 1), (59, .invokevirtual 46, 3), (62, .ifCond .ne 5, 3), (65, .iconst 0, 1), (66, .ireturn, 1), (67, .iinc 4 1, 3), (70, .goto (-35), 3),
  (73, .aload_n 0, 1), (74, .invokevirtual 43, 3), (77, .ifCond .ne 5, 3), (80, .iconst 0, 1), (81, .ireturn, 1), (82, .iinc 3 1, 3), (85, .goto (-77), 3), (88, .aload_n 0, 1),
  (89, .getfield 259, 3), (92, .iconst (-1), 1), (93, .if_icmp .ne 24, 3), (96, .aload_n 0, 1), (97, .getfield 257, 3), (100, .getfield 449, 3), (103, .ifCond .le 14, 3), (106, .aload_n 0, 1),
  (107, .invokevirtual 44, 3), (110, .ifCond .eq 7, 3), (113, .iconst 1, 1), (114, .goto 4, 3), (117, .iconst 0, 1), (118, .ireturn, 1)]
def xm_36 : xrM := ((4, 2, ⟨"HexTemplates$Parser", "parse", "(LHexTemplates$Bytes;LHexTemplates$Template;)Z"⟩), (prog_6_method_2_code, 5, (some FieldType.boolean)), [], xc_36)
-- 37: HexTemplates$Parser.begin(LHexTemplates$Bytes;LHexTemplates$Template;)V
def xc_37 : xrC := [(0, .aload_n 0, 1), (1, .aload_n 1, 1), (2, .invokedynamic 256, 3), (5, .aload_n 0, 1), (6, .aload_n 2, 1), (7, .invokedynamic 257, 3), (10, .aload_n 0, 1), (11, .getfield 257, 3),
  (14, .invokevirtual 96, 3), (17, .aload_n 0, 1), (18, .iconst 0, 1), (19, .putfield 261, 3), (22, .aload_n 0, 1), (23, .iconst (-1), 1), (24, .putfield 258, 3), (27, .aload_n 0, 1),
  (28, .invokevirtual 38, 3), (31, .return_, 1)]
def xm_37 : xrM := ((4, 2, ⟨"HexTemplates$Parser", "begin", "(LHexTemplates$Bytes;LHexTemplates$Template;)V"⟩), (prog_6_method_3_code, 3, (none)), [], xc_37)
-- 38: HexTemplates$Parser.advance()V
def xc_38 : xrC := [(0, .aload_n 0, 1), (1, .dup, 1), (2, .getfield 258, 3), (5, .iconst 1, 1), (6, .iadd, 1), (7, .putfield 258, 3), (10, .aload_n 0, 1), (11, .aload_n 0, 1),
  (12, .getfield 258, 3), (15, .ifCond .lt 32, 3), (18, .aload_n 0, 1), (19, .getfield 258, 3), (22, .aload_n 0, 1), (23, .getfield 256, 3), (26, .getfield 1, 3), (29, .if_icmp .ge 18, 3),
  (32, .aload_n 0, 1), (33, .getfield 256, 3), (36, .getfield 0, 3), (39, .aload_n 0, 1), (40, .getfield 258, 3), (43, .iaload, 1), (44, .goto 4, 3), (47, .iconst (-1), 1),
  (48, .putfield 259, 3), (51, .return_, 1)]
def xm_38 : xrM := ((4, 0, ⟨"HexTemplates$Parser", "advance", "()V"⟩), (prog_6_method_4_code, 1, (none)), [], xc_38)
-- 39: HexTemplates$Parser.accept(I)Z
def xc_39 : xrC := [(0, .aload_n 0, 1), (1, .getfield 259, 3), (4, .iload_n 1, 1), (5, .if_icmp .eq 5, 3), (8, .iconst 0, 1), (9, .ireturn, 1), (10, .aload_n 0, 1), (11, .invokevirtual 38, 3),
  (14, .iconst 1, 1), (15, .ireturn, 1)]
def xm_39 : xrM := ((4, 1, ⟨"HexTemplates$Parser", "accept", "(I)Z"⟩), (prog_6_method_5_code, 2, (some FieldType.boolean)), [], xc_39)
-- 40: HexTemplates$Parser.isName()Z
def xc_40 : xrC := [(0, .aload_n 0, 1), (1, .getfield 259, 3), (4, .bipush 65, 2), (6, .if_icmp .lt 25, 3), (9, .aload_n 0, 1), (10, .getfield 259, 3), (13, .bipush 90, 2), (15, .if_icmp .gt 16, 3),
  (18, .aload_n 0, 1), (19, .getfield 259, 3), (22, .bipush 87, 2), (24, .if_icmp .eq 7, 3), (27, .iconst 1, 1), (28, .goto 4, 3), (31, .iconst 0, 1), (32, .ireturn, 1)]
def xm_40 : xrM := ((4, 0, ⟨"HexTemplates$Parser", "isName", "()Z"⟩), (prog_6_method_6_code, 1, (some FieldType.boolean)), [], xc_40)
-- 41: HexTemplates$Parser.isDigit()Z
def xc_41 : xrC := [(0, .aload_n 0, 1), (1, .getfield 259, 3), (4, .bipush 48, 2), (6, .if_icmp .lt 16, 3), (9, .aload_n 0, 1), (10, .getfield 259, 3), (13, .bipush 57, 2), (15, .if_icmp .gt 7, 3),
  (18, .iconst 1, 1), (19, .goto 4, 3), (22, .iconst 0, 1), (23, .ireturn, 1)]
def xm_41 : xrM := ((4, 0, ⟨"HexTemplates$Parser", "isDigit", "()Z"⟩), (prog_6_method_7_code, 1, (some FieldType.boolean)), [], xc_41)
-- 42: HexTemplates$Parser.openStructure(I)Z
def xc_42 : xrC := [(0, .aload_n 0, 1), (1, .invokevirtual 40, 3), (4, .ifCond .eq 21, 3), (7, .aload_n 0, 1), (8, .getfield 257, 3), (11, .aload_n 0, 1), (12, .getfield 259, 3), (15, .bipush 65, 2),
  (17, .isub, 1), (18, .invokevirtual 97, 3), (21, .iconst (-1), 1), (22, .if_icmp .eq 5, 3), (25, .iconst 0, 1), (26, .ireturn, 1), (27, .aload_n 0, 1), (28, .iload_n 1, 1),
  (29, .putfield 260, 3), (32, .aload_n 0, 1), (33, .getfield 257, 3), (36, .getfield 452, 3), (39, .iload_n 1, 1), (40, .aload_n 0, 1), (41, .getfield 259, 3), (44, .bipush 65, 2),
  (46, .isub, 1), (47, .iastore, 1), (48, .aload_n 0, 1), (49, .getfield 257, 3), (52, .getfield 453, 3), (55, .iload_n 1, 1), (56, .iconst 0, 1), (57, .iastore, 1),
  (58, .aload_n 0, 1), (59, .getfield 257, 3), (62, .dup, 1), (63, .getfield 449, 3), (66, .iconst 1, 1), (67, .iadd, 1), (68, .putfield 449, 3), (71, .aload_n 0, 1),
  (72, .invokevirtual 38, 3), (75, .aload_n 0, 1), (76, .bipush 123, 2), (78, .invokevirtual 39, 3), (81, .ireturn, 1)]
def xm_42 : xrM := ((4, 1, ⟨"HexTemplates$Parser", "openStructure", "(I)Z"⟩), (prog_6_method_8_code, 2, (some FieldType.boolean)), [], xc_42)
-- 43: HexTemplates$Parser.closeStructure()Z
def xc_43 : xrC := [(0, .iconst 0, 1), (1, .istore_n 1, 1), (2, .iload_n 1, 1), (3, .aload_n 0, 1), (4, .getfield 257, 3), (7, .getfield 453, 3), (10, .aload_n 0, 1), (11, .getfield 260, 3),
  (14, .iaload, 1), (15, .if_icmp .ge 19, 3), (18, .aload_n 0, 1), (19, .iload_n 1, 1), (20, .invokevirtual 45, 3), (23, .ifCond .ne 5, 3), (26, .iconst 0, 1), (27, .ireturn, 1),
  (28, .iinc 1 1, 3), (31, .goto (-29), 3), (34, .aload_n 0, 1), (35, .getfield 261, 3), (38, .ifCond .ne 16, 3), (41, .aload_n 0, 1), (42, .bipush 125, 2), (44, .invokevirtual 39, 3),
  (47, .ifCond .eq 7, 3), (50, .iconst 1, 1), (51, .goto 4, 3), (54, .iconst 0, 1), (55, .ireturn, 1)]
def xm_43 : xrM := ((4, 0, ⟨"HexTemplates$Parser", "closeStructure", "()Z"⟩), (prog_6_method_9_code, 2, (some FieldType.boolean)), [], xc_43)
-- 44: HexTemplates$Parser.resolveChoices()Z
def xc_44 : xrC := [(0, .iconst 0, 1), (1, .istore_n 1, 1), (2, .iload_n 1, 1), (3, .aload_n 0, 1), (4, .getfield 257, 3), (7, .getfield 451, 3), (10, .if_icmp .ge 49, 3), (13, .aload_n 0, 1),
  (14, .getfield 257, 3), (17, .getfield 456, 3), (20, .iload_n 1, 1), (21, .aload_n 0, 1), (22, .getfield 257, 3), (25, .aload_n 0, 1), (26, .getfield 257, 3), (29, .getfield 456, 3),
  (32, .iload_n 1, 1), (33, .iaload, 1), (34, .invokevirtual 97, 3), (37, .iastore, 1), (38, .aload_n 0, 1), (39, .getfield 257, 3), (42, .getfield 456, 3), (45, .iload_n 1, 1),
  (46, .iaload, 1), (47, .iconst (-1), 1), (48, .if_icmp .ne 5, 3), (51, .iconst 0, 1), (52, .ireturn, 1), (53, .iinc 1 1, 3), (56, .goto (-54), 3), (59, .iconst 1, 1),
  (60, .ireturn, 1)]
def xm_44 : xrM := ((4, 0, ⟨"HexTemplates$Parser", "resolveChoices", "()Z"⟩), (prog_6_method_10_code, 2, (some FieldType.boolean)), [], xc_44)
-- 45: HexTemplates$Parser.resolveRelation(I)Z
def xc_45 : xrC := [(0, .aload_n 0, 1), (1, .getfield 260, 3), (4, .bipush 8, 2), (6, .imul, 1), (7, .iload_n 1, 1), (8, .iadd, 1), (9, .istore_n 2, 1), (10, .aload_n 0, 1),
  (11, .getfield 257, 3), (14, .getfield 467, 3), (17, .iload_n 2, 1), (18, .iaload, 1), (19, .istore_n 3, 1), (20, .iload_n 3, 1), (21, .ifCond .eq 9, 3), (24, .iload_n 3, 1),
  (25, .bipush 61, 2), (27, .if_icmp .ne 5, 3), (30, .iconst 1, 1), (31, .ireturn, 1), (32, .aload_n 0, 1), (33, .getfield 257, 3), (36, .aload_n 0, 1), (37, .getfield 260, 3),
  (40, .aload_n 0, 1), (41, .getfield 257, 3), (44, .getfield 468, 3), (47, .iload_n 2, 1), (48, .iaload, 1), (49, .invokevirtual 98, 3), (52, .istore 4, 2), (54, .iload 4, 2),
  (56, .iconst (-1), 1), (57, .if_icmp .eq 9, 3), (60, .iload 4, 2), (62, .iload_n 1, 1), (63, .if_icmp .ne 5, 3), (66, .iconst 0, 1), (67, .ireturn, 1), (68, .aload_n 0, 1),
  (69, .getfield 257, 3), (72, .getfield 468, 3), (75, .iload_n 2, 1), (76, .aload_n 0, 1), (77, .getfield 260, 3), (80, .bipush 8, 2), (82, .imul, 1), (83, .iload 4, 2),
  (85, .iadd, 1), (86, .iastore, 1), (87, .iload_n 3, 1), (88, .bipush 37, 2), (90, .if_icmp .ne 26, 3), (93, .aload_n 0, 1), (94, .getfield 257, 3), (97, .getfield 458, 3),
  (100, .aload_n 0, 1), (101, .getfield 260, 3), (104, .bipush 8, 2), (106, .imul, 1), (107, .iload 4, 2), (109, .iadd, 1), (110, .iaload, 1), (111, .bipush 91, 2),
  (113, .if_icmp .ne 7, 3), (116, .iconst 1, 1), (117, .goto 4, 3), (120, .iconst 0, 1), (121, .ireturn, 1)]
def xm_45 : xrM := ((4, 1, ⟨"HexTemplates$Parser", "resolveRelation", "(I)Z"⟩), (prog_6_method_11_code, 5, (some FieldType.boolean)), [], xc_45)
-- 46: HexTemplates$Parser.parseField(I)Z
def xc_46 : xrC := [(0, .aload_n 0, 1), (1, .getfield 259, 3), (4, .bipush 97, 2), (6, .isub, 1), (7, .istore_n 2, 1), (8, .iload_n 2, 1), (9, .ifCond .lt 25, 3), (12, .iload_n 2, 1),
  (13, .bipush 26, 2), (15, .if_icmp .ge 19, 3), (18, .aload_n 0, 1), (19, .getfield 257, 3), (22, .aload_n 0, 1), (23, .getfield 260, 3), (26, .iload_n 2, 1), (27, .invokevirtual 98, 3),
  (30, .iconst (-1), 1), (31, .if_icmp .eq 5, 3), (34, .iconst 0, 1), (35, .ireturn, 1), (36, .aload_n 0, 1), (37, .invokevirtual 38, 3), (40, .aload_n 0, 1), (41, .bipush 58, 2),
  (43, .invokevirtual 39, 3), (46, .ifCond .eq 11, 3), (49, .aload_n 0, 1), (50, .iload_n 1, 1), (51, .invokevirtual 47, 3), (54, .ifCond .ne 5, 3), (57, .iconst 0, 1), (58, .ireturn, 1),
  (59, .aload_n 0, 1), (60, .getfield 257, 3), (63, .getfield 457, 3), (66, .iload_n 1, 1), (67, .iload_n 2, 1), (68, .iastore, 1), (69, .aload_n 0, 1), (70, .getfield 257, 3),
  (73, .getfield 467, 3), (76, .iload_n 1, 1), (77, .iconst 0, 1), (78, .iastore, 1), (79, .aload_n 0, 1), (80, .getfield 259, 3), (83, .bipush 61, 2), (85, .if_icmp .ne 13, 3),
  (88, .aload_n 0, 1), (89, .iload_n 1, 1), (90, .invokevirtual 54, 3), (93, .ifCond .ne 5, 3), (96, .iconst 0, 1), (97, .ireturn, 1), (98, .aload_n 0, 1), (99, .getfield 257, 3),
  (102, .getfield 453, 3), (105, .aload_n 0, 1), (106, .getfield 260, 3), (109, .dup2, 1), (110, .iaload, 1), (111, .iconst 1, 1), (112, .iadd, 1), (113, .iastore, 1),
  (114, .aload_n 0, 1), (115, .bipush 59, 2), (117, .invokevirtual 39, 3), (120, .ireturn, 1)]
def xm_46 : xrM := ((4, 1, ⟨"HexTemplates$Parser", "parseField", "(I)Z"⟩), (prog_6_method_12_code, 3, (some FieldType.boolean)), [], xc_46)
-- 47: HexTemplates$Parser.parseType(I)Z
def xc_47 : xrC := [(0, .aload_n 0, 1), (1, .getfield 259, 3), (4, .istore_n 2, 1), (5, .iload_n 2, 1), (6, .bipush 110, 2), (8, .if_icmp .eq 12, 3), (11, .aload_n 0, 1), (12, .getfield 261, 3),
  (15, .ifCond .eq 5, 3), (18, .iconst 0, 1), (19, .ireturn, 1), (20, .aload_n 0, 1), (21, .invokevirtual 40, 3), (24, .ifCond .eq 45, 3), (27, .aload_n 0, 1), (28, .getfield 257, 3),
  (31, .getfield 458, 3), (34, .iload_n 1, 1), (35, .bipush 65, 2), (37, .iastore, 1), (38, .aload_n 0, 1), (39, .iload_n 1, 1), (40, .invokevirtual 50, 3), (43, .ifCond .eq 24, 3),
  (46, .aload_n 0, 1), (47, .getfield 259, 3), (50, .bipush 91, 2), (52, .if_icmp .ne 11, 3), (55, .aload_n 0, 1), (56, .iload_n 1, 1), (57, .invokevirtual 51, 3), (60, .ifCond .eq 7, 3),
  (63, .iconst 1, 1), (64, .goto 4, 3), (67, .iconst 0, 1), (68, .ireturn, 1), (69, .aload_n 0, 1), (70, .getfield 257, 3), (73, .getfield 458, 3), (76, .iload_n 1, 1),
  (77, .iload_n 2, 1), (78, .iastore, 1), (79, .aload_n 0, 1), (80, .getfield 257, 3), (83, .getfield 459, 3), (86, .iload_n 1, 1), (87, .iload_n 2, 1), (88, .bipush 119, 2),
  (90, .if_icmp .eq 9, 3), (93, .iload_n 2, 1), (94, .bipush 87, 2), (96, .if_icmp .ne 8, 3), (99, .bipush 16, 2), (101, .goto 5, 3), (104, .bipush 8, 2), (106, .iastore, 1),
  (107, .aload_n 0, 1), (108, .invokevirtual 38, 3), (111, .iload_n 2, 1), (112, .lookupswitch 147 #[(87, 68), (98, 68), (110, 109), (114, 70), (115, 115), (119, 68), (122, 68)], 68), (180, .iconst 1, 1), (181, .ireturn, 1), (182, .aload_n 0, 1), (183, .getfield 257, 3),
  (186, .getfield 463, 3), (189, .iload_n 1, 1), (190, .aload_n 0, 1), (191, .getfield 257, 3), (194, .getfield 451, 3), (197, .iastore, 1), (198, .aload_n 0, 1), (199, .getfield 257, 3),
  (202, .getfield 464, 3), (205, .iload_n 1, 1), (206, .aload_n 0, 1), (207, .getfield 257, 3), (210, .getfield 451, 3), (213, .iconst 1, 1), (214, .iadd, 1), (215, .iastore, 1),
  (216, .aload_n 0, 1), (217, .invokevirtual 48, 3), (220, .ireturn, 1), (221, .aload_n 0, 1), (222, .iload_n 1, 1), (223, .invokevirtual 49, 3), (226, .ireturn, 1), (227, .aload_n 0, 1),
  (228, .bipush 40, 2), (230, .invokevirtual 39, 3), (233, .ifCond .eq 24, 3), (236, .aload_n 0, 1), (237, .iload_n 1, 1), (238, .invokevirtual 52, 3), (241, .ifCond .eq 16, 3), (244, .aload_n 0, 1),
  (245, .bipush 41, 2), (247, .invokevirtual 39, 3), (250, .ifCond .eq 7, 3), (253, .iconst 1, 1), (254, .goto 4, 3), (257, .iconst 0, 1), (258, .ireturn, 1), (259, .iconst 0, 1),
  (260, .ireturn, 1)]
def xm_47 : xrM := ((4, 1, ⟨"HexTemplates$Parser", "parseType", "(I)Z"⟩), (prog_6_method_13_code, 3, (some FieldType.boolean)), [], xc_47)
-- 48: HexTemplates$Parser.parseChoice()Z
def xc_48 : xrC := [(0, .aload_n 0, 1), (1, .invokevirtual 40, 3), (4, .ifCond .eq 20, 3), (7, .aload_n 0, 1), (8, .getfield 257, 3), (11, .aload_n 0, 1), (12, .getfield 259, 3), (15, .bipush 65, 2),
  (17, .isub, 1), (18, .invokevirtual 103, 3), (21, .ifCond .ne 5, 3), (24, .iconst 0, 1), (25, .ireturn, 1), (26, .aload_n 0, 1), (27, .invokevirtual 38, 3), (30, .iconst 1, 1),
  (31, .ireturn, 1)]
def xm_48 : xrM := ((4, 0, ⟨"HexTemplates$Parser", "parseChoice", "()Z"⟩), (prog_6_method_14_code, 1, (some FieldType.boolean)), [], xc_48)
-- 49: HexTemplates$Parser.parseBits(I)Z
def xc_49 : xrC := [(0, .aload_n 0, 1), (1, .getfield 259, 3), (4, .bipush 48, 2), (6, .isub, 1), (7, .istore_n 2, 1), (8, .iload_n 2, 1), (9, .iconst 1, 1), (10, .if_icmp .lt 14, 3),
  (13, .iload_n 2, 1), (14, .bipush 8, 2), (16, .aload_n 0, 1), (17, .getfield 261, 3), (20, .isub, 1), (21, .if_icmp .le 5, 3), (24, .iconst 0, 1), (25, .ireturn, 1),
  (26, .aload_n 0, 1), (27, .dup, 1), (28, .getfield 261, 3), (31, .iload_n 2, 1), (32, .iadd, 1), (33, .putfield 261, 3), (36, .aload_n 0, 1), (37, .getfield 257, 3),
  (40, .getfield 459, 3), (43, .iload_n 1, 1), (44, .iload_n 2, 1), (45, .iastore, 1), (46, .aload_n 0, 1), (47, .getfield 257, 3), (50, .getfield 460, 3), (53, .iload_n 1, 1),
  (54, .bipush 8, 2), (56, .aload_n 0, 1), (57, .getfield 261, 3), (60, .isub, 1), (61, .iastore, 1), (62, .aload_n 0, 1), (63, .aload_n 0, 1), (64, .getfield 261, 3),
  (67, .bipush 8, 2), (69, .if_icmp .ne 7, 3), (72, .iconst 0, 1), (73, .goto 7, 3), (76, .aload_n 0, 1), (77, .getfield 261, 3), (80, .putfield 261, 3), (83, .aload_n 0, 1),
  (84, .invokevirtual 38, 3), (87, .iconst 1, 1), (88, .ireturn, 1)]
def xm_49 : xrM := ((4, 1, ⟨"HexTemplates$Parser", "parseBits", "(I)Z"⟩), (prog_6_method_15_code, 3, (some FieldType.boolean)), [], xc_49)
-- 50: HexTemplates$Parser.parseNames(I)Z
def xc_50 : xrC := [(0, .aload_n 0, 1), (1, .getfield 257, 3), (4, .getfield 463, 3), (7, .iload_n 1, 1), (8, .aload_n 0, 1), (9, .getfield 257, 3), (12, .getfield 451, 3), (15, .iastore, 1),
  (16, .aload_n 0, 1), (17, .invokevirtual 48, 3), (20, .ifCond .ne 5, 3), (23, .iconst 0, 1), (24, .ireturn, 1), (25, .iconst 0, 1), (26, .istore_n 2, 1), (27, .iload_n 2, 1),
  (28, .bipush 100, 2), (30, .if_icmp .ge 31, 3), (33, .aload_n 0, 1), (34, .getfield 259, 3), (37, .bipush 124, 2), (39, .if_icmp .ne 22, 3), (42, .aload_n 0, 1), (43, .invokevirtual 38, 3),
  (46, .aload_n 0, 1), (47, .invokevirtual 48, 3), (50, .ifCond .ne 5, 3), (53, .iconst 0, 1), (54, .ireturn, 1), (55, .iinc 2 1, 3), (58, .goto (-31), 3), (61, .aload_n 0, 1),
  (62, .getfield 257, 3), (65, .getfield 464, 3), (68, .iload_n 1, 1), (69, .aload_n 0, 1), (70, .getfield 257, 3), (73, .getfield 451, 3), (76, .iastore, 1), (77, .iconst 1, 1),
  (78, .ireturn, 1)]
def xm_50 : xrM := ((4, 1, ⟨"HexTemplates$Parser", "parseNames", "(I)Z"⟩), (prog_6_method_16_code, 3, (some FieldType.boolean)), [], xc_50)
-- 51: HexTemplates$Parser.parseCount(I)Z
def xc_51 : xrC := [(0, .aload_n 0, 1), (1, .getfield 257, 3), (4, .getfield 458, 3), (7, .iload_n 1, 1), (8, .bipush 91, 2), (10, .iastore, 1), (11, .aload_n 0, 1), (12, .getfield 257, 3),
  (15, .getfield 465, 3), (18, .iload_n 1, 1), (19, .bipush 43, 2), (21, .iastore, 1), (22, .aload_n 0, 1), (23, .invokevirtual 38, 3), (26, .aload_n 0, 1), (27, .getfield 259, 3),
  (30, .bipush 42, 2), (32, .if_icmp .eq 21, 3), (35, .aload_n 0, 1), (36, .getfield 259, 3), (39, .bipush 33, 2), (41, .if_icmp .eq 12, 3), (44, .aload_n 0, 1), (45, .getfield 259, 3),
  (48, .bipush 63, 2), (50, .if_icmp .ne 20, 3), (53, .aload_n 0, 1), (54, .getfield 257, 3), (57, .getfield 465, 3), (60, .iload_n 1, 1), (61, .aload_n 0, 1), (62, .getfield 259, 3),
  (65, .iastore, 1), (66, .aload_n 0, 1), (67, .invokevirtual 38, 3), (70, .aload_n 0, 1), (71, .getfield 257, 3), (74, .getfield 465, 3), (77, .iload_n 1, 1), (78, .iaload, 1),
  (79, .bipush 42, 2), (81, .if_icmp .ne 10, 3), (84, .aload_n 0, 1), (85, .bipush 93, 2), (87, .invokevirtual 39, 3), (90, .ireturn, 1), (91, .aload_n 0, 1), (92, .getfield 257, 3),
  (95, .getfield 465, 3), (98, .iload_n 1, 1), (99, .iaload, 1), (100, .bipush 33, 2), (102, .if_icmp .ne 44, 3), (105, .aload_n 0, 1), (106, .getfield 257, 3), (109, .getfield 466, 3),
  (112, .iload_n 1, 1), (113, .aload_n 0, 1), (114, .invokevirtual 53, 3), (117, .iastore, 1), (118, .aload_n 0, 1), (119, .getfield 257, 3), (122, .getfield 466, 3), (125, .iload_n 1, 1),
  (126, .iaload, 1), (127, .iconst (-1), 1), (128, .if_icmp .eq 16, 3), (131, .aload_n 0, 1), (132, .bipush 93, 2), (134, .invokevirtual 39, 3), (137, .ifCond .eq 7, 3), (140, .iconst 1, 1),
  (141, .goto 4, 3), (144, .iconst 0, 1), (145, .ireturn, 1), (146, .aload_n 0, 1), (147, .iload_n 1, 1), (148, .invokevirtual 52, 3), (151, .ifCond .eq 16, 3), (154, .aload_n 0, 1),
  (155, .bipush 93, 2), (157, .invokevirtual 39, 3), (160, .ifCond .eq 7, 3), (163, .iconst 1, 1), (164, .goto 4, 3), (167, .iconst 0, 1), (168, .ireturn, 1)]
def xm_51 : xrM := ((4, 1, ⟨"HexTemplates$Parser", "parseCount", "(I)Z"⟩), (prog_6_method_17_code, 2, (some FieldType.boolean)), [], xc_51)
-- 52: HexTemplates$Parser.parseSum(I)Z
def xc_52 : xrC := [(0, .aload_n 0, 1), (1, .getfield 257, 3), (4, .getfield 461, 3), (7, .iload_n 1, 1), (8, .aload_n 0, 1), (9, .getfield 257, 3), (12, .getfield 450, 3), (15, .iastore, 1),
  (16, .bipush 43, 2), (18, .istore_n 2, 1), (19, .iconst 0, 1), (20, .istore_n 3, 1), (21, .iload_n 3, 1), (22, .bipush 100, 2), (24, .if_icmp .ge 170, 3), (27, .aload_n 0, 1),
  (28, .invokevirtual 41, 3), (31, .ifCond .eq 7, 3), (34, .iconst (-1), 1), (35, .goto 21, 3), (38, .aload_n 0, 1), (39, .getfield 257, 3), (42, .aload_n 0, 1), (43, .getfield 260, 3),
  (46, .aload_n 0, 1), (47, .getfield 259, 3), (50, .bipush 97, 2), (52, .isub, 1), (53, .invokevirtual 98, 3), (56, .istore 4, 2), (58, .aload_n 0, 1), (59, .invokevirtual 41, 3),
  (62, .ifCond .ne 31, 3), (65, .iload 4, 2), (67, .iconst (-1), 1), (68, .if_icmp .eq 23, 3), (71, .aload_n 0, 1), (72, .getfield 257, 3), (75, .aload_n 0, 1), (76, .getfield 260, 3),
  (79, .bipush 8, 2), (81, .imul, 1), (82, .iload 4, 2), (84, .iadd, 1), (85, .invokevirtual 99, 3), (88, .ifCond .ne 5, 3), (91, .iconst 0, 1), (92, .ireturn, 1),
  (93, .iconst (-1), 1), (94, .iload 4, 2), (96, .isub, 1), (97, .istore 5, 2), (99, .aload_n 0, 1), (100, .invokevirtual 41, 3), (103, .ifCond .eq 12, 3), (106, .aload_n 0, 1),
  (107, .invokevirtual 53, 3), (110, .istore 5, 2), (112, .goto 7, 3), (115, .aload_n 0, 1), (116, .invokevirtual 38, 3), (119, .aload_n 0, 1), (120, .getfield 257, 3), (123, .iload_n 2, 1),
  (124, .iload 5, 2), (126, .invokevirtual 102, 3), (129, .ifCond .ne 5, 3), (132, .iconst 0, 1), (133, .ireturn, 1), (134, .aload_n 0, 1), (135, .getfield 257, 3), (138, .getfield 462, 3),
  (141, .iload_n 1, 1), (142, .aload_n 0, 1), (143, .getfield 257, 3), (146, .getfield 450, 3), (149, .iastore, 1), (150, .aload_n 0, 1), (151, .getfield 259, 3), (154, .bipush 43, 2),
  (156, .if_icmp .eq 23, 3), (159, .aload_n 0, 1), (160, .getfield 259, 3), (163, .bipush 45, 2), (165, .if_icmp .eq 14, 3), (168, .aload_n 0, 1), (169, .getfield 259, 3), (172, .bipush 42, 2),
  (174, .if_icmp .eq 5, 3), (177, .iconst 1, 1), (178, .ireturn, 1), (179, .aload_n 0, 1), (180, .getfield 259, 3), (183, .istore_n 2, 1), (184, .aload_n 0, 1), (185, .invokevirtual 38, 3),
  (188, .iinc 3 1, 3), (191, .goto (-170), 3), (194, .iconst 0, 1), (195, .ireturn, 1)]
def xm_52 : xrM := ((4, 1, ⟨"HexTemplates$Parser", "parseSum", "(I)Z"⟩), (prog_6_method_18_code, 6, (some FieldType.boolean)), [], xc_52)
-- 53: HexTemplates$Parser.parseInt()I
def xc_53 : xrC := [(0, .iconst (-1), 1), (1, .istore_n 1, 1), (2, .iconst 0, 1), (3, .istore_n 2, 1), (4, .iload_n 2, 1), (5, .iconst 3, 1), (6, .if_icmp .ge 37, 3), (9, .aload_n 0, 1),
  (10, .invokevirtual 41, 3), (13, .ifCond .eq 30, 3), (16, .iload_n 1, 1), (17, .iconst 0, 1), (18, .invokestatic 22, 3), (21, .bipush 10, 2), (23, .imul, 1), (24, .aload_n 0, 1),
  (25, .getfield 259, 3), (28, .iadd, 1), (29, .bipush 48, 2), (31, .isub, 1), (32, .istore_n 1, 1), (33, .aload_n 0, 1), (34, .invokevirtual 38, 3), (37, .iinc 2 1, 3),
  (40, .goto (-36), 3), (43, .iload_n 1, 1), (44, .ireturn, 1)]
def xm_53 : xrM := ((4, 0, ⟨"HexTemplates$Parser", "parseInt", "()I"⟩), (prog_6_method_19_code, 3, (some FieldType.int)), [], xc_53)
-- 54: HexTemplates$Parser.parseRelation(I)Z
def xc_54 : xrC := [(0, .aload_n 0, 1), (1, .getfield 257, 3), (4, .iload_n 1, 1), (5, .invokevirtual 101, 3), (8, .ifCond .ne 5, 3), (11, .iconst 0, 1), (12, .ireturn, 1), (13, .aload_n 0, 1),
  (14, .invokevirtual 38, 3), (17, .aload_n 0, 1), (18, .invokevirtual 41, 3), (21, .ifCond .eq 29, 3), (24, .aload_n 0, 1), (25, .getfield 257, 3), (28, .getfield 467, 3), (31, .iload_n 1, 1),
  (32, .bipush 61, 2), (34, .iastore, 1), (35, .aload_n 0, 1), (36, .getfield 257, 3), (39, .getfield 468, 3), (42, .iload_n 1, 1), (43, .aload_n 0, 1), (44, .invokevirtual 53, 3),
  (47, .iastore, 1), (48, .iconst 1, 1), (49, .ireturn, 1), (50, .aload_n 0, 1), (51, .getfield 259, 3), (54, .bipush 35, 2), (56, .if_icmp .eq 32, 3), (59, .aload_n 0, 1),
  (60, .getfield 259, 3), (63, .bipush 37, 2), (65, .if_icmp .eq 23, 3), (68, .aload_n 0, 1), (69, .getfield 259, 3), (72, .bipush 43, 2), (74, .if_icmp .eq 14, 3), (77, .aload_n 0, 1),
  (78, .getfield 259, 3), (81, .bipush 94, 2), (83, .if_icmp .eq 5, 3), (86, .iconst 0, 1), (87, .ireturn, 1), (88, .aload_n 0, 1), (89, .getfield 257, 3), (92, .getfield 467, 3),
  (95, .iload_n 1, 1), (96, .aload_n 0, 1), (97, .getfield 259, 3), (100, .iastore, 1), (101, .aload_n 0, 1), (102, .invokevirtual 38, 3), (105, .aload_n 0, 1), (106, .getfield 257, 3),
  (109, .getfield 468, 3), (112, .iload_n 1, 1), (113, .aload_n 0, 1), (114, .getfield 259, 3), (117, .bipush 97, 2), (119, .isub, 1), (120, .iastore, 1), (121, .aload_n 0, 1),
  (122, .invokevirtual 38, 3), (125, .iconst 1, 1), (126, .ireturn, 1)]
def xm_54 : xrM := ((4, 1, ⟨"HexTemplates$Parser", "parseRelation", "(I)Z"⟩), (prog_6_method_20_code, 2, (some FieldType.boolean)), [], xc_54)
-- 55: HexTemplates$Reader.<init>()V
def xc_55 : xrC := [(0, .aload_n 0, 1), (1, .monitorexit, 3), (4, .aload_n 0, 1), (5, .new 3, 3), (8, .dup, 1), (9, .invokespecial 26, 3), (12, .invokedynamic 320, 3), (15, .aload_n 0, 1),
  (16, .aconst_null, 1), (17, .invokedynamic 321, 3), (20, .aload_n 0, 1), (21, .aconst_null, 1), (22, .invokedynamic 322, 3), (25, .aload_n 0, 1), (26, .iconst 0, 1), (27, .putfield 323, 3),
  (30, .aload_n 0, 1), (31, .iconst 0, 1), (32, .putfield 324, 3), (35, .aload_n 0, 1), (36, .iconst 0, 1), (37, .putfield 325, 3), (40, .aload_n 0, 1), (41, .iconst (-1), 1),
  (42, .putfield 326, 3), (45, .aload_n 0, 1), (46, .iconst 0, 1), (47, .putfield 327, 3), (50, .aload_n 0, 1), (51, .bipush 48, 2), (53, .newarray .int, 2), (55, .invokedynamic 328, 3),
  (58, .aload_n 0, 1), (59, .bipush 48, 2), (61, .newarray .int, 2), (63, .invokedynamic 329, 3), (66, .aload_n 0, 1), (67, .bipush 48, 2), (69, .newarray .int, 2), (71, .invokedynamic 330, 3),
  (74, .return_, 1)]
def xm_55 : xrM := ((5, 0, ⟨"HexTemplates$Reader", "<init>", "()V"⟩), (prog_7_method_1_code, 1, (none)), [], xc_55)
-- 56: HexTemplates$Reader.readAt(LHexTemplates$Template;LHexTemplates$Bytes;II)Z
def xc_56 : xrC := [(0, .aload_n 0, 1), (1, .aload_n 1, 1), (2, .invokedynamic 321, 3), (5, .aload_n 0, 1), (6, .aload_n 2, 1), (7, .invokedynamic 322, 3), (10, .aload_n 0, 1), (11, .iload 4, 2),
  (13, .putfield 323, 3), (16, .aload_n 0, 1), (17, .iconst 0, 1), (18, .putfield 324, 3), (21, .aload_n 0, 1), (22, .iconst 0, 1), (23, .putfield 327, 3), (26, .aload_n 0, 1),
  (27, .getfield 320, 3), (30, .iconst 0, 1), (31, .putfield 199, 3), (34, .aload_n 0, 1), (35, .iconst 0, 1), (36, .putfield 325, 3), (39, .aload_n 0, 1), (40, .iconst (-1), 1),
  (41, .putfield 326, 3), (44, .aload_n 1, 1), (45, .ifnull 15, 3), (48, .iload_n 3, 1), (49, .ifCond .lt 11, 3), (52, .iload_n 3, 1), (53, .aload_n 1, 1), (54, .getfield 449, 3),
  (57, .if_icmp .lt 5, 3), (60, .iconst 0, 1), (61, .ireturn, 1), (62, .aload_n 0, 1), (63, .iload_n 3, 1), (64, .iconst (-1), 1), (65, .iconst (-1), 1), (66, .iconst 0, 1),
  (67, .invokevirtual 59, 3), (70, .istore 5, 2), (72, .iload 5, 2), (74, .ifCond .eq 13, 3), (77, .aload_n 0, 1), (78, .iconst 0, 1), (79, .putfield 325, 3), (82, .aload_n 0, 1),
  (83, .iconst (-1), 1), (84, .putfield 326, 3), (87, .iload 5, 2), (89, .ireturn, 1)]
def xm_56 : xrM := ((5, 4, ⟨"HexTemplates$Reader", "readAt", "(LHexTemplates$Template;LHexTemplates$Bytes;II)Z"⟩), (prog_7_method_2_code, 6, (some FieldType.boolean)), [], xc_56)
-- 57: HexTemplates$Reader.fail(II)Z
def xc_57 : xrC := [(0, .aload_n 0, 1), (1, .iload_n 1, 1), (2, .putfield 325, 3), (5, .aload_n 0, 1), (6, .iload_n 2, 1), (7, .putfield 326, 3), (10, .iconst 0, 1), (11, .ireturn, 1)]
def xm_57 : xrM := ((5, 2, ⟨"HexTemplates$Reader", "fail", "(II)Z"⟩), (prog_7_method_3_code, 3, (some FieldType.boolean)), [], xc_57)
-- 58: HexTemplates$Reader.make(III)I
def xc_58 : xrC := [(0, .aload_n 0, 1), (1, .getfield 324, 3), (4, .sipush 200, 3), (7, .if_icmp .lt 18, 3), (10, .aload_n 0, 1), (11, .iconst 5, 1), (12, .putfield 325, 3), (15, .aload_n 0, 1),
  (16, .aload_n 0, 1), (17, .getfield 323, 3), (20, .putfield 326, 3), (23, .iconst (-1), 1), (24, .ireturn, 1), (25, .aload_n 0, 1), (26, .dup, 1), (27, .getfield 324, 3),
  (30, .iconst 1, 1), (31, .iadd, 1), (32, .putfield 324, 3), (35, .aload_n 0, 1), (36, .getfield 320, 3), (39, .iload_n 1, 1), (40, .iload_n 2, 1), (41, .aload_n 0, 1),
  (42, .getfield 323, 3), (45, .iload_n 3, 1), (46, .invokevirtual 28, 3), (49, .ireturn, 1)]
def xm_58 : xrM := ((5, 3, ⟨"HexTemplates$Reader", "make", "(III)I"⟩), (prog_7_method_4_code, 4, (some FieldType.int)), [], xc_58)
-- 59: HexTemplates$Reader.readStructure(IIII)Z
def xc_59 : xrC := [(0, .iload 4, 2), (2, .iconst 5, 1), (3, .if_icmp .le 13, 3), (6, .aload_n 0, 1), (7, .iconst 4, 1), (8, .aload_n 0, 1), (9, .getfield 323, 3), (12, .invokevirtual 57, 3),
  (15, .ireturn, 1), (16, .aload_n 0, 1), (17, .getfield 323, 3), (20, .istore 5, 2), (22, .aload_n 0, 1), (23, .iconst 0, 1), (24, .iload_n 2, 1), (25, .iload_n 3, 1),
  (26, .invokevirtual 58, 3), (29, .istore 6, 2), (31, .iload 6, 2), (33, .iconst (-1), 1), (34, .if_icmp .ne 5, 3), (37, .iconst 0, 1), (38, .ireturn, 1), (39, .iconst 0, 1),
  (40, .istore 7, 2), (42, .iload 7, 2), (44, .aload_n 0, 1), (45, .getfield 321, 3), (48, .getfield 453, 3), (51, .iload_n 1, 1), (52, .iaload, 1), (53, .if_icmp .ge 29, 3),
  (56, .aload_n 0, 1), (57, .iload_n 1, 1), (58, .bipush 8, 2), (60, .imul, 1), (61, .iload 7, 2), (63, .iadd, 1), (64, .iload 6, 2), (66, .iload 4, 2),
  (68, .invokevirtual 60, 3), (71, .ifCond .ne 5, 3), (74, .iconst 0, 1), (75, .ireturn, 1), (76, .iinc 7 1, 3), (79, .goto (-37), 3), (82, .aload_n 0, 1), (83, .iload_n 1, 1),
  (84, .iload 4, 2), (86, .invokevirtual 73, 3), (89, .aload_n 0, 1), (90, .getfield 321, 3), (93, .getfield 452, 3), (96, .iload_n 1, 1), (97, .iaload, 1), (98, .istore 7, 2),
  (100, .aload_n 0, 1), (101, .getfield 320, 3), (104, .iload 6, 2), (106, .iload_n 2, 1), (107, .iconst (-1), 1), (108, .if_icmp .ne 8, 3), (111, .iload 7, 2), (113, .goto 12, 3),
  (116, .aload_n 0, 1), (117, .getfield 321, 3), (120, .getfield 457, 3), (123, .iload_n 2, 1), (124, .iaload, 1), (125, .aload_n 0, 1), (126, .getfield 323, 3), (129, .iload 5, 2),
  (131, .isub, 1), (132, .iload 7, 2), (134, .invokevirtual 29, 3), (137, .iconst 1, 1), (138, .ireturn, 1)]
def xm_59 : xrM := ((5, 4, ⟨"HexTemplates$Reader", "readStructure", "(IIII)Z"⟩), (prog_7_method_5_code, 8, (some FieldType.boolean)), [], xc_59)
-- 60: HexTemplates$Reader.readField(III)Z
def xc_60 : xrC := [(0, .iload_n 3, 1), (1, .bipush 8, 2), (3, .imul, 1), (4, .iload_n 1, 1), (5, .bipush 8, 2), (7, .irem, 1), (8, .iadd, 1), (9, .istore 4, 2),
  (11, .aload_n 0, 1), (12, .getfield 328, 3), (15, .iload 4, 2), (17, .aload_n 0, 1), (18, .getfield 323, 3), (21, .iastore, 1), (22, .aload_n 0, 1), (23, .getfield 321, 3),
  (26, .getfield 458, 3), (29, .iload_n 1, 1), (30, .iaload, 1), (31, .lookupswitch 52 #[(65, 25), (91, 40)], 25), (56, .aload_n 0, 1), (57, .iload_n 1, 1), (58, .iload_n 1, 1), (59, .iload_n 2, 1),
  (60, .iload_n 3, 1), (61, .iconst 1, 1), (62, .iadd, 1), (63, .invokevirtual 66, 3), (66, .istore 5, 2), (68, .goto 24, 3), (71, .aload_n 0, 1), (72, .iload_n 1, 1),
  (73, .iload_n 2, 1), (74, .iload_n 3, 1), (75, .invokevirtual 68, 3), (78, .istore 5, 2), (80, .goto 12, 3), (83, .aload_n 0, 1), (84, .iload_n 1, 1), (85, .iload_n 2, 1),
  (86, .iload 4, 2), (88, .invokevirtual 61, 3), (91, .ireturn, 1), (92, .aload_n 0, 1), (93, .getfield 329, 3), (96, .iload 4, 2), (98, .aload_n 0, 1), (99, .getfield 323, 3),
  (102, .aload_n 0, 1), (103, .getfield 328, 3), (106, .iload 4, 2), (108, .iaload, 1), (109, .isub, 1), (110, .iastore, 1), (111, .iload 5, 2), (113, .ireturn, 1)]
def xm_60 : xrM := ((5, 3, ⟨"HexTemplates$Reader", "readField", "(III)Z"⟩), (prog_7_method_6_code, 6, (some FieldType.boolean)), [], xc_60)
-- 61: HexTemplates$Reader.readPlain(III)Z
def xc_61 : xrC := [(0, .aload_n 0, 1), (1, .getfield 321, 3), (4, .iload_n 1, 1), (5, .invokevirtual 100, 3), (8, .istore 4, 2), (10, .aload_n 0, 1), (11, .iload 4, 2), (13, .iload_n 1, 1),
  (14, .iload_n 2, 1), (15, .invokevirtual 58, 3), (18, .istore 5, 2), (20, .iload 5, 2), (22, .iconst (-1), 1), (23, .if_icmp .ne 5, 3), (26, .iconst 0, 1), (27, .ireturn, 1),
  (28, .aload_n 0, 1), (29, .getfield 321, 3), (32, .getfield 458, 3), (35, .iload_n 1, 1), (36, .iaload, 1), (37, .lookupswitch 67 #[(110, 56), (115, 35), (122, 46)], 35), (72, .aload_n 0, 1), (73, .iload_n 1, 1),
  (74, .iload_n 3, 1), (75, .invokevirtual 64, 3), (78, .istore 6, 2), (80, .goto 32, 3), (83, .aload_n 0, 1), (84, .iload_n 3, 1), (85, .invokevirtual 65, 3), (88, .istore 6, 2),
  (90, .goto 22, 3), (93, .aload_n 0, 1), (94, .iload_n 1, 1), (95, .iload_n 3, 1), (96, .invokevirtual 63, 3), (99, .istore 6, 2), (101, .goto 11, 3), (104, .aload_n 0, 1),
  (105, .iload_n 1, 1), (106, .iload_n 3, 1), (107, .invokevirtual 62, 3), (110, .istore 6, 2), (112, .iload 6, 2), (114, .ifCond .ne 5, 3), (117, .iconst 0, 1), (118, .ireturn, 1),
  (119, .aload_n 0, 1), (120, .getfield 320, 3), (123, .iload 5, 2), (125, .aload_n 0, 1), (126, .getfield 321, 3), (129, .getfield 457, 3), (132, .iload_n 1, 1), (133, .iaload, 1),
  (134, .aload_n 0, 1), (135, .getfield 329, 3), (138, .iload_n 3, 1), (139, .iaload, 1), (140, .aload_n 0, 1), (141, .getfield 330, 3), (144, .iload_n 3, 1), (145, .iaload, 1),
  (146, .invokevirtual 29, 3), (149, .aload_n 0, 1), (150, .dup, 1), (151, .getfield 323, 3), (154, .iload 4, 2), (156, .iconst 4, 1), (157, .if_icmp .ne 19, 3), (160, .aload_n 0, 1),
  (161, .getfield 321, 3), (164, .getfield 460, 3), (167, .iload_n 1, 1), (168, .iaload, 1), (169, .ifCond .eq 7, 3), (172, .iconst 0, 1), (173, .goto 9, 3), (176, .aload_n 0, 1),
  (177, .getfield 329, 3), (180, .iload_n 3, 1), (181, .iaload, 1), (182, .iadd, 1), (183, .putfield 323, 3), (186, .iconst 1, 1), (187, .ireturn, 1)]
def xm_61 : xrM := ((5, 3, ⟨"HexTemplates$Reader", "readPlain", "(III)Z"⟩), (prog_7_method_7_code, 7, (some FieldType.boolean)), [], xc_61)
-- 62: HexTemplates$Reader.measureNumber(II)Z
def xc_62 : xrC := [(0, .aload_n 0, 1), (1, .getfield 321, 3), (4, .getfield 459, 3), (7, .iload_n 1, 1), (8, .iaload, 1), (9, .bipush 8, 2), (11, .idiv, 1), (12, .istore_n 3, 1),
  (13, .aload_n 0, 1), (14, .getfield 323, 3), (17, .iload_n 3, 1), (18, .iadd, 1), (19, .aload_n 0, 1), (20, .getfield 322, 3), (23, .getfield 1, 3), (26, .if_icmp .le 13, 3),
  (29, .aload_n 0, 1), (30, .iconst 1, 1), (31, .aload_n 0, 1), (32, .getfield 323, 3), (35, .invokevirtual 57, 3), (38, .ireturn, 1), (39, .aload_n 0, 1), (40, .getfield 322, 3),
  (43, .aload_n 0, 1), (44, .getfield 323, 3), (47, .invokevirtual 2, 3), (50, .istore 4, 2), (52, .iload_n 3, 1), (53, .iconst 2, 1), (54, .if_icmp .ne 53, 3), (57, .aload_n 0, 1),
  (58, .getfield 322, 3), (61, .aload_n 0, 1), (62, .getfield 323, 3), (65, .iconst 1, 1), (66, .iadd, 1), (67, .invokevirtual 2, 3), (70, .istore 5, 2), (72, .aload_n 0, 1),
  (73, .getfield 321, 3), (76, .getfield 458, 3), (79, .iload_n 1, 1), (80, .iaload, 1), (81, .bipush 87, 2), (83, .if_icmp .ne 14, 3), (86, .iload 4, 2), (88, .bipush 8, 2),
  (90, .ishl, 1), (91, .iload 5, 2), (93, .ior, 1), (94, .goto 11, 3), (97, .iload 5, 2), (99, .bipush 8, 2), (101, .ishl, 1), (102, .iload 4, 2),
  (104, .ior, 1), (105, .istore 4, 2), (107, .aload_n 0, 1), (108, .getfield 321, 3), (111, .getfield 467, 3), (114, .iload_n 1, 1), (115, .iaload, 1), (116, .bipush 61, 2),
  (118, .if_icmp .ne 27, 3), (121, .iload 4, 2), (123, .aload_n 0, 1), (124, .getfield 321, 3), (127, .getfield 468, 3), (130, .iload_n 1, 1), (131, .iaload, 1), (132, .if_icmp .eq 13, 3),
  (135, .aload_n 0, 1), (136, .iconst 2, 1), (137, .aload_n 0, 1), (138, .getfield 323, 3), (141, .invokevirtual 57, 3), (144, .ireturn, 1), (145, .aload_n 0, 1), (146, .getfield 329, 3),
  (149, .iload_n 2, 1), (150, .iload_n 3, 1), (151, .iastore, 1), (152, .aload_n 0, 1), (153, .getfield 330, 3), (156, .iload_n 2, 1), (157, .iload 4, 2), (159, .iastore, 1),
  (160, .iconst 1, 1), (161, .ireturn, 1)]
def xm_62 : xrM := ((5, 2, ⟨"HexTemplates$Reader", "measureNumber", "(II)Z"⟩), (prog_7_method_8_code, 6, (some FieldType.boolean)), [], xc_62)
-- 63: HexTemplates$Reader.measureBits(II)Z
def xc_63 : xrC := [(0, .aload_n 0, 1), (1, .getfield 323, 3), (4, .aload_n 0, 1), (5, .getfield 322, 3), (8, .getfield 1, 3), (11, .if_icmp .lt 13, 3), (14, .aload_n 0, 1), (15, .iconst 1, 1),
  (16, .aload_n 0, 1), (17, .getfield 323, 3), (20, .invokevirtual 57, 3), (23, .ireturn, 1), (24, .aload_n 0, 1), (25, .getfield 329, 3), (28, .iload_n 2, 1), (29, .iconst 1, 1),
  (30, .iastore, 1), (31, .aload_n 0, 1), (32, .getfield 330, 3), (35, .iload_n 2, 1), (36, .aload_n 0, 1), (37, .aload_n 0, 1), (38, .getfield 322, 3), (41, .aload_n 0, 1),
  (42, .getfield 323, 3), (45, .invokevirtual 2, 3), (48, .aload_n 0, 1), (49, .getfield 321, 3), (52, .getfield 460, 3), (55, .iload_n 1, 1), (56, .iaload, 1), (57, .ishr, 1),
  (58, .aload_n 0, 1), (59, .getfield 321, 3), (62, .getfield 459, 3), (65, .iload_n 1, 1), (66, .iaload, 1), (67, .invokevirtual 75, 3), (70, .iastore, 1), (71, .iconst 1, 1),
  (72, .ireturn, 1)]
def xm_63 : xrM := ((5, 2, ⟨"HexTemplates$Reader", "measureBits", "(II)Z"⟩), (prog_7_method_9_code, 3, (some FieldType.boolean)), [], xc_63)
-- 64: HexTemplates$Reader.measureCounted(II)Z
def xc_64 : xrC := [(0, .aload_n 0, 1), (1, .iload_n 1, 1), (2, .iload_n 2, 1), (3, .iload_n 2, 1), (4, .bipush 8, 2), (6, .irem, 1), (7, .isub, 1), (8, .invokevirtual 72, 3),
  (11, .istore_n 3, 1), (12, .iload_n 3, 1), (13, .ifCond .lt 9, 3), (16, .iload_n 3, 1), (17, .bipush 100, 2), (19, .if_icmp .le 13, 3), (22, .aload_n 0, 1), (23, .iconst 3, 1),
  (24, .aload_n 0, 1), (25, .getfield 323, 3), (28, .invokevirtual 57, 3), (31, .ireturn, 1), (32, .iload_n 3, 1), (33, .ifCond .le 29, 3), (36, .aload_n 0, 1), (37, .getfield 323, 3),
  (40, .iload_n 3, 1), (41, .iadd, 1), (42, .aload_n 0, 1), (43, .getfield 322, 3), (46, .getfield 1, 3), (49, .if_icmp .le 13, 3), (52, .aload_n 0, 1), (53, .iconst 1, 1),
  (54, .aload_n 0, 1), (55, .getfield 323, 3), (58, .invokevirtual 57, 3), (61, .ireturn, 1), (62, .aload_n 0, 1), (63, .getfield 329, 3), (66, .iload_n 2, 1), (67, .iload_n 3, 1),
  (68, .iastore, 1), (69, .aload_n 0, 1), (70, .getfield 330, 3), (73, .iload_n 2, 1), (74, .iload_n 3, 1), (75, .ifCond .ne 7, 3), (78, .iconst (-1), 1), (79, .goto 14, 3),
  (82, .aload_n 0, 1), (83, .getfield 322, 3), (86, .aload_n 0, 1), (87, .getfield 323, 3), (90, .invokevirtual 2, 3), (93, .iastore, 1), (94, .iconst 1, 1), (95, .ireturn, 1)]
def xm_64 : xrM := ((5, 2, ⟨"HexTemplates$Reader", "measureCounted", "(II)Z"⟩), (prog_7_method_10_code, 4, (some FieldType.boolean)), [], xc_64)
-- 65: HexTemplates$Reader.measureEnded(I)Z
def xc_65 : xrC := [(0, .aload_n 0, 1), (1, .getfield 323, 3), (4, .istore_n 2, 1), (5, .iload_n 2, 1), (6, .aload_n 0, 1), (7, .getfield 322, 3), (10, .getfield 1, 3), (13, .if_icmp .ge 53, 3),
  (16, .aload_n 0, 1), (17, .getfield 322, 3), (20, .iload_n 2, 1), (21, .invokevirtual 2, 3), (24, .ifCond .ne 36, 3), (27, .aload_n 0, 1), (28, .getfield 329, 3), (31, .iload_n 1, 1),
  (32, .iload_n 2, 1), (33, .iconst 1, 1), (34, .iadd, 1), (35, .aload_n 0, 1), (36, .getfield 323, 3), (39, .isub, 1), (40, .iastore, 1), (41, .aload_n 0, 1),
  (42, .getfield 330, 3), (45, .iload_n 1, 1), (46, .aload_n 0, 1), (47, .getfield 322, 3), (50, .aload_n 0, 1), (51, .getfield 323, 3), (54, .invokevirtual 2, 3), (57, .iastore, 1),
  (58, .iconst 1, 1), (59, .ireturn, 1), (60, .iinc 2 1, 3), (63, .goto (-58), 3), (66, .aload_n 0, 1), (67, .iconst 1, 1), (68, .aload_n 0, 1), (69, .getfield 323, 3),
  (72, .invokevirtual 57, 3), (75, .ireturn, 1)]
def xm_65 : xrM := ((5, 1, ⟨"HexTemplates$Reader", "measureEnded", "(I)Z"⟩), (prog_7_method_11_code, 3, (some FieldType.boolean)), [], xc_65)
-- 66: HexTemplates$Reader.readNames(IIII)Z
def xc_66 : xrC := [(0, .aload_n 0, 1), (1, .getfield 323, 3), (4, .istore 5, 2), (6, .aload_n 0, 1), (7, .getfield 320, 3), (10, .getfield 199, 3), (13, .istore 6, 2), (15, .aload_n 0, 1),
  (16, .getfield 327, 3), (19, .istore 7, 2), (21, .aload_n 0, 1), (22, .getfield 321, 3), (25, .getfield 463, 3), (28, .iload_n 1, 1), (29, .iaload, 1), (30, .istore 8, 2),
  (32, .iload 8, 2), (34, .aload_n 0, 1), (35, .getfield 321, 3), (38, .getfield 464, 3), (41, .iload_n 1, 1), (42, .iaload, 1), (43, .if_icmp .ge 52, 3), (46, .aload_n 0, 1),
  (47, .iload 5, 2), (49, .iload 6, 2), (51, .iload 7, 2), (53, .invokevirtual 67, 3), (56, .aload_n 0, 1), (57, .aload_n 0, 1), (58, .getfield 321, 3), (61, .getfield 456, 3),
  (64, .iload 8, 2), (66, .iaload, 1), (67, .iload_n 2, 1), (68, .iload_n 3, 1), (69, .iload 4, 2), (71, .invokevirtual 59, 3), (74, .ifCond .eq 5, 3), (77, .iconst 1, 1),
  (78, .ireturn, 1), (79, .aload_n 0, 1), (80, .getfield 325, 3), (83, .iconst 5, 1), (84, .if_icmp .ne 5, 3), (87, .iconst 0, 1), (88, .ireturn, 1), (89, .iinc 8 1, 3),
  (92, .goto (-60), 3), (95, .iconst 0, 1), (96, .ireturn, 1)]
def xm_66 : xrM := ((5, 4, ⟨"HexTemplates$Reader", "readNames", "(IIII)Z"⟩), (prog_7_method_12_code, 9, (some FieldType.boolean)), [], xc_66)
-- 67: HexTemplates$Reader.goBack(III)V
def xc_67 : xrC := [(0, .aload_n 0, 1), (1, .iload_n 1, 1), (2, .putfield 323, 3), (5, .aload_n 0, 1), (6, .getfield 320, 3), (9, .iload_n 2, 1), (10, .putfield 199, 3), (13, .aload_n 0, 1),
  (14, .iload_n 3, 1), (15, .putfield 327, 3), (18, .return_, 1)]
def xm_67 : xrM := ((5, 3, ⟨"HexTemplates$Reader", "goBack", "(III)V"⟩), (prog_7_method_13_code, 4, (none)), [], xc_67)
-- 68: HexTemplates$Reader.readArray(III)Z
def xc_68 : xrC := [(0, .aload_n 0, 1), (1, .getfield 323, 3), (4, .istore 4, 2), (6, .iload_n 3, 1), (7, .bipush 8, 2), (9, .imul, 1), (10, .istore 5, 2), (12, .aload_n 0, 1),
  (13, .getfield 321, 3), (16, .getfield 465, 3), (19, .iload_n 1, 1), (20, .iaload, 1), (21, .istore 6, 2), (23, .aload_n 0, 1), (24, .iconst 1, 1), (25, .iload_n 1, 1),
  (26, .iload_n 2, 1), (27, .invokevirtual 58, 3), (30, .istore 7, 2), (32, .iload 7, 2), (34, .iconst (-1), 1), (35, .if_icmp .ne 5, 3), (38, .iconst 0, 1), (39, .ireturn, 1),
  (40, .iconst 0, 1), (41, .istore 8, 2), (43, .iload 6, 2), (45, .bipush 43, 2), (47, .if_icmp .eq 10, 3), (50, .iload 6, 2), (52, .bipush 63, 2), (54, .if_icmp .ne 12, 3),
  (57, .aload_n 0, 1), (58, .iload_n 1, 1), (59, .iload 5, 2), (61, .invokevirtual 72, 3), (64, .istore 8, 2), (66, .iload 6, 2), (68, .bipush 43, 2), (70, .if_icmp .ne 25, 3),
  (73, .iload 8, 2), (75, .ifCond .lt 10, 3), (78, .iload 8, 2), (80, .bipush 20, 2), (82, .if_icmp .le 13, 3), (85, .aload_n 0, 1), (86, .iconst 3, 1), (87, .aload_n 0, 1),
  (88, .getfield 323, 3), (91, .invokevirtual 57, 3), (94, .ireturn, 1), (95, .iload 6, 2), (97, .bipush 63, 2), (99, .if_icmp .ne 11, 3), (102, .iload 8, 2), (104, .ifCond .eq 6, 3),
  (107, .iconst 1, 1), (108, .istore 8, 2), (110, .iload 6, 2), (112, .bipush 42, 2), (114, .if_icmp .ne 16, 3), (117, .aload_n 0, 1), (118, .iload_n 1, 1), (119, .iload 7, 2),
  (121, .iload_n 3, 1), (122, .invokevirtual 70, 3), (125, .istore 8, 2), (127, .goto 39, 3), (130, .iload 6, 2), (132, .bipush 33, 2), (134, .if_icmp .ne 16, 3), (137, .aload_n 0, 1),
  (138, .iload_n 1, 1), (139, .iload 7, 2), (141, .iload_n 3, 1), (142, .invokevirtual 71, 3), (145, .istore 8, 2), (147, .goto 19, 3), (150, .aload_n 0, 1), (151, .iload_n 1, 1),
  (152, .iload 7, 2), (154, .iload_n 3, 1), (155, .iload 8, 2), (157, .invokevirtual 69, 3), (160, .ifCond .ne 6, 3), (163, .iconst (-1), 1), (164, .istore 8, 2), (166, .aload_n 0, 1),
  (167, .getfield 320, 3), (170, .iload 7, 2), (172, .aload_n 0, 1), (173, .getfield 321, 3), (176, .getfield 457, 3), (179, .iload_n 1, 1), (180, .iaload, 1), (181, .aload_n 0, 1),
  (182, .getfield 323, 3), (185, .iload 4, 2), (187, .isub, 1), (188, .iload 8, 2), (190, .invokevirtual 29, 3), (193, .aload_n 0, 1), (194, .getfield 330, 3), (197, .iload 5, 2),
  (199, .iload_n 1, 1), (200, .bipush 8, 2), (202, .irem, 1), (203, .iadd, 1), (204, .iload 8, 2), (206, .iastore, 1), (207, .iload 8, 2), (209, .iconst (-1), 1),
  (210, .if_icmp .eq 7, 3), (213, .iconst 1, 1), (214, .goto 4, 3), (217, .iconst 0, 1), (218, .ireturn, 1)]
def xm_68 : xrM := ((5, 3, ⟨"HexTemplates$Reader", "readArray", "(III)Z"⟩), (prog_7_method_14_code, 9, (some FieldType.boolean)), [], xc_68)
-- 69: HexTemplates$Reader.readCounted(IIII)Z
def xc_69 : xrC := [(0, .iconst 0, 1), (1, .istore 5, 2), (3, .iload 5, 2), (5, .iload 4, 2), (7, .if_icmp .ge 24, 3), (10, .aload_n 0, 1), (11, .iload_n 1, 1), (12, .iconst (-1), 1),
  (13, .iload_n 2, 1), (14, .iload_n 3, 1), (15, .iconst 1, 1), (16, .iadd, 1), (17, .invokevirtual 66, 3), (20, .ifCond .ne 5, 3), (23, .iconst 0, 1), (24, .ireturn, 1),
  (25, .iinc 5 1, 3), (28, .goto (-25), 3), (31, .iconst 1, 1), (32, .ireturn, 1)]
def xm_69 : xrM := ((5, 4, ⟨"HexTemplates$Reader", "readCounted", "(IIII)Z"⟩), (prog_7_method_15_code, 6, (some FieldType.boolean)), [], xc_69)
-- 70: HexTemplates$Reader.readWhileFine(III)I
def xc_70 : xrC := [(0, .iconst 0, 1), (1, .istore 4, 2), (3, .iload 4, 2), (5, .sipush 200, 3), (8, .if_icmp .gt 84, 3), (11, .aload_n 0, 1), (12, .getfield 323, 3), (15, .istore 5, 2),
  (17, .aload_n 0, 1), (18, .getfield 320, 3), (21, .getfield 199, 3), (24, .istore 6, 2), (26, .aload_n 0, 1), (27, .getfield 327, 3), (30, .istore 7, 2), (32, .aload_n 0, 1),
  (33, .iload_n 1, 1), (34, .iconst (-1), 1), (35, .iload_n 2, 1), (36, .iload_n 3, 1), (37, .iconst 1, 1), (38, .iadd, 1), (39, .invokevirtual 66, 3), (42, .istore 8, 2),
  (44, .iload 8, 2), (46, .ifCond .ne 13, 3), (49, .aload_n 0, 1), (50, .getfield 325, 3), (53, .iconst 5, 1), (54, .if_icmp .ne 5, 3), (57, .iconst (-1), 1), (58, .ireturn, 1),
  (59, .iload 8, 2), (61, .ifCond .eq 12, 3), (64, .aload_n 0, 1), (65, .getfield 323, 3), (68, .iload 5, 2), (70, .if_icmp .ne 16, 3), (73, .aload_n 0, 1), (74, .iload 5, 2),
  (76, .iload 6, 2), (78, .iload 7, 2), (80, .invokevirtual 67, 3), (83, .iload 4, 2), (85, .ireturn, 1), (86, .iinc 4 1, 3), (89, .goto (-86), 3), (92, .iconst (-1), 1),
  (93, .ireturn, 1)]
def xm_70 : xrM := ((5, 3, ⟨"HexTemplates$Reader", "readWhileFine", "(III)I"⟩), (prog_7_method_16_code, 9, (some FieldType.int)), [], xc_70)
-- 71: HexTemplates$Reader.readToEnd(III)I
def xc_71 : xrC := [(0, .aload_n 0, 1), (1, .getfield 323, 3), (4, .istore 4, 2), (6, .iconst 0, 1), (7, .istore 5, 2), (9, .iload 5, 2), (11, .sipush 200, 3), (14, .if_icmp .gt 120, 3),
  (17, .aload_n 0, 1), (18, .getfield 323, 3), (21, .aload_n 0, 1), (22, .getfield 322, 3), (25, .getfield 1, 3), (28, .if_icmp .ge 29, 3), (31, .aload_n 0, 1), (32, .getfield 322, 3),
  (35, .aload_n 0, 1), (36, .getfield 323, 3), (39, .invokevirtual 2, 3), (42, .aload_n 0, 1), (43, .getfield 321, 3), (46, .getfield 466, 3), (49, .iload_n 1, 1), (50, .iaload, 1),
  (51, .if_icmp .ne 6, 3), (54, .iload 5, 2), (56, .ireturn, 1), (57, .aload_n 0, 1), (58, .getfield 323, 3), (61, .istore 6, 2), (63, .aload_n 0, 1), (64, .getfield 323, 3),
  (67, .aload_n 0, 1), (68, .getfield 322, 3), (71, .getfield 1, 3), (74, .if_icmp .ge 7, 3), (77, .iconst 1, 1), (78, .goto 4, 3), (81, .iconst 0, 1), (82, .istore 7, 2),
  (84, .iload 7, 2), (86, .ifCond .eq 18, 3), (89, .aload_n 0, 1), (90, .iload_n 1, 1), (91, .iconst (-1), 1), (92, .iload_n 2, 1), (93, .iload_n 3, 1), (94, .iconst 1, 1),
  (95, .iadd, 1), (96, .invokevirtual 66, 3), (99, .ifCond .ne 5, 3), (102, .iconst (-1), 1), (103, .ireturn, 1), (104, .iload 7, 2), (106, .ifCond .eq 12, 3), (109, .aload_n 0, 1),
  (110, .getfield 323, 3), (113, .iload 6, 2), (115, .if_icmp .ne 13, 3), (118, .aload_n 0, 1), (119, .iconst 1, 1), (120, .iload 4, 2), (122, .invokevirtual 57, 3), (125, .pop, 1),
  (126, .iconst (-1), 1), (127, .ireturn, 1), (128, .iinc 5 1, 3), (131, .goto (-122), 3), (134, .iconst (-1), 1), (135, .ireturn, 1)]
def xm_71 : xrM := ((5, 3, ⟨"HexTemplates$Reader", "readToEnd", "(III)I"⟩), (prog_7_method_17_code, 8, (some FieldType.int)), [], xc_71)
-- 72: HexTemplates$Reader.reckonSum(II)I
def xc_72 : xrC := [(0, .iconst 0, 1), (1, .istore_n 3, 1), (2, .aload_n 0, 1), (3, .getfield 321, 3), (6, .getfield 461, 3), (9, .iload_n 1, 1), (10, .iaload, 1), (11, .istore 4, 2),
  (13, .iload 4, 2), (15, .aload_n 0, 1), (16, .getfield 321, 3), (19, .getfield 462, 3), (22, .iload_n 1, 1), (23, .iaload, 1), (24, .if_icmp .ge 111, 3), (27, .aload_n 0, 1),
  (28, .getfield 321, 3), (31, .getfield 454, 3), (34, .iload 4, 2), (36, .iaload, 1), (37, .istore 5, 2), (39, .iload 5, 2), (41, .ifCond .lt 9, 3), (44, .iload 5, 2),
  (46, .i2l, 1), (47, .goto 15, 3), (50, .aload_n 0, 1), (51, .getfield 330, 3), (54, .iload_n 2, 1), (55, .iconst 1, 1), (56, .isub, 1), (57, .iload 5, 2),
  (59, .isub, 1), (60, .iaload, 1), (61, .i2l, 1), (62, .lstore 6, 2), (64, .aload_n 0, 1), (65, .getfield 321, 3), (68, .getfield 455, 3), (71, .iload 4, 2),
  (73, .iaload, 1), (74, .istore 8, 2), (76, .iload 8, 2), (78, .bipush 43, 2), (80, .if_icmp .ne 11, 3), (83, .iload_n 3, 1), (84, .i2l, 1), (85, .lload 6, 2),
  (87, .ladd, 1), (88, .goto 23, 3), (91, .iload 8, 2), (93, .bipush 45, 2), (95, .if_icmp .ne 11, 3), (98, .iload_n 3, 1), (99, .i2l, 1), (100, .lload 6, 2),
  (102, .lsub, 1), (103, .goto 8, 3), (106, .iload_n 3, 1), (107, .i2l, 1), (108, .lload 6, 2), (110, .lmul, 1), (111, .lstore 9, 2), (113, .goto_w (-99999), 3),
  (116, .goto_w 99999, 3), (119, .lload 9, 2), (121, .invokestatic 25, 3), (124, .invokestatic 23, 3), (127, .l2i, 1), (128, .istore_n 3, 1), (129, .iinc 4 1, 3), (132, .goto (-119), 3),
  (135, .iload_n 3, 1), (136, .ireturn, 1)]
def xm_72 : xrM := ((5, 2, ⟨"HexTemplates$Reader", "reckonSum", "(II)I"⟩), (prog_7_method_18_code, 11, (some FieldType.int)), [], xc_72)
-- 73: HexTemplates$Reader.countWrongIn(II)V
def xc_73 : xrC := [(0, .iconst 0, 1), (1, .istore_n 3, 1), (2, .iload_n 3, 1), (3, .aload_n 0, 1), (4, .getfield 321, 3), (7, .getfield 453, 3), (10, .iload_n 1, 1), (11, .iaload, 1),
  (12, .if_icmp .ge 130, 3), (15, .iload_n 1, 1), (16, .bipush 8, 2), (18, .imul, 1), (19, .iload_n 3, 1), (20, .iadd, 1), (21, .istore 4, 2), (23, .aload_n 0, 1),
  (24, .getfield 321, 3), (27, .getfield 467, 3), (30, .iload 4, 2), (32, .iaload, 1), (33, .istore 5, 2), (35, .iload 5, 2), (37, .ifCond .eq 99, 3), (40, .iload 5, 2),
  (42, .bipush 61, 2), (44, .if_icmp .eq 92, 3), (47, .iload_n 2, 1), (48, .bipush 8, 2), (50, .imul, 1), (51, .aload_n 0, 1), (52, .getfield 321, 3), (55, .getfield 468, 3),
  (58, .iload 4, 2), (60, .iaload, 1), (61, .bipush 8, 2), (63, .irem, 1), (64, .iadd, 1), (65, .istore 6, 2), (67, .aload_n 0, 1), (68, .iload 5, 2),
  (70, .aload_n 0, 1), (71, .getfield 328, 3), (74, .iload 6, 2), (76, .iaload, 1), (77, .aload_n 0, 1), (78, .getfield 329, 3), (81, .iload 6, 2), (83, .iaload, 1),
  (84, .aload_n 0, 1), (85, .getfield 330, 3), (88, .iload 6, 2), (90, .iaload, 1), (91, .invokevirtual 74, 3), (94, .istore 7, 2), (96, .aload_n 0, 1), (97, .getfield 330, 3),
  (100, .iload_n 2, 1), (101, .bipush 8, 2), (103, .imul, 1), (104, .iload_n 3, 1), (105, .iadd, 1), (106, .iaload, 1), (107, .aload_n 0, 1), (108, .iload 7, 2),
  (110, .aload_n 0, 1), (111, .getfield 321, 3), (114, .getfield 459, 3), (117, .iload 4, 2), (119, .iaload, 1), (120, .invokevirtual 75, 3), (123, .if_icmp .eq 13, 3), (126, .aload_n 0, 1),
  (127, .dup, 1), (128, .getfield 327, 3), (131, .iconst 1, 1), (132, .iadd, 1), (133, .putfield 327, 3), (136, .iinc 3 1, 3), (139, .goto (-137), 3), (142, .return_, 1)]
def xm_73 : xrM := ((5, 2, ⟨"HexTemplates$Reader", "countWrongIn", "(II)V"⟩), (prog_7_method_19_code, 8, (none)), [], xc_73)
-- 74: HexTemplates$Reader.reckon(IIII)I
def xc_74 : xrC := [(0, .iload_n 1, 1), (1, .bipush 35, 2), (3, .if_icmp .ne 5, 3), (6, .iload_n 3, 1), (7, .ireturn, 1), (8, .iload_n 1, 1), (9, .bipush 37, 2), (11, .if_icmp .ne 6, 3),
  (14, .iload 4, 2), (16, .ireturn, 1), (17, .iconst 0, 1), (18, .istore 5, 2), (20, .iload_n 2, 1), (21, .istore 6, 2), (23, .iload 6, 2), (25, .iload_n 2, 1),
  (26, .iload_n 3, 1), (27, .iadd, 1), (28, .if_icmp .ge 44, 3), (31, .iload_n 1, 1), (32, .bipush 43, 2), (34, .if_icmp .ne 18, 3), (37, .iload 5, 2), (39, .aload_n 0, 1),
  (40, .getfield 322, 3), (43, .iload 6, 2), (45, .invokevirtual 2, 3), (48, .iadd, 1), (49, .goto 15, 3), (52, .iload 5, 2), (54, .aload_n 0, 1), (55, .getfield 322, 3),
  (58, .iload 6, 2), (60, .invokevirtual 2, 3), (63, .ixor, 1), (64, .istore 5, 2), (66, .iinc 6 1, 3), (69, .goto (-46), 3), (72, .iload 5, 2), (74, .ireturn, 1)]
def xm_74 : xrM := ((5, 4, ⟨"HexTemplates$Reader", "reckon", "(IIII)I"⟩), (prog_7_method_20_code, 7, (some FieldType.int)), [], xc_74)
-- 75: HexTemplates$Reader.cut(II)I
def xc_75 : xrC := [(0, .iload_n 1, 1), (1, .iconst 1, 1), (2, .iload_n 2, 1), (3, .ishl, 1), (4, .iconst 1, 1), (5, .isub, 1), (6, .iand, 1), (7, .ireturn, 1)]
def xm_75 : xrM := ((5, 2, ⟨"HexTemplates$Reader", "cut", "(II)I"⟩), (prog_7_method_21_code, 3, (some FieldType.int)), [], xc_75)
-- 76: HexTemplates$Reader.relationOf(I)I
def xc_76 : xrC := [(0, .aload_n 0, 1), (1, .getfield 320, 3), (4, .iload_n 1, 1), (5, .invokevirtual 27, 3), (8, .ifCond .eq 15, 3), (11, .aload_n 0, 1), (12, .getfield 320, 3), (15, .getfield 198, 3),
  (18, .iload_n 1, 1), (19, .iaload, 1), (20, .goto 4, 3), (23, .iconst (-1), 1), (24, .istore_n 2, 1), (25, .iload_n 2, 1), (26, .iconst (-1), 1), (27, .if_icmp .ne 7, 3),
  (30, .iconst 0, 1), (31, .goto 12, 3), (34, .aload_n 0, 1), (35, .getfield 321, 3), (38, .getfield 467, 3), (41, .iload_n 2, 1), (42, .iaload, 1), (43, .ireturn, 1)]
def xm_76 : xrM := ((5, 1, ⟨"HexTemplates$Reader", "relationOf", "(I)I"⟩), (prog_7_method_22_code, 3, (some FieldType.int)), [], xc_76)
-- 77: HexTemplates$Reader.otherOf(I)I
def xc_77 : xrC := [(0, .aload_n 0, 1), (1, .iload_n 1, 1), (2, .invokevirtual 76, 3), (5, .istore_n 2, 1), (6, .iload_n 2, 1), (7, .ifCond .eq 9, 3), (10, .iload_n 2, 1), (11, .bipush 61, 2),
  (13, .if_icmp .ne 5, 3), (16, .iconst (-1), 1), (17, .ireturn, 1), (18, .aload_n 0, 1), (19, .getfield 320, 3), (22, .aload_n 0, 1), (23, .getfield 320, 3), (26, .getfield 197, 3),
  (29, .iload_n 1, 1), (30, .iaload, 1), (31, .aload_n 0, 1), (32, .getfield 321, 3), (35, .getfield 468, 3), (38, .aload_n 0, 1), (39, .getfield 320, 3), (42, .getfield 198, 3),
  (45, .iload_n 1, 1), (46, .iaload, 1), (47, .iaload, 1), (48, .invokevirtual 31, 3), (51, .ireturn, 1)]
def xm_77 : xrM := ((5, 1, ⟨"HexTemplates$Reader", "otherOf", "(I)I"⟩), (prog_7_method_23_code, 3, (some FieldType.int)), [], xc_77)
-- 78: HexTemplates$Reader.dueOf(I)I
def xc_78 : xrC := [(0, .aload_n 0, 1), (1, .iload_n 1, 1), (2, .invokevirtual 77, 3), (5, .istore_n 2, 1), (6, .iload_n 2, 1), (7, .iconst (-1), 1), (8, .if_icmp .ne 13, 3), (11, .aload_n 0, 1),
  (12, .getfield 320, 3), (15, .getfield 196, 3), (18, .iload_n 1, 1), (19, .iaload, 1), (20, .ireturn, 1), (21, .aload_n 0, 1), (22, .aload_n 0, 1), (23, .iload_n 1, 1),
  (24, .invokevirtual 76, 3), (27, .aload_n 0, 1), (28, .getfield 320, 3), (31, .getfield 194, 3), (34, .iload_n 2, 1), (35, .iaload, 1), (36, .aload_n 0, 1), (37, .getfield 320, 3),
  (40, .getfield 195, 3), (43, .iload_n 2, 1), (44, .iaload, 1), (45, .aload_n 0, 1), (46, .getfield 320, 3), (49, .getfield 196, 3), (52, .iload_n 2, 1), (53, .iaload, 1),
  (54, .invokevirtual 74, 3), (57, .istore_n 3, 1), (58, .aload_n 0, 1), (59, .iload_n 3, 1), (60, .aload_n 0, 1), (61, .getfield 321, 3), (64, .getfield 459, 3), (67, .aload_n 0, 1),
  (68, .getfield 320, 3), (71, .getfield 198, 3), (74, .iload_n 1, 1), (75, .iaload, 1), (76, .iaload, 1), (77, .invokevirtual 75, 3), (80, .ireturn, 1)]
def xm_78 : xrM := ((5, 1, ⟨"HexTemplates$Reader", "dueOf", "(I)I"⟩), (prog_7_method_24_code, 4, (some FieldType.int)), [], xc_78)
-- 79: HexTemplates$Reader.holds(I)Z
def xc_79 : xrC := [(0, .aload_n 0, 1), (1, .getfield 320, 3), (4, .getfield 196, 3), (7, .iload_n 1, 1), (8, .iaload, 1), (9, .aload_n 0, 1), (10, .iload_n 1, 1), (11, .invokevirtual 78, 3),
  (14, .if_icmp .ne 7, 3), (17, .iconst 1, 1), (18, .goto 4, 3), (21, .iconst 0, 1), (22, .ireturn, 1)]
def xm_79 : xrM := ((5, 1, ⟨"HexTemplates$Reader", "holds", "(I)Z"⟩), (prog_7_method_25_code, 2, (some FieldType.boolean)), [], xc_79)
-- 80: HexTemplates$Reader.countWrong()I
def xc_80 : xrC := [(0, .iconst 0, 1), (1, .istore_n 1, 1), (2, .iconst 0, 1), (3, .istore_n 2, 1), (4, .iload_n 2, 1), (5, .aload_n 0, 1), (6, .getfield 320, 3), (9, .getfield 199, 3),
  (12, .if_icmp .ge 34, 3), (15, .iload_n 1, 1), (16, .aload_n 0, 1), (17, .getfield 320, 3), (20, .getfield 196, 3), (23, .iload_n 2, 1), (24, .iaload, 1), (25, .aload_n 0, 1),
  (26, .iload_n 2, 1), (27, .invokevirtual 78, 3), (30, .if_icmp .ne 7, 3), (33, .iconst 0, 1), (34, .goto 4, 3), (37, .iconst 1, 1), (38, .iadd, 1), (39, .istore_n 1, 1),
  (40, .iinc 2 1, 3), (43, .goto (-39), 3), (46, .iload_n 1, 1), (47, .ireturn, 1)]
def xm_80 : xrM := ((5, 0, ⟨"HexTemplates$Reader", "countWrong", "()I"⟩), (prog_7_method_26_code, 3, (some FieldType.int)), [], xc_80)
-- 81: HexTemplates$Reader.typeOf(I)I
def xc_81 : xrC := [(0, .aload_n 0, 1), (1, .getfield 320, 3), (4, .iload_n 1, 1), (5, .invokevirtual 27, 3), (8, .ifCond .eq 15, 3), (11, .aload_n 0, 1), (12, .getfield 320, 3), (15, .getfield 198, 3),
  (18, .iload_n 1, 1), (19, .iaload, 1), (20, .goto 4, 3), (23, .iconst (-1), 1), (24, .istore_n 2, 1), (25, .iload_n 2, 1), (26, .iconst (-1), 1), (27, .if_icmp .ne 8, 3),
  (30, .bipush 65, 2), (32, .goto 12, 3), (35, .aload_n 0, 1), (36, .getfield 321, 3), (39, .getfield 458, 3), (42, .iload_n 2, 1), (43, .iaload, 1), (44, .ireturn, 1)]
def xm_81 : xrM := ((5, 1, ⟨"HexTemplates$Reader", "typeOf", "(I)I"⟩), (prog_7_method_27_code, 3, (some FieldType.int)), [], xc_81)
-- 82: HexTemplates$Reader.structureTold(I)I
def xc_82 : xrC := [(0, .iload_n 1, 1), (1, .ifCond .lt 9, 3), (4, .iload_n 1, 1), (5, .bipush 48, 2), (7, .if_icmp .lt 7, 3), (10, .iconst (-1), 1), (11, .goto 20, 3), (14, .aload_n 0, 1),
  (15, .getfield 321, 3), (18, .getfield 456, 3), (21, .aload_n 0, 1), (22, .getfield 321, 3), (25, .getfield 463, 3), (28, .iload_n 1, 1), (29, .iaload, 1), (30, .iaload, 1),
  (31, .ireturn, 1)]
def xm_82 : xrM := ((5, 1, ⟨"HexTemplates$Reader", "structureTold", "(I)I"⟩), (prog_7_method_28_code, 2, (some FieldType.int)), [], xc_82)
-- 83: HexTemplates$Reader.greatest(I)I
def xc_83 : xrC := [(0, .aload_n 0, 1), (1, .getfield 320, 3), (4, .iload_n 1, 1), (5, .invokevirtual 27, 3), (8, .ifCond .eq 15, 3), (11, .aload_n 0, 1), (12, .getfield 320, 3), (15, .getfield 198, 3),
  (18, .iload_n 1, 1), (19, .iaload, 1), (20, .goto 4, 3), (23, .iconst (-1), 1), (24, .istore_n 2, 1), (25, .iload_n 2, 1), (26, .iconst (-1), 1), (27, .if_icmp .ne 7, 3),
  (30, .iconst (-1), 1), (31, .goto 16, 3), (34, .iconst 1, 1), (35, .aload_n 0, 1), (36, .getfield 321, 3), (39, .getfield 459, 3), (42, .iload_n 2, 1), (43, .iaload, 1),
  (44, .ishl, 1), (45, .iconst 1, 1), (46, .isub, 1), (47, .ireturn, 1)]
def xm_83 : xrM := ((5, 1, ⟨"HexTemplates$Reader", "greatest", "(I)I"⟩), (prog_7_method_29_code, 3, (some FieldType.int)), [], xc_83)
-- 84: HexTemplates$Reader.shiftOf(I)I
def xc_84 : xrC := [(0, .aload_n 0, 1), (1, .iload_n 1, 1), (2, .invokevirtual 81, 3), (5, .bipush 110, 2), (7, .if_icmp .ne 23, 3), (10, .aload_n 0, 1), (11, .getfield 321, 3), (14, .getfield 460, 3),
  (17, .aload_n 0, 1), (18, .getfield 320, 3), (21, .getfield 198, 3), (24, .iload_n 1, 1), (25, .iaload, 1), (26, .iaload, 1), (27, .goto 4, 3), (30, .iconst 0, 1),
  (31, .ireturn, 1)]
def xm_84 : xrM := ((5, 1, ⟨"HexTemplates$Reader", "shiftOf", "(I)I"⟩), (prog_7_method_30_code, 2, (some FieldType.int)), [], xc_84)
-- 85: HexTemplates$Reader.isEndedByZero(I)Z
def xc_85 : xrC := [(0, .aload_n 0, 1), (1, .iload_n 1, 1), (2, .invokevirtual 81, 3), (5, .bipush 122, 2), (7, .if_icmp .ne 7, 3), (10, .iconst 1, 1), (11, .goto 4, 3), (14, .iconst 0, 1),
  (15, .ireturn, 1)]
def xm_85 : xrM := ((5, 1, ⟨"HexTemplates$Reader", "isEndedByZero", "(I)Z"⟩), (prog_7_method_31_code, 2, (some FieldType.boolean)), [], xc_85)
-- 86: HexTemplates$Reader.stringLength(I)I
def xc_86 : xrC := [(0, .aload_n 0, 1), (1, .getfield 320, 3), (4, .iload_n 1, 1), (5, .invokevirtual 27, 3), (8, .ifCond .eq 16, 3), (11, .aload_n 0, 1), (12, .getfield 320, 3), (15, .getfield 192, 3),
  (18, .iload_n 1, 1), (19, .iaload, 1), (20, .iconst 5, 1), (21, .if_icmp .eq 5, 3), (24, .iconst (-1), 1), (25, .ireturn, 1), (26, .aload_n 0, 1), (27, .iload_n 1, 1),
  (28, .invokevirtual 85, 3), (31, .ifCond .eq 17, 3), (34, .aload_n 0, 1), (35, .getfield 320, 3), (38, .getfield 195, 3), (41, .iload_n 1, 1), (42, .iaload, 1), (43, .iconst 1, 1),
  (44, .isub, 1), (45, .goto 12, 3), (48, .aload_n 0, 1), (49, .getfield 320, 3), (52, .getfield 195, 3), (55, .iload_n 1, 1), (56, .iaload, 1), (57, .ireturn, 1)]
def xm_86 : xrM := ((5, 1, ⟨"HexTemplates$Reader", "stringLength", "(I)I"⟩), (prog_7_method_32_code, 2, (some FieldType.int)), [], xc_86)
-- 87: HexTemplates$States.<init>()V
def xc_87 : xrC := [(0, .aload_n 0, 1), (1, .monitorexit, 3), (4, .aload_n 0, 1), (5, .sipush 4800, 3), (8, .newarray .int, 2), (10, .invokedynamic 384, 3), (13, .aload_n 0, 1), (14, .bipush 30, 2),
  (16, .newarray .int, 2), (18, .invokedynamic 385, 3), (21, .aload_n 0, 1), (22, .bipush 30, 2), (24, .newarray .int, 2), (26, .invokedynamic 386, 3), (29, .aload_n 0, 1), (30, .iconst 0, 1),
  (31, .putfield 387, 3), (34, .aload_n 0, 1), (35, .iconst (-1), 1), (36, .putfield 388, 3), (39, .return_, 1)]
def xm_87 : xrM := ((6, 0, ⟨"HexTemplates$States", "<init>", "()V"⟩), (prog_8_method_1_code, 1, (none)), [], xc_87)
-- 88: HexTemplates$States.isFull()Z
def xc_88 : xrC := [(0, .aload_n 0, 1), (1, .getfield 387, 3), (4, .bipush 30, 2), (6, .if_icmp .lt 7, 3), (9, .iconst 1, 1), (10, .goto 4, 3), (13, .iconst 0, 1), (14, .ireturn, 1)]
def xm_88 : xrM := ((6, 0, ⟨"HexTemplates$States", "isFull", "()Z"⟩), (prog_8_method_2_code, 1, (some FieldType.boolean)), [], xc_88)
-- 89: HexTemplatesLaw.cell([II)I
def xc_89 : xrC := [(0, .iload_n 1, 1), (1, .aload_n 0, 1), (2, .arraylength, 1), (3, .if_icmp .ge 9, 3), (6, .aload_n 0, 1), (7, .iload_n 1, 1), (8, .iaload, 1), (9, .goto 13, 3),
  (12, .jsr_w 51797, 2), (14, .iload_n 1, 1), (15, .bipush 41, 2), (17, .iadd, 1), (18, .imul, 1), (19, .jsr_w 2957131, 2), (21, .iadd, 1), (22, .ireturn, 1)]
def xm_89 : xrM := ((99, 2, ⟨"HexTemplatesLaw", "cell", "([II)I"⟩), (method_2_code, 2, (some FieldType.int)), [], xc_89)
-- 90: HexTemplatesLaw.low(II)I
def xc_90 : xrC := [(0, .iload_n 0, 1), (1, .jsr_w 2147483647, 2), (3, .iand, 1), (4, .iload_n 1, 1), (5, .irem, 1), (6, .ireturn, 1)]
def xm_90 : xrM := ((99, 2, ⟨"HexTemplatesLaw", "low", "(II)I"⟩), (method_3_code, 2, (some FieldType.int)), [], xc_90)
-- 91: HexTemplatesLaw.calls(LHexTemplates;IIII)I
def xc_91 : xrC := [(0, .iload_n 1, 1), (1, .ifCond .ne 14, 3), (4, .aload_n 0, 1), (5, .iload_n 2, 1), (6, .iload_n 3, 1), (7, .iload 4, 2), (9, .invokevirtual 124, 3), (12, .goto 60, 3),
  (15, .iload_n 1, 1), (16, .iconst 1, 1), (17, .if_icmp .ne 12, 3), (20, .aload_n 0, 1), (21, .iload_n 2, 1), (22, .iload_n 3, 1), (23, .invokevirtual 125, 3), (26, .goto 46, 3),
  (29, .iload_n 1, 1), (30, .iconst 2, 1), (31, .if_icmp .ne 23, 3), (34, .aload_n 0, 1), (35, .iload_n 2, 1), (36, .iload_n 3, 1), (37, .iload 4, 2), (39, .iconst 1, 1),
  (40, .if_icmp .ne 7, 3), (43, .iconst 1, 1), (44, .goto 4, 3), (47, .iconst 0, 1), (48, .invokevirtual 126, 3), (51, .goto 21, 3), (54, .iload_n 1, 1), (55, .iconst 3, 1),
  (56, .if_icmp .ne 12, 3), (59, .aload_n 0, 1), (60, .iload_n 2, 1), (61, .iload_n 3, 1), (62, .invokevirtual 123, 3), (65, .goto 7, 3), (68, .aload_n 0, 1), (69, .invokevirtual 127, 3),
  (72, .ireturn, 1), (73, .astore 5, 2), (75, .sipush (-1001), 3), (78, .ireturn, 1), (79, .astore 5, 2), (81, .sipush (-1003), 3), (84, .ireturn, 1)]
def xm_91 : xrM := ((99, 5, ⟨"HexTemplatesLaw", "calls", "(LHexTemplates;IIII)I"⟩), (method_4_code, 6, (some FieldType.int)), [(0, 72, 73, 31, 2), (0, 72, 79, 33, 1)], xc_91)
-- 92: HexTemplatesLaw.puts(LHexTemplates;IIIIIIII)V
def xc_92 : xrC := [(0, .iconst 0, 1), (1, .istore 9, 2), (3, .iload 9, 2), (5, .bipush 8, 2), (7, .if_icmp .ge 101, 3), (10, .iload 9, 2), (12, .ifCond .ne 7, 3), (15, .iload_n 1, 1),
  (16, .goto 70, 3), (19, .iload 9, 2), (21, .iconst 1, 1), (22, .if_icmp .ne 7, 3), (25, .iload_n 2, 1), (26, .goto 60, 3), (29, .iload 9, 2), (31, .iconst 2, 1),
  (32, .if_icmp .ne 7, 3), (35, .iload_n 3, 1), (36, .goto 50, 3), (39, .iload 9, 2), (41, .iconst 3, 1), (42, .if_icmp .ne 8, 3), (45, .iload 4, 2), (47, .goto 39, 3),
  (50, .iload 9, 2), (52, .iconst 4, 1), (53, .if_icmp .ne 8, 3), (56, .iload 5, 2), (58, .goto 28, 3), (61, .iload 9, 2), (63, .iconst 5, 1), (64, .if_icmp .ne 8, 3),
  (67, .iload 6, 2), (69, .goto 17, 3), (72, .iload 9, 2), (74, .bipush 6, 2), (76, .if_icmp .ne 8, 3), (79, .iload 7, 2), (81, .goto 5, 3), (84, .iload 8, 2),
  (86, .istore 10, 2), (88, .iload 10, 2), (90, .ifCond .le 12, 3), (93, .aload_n 0, 1), (94, .iload 10, 2), (96, .i2l, 1), (97, .iconst 1, 1), (98, .invokevirtual 105, 3),
  (101, .pop, 1), (102, .iinc 9 1, 3), (105, .goto (-102), 3), (108, .return_, 1)]
def xm_92 : xrM := ((99, 9, ⟨"HexTemplatesLaw", "puts", "(LHexTemplates;IIIIIIII)V"⟩), (method_5_code, 11, (none)), [], xc_92)
-- 93: HexTemplates$States.keep(LHexTemplates$Bytes;)I
def xc_93 : xrC := [(0, .aload_n 0, 1), (1, .invokevirtual 88, 3), (4, .ifCond .ne 13, 3), (7, .aload_n 1, 1), (8, .getfield 1, 3), (11, .sipush 160, 3), (14, .if_icmp .le 5, 3), (17, .iconst (-1), 1),
  (18, .ireturn, 1), (19, .aload_n 0, 1), (20, .getfield 385, 3), (23, .aload_n 0, 1), (24, .getfield 387, 3), (27, .aload_n 1, 1), (28, .getfield 1, 3), (31, .iastore, 1),
  (32, .aload_n 0, 1), (33, .getfield 386, 3), (36, .aload_n 0, 1), (37, .getfield 387, 3), (40, .aload_n 0, 1), (41, .getfield 388, 3), (44, .iastore, 1), (45, .iconst 0, 1),
  (46, .istore_n 2, 1), (47, .iload_n 2, 1), (48, .aload_n 1, 1), (49, .getfield 1, 3), (52, .if_icmp .ge 29, 3), (55, .aload_n 0, 1), (56, .getfield 384, 3), (59, .aload_n 0, 1),
  (60, .getfield 387, 3), (63, .sipush 160, 3), (66, .imul, 1), (67, .iload_n 2, 1), (68, .iadd, 1), (69, .aload_n 1, 1), (70, .iload_n 2, 1), (71, .invokevirtual 2, 3),
  (74, .iastore, 1), (75, .iinc 2 1, 3), (78, .goto (-31), 3), (81, .aload_n 0, 1), (82, .aload_n 0, 1), (83, .getfield 387, 3), (86, .putfield 388, 3), (89, .aload_n 0, 1),
  (90, .dup, 1), (91, .getfield 387, 3), (94, .iconst 1, 1), (95, .iadd, 1), (96, .putfield 387, 3), (99, .aload_n 0, 1), (100, .getfield 388, 3), (103, .ireturn, 1)]
def xm_93 : xrM := ((6, 1, ⟨"HexTemplates$States", "keep", "(LHexTemplates$Bytes;)I"⟩), (prog_8_method_7_code, 3, (some FieldType.int)), [], xc_93)
-- 94: HexTemplatesLaw.atArray([I)I
def xc_94 : xrC := [(0, .iconst 3, 1), (1, .aload_n 0, 1), (2, .iconst 0, 1), (3, .iaload, 1), (4, .iadd, 1), (5, .ireturn, 1)]
def xm_94 : xrM := ((99, 1, ⟨"HexTemplatesLaw", "atArray", "([I)I"⟩), (method_6_code, 1, (some FieldType.int)), [], xc_94)
-- 95: HexTemplates$Template.<init>()V
def xc_95 : xrC := [(0, .aload_n 0, 1), (1, .monitorexit, 3), (4, .aload_n 0, 1), (5, .iconst 0, 1), (6, .putfield 448, 3), (9, .aload_n 0, 1), (10, .iconst 0, 1), (11, .putfield 449, 3),
  (14, .aload_n 0, 1), (15, .iconst 0, 1), (16, .putfield 450, 3), (19, .aload_n 0, 1), (20, .iconst 0, 1), (21, .putfield 451, 3), (24, .aload_n 0, 1), (25, .bipush 6, 2),
  (27, .newarray .int, 2), (29, .invokedynamic 452, 3), (32, .aload_n 0, 1), (33, .bipush 6, 2), (35, .newarray .int, 2), (37, .invokedynamic 453, 3), (40, .aload_n 0, 1), (41, .bipush 100, 2),
  (43, .newarray .int, 2), (45, .invokedynamic 454, 3), (48, .aload_n 0, 1), (49, .bipush 100, 2), (51, .newarray .int, 2), (53, .invokedynamic 455, 3), (56, .aload_n 0, 1), (57, .bipush 100, 2),
  (59, .newarray .int, 2), (61, .invokedynamic 456, 3), (64, .aload_n 0, 1), (65, .bipush 48, 2), (67, .newarray .int, 2), (69, .invokedynamic 457, 3), (72, .aload_n 0, 1), (73, .bipush 48, 2),
  (75, .newarray .int, 2), (77, .invokedynamic 458, 3), (80, .aload_n 0, 1), (81, .bipush 48, 2), (83, .newarray .int, 2), (85, .invokedynamic 459, 3), (88, .aload_n 0, 1), (89, .bipush 48, 2),
  (91, .newarray .int, 2), (93, .invokedynamic 460, 3), (96, .aload_n 0, 1), (97, .bipush 48, 2), (99, .newarray .int, 2), (101, .invokedynamic 461, 3), (104, .aload_n 0, 1), (105, .bipush 48, 2),
  (107, .newarray .int, 2), (109, .invokedynamic 462, 3), (112, .aload_n 0, 1), (113, .bipush 48, 2), (115, .newarray .int, 2), (117, .invokedynamic 463, 3), (120, .aload_n 0, 1), (121, .bipush 48, 2),
  (123, .newarray .int, 2), (125, .invokedynamic 464, 3), (128, .aload_n 0, 1), (129, .bipush 48, 2), (131, .newarray .int, 2), (133, .invokedynamic 465, 3), (136, .aload_n 0, 1), (137, .bipush 48, 2),
  (139, .newarray .int, 2), (141, .invokedynamic 466, 3), (144, .aload_n 0, 1), (145, .bipush 48, 2), (147, .newarray .int, 2), (149, .invokedynamic 467, 3), (152, .aload_n 0, 1), (153, .bipush 48, 2),
  (155, .newarray .int, 2), (157, .invokedynamic 468, 3), (160, .return_, 1)]
def xm_95 : xrM := ((7, 0, ⟨"HexTemplates$Template", "<init>", "()V"⟩), (prog_9_method_1_code, 1, (none)), [], xc_95)
-- 96: HexTemplates$Template.clear()V
def xc_96 : xrC := [(0, .aload_n 0, 1), (1, .iconst 0, 1), (2, .putfield 449, 3), (5, .aload_n 0, 1), (6, .iconst 0, 1), (7, .putfield 450, 3), (10, .aload_n 0, 1), (11, .iconst 0, 1),
  (12, .putfield 451, 3), (15, .return_, 1)]
def xm_96 : xrM := ((7, 0, ⟨"HexTemplates$Template", "clear", "()V"⟩), (prog_9_method_2_code, 1, (none)), [], xc_96)
-- 97: HexTemplates$Template.structureNamed(I)I
def xc_97 : xrC := [(0, .iconst 0, 1), (1, .istore_n 2, 1), (2, .iload_n 2, 1), (3, .aload_n 0, 1), (4, .getfield 449, 3), (7, .if_icmp .ge 21, 3), (10, .aload_n 0, 1), (11, .getfield 452, 3),
  (14, .iload_n 2, 1), (15, .iaload, 1), (16, .iload_n 1, 1), (17, .if_icmp .ne 5, 3), (20, .iload_n 2, 1), (21, .ireturn, 1), (22, .iinc 2 1, 3), (25, .goto (-23), 3),
  (28, .iconst (-1), 1), (29, .ireturn, 1)]
def xm_97 : xrM := ((7, 1, ⟨"HexTemplates$Template", "structureNamed", "(I)I"⟩), (prog_9_method_3_code, 3, (some FieldType.int)), [], xc_97)
-- 98: HexTemplates$Template.placeOf(II)I
def xc_98 : xrC := [(0, .iconst 0, 1), (1, .istore_n 3, 1), (2, .iload_n 3, 1), (3, .aload_n 0, 1), (4, .getfield 453, 3), (7, .iload_n 1, 1), (8, .iaload, 1), (9, .if_icmp .ge 26, 3),
  (12, .aload_n 0, 1), (13, .getfield 457, 3), (16, .iload_n 1, 1), (17, .bipush 8, 2), (19, .imul, 1), (20, .iload_n 3, 1), (21, .iadd, 1), (22, .iaload, 1),
  (23, .iload_n 2, 1), (24, .if_icmp .ne 5, 3), (27, .iload_n 3, 1), (28, .ireturn, 1), (29, .iinc 3 1, 3), (32, .goto (-30), 3), (35, .iconst (-1), 1), (36, .ireturn, 1)]
def xm_98 : xrM := ((7, 2, ⟨"HexTemplates$Template", "placeOf", "(II)I"⟩), (prog_9_method_4_code, 4, (some FieldType.int)), [], xc_98)
-- 99: HexTemplates$Template.isNumeric(I)Z
def xc_99 : xrC := [(0, .aload_n 0, 1), (1, .getfield 458, 3), (4, .iload_n 1, 1), (5, .iaload, 1), (6, .istore_n 2, 1), (7, .aload_n 0, 1), (8, .iload_n 1, 1), (9, .invokevirtual 101, 3),
  (12, .ifCond .ne 15, 3), (15, .iload_n 2, 1), (16, .bipush 114, 2), (18, .if_icmp .eq 9, 3), (21, .iload_n 2, 1), (22, .bipush 110, 2), (24, .if_icmp .ne 7, 3), (27, .iconst 1, 1),
  (28, .goto 4, 3), (31, .iconst 0, 1), (32, .ireturn, 1)]
def xm_99 : xrM := ((7, 1, ⟨"HexTemplates$Template", "isNumeric", "(I)Z"⟩), (prog_9_method_5_code, 3, (some FieldType.boolean)), [], xc_99)
-- 100: HexTemplates$Template.kindOf(I)I
def xc_100 : xrC := [(0, .aload_n 0, 1), (1, .getfield 458, 3), (4, .iload_n 1, 1), (5, .iaload, 1), (6, .lookupswitch 48 #[(110, 44), (114, 46), (115, 42), (122, 42)], 42), (48, .iconst 5, 1), (49, .ireturn, 1), (50, .iconst 4, 1),
  (51, .ireturn, 1), (52, .iconst 3, 1), (53, .ireturn, 1), (54, .iconst 2, 1), (55, .ireturn, 1)]
def xm_100 : xrM := ((7, 1, ⟨"HexTemplates$Template", "kindOf", "(I)I"⟩), (prog_9_method_6_code, 2, (some FieldType.int)), [], xc_100)
-- 101: HexTemplates$Template.isRelatable(I)Z
def xc_101 : xrC := [(0, .aload_n 0, 1), (1, .getfield 458, 3), (4, .iload_n 1, 1), (5, .iaload, 1), (6, .istore_n 2, 1), (7, .iload_n 2, 1), (8, .bipush 98, 2), (10, .if_icmp .eq 15, 3),
  (13, .iload_n 2, 1), (14, .bipush 119, 2), (16, .if_icmp .eq 9, 3), (19, .iload_n 2, 1), (20, .bipush 87, 2), (22, .if_icmp .ne 7, 3), (25, .iconst 1, 1), (26, .goto 4, 3),
  (29, .iconst 0, 1), (30, .ireturn, 1)]
def xm_101 : xrM := ((7, 1, ⟨"HexTemplates$Template", "isRelatable", "(I)Z"⟩), (prog_9_method_7_code, 3, (some FieldType.boolean)), [], xc_101)
-- 102: HexTemplates$Template.addTerm(II)Z
def xc_102 : xrC := [(0, .aload_n 0, 1), (1, .getfield 450, 3), (4, .bipush 100, 2), (6, .if_icmp .lt 5, 3), (9, .iconst 0, 1), (10, .ireturn, 1), (11, .aload_n 0, 1), (12, .getfield 455, 3),
  (15, .aload_n 0, 1), (16, .getfield 450, 3), (19, .iload_n 1, 1), (20, .iastore, 1), (21, .aload_n 0, 1), (22, .getfield 454, 3), (25, .aload_n 0, 1), (26, .getfield 450, 3),
  (29, .iload_n 2, 1), (30, .iastore, 1), (31, .aload_n 0, 1), (32, .dup, 1), (33, .getfield 450, 3), (36, .iconst 1, 1), (37, .iadd, 1), (38, .putfield 450, 3),
  (41, .iconst 1, 1), (42, .ireturn, 1)]
def xm_102 : xrM := ((7, 2, ⟨"HexTemplates$Template", "addTerm", "(II)Z"⟩), (prog_9_method_8_code, 3, (some FieldType.boolean)), [], xc_102)
-- 103: HexTemplates$Template.addChoice(I)Z
def xc_103 : xrC := [(0, .aload_n 0, 1), (1, .getfield 451, 3), (4, .bipush 100, 2), (6, .if_icmp .lt 5, 3), (9, .iconst 0, 1), (10, .ireturn, 1), (11, .aload_n 0, 1), (12, .getfield 456, 3),
  (15, .aload_n 0, 1), (16, .getfield 451, 3), (19, .iload_n 1, 1), (20, .iastore, 1), (21, .aload_n 0, 1), (22, .dup, 1), (23, .getfield 451, 3), (26, .iconst 1, 1),
  (27, .iadd, 1), (28, .putfield 451, 3), (31, .iconst 1, 1), (32, .ireturn, 1)]
def xm_103 : xrM := ((7, 1, ⟨"HexTemplates$Template", "addChoice", "(I)Z"⟩), (prog_9_method_9_code, 2, (some FieldType.boolean)), [], xc_103)
-- 104: HexTemplates.<init>()V
def xc_104 : xrC := [(0, .aload_n 0, 1), (1, .monitorexit, 3), (4, .aload_n 0, 1), (5, .new 0, 3), (8, .dup, 1), (9, .sipush 200, 3), (12, .invokespecial 1, 3), (15, .invokedynamic 512, 3),
  (18, .aload_n 0, 1), (19, .new 0, 3), (22, .dup, 1), (23, .sipush 160, 3), (26, .invokespecial 1, 3), (29, .invokedynamic 513, 3), (32, .aload_n 0, 1), (33, .new 4, 3),
  (36, .dup, 1), (37, .invokespecial 35, 3), (40, .invokedynamic 514, 3), (43, .aload_n 0, 1), (44, .iconst 4, 1), (45, .anewarray 7, 3), (48, .invokedynamic 515, 3), (51, .aload_n 0, 1),
  (52, .new 6, 3), (55, .dup, 1), (56, .invokespecial 87, 3), (59, .invokedynamic 516, 3), (62, .aload_n 0, 1), (63, .new 5, 3), (66, .dup, 1), (67, .invokespecial 55, 3),
  (70, .invokedynamic 517, 3), (73, .aload_n 0, 1), (74, .new 5, 3), (77, .dup, 1), (78, .invokespecial 55, 3), (81, .invokedynamic 518, 3), (84, .aload_n 0, 1), (85, .new 1, 3),
  (88, .dup, 1), (89, .invokespecial 9, 3), (92, .invokedynamic 519, 3), (95, .aload_n 0, 1), (96, .new 2, 3), (99, .dup, 1), (100, .invokespecial 21, 3), (103, .invokedynamic 520, 3),
  (106, .aload_n 0, 1), (107, .sipush 1536, 3), (110, .newarray .boolean, 2), (112, .invokedynamic 521, 3), (115, .aload_n 0, 1), (116, .iconst 0, 1), (117, .putfield 522, 3), (120, .aload_n 0, 1),
  (121, .bipush (-3), 2), (123, .putfield 523, 3), (126, .return_, 1)]
def xm_104 : xrM := ((8, 0, ⟨"HexTemplates", "<init>", "()V"⟩), (prog_1_method_1_code, 1, (none)), [], xc_104)
-- 105: HexTemplates.feed(JI)I
def xc_105 : xrC := [(0, .iload_n 3, 1), (1, .iconst 1, 1), (2, .if_icmp .lt 9, 3), (5, .iload_n 3, 1), (6, .bipush 8, 2), (8, .if_icmp .le 13, 3), (11, .multianewarray 0 0, 3), (21, .aload_n 0, 1),
  (22, .getfield 512, 3), (25, .getfield 1, 3), (28, .iload_n 3, 1), (29, .iadd, 1), (30, .sipush 200, 3), (33, .if_icmp .le 13, 3), (36, .multianewarray 1 0, 3), (46, .iconst 0, 1),
  (47, .istore 4, 2), (49, .iload 4, 2), (51, .iload_n 3, 1), (52, .if_icmp .ge 28, 3), (55, .aload_n 0, 1), (56, .getfield 512, 3), (59, .lload_n 1, 1), (60, .bipush 8, 2),
  (62, .iload 4, 2), (64, .imul, 1), (65, .lushr, 1), (66, .l2i, 1), (67, .sipush 255, 3), (70, .iand, 1), (71, .invokevirtual 4, 3), (74, .iinc 4 1, 3),
  (77, .goto (-28), 3), (80, .aload_n 0, 1), (81, .getfield 512, 3), (84, .getfield 1, 3), (87, .ireturn, 1)]
def xm_105 : xrM := ((8, 2, ⟨"HexTemplates", "feed", "(JI)I"⟩), (prog_1_method_2_code, 5, (some FieldType.int)), [], xc_105)
-- 106: HexTemplates.give()I
def xc_106 : xrC := [(0, .aload_n 0, 1), (1, .getfield 512, 3), (4, .getfield 1, 3), (7, .sipush 160, 3), (10, .if_icmp .gt 17, 3), (13, .aload_n 0, 1), (14, .getfield 516, 3), (17, .invokevirtual 88, 3),
  (20, .ifCond .ne 7, 3), (23, .iconst 1, 1), (24, .goto 4, 3), (27, .iconst 0, 1), (28, .istore_n 1, 1), (29, .iload_n 1, 1), (30, .ifCond .eq 14, 3), (33, .aload_n 0, 1),
  (34, .getfield 513, 3), (37, .aload_n 0, 1), (38, .getfield 512, 3), (41, .invokevirtual 5, 3), (44, .aload_n 0, 1), (45, .getfield 512, 3), (48, .iconst 0, 1), (49, .putfield 1, 3),
  (52, .iload_n 1, 1), (53, .ifCond .ne 13, 3), (56, .multianewarray 1 0, 3), (66, .aload_n 0, 1), (67, .invokevirtual 131, 3), (70, .ireturn, 1)]
def xm_106 : xrM := ((8, 0, ⟨"HexTemplates", "give", "()I"⟩), (prog_1_method_3_code, 2, (some FieldType.int)), [], xc_106)
-- 107: HexTemplates.template(I)I
def xc_107 : xrC := [(0, .iload_n 1, 1), (1, .ifCond .lt 9, 3), (4, .iload_n 1, 1), (5, .bipush 9, 2), (7, .if_icmp .le 13, 3), (10, .multianewarray 0 0, 3), (20, .aload_n 0, 1), (21, .invokevirtual 130, 3),
  (24, .astore_n 2, 1), (25, .aload_n 2, 1), (26, .ifnull 22, 3), (29, .aload_n 0, 1), (30, .getfield 514, 3), (33, .aload_n 0, 1), (34, .getfield 512, 3), (37, .aload_n 2, 1),
  (38, .invokevirtual 36, 3), (41, .ifCond .eq 7, 3), (44, .iconst 1, 1), (45, .goto 4, 3), (48, .iconst 0, 1), (49, .istore_n 3, 1), (50, .aload_n 0, 1), (51, .getfield 512, 3),
  (54, .iconst 0, 1), (55, .putfield 1, 3), (58, .iload_n 3, 1), (59, .ifCond .ne 13, 3), (62, .multianewarray 1 0, 3), (72, .aload_n 2, 1), (73, .iload_n 1, 1), (74, .putfield 448, 3),
  (77, .aload_n 0, 1), (78, .bipush (-3), 2), (80, .putfield 523, 3), (83, .aload_n 0, 1), (84, .dup, 1), (85, .getfield 522, 3), (88, .iconst 1, 1), (89, .iadd, 1),
  (90, .putfield 522, 3), (93, .aload_n 0, 1), (94, .getfield 522, 3), (97, .iconst 1, 1), (98, .isub, 1), (99, .ireturn, 1)]
def xm_107 : xrM := ((8, 1, ⟨"HexTemplates", "template", "(I)I"⟩), (prog_1_method_4_code, 4, (some FieldType.int)), [], xc_107)
-- 108: HexTemplates.size()I
def xc_108 : xrC := [(0, .aload_n 0, 1), (1, .getfield 513, 3), (4, .getfield 1, 3), (7, .ireturn, 1)]
def xm_108 : xrM := ((8, 0, ⟨"HexTemplates", "size", "()I"⟩), (prog_1_method_5_code, 1, (some FieldType.int)), [], xc_108)
-- 109: HexTemplates.byteAt(I)I
def xc_109 : xrC := [(0, .iload_n 1, 1), (1, .ifCond .lt 14, 3), (4, .iload_n 1, 1), (5, .aload_n 0, 1), (6, .getfield 513, 3), (9, .getfield 1, 3), (12, .if_icmp .lt 13, 3), (15, .multianewarray 2 0, 3),
  (25, .aload_n 0, 1), (26, .getfield 513, 3), (29, .iload_n 1, 1), (30, .invokevirtual 2, 3), (33, .ireturn, 1)]
def xm_109 : xrM := ((8, 1, ⟨"HexTemplates", "byteAt", "(I)I"⟩), (prog_1_method_6_code, 2, (some FieldType.int)), [], xc_109)
-- 110: HexTemplates.state()I
def xc_110 : xrC := [(0, .aload_n 0, 1), (1, .getfield 516, 3), (4, .getfield 388, 3), (7, .ireturn, 1)]
def xm_110 : xrM := ((8, 0, ⟨"HexTemplates", "state", "()I"⟩), (prog_1_method_7_code, 1, (some FieldType.int)), [], xc_110)
-- 111: HexTemplatesLaw.atElement(I[I[I)I
def xc_111 : xrC := [(0, .aload_n 2, 1), (1, .invokestatic 94, 3), (4, .istore_n 3, 1), (5, .iconst 0, 1), (6, .istore 4, 2), (8, .iload 4, 2), (10, .iload_n 0, 1), (11, .if_icmp .ge 21, 3),
  (14, .iload_n 3, 1), (15, .iconst 1, 1), (16, .aload_n 1, 1), (17, .bipush 56, 2), (19, .iload 4, 2), (21, .iadd, 1), (22, .iaload, 1), (23, .iadd, 1),
  (24, .iadd, 1), (25, .istore_n 3, 1), (26, .iinc 4 1, 3), (29, .goto (-21), 3), (32, .iload_n 3, 1), (33, .ireturn, 1)]
def xm_111 : xrM := ((99, 3, ⟨"HexTemplatesLaw", "atElement", "(I[I[I)I"⟩), (method_7_code, 5, (some FieldType.int)), [], xc_111)
-- 112: HexTemplatesLaw.byteAt(I[I[I[I)I
def xc_112 : xrC := [(0, .aload_n 3, 1), (1, .iconst 1, 1), (2, .iaload, 1), (3, .aload_n 2, 1), (4, .aload_n 3, 1), (5, .invokestatic 111, 3), (8, .istore 4, 2), (10, .iconst 0, 1),
  (11, .istore 5, 2), (13, .iconst 0, 1), (14, .istore 6, 2), (16, .iload_n 0, 1), (17, .iconst 3, 1), (18, .if_icmp .ge 27, 3), (21, .iload_n 0, 1), (22, .ifCond .ne 8, 3),
  (25, .bipush 77, 2), (27, .goto 17, 3), (30, .iload_n 0, 1), (31, .iconst 1, 1), (32, .if_icmp .ne 9, 3), (35, .aload_n 3, 1), (36, .iconst 0, 1), (37, .iaload, 1),
  (38, .goto 6, 3), (41, .aload_n 3, 1), (42, .iconst 1, 1), (43, .iaload, 1), (44, .ireturn, 1), (45, .iload_n 0, 1), (46, .aload_n 3, 1), (47, .invokestatic 94, 3),
  (50, .if_icmp .ge 9, 3), (53, .aload_n 1, 1), (54, .iload_n 0, 1), (55, .iconst 3, 1), (56, .isub, 1), (57, .iaload, 1), (58, .ireturn, 1), (59, .iconst 0, 1),
  (60, .istore 7, 2), (62, .iload 7, 2), (64, .aload_n 3, 1), (65, .iconst 0, 1), (66, .iaload, 1), (67, .if_icmp .ge 18, 3), (70, .iload 5, 2), (72, .aload_n 1, 1),
  (73, .iload 7, 2), (75, .iaload, 1), (76, .iadd, 1), (77, .istore 5, 2), (79, .iinc 7 1, 3), (82, .goto (-20), 3), (85, .iconst 0, 1), (86, .istore 7, 2),
  (88, .iload 7, 2), (90, .aload_n 3, 1), (91, .iconst 1, 1), (92, .iaload, 1), (93, .if_icmp .ge 117, 3), (96, .iload 7, 2), (98, .aload_n 2, 1), (99, .aload_n 3, 1),
  (100, .invokestatic 111, 3), (103, .istore 8, 2), (105, .iload_n 0, 1), (106, .iload 8, 2), (108, .if_icmp .lt 48, 3), (111, .iload_n 0, 1), (112, .iload 8, 2), (114, .aload_n 2, 1),
  (115, .bipush 56, 2), (117, .iload 7, 2), (119, .iadd, 1), (120, .iaload, 1), (121, .iadd, 1), (122, .if_icmp .gt 34, 3), (125, .iload_n 0, 1), (126, .iload 8, 2),
  (128, .if_icmp .ne 13, 3), (131, .aload_n 2, 1), (132, .bipush 56, 2), (134, .iload 7, 2), (136, .iadd, 1), (137, .iaload, 1), (138, .goto 17, 3), (141, .aload_n 2, 1),
  (142, .bipush 8, 2), (144, .iload 7, 2), (146, .imul, 1), (147, .iload_n 0, 1), (148, .iadd, 1), (149, .iload 8, 2), (151, .isub, 1), (152, .iconst 1, 1),
  (153, .isub, 1), (154, .iaload, 1), (155, .ireturn, 1), (156, .iload 6, 2), (158, .aload_n 2, 1), (159, .bipush 56, 2), (161, .iload 7, 2), (163, .iadd, 1),
  (164, .iaload, 1), (165, .ixor, 1), (166, .istore 6, 2), (168, .iconst 0, 1), (169, .istore 9, 2), (171, .iload 9, 2), (173, .aload_n 2, 1), (174, .bipush 56, 2),
  (176, .iload 7, 2), (178, .iadd, 1), (179, .iaload, 1), (180, .if_icmp .ge 24, 3), (183, .iload 6, 2), (185, .aload_n 2, 1), (186, .bipush 8, 2), (188, .iload 7, 2),
  (190, .imul, 1), (191, .iload 9, 2), (193, .iadd, 1), (194, .iaload, 1), (195, .ixor, 1), (196, .istore 6, 2), (198, .iinc 9 1, 3), (201, .goto (-30), 3),
  (204, .iinc 7 1, 3), (207, .goto (-119), 3), (210, .iload_n 0, 1), (211, .iload 4, 2), (213, .if_icmp .ne 12, 3), (216, .iload 5, 2), (218, .sipush 255, 3), (221, .iand, 1),
  (222, .goto 40, 3), (225, .iload_n 0, 1), (226, .iload 4, 2), (228, .iconst 1, 1), (229, .iadd, 1), (230, .if_icmp .ne 8, 3), (233, .iload 6, 2), (235, .goto 27, 3),
  (238, .iload_n 0, 1), (239, .iload 4, 2), (241, .iconst 2, 1), (242, .iadd, 1), (243, .if_icmp .ne 9, 3), (246, .aload_n 3, 1), (247, .iconst 2, 1), (248, .iaload, 1),
  (249, .goto 13, 3), (252, .sipush 200, 3), (255, .iload_n 0, 1), (256, .iadd, 1), (257, .iload 4, 2), (259, .isub, 1), (260, .iconst 3, 1), (261, .isub, 1),
  (262, .ireturn, 1)]
def xm_112 : xrM := ((99, 4, ⟨"HexTemplatesLaw", "byteAt", "(I[I[I[I)I"⟩), (method_8_code, 10, (some FieldType.int)), [], xc_112)
-- 113: HexTemplates.chosen()I
def xc_113 : xrC := [(0, .aload_n 0, 1), (1, .invokevirtual 133, 3), (4, .aload_n 0, 1), (5, .getfield 523, 3), (8, .ireturn, 1)]
def xm_113 : xrM := ((8, 0, ⟨"HexTemplates", "chosen", "()I"⟩), (prog_1_method_10_code, 1, (some FieldType.int)), [], xc_113)
-- 114: HexTemplates.fault(IZ)I
def xc_114 : xrC := [(0, .iload_n 1, 1), (1, .ifCond .lt 11, 3), (4, .iload_n 1, 1), (5, .aload_n 0, 1), (6, .getfield 522, 3), (9, .if_icmp .lt 13, 3), (12, .multianewarray 2 0, 3), (22, .aload_n 0, 1),
  (23, .getfield 518, 3), (26, .aload_n 0, 1), (27, .getfield 515, 3), (30, .iload_n 1, 1), (31, .aaload, 1), (32, .aload_n 0, 1), (33, .getfield 513, 3), (36, .iconst 0, 1),
  (37, .iconst 0, 1), (38, .invokevirtual 56, 3), (41, .pop, 1), (42, .iload_n 2, 1), (43, .ifCond .eq 13, 3), (46, .aload_n 0, 1), (47, .getfield 518, 3), (50, .getfield 326, 3),
  (53, .goto 10, 3), (56, .aload_n 0, 1), (57, .getfield 518, 3), (60, .getfield 325, 3), (63, .ireturn, 1)]
def xm_114 : xrM := ((8, 2, ⟨"HexTemplates", "fault", "(IZ)I"⟩), (prog_1_method_11_code, 3, (some FieldType.int)), [], xc_114)
-- 115: HexTemplates.nodes()I
def xc_115 : xrC := [(0, .aload_n 0, 1), (1, .invokevirtual 133, 3), (4, .aload_n 0, 1), (5, .getfield 517, 3), (8, .getfield 320, 3), (11, .getfield 199, 3), (14, .ireturn, 1)]
def xm_115 : xrM := ((8, 0, ⟨"HexTemplates", "nodes", "()I"⟩), (prog_1_method_12_code, 1, (some FieldType.int)), [], xc_115)
-- 116: HexTemplates.node(II)I
def xc_116 : xrC := [(0, .aload_n 0, 1), (1, .iload_n 1, 1), (2, .invokevirtual 135, 3), (5, .iload_n 2, 1), (6, .ifCond .lt 9, 3), (9, .iload_n 2, 1), (10, .bipush 6, 2), (12, .if_icmp .le 13, 3),
  (15, .multianewarray 0 0, 3), (25, .aload_n 0, 1), (26, .getfield 517, 3), (29, .getfield 320, 3), (32, .astore_n 3, 1), (33, .iload_n 2, 1), (34, .tableswitch 80 0 5 #[38, 45, 52, 59, 66, 73], 38), (72, .aload_n 3, 1),
  (73, .getfield 192, 3), (76, .iload_n 1, 1), (77, .iaload, 1), (78, .ireturn, 1), (79, .aload_n 3, 1), (80, .getfield 193, 3), (83, .iload_n 1, 1), (84, .iaload, 1),
  (85, .ireturn, 1), (86, .aload_n 3, 1), (87, .getfield 194, 3), (90, .iload_n 1, 1), (91, .iaload, 1), (92, .ireturn, 1), (93, .aload_n 3, 1), (94, .getfield 195, 3),
  (97, .iload_n 1, 1), (98, .iaload, 1), (99, .ireturn, 1), (100, .aload_n 3, 1), (101, .getfield 196, 3), (104, .iload_n 1, 1), (105, .iaload, 1), (106, .ireturn, 1),
  (107, .aload_n 3, 1), (108, .getfield 197, 3), (111, .iload_n 1, 1), (112, .iaload, 1), (113, .ireturn, 1), (114, .aload_n 0, 1), (115, .getfield 517, 3), (118, .iload_n 1, 1),
  (119, .invokevirtual 79, 3), (122, .ifCond .eq 7, 3), (125, .iconst 1, 1), (126, .goto 4, 3), (129, .iconst 0, 1), (130, .ireturn, 1)]
def xm_116 : xrM := ((8, 2, ⟨"HexTemplates", "node", "(II)I"⟩), (prog_1_method_13_code, 4, (some FieldType.int)), [], xc_116)
-- 117: HexTemplates.wrong()I
def xc_117 : xrC := [(0, .aload_n 0, 1), (1, .invokevirtual 133, 3), (4, .aload_n 0, 1), (5, .getfield 517, 3), (8, .invokevirtual 80, 3), (11, .ireturn, 1)]
def xm_117 : xrM := ((8, 0, ⟨"HexTemplates", "wrong", "()I"⟩), (prog_1_method_14_code, 1, (some FieldType.int)), [], xc_117)
-- 118: HexTemplates.wrongByAll()I
def xc_118 : xrC := [(0, .aload_n 0, 1), (1, .invokevirtual 133, 3), (4, .aload_n 0, 1), (5, .getfield 518, 3), (8, .aload_n 0, 1), (9, .invokevirtual 132, 3), (12, .aload_n 0, 1), (13, .getfield 513, 3),
  (16, .iconst 0, 1), (17, .iconst 0, 1), (18, .invokevirtual 56, 3), (21, .ifCond .eq 13, 3), (24, .aload_n 0, 1), (25, .getfield 518, 3), (28, .getfield 327, 3), (31, .goto 4, 3),
  (34, .iconst 0, 1), (35, .ireturn, 1)]
def xm_118 : xrM := ((8, 0, ⟨"HexTemplates", "wrongByAll", "()I"⟩), (prog_1_method_15_code, 1, (some FieldType.int)), [], xc_118)
-- 119: HexTemplates.follow(I)I
def xc_119 : xrC := [(0, .aload_n 0, 1), (1, .iload_n 1, 1), (2, .invokevirtual 135, 3), (5, .aload_n 0, 1), (6, .iload_n 1, 1), (7, .invokevirtual 136, 3), (10, .aload_n 0, 1), (11, .invokevirtual 132, 3),
  (14, .astore_n 2, 1), (15, .aload_n 0, 1), (16, .getfield 517, 3), (19, .aload_n 0, 1), (20, .getfield 517, 3), (23, .getfield 320, 3), (26, .getfield 198, 3), (29, .iload_n 1, 1),
  (30, .iaload, 1), (31, .invokevirtual 82, 3), (34, .istore_n 3, 1), (35, .aload_n 0, 1), (36, .getfield 517, 3), (39, .getfield 320, 3), (42, .getfield 196, 3), (45, .iload_n 1, 1),
  (46, .iaload, 1), (47, .istore 4, 2), (49, .aload_n 0, 1), (50, .getfield 518, 3), (53, .aload_n 2, 1), (54, .aload_n 0, 1), (55, .getfield 513, 3), (58, .iload_n 3, 1),
  (59, .iload 4, 2), (61, .invokevirtual 56, 3), (64, .ifCond .eq 16, 3), (67, .aload_n 0, 1), (68, .getfield 518, 3), (71, .getfield 323, 3), (74, .iload 4, 2), (76, .isub, 1),
  (77, .goto 4, 3), (80, .iconst (-1), 1), (81, .ireturn, 1)]
def xm_119 : xrM := ((8, 1, ⟨"HexTemplates", "follow", "(I)I"⟩), (prog_1_method_16_code, 5, (some FieldType.int)), [], xc_119)
-- 120: HexTemplates.chain(I)I
def xc_120 : xrC := [(0, .aload_n 0, 1), (1, .iload_n 1, 1), (2, .invokevirtual 135, 3), (5, .aload_n 0, 1), (6, .iload_n 1, 1), (7, .invokevirtual 136, 3), (10, .aload_n 0, 1), (11, .invokevirtual 132, 3),
  (14, .astore_n 2, 1), (15, .aload_n 0, 1), (16, .getfield 517, 3), (19, .aload_n 0, 1), (20, .getfield 517, 3), (23, .getfield 320, 3), (26, .getfield 198, 3), (29, .iload_n 1, 1),
  (30, .iaload, 1), (31, .invokevirtual 82, 3), (34, .istore_n 3, 1), (35, .aload_n 0, 1), (36, .getfield 517, 3), (39, .getfield 320, 3), (42, .getfield 196, 3), (45, .iload_n 1, 1),
  (46, .iaload, 1), (47, .istore 4, 2), (49, .aload_n 0, 1), (50, .invokevirtual 141, 3), (53, .iconst 0, 1), (54, .istore 5, 2), (56, .iconst 0, 1), (57, .istore 6, 2),
  (59, .iload 6, 2), (61, .aload_n 0, 1), (62, .getfield 521, 3), (65, .arraylength, 1), (66, .if_icmp .ge 104, 3), (69, .aload_n 0, 1), (70, .iload_n 3, 1), (71, .iload 4, 2),
  (73, .invokevirtual 142, 3), (76, .ifCond .eq 6, 3), (79, .bipush (-2), 2), (81, .ireturn, 1), (82, .aload_n 0, 1), (83, .getfield 518, 3), (86, .aload_n 2, 1), (87, .aload_n 0, 1),
  (88, .getfield 513, 3), (91, .iload_n 3, 1), (92, .iload 4, 2), (94, .invokevirtual 56, 3), (97, .ifCond .ne 6, 3), (100, .iload 5, 2), (102, .ireturn, 1), (103, .iinc 5 1, 3),
  (106, .aload_n 0, 1), (107, .getfield 518, 3), (110, .getfield 320, 3), (113, .iconst 0, 1), (114, .invokevirtual 32, 3), (117, .istore 7, 2), (119, .iload 7, 2), (121, .iconst (-1), 1),
  (122, .if_icmp .ne 6, 3), (125, .iload 5, 2), (127, .ireturn, 1), (128, .aload_n 0, 1), (129, .getfield 518, 3), (132, .aload_n 0, 1), (133, .getfield 518, 3), (136, .getfield 320, 3),
  (139, .getfield 198, 3), (142, .iload 7, 2), (144, .iaload, 1), (145, .invokevirtual 82, 3), (148, .istore_n 3, 1), (149, .aload_n 0, 1), (150, .getfield 518, 3), (153, .getfield 320, 3),
  (156, .getfield 196, 3), (159, .iload 7, 2), (161, .iaload, 1), (162, .istore 4, 2), (164, .iinc 6 1, 3), (167, .goto (-108), 3), (170, .bipush (-2), 2), (172, .ireturn, 1)]
def xm_120 : xrM := ((8, 1, ⟨"HexTemplates", "chain", "(I)I"⟩), (prog_1_method_17_code, 8, (some FieldType.int)), [], xc_120)
-- 121: HexTemplates.find(III)I
def xc_121 : xrC := [(0, .iload_n 1, 1), (1, .ifCond .lt 32, 3), (4, .iload_n 1, 1), (5, .sipush 255, 3), (8, .if_icmp .gt 25, 3), (11, .iload_n 2, 1), (12, .ifCond .lt 21, 3), (15, .iload_n 2, 1),
  (16, .sipush 255, 3), (19, .if_icmp .gt 14, 3), (22, .iload_n 3, 1), (23, .ifCond .lt 10, 3), (26, .iload_n 3, 1), (27, .sipush 200, 3), (30, .if_icmp .le 13, 3), (33, .multianewarray 0 0, 3),
  (43, .iload_n 3, 1), (44, .istore 4, 2), (46, .iload 4, 2), (48, .aload_n 0, 1), (49, .getfield 513, 3), (52, .getfield 1, 3), (55, .if_icmp .ge 29, 3), (58, .aload_n 0, 1),
  (59, .getfield 513, 3), (62, .iload 4, 2), (64, .invokevirtual 2, 3), (67, .iload_n 2, 1), (68, .iand, 1), (69, .iload_n 1, 1), (70, .iload_n 2, 1), (71, .iand, 1),
  (72, .if_icmp .ne 6, 3), (75, .iload 4, 2), (77, .ireturn, 1), (78, .iinc 4 1, 3), (81, .goto (-35), 3), (84, .iconst (-1), 1), (85, .ireturn, 1)]
def xm_121 : xrM := ((8, 3, ⟨"HexTemplates", "find", "(III)I"⟩), (prog_1_method_18_code, 5, (some FieldType.int)), [], xc_121)
-- 122: HexTemplates.findField(III)I
def xc_122 : xrC := [(0, .iload_n 1, 1), (1, .ifCond .lt 30, 3), (4, .iload_n 1, 1), (5, .bipush 26, 2), (7, .if_icmp .ge 24, 3), (10, .iload_n 2, 1), (11, .ifCond .lt 20, 3), (14, .iload_n 2, 1),
  (15, .jsr_w 65535, 2), (17, .if_icmp .gt 14, 3), (20, .iload_n 3, 1), (21, .ifCond .lt 10, 3), (24, .iload_n 3, 1), (25, .sipush 200, 3), (28, .if_icmp .le 13, 3), (31, .multianewarray 0 0, 3),
  (41, .aload_n 0, 1), (42, .invokevirtual 133, 3), (45, .aload_n 0, 1), (46, .getfield 517, 3), (49, .getfield 320, 3), (52, .astore 4, 2), (54, .iload_n 3, 1), (55, .istore 5, 2),
  (57, .iload 5, 2), (59, .aload 4, 2), (61, .getfield 199, 3), (64, .if_icmp .ge 46, 3), (67, .aload 4, 2), (69, .iload 5, 2), (71, .invokevirtual 30, 3), (74, .ifCond .eq 30, 3),
  (77, .aload 4, 2), (79, .getfield 193, 3), (82, .iload 5, 2), (84, .iaload, 1), (85, .iload_n 1, 1), (86, .if_icmp .ne 18, 3), (89, .aload 4, 2), (91, .getfield 196, 3),
  (94, .iload 5, 2), (96, .iaload, 1), (97, .iload_n 2, 1), (98, .if_icmp .ne 6, 3), (101, .iload 5, 2), (103, .ireturn, 1), (104, .iinc 5 1, 3), (107, .goto (-50), 3),
  (110, .iconst (-1), 1), (111, .ireturn, 1)]
def xm_122 : xrM := ((8, 3, ⟨"HexTemplates", "findField", "(III)I"⟩), (prog_1_method_19_code, 6, (some FieldType.int)), [], xc_122)
-- 123: HexTemplates.set(II)I
def xc_123 : xrC := [(0, .aload_n 0, 1), (1, .iload_n 1, 1), (2, .invokevirtual 135, 3), (5, .aload_n 0, 1), (6, .iload_n 1, 1), (7, .invokevirtual 139, 3), (10, .ifCond .eq 19, 3), (13, .iload_n 2, 1),
  (14, .ifCond .lt 15, 3), (17, .iload_n 2, 1), (18, .aload_n 0, 1), (19, .getfield 517, 3), (22, .iload_n 1, 1), (23, .invokevirtual 83, 3), (26, .if_icmp .le 13, 3), (29, .multianewarray 1 0, 3),
  (39, .aload_n 0, 1), (40, .getfield 519, 3), (43, .aload_n 0, 1), (44, .getfield 513, 3), (47, .invokevirtual 10, 3), (50, .aload_n 0, 1), (51, .getfield 519, 3), (54, .aload_n 0, 1),
  (55, .getfield 517, 3), (58, .iload_n 1, 1), (59, .iload_n 2, 1), (60, .invokevirtual 11, 3), (63, .aload_n 0, 1), (64, .invokevirtual 140, 3), (67, .ireturn, 1)]
def xm_123 : xrM := ((8, 2, ⟨"HexTemplates", "set", "(II)I"⟩), (prog_1_method_20_code, 3, (some FieldType.int)), [], xc_123)
-- 124: HexTemplates.insert(III)I
def xc_124 : xrC := [(0, .aload_n 0, 1), (1, .iload_n 1, 1), (2, .invokevirtual 135, 3), (5, .iload_n 3, 1), (6, .ifCond .lt 10, 3), (9, .iload_n 3, 1), (10, .sipush 255, 3), (13, .if_icmp .le 13, 3),
  (16, .multianewarray 0 0, 3), (26, .aload_n 0, 1), (27, .iload_n 2, 1), (28, .aload_n 0, 1), (29, .getfield 517, 3), (32, .iload_n 1, 1), (33, .invokevirtual 86, 3), (36, .invokevirtual 137, 3),
  (39, .iload_n 3, 1), (40, .ifCond .ne 25, 3), (43, .aload_n 0, 1), (44, .getfield 517, 3), (47, .iload_n 1, 1), (48, .invokevirtual 85, 3), (51, .ifCond .eq 14, 3), (54, .multianewarray 1 1, 3),
  (65, .aload_n 0, 1), (66, .getfield 517, 3), (69, .getfield 320, 3), (72, .getfield 194, 3), (75, .iload_n 1, 1), (76, .iaload, 1), (77, .iload_n 2, 1), (78, .iadd, 1),
  (79, .istore 4, 2), (81, .aload_n 0, 1), (82, .getfield 519, 3), (85, .aload_n 0, 1), (86, .getfield 513, 3), (89, .invokevirtual 10, 3), (92, .aload_n 0, 1), (93, .getfield 519, 3),
  (96, .aload_n 0, 1), (97, .getfield 517, 3), (100, .iload_n 1, 1), (101, .iload 4, 2), (103, .iconst 1, 1), (104, .invokevirtual 12, 3), (107, .istore 5, 2), (109, .aload_n 0, 1),
  (110, .getfield 519, 3), (113, .getfield 64, 3), (116, .iload 4, 2), (118, .iload_n 3, 1), (119, .invokevirtual 3, 3), (122, .aload_n 0, 1), (123, .iload 5, 2), (125, .invokevirtual 138, 3),
  (128, .aload_n 0, 1), (129, .invokevirtual 140, 3), (132, .ireturn, 1)]
def xm_124 : xrM := ((8, 3, ⟨"HexTemplates", "insert", "(III)I"⟩), (prog_1_method_21_code, 6, (some FieldType.int)), [], xc_124)
-- 125: HexTemplates.remove(II)I
def xc_125 : xrC := [(0, .aload_n 0, 1), (1, .iload_n 1, 1), (2, .invokevirtual 135, 3), (5, .aload_n 0, 1), (6, .iload_n 2, 1), (7, .aload_n 0, 1), (8, .getfield 517, 3), (11, .iload_n 1, 1),
  (12, .invokevirtual 86, 3), (15, .iconst 1, 1), (16, .isub, 1), (17, .invokevirtual 137, 3), (20, .aload_n 0, 1), (21, .getfield 519, 3), (24, .aload_n 0, 1), (25, .getfield 513, 3),
  (28, .invokevirtual 10, 3), (31, .aload_n 0, 1), (32, .getfield 519, 3), (35, .aload_n 0, 1), (36, .getfield 517, 3), (39, .iload_n 1, 1), (40, .aload_n 0, 1), (41, .getfield 517, 3),
  (44, .getfield 320, 3), (47, .getfield 194, 3), (50, .iload_n 1, 1), (51, .iaload, 1), (52, .iload_n 2, 1), (53, .iadd, 1), (54, .iconst 1, 1), (55, .invokevirtual 13, 3),
  (58, .aload_n 0, 1), (59, .invokevirtual 140, 3), (62, .ireturn, 1)]
def xm_125 : xrM := ((8, 2, ⟨"HexTemplates", "remove", "(II)I"⟩), (prog_1_method_22_code, 3, (some FieldType.int)), [], xc_125)
-- 126: HexTemplates.element(IIZ)I
def xc_126 : xrC := [(0, .aload_n 0, 1), (1, .iload_n 1, 1), (2, .invokevirtual 135, 3), (5, .aload_n 0, 1), (6, .getfield 517, 3), (9, .getfield 320, 3), (12, .iload_n 1, 1), (13, .iload_n 2, 1),
  (14, .invokevirtual 33, 3), (17, .istore 4, 2), (19, .aload_n 0, 1), (20, .iload 4, 2), (22, .iconst (-1), 1), (23, .if_icmp .eq 7, 3), (26, .iconst 1, 1), (27, .goto 4, 3),
  (30, .iconst 0, 1), (31, .invokevirtual 138, 3), (34, .aload_n 0, 1), (35, .getfield 517, 3), (38, .getfield 320, 3), (41, .getfield 194, 3), (44, .iload 4, 2), (46, .iaload, 1),
  (47, .istore 5, 2), (49, .aload_n 0, 1), (50, .getfield 517, 3), (53, .getfield 320, 3), (56, .getfield 195, 3), (59, .iload 4, 2), (61, .iaload, 1), (62, .istore 6, 2),
  (64, .aload_n 0, 1), (65, .getfield 519, 3), (68, .aload_n 0, 1), (69, .getfield 513, 3), (72, .invokevirtual 10, 3), (75, .iload_n 3, 1), (76, .ifCond .eq 47, 3), (79, .aload_n 0, 1),
  (80, .getfield 519, 3), (83, .aload_n 0, 1), (84, .getfield 517, 3), (87, .iload_n 1, 1), (88, .iload 5, 2), (90, .iload 6, 2), (92, .iadd, 1), (93, .iload 6, 2),
  (95, .invokevirtual 12, 3), (98, .istore 7, 2), (100, .aload_n 0, 1), (101, .iload 7, 2), (103, .invokevirtual 138, 3), (106, .aload_n 0, 1), (107, .getfield 519, 3), (110, .getfield 64, 3),
  (113, .iload 5, 2), (115, .iload 6, 2), (117, .invokevirtual 8, 3), (120, .goto 19, 3), (123, .aload_n 0, 1), (124, .getfield 519, 3), (127, .aload_n 0, 1), (128, .getfield 517, 3),
  (131, .iload_n 1, 1), (132, .iload 5, 2), (134, .iload 6, 2), (136, .invokevirtual 13, 3), (139, .aload_n 0, 1), (140, .invokevirtual 140, 3), (143, .ireturn, 1)]
def xm_126 : xrM := ((8, 3, ⟨"HexTemplates", "element", "(IIZ)I"⟩), (prog_1_method_23_code, 8, (some FieldType.int)), [], xc_126)
-- 127: HexTemplates.repair()I
def xc_127 : xrC := [(0, .aload_n 0, 1), (1, .invokevirtual 133, 3), (4, .aload_n 0, 1), (5, .getfield 519, 3), (8, .aload_n 0, 1), (9, .getfield 513, 3), (12, .invokevirtual 10, 3), (15, .aload_n 0, 1),
  (16, .invokevirtual 140, 3), (19, .ireturn, 1)]
def xm_127 : xrM := ((8, 0, ⟨"HexTemplates", "repair", "()I"⟩), (prog_1_method_24_code, 1, (some FieldType.int)), [], xc_127)
-- 128: HexTemplatesLaw.node(LHexTemplates;IIIIIII)Z
def xc_128 : xrC := [(0, .aload_n 0, 1), (1, .iload_n 1, 1), (2, .iconst 0, 1), (3, .invokevirtual 116, 3), (6, .iload_n 2, 1), (7, .if_icmp .ne 72, 3), (10, .aload_n 0, 1), (11, .iload_n 1, 1),
  (12, .iconst 1, 1), (13, .invokevirtual 116, 3), (16, .iload_n 3, 1), (17, .if_icmp .ne 62, 3), (20, .aload_n 0, 1), (21, .iload_n 1, 1), (22, .iconst 2, 1), (23, .invokevirtual 116, 3),
  (26, .iload 4, 2), (28, .if_icmp .ne 51, 3), (31, .aload_n 0, 1), (32, .iload_n 1, 1), (33, .iconst 3, 1), (34, .invokevirtual 116, 3), (37, .iload 5, 2), (39, .if_icmp .ne 40, 3),
  (42, .aload_n 0, 1), (43, .iload_n 1, 1), (44, .iconst 4, 1), (45, .invokevirtual 116, 3), (48, .iload 6, 2), (50, .if_icmp .ne 29, 3), (53, .aload_n 0, 1), (54, .iload_n 1, 1),
  (55, .iconst 5, 1), (56, .invokevirtual 116, 3), (59, .iload 7, 2), (61, .if_icmp .ne 18, 3), (64, .aload_n 0, 1), (65, .iload_n 1, 1), (66, .bipush 6, 2), (68, .invokevirtual 116, 3),
  (71, .iconst 1, 1), (72, .if_icmp .ne 7, 3), (75, .iconst 1, 1), (76, .goto 4, 3), (79, .iconst 0, 1), (80, .ireturn, 1)]
def xm_128 : xrM := ((99, 8, ⟨"HexTemplatesLaw", "node", "(LHexTemplates;IIIIIII)Z"⟩), (method_9_code, 8, (some FieldType.boolean)), [], xc_128)
-- 129: HexTemplatesLaw.same(LHexTemplates;I[I[I[I)Z
def xc_129 : xrC := [(0, .aload 4, 2), (2, .iconst 1, 1), (3, .iaload, 1), (4, .aload_n 3, 1), (5, .aload 4, 2), (7, .invokestatic 111, 3), (10, .istore 5, 2), (12, .iload 5, 2),
  (14, .iconst 5, 1), (15, .iadd, 1), (16, .istore 6, 2), (18, .aload_n 0, 1), (19, .invokevirtual 108, 3), (22, .iload 6, 2), (24, .if_icmp .ne 74, 3), (27, .aload_n 0, 1),
  (28, .invokevirtual 110, 3), (31, .aload 4, 2), (33, .iconst 3, 1), (34, .iaload, 1), (35, .if_icmp .ne 63, 3), (38, .aload_n 0, 1), (39, .invokevirtual 113, 3), (42, .ifCond .ne 56, 3),
  (45, .aload_n 0, 1), (46, .iconst 0, 1), (47, .iconst 0, 1), (48, .invokevirtual 114, 3), (51, .ifCond .ne 47, 3), (54, .aload_n 0, 1), (55, .iconst 0, 1), (56, .iconst 1, 1),
  (57, .invokevirtual 114, 3), (60, .iconst (-1), 1), (61, .if_icmp .ne 37, 3), (64, .aload_n 0, 1), (65, .invokevirtual 117, 3), (68, .ifCond .ne 30, 3), (71, .aload_n 0, 1), (72, .invokevirtual 118, 3),
  (75, .ifCond .ne 23, 3), (78, .aload_n 0, 1), (79, .invokevirtual 115, 3), (82, .bipush 9, 2), (84, .iconst 3, 1), (85, .aload 4, 2), (87, .iconst 1, 1), (88, .iaload, 1),
  (89, .imul, 1), (90, .iadd, 1), (91, .if_icmp .ne 7, 3), (94, .iconst 1, 1), (95, .goto 4, 3), (98, .iconst 0, 1), (99, .istore 7, 2), (101, .iconst 0, 1),
  (102, .istore 8, 2), (104, .iload 8, 2), (106, .iload 6, 2), (108, .if_icmp .ge 39, 3), (111, .iload 7, 2), (113, .ifCond .eq 34, 3), (116, .aload_n 0, 1), (117, .iload 8, 2),
  (119, .invokevirtual 109, 3), (122, .iload 8, 2), (124, .aload_n 2, 1), (125, .aload_n 3, 1), (126, .aload 4, 2), (128, .invokestatic 112, 3), (131, .if_icmp .ne 7, 3), (134, .iconst 1, 1),
  (135, .goto 4, 3), (138, .iconst 0, 1), (139, .istore 7, 2), (141, .iinc 8 1, 3), (144, .goto (-40), 3), (147, .bipush 6, 2), (149, .iconst 3, 1), (150, .aload 4, 2),
  (152, .iconst 1, 1), (153, .iaload, 1), (154, .imul, 1), (155, .iadd, 1), (156, .istore 8, 2), (158, .iload 7, 2), (160, .ifCond .eq 215, 3), (163, .aload_n 0, 1),
  (164, .iconst 0, 1), (165, .iconst 0, 1), (166, .iconst 0, 1), (167, .iconst 0, 1), (168, .iload 5, 2), (170, .iconst 3, 1), (171, .iadd, 1), (172, .iconst 0, 1),
  (173, .iconst (-1), 1), (174, .invokestatic 128, 3), (177, .ifCond .eq 198, 3), (180, .aload_n 0, 1), (181, .iconst 1, 1), (182, .iconst 2, 1), (183, .bipush 12, 2), (185, .iconst 0, 1),
  (186, .iconst 1, 1), (187, .bipush 77, 2), (189, .iconst 0, 1), (190, .invokestatic 128, 3), (193, .ifCond .eq 182, 3), (196, .aload_n 0, 1), (197, .iconst 2, 1), (198, .iconst 2, 1),
  (199, .bipush 11, 2), (201, .iconst 1, 1), (202, .iconst 1, 1), (203, .aload 4, 2), (205, .iconst 0, 1), (206, .iaload, 1), (207, .iconst 0, 1), (208, .invokestatic 128, 3),
  (211, .ifCond .eq 164, 3), (214, .aload_n 0, 1), (215, .iconst 3, 1), (216, .iconst 2, 1), (217, .bipush 13, 2), (219, .iconst 2, 1), (220, .iconst 1, 1), (221, .aload 4, 2),
  (223, .iconst 1, 1), (224, .iaload, 1), (225, .iconst 0, 1), (226, .invokestatic 128, 3), (229, .ifCond .eq 146, 3), (232, .aload_n 0, 1), (233, .iconst 4, 1), (234, .iconst 5, 1),
  (235, .iconst 3, 1), (236, .iconst 3, 1), (237, .aload 4, 2), (239, .iconst 0, 1), (240, .iaload, 1), (241, .aload 4, 2), (243, .iconst 0, 1), (244, .iaload, 1),
  (245, .ifCond .ne 7, 3), (248, .iconst (-1), 1), (249, .goto 6, 3), (252, .aload_n 2, 1), (253, .iconst 0, 1), (254, .iaload, 1), (255, .iconst 0, 1), (256, .invokestatic 128, 3),
  (259, .ifCond .eq 116, 3), (262, .aload_n 0, 1), (263, .iconst 5, 1), (264, .iconst 1, 1), (265, .iconst 4, 1), (266, .iconst 3, 1), (267, .aload 4, 2), (269, .iconst 0, 1),
  (270, .iaload, 1), (271, .iadd, 1), (272, .iload 5, 2), (274, .iconst 3, 1), (275, .isub, 1), (276, .aload 4, 2), (278, .iconst 0, 1), (279, .iaload, 1),
  (280, .isub, 1), (281, .aload 4, 2), (283, .iconst 1, 1), (284, .iaload, 1), (285, .iconst 0, 1), (286, .invokestatic 128, 3), (289, .ifCond .eq 86, 3), (292, .aload_n 0, 1),
  (293, .iload 8, 2), (295, .iconst 2, 1), (296, .iconst 2, 1), (297, .iload 5, 2), (299, .iconst 1, 1), (300, .iload 5, 2), (302, .aload_n 2, 1), (303, .aload_n 3, 1),
  (304, .aload 4, 2), (306, .invokestatic 112, 3), (309, .iconst 0, 1), (310, .invokestatic 128, 3), (313, .ifCond .eq 62, 3), (316, .aload_n 0, 1), (317, .iload 8, 2), (319, .iconst 1, 1),
  (320, .iadd, 1), (321, .iconst 2, 1), (322, .bipush 23, 2), (324, .iload 5, 2), (326, .iconst 1, 1), (327, .iadd, 1), (328, .iconst 1, 1), (329, .iload 5, 2),
  (331, .iconst 1, 1), (332, .iadd, 1), (333, .aload_n 2, 1), (334, .aload_n 3, 1), (335, .aload 4, 2), (337, .invokestatic 112, 3), (340, .iconst 0, 1), (341, .invokestatic 128, 3),
  (344, .ifCond .eq 31, 3), (347, .aload_n 0, 1), (348, .iload 8, 2), (350, .iconst 2, 1), (351, .iadd, 1), (352, .iconst 3, 1), (353, .bipush 17, 2), (355, .iload 5, 2),
  (357, .iconst 2, 1), (358, .iadd, 1), (359, .iconst 1, 1), (360, .aload 4, 2), (362, .iconst 2, 1), (363, .iaload, 1), (364, .iconst 0, 1), (365, .invokestatic 128, 3),
  (368, .ifCond .eq 7, 3), (371, .iconst 1, 1), (372, .goto 4, 3), (375, .iconst 0, 1), (376, .istore 7, 2), (378, .iconst 0, 1), (379, .istore 9, 2), (381, .iload 9, 2),
  (383, .aload 4, 2), (385, .iconst 1, 1), (386, .iaload, 1), (387, .if_icmp .ge 139, 3), (390, .iload 7, 2), (392, .ifCond .eq 134, 3), (395, .iload 9, 2), (397, .aload_n 3, 1),
  (398, .aload 4, 2), (400, .invokestatic 111, 3), (403, .istore 10, 2), (405, .aload_n 3, 1), (406, .bipush 56, 2), (408, .iload 9, 2), (410, .iadd, 1), (411, .iaload, 1),
  (412, .istore 11, 2), (414, .aload_n 0, 1), (415, .bipush 6, 2), (417, .iconst 3, 1), (418, .iload 9, 2), (420, .imul, 1), (421, .iadd, 1), (422, .iconst 0, 1),
  (423, .iconst 1, 1), (424, .iload 10, 2), (426, .iconst 1, 1), (427, .iload 11, 2), (429, .iadd, 1), (430, .iconst 1, 1), (431, .iconst 5, 1), (432, .invokestatic 128, 3),
  (435, .ifCond .eq 82, 3), (438, .aload_n 0, 1), (439, .bipush 7, 2), (441, .iconst 3, 1), (442, .iload 9, 2), (444, .imul, 1), (445, .iadd, 1), (446, .iconst 2, 1),
  (447, .bipush 19, 2), (449, .iload 10, 2), (451, .iconst 1, 1), (452, .iload 11, 2), (454, .bipush 6, 2), (456, .iconst 3, 1), (457, .iload 9, 2), (459, .imul, 1),
  (460, .iadd, 1), (461, .invokestatic 128, 3), (464, .ifCond .eq 53, 3), (467, .aload_n 0, 1), (468, .bipush 8, 2), (470, .iconst 3, 1), (471, .iload 9, 2), (473, .imul, 1),
  (474, .iadd, 1), (475, .iconst 5, 1), (476, .bipush 21, 2), (478, .iload 10, 2), (480, .iconst 1, 1), (481, .iadd, 1), (482, .iload 11, 2), (484, .iload 11, 2),
  (486, .ifCond .ne 7, 3), (489, .iconst (-1), 1), (490, .goto 10, 3), (493, .aload_n 3, 1), (494, .bipush 8, 2), (496, .iload 9, 2), (498, .imul, 1), (499, .iaload, 1),
  (500, .bipush 6, 2), (502, .iconst 3, 1), (503, .iload 9, 2), (505, .imul, 1), (506, .iadd, 1), (507, .invokestatic 128, 3), (510, .ifCond .eq 7, 3), (513, .iconst 1, 1),
  (514, .goto 4, 3), (517, .iconst 0, 1), (518, .istore 7, 2), (520, .iinc 9 1, 3), (523, .goto (-142), 3), (526, .aload 4, 2), (528, .iconst 2, 1), (529, .iaload, 1),
  (530, .iload 6, 2), (532, .if_icmp .ge 17, 3), (535, .aload 4, 2), (537, .iconst 2, 1), (538, .iaload, 1), (539, .aload_n 2, 1), (540, .aload_n 3, 1), (541, .aload 4, 2),
  (543, .invokestatic 112, 3), (546, .goto 6, 3), (549, .sipush 999, 3), (552, .istore 9, 2), (554, .aload 4, 2), (556, .iconst 2, 1), (557, .iaload, 1), (558, .iload 6, 2),
  (560, .if_icmp .ge 19, 3), (563, .aload 4, 2), (565, .iconst 2, 1), (566, .iaload, 1), (567, .iload 9, 2), (569, .iadd, 1), (570, .iload 6, 2), (572, .if_icmp .ge 7, 3),
  (575, .iconst 1, 1), (576, .goto 4, 3), (579, .iconst 0, 1), (580, .istore 10, 2), (582, .iload 7, 2), (584, .ifCond .eq 52, 3), (587, .aload_n 0, 1), (588, .iload 8, 2),
  (590, .iconst 2, 1), (591, .iadd, 1), (592, .invokevirtual 119, 3), (595, .iload 10, 2), (597, .ifCond .eq 10, 3), (600, .iconst 1, 1), (601, .iload 9, 2), (603, .iadd, 1),
  (604, .goto 4, 3), (607, .iconst (-1), 1), (608, .if_icmp .ne 28, 3), (611, .aload_n 0, 1), (612, .iload 8, 2), (614, .iconst 2, 1), (615, .iadd, 1), (616, .invokevirtual 120, 3),
  (619, .iload 10, 2), (621, .ifCond .eq 7, 3), (624, .iconst 1, 1), (625, .goto 4, 3), (628, .iconst 0, 1), (629, .if_icmp .ne 7, 3), (632, .iconst 1, 1), (633, .goto 4, 3),
  (636, .iconst 0, 1), (637, .istore 7, 2), (639, .iload_n 1, 1), (640, .sipush 256, 3), (643, .invokestatic 90, 3), (646, .istore 11, 2), (648, .iload_n 1, 1), (649, .bipush 8, 2),
  (651, .ishr, 1), (652, .sipush 256, 3), (655, .invokestatic 90, 3), (658, .istore 12, 2), (660, .iload_n 1, 1), (661, .iconst 4, 1), (662, .ishr, 1), (663, .bipush 60, 2),
  (665, .invokestatic 90, 3), (668, .istore 13, 2), (670, .iconst (-1), 1), (671, .istore 14, 2), (673, .iload 6, 2), (675, .iconst 1, 1), (676, .isub, 1), (677, .istore 15, 2),
  (679, .iload 15, 2), (681, .iload 13, 2), (683, .if_icmp .lt 38, 3), (686, .iload 15, 2), (688, .aload_n 2, 1), (689, .aload_n 3, 1), (690, .aload 4, 2), (692, .invokestatic 112, 3),
  (695, .iload 12, 2), (697, .iand, 1), (698, .iload 11, 2), (700, .iload 12, 2), (702, .iand, 1), (703, .if_icmp .ne 8, 3), (706, .iload 15, 2), (708, .goto 5, 3),
  (711, .iload 14, 2), (713, .istore 14, 2), (715, .iinc 15 (-1), 3), (718, .goto (-39), 3), (721, .iload 7, 2), (723, .ifCond .eq 40, 3), (726, .aload_n 0, 1), (727, .iload 11, 2),
  (729, .iload 12, 2), (731, .iload 13, 2), (733, .invokevirtual 121, 3), (736, .iload 14, 2), (738, .if_icmp .ne 25, 3), (741, .aload_n 0, 1), (742, .bipush 17, 2), (744, .aload 4, 2),
  (746, .iconst 2, 1), (747, .iaload, 1), (748, .iconst 0, 1), (749, .invokevirtual 122, 3), (752, .iload 8, 2), (754, .iconst 2, 1), (755, .iadd, 1), (756, .if_icmp .ne 7, 3),
  (759, .iconst 1, 1), (760, .goto 4, 3), (763, .iconst 0, 1), (764, .ireturn, 1)]
def xm_129 : xrM := ((99, 5, ⟨"HexTemplatesLaw", "same", "(LHexTemplates;I[I[I[I)Z"⟩), (method_10_code, 16, (some FieldType.boolean)), [], xc_129)
-- 130: HexTemplates.nextTemplate()LHexTemplates$Template;
def xc_130 : xrC := [(0, .aload_n 0, 1), (1, .getfield 522, 3), (4, .iconst 4, 1), (5, .if_icmp .lt 5, 3), (8, .aconst_null, 1), (9, .areturn, 1), (10, .aload_n 0, 1), (11, .getfield 515, 3),
  (14, .aload_n 0, 1), (15, .getfield 522, 3), (18, .aaload, 1), (19, .ifnonnull 19, 3), (22, .aload_n 0, 1), (23, .getfield 515, 3), (26, .aload_n 0, 1), (27, .getfield 522, 3),
  (30, .new 7, 3), (33, .dup, 1), (34, .invokespecial 95, 3), (37, .aastore, 1), (38, .aload_n 0, 1), (39, .getfield 515, 3), (42, .aload_n 0, 1), (43, .getfield 522, 3),
  (46, .aaload, 1), (47, .areturn, 1)]
def xm_130 : xrM := ((8, 0, ⟨"HexTemplates", "nextTemplate", "()LHexTemplates$Template;"⟩), (prog_1_method_27_code, 1, (some (FieldType.object "HexTemplates$Template"))), [], xc_130)
-- 131: HexTemplates.keepFile()I
def xc_131 : xrC := [(0, .aload_n 0, 1), (1, .bipush (-3), 2), (3, .putfield 523, 3), (6, .aload_n 0, 1), (7, .getfield 516, 3), (10, .aload_n 0, 1), (11, .getfield 513, 3), (14, .invokevirtual 93, 3),
  (17, .ireturn, 1)]
def xm_131 : xrM := ((8, 0, ⟨"HexTemplates", "keepFile", "()I"⟩), (prog_1_method_28_code, 1, (some FieldType.int)), [], xc_131)
-- 132: HexTemplates.chosenTemplate()LHexTemplates$Template;
def xc_132 : xrC := [(0, .aload_n 0, 1), (1, .getfield 523, 3), (4, .ifCond .lt 26, 3), (7, .aload_n 0, 1), (8, .getfield 523, 3), (11, .aload_n 0, 1), (12, .getfield 522, 3), (15, .if_icmp .ge 15, 3),
  (18, .aload_n 0, 1), (19, .getfield 515, 3), (22, .aload_n 0, 1), (23, .getfield 523, 3), (26, .aaload, 1), (27, .goto 4, 3), (30, .aconst_null, 1), (31, .areturn, 1)]
def xm_132 : xrM := ((8, 0, ⟨"HexTemplates", "chosenTemplate", "()LHexTemplates$Template;"⟩), (prog_1_method_29_code, 1, (some (FieldType.object "HexTemplates$Template"))), [], xc_132)
-- 133: HexTemplates.readFile()V
def xc_133 : xrC := [(0, .aload_n 0, 1), (1, .getfield 523, 3), (4, .bipush (-3), 2), (6, .if_icmp .eq 4, 3), (9, .return_, 1), (10, .aload_n 0, 1), (11, .iconst (-1), 1), (12, .putfield 523, 3),
  (15, .iconst (-1), 1), (16, .istore_n 1, 1), (17, .iconst 0, 1), (18, .istore_n 2, 1), (19, .iload_n 2, 1), (20, .aload_n 0, 1), (21, .getfield 522, 3), (24, .if_icmp .ge 55, 3),
  (27, .aload_n 0, 1), (28, .getfield 515, 3), (31, .iload_n 2, 1), (32, .aaload, 1), (33, .astore_n 3, 1), (34, .aload_n 3, 1), (35, .ifnull 38, 3), (38, .aload_n 3, 1),
  (39, .getfield 448, 3), (42, .iload_n 1, 1), (43, .if_icmp .le 30, 3), (46, .aload_n 0, 1), (47, .getfield 517, 3), (50, .aload_n 3, 1), (51, .aload_n 0, 1), (52, .getfield 513, 3),
  (55, .iconst 0, 1), (56, .iconst 0, 1), (57, .invokevirtual 56, 3), (60, .ifCond .eq 13, 3), (63, .aload_n 0, 1), (64, .iload_n 2, 1), (65, .putfield 523, 3), (68, .aload_n 3, 1),
  (69, .getfield 448, 3), (72, .istore_n 1, 1), (73, .iinc 2 1, 3), (76, .goto (-57), 3), (79, .aload_n 0, 1), (80, .getfield 517, 3), (83, .aload_n 0, 1), (84, .invokevirtual 132, 3),
  (87, .aload_n 0, 1), (88, .getfield 513, 3), (91, .iconst 0, 1), (92, .iconst 0, 1), (93, .invokevirtual 56, 3), (96, .pop, 1), (97, .return_, 1)]
def xm_133 : xrM := ((8, 0, ⟨"HexTemplates", "readFile", "()V"⟩), (prog_1_method_30_code, 4, (none)), [], xc_133)
-- 134: HexTemplatesLaw.moved(IIZ[I)I
def xc_134 : xrC := [(0, .iload_n 2, 1), (1, .ifCond .eq 24, 3), (4, .aload_n 3, 1), (5, .iconst 2, 1), (6, .iaload, 1), (7, .iload_n 0, 1), (8, .if_icmp .lt 11, 3), (11, .aload_n 3, 1),
  (12, .iconst 2, 1), (13, .iaload, 1), (14, .iload_n 1, 1), (15, .iadd, 1), (16, .goto 40, 3), (19, .aload_n 3, 1), (20, .iconst 2, 1), (21, .iaload, 1),
  (22, .goto 34, 3), (25, .aload_n 3, 1), (26, .iconst 2, 1), (27, .iaload, 1), (28, .iload_n 0, 1), (29, .iload_n 1, 1), (30, .iadd, 1), (31, .if_icmp .lt 11, 3),
  (34, .aload_n 3, 1), (35, .iconst 2, 1), (36, .iaload, 1), (37, .iload_n 1, 1), (38, .isub, 1), (39, .goto 17, 3), (42, .aload_n 3, 1), (43, .iconst 2, 1),
  (44, .iaload, 1), (45, .iload_n 0, 1), (46, .if_icmp .le 7, 3), (49, .iload_n 0, 1), (50, .goto 6, 3), (53, .aload_n 3, 1), (54, .iconst 2, 1), (55, .iaload, 1),
  (56, .ireturn, 1)]
def xm_134 : xrM := ((99, 4, ⟨"HexTemplatesLaw", "moved", "(IIZ[I)I"⟩), (method_11_code, 4, (some FieldType.int)), [], xc_134)
-- 135: HexTemplates.checkNode(I)V
def xc_135 : xrC := [(0, .aload_n 0, 1), (1, .invokevirtual 133, 3), (4, .aload_n 0, 1), (5, .getfield 517, 3), (8, .getfield 320, 3), (11, .iload_n 1, 1), (12, .invokevirtual 27, 3), (15, .ifCond .ne 14, 3),
  (18, .multianewarray 2 1, 3), (29, .return_, 1)]
def xm_135 : xrM := ((8, 1, ⟨"HexTemplates", "checkNode", "(I)V"⟩), (prog_1_method_32_code, 2, (none)), [], xc_135)
-- 136: HexTemplates.checkReference(I)V
def xc_136 : xrC := [(0, .aload_n 0, 1), (1, .getfield 517, 3), (4, .getfield 320, 3), (7, .getfield 192, 3), (10, .iload_n 1, 1), (11, .iaload, 1), (12, .iconst 3, 1), (13, .if_icmp .eq 14, 3),
  (16, .multianewarray 1 1, 3), (27, .return_, 1)]
def xm_136 : xrM := ((8, 1, ⟨"HexTemplates", "checkReference", "(I)V"⟩), (prog_1_method_33_code, 2, (none)), [], xc_136)
-- 137: HexTemplates.checkPlace(II)V
def xc_137 : xrC := [(0, .iload_n 1, 1), (1, .ifCond .lt 8, 3), (4, .iload_n 1, 1), (5, .iload_n 2, 1), (6, .if_icmp .le 14, 3), (9, .multianewarray 1 1, 3), (20, .return_, 1)]
def xm_137 : xrM := ((8, 2, ⟨"HexTemplates", "checkPlace", "(II)V"⟩), (prog_1_method_34_code, 3, (none)), [], xc_137)
-- 138: HexTemplates.checkEdit(Z)V
def xc_138 : xrC := [(0, .iload_n 1, 1), (1, .ifCond .ne 14, 3), (4, .multianewarray 1 1, 3), (15, .return_, 1)]
def xm_138 : xrM := ((8, 1, ⟨"HexTemplates", "checkEdit", "(Z)V"⟩), (prog_1_method_35_code, 2, (none)), [], xc_138)
-- 139: HexTemplates.isFree(I)Z
def xc_139 : xrC := [(0, .aload_n 0, 1), (1, .getfield 517, 3), (4, .getfield 320, 3), (7, .iload_n 1, 1), (8, .invokevirtual 30, 3), (11, .ifCond .eq 18, 3), (14, .aload_n 0, 1), (15, .getfield 517, 3),
  (18, .iload_n 1, 1), (19, .invokevirtual 76, 3), (22, .ifCond .ne 7, 3), (25, .iconst 1, 1), (26, .goto 4, 3), (29, .iconst 0, 1), (30, .ireturn, 1)]
def xm_139 : xrM := ((8, 1, ⟨"HexTemplates", "isFree", "(I)Z"⟩), (prog_1_method_36_code, 2, (some FieldType.boolean)), [], xc_139)
-- 140: HexTemplates.finishEdit()I
def xc_140 : xrC := [(0, .aload_n 0, 1), (1, .invokevirtual 132, 3), (4, .astore_n 1, 1), (5, .aload_n 1, 1), (6, .ifnull 57, 3), (9, .aload_n 0, 1), (10, .getfield 516, 3), (13, .invokevirtual 88, 3),
  (16, .ifCond .ne 47, 3), (19, .aload_n 0, 1), (20, .getfield 519, 3), (23, .aload_n 0, 1), (24, .getfield 518, 3), (27, .aload_n 1, 1), (28, .invokevirtual 15, 3), (31, .ifCond .eq 32, 3),
  (34, .aload_n 0, 1), (35, .getfield 519, 3), (38, .aload_n 0, 1), (39, .getfield 518, 3), (42, .invokevirtual 17, 3), (45, .ifCond .eq 18, 3), (48, .aload_n 0, 1), (49, .getfield 519, 3),
  (52, .aload_n 0, 1), (53, .getfield 518, 3), (56, .aload_n 1, 1), (57, .invokevirtual 20, 3), (60, .ifCond .ne 14, 3), (63, .multianewarray 1 1, 3), (74, .aload_n 0, 1), (75, .getfield 513, 3),
  (78, .aload_n 0, 1), (79, .getfield 519, 3), (82, .getfield 64, 3), (85, .invokevirtual 5, 3), (88, .aload_n 0, 1), (89, .invokevirtual 131, 3), (92, .ireturn, 1)]
def xm_140 : xrM := ((8, 0, ⟨"HexTemplates", "finishEdit", "()I"⟩), (prog_1_method_37_code, 2, (some FieldType.int)), [], xc_140)
-- 141: HexTemplates.forgetVisits()V
def xc_141 : xrC := [(0, .iconst 0, 1), (1, .istore_n 1, 1), (2, .iload_n 1, 1), (3, .aload_n 0, 1), (4, .getfield 521, 3), (7, .arraylength, 1), (8, .if_icmp .ge 16, 3), (11, .aload_n 0, 1),
  (12, .getfield 521, 3), (15, .iload_n 1, 1), (16, .iconst 0, 1), (17, .bastore, 1), (18, .iinc 1 1, 3), (21, .goto (-19), 3), (24, .return_, 1)]
def xm_141 : xrM := ((8, 0, ⟨"HexTemplates", "forgetVisits", "()V"⟩), (prog_1_method_38_code, 2, (none)), [], xc_141)
-- 142: HexTemplates.isVisited(II)Z
def xc_142 : xrC := [(0, .iload_n 1, 1), (1, .sipush 256, 3), (4, .imul, 1), (5, .iload_n 2, 1), (6, .iadd, 1), (7, .istore_n 3, 1), (8, .iload_n 3, 1), (9, .ifCond .lt 12, 3),
  (12, .iload_n 3, 1), (13, .aload_n 0, 1), (14, .getfield 521, 3), (17, .arraylength, 1), (18, .if_icmp .lt 5, 3), (21, .iconst 0, 1), (22, .ireturn, 1), (23, .aload_n 0, 1),
  (24, .getfield 521, 3), (27, .iload_n 3, 1), (28, .baload, 1), (29, .istore 4, 2), (31, .aload_n 0, 1), (32, .getfield 521, 3), (35, .iload_n 3, 1), (36, .iconst 1, 1),
  (37, .bastore, 1), (38, .iload 4, 2), (40, .ireturn, 1)]
def xm_142 : xrM := ((8, 2, ⟨"HexTemplates", "isVisited", "(II)Z"⟩), (prog_1_method_39_code, 5, (some FieldType.boolean)), [], xc_142)
-- 143: HexTemplatesLaw.strings(LHexTemplates;ZI[I[I[I)Z
def xc_143 : xrC := [(0, .iload_n 2, 1), (1, .aload 5, 2), (3, .iconst 1, 1), (4, .iaload, 1), (5, .iconst 1, 1), (6, .iadd, 1), (7, .invokestatic 90, 3), (10, .iconst 1, 1),
  (11, .isub, 1), (12, .istore 6, 2), (14, .iload 6, 2), (16, .ifCond .ge 10, 3), (19, .aload 5, 2), (21, .iconst 0, 1), (22, .iaload, 1), (23, .goto 11, 3),
  (26, .aload 4, 2), (28, .bipush 56, 2), (30, .iload 6, 2), (32, .iadd, 1), (33, .iaload, 1), (34, .istore 7, 2), (36, .iload 6, 2), (38, .ifCond .ge 7, 3),
  (41, .iconst 3, 1), (42, .goto 14, 3), (45, .iload 6, 2), (47, .aload 4, 2), (49, .aload 5, 2), (51, .invokestatic 111, 3), (54, .iconst 1, 1), (55, .iadd, 1),
  (56, .istore 8, 2), (58, .iload 6, 2), (60, .ifCond .ge 7, 3), (63, .iconst 4, 1), (64, .goto 10, 3), (67, .bipush 8, 2), (69, .iconst 3, 1), (70, .iload 6, 2),
  (72, .imul, 1), (73, .iadd, 1), (74, .istore 9, 2), (76, .iload_n 2, 1), (77, .iconst 4, 1), (78, .ishr, 1), (79, .iload 7, 2), (81, .iconst 2, 1),
  (82, .iadd, 1), (83, .invokestatic 90, 3), (86, .iload_n 2, 1), (87, .bipush 9, 2), (89, .ishr, 1), (90, .bipush 9, 2), (92, .invokestatic 90, 3), (95, .ifCond .ne 7, 3),
  (98, .iconst 1, 1), (99, .goto 4, 3), (102, .iconst 0, 1), (103, .isub, 1), (104, .istore 10, 2), (106, .iload_n 2, 1), (107, .bipush 6, 2), (109, .ishr, 1),
  (110, .sipush 256, 3), (113, .invokestatic 90, 3), (116, .istore 11, 2), (118, .iload 10, 2), (120, .ifCond .lt 28, 3), (123, .iload_n 1, 1), (124, .ifCond .eq 13, 3), (127, .iload 10, 2),
  (129, .iload 7, 2), (131, .if_icmp .gt 17, 3), (134, .goto 10, 3), (137, .iload 10, 2), (139, .iload 7, 2), (141, .if_icmp .ge 7, 3), (144, .iconst 1, 1), (145, .goto 4, 3),
  (148, .iconst 0, 1), (149, .istore 12, 2), (151, .iload_n 1, 1), (152, .ifCond .eq 22, 3), (155, .iload 7, 2), (157, .iload 6, 2), (159, .ifCond .ge 8, 3), (162, .bipush 20, 2),
  (164, .goto 5, 3), (167, .bipush 7, 2), (169, .if_icmp .ne 5, 3), (172, .iconst 1, 1), (173, .ireturn, 1), (174, .iload 8, 2), (176, .iload 10, 2), (178, .iadd, 1),
  (179, .iconst 1, 1), (180, .iload_n 1, 1), (181, .aload 5, 2), (183, .invokestatic 134, 3), (186, .istore 13, 2), (188, .iload 12, 2), (190, .ifCond .eq 24, 3), (193, .iload 13, 2),
  (195, .sipush 256, 3), (198, .if_icmp .ge 16, 3), (201, .aload 5, 2), (203, .iconst 3, 1), (204, .iaload, 1), (205, .bipush 29, 2), (207, .if_icmp .ge 7, 3), (210, .iconst 1, 1),
  (211, .goto 4, 3), (214, .iconst 0, 1), (215, .istore 12, 2), (217, .iload 12, 2), (219, .ifCond .eq 226, 3), (222, .bipush 8, 2), (224, .iload 6, 2), (226, .imul, 1),
  (227, .istore 14, 2), (229, .iload 7, 2), (231, .istore 15, 2), (233, .iload_n 1, 1), (234, .ifCond .eq 52, 3), (237, .iload 15, 2), (239, .iload 10, 2), (241, .if_icmp .le 45, 3),
  (244, .iload 6, 2), (246, .ifCond .ge 16, 3), (249, .aload_n 3, 1), (250, .iload 15, 2), (252, .aload_n 3, 1), (253, .iload 15, 2), (255, .iconst 1, 1), (256, .isub, 1),
  (257, .iaload, 1), (258, .iastore, 1), (259, .goto 21, 3), (262, .aload 4, 2), (264, .iload 14, 2), (266, .iload 15, 2), (268, .iadd, 1), (269, .aload 4, 2),
  (271, .iload 14, 2), (273, .iload 15, 2), (275, .iadd, 1), (276, .iconst 1, 1), (277, .isub, 1), (278, .iaload, 1), (279, .iastore, 1), (280, .iinc 15 (-1), 3),
  (283, .goto (-50), 3), (286, .iload 10, 2), (288, .istore 15, 2), (290, .iload_n 1, 1), (291, .ifCond .ne 54, 3), (294, .iload 15, 2), (296, .iconst 1, 1), (297, .iadd, 1),
  (298, .iload 7, 2), (300, .if_icmp .ge 45, 3), (303, .iload 6, 2), (305, .ifCond .ge 16, 3), (308, .aload_n 3, 1), (309, .iload 15, 2), (311, .aload_n 3, 1), (312, .iload 15, 2),
  (314, .iconst 1, 1), (315, .iadd, 1), (316, .iaload, 1), (317, .iastore, 1), (318, .goto 21, 3), (321, .aload 4, 2), (323, .iload 14, 2), (325, .iload 15, 2),
  (327, .iadd, 1), (328, .aload 4, 2), (330, .iload 14, 2), (332, .iload 15, 2), (334, .iadd, 1), (335, .iconst 1, 1), (336, .iadd, 1), (337, .iaload, 1),
  (338, .iastore, 1), (339, .iinc 15 1, 3), (342, .goto (-52), 3), (345, .iload 6, 2), (347, .ifCond .ge 39, 3), (350, .aload_n 3, 1), (351, .iload 10, 2), (353, .iload_n 1, 1),
  (354, .ifCond .eq 8, 3), (357, .iload 11, 2), (359, .goto 7, 3), (362, .aload_n 3, 1), (363, .iload 10, 2), (365, .iaload, 1), (366, .iastore, 1), (367, .aload 5, 2),
  (369, .iconst 0, 1), (370, .dup2, 1), (371, .iaload, 1), (372, .iload_n 1, 1), (373, .ifCond .eq 7, 3), (376, .iconst 1, 1), (377, .goto 4, 3), (380, .iconst (-1), 1),
  (381, .iadd, 1), (382, .iastore, 1), (383, .goto 48, 3), (386, .aload 4, 2), (388, .iload 14, 2), (390, .iload 10, 2), (392, .iadd, 1), (393, .iload_n 1, 1),
  (394, .ifCond .eq 8, 3), (397, .iload 11, 2), (399, .goto 11, 3), (402, .aload 4, 2), (404, .iload 14, 2), (406, .iload 10, 2), (408, .iadd, 1), (409, .iaload, 1),
  (410, .iastore, 1), (411, .aload 4, 2), (413, .bipush 56, 2), (415, .iload 6, 2), (417, .iadd, 1), (418, .dup2, 1), (419, .iaload, 1), (420, .iload_n 1, 1),
  (421, .ifCond .eq 7, 3), (424, .iconst 1, 1), (425, .goto 4, 3), (428, .iconst (-1), 1), (429, .iadd, 1), (430, .iastore, 1), (431, .aload 5, 2), (433, .iconst 2, 1),
  (434, .iload 13, 2), (436, .iastore, 1), (437, .aload 5, 2), (439, .iconst 3, 1), (440, .dup2, 1), (441, .iaload, 1), (442, .iconst 1, 1), (443, .iadd, 1),
  (444, .iastore, 1), (445, .aload_n 0, 1), (446, .iload_n 1, 1), (447, .ifCond .eq 7, 3), (450, .iconst 0, 1), (451, .goto 4, 3), (454, .iconst 1, 1), (455, .iload 9, 2),
  (457, .iload 10, 2), (459, .iload 11, 2), (461, .invokestatic 91, 3), (464, .iload 12, 2), (466, .ifCond .eq 10, 3), (469, .aload 5, 2), (471, .iconst 3, 1), (472, .iaload, 1),
  (473, .goto 6, 3), (476, .sipush (-1003), 3), (479, .if_icmp .ne 7, 3), (482, .iconst 1, 1), (483, .goto 4, 3), (486, .iconst 0, 1), (487, .ireturn, 1)]
def xm_143 : xrM := ((99, 6, ⟨"HexTemplatesLaw", "strings", "(LHexTemplates;ZI[I[I[I)Z"⟩), (method_12_code, 16, (some FieldType.boolean)), [], xc_143)
-- 144: HexTemplatesLaw.elements(LHexTemplates;ZI[I[I)Z
def xc_144 : xrC := [(0, .iload_n 2, 1), (1, .aload 4, 2), (3, .iconst 1, 1), (4, .iaload, 1), (5, .iconst 1, 1), (6, .iadd, 1), (7, .invokestatic 90, 3), (10, .istore 5, 2),
  (12, .iload 5, 2), (14, .aload 4, 2), (16, .iconst 1, 1), (17, .iaload, 1), (18, .if_icmp .ge 16, 3), (21, .aload 4, 2), (23, .iconst 3, 1), (24, .iaload, 1),
  (25, .bipush 29, 2), (27, .if_icmp .ge 7, 3), (30, .iconst 1, 1), (31, .goto 4, 3), (34, .iconst 0, 1), (35, .istore 6, 2), (37, .iload_n 1, 1), (38, .ifCond .eq 14, 3),
  (41, .aload 4, 2), (43, .iconst 1, 1), (44, .iaload, 1), (45, .bipush 7, 2), (47, .if_icmp .ne 5, 3), (50, .iconst 1, 1), (51, .ireturn, 1), (52, .iload 5, 2),
  (54, .aload_n 3, 1), (55, .aload 4, 2), (57, .invokestatic 111, 3), (60, .istore 7, 2), (62, .iload 5, 2), (64, .aload 4, 2), (66, .iconst 1, 1), (67, .iaload, 1),
  (68, .if_icmp .ge 15, 3), (71, .iconst 1, 1), (72, .aload_n 3, 1), (73, .bipush 56, 2), (75, .iload 5, 2), (77, .iadd, 1), (78, .iaload, 1), (79, .iadd, 1),
  (80, .goto 4, 3), (83, .iconst 0, 1), (84, .istore 8, 2), (86, .iload_n 1, 1), (87, .ifCond .eq 11, 3), (90, .iload 7, 2), (92, .iload 8, 2), (94, .iadd, 1),
  (95, .goto 5, 3), (98, .iload 7, 2), (100, .iload 8, 2), (102, .iload_n 1, 1), (103, .aload 4, 2), (105, .invokestatic 134, 3), (108, .istore 9, 2), (110, .iload 6, 2),
  (112, .ifCond .eq 15, 3), (115, .iload 9, 2), (117, .sipush 256, 3), (120, .if_icmp .ge 7, 3), (123, .iconst 1, 1), (124, .goto 4, 3), (127, .iconst 0, 1), (128, .istore 6, 2),
  (130, .iload 6, 2), (132, .ifCond .eq 101, 3), (135, .aload 4, 2), (137, .iconst 1, 1), (138, .iaload, 1), (139, .istore 10, 2), (141, .iload_n 1, 1), (142, .ifCond .eq 26, 3),
  (145, .iload 10, 2), (147, .iload 5, 2), (149, .if_icmp .le 19, 3), (152, .iload 10, 2), (154, .iconst 1, 1), (155, .isub, 1), (156, .iload 10, 2), (158, .aload_n 3, 1),
  (159, .invokestatic 145, 3), (162, .iinc 10 (-1), 3), (165, .goto (-24), 3), (168, .iload 5, 2), (170, .istore 10, 2), (172, .iload_n 1, 1), (173, .ifCond .ne 30, 3), (176, .iload 10, 2),
  (178, .iconst 1, 1), (179, .iadd, 1), (180, .aload 4, 2), (182, .iconst 1, 1), (183, .iaload, 1), (184, .if_icmp .ge 19, 3), (187, .iload 10, 2), (189, .iconst 1, 1),
  (190, .iadd, 1), (191, .iload 10, 2), (193, .aload_n 3, 1), (194, .invokestatic 145, 3), (197, .iinc 10 1, 3), (200, .goto (-28), 3), (203, .aload 4, 2), (205, .iconst 1, 1),
  (206, .dup2, 1), (207, .iaload, 1), (208, .iload_n 1, 1), (209, .ifCond .eq 7, 3), (212, .iconst 1, 1), (213, .goto 4, 3), (216, .iconst (-1), 1), (217, .iadd, 1),
  (218, .iastore, 1), (219, .aload 4, 2), (221, .iconst 2, 1), (222, .iload 9, 2), (224, .iastore, 1), (225, .aload 4, 2), (227, .iconst 3, 1), (228, .dup2, 1),
  (229, .iaload, 1), (230, .iconst 1, 1), (231, .iadd, 1), (232, .iastore, 1), (233, .aload_n 0, 1), (234, .iconst 2, 1), (235, .iconst 5, 1), (236, .iload 5, 2),
  (238, .iload_n 1, 1), (239, .ifCond .eq 7, 3), (242, .iconst 1, 1), (243, .goto 4, 3), (246, .iconst 0, 1), (247, .invokestatic 91, 3), (250, .iload 6, 2), (252, .ifCond .eq 10, 3),
  (255, .aload 4, 2), (257, .iconst 3, 1), (258, .iaload, 1), (259, .goto 6, 3), (262, .sipush (-1003), 3), (265, .if_icmp .ne 7, 3), (268, .iconst 1, 1), (269, .goto 4, 3),
  (272, .iconst 0, 1), (273, .ireturn, 1)]
def xm_144 : xrM := ((99, 5, ⟨"HexTemplatesLaw", "elements", "(LHexTemplates;ZI[I[I)Z"⟩), (method_13_code, 11, (some FieldType.boolean)), [], xc_144)
-- 145: HexTemplatesLaw.copies(II[I)V
def xc_145 : xrC := [(0, .iconst 0, 1), (1, .istore_n 3, 1), (2, .iload_n 3, 1), (3, .bipush 8, 2), (5, .if_icmp .ge 25, 3), (8, .aload_n 2, 1), (9, .bipush 8, 2), (11, .iload_n 1, 1),
  (12, .imul, 1), (13, .iload_n 3, 1), (14, .iadd, 1), (15, .aload_n 2, 1), (16, .bipush 8, 2), (18, .iload_n 0, 1), (19, .imul, 1), (20, .iload_n 3, 1),
  (21, .iadd, 1), (22, .iaload, 1), (23, .iastore, 1), (24, .iinc 3 1, 3), (27, .goto (-25), 3), (30, .aload_n 2, 1), (31, .bipush 56, 2), (33, .iload_n 1, 1),
  (34, .iadd, 1), (35, .aload_n 2, 1), (36, .bipush 56, 2), (38, .iload_n 0, 1), (39, .iadd, 1), (40, .iaload, 1), (41, .iastore, 1), (42, .return_, 1)]
def xm_145 : xrM := ((99, 3, ⟨"HexTemplatesLaw", "copies", "(II[I)V"⟩), (method_14_code, 4, (none)), [], xc_145)
end
section
/-! all methods -/
def xt_ms : List xrM := [xm_0, xm_1, xm_2, xm_3, xm_4, xm_5, xm_6, xm_7, xm_8, xm_9, xm_10, xm_11, xm_12, xm_13, xm_14, xm_15, xm_16, xm_17, xm_18, xm_19, xm_20, xm_21, xm_22, xm_23, xm_24, xm_25, xm_26, xm_27, xm_28, xm_29, xm_30, xm_31, xm_32, xm_33, xm_34, xm_35, xm_36, xm_37, xm_38, xm_39, xm_40, xm_41, xm_42, xm_43, xm_44, xm_45, xm_46, xm_47, xm_48, xm_49, xm_50, xm_51, xm_52, xm_53, xm_54, xm_55, xm_56, xm_57, xm_58, xm_59, xm_60, xm_61, xm_62, xm_63, xm_64, xm_65, xm_66, xm_67, xm_68, xm_69, xm_70, xm_71, xm_72, xm_73, xm_74, xm_75, xm_76, xm_77, xm_78, xm_79, xm_80, xm_81, xm_82, xm_83, xm_84, xm_85, xm_86, xm_87, xm_88, xm_89, xm_90, xm_91, xm_92, xm_93, xm_94, xm_95, xm_96, xm_97, xm_98, xm_99, xm_100, xm_101, xm_102, xm_103, xm_104, xm_105, xm_106, xm_107, xm_108, xm_109, xm_110, xm_111, xm_112, xm_113, xm_114, xm_115, xm_116, xm_117, xm_118, xm_119, xm_120, xm_121, xm_122, xm_123, xm_124, xm_125, xm_126, xm_127, xm_128, xm_129, xm_130, xm_131, xm_132, xm_133, xm_134, xm_135, xm_136, xm_137, xm_138, xm_139, xm_140, xm_141, xm_142, xm_143, xm_144, xm_145]
def xt_T (L : Nat) (xs : Nat → Int32) : xrT := (xt_ms, xt_cl, xt_df, L, xs)
def xt_ST : List (String × Nat × String) := [("HexTemplates", 78, "n is out of range"),
  ("HexTemplates", 88, "the tape is full"),
  ("HexTemplates", 102, "there are 30 states, or the file is too long"),
  ("HexTemplates", 108, "rank is out of range"),
  ("HexTemplates", 118, "it is no template, or there are 4"),
  ("HexTemplates", 125, "there is no such place"),
  ("HexTemplates", 148, "there is no such template"),
  ("HexTemplates", 172, "what is out of range"),
  ("HexTemplates", 227, "an argument is out of range"),
  ("HexTemplates", 239, "the field can't be set to that"),
  ("HexTemplates", 251, "value is out of range"),
  ("HexTemplates", 263, "the string would end at that"),
  ("HexTemplates", 322, "there is no such node"),
  ("HexTemplates", 324, "it is no reference"),
  ("HexTemplates", 326, "it is no string, or there is no such place"),
  ("HexTemplates", 328, "the edit is refused"),
  ("HexTemplates", 344, "the edit is refused, or there are 30 states")]
def xt_NC : List (String × String) := [(xr_en 0, xr_en 1), (xr_en 0, xr_en 2), (xr_en 1, xr_en 0), (xr_en 1, xr_en 2), (xr_en 2, xr_en 0), (xr_en 2, xr_en 1)]
def xt_AO : List String := [RX7]
theorem xt_Ks (L : Nat) (xs : Nat → Int32) : xr_Ks (xt_T L xs) xt_GW := by
  intro c C F N h
  have h' : xt_cl[c]? = some (C, F, N) := h
  clear h
  match c, h' with
  | 0, h' =>
    cases h'
    refine ⟨fun w hw => xt_in 23 rfl hw, ⟨tyX0, tyX0_ok, ?_⟩, nmX0, by decide +kernel, rfl, (xt_in 1 rfl (List.mem_of_getElem? (i := 36) rfl)), (xt_in 1 rfl (List.mem_of_getElem? (i := 15) rfl)), (show ∀ v ∈ xt_dX0, v = .null ∨ v = .int 0 ∨ v = .long 0 from by decide +kernel)⟩
    show ∀ j, j < 2 → defaultValue (tyX0 j) = vp_V xt_dX0 j
    decide +kernel
  | 1, h' =>
    cases h'
    refine ⟨fun w hw => xt_in 24 rfl hw, ⟨tyX1, tyX1_ok, ?_⟩, nmX1, by decide +kernel, rfl, (xt_in 4 rfl (List.mem_of_getElem? (i := 13) rfl)), (xt_in 1 rfl (List.mem_of_getElem? (i := 20) rfl)), (show ∀ v ∈ xt_dX1, v = .null ∨ v = .int 0 ∨ v = .long 0 from by decide +kernel)⟩
    show ∀ j, j < 2 → defaultValue (tyX1 j) = vp_V xt_dX1 j
    decide +kernel
  | 2, h' =>
    cases h'
    refine ⟨fun w hw => xt_in 25 rfl hw, ⟨tyX2, tyX2_ok, ?_⟩, nmX2, by decide +kernel, rfl, (xt_in 4 rfl (List.mem_of_getElem? (i := 25) rfl)), (xt_in 1 rfl (List.mem_of_getElem? (i := 21) rfl)), (show ∀ v ∈ xt_dX2, v = .null ∨ v = .int 0 ∨ v = .long 0 from by decide +kernel)⟩
    show ∀ j, j < 3 → defaultValue (tyX2 j) = vp_V xt_dX2 j
    decide +kernel
  | 3, h' =>
    cases h'
    refine ⟨fun w hw => xt_in 26 rfl hw, ⟨tyX3, tyX3_ok, ?_⟩, nmX3, by decide +kernel, rfl, (xt_in 3 rfl (List.mem_of_getElem? (i := 2) rfl)), (xt_in 1 rfl (List.mem_of_getElem? (i := 19) rfl)), (show ∀ v ∈ xt_dX3, v = .null ∨ v = .int 0 ∨ v = .long 0 from by decide +kernel)⟩
    show ∀ j, j < 8 → defaultValue (tyX3 j) = vp_V xt_dX3 j
    decide +kernel
  | 4, h' =>
    cases h'
    refine ⟨fun w hw => xt_in 27 rfl hw, ⟨tyX4, tyX4_ok, ?_⟩, nmX4, by decide +kernel, rfl, (xt_in 2 rfl (List.mem_of_getElem? (i := 11) rfl)), (xt_in 1 rfl (List.mem_of_getElem? (i := 16) rfl)), (show ∀ v ∈ xt_dX4, v = .null ∨ v = .int 0 ∨ v = .long 0 from by decide +kernel)⟩
    show ∀ j, j < 6 → defaultValue (tyX4 j) = vp_V xt_dX4 j
    decide +kernel
  | 5, h' =>
    cases h'
    refine ⟨fun w hw => xt_in 28 rfl hw, ⟨tyX5, tyX5_ok, ?_⟩, nmX5, by decide +kernel, rfl, (xt_in 2 rfl (List.mem_of_getElem? (i := 36) rfl)), (xt_in 1 rfl (List.mem_of_getElem? (i := 18) rfl)), (show ∀ v ∈ xt_dX5, v = .null ∨ v = .int 0 ∨ v = .long 0 from by decide +kernel)⟩
    show ∀ j, j < 11 → defaultValue (tyX5 j) = vp_V xt_dX5 j
    decide +kernel
  | 6, h' =>
    cases h'
    refine ⟨fun w hw => xt_in 29 rfl hw, ⟨tyX6, tyX6_ok, ?_⟩, nmX6, by decide +kernel, rfl, (xt_in 2 rfl (List.mem_of_getElem? (i := 24) rfl)), (xt_in 1 rfl (List.mem_of_getElem? (i := 17) rfl)), (show ∀ v ∈ xt_dX6, v = .null ∨ v = .int 0 ∨ v = .long 0 from by decide +kernel)⟩
    show ∀ j, j < 5 → defaultValue (tyX6 j) = vp_V xt_dX6 j
    decide +kernel
  | 7, h' =>
    cases h'
    refine ⟨fun w hw => xt_in 30 rfl hw, ⟨tyX7, tyX7_ok, ?_⟩, nmX7, by decide +kernel, rfl, (xt_in 6 rfl (List.mem_of_getElem? (i := 10) rfl)), (xt_in 1 rfl (List.mem_of_getElem? (i := 24) rfl)), (show ∀ v ∈ xt_dX7, v = .null ∨ v = .int 0 ∨ v = .long 0 from by decide +kernel)⟩
    show ∀ j, j < 21 → defaultValue (tyX7 j) = vp_V xt_dX7 j
    decide +kernel
  | 8, h' =>
    cases h'
    refine ⟨fun w hw => xt_in 31 rfl hw, ⟨tyX8, tyX8_ok, ?_⟩, nmX8, by decide +kernel, rfl, (xt_in 1 rfl (List.mem_of_getElem? (i := 28) rfl)), (xt_in 1 rfl (List.mem_of_getElem? (i := 14) rfl)), (show ∀ v ∈ xt_dX8, v = .null ∨ v = .int 0 ∨ v = .long 0 from by decide +kernel)⟩
    show ∀ j, j < 12 → defaultValue (tyX8 j) = vp_V xt_dX8 j
    decide +kernel
  | c + 9, h' => simp [xt_cl] at h'
end
section
/-! the constant pools, as far as they are used, and what the tables have of them -/
def xt_cp0_0 : List (Nat × Nat × Int) := [(3, 11, 0), (9, 12, 0), (11, 9, 1), (14, 1, 512), (14, 7, 512), (18, 1, 513), (18, 7, 513), (21, 12, 4), (23, 9, 35), (24, 1, 514), (24, 7, 514), (28, 12, 7), (28, 13, 7), (30, 1, 515), (30, 7, 515), (34, 12, 6), (36, 9, 87), (37, 1, 516), (37, 7, 516), (41, 12, 5), (43, 9, 55), (44, 1, 517), (44, 7, 517), (48, 1, 518), (48, 7, 518), (51, 12, 1), (53, 9, 9), (54, 1, 519), (54, 7, 519), (58, 12, 2)]
theorem xt_cp0_0_ok (L : Nat) (xs : Nat → Int32) : ∀ q ∈ xt_cp0_0, xr_cpf (xt_T L xs) xt_GW xt_ST xt_AO "HexTemplates" q := by
  unfold xt_cp0_0
  exact List.forall_mem_cons.mpr ⟨⟨(xt_in 1 rfl (List.mem_of_getElem? (i := 32) rfl)), (xt_in 1 rfl (List.mem_of_getElem? (i := 33) rfl)), (xt_in 1 rfl (List.mem_of_getElem? (i := 34) rfl))⟩,
  List.forall_mem_cons.mpr ⟨⟨RX0, TX0, 2, rfl, (xt_in 1 rfl (List.mem_of_getElem? (i := 35) rfl))⟩,
  List.forall_mem_cons.mpr ⟨⟨xm_1, rfl, by decide, Or.inl (xt_in 1 rfl (List.mem_of_getElem? (i := 37) rfl)), rfl, (xt_in 1 rfl (List.mem_of_getElem? (i := 38) rfl)), rfl, rfl⟩,
  List.forall_mem_cons.mpr ⟨⟨RX8, TX8, 12, rfl, by decide, (xt_in 4 rfl (List.mem_of_getElem? (i := 33) rfl))⟩,
  List.forall_mem_cons.mpr ⟨⟨RX8, TX8, 12, (.object "HexTemplates$Bytes"), rfl, by decide, (xt_in 4 rfl (List.mem_of_getElem? (i := 33) rfl)), by decide +kernel, Or.inr (Or.inr ⟨rfl, Or.inl ⟨_, rfl⟩⟩), rfl, fun _ => rfl⟩,
  List.forall_mem_cons.mpr ⟨⟨RX8, TX8, 12, rfl, by decide, (xt_in 4 rfl (List.mem_of_getElem? (i := 34) rfl))⟩,
  List.forall_mem_cons.mpr ⟨⟨RX8, TX8, 12, (.object "HexTemplates$Bytes"), rfl, by decide, (xt_in 4 rfl (List.mem_of_getElem? (i := 34) rfl)), by decide +kernel, Or.inr (Or.inr ⟨rfl, Or.inl ⟨_, rfl⟩⟩), rfl, fun _ => rfl⟩,
  List.forall_mem_cons.mpr ⟨⟨RX4, TX4, 6, rfl, (xt_in 2 rfl (List.mem_of_getElem? (i := 10) rfl))⟩,
  List.forall_mem_cons.mpr ⟨⟨xm_35, rfl, by decide, Or.inr ⟨"HexTemplates", (xt_in 2 rfl (List.mem_of_getElem? (i := 12) rfl))⟩, rfl, (xt_in 2 rfl (List.mem_of_getElem? (i := 13) rfl)), rfl, rfl⟩,
  List.forall_mem_cons.mpr ⟨⟨RX8, TX8, 12, rfl, by decide, (xt_in 4 rfl (List.mem_of_getElem? (i := 35) rfl))⟩,
  List.forall_mem_cons.mpr ⟨⟨RX8, TX8, 12, (.object "HexTemplates$Parser"), rfl, by decide, (xt_in 4 rfl (List.mem_of_getElem? (i := 35) rfl)), by decide +kernel, Or.inr (Or.inr ⟨rfl, Or.inl ⟨_, rfl⟩⟩), rfl, fun _ => rfl⟩,
  List.forall_mem_cons.mpr ⟨⟨RX7, TX7, 21, rfl, (xt_in 2 rfl (List.mem_of_getElem? (i := 22) rfl))⟩,
  List.forall_mem_cons.mpr ⟨⟨(RX7, TX7, 21), rfl, (xt_in 2 rfl (List.mem_of_getElem? (i := 22) rfl)), by decide +kernel⟩,
  List.forall_mem_cons.mpr ⟨⟨RX8, TX8, 12, rfl, by decide, (xt_in 4 rfl (List.mem_of_getElem? (i := 36) rfl))⟩,
  List.forall_mem_cons.mpr ⟨⟨RX8, TX8, 12, (.array (.object "HexTemplates$Template")), rfl, by decide, (xt_in 4 rfl (List.mem_of_getElem? (i := 36) rfl)), by decide +kernel, Or.inr (Or.inr ⟨rfl, Or.inr ⟨_, rfl⟩⟩), rfl, fun _ => rfl⟩,
  List.forall_mem_cons.mpr ⟨⟨RX6, TX6, 5, rfl, (xt_in 2 rfl (List.mem_of_getElem? (i := 23) rfl))⟩,
  List.forall_mem_cons.mpr ⟨⟨xm_87, rfl, by decide, Or.inr ⟨"HexTemplates", (xt_in 2 rfl (List.mem_of_getElem? (i := 25) rfl))⟩, rfl, (xt_in 2 rfl (List.mem_of_getElem? (i := 26) rfl)), rfl, rfl⟩,
  List.forall_mem_cons.mpr ⟨⟨RX8, TX8, 12, rfl, by decide, (xt_in 4 rfl (List.mem_of_getElem? (i := 37) rfl))⟩,
  List.forall_mem_cons.mpr ⟨⟨RX8, TX8, 12, (.object "HexTemplates$States"), rfl, by decide, (xt_in 4 rfl (List.mem_of_getElem? (i := 37) rfl)), by decide +kernel, Or.inr (Or.inr ⟨rfl, Or.inl ⟨_, rfl⟩⟩), rfl, fun _ => rfl⟩,
  List.forall_mem_cons.mpr ⟨⟨RX5, TX5, 11, rfl, (xt_in 2 rfl (List.mem_of_getElem? (i := 35) rfl))⟩,
  List.forall_mem_cons.mpr ⟨⟨xm_55, rfl, by decide, Or.inr ⟨"HexTemplates", (xt_in 2 rfl (List.mem_of_getElem? (i := 37) rfl))⟩, rfl, (xt_in 2 rfl (List.mem_of_getElem? (i := 38) rfl)), rfl, rfl⟩,
  List.forall_mem_cons.mpr ⟨⟨RX8, TX8, 12, rfl, by decide, (xt_in 4 rfl (List.mem_of_getElem? (i := 38) rfl))⟩,
  List.forall_mem_cons.mpr ⟨⟨RX8, TX8, 12, (.object "HexTemplates$Reader"), rfl, by decide, (xt_in 4 rfl (List.mem_of_getElem? (i := 38) rfl)), by decide +kernel, Or.inr (Or.inr ⟨rfl, Or.inl ⟨_, rfl⟩⟩), rfl, fun _ => rfl⟩,
  List.forall_mem_cons.mpr ⟨⟨RX8, TX8, 12, rfl, by decide, (xt_in 4 rfl (List.mem_of_getElem? (i := 39) rfl))⟩,
  List.forall_mem_cons.mpr ⟨⟨RX8, TX8, 12, (.object "HexTemplates$Reader"), rfl, by decide, (xt_in 4 rfl (List.mem_of_getElem? (i := 39) rfl)), by decide +kernel, Or.inr (Or.inr ⟨rfl, Or.inl ⟨_, rfl⟩⟩), rfl, fun _ => rfl⟩,
  List.forall_mem_cons.mpr ⟨⟨RX1, TX1, 2, rfl, (xt_in 4 rfl (List.mem_of_getElem? (i := 12) rfl))⟩,
  List.forall_mem_cons.mpr ⟨⟨xm_9, rfl, by decide, Or.inr ⟨"HexTemplates", (xt_in 4 rfl (List.mem_of_getElem? (i := 14) rfl))⟩, rfl, (xt_in 4 rfl (List.mem_of_getElem? (i := 15) rfl)), rfl, rfl⟩,
  List.forall_mem_cons.mpr ⟨⟨RX8, TX8, 12, rfl, by decide, (xt_in 5 rfl (List.mem_of_getElem? (i := 0) rfl))⟩,
  List.forall_mem_cons.mpr ⟨⟨RX8, TX8, 12, (.object "HexTemplates$Editor"), rfl, by decide, (xt_in 5 rfl (List.mem_of_getElem? (i := 0) rfl)), by decide +kernel, Or.inr (Or.inr ⟨rfl, Or.inl ⟨_, rfl⟩⟩), rfl, fun _ => rfl⟩,
  List.forall_mem_cons.mpr ⟨⟨RX2, TX2, 3, rfl, (xt_in 4 rfl (List.mem_of_getElem? (i := 24) rfl))⟩,
  fun _ h => absurd h List.not_mem_nil⟩⟩⟩⟩⟩⟩⟩⟩⟩⟩⟩⟩⟩⟩⟩⟩⟩⟩⟩⟩⟩⟩⟩⟩⟩⟩⟩⟩⟩⟩
def xt_cp0_1 : List (Nat × Nat × Int) := [(60, 9, 21), (61, 7, 520), (65, 1, 521), (65, 7, 521), (69, 1, 522), (69, 2, 522), (73, 1, 523), (73, 2, 523), (76, 16, 0), (78, 17, 0), (80, 18, 0), (83, 1, 1), (83, 2, 1), (86, 16, 1), (88, 17, 0), (90, 18, 1), (91, 8, 4), (94, 8, 88), (98, 8, 5), (102, 17, 0), (104, 8, 131), (108, 17, 0), (110, 8, 130), (114, 8, 36), (118, 17, 0), (120, 1, 448), (120, 2, 448), (123, 16, 2), (125, 17, 0), (127, 18, 2)]
theorem xt_cp0_1_ok (L : Nat) (xs : Nat → Int32) : ∀ q ∈ xt_cp0_1, xr_cpf (xt_T L xs) xt_GW xt_ST xt_AO "HexTemplates" q := by
  unfold xt_cp0_1
  exact List.forall_mem_cons.mpr ⟨⟨xm_21, rfl, by decide, Or.inr ⟨"HexTemplates", (xt_in 4 rfl (List.mem_of_getElem? (i := 26) rfl))⟩, rfl, (xt_in 4 rfl (List.mem_of_getElem? (i := 27) rfl)), rfl, rfl⟩,
  List.forall_mem_cons.mpr ⟨⟨RX8, TX8, 12, (.object "HexTemplates$Hunk"), rfl, by decide, (xt_in 5 rfl (List.mem_of_getElem? (i := 1) rfl)), by decide +kernel, Or.inr (Or.inr ⟨rfl, Or.inl ⟨_, rfl⟩⟩), rfl, fun _ => rfl⟩,
  List.forall_mem_cons.mpr ⟨⟨RX8, TX8, 12, rfl, by decide, (xt_in 5 rfl (List.mem_of_getElem? (i := 2) rfl))⟩,
  List.forall_mem_cons.mpr ⟨⟨RX8, TX8, 12, (.array .boolean), rfl, by decide, (xt_in 5 rfl (List.mem_of_getElem? (i := 2) rfl)), by decide +kernel, Or.inr (Or.inr ⟨rfl, Or.inr ⟨_, rfl⟩⟩), rfl, fun _ => rfl⟩,
  List.forall_mem_cons.mpr ⟨⟨RX8, TX8, 12, rfl, by decide, (xt_in 5 rfl (List.mem_of_getElem? (i := 3) rfl))⟩,
  List.forall_mem_cons.mpr ⟨⟨RX8, TX8, 12, .int, rfl, by decide, (xt_in 5 rfl (List.mem_of_getElem? (i := 3) rfl)), by decide +kernel, Or.inl ⟨rfl, rfl⟩, rfl, fun h => nomatch h⟩,
  List.forall_mem_cons.mpr ⟨⟨RX8, TX8, 12, rfl, by decide, (xt_in 5 rfl (List.mem_of_getElem? (i := 4) rfl))⟩,
  List.forall_mem_cons.mpr ⟨⟨RX8, TX8, 12, .int, rfl, by decide, (xt_in 5 rfl (List.mem_of_getElem? (i := 4) rfl)), by decide +kernel, Or.inl ⟨rfl, rfl⟩, rfl, fun h => nomatch h⟩,
  List.forall_mem_cons.mpr ⟨⟨(xt_in 5 rfl (List.mem_of_getElem? (i := 9) rfl)), (xt_in 1 rfl (List.mem_of_getElem? (i := 22) rfl)), by decide +kernel, by decide +kernel⟩,
  List.forall_mem_cons.mpr ⟨⟨"n is out of range", by decide +kernel⟩,
  List.forall_mem_cons.mpr ⟨⟨fun v hv => xt_in 20 rfl hv, by decide +kernel⟩,
  List.forall_mem_cons.mpr ⟨⟨RX0, TX0, 2, rfl, by decide, (xt_in 2 rfl (List.mem_of_getElem? (i := 4) rfl))⟩,
  List.forall_mem_cons.mpr ⟨⟨RX0, TX0, 2, .int, rfl, by decide, (xt_in 2 rfl (List.mem_of_getElem? (i := 4) rfl)), by decide +kernel, Or.inl ⟨rfl, rfl⟩, rfl, fun h => nomatch h⟩,
  List.forall_mem_cons.mpr ⟨⟨(xt_in 5 rfl (List.mem_of_getElem? (i := 10) rfl)), (xt_in 1 rfl (List.mem_of_getElem? (i := 23) rfl)), by decide +kernel, by decide +kernel⟩,
  List.forall_mem_cons.mpr ⟨⟨"the tape is full", by decide +kernel⟩,
  List.forall_mem_cons.mpr ⟨⟨fun v hv => xt_in 21 rfl hv, by decide +kernel⟩,
  List.forall_mem_cons.mpr ⟨⟨xm_4, _, rfl, by decide, (xt_in 5 rfl (List.mem_of_getElem? (i := 12) rfl)), (xt_in 5 rfl (List.mem_of_getElem? (i := 13) rfl)), (xt_in 5 rfl (List.mem_of_getElem? (i := 14) rfl)), rfl, rfl, rfl⟩,
  List.forall_mem_cons.mpr ⟨⟨xm_88, _, rfl, by decide, (xt_in 5 rfl (List.mem_of_getElem? (i := 20) rfl)), (xt_in 5 rfl (List.mem_of_getElem? (i := 21) rfl)), (xt_in 5 rfl (List.mem_of_getElem? (i := 22) rfl)), rfl, rfl, rfl⟩,
  List.forall_mem_cons.mpr ⟨⟨xm_5, _, rfl, by decide, (xt_in 5 rfl (List.mem_of_getElem? (i := 24) rfl)), (xt_in 5 rfl (List.mem_of_getElem? (i := 25) rfl)), (xt_in 5 rfl (List.mem_of_getElem? (i := 26) rfl)), rfl, rfl, rfl⟩,
  List.forall_mem_cons.mpr ⟨⟨"there are 30 states, or the file is too long", by decide +kernel⟩,
  List.forall_mem_cons.mpr ⟨⟨xm_131, _, rfl, by decide, (xt_in 5 rfl (List.mem_of_getElem? (i := 31) rfl)), (xt_in 5 rfl (List.mem_of_getElem? (i := 32) rfl)), (xt_in 0 rfl (List.mem_of_getElem? (i := 0) rfl)), rfl, rfl, rfl⟩,
  List.forall_mem_cons.mpr ⟨⟨"rank is out of range", by decide +kernel⟩,
  List.forall_mem_cons.mpr ⟨⟨xm_130, _, rfl, by decide, (xt_in 6 rfl (List.mem_of_getElem? (i := 7) rfl)), (xt_in 6 rfl (List.mem_of_getElem? (i := 8) rfl)), (xt_in 0 rfl (List.mem_of_getElem? (i := 1) rfl)), rfl, rfl, rfl⟩,
  List.forall_mem_cons.mpr ⟨⟨xm_36, _, rfl, by decide, (xt_in 7 rfl (List.mem_of_getElem? (i := 33) rfl)), (xt_in 7 rfl (List.mem_of_getElem? (i := 34) rfl)), (xt_in 7 rfl (List.mem_of_getElem? (i := 35) rfl)), rfl, rfl, rfl⟩,
  List.forall_mem_cons.mpr ⟨⟨"it is no template, or there are 4", by decide +kernel⟩,
  List.forall_mem_cons.mpr ⟨⟨RX7, TX7, 21, rfl, by decide, (xt_in 6 rfl (List.mem_of_getElem? (i := 16) rfl))⟩,
  List.forall_mem_cons.mpr ⟨⟨RX7, TX7, 21, .int, rfl, by decide, (xt_in 6 rfl (List.mem_of_getElem? (i := 16) rfl)), by decide +kernel, Or.inl ⟨rfl, rfl⟩, rfl, fun h => nomatch h⟩,
  List.forall_mem_cons.mpr ⟨⟨(xt_in 12 rfl (List.mem_of_getElem? (i := 37) rfl)), (xt_in 1 rfl (List.mem_of_getElem? (i := 26) rfl)), by decide +kernel, by decide +kernel⟩,
  List.forall_mem_cons.mpr ⟨⟨"there is no such place", by decide +kernel⟩,
  List.forall_mem_cons.mpr ⟨⟨fun v hv => xt_in 22 rfl hv, by decide +kernel⟩,
  fun _ h => absurd h List.not_mem_nil⟩⟩⟩⟩⟩⟩⟩⟩⟩⟩⟩⟩⟩⟩⟩⟩⟩⟩⟩⟩⟩⟩⟩⟩⟩⟩⟩⟩⟩⟩
def xt_cp0_2 : List (Nat × Nat × Int) := [(128, 8, 2), (132, 1, 388), (145, 8, 133), (148, 17, 0), (150, 8, 56), (154, 1, 326), (157, 1, 325), (160, 1, 320), (164, 1, 199), (169, 8, 135), (172, 17, 0), (174, 1, 192), (178, 1, 193), (181, 1, 194), (184, 1, 195), (186, 1, 196), (189, 1, 197), (192, 8, 79), (196, 8, 80), (199, 8, 132), (202, 1, 327), (205, 8, 136), (208, 1, 198), (211, 8, 82), (214, 1, 323), (217, 8, 141), (220, 8, 142), (224, 8, 32), (227, 17, 0), (229, 14, 65535)]
theorem xt_cp0_2_ok (L : Nat) (xs : Nat → Int32) : ∀ q ∈ xt_cp0_2, xr_cpf (xt_T L xs) xt_GW xt_ST xt_AO "HexTemplates" q := by
  unfold xt_cp0_2
  exact List.forall_mem_cons.mpr ⟨⟨xm_2, _, rfl, by decide, (xt_in 18 rfl (List.mem_of_getElem? (i := 0) rfl)), (xt_in 6 rfl (List.mem_of_getElem? (i := 0) rfl)), (xt_in 6 rfl (List.mem_of_getElem? (i := 1) rfl)), rfl, rfl, rfl⟩,
  List.forall_mem_cons.mpr ⟨⟨RX6, TX6, 5, rfl, by decide, (xt_in 2 rfl (List.mem_of_getElem? (i := 34) rfl))⟩,
  List.forall_mem_cons.mpr ⟨⟨xm_133, _, rfl, by decide, (xt_in 10 rfl (List.mem_of_getElem? (i := 24) rfl)), (xt_in 10 rfl (List.mem_of_getElem? (i := 25) rfl)), (xt_in 0 rfl (List.mem_of_getElem? (i := 21) rfl)), rfl, rfl, rfl⟩,
  List.forall_mem_cons.mpr ⟨⟨"there is no such template", by decide +kernel⟩,
  List.forall_mem_cons.mpr ⟨⟨xm_56, _, rfl, by decide, (xt_in 10 rfl (List.mem_of_getElem? (i := 27) rfl)), (xt_in 10 rfl (List.mem_of_getElem? (i := 28) rfl)), (xt_in 10 rfl (List.mem_of_getElem? (i := 29) rfl)), rfl, rfl, rfl⟩,
  List.forall_mem_cons.mpr ⟨⟨RX5, TX5, 11, rfl, by decide, (xt_in 4 rfl (List.mem_of_getElem? (i := 6) rfl))⟩,
  List.forall_mem_cons.mpr ⟨⟨RX5, TX5, 11, rfl, by decide, (xt_in 4 rfl (List.mem_of_getElem? (i := 4) rfl))⟩,
  List.forall_mem_cons.mpr ⟨⟨RX5, TX5, 11, rfl, by decide, (xt_in 3 rfl (List.mem_of_getElem? (i := 37) rfl))⟩,
  List.forall_mem_cons.mpr ⟨⟨RX3, TX3, 8, rfl, by decide, (xt_in 3 rfl (List.mem_of_getElem? (i := 34) rfl))⟩,
  List.forall_mem_cons.mpr ⟨⟨xm_135, _, rfl, by decide, (xt_in 10 rfl (List.mem_of_getElem? (i := 21) rfl)), (xt_in 10 rfl (List.mem_of_getElem? (i := 22) rfl)), (xt_in 0 rfl (List.mem_of_getElem? (i := 20) rfl)), rfl, rfl, rfl⟩,
  List.forall_mem_cons.mpr ⟨⟨"what is out of range", by decide +kernel⟩,
  List.forall_mem_cons.mpr ⟨⟨RX3, TX3, 8, rfl, by decide, (xt_in 3 rfl (List.mem_of_getElem? (i := 9) rfl))⟩,
  List.forall_mem_cons.mpr ⟨⟨RX3, TX3, 8, rfl, by decide, (xt_in 3 rfl (List.mem_of_getElem? (i := 12) rfl))⟩,
  List.forall_mem_cons.mpr ⟨⟨RX3, TX3, 8, rfl, by decide, (xt_in 3 rfl (List.mem_of_getElem? (i := 15) rfl))⟩,
  List.forall_mem_cons.mpr ⟨⟨RX3, TX3, 8, rfl, by decide, (xt_in 3 rfl (List.mem_of_getElem? (i := 19) rfl))⟩,
  List.forall_mem_cons.mpr ⟨⟨RX3, TX3, 8, rfl, by decide, (xt_in 3 rfl (List.mem_of_getElem? (i := 23) rfl))⟩,
  List.forall_mem_cons.mpr ⟨⟨RX3, TX3, 8, rfl, by decide, (xt_in 3 rfl (List.mem_of_getElem? (i := 26) rfl))⟩,
  List.forall_mem_cons.mpr ⟨⟨xm_79, _, rfl, by decide, (xt_in 18 rfl (List.mem_of_getElem? (i := 8) rfl)), (xt_in 18 rfl (List.mem_of_getElem? (i := 9) rfl)), (xt_in 18 rfl (List.mem_of_getElem? (i := 10) rfl)), rfl, rfl, rfl⟩,
  List.forall_mem_cons.mpr ⟨⟨xm_80, _, rfl, by decide, (xt_in 17 rfl (List.mem_of_getElem? (i := 27) rfl)), (xt_in 15 rfl (List.mem_of_getElem? (i := 23) rfl)), (xt_in 15 rfl (List.mem_of_getElem? (i := 24) rfl)), rfl, rfl, rfl⟩,
  List.forall_mem_cons.mpr ⟨⟨xm_132, _, rfl, by decide, (xt_in 12 rfl (List.mem_of_getElem? (i := 33) rfl)), (xt_in 12 rfl (List.mem_of_getElem? (i := 34) rfl)), (xt_in 1 rfl (List.mem_of_getElem? (i := 1) rfl)), rfl, rfl, rfl⟩,
  List.forall_mem_cons.mpr ⟨⟨RX5, TX5, 11, rfl, by decide, (xt_in 4 rfl (List.mem_of_getElem? (i := 8) rfl))⟩,
  List.forall_mem_cons.mpr ⟨⟨xm_136, _, rfl, by decide, (xt_in 18 rfl (List.mem_of_getElem? (i := 16) rfl)), (xt_in 18 rfl (List.mem_of_getElem? (i := 17) rfl)), (xt_in 1 rfl (List.mem_of_getElem? (i := 10) rfl)), rfl, rfl, rfl⟩,
  List.forall_mem_cons.mpr ⟨⟨RX3, TX3, 8, rfl, by decide, (xt_in 3 rfl (List.mem_of_getElem? (i := 29) rfl))⟩,
  List.forall_mem_cons.mpr ⟨⟨xm_82, _, rfl, by decide, (xt_in 18 rfl (List.mem_of_getElem? (i := 19) rfl)), (xt_in 18 rfl (List.mem_of_getElem? (i := 20) rfl)), (xt_in 18 rfl (List.mem_of_getElem? (i := 21) rfl)), rfl, rfl, rfl⟩,
  List.forall_mem_cons.mpr ⟨⟨RX5, TX5, 11, rfl, by decide, (xt_in 4 rfl (List.mem_of_getElem? (i := 1) rfl))⟩,
  List.forall_mem_cons.mpr ⟨⟨xm_141, _, rfl, by decide, (xt_in 18 rfl (List.mem_of_getElem? (i := 27) rfl)), (xt_in 18 rfl (List.mem_of_getElem? (i := 28) rfl)), (xt_in 1 rfl (List.mem_of_getElem? (i := 11) rfl)), rfl, rfl, rfl⟩,
  List.forall_mem_cons.mpr ⟨⟨xm_142, _, rfl, by decide, (xt_in 18 rfl (List.mem_of_getElem? (i := 30) rfl)), (xt_in 18 rfl (List.mem_of_getElem? (i := 31) rfl)), (xt_in 1 rfl (List.mem_of_getElem? (i := 12) rfl)), rfl, rfl, rfl⟩,
  List.forall_mem_cons.mpr ⟨⟨xm_32, _, rfl, by decide, (xt_in 18 rfl (List.mem_of_getElem? (i := 33) rfl)), (xt_in 18 rfl (List.mem_of_getElem? (i := 34) rfl)), (xt_in 18 rfl (List.mem_of_getElem? (i := 35) rfl)), rfl, rfl, rfl⟩,
  List.forall_mem_cons.mpr ⟨⟨"an argument is out of range", by decide +kernel⟩,
  List.forall_mem_cons.mpr ⟨(show Cond.constant "HexTemplates" 229 (Int32.ofInt (65535)) ∈ xt_GW from (by rw [show Int32.ofInt (65535) = (65535 : Int32) from by decide +kernel]; exact (xt_in 19 rfl (List.mem_of_getElem? (i := 5) rfl)))),
  fun _ h => absurd h List.not_mem_nil⟩⟩⟩⟩⟩⟩⟩⟩⟩⟩⟩⟩⟩⟩⟩⟩⟩⟩⟩⟩⟩⟩⟩⟩⟩⟩⟩⟩⟩⟩
def xt_cp0_3 : List (Nat × Nat × Int) := [(230, 8, 30), (233, 8, 139), (236, 8, 83), (239, 17, 0), (241, 8, 10), (244, 8, 11), (248, 8, 140), (251, 17, 0), (253, 8, 86), (256, 8, 137), (260, 8, 85), (263, 17, 0), (265, 8, 12), (269, 1, 64), (272, 8, 3), (275, 8, 138), (279, 8, 13), (283, 8, 33), (287, 8, 8), (311, 9, 95), (312, 8, 93), (319, 8, 27), (322, 17, 0), (324, 17, 0), (326, 17, 0), (328, 17, 0), (330, 8, 76), (333, 8, 15), (337, 8, 17), (341, 8, 20)]
theorem xt_cp0_3_ok (L : Nat) (xs : Nat → Int32) : ∀ q ∈ xt_cp0_3, xr_cpf (xt_T L xs) xt_GW xt_ST xt_AO "HexTemplates" q := by
  unfold xt_cp0_3
  exact List.forall_mem_cons.mpr ⟨⟨xm_30, _, rfl, by decide, (xt_in 16 rfl (List.mem_of_getElem? (i := 21) rfl)), (xt_in 16 rfl (List.mem_of_getElem? (i := 22) rfl)), (xt_in 16 rfl (List.mem_of_getElem? (i := 23) rfl)), rfl, rfl, rfl⟩,
  List.forall_mem_cons.mpr ⟨⟨xm_139, _, rfl, by decide, (xt_in 16 rfl (List.mem_of_getElem? (i := 18) rfl)), (xt_in 16 rfl (List.mem_of_getElem? (i := 19) rfl)), (xt_in 1 rfl (List.mem_of_getElem? (i := 9) rfl)), rfl, rfl, rfl⟩,
  List.forall_mem_cons.mpr ⟨⟨xm_83, _, rfl, by decide, (xt_in 16 rfl (List.mem_of_getElem? (i := 26) rfl)), (xt_in 14 rfl (List.mem_of_getElem? (i := 0) rfl)), (xt_in 14 rfl (List.mem_of_getElem? (i := 1) rfl)), rfl, rfl, rfl⟩,
  List.forall_mem_cons.mpr ⟨⟨"the field can't be set to that", by decide +kernel⟩,
  List.forall_mem_cons.mpr ⟨⟨xm_10, _, rfl, by decide, (xt_in 13 rfl (List.mem_of_getElem? (i := 16) rfl)), (xt_in 13 rfl (List.mem_of_getElem? (i := 17) rfl)), (xt_in 13 rfl (List.mem_of_getElem? (i := 18) rfl)), rfl, rfl, rfl⟩,
  List.forall_mem_cons.mpr ⟨⟨xm_11, _, rfl, by decide, (xt_in 16 rfl (List.mem_of_getElem? (i := 27) rfl)), (xt_in 13 rfl (List.mem_of_getElem? (i := 26) rfl)), (xt_in 13 rfl (List.mem_of_getElem? (i := 27) rfl)), rfl, rfl, rfl⟩,
  List.forall_mem_cons.mpr ⟨⟨xm_140, _, rfl, by decide, (xt_in 14 rfl (List.mem_of_getElem? (i := 31) rfl)), (xt_in 14 rfl (List.mem_of_getElem? (i := 32) rfl)), (xt_in 1 rfl (List.mem_of_getElem? (i := 5) rfl)), rfl, rfl, rfl⟩,
  List.forall_mem_cons.mpr ⟨⟨"value is out of range", by decide +kernel⟩,
  List.forall_mem_cons.mpr ⟨⟨xm_86, _, rfl, by decide, (xt_in 12 rfl (List.mem_of_getElem? (i := 39) rfl)), (xt_in 13 rfl (List.mem_of_getElem? (i := 0) rfl)), (xt_in 13 rfl (List.mem_of_getElem? (i := 1) rfl)), rfl, rfl, rfl⟩,
  List.forall_mem_cons.mpr ⟨⟨xm_137, _, rfl, by decide, (xt_in 13 rfl (List.mem_of_getElem? (i := 12) rfl)), (xt_in 13 rfl (List.mem_of_getElem? (i := 13) rfl)), (xt_in 1 rfl (List.mem_of_getElem? (i := 2) rfl)), rfl, rfl, rfl⟩,
  List.forall_mem_cons.mpr ⟨⟨xm_85, _, rfl, by decide, (xt_in 13 rfl (List.mem_of_getElem? (i := 15) rfl)), (xt_in 13 rfl (List.mem_of_getElem? (i := 5) rfl)), (xt_in 13 rfl (List.mem_of_getElem? (i := 6) rfl)), rfl, rfl, rfl⟩,
  List.forall_mem_cons.mpr ⟨⟨"the string would end at that", by decide +kernel⟩,
  List.forall_mem_cons.mpr ⟨⟨xm_12, _, rfl, by decide, (xt_in 13 rfl (List.mem_of_getElem? (i := 21) rfl)), (xt_in 13 rfl (List.mem_of_getElem? (i := 22) rfl)), (xt_in 13 rfl (List.mem_of_getElem? (i := 23) rfl)), rfl, rfl, rfl⟩,
  List.forall_mem_cons.mpr ⟨⟨RX1, TX1, 2, rfl, by decide, (xt_in 4 rfl (List.mem_of_getElem? (i := 21) rfl))⟩,
  List.forall_mem_cons.mpr ⟨⟨xm_3, _, rfl, by decide, (xt_in 14 rfl (List.mem_of_getElem? (i := 27) rfl)), (xt_in 13 rfl (List.mem_of_getElem? (i := 31) rfl)), (xt_in 13 rfl (List.mem_of_getElem? (i := 32) rfl)), rfl, rfl, rfl⟩,
  List.forall_mem_cons.mpr ⟨⟨xm_138, _, rfl, by decide, (xt_in 14 rfl (List.mem_of_getElem? (i := 28) rfl)), (xt_in 14 rfl (List.mem_of_getElem? (i := 29) rfl)), (xt_in 1 rfl (List.mem_of_getElem? (i := 4) rfl)), rfl, rfl, rfl⟩,
  List.forall_mem_cons.mpr ⟨⟨xm_13, _, rfl, by decide, (xt_in 15 rfl (List.mem_of_getElem? (i := 31) rfl)), (xt_in 15 rfl (List.mem_of_getElem? (i := 32) rfl)), (xt_in 15 rfl (List.mem_of_getElem? (i := 33) rfl)), rfl, rfl, rfl⟩,
  List.forall_mem_cons.mpr ⟨⟨xm_33, _, rfl, by decide, (xt_in 16 rfl (List.mem_of_getElem? (i := 4) rfl)), (xt_in 16 rfl (List.mem_of_getElem? (i := 5) rfl)), (xt_in 16 rfl (List.mem_of_getElem? (i := 6) rfl)), rfl, rfl, rfl⟩,
  List.forall_mem_cons.mpr ⟨⟨xm_8, _, rfl, by decide, (xt_in 16 rfl (List.mem_of_getElem? (i := 8) rfl)), (xt_in 16 rfl (List.mem_of_getElem? (i := 9) rfl)), (xt_in 16 rfl (List.mem_of_getElem? (i := 10) rfl)), rfl, rfl, rfl⟩,
  List.forall_mem_cons.mpr ⟨⟨xm_95, rfl, by decide, Or.inr ⟨"HexTemplates", (xt_in 6 rfl (List.mem_of_getElem? (i := 11) rfl))⟩, rfl, (xt_in 6 rfl (List.mem_of_getElem? (i := 12) rfl)), rfl, rfl⟩,
  List.forall_mem_cons.mpr ⟨⟨xm_93, _, rfl, by decide, (xt_in 5 rfl (List.mem_of_getElem? (i := 34) rfl)), (xt_in 5 rfl (List.mem_of_getElem? (i := 35) rfl)), (xt_in 5 rfl (List.mem_of_getElem? (i := 36) rfl)), rfl, rfl, rfl⟩,
  List.forall_mem_cons.mpr ⟨⟨xm_27, _, rfl, by decide, (xt_in 12 rfl (List.mem_of_getElem? (i := 36) rfl)), (xt_in 12 rfl (List.mem_of_getElem? (i := 2) rfl)), (xt_in 12 rfl (List.mem_of_getElem? (i := 3) rfl)), rfl, rfl, rfl⟩,
  List.forall_mem_cons.mpr ⟨⟨"there is no such node", by decide +kernel⟩,
  List.forall_mem_cons.mpr ⟨⟨"it is no reference", by decide +kernel⟩,
  List.forall_mem_cons.mpr ⟨⟨"it is no string, or there is no such place", by decide +kernel⟩,
  List.forall_mem_cons.mpr ⟨⟨"the edit is refused", by decide +kernel⟩,
  List.forall_mem_cons.mpr ⟨⟨xm_76, _, rfl, by decide, (xt_in 16 rfl (List.mem_of_getElem? (i := 25) rfl)), (xt_in 14 rfl (List.mem_of_getElem? (i := 7) rfl)), (xt_in 14 rfl (List.mem_of_getElem? (i := 8) rfl)), rfl, rfl, rfl⟩,
  List.forall_mem_cons.mpr ⟨⟨xm_15, _, rfl, by decide, (xt_in 14 rfl (List.mem_of_getElem? (i := 34) rfl)), (xt_in 14 rfl (List.mem_of_getElem? (i := 35) rfl)), (xt_in 14 rfl (List.mem_of_getElem? (i := 36) rfl)), rfl, rfl, rfl⟩,
  List.forall_mem_cons.mpr ⟨⟨xm_17, _, rfl, by decide, (xt_in 15 rfl (List.mem_of_getElem? (i := 7) rfl)), (xt_in 15 rfl (List.mem_of_getElem? (i := 8) rfl)), (xt_in 15 rfl (List.mem_of_getElem? (i := 9) rfl)), rfl, rfl, rfl⟩,
  List.forall_mem_cons.mpr ⟨⟨xm_20, _, rfl, by decide, (xt_in 15 rfl (List.mem_of_getElem? (i := 18) rfl)), (xt_in 15 rfl (List.mem_of_getElem? (i := 19) rfl)), (xt_in 15 rfl (List.mem_of_getElem? (i := 20) rfl)), rfl, rfl, rfl⟩,
  fun _ h => absurd h List.not_mem_nil⟩⟩⟩⟩⟩⟩⟩⟩⟩⟩⟩⟩⟩⟩⟩⟩⟩⟩⟩⟩⟩⟩⟩⟩⟩⟩⟩⟩⟩⟩
def xt_cp0_4 : List (Nat × Nat × Int) := [(344, 17, 0)]
theorem xt_cp0_4_ok (L : Nat) (xs : Nat → Int32) : ∀ q ∈ xt_cp0_4, xr_cpf (xt_T L xs) xt_GW xt_ST xt_AO "HexTemplates" q := by
  unfold xt_cp0_4
  exact List.forall_mem_cons.mpr ⟨⟨"the edit is refused, or there are 30 states", by decide +kernel⟩,
  fun _ h => absurd h List.not_mem_nil⟩
def xt_cp0 : List (Nat × Nat × Int) := xt_cp0_0 ++ (xt_cp0_1 ++ (xt_cp0_2 ++ (xt_cp0_3 ++ (xt_cp0_4))))
theorem xt_cp0_ok (L : Nat) (xs : Nat → Int32) : ∀ q ∈ xt_cp0, xr_cpf (xt_T L xs) xt_GW xt_ST xt_AO "HexTemplates" q := List.forall_mem_append.mpr ⟨xt_cp0_0_ok L xs, List.forall_mem_append.mpr ⟨xt_cp0_1_ok L xs, List.forall_mem_append.mpr ⟨xt_cp0_2_ok L xs, List.forall_mem_append.mpr ⟨xt_cp0_3_ok L xs, xt_cp0_4_ok L xs⟩⟩⟩⟩
def xt_cp1_0 : List (Nat × Nat × Int) := [(1, 11, 0), (7, 1, 1), (7, 2, 1), (13, 1, 0), (13, 7, 0), (17, 10, 24), (23, 8, 2), (27, 8, 3)]
theorem xt_cp1_0_ok (L : Nat) (xs : Nat → Int32) : ∀ q ∈ xt_cp1_0, xr_cpf (xt_T L xs) xt_GW xt_ST xt_AO "HexTemplates$Bytes" q := by
  unfold xt_cp1_0
  exact List.forall_mem_cons.mpr ⟨⟨(xt_in 2 rfl (List.mem_of_getElem? (i := 0) rfl)), (xt_in 1 rfl (List.mem_of_getElem? (i := 33) rfl)), (xt_in 1 rfl (List.mem_of_getElem? (i := 34) rfl))⟩,
  List.forall_mem_cons.mpr ⟨⟨RX0, TX0, 2, rfl, by decide, (xt_in 2 rfl (List.mem_of_getElem? (i := 3) rfl))⟩,
  List.forall_mem_cons.mpr ⟨⟨RX0, TX0, 2, .int, rfl, by decide, (xt_in 2 rfl (List.mem_of_getElem? (i := 3) rfl)), by decide +kernel, Or.inl ⟨rfl, rfl⟩, rfl, fun h => nomatch h⟩,
  List.forall_mem_cons.mpr ⟨⟨RX0, TX0, 2, rfl, by decide, (xt_in 2 rfl (List.mem_of_getElem? (i := 1) rfl))⟩,
  List.forall_mem_cons.mpr ⟨⟨RX0, TX0, 2, (.array .int), rfl, by decide, (xt_in 2 rfl (List.mem_of_getElem? (i := 1) rfl)), by decide +kernel, Or.inr (Or.inr ⟨rfl, Or.inr ⟨_, rfl⟩⟩), rfl, fun _ => rfl⟩,
  List.forall_mem_cons.mpr ⟨⟨xm_24, rfl, by decide, (xt_in 5 rfl (List.mem_of_getElem? (i := 28) rfl)), (xt_in 5 rfl (List.mem_of_getElem? (i := 29) rfl))⟩,
  List.forall_mem_cons.mpr ⟨⟨xm_2, _, rfl, by decide, (xt_in 16 rfl (List.mem_of_getElem? (i := 12) rfl)), (xt_in 6 rfl (List.mem_of_getElem? (i := 0) rfl)), (xt_in 6 rfl (List.mem_of_getElem? (i := 1) rfl)), rfl, rfl, rfl⟩,
  List.forall_mem_cons.mpr ⟨⟨xm_3, _, rfl, by decide, (xt_in 16 rfl (List.mem_of_getElem? (i := 13) rfl)), (xt_in 13 rfl (List.mem_of_getElem? (i := 31) rfl)), (xt_in 13 rfl (List.mem_of_getElem? (i := 32) rfl)), rfl, rfl, rfl⟩,
  fun _ h => absurd h List.not_mem_nil⟩⟩⟩⟩⟩⟩⟩⟩
def xt_cp1 : List (Nat × Nat × Int) := xt_cp1_0
theorem xt_cp1_ok (L : Nat) (xs : Nat → Int32) : ∀ q ∈ xt_cp1, xr_cpf (xt_T L xs) xt_GW xt_ST xt_AO "HexTemplates$Bytes" q := xt_cp1_0_ok L xs
def xt_cp2_0 : List (Nat × Nat × Int) := [(3, 11, 0), (9, 12, 0), (11, 9, 1), (14, 1, 64), (14, 7, 64), (20, 1, 65), (20, 7, 65), (24, 8, 5), (28, 1, 320), (34, 1, 194), (40, 8, 81), (44, 8, 3), (48, 8, 84), (51, 8, 2), (54, 8, 83), (57, 1, 1), (61, 1, 199), (64, 1, 192), (67, 1, 196), (70, 8, 11), (74, 8, 14), (78, 8, 6), (82, 10, 22), (88, 8, 7), (91, 8, 76), (94, 8, 77), (97, 8, 34), (100, 1, 195), (102, 8, 56), (106, 8, 16)]
theorem xt_cp2_0_ok (L : Nat) (xs : Nat → Int32) : ∀ q ∈ xt_cp2_0, xr_cpf (xt_T L xs) xt_GW xt_ST xt_AO "HexTemplates$Editor" q := by
  unfold xt_cp2_0
  exact List.forall_mem_cons.mpr ⟨⟨(xt_in 4 rfl (List.mem_of_getElem? (i := 17) rfl)), (xt_in 1 rfl (List.mem_of_getElem? (i := 33) rfl)), (xt_in 1 rfl (List.mem_of_getElem? (i := 34) rfl))⟩,
  List.forall_mem_cons.mpr ⟨⟨RX0, TX0, 2, rfl, (xt_in 4 rfl (List.mem_of_getElem? (i := 18) rfl))⟩,
  List.forall_mem_cons.mpr ⟨⟨xm_1, rfl, by decide, Or.inl (xt_in 4 rfl (List.mem_of_getElem? (i := 19) rfl)), rfl, (xt_in 1 rfl (List.mem_of_getElem? (i := 38) rfl)), rfl, rfl⟩,
  List.forall_mem_cons.mpr ⟨⟨RX1, TX1, 2, rfl, by decide, (xt_in 4 rfl (List.mem_of_getElem? (i := 20) rfl))⟩,
  List.forall_mem_cons.mpr ⟨⟨RX1, TX1, 2, (.object "HexTemplates$Bytes"), rfl, by decide, (xt_in 4 rfl (List.mem_of_getElem? (i := 20) rfl)), by decide +kernel, Or.inr (Or.inr ⟨rfl, Or.inl ⟨_, rfl⟩⟩), rfl, fun _ => rfl⟩,
  List.forall_mem_cons.mpr ⟨⟨RX1, TX1, 2, rfl, by decide, (xt_in 4 rfl (List.mem_of_getElem? (i := 22) rfl))⟩,
  List.forall_mem_cons.mpr ⟨⟨RX1, TX1, 2, (.array .boolean), rfl, by decide, (xt_in 4 rfl (List.mem_of_getElem? (i := 22) rfl)), by decide +kernel, Or.inr (Or.inr ⟨rfl, Or.inr ⟨_, rfl⟩⟩), rfl, fun _ => rfl⟩,
  List.forall_mem_cons.mpr ⟨⟨xm_5, _, rfl, by decide, (xt_in 13 rfl (List.mem_of_getElem? (i := 20) rfl)), (xt_in 5 rfl (List.mem_of_getElem? (i := 25) rfl)), (xt_in 5 rfl (List.mem_of_getElem? (i := 26) rfl)), rfl, rfl, rfl⟩,
  List.forall_mem_cons.mpr ⟨⟨RX5, TX5, 11, rfl, by decide, (xt_in 3 rfl (List.mem_of_getElem? (i := 36) rfl))⟩,
  List.forall_mem_cons.mpr ⟨⟨RX3, TX3, 8, rfl, by decide, (xt_in 3 rfl (List.mem_of_getElem? (i := 14) rfl))⟩,
  List.forall_mem_cons.mpr ⟨⟨xm_81, _, rfl, by decide, (xt_in 13 rfl (List.mem_of_getElem? (i := 29) rfl)), (xt_in 13 rfl (List.mem_of_getElem? (i := 9) rfl)), (xt_in 13 rfl (List.mem_of_getElem? (i := 10) rfl)), rfl, rfl, rfl⟩,
  List.forall_mem_cons.mpr ⟨⟨xm_3, _, rfl, by decide, (xt_in 13 rfl (List.mem_of_getElem? (i := 30) rfl)), (xt_in 13 rfl (List.mem_of_getElem? (i := 31) rfl)), (xt_in 13 rfl (List.mem_of_getElem? (i := 32) rfl)), rfl, rfl, rfl⟩,
  List.forall_mem_cons.mpr ⟨⟨xm_84, _, rfl, by decide, (xt_in 13 rfl (List.mem_of_getElem? (i := 34) rfl)), (xt_in 13 rfl (List.mem_of_getElem? (i := 35) rfl)), (xt_in 13 rfl (List.mem_of_getElem? (i := 36) rfl)), rfl, rfl, rfl⟩,
  List.forall_mem_cons.mpr ⟨⟨xm_2, _, rfl, by decide, (xt_in 13 rfl (List.mem_of_getElem? (i := 38) rfl)), (xt_in 6 rfl (List.mem_of_getElem? (i := 0) rfl)), (xt_in 6 rfl (List.mem_of_getElem? (i := 1) rfl)), rfl, rfl, rfl⟩,
  List.forall_mem_cons.mpr ⟨⟨xm_83, _, rfl, by decide, (xt_in 13 rfl (List.mem_of_getElem? (i := 39) rfl)), (xt_in 14 rfl (List.mem_of_getElem? (i := 0) rfl)), (xt_in 14 rfl (List.mem_of_getElem? (i := 1) rfl)), rfl, rfl, rfl⟩,
  List.forall_mem_cons.mpr ⟨⟨RX0, TX0, 2, rfl, by decide, (xt_in 2 rfl (List.mem_of_getElem? (i := 5) rfl))⟩,
  List.forall_mem_cons.mpr ⟨⟨RX3, TX3, 8, rfl, by decide, (xt_in 3 rfl (List.mem_of_getElem? (i := 33) rfl))⟩,
  List.forall_mem_cons.mpr ⟨⟨RX3, TX3, 8, rfl, by decide, (xt_in 3 rfl (List.mem_of_getElem? (i := 8) rfl))⟩,
  List.forall_mem_cons.mpr ⟨⟨RX3, TX3, 8, rfl, by decide, (xt_in 3 rfl (List.mem_of_getElem? (i := 22) rfl))⟩,
  List.forall_mem_cons.mpr ⟨⟨xm_11, _, rfl, by decide, (xt_in 13 rfl (List.mem_of_getElem? (i := 25) rfl)), (xt_in 13 rfl (List.mem_of_getElem? (i := 26) rfl)), (xt_in 13 rfl (List.mem_of_getElem? (i := 27) rfl)), rfl, rfl, rfl⟩,
  List.forall_mem_cons.mpr ⟨⟨xm_14, _, rfl, by decide, (xt_in 14 rfl (List.mem_of_getElem? (i := 3) rfl)), (xt_in 14 rfl (List.mem_of_getElem? (i := 4) rfl)), (xt_in 1 rfl (List.mem_of_getElem? (i := 3) rfl)), rfl, rfl, rfl⟩,
  List.forall_mem_cons.mpr ⟨⟨xm_6, _, rfl, by decide, (xt_in 14 rfl (List.mem_of_getElem? (i := 23) rfl)), (xt_in 14 rfl (List.mem_of_getElem? (i := 24) rfl)), (xt_in 14 rfl (List.mem_of_getElem? (i := 25) rfl)), rfl, rfl, rfl⟩,
  List.forall_mem_cons.mpr ⟨⟨xm_22, rfl, by decide, (xt_in 15 rfl (List.mem_of_getElem? (i := 35) rfl)), (xt_in 9 rfl (List.mem_of_getElem? (i := 10) rfl))⟩,
  List.forall_mem_cons.mpr ⟨⟨xm_7, _, rfl, by decide, (xt_in 15 rfl (List.mem_of_getElem? (i := 36) rfl)), (xt_in 15 rfl (List.mem_of_getElem? (i := 37) rfl)), (xt_in 15 rfl (List.mem_of_getElem? (i := 38) rfl)), rfl, rfl, rfl⟩,
  List.forall_mem_cons.mpr ⟨⟨xm_76, _, rfl, by decide, (xt_in 14 rfl (List.mem_of_getElem? (i := 6) rfl)), (xt_in 14 rfl (List.mem_of_getElem? (i := 7) rfl)), (xt_in 14 rfl (List.mem_of_getElem? (i := 8) rfl)), rfl, rfl, rfl⟩,
  List.forall_mem_cons.mpr ⟨⟨xm_77, _, rfl, by decide, (xt_in 14 rfl (List.mem_of_getElem? (i := 10) rfl)), (xt_in 14 rfl (List.mem_of_getElem? (i := 11) rfl)), (xt_in 14 rfl (List.mem_of_getElem? (i := 12) rfl)), rfl, rfl, rfl⟩,
  List.forall_mem_cons.mpr ⟨⟨xm_34, _, rfl, by decide, (xt_in 14 rfl (List.mem_of_getElem? (i := 19) rfl)), (xt_in 14 rfl (List.mem_of_getElem? (i := 20) rfl)), (xt_in 14 rfl (List.mem_of_getElem? (i := 21) rfl)), rfl, rfl, rfl⟩,
  List.forall_mem_cons.mpr ⟨⟨RX3, TX3, 8, rfl, by decide, (xt_in 3 rfl (List.mem_of_getElem? (i := 18) rfl))⟩,
  List.forall_mem_cons.mpr ⟨⟨xm_56, _, rfl, by decide, (xt_in 14 rfl (List.mem_of_getElem? (i := 38) rfl)), (xt_in 10 rfl (List.mem_of_getElem? (i := 28) rfl)), (xt_in 10 rfl (List.mem_of_getElem? (i := 29) rfl)), rfl, rfl, rfl⟩,
  List.forall_mem_cons.mpr ⟨⟨xm_16, _, rfl, by decide, (xt_in 14 rfl (List.mem_of_getElem? (i := 39) rfl)), (xt_in 15 rfl (List.mem_of_getElem? (i := 0) rfl)), (xt_in 1 rfl (List.mem_of_getElem? (i := 6) rfl)), rfl, rfl, rfl⟩,
  fun _ h => absurd h List.not_mem_nil⟩⟩⟩⟩⟩⟩⟩⟩⟩⟩⟩⟩⟩⟩⟩⟩⟩⟩⟩⟩⟩⟩⟩⟩⟩⟩⟩⟩⟩⟩
def xt_cp2_1 : List (Nat × Nat × Int) := [(110, 8, 78), (113, 8, 18), (116, 8, 19), (120, 8, 27), (124, 8, 80)]
theorem xt_cp2_1_ok (L : Nat) (xs : Nat → Int32) : ∀ q ∈ xt_cp2_1, xr_cpf (xt_T L xs) xt_GW xt_ST xt_AO "HexTemplates$Editor" q := by
  unfold xt_cp2_1
  exact List.forall_mem_cons.mpr ⟨⟨xm_78, _, rfl, by decide, (xt_in 15 rfl (List.mem_of_getElem? (i := 2) rfl)), (xt_in 15 rfl (List.mem_of_getElem? (i := 3) rfl)), (xt_in 15 rfl (List.mem_of_getElem? (i := 4) rfl)), rfl, rfl, rfl⟩,
  List.forall_mem_cons.mpr ⟨⟨xm_18, _, rfl, by decide, (xt_in 15 rfl (List.mem_of_getElem? (i := 11) rfl)), (xt_in 15 rfl (List.mem_of_getElem? (i := 12) rfl)), (xt_in 1 rfl (List.mem_of_getElem? (i := 7) rfl)), rfl, rfl, rfl⟩,
  List.forall_mem_cons.mpr ⟨⟨xm_19, _, rfl, by decide, (xt_in 15 rfl (List.mem_of_getElem? (i := 14) rfl)), (xt_in 15 rfl (List.mem_of_getElem? (i := 15) rfl)), (xt_in 1 rfl (List.mem_of_getElem? (i := 8) rfl)), rfl, rfl, rfl⟩,
  List.forall_mem_cons.mpr ⟨⟨xm_27, _, rfl, by decide, (xt_in 15 rfl (List.mem_of_getElem? (i := 17) rfl)), (xt_in 12 rfl (List.mem_of_getElem? (i := 2) rfl)), (xt_in 12 rfl (List.mem_of_getElem? (i := 3) rfl)), rfl, rfl, rfl⟩,
  List.forall_mem_cons.mpr ⟨⟨xm_80, _, rfl, by decide, (xt_in 15 rfl (List.mem_of_getElem? (i := 22) rfl)), (xt_in 15 rfl (List.mem_of_getElem? (i := 23) rfl)), (xt_in 15 rfl (List.mem_of_getElem? (i := 24) rfl)), rfl, rfl, rfl⟩,
  fun _ h => absurd h List.not_mem_nil⟩⟩⟩⟩⟩
def xt_cp2 : List (Nat × Nat × Int) := xt_cp2_0 ++ (xt_cp2_1)
theorem xt_cp2_ok (L : Nat) (xs : Nat → Int32) : ∀ q ∈ xt_cp2, xr_cpf (xt_T L xs) xt_GW xt_ST xt_AO "HexTemplates$Editor" q := List.forall_mem_append.mpr ⟨xt_cp2_0_ok L xs, xt_cp2_1_ok L xs⟩
def xt_cp3_0 : List (Nat × Nat × Int) := [(3, 11, 0), (9, 2, 128), (15, 2, 129), (18, 2, 130)]
theorem xt_cp3_0_ok (L : Nat) (xs : Nat → Int32) : ∀ q ∈ xt_cp3_0, xr_cpf (xt_T L xs) xt_GW xt_ST xt_AO "HexTemplates$Hunk" q := by
  unfold xt_cp3_0
  exact List.forall_mem_cons.mpr ⟨⟨(xt_in 4 rfl (List.mem_of_getElem? (i := 29) rfl)), (xt_in 1 rfl (List.mem_of_getElem? (i := 33) rfl)), (xt_in 1 rfl (List.mem_of_getElem? (i := 34) rfl))⟩,
  List.forall_mem_cons.mpr ⟨⟨RX2, TX2, 3, .int, rfl, by decide, (xt_in 4 rfl (List.mem_of_getElem? (i := 30) rfl)), by decide +kernel, Or.inl ⟨rfl, rfl⟩, rfl, fun h => nomatch h⟩,
  List.forall_mem_cons.mpr ⟨⟨RX2, TX2, 3, .int, rfl, by decide, (xt_in 4 rfl (List.mem_of_getElem? (i := 31) rfl)), by decide +kernel, Or.inl ⟨rfl, rfl⟩, rfl, fun h => nomatch h⟩,
  List.forall_mem_cons.mpr ⟨⟨RX2, TX2, 3, .int, rfl, by decide, (xt_in 4 rfl (List.mem_of_getElem? (i := 32) rfl)), by decide +kernel, Or.inl ⟨rfl, rfl⟩, rfl, fun h => nomatch h⟩,
  fun _ h => absurd h List.not_mem_nil⟩⟩⟩⟩
def xt_cp3 : List (Nat × Nat × Int) := xt_cp3_0
theorem xt_cp3_ok (L : Nat) (xs : Nat → Int32) : ∀ q ∈ xt_cp3, xr_cpf (xt_T L xs) xt_GW xt_ST xt_AO "HexTemplates$Hunk" q := xt_cp3_0_ok L xs
def xt_cp4_0 : List (Nat × Nat × Int) := [(3, 11, 0), (9, 1, 192), (9, 7, 192), (15, 1, 193), (15, 7, 193), (18, 1, 194), (18, 7, 194), (21, 1, 195), (21, 7, 195), (24, 1, 196), (24, 7, 196), (27, 1, 197), (27, 7, 197), (30, 1, 198), (30, 7, 198), (33, 1, 199), (33, 2, 199), (37, 8, 27)]
theorem xt_cp4_0_ok (L : Nat) (xs : Nat → Int32) : ∀ q ∈ xt_cp4_0, xr_cpf (xt_T L xs) xt_GW xt_ST xt_AO "HexTemplates$Nodes" q := by
  unfold xt_cp4_0
  exact List.forall_mem_cons.mpr ⟨⟨(xt_in 3 rfl (List.mem_of_getElem? (i := 6) rfl)), (xt_in 1 rfl (List.mem_of_getElem? (i := 33) rfl)), (xt_in 1 rfl (List.mem_of_getElem? (i := 34) rfl))⟩,
  List.forall_mem_cons.mpr ⟨⟨RX3, TX3, 8, rfl, by decide, (xt_in 3 rfl (List.mem_of_getElem? (i := 7) rfl))⟩,
  List.forall_mem_cons.mpr ⟨⟨RX3, TX3, 8, (.array .int), rfl, by decide, (xt_in 3 rfl (List.mem_of_getElem? (i := 7) rfl)), by decide +kernel, Or.inr (Or.inr ⟨rfl, Or.inr ⟨_, rfl⟩⟩), rfl, fun _ => rfl⟩,
  List.forall_mem_cons.mpr ⟨⟨RX3, TX3, 8, rfl, by decide, (xt_in 3 rfl (List.mem_of_getElem? (i := 11) rfl))⟩,
  List.forall_mem_cons.mpr ⟨⟨RX3, TX3, 8, (.array .int), rfl, by decide, (xt_in 3 rfl (List.mem_of_getElem? (i := 11) rfl)), by decide +kernel, Or.inr (Or.inr ⟨rfl, Or.inr ⟨_, rfl⟩⟩), rfl, fun _ => rfl⟩,
  List.forall_mem_cons.mpr ⟨⟨RX3, TX3, 8, rfl, by decide, (xt_in 3 rfl (List.mem_of_getElem? (i := 13) rfl))⟩,
  List.forall_mem_cons.mpr ⟨⟨RX3, TX3, 8, (.array .int), rfl, by decide, (xt_in 3 rfl (List.mem_of_getElem? (i := 13) rfl)), by decide +kernel, Or.inr (Or.inr ⟨rfl, Or.inr ⟨_, rfl⟩⟩), rfl, fun _ => rfl⟩,
  List.forall_mem_cons.mpr ⟨⟨RX3, TX3, 8, rfl, by decide, (xt_in 3 rfl (List.mem_of_getElem? (i := 17) rfl))⟩,
  List.forall_mem_cons.mpr ⟨⟨RX3, TX3, 8, (.array .int), rfl, by decide, (xt_in 3 rfl (List.mem_of_getElem? (i := 17) rfl)), by decide +kernel, Or.inr (Or.inr ⟨rfl, Or.inr ⟨_, rfl⟩⟩), rfl, fun _ => rfl⟩,
  List.forall_mem_cons.mpr ⟨⟨RX3, TX3, 8, rfl, by decide, (xt_in 3 rfl (List.mem_of_getElem? (i := 21) rfl))⟩,
  List.forall_mem_cons.mpr ⟨⟨RX3, TX3, 8, (.array .int), rfl, by decide, (xt_in 3 rfl (List.mem_of_getElem? (i := 21) rfl)), by decide +kernel, Or.inr (Or.inr ⟨rfl, Or.inr ⟨_, rfl⟩⟩), rfl, fun _ => rfl⟩,
  List.forall_mem_cons.mpr ⟨⟨RX3, TX3, 8, rfl, by decide, (xt_in 3 rfl (List.mem_of_getElem? (i := 25) rfl))⟩,
  List.forall_mem_cons.mpr ⟨⟨RX3, TX3, 8, (.array .int), rfl, by decide, (xt_in 3 rfl (List.mem_of_getElem? (i := 25) rfl)), by decide +kernel, Or.inr (Or.inr ⟨rfl, Or.inr ⟨_, rfl⟩⟩), rfl, fun _ => rfl⟩,
  List.forall_mem_cons.mpr ⟨⟨RX3, TX3, 8, rfl, by decide, (xt_in 3 rfl (List.mem_of_getElem? (i := 28) rfl))⟩,
  List.forall_mem_cons.mpr ⟨⟨RX3, TX3, 8, (.array .int), rfl, by decide, (xt_in 3 rfl (List.mem_of_getElem? (i := 28) rfl)), by decide +kernel, Or.inr (Or.inr ⟨rfl, Or.inr ⟨_, rfl⟩⟩), rfl, fun _ => rfl⟩,
  List.forall_mem_cons.mpr ⟨⟨RX3, TX3, 8, rfl, by decide, (xt_in 3 rfl (List.mem_of_getElem? (i := 31) rfl))⟩,
  List.forall_mem_cons.mpr ⟨⟨RX3, TX3, 8, .int, rfl, by decide, (xt_in 3 rfl (List.mem_of_getElem? (i := 31) rfl)), by decide +kernel, Or.inl ⟨rfl, rfl⟩, rfl, fun h => nomatch h⟩,
  List.forall_mem_cons.mpr ⟨⟨xm_27, _, rfl, by decide, (xt_in 12 rfl (List.mem_of_getElem? (i := 1) rfl)), (xt_in 12 rfl (List.mem_of_getElem? (i := 2) rfl)), (xt_in 12 rfl (List.mem_of_getElem? (i := 3) rfl)), rfl, rfl, rfl⟩,
  fun _ h => absurd h List.not_mem_nil⟩⟩⟩⟩⟩⟩⟩⟩⟩⟩⟩⟩⟩⟩⟩⟩⟩⟩
def xt_cp4 : List (Nat × Nat × Int) := xt_cp4_0
theorem xt_cp4_ok (L : Nat) (xs : Nat → Int32) : ∀ q ∈ xt_cp4, xr_cpf (xt_T L xs) xt_GW xt_ST xt_AO "HexTemplates$Nodes" q := xt_cp4_0_ok L xs
def xt_cp5_0 : List (Nat × Nat × Int) := [(3, 11, 0), (9, 1, 256), (9, 4, 256), (15, 1, 257), (15, 4, 257), (19, 1, 258), (19, 2, 258), (23, 1, 259), (23, 2, 259), (26, 1, 260), (26, 2, 260), (29, 1, 261), (29, 2, 261), (32, 8, 37), (36, 8, 42), (40, 8, 46), (43, 8, 43), (47, 1, 449), (47, 2, 449), (52, 8, 44), (55, 8, 96), (58, 8, 38), (61, 1, 1), (66, 1, 0), (70, 8, 40), (73, 8, 97), (77, 1, 452), (80, 1, 453), (83, 8, 39), (86, 8, 45)]
theorem xt_cp5_0_ok (L : Nat) (xs : Nat → Int32) : ∀ q ∈ xt_cp5_0, xr_cpf (xt_T L xs) xt_GW xt_ST xt_AO "HexTemplates$Parser" q := by
  unfold xt_cp5_0
  exact List.forall_mem_cons.mpr ⟨⟨(xt_in 2 rfl (List.mem_of_getElem? (i := 15) rfl)), (xt_in 1 rfl (List.mem_of_getElem? (i := 33) rfl)), (xt_in 1 rfl (List.mem_of_getElem? (i := 34) rfl))⟩,
  List.forall_mem_cons.mpr ⟨⟨RX4, TX4, 6, rfl, by decide, (xt_in 2 rfl (List.mem_of_getElem? (i := 16) rfl))⟩,
  List.forall_mem_cons.mpr ⟨⟨RX4, TX4, 6, (.object "HexTemplates$Bytes"), rfl, by decide, (xt_in 2 rfl (List.mem_of_getElem? (i := 16) rfl)), by decide +kernel, Or.inr (Or.inr ⟨rfl, Or.inl ⟨_, rfl⟩⟩), rfl, fun h => nomatch h⟩,
  List.forall_mem_cons.mpr ⟨⟨RX4, TX4, 6, rfl, by decide, (xt_in 2 rfl (List.mem_of_getElem? (i := 17) rfl))⟩,
  List.forall_mem_cons.mpr ⟨⟨RX4, TX4, 6, (.object "HexTemplates$Template"), rfl, by decide, (xt_in 2 rfl (List.mem_of_getElem? (i := 17) rfl)), by decide +kernel, Or.inr (Or.inr ⟨rfl, Or.inl ⟨_, rfl⟩⟩), rfl, fun h => nomatch h⟩,
  List.forall_mem_cons.mpr ⟨⟨RX4, TX4, 6, rfl, by decide, (xt_in 2 rfl (List.mem_of_getElem? (i := 18) rfl))⟩,
  List.forall_mem_cons.mpr ⟨⟨RX4, TX4, 6, .int, rfl, by decide, (xt_in 2 rfl (List.mem_of_getElem? (i := 18) rfl)), by decide +kernel, Or.inl ⟨rfl, rfl⟩, rfl, fun h => nomatch h⟩,
  List.forall_mem_cons.mpr ⟨⟨RX4, TX4, 6, rfl, by decide, (xt_in 2 rfl (List.mem_of_getElem? (i := 19) rfl))⟩,
  List.forall_mem_cons.mpr ⟨⟨RX4, TX4, 6, .int, rfl, by decide, (xt_in 2 rfl (List.mem_of_getElem? (i := 19) rfl)), by decide +kernel, Or.inl ⟨rfl, rfl⟩, rfl, fun h => nomatch h⟩,
  List.forall_mem_cons.mpr ⟨⟨RX4, TX4, 6, rfl, by decide, (xt_in 2 rfl (List.mem_of_getElem? (i := 20) rfl))⟩,
  List.forall_mem_cons.mpr ⟨⟨RX4, TX4, 6, .int, rfl, by decide, (xt_in 2 rfl (List.mem_of_getElem? (i := 20) rfl)), by decide +kernel, Or.inl ⟨rfl, rfl⟩, rfl, fun h => nomatch h⟩,
  List.forall_mem_cons.mpr ⟨⟨RX4, TX4, 6, rfl, by decide, (xt_in 2 rfl (List.mem_of_getElem? (i := 21) rfl))⟩,
  List.forall_mem_cons.mpr ⟨⟨RX4, TX4, 6, .int, rfl, by decide, (xt_in 2 rfl (List.mem_of_getElem? (i := 21) rfl)), by decide +kernel, Or.inl ⟨rfl, rfl⟩, rfl, fun h => nomatch h⟩,
  List.forall_mem_cons.mpr ⟨⟨xm_37, _, rfl, by decide, (xt_in 7 rfl (List.mem_of_getElem? (i := 37) rfl)), (xt_in 7 rfl (List.mem_of_getElem? (i := 38) rfl)), (xt_in 0 rfl (List.mem_of_getElem? (i := 2) rfl)), rfl, rfl, rfl⟩,
  List.forall_mem_cons.mpr ⟨⟨xm_42, _, rfl, by decide, (xt_in 8 rfl (List.mem_of_getElem? (i := 7) rfl)), (xt_in 8 rfl (List.mem_of_getElem? (i := 8) rfl)), (xt_in 0 rfl (List.mem_of_getElem? (i := 4) rfl)), rfl, rfl, rfl⟩,
  List.forall_mem_cons.mpr ⟨⟨xm_46, _, rfl, by decide, (xt_in 8 rfl (List.mem_of_getElem? (i := 20) rfl)), (xt_in 8 rfl (List.mem_of_getElem? (i := 21) rfl)), (xt_in 0 rfl (List.mem_of_getElem? (i := 7) rfl)), rfl, rfl, rfl⟩,
  List.forall_mem_cons.mpr ⟨⟨xm_43, _, rfl, by decide, (xt_in 9 rfl (List.mem_of_getElem? (i := 34) rfl)), (xt_in 9 rfl (List.mem_of_getElem? (i := 35) rfl)), (xt_in 0 rfl (List.mem_of_getElem? (i := 17) rfl)), rfl, rfl, rfl⟩,
  List.forall_mem_cons.mpr ⟨⟨RX7, TX7, 21, rfl, by decide, (xt_in 6 rfl (List.mem_of_getElem? (i := 19) rfl))⟩,
  List.forall_mem_cons.mpr ⟨⟨RX7, TX7, 21, .int, rfl, by decide, (xt_in 6 rfl (List.mem_of_getElem? (i := 19) rfl)), by decide +kernel, Or.inl ⟨rfl, rfl⟩, rfl, fun h => nomatch h⟩,
  List.forall_mem_cons.mpr ⟨⟨xm_44, _, rfl, by decide, (xt_in 10 rfl (List.mem_of_getElem? (i := 0) rfl)), (xt_in 10 rfl (List.mem_of_getElem? (i := 1) rfl)), (xt_in 0 rfl (List.mem_of_getElem? (i := 19) rfl)), rfl, rfl, rfl⟩,
  List.forall_mem_cons.mpr ⟨⟨xm_96, _, rfl, by decide, (xt_in 8 rfl (List.mem_of_getElem? (i := 0) rfl)), (xt_in 8 rfl (List.mem_of_getElem? (i := 1) rfl)), (xt_in 8 rfl (List.mem_of_getElem? (i := 2) rfl)), rfl, rfl, rfl⟩,
  List.forall_mem_cons.mpr ⟨⟨xm_38, _, rfl, by decide, (xt_in 8 rfl (List.mem_of_getElem? (i := 4) rfl)), (xt_in 8 rfl (List.mem_of_getElem? (i := 5) rfl)), (xt_in 0 rfl (List.mem_of_getElem? (i := 3) rfl)), rfl, rfl, rfl⟩,
  List.forall_mem_cons.mpr ⟨⟨RX0, TX0, 2, rfl, by decide, (xt_in 2 rfl (List.mem_of_getElem? (i := 6) rfl))⟩,
  List.forall_mem_cons.mpr ⟨⟨RX0, TX0, 2, rfl, by decide, (xt_in 2 rfl (List.mem_of_getElem? (i := 2) rfl))⟩,
  List.forall_mem_cons.mpr ⟨⟨xm_40, _, rfl, by decide, (xt_in 8 rfl (List.mem_of_getElem? (i := 10) rfl)), (xt_in 8 rfl (List.mem_of_getElem? (i := 11) rfl)), (xt_in 0 rfl (List.mem_of_getElem? (i := 5) rfl)), rfl, rfl, rfl⟩,
  List.forall_mem_cons.mpr ⟨⟨xm_97, _, rfl, by decide, (xt_in 8 rfl (List.mem_of_getElem? (i := 13) rfl)), (xt_in 8 rfl (List.mem_of_getElem? (i := 14) rfl)), (xt_in 8 rfl (List.mem_of_getElem? (i := 15) rfl)), rfl, rfl, rfl⟩,
  List.forall_mem_cons.mpr ⟨⟨RX7, TX7, 21, rfl, by decide, (xt_in 6 rfl (List.mem_of_getElem? (i := 26) rfl))⟩,
  List.forall_mem_cons.mpr ⟨⟨RX7, TX7, 21, rfl, by decide, (xt_in 6 rfl (List.mem_of_getElem? (i := 29) rfl))⟩,
  List.forall_mem_cons.mpr ⟨⟨xm_39, _, rfl, by decide, (xt_in 8 rfl (List.mem_of_getElem? (i := 17) rfl)), (xt_in 8 rfl (List.mem_of_getElem? (i := 18) rfl)), (xt_in 0 rfl (List.mem_of_getElem? (i := 6) rfl)), rfl, rfl, rfl⟩,
  List.forall_mem_cons.mpr ⟨⟨xm_45, _, rfl, by decide, (xt_in 9 rfl (List.mem_of_getElem? (i := 37) rfl)), (xt_in 9 rfl (List.mem_of_getElem? (i := 38) rfl)), (xt_in 0 rfl (List.mem_of_getElem? (i := 18) rfl)), rfl, rfl, rfl⟩,
  fun _ h => absurd h List.not_mem_nil⟩⟩⟩⟩⟩⟩⟩⟩⟩⟩⟩⟩⟩⟩⟩⟩⟩⟩⟩⟩⟩⟩⟩⟩⟩⟩⟩⟩⟩⟩
def xt_cp5_1 : List (Nat × Nat × Int) := [(89, 1, 451), (92, 1, 456), (95, 1, 467), (98, 1, 468), (101, 8, 98), (105, 1, 458), (108, 8, 47), (111, 1, 457), (114, 8, 54), (117, 8, 50), (120, 8, 51), (123, 1, 459), (126, 1, 463), (129, 1, 464), (132, 8, 48), (135, 8, 49), (138, 8, 52), (141, 8, 103), (144, 1, 460), (147, 1, 465), (150, 1, 466), (153, 8, 53), (157, 1, 461), (160, 1, 450), (163, 8, 41), (166, 8, 99), (169, 8, 102), (173, 1, 462), (176, 10, 22), (181, 8, 101)]
theorem xt_cp5_1_ok (L : Nat) (xs : Nat → Int32) : ∀ q ∈ xt_cp5_1, xr_cpf (xt_T L xs) xt_GW xt_ST xt_AO "HexTemplates$Parser" q := by
  unfold xt_cp5_1
  exact List.forall_mem_cons.mpr ⟨⟨RX7, TX7, 21, rfl, by decide, (xt_in 6 rfl (List.mem_of_getElem? (i := 23) rfl))⟩,
  List.forall_mem_cons.mpr ⟨⟨RX7, TX7, 21, rfl, by decide, (xt_in 6 rfl (List.mem_of_getElem? (i := 35) rfl))⟩,
  List.forall_mem_cons.mpr ⟨⟨RX7, TX7, 21, rfl, by decide, (xt_in 7 rfl (List.mem_of_getElem? (i := 29) rfl))⟩,
  List.forall_mem_cons.mpr ⟨⟨RX7, TX7, 21, rfl, by decide, (xt_in 7 rfl (List.mem_of_getElem? (i := 32) rfl))⟩,
  List.forall_mem_cons.mpr ⟨⟨xm_98, _, rfl, by decide, (xt_in 8 rfl (List.mem_of_getElem? (i := 23) rfl)), (xt_in 8 rfl (List.mem_of_getElem? (i := 24) rfl)), (xt_in 8 rfl (List.mem_of_getElem? (i := 25) rfl)), rfl, rfl, rfl⟩,
  List.forall_mem_cons.mpr ⟨⟨RX7, TX7, 21, rfl, by decide, (xt_in 7 rfl (List.mem_of_getElem? (i := 2) rfl))⟩,
  List.forall_mem_cons.mpr ⟨⟨xm_47, _, rfl, by decide, (xt_in 8 rfl (List.mem_of_getElem? (i := 27) rfl)), (xt_in 8 rfl (List.mem_of_getElem? (i := 28) rfl)), (xt_in 0 rfl (List.mem_of_getElem? (i := 8) rfl)), rfl, rfl, rfl⟩,
  List.forall_mem_cons.mpr ⟨⟨RX7, TX7, 21, rfl, by decide, (xt_in 6 rfl (List.mem_of_getElem? (i := 39) rfl))⟩,
  List.forall_mem_cons.mpr ⟨⟨xm_54, _, rfl, by decide, (xt_in 9 rfl (List.mem_of_getElem? (i := 30) rfl)), (xt_in 9 rfl (List.mem_of_getElem? (i := 31) rfl)), (xt_in 0 rfl (List.mem_of_getElem? (i := 16) rfl)), rfl, rfl, rfl⟩,
  List.forall_mem_cons.mpr ⟨⟨xm_50, _, rfl, by decide, (xt_in 8 rfl (List.mem_of_getElem? (i := 30) rfl)), (xt_in 8 rfl (List.mem_of_getElem? (i := 31) rfl)), (xt_in 0 rfl (List.mem_of_getElem? (i := 9) rfl)), rfl, rfl, rfl⟩,
  List.forall_mem_cons.mpr ⟨⟨xm_51, _, rfl, by decide, (xt_in 9 rfl (List.mem_of_getElem? (i := 0) rfl)), (xt_in 9 rfl (List.mem_of_getElem? (i := 1) rfl)), (xt_in 0 rfl (List.mem_of_getElem? (i := 11) rfl)), rfl, rfl, rfl⟩,
  List.forall_mem_cons.mpr ⟨⟨RX7, TX7, 21, rfl, by decide, (xt_in 7 rfl (List.mem_of_getElem? (i := 5) rfl))⟩,
  List.forall_mem_cons.mpr ⟨⟨RX7, TX7, 21, rfl, by decide, (xt_in 7 rfl (List.mem_of_getElem? (i := 17) rfl))⟩,
  List.forall_mem_cons.mpr ⟨⟨RX7, TX7, 21, rfl, by decide, (xt_in 7 rfl (List.mem_of_getElem? (i := 20) rfl))⟩,
  List.forall_mem_cons.mpr ⟨⟨xm_48, _, rfl, by decide, (xt_in 8 rfl (List.mem_of_getElem? (i := 33) rfl)), (xt_in 8 rfl (List.mem_of_getElem? (i := 34) rfl)), (xt_in 0 rfl (List.mem_of_getElem? (i := 10) rfl)), rfl, rfl, rfl⟩,
  List.forall_mem_cons.mpr ⟨⟨xm_49, _, rfl, by decide, (xt_in 9 rfl (List.mem_of_getElem? (i := 27) rfl)), (xt_in 9 rfl (List.mem_of_getElem? (i := 28) rfl)), (xt_in 0 rfl (List.mem_of_getElem? (i := 15) rfl)), rfl, rfl, rfl⟩,
  List.forall_mem_cons.mpr ⟨⟨xm_52, _, rfl, by decide, (xt_in 9 rfl (List.mem_of_getElem? (i := 12) rfl)), (xt_in 9 rfl (List.mem_of_getElem? (i := 13) rfl)), (xt_in 0 rfl (List.mem_of_getElem? (i := 14) rfl)), rfl, rfl, rfl⟩,
  List.forall_mem_cons.mpr ⟨⟨xm_103, _, rfl, by decide, (xt_in 8 rfl (List.mem_of_getElem? (i := 36) rfl)), (xt_in 8 rfl (List.mem_of_getElem? (i := 37) rfl)), (xt_in 8 rfl (List.mem_of_getElem? (i := 38) rfl)), rfl, rfl, rfl⟩,
  List.forall_mem_cons.mpr ⟨⟨RX7, TX7, 21, rfl, by decide, (xt_in 7 rfl (List.mem_of_getElem? (i := 8) rfl))⟩,
  List.forall_mem_cons.mpr ⟨⟨RX7, TX7, 21, rfl, by decide, (xt_in 7 rfl (List.mem_of_getElem? (i := 23) rfl))⟩,
  List.forall_mem_cons.mpr ⟨⟨RX7, TX7, 21, rfl, by decide, (xt_in 7 rfl (List.mem_of_getElem? (i := 26) rfl))⟩,
  List.forall_mem_cons.mpr ⟨⟨xm_53, _, rfl, by decide, (xt_in 9 rfl (List.mem_of_getElem? (i := 3) rfl)), (xt_in 9 rfl (List.mem_of_getElem? (i := 4) rfl)), (xt_in 0 rfl (List.mem_of_getElem? (i := 12) rfl)), rfl, rfl, rfl⟩,
  List.forall_mem_cons.mpr ⟨⟨RX7, TX7, 21, rfl, by decide, (xt_in 7 rfl (List.mem_of_getElem? (i := 10) rfl))⟩,
  List.forall_mem_cons.mpr ⟨⟨RX7, TX7, 21, rfl, by decide, (xt_in 6 rfl (List.mem_of_getElem? (i := 21) rfl))⟩,
  List.forall_mem_cons.mpr ⟨⟨xm_41, _, rfl, by decide, (xt_in 9 rfl (List.mem_of_getElem? (i := 6) rfl)), (xt_in 9 rfl (List.mem_of_getElem? (i := 7) rfl)), (xt_in 0 rfl (List.mem_of_getElem? (i := 13) rfl)), rfl, rfl, rfl⟩,
  List.forall_mem_cons.mpr ⟨⟨xm_99, _, rfl, by decide, (xt_in 9 rfl (List.mem_of_getElem? (i := 15) rfl)), (xt_in 9 rfl (List.mem_of_getElem? (i := 16) rfl)), (xt_in 9 rfl (List.mem_of_getElem? (i := 17) rfl)), rfl, rfl, rfl⟩,
  List.forall_mem_cons.mpr ⟨⟨xm_102, _, rfl, by decide, (xt_in 9 rfl (List.mem_of_getElem? (i := 23) rfl)), (xt_in 9 rfl (List.mem_of_getElem? (i := 24) rfl)), (xt_in 9 rfl (List.mem_of_getElem? (i := 25) rfl)), rfl, rfl, rfl⟩,
  List.forall_mem_cons.mpr ⟨⟨RX7, TX7, 21, rfl, by decide, (xt_in 7 rfl (List.mem_of_getElem? (i := 14) rfl))⟩,
  List.forall_mem_cons.mpr ⟨⟨xm_22, rfl, by decide, (xt_in 9 rfl (List.mem_of_getElem? (i := 9) rfl)), (xt_in 9 rfl (List.mem_of_getElem? (i := 10) rfl))⟩,
  List.forall_mem_cons.mpr ⟨⟨xm_101, _, rfl, by decide, (xt_in 9 rfl (List.mem_of_getElem? (i := 33) rfl)), (xt_in 9 rfl (List.mem_of_getElem? (i := 20) rfl)), (xt_in 9 rfl (List.mem_of_getElem? (i := 21) rfl)), rfl, rfl, rfl⟩,
  fun _ h => absurd h List.not_mem_nil⟩⟩⟩⟩⟩⟩⟩⟩⟩⟩⟩⟩⟩⟩⟩⟩⟩⟩⟩⟩⟩⟩⟩⟩⟩⟩⟩⟩⟩⟩
def xt_cp5 : List (Nat × Nat × Int) := xt_cp5_0 ++ (xt_cp5_1)
theorem xt_cp5_ok (L : Nat) (xs : Nat → Int32) : ∀ q ∈ xt_cp5, xr_cpf (xt_T L xs) xt_GW xt_ST xt_AO "HexTemplates$Parser" q := List.forall_mem_append.mpr ⟨xt_cp5_0_ok L xs, xt_cp5_1_ok L xs⟩
def xt_cp6_0 : List (Nat × Nat × Int) := [(3, 11, 0), (9, 12, 3), (11, 9, 26), (12, 1, 320), (12, 7, 320), (18, 1, 321), (18, 4, 321), (22, 1, 322), (22, 4, 322), (26, 1, 323), (26, 2, 323), (30, 1, 324), (30, 2, 324), (33, 1, 325), (33, 2, 325), (36, 2, 326), (39, 1, 327), (39, 2, 327), (42, 1, 328), (42, 7, 328), (46, 1, 329), (46, 7, 329), (49, 1, 330), (49, 7, 330), (52, 1, 199), (52, 2, 199), (55, 1, 449), (60, 8, 59), (64, 8, 28), (68, 8, 57)]
theorem xt_cp6_0_ok (L : Nat) (xs : Nat → Int32) : ∀ q ∈ xt_cp6_0, xr_cpf (xt_T L xs) xt_GW xt_ST xt_AO "HexTemplates$Reader" q := by
  unfold xt_cp6_0
  exact List.forall_mem_cons.mpr ⟨⟨(xt_in 3 rfl (List.mem_of_getElem? (i := 0) rfl)), (xt_in 1 rfl (List.mem_of_getElem? (i := 33) rfl)), (xt_in 1 rfl (List.mem_of_getElem? (i := 34) rfl))⟩,
  List.forall_mem_cons.mpr ⟨⟨RX3, TX3, 8, rfl, (xt_in 3 rfl (List.mem_of_getElem? (i := 1) rfl))⟩,
  List.forall_mem_cons.mpr ⟨⟨xm_26, rfl, by decide, Or.inr ⟨"HexTemplates", (xt_in 3 rfl (List.mem_of_getElem? (i := 3) rfl))⟩, rfl, (xt_in 3 rfl (List.mem_of_getElem? (i := 4) rfl)), rfl, rfl⟩,
  List.forall_mem_cons.mpr ⟨⟨RX5, TX5, 11, rfl, by decide, (xt_in 3 rfl (List.mem_of_getElem? (i := 35) rfl))⟩,
  List.forall_mem_cons.mpr ⟨⟨RX5, TX5, 11, (.object "HexTemplates$Nodes"), rfl, by decide, (xt_in 3 rfl (List.mem_of_getElem? (i := 35) rfl)), by decide +kernel, Or.inr (Or.inr ⟨rfl, Or.inl ⟨_, rfl⟩⟩), rfl, fun _ => rfl⟩,
  List.forall_mem_cons.mpr ⟨⟨RX5, TX5, 11, rfl, by decide, (xt_in 3 rfl (List.mem_of_getElem? (i := 38) rfl))⟩,
  List.forall_mem_cons.mpr ⟨⟨RX5, TX5, 11, (.object "HexTemplates$Template"), rfl, by decide, (xt_in 3 rfl (List.mem_of_getElem? (i := 38) rfl)), by decide +kernel, Or.inr (Or.inr ⟨rfl, Or.inl ⟨_, rfl⟩⟩), rfl, fun h => nomatch h⟩,
  List.forall_mem_cons.mpr ⟨⟨RX5, TX5, 11, rfl, by decide, (xt_in 3 rfl (List.mem_of_getElem? (i := 39) rfl))⟩,
  List.forall_mem_cons.mpr ⟨⟨RX5, TX5, 11, (.object "HexTemplates$Bytes"), rfl, by decide, (xt_in 3 rfl (List.mem_of_getElem? (i := 39) rfl)), by decide +kernel, Or.inr (Or.inr ⟨rfl, Or.inl ⟨_, rfl⟩⟩), rfl, fun h => nomatch h⟩,
  List.forall_mem_cons.mpr ⟨⟨RX5, TX5, 11, rfl, by decide, (xt_in 4 rfl (List.mem_of_getElem? (i := 0) rfl))⟩,
  List.forall_mem_cons.mpr ⟨⟨RX5, TX5, 11, .int, rfl, by decide, (xt_in 4 rfl (List.mem_of_getElem? (i := 0) rfl)), by decide +kernel, Or.inl ⟨rfl, rfl⟩, rfl, fun h => nomatch h⟩,
  List.forall_mem_cons.mpr ⟨⟨RX5, TX5, 11, rfl, by decide, (xt_in 4 rfl (List.mem_of_getElem? (i := 2) rfl))⟩,
  List.forall_mem_cons.mpr ⟨⟨RX5, TX5, 11, .int, rfl, by decide, (xt_in 4 rfl (List.mem_of_getElem? (i := 2) rfl)), by decide +kernel, Or.inl ⟨rfl, rfl⟩, rfl, fun h => nomatch h⟩,
  List.forall_mem_cons.mpr ⟨⟨RX5, TX5, 11, rfl, by decide, (xt_in 4 rfl (List.mem_of_getElem? (i := 3) rfl))⟩,
  List.forall_mem_cons.mpr ⟨⟨RX5, TX5, 11, .int, rfl, by decide, (xt_in 4 rfl (List.mem_of_getElem? (i := 3) rfl)), by decide +kernel, Or.inl ⟨rfl, rfl⟩, rfl, fun h => nomatch h⟩,
  List.forall_mem_cons.mpr ⟨⟨RX5, TX5, 11, .int, rfl, by decide, (xt_in 4 rfl (List.mem_of_getElem? (i := 5) rfl)), by decide +kernel, Or.inl ⟨rfl, rfl⟩, rfl, fun h => nomatch h⟩,
  List.forall_mem_cons.mpr ⟨⟨RX5, TX5, 11, rfl, by decide, (xt_in 4 rfl (List.mem_of_getElem? (i := 7) rfl))⟩,
  List.forall_mem_cons.mpr ⟨⟨RX5, TX5, 11, .int, rfl, by decide, (xt_in 4 rfl (List.mem_of_getElem? (i := 7) rfl)), by decide +kernel, Or.inl ⟨rfl, rfl⟩, rfl, fun h => nomatch h⟩,
  List.forall_mem_cons.mpr ⟨⟨RX5, TX5, 11, rfl, by decide, (xt_in 4 rfl (List.mem_of_getElem? (i := 9) rfl))⟩,
  List.forall_mem_cons.mpr ⟨⟨RX5, TX5, 11, (.array .int), rfl, by decide, (xt_in 4 rfl (List.mem_of_getElem? (i := 9) rfl)), by decide +kernel, Or.inr (Or.inr ⟨rfl, Or.inr ⟨_, rfl⟩⟩), rfl, fun _ => rfl⟩,
  List.forall_mem_cons.mpr ⟨⟨RX5, TX5, 11, rfl, by decide, (xt_in 4 rfl (List.mem_of_getElem? (i := 10) rfl))⟩,
  List.forall_mem_cons.mpr ⟨⟨RX5, TX5, 11, (.array .int), rfl, by decide, (xt_in 4 rfl (List.mem_of_getElem? (i := 10) rfl)), by decide +kernel, Or.inr (Or.inr ⟨rfl, Or.inr ⟨_, rfl⟩⟩), rfl, fun _ => rfl⟩,
  List.forall_mem_cons.mpr ⟨⟨RX5, TX5, 11, rfl, by decide, (xt_in 4 rfl (List.mem_of_getElem? (i := 11) rfl))⟩,
  List.forall_mem_cons.mpr ⟨⟨RX5, TX5, 11, (.array .int), rfl, by decide, (xt_in 4 rfl (List.mem_of_getElem? (i := 11) rfl)), by decide +kernel, Or.inr (Or.inr ⟨rfl, Or.inr ⟨_, rfl⟩⟩), rfl, fun _ => rfl⟩,
  List.forall_mem_cons.mpr ⟨⟨RX3, TX3, 8, rfl, by decide, (xt_in 3 rfl (List.mem_of_getElem? (i := 32) rfl))⟩,
  List.forall_mem_cons.mpr ⟨⟨RX3, TX3, 8, .int, rfl, by decide, (xt_in 3 rfl (List.mem_of_getElem? (i := 32) rfl)), by decide +kernel, Or.inl ⟨rfl, rfl⟩, rfl, fun h => nomatch h⟩,
  List.forall_mem_cons.mpr ⟨⟨RX7, TX7, 21, rfl, by decide, (xt_in 6 rfl (List.mem_of_getElem? (i := 18) rfl))⟩,
  List.forall_mem_cons.mpr ⟨⟨xm_59, _, rfl, by decide, (xt_in 10 rfl (List.mem_of_getElem? (i := 31) rfl)), (xt_in 10 rfl (List.mem_of_getElem? (i := 32) rfl)), (xt_in 0 rfl (List.mem_of_getElem? (i := 22) rfl)), rfl, rfl, rfl⟩,
  List.forall_mem_cons.mpr ⟨⟨xm_28, _, rfl, by decide, (xt_in 11 rfl (List.mem_of_getElem? (i := 0) rfl)), (xt_in 11 rfl (List.mem_of_getElem? (i := 1) rfl)), (xt_in 11 rfl (List.mem_of_getElem? (i := 2) rfl)), rfl, rfl, rfl⟩,
  List.forall_mem_cons.mpr ⟨⟨xm_57, _, rfl, by decide, (xt_in 10 rfl (List.mem_of_getElem? (i := 34) rfl)), (xt_in 10 rfl (List.mem_of_getElem? (i := 35) rfl)), (xt_in 0 rfl (List.mem_of_getElem? (i := 23) rfl)), rfl, rfl, rfl⟩,
  fun _ h => absurd h List.not_mem_nil⟩⟩⟩⟩⟩⟩⟩⟩⟩⟩⟩⟩⟩⟩⟩⟩⟩⟩⟩⟩⟩⟩⟩⟩⟩⟩⟩⟩⟩⟩
def xt_cp6_1 : List (Nat × Nat × Int) := [(72, 8, 58), (76, 1, 453), (79, 8, 60), (83, 8, 73), (87, 1, 452), (90, 1, 457), (93, 8, 29), (97, 1, 458), (100, 8, 66), (103, 8, 68), (106, 8, 61), (109, 8, 100), (113, 8, 64), (116, 8, 65), (120, 8, 63), (123, 8, 62), (126, 1, 460), (129, 1, 459), (132, 1, 1), (137, 8, 2), (140, 1, 467), (143, 1, 468), (146, 8, 75), (150, 8, 72), (153, 1, 463), (156, 1, 464), (159, 8, 67), (163, 1, 456), (166, 1, 465), (169, 8, 70)]
theorem xt_cp6_1_ok (L : Nat) (xs : Nat → Int32) : ∀ q ∈ xt_cp6_1, xr_cpf (xt_T L xs) xt_GW xt_ST xt_AO "HexTemplates$Reader" q := by
  unfold xt_cp6_1
  exact List.forall_mem_cons.mpr ⟨⟨xm_58, _, rfl, by decide, (xt_in 10 rfl (List.mem_of_getElem? (i := 37) rfl)), (xt_in 10 rfl (List.mem_of_getElem? (i := 38) rfl)), (xt_in 0 rfl (List.mem_of_getElem? (i := 24) rfl)), rfl, rfl, rfl⟩,
  List.forall_mem_cons.mpr ⟨⟨RX7, TX7, 21, rfl, by decide, (xt_in 6 rfl (List.mem_of_getElem? (i := 28) rfl))⟩,
  List.forall_mem_cons.mpr ⟨⟨xm_60, _, rfl, by decide, (xt_in 11 rfl (List.mem_of_getElem? (i := 4) rfl)), (xt_in 11 rfl (List.mem_of_getElem? (i := 5) rfl)), (xt_in 0 rfl (List.mem_of_getElem? (i := 25) rfl)), rfl, rfl, rfl⟩,
  List.forall_mem_cons.mpr ⟨⟨xm_73, _, rfl, by decide, (xt_in 12 rfl (List.mem_of_getElem? (i := 27) rfl)), (xt_in 12 rfl (List.mem_of_getElem? (i := 28) rfl)), (xt_in 0 rfl (List.mem_of_getElem? (i := 39) rfl)), rfl, rfl, rfl⟩,
  List.forall_mem_cons.mpr ⟨⟨RX7, TX7, 21, rfl, by decide, (xt_in 6 rfl (List.mem_of_getElem? (i := 25) rfl))⟩,
  List.forall_mem_cons.mpr ⟨⟨RX7, TX7, 21, rfl, by decide, (xt_in 6 rfl (List.mem_of_getElem? (i := 38) rfl))⟩,
  List.forall_mem_cons.mpr ⟨⟨xm_29, _, rfl, by decide, (xt_in 11 rfl (List.mem_of_getElem? (i := 37) rfl)), (xt_in 11 rfl (List.mem_of_getElem? (i := 38) rfl)), (xt_in 11 rfl (List.mem_of_getElem? (i := 39) rfl)), rfl, rfl, rfl⟩,
  List.forall_mem_cons.mpr ⟨⟨RX7, TX7, 21, rfl, by decide, (xt_in 7 rfl (List.mem_of_getElem? (i := 1) rfl))⟩,
  List.forall_mem_cons.mpr ⟨⟨xm_66, _, rfl, by decide, (xt_in 11 rfl (List.mem_of_getElem? (i := 7) rfl)), (xt_in 11 rfl (List.mem_of_getElem? (i := 8) rfl)), (xt_in 0 rfl (List.mem_of_getElem? (i := 26) rfl)), rfl, rfl, rfl⟩,
  List.forall_mem_cons.mpr ⟨⟨xm_68, _, rfl, by decide, (xt_in 11 rfl (List.mem_of_getElem? (i := 13) rfl)), (xt_in 11 rfl (List.mem_of_getElem? (i := 14) rfl)), (xt_in 0 rfl (List.mem_of_getElem? (i := 28) rfl)), rfl, rfl, rfl⟩,
  List.forall_mem_cons.mpr ⟨⟨xm_61, _, rfl, by decide, (xt_in 12 rfl (List.mem_of_getElem? (i := 5) rfl)), (xt_in 12 rfl (List.mem_of_getElem? (i := 6) rfl)), (xt_in 0 rfl (List.mem_of_getElem? (i := 33) rfl)), rfl, rfl, rfl⟩,
  List.forall_mem_cons.mpr ⟨⟨xm_100, _, rfl, by decide, (xt_in 12 rfl (List.mem_of_getElem? (i := 8) rfl)), (xt_in 12 rfl (List.mem_of_getElem? (i := 9) rfl)), (xt_in 12 rfl (List.mem_of_getElem? (i := 10) rfl)), rfl, rfl, rfl⟩,
  List.forall_mem_cons.mpr ⟨⟨xm_64, _, rfl, by decide, (xt_in 12 rfl (List.mem_of_getElem? (i := 12) rfl)), (xt_in 12 rfl (List.mem_of_getElem? (i := 13) rfl)), (xt_in 0 rfl (List.mem_of_getElem? (i := 34) rfl)), rfl, rfl, rfl⟩,
  List.forall_mem_cons.mpr ⟨⟨xm_65, _, rfl, by decide, (xt_in 12 rfl (List.mem_of_getElem? (i := 15) rfl)), (xt_in 12 rfl (List.mem_of_getElem? (i := 16) rfl)), (xt_in 0 rfl (List.mem_of_getElem? (i := 35) rfl)), rfl, rfl, rfl⟩,
  List.forall_mem_cons.mpr ⟨⟨xm_63, _, rfl, by decide, (xt_in 12 rfl (List.mem_of_getElem? (i := 18) rfl)), (xt_in 12 rfl (List.mem_of_getElem? (i := 19) rfl)), (xt_in 0 rfl (List.mem_of_getElem? (i := 36) rfl)), rfl, rfl, rfl⟩,
  List.forall_mem_cons.mpr ⟨⟨xm_62, _, rfl, by decide, (xt_in 12 rfl (List.mem_of_getElem? (i := 24) rfl)), (xt_in 12 rfl (List.mem_of_getElem? (i := 25) rfl)), (xt_in 0 rfl (List.mem_of_getElem? (i := 38) rfl)), rfl, rfl, rfl⟩,
  List.forall_mem_cons.mpr ⟨⟨RX7, TX7, 21, rfl, by decide, (xt_in 7 rfl (List.mem_of_getElem? (i := 7) rfl))⟩,
  List.forall_mem_cons.mpr ⟨⟨RX7, TX7, 21, rfl, by decide, (xt_in 7 rfl (List.mem_of_getElem? (i := 4) rfl))⟩,
  List.forall_mem_cons.mpr ⟨⟨RX0, TX0, 2, rfl, by decide, (xt_in 2 rfl (List.mem_of_getElem? (i := 8) rfl))⟩,
  List.forall_mem_cons.mpr ⟨⟨xm_2, _, rfl, by decide, (xt_in 11 rfl (List.mem_of_getElem? (i := 33) rfl)), (xt_in 6 rfl (List.mem_of_getElem? (i := 0) rfl)), (xt_in 6 rfl (List.mem_of_getElem? (i := 1) rfl)), rfl, rfl, rfl⟩,
  List.forall_mem_cons.mpr ⟨⟨RX7, TX7, 21, rfl, by decide, (xt_in 7 rfl (List.mem_of_getElem? (i := 28) rfl))⟩,
  List.forall_mem_cons.mpr ⟨⟨RX7, TX7, 21, rfl, by decide, (xt_in 7 rfl (List.mem_of_getElem? (i := 31) rfl))⟩,
  List.forall_mem_cons.mpr ⟨⟨xm_75, _, rfl, by decide, (xt_in 12 rfl (List.mem_of_getElem? (i := 21) rfl)), (xt_in 12 rfl (List.mem_of_getElem? (i := 22) rfl)), (xt_in 0 rfl (List.mem_of_getElem? (i := 37) rfl)), rfl, rfl, rfl⟩,
  List.forall_mem_cons.mpr ⟨⟨xm_72, _, rfl, by decide, (xt_in 11 rfl (List.mem_of_getElem? (i := 16) rfl)), (xt_in 11 rfl (List.mem_of_getElem? (i := 17) rfl)), (xt_in 0 rfl (List.mem_of_getElem? (i := 29) rfl)), rfl, rfl, rfl⟩,
  List.forall_mem_cons.mpr ⟨⟨RX7, TX7, 21, rfl, by decide, (xt_in 7 rfl (List.mem_of_getElem? (i := 16) rfl))⟩,
  List.forall_mem_cons.mpr ⟨⟨RX7, TX7, 21, rfl, by decide, (xt_in 7 rfl (List.mem_of_getElem? (i := 19) rfl))⟩,
  List.forall_mem_cons.mpr ⟨⟨xm_67, _, rfl, by decide, (xt_in 11 rfl (List.mem_of_getElem? (i := 10) rfl)), (xt_in 11 rfl (List.mem_of_getElem? (i := 11) rfl)), (xt_in 0 rfl (List.mem_of_getElem? (i := 27) rfl)), rfl, rfl, rfl⟩,
  List.forall_mem_cons.mpr ⟨⟨RX7, TX7, 21, rfl, by decide, (xt_in 6 rfl (List.mem_of_getElem? (i := 36) rfl))⟩,
  List.forall_mem_cons.mpr ⟨⟨RX7, TX7, 21, rfl, by decide, (xt_in 7 rfl (List.mem_of_getElem? (i := 22) rfl))⟩,
  List.forall_mem_cons.mpr ⟨⟨xm_70, _, rfl, by decide, (xt_in 11 rfl (List.mem_of_getElem? (i := 27) rfl)), (xt_in 11 rfl (List.mem_of_getElem? (i := 28) rfl)), (xt_in 0 rfl (List.mem_of_getElem? (i := 30) rfl)), rfl, rfl, rfl⟩,
  fun _ h => absurd h List.not_mem_nil⟩⟩⟩⟩⟩⟩⟩⟩⟩⟩⟩⟩⟩⟩⟩⟩⟩⟩⟩⟩⟩⟩⟩⟩⟩⟩⟩⟩⟩⟩
def xt_cp6_2 : List (Nat × Nat × Int) := [(172, 8, 71), (175, 8, 69), (178, 1, 466), (181, 1, 461), (184, 1, 462), (187, 1, 454), (190, 1, 455), (193, 15, -99999), (195, 15, 99999), (197, 10, 25), (203, 10, 23), (206, 8, 74), (209, 8, 27), (212, 1, 198), (215, 8, 76), (218, 1, 197), (221, 8, 31), (224, 8, 77), (227, 1, 196), (230, 1, 194), (233, 1, 195), (235, 8, 78), (238, 8, 81), (241, 1, 192), (244, 8, 85)]
theorem xt_cp6_2_ok (L : Nat) (xs : Nat → Int32) : ∀ q ∈ xt_cp6_2, xr_cpf (xt_T L xs) xt_GW xt_ST xt_AO "HexTemplates$Reader" q := by
  unfold xt_cp6_2
  exact List.forall_mem_cons.mpr ⟨⟨xm_71, _, rfl, by decide, (xt_in 11 rfl (List.mem_of_getElem? (i := 30) rfl)), (xt_in 11 rfl (List.mem_of_getElem? (i := 31) rfl)), (xt_in 0 rfl (List.mem_of_getElem? (i := 31) rfl)), rfl, rfl, rfl⟩,
  List.forall_mem_cons.mpr ⟨⟨xm_69, _, rfl, by decide, (xt_in 11 rfl (List.mem_of_getElem? (i := 34) rfl)), (xt_in 11 rfl (List.mem_of_getElem? (i := 35) rfl)), (xt_in 0 rfl (List.mem_of_getElem? (i := 32) rfl)), rfl, rfl, rfl⟩,
  List.forall_mem_cons.mpr ⟨⟨RX7, TX7, 21, rfl, by decide, (xt_in 7 rfl (List.mem_of_getElem? (i := 25) rfl))⟩,
  List.forall_mem_cons.mpr ⟨⟨RX7, TX7, 21, rfl, by decide, (xt_in 7 rfl (List.mem_of_getElem? (i := 11) rfl))⟩,
  List.forall_mem_cons.mpr ⟨⟨RX7, TX7, 21, rfl, by decide, (xt_in 7 rfl (List.mem_of_getElem? (i := 13) rfl))⟩,
  List.forall_mem_cons.mpr ⟨⟨RX7, TX7, 21, rfl, by decide, (xt_in 6 rfl (List.mem_of_getElem? (i := 31) rfl))⟩,
  List.forall_mem_cons.mpr ⟨⟨RX7, TX7, 21, rfl, by decide, (xt_in 6 rfl (List.mem_of_getElem? (i := 33) rfl))⟩,
  List.forall_mem_cons.mpr ⟨(show Cond.constantLong "HexTemplates$Reader" 193 (Int64.ofInt (-99999)) ∈ xt_GW from (by rw [show Int64.ofInt (-99999) = (-99999 : Int64) from by decide +kernel]; exact (xt_in 11 rfl (List.mem_of_getElem? (i := 19) rfl)))),
  List.forall_mem_cons.mpr ⟨(show Cond.constantLong "HexTemplates$Reader" 195 (Int64.ofInt (99999)) ∈ xt_GW from (by rw [show Int64.ofInt (99999) = (99999 : Int64) from by decide +kernel]; exact (xt_in 11 rfl (List.mem_of_getElem? (i := 20) rfl)))),
  List.forall_mem_cons.mpr ⟨⟨xm_25, rfl, by decide, (xt_in 11 rfl (List.mem_of_getElem? (i := 21) rfl)), (xt_in 11 rfl (List.mem_of_getElem? (i := 22) rfl))⟩,
  List.forall_mem_cons.mpr ⟨⟨xm_23, rfl, by decide, (xt_in 11 rfl (List.mem_of_getElem? (i := 24) rfl)), (xt_in 11 rfl (List.mem_of_getElem? (i := 25) rfl))⟩,
  List.forall_mem_cons.mpr ⟨⟨xm_74, _, rfl, by decide, (xt_in 12 rfl (List.mem_of_getElem? (i := 30) rfl)), (xt_in 12 rfl (List.mem_of_getElem? (i := 31) rfl)), (xt_in 1 rfl (List.mem_of_getElem? (i := 0) rfl)), rfl, rfl, rfl⟩,
  List.forall_mem_cons.mpr ⟨⟨xm_27, _, rfl, by decide, (xt_in 13 rfl (List.mem_of_getElem? (i := 3) rfl)), (xt_in 12 rfl (List.mem_of_getElem? (i := 2) rfl)), (xt_in 12 rfl (List.mem_of_getElem? (i := 3) rfl)), rfl, rfl, rfl⟩,
  List.forall_mem_cons.mpr ⟨⟨RX3, TX3, 8, rfl, by decide, (xt_in 3 rfl (List.mem_of_getElem? (i := 30) rfl))⟩,
  List.forall_mem_cons.mpr ⟨⟨xm_76, _, rfl, by decide, (xt_in 14 rfl (List.mem_of_getElem? (i := 14) rfl)), (xt_in 14 rfl (List.mem_of_getElem? (i := 7) rfl)), (xt_in 14 rfl (List.mem_of_getElem? (i := 8) rfl)), rfl, rfl, rfl⟩,
  List.forall_mem_cons.mpr ⟨⟨RX3, TX3, 8, rfl, by decide, (xt_in 3 rfl (List.mem_of_getElem? (i := 27) rfl))⟩,
  List.forall_mem_cons.mpr ⟨⟨xm_31, _, rfl, by decide, (xt_in 14 rfl (List.mem_of_getElem? (i := 15) rfl)), (xt_in 14 rfl (List.mem_of_getElem? (i := 16) rfl)), (xt_in 14 rfl (List.mem_of_getElem? (i := 17) rfl)), rfl, rfl, rfl⟩,
  List.forall_mem_cons.mpr ⟨⟨xm_77, _, rfl, by decide, (xt_in 15 rfl (List.mem_of_getElem? (i := 6) rfl)), (xt_in 14 rfl (List.mem_of_getElem? (i := 11) rfl)), (xt_in 14 rfl (List.mem_of_getElem? (i := 12) rfl)), rfl, rfl, rfl⟩,
  List.forall_mem_cons.mpr ⟨⟨RX3, TX3, 8, rfl, by decide, (xt_in 3 rfl (List.mem_of_getElem? (i := 24) rfl))⟩,
  List.forall_mem_cons.mpr ⟨⟨RX3, TX3, 8, rfl, by decide, (xt_in 3 rfl (List.mem_of_getElem? (i := 16) rfl))⟩,
  List.forall_mem_cons.mpr ⟨⟨RX3, TX3, 8, rfl, by decide, (xt_in 3 rfl (List.mem_of_getElem? (i := 20) rfl))⟩,
  List.forall_mem_cons.mpr ⟨⟨xm_78, _, rfl, by decide, (xt_in 15 rfl (List.mem_of_getElem? (i := 26) rfl)), (xt_in 15 rfl (List.mem_of_getElem? (i := 3) rfl)), (xt_in 15 rfl (List.mem_of_getElem? (i := 4) rfl)), rfl, rfl, rfl⟩,
  List.forall_mem_cons.mpr ⟨⟨xm_81, _, rfl, by decide, (xt_in 13 rfl (List.mem_of_getElem? (i := 8) rfl)), (xt_in 13 rfl (List.mem_of_getElem? (i := 9) rfl)), (xt_in 13 rfl (List.mem_of_getElem? (i := 10) rfl)), rfl, rfl, rfl⟩,
  List.forall_mem_cons.mpr ⟨⟨RX3, TX3, 8, rfl, by decide, (xt_in 3 rfl (List.mem_of_getElem? (i := 10) rfl))⟩,
  List.forall_mem_cons.mpr ⟨⟨xm_85, _, rfl, by decide, (xt_in 13 rfl (List.mem_of_getElem? (i := 4) rfl)), (xt_in 13 rfl (List.mem_of_getElem? (i := 5) rfl)), (xt_in 13 rfl (List.mem_of_getElem? (i := 6) rfl)), rfl, rfl, rfl⟩,
  fun _ h => absurd h List.not_mem_nil⟩⟩⟩⟩⟩⟩⟩⟩⟩⟩⟩⟩⟩⟩⟩⟩⟩⟩⟩⟩⟩⟩⟩⟩⟩
def xt_cp6 : List (Nat × Nat × Int) := xt_cp6_0 ++ (xt_cp6_1 ++ (xt_cp6_2))
theorem xt_cp6_ok (L : Nat) (xs : Nat → Int32) : ∀ q ∈ xt_cp6, xr_cpf (xt_T L xs) xt_GW xt_ST xt_AO "HexTemplates$Reader" q := List.forall_mem_append.mpr ⟨xt_cp6_0_ok L xs, List.forall_mem_append.mpr ⟨xt_cp6_1_ok L xs, xt_cp6_2_ok L xs⟩⟩
def xt_cp7_0 : List (Nat × Nat × Int) := [(3, 11, 0), (9, 1, 384), (9, 7, 384), (15, 1, 385), (15, 7, 385), (18, 1, 386), (18, 7, 386), (21, 1, 387), (21, 2, 387), (25, 1, 388), (25, 2, 388), (36, 8, 88), (40, 1, 1), (45, 8, 2)]
theorem xt_cp7_0_ok (L : Nat) (xs : Nat → Int32) : ∀ q ∈ xt_cp7_0, xr_cpf (xt_T L xs) xt_GW xt_ST xt_AO "HexTemplates$States" q := by
  unfold xt_cp7_0
  exact List.forall_mem_cons.mpr ⟨⟨(xt_in 2 rfl (List.mem_of_getElem? (i := 28) rfl)), (xt_in 1 rfl (List.mem_of_getElem? (i := 33) rfl)), (xt_in 1 rfl (List.mem_of_getElem? (i := 34) rfl))⟩,
  List.forall_mem_cons.mpr ⟨⟨RX6, TX6, 5, rfl, by decide, (xt_in 2 rfl (List.mem_of_getElem? (i := 29) rfl))⟩,
  List.forall_mem_cons.mpr ⟨⟨RX6, TX6, 5, (.array .int), rfl, by decide, (xt_in 2 rfl (List.mem_of_getElem? (i := 29) rfl)), by decide +kernel, Or.inr (Or.inr ⟨rfl, Or.inr ⟨_, rfl⟩⟩), rfl, fun _ => rfl⟩,
  List.forall_mem_cons.mpr ⟨⟨RX6, TX6, 5, rfl, by decide, (xt_in 2 rfl (List.mem_of_getElem? (i := 30) rfl))⟩,
  List.forall_mem_cons.mpr ⟨⟨RX6, TX6, 5, (.array .int), rfl, by decide, (xt_in 2 rfl (List.mem_of_getElem? (i := 30) rfl)), by decide +kernel, Or.inr (Or.inr ⟨rfl, Or.inr ⟨_, rfl⟩⟩), rfl, fun _ => rfl⟩,
  List.forall_mem_cons.mpr ⟨⟨RX6, TX6, 5, rfl, by decide, (xt_in 2 rfl (List.mem_of_getElem? (i := 31) rfl))⟩,
  List.forall_mem_cons.mpr ⟨⟨RX6, TX6, 5, (.array .int), rfl, by decide, (xt_in 2 rfl (List.mem_of_getElem? (i := 31) rfl)), by decide +kernel, Or.inr (Or.inr ⟨rfl, Or.inr ⟨_, rfl⟩⟩), rfl, fun _ => rfl⟩,
  List.forall_mem_cons.mpr ⟨⟨RX6, TX6, 5, rfl, by decide, (xt_in 2 rfl (List.mem_of_getElem? (i := 32) rfl))⟩,
  List.forall_mem_cons.mpr ⟨⟨RX6, TX6, 5, .int, rfl, by decide, (xt_in 2 rfl (List.mem_of_getElem? (i := 32) rfl)), by decide +kernel, Or.inl ⟨rfl, rfl⟩, rfl, fun h => nomatch h⟩,
  List.forall_mem_cons.mpr ⟨⟨RX6, TX6, 5, rfl, by decide, (xt_in 2 rfl (List.mem_of_getElem? (i := 33) rfl))⟩,
  List.forall_mem_cons.mpr ⟨⟨RX6, TX6, 5, .int, rfl, by decide, (xt_in 2 rfl (List.mem_of_getElem? (i := 33) rfl)), by decide +kernel, Or.inl ⟨rfl, rfl⟩, rfl, fun h => nomatch h⟩,
  List.forall_mem_cons.mpr ⟨⟨xm_88, _, rfl, by decide, (xt_in 5 rfl (List.mem_of_getElem? (i := 38) rfl)), (xt_in 5 rfl (List.mem_of_getElem? (i := 21) rfl)), (xt_in 5 rfl (List.mem_of_getElem? (i := 22) rfl)), rfl, rfl, rfl⟩,
  List.forall_mem_cons.mpr ⟨⟨RX0, TX0, 2, rfl, by decide, (xt_in 2 rfl (List.mem_of_getElem? (i := 7) rfl))⟩,
  List.forall_mem_cons.mpr ⟨⟨xm_2, _, rfl, by decide, (xt_in 5 rfl (List.mem_of_getElem? (i := 39) rfl)), (xt_in 6 rfl (List.mem_of_getElem? (i := 0) rfl)), (xt_in 6 rfl (List.mem_of_getElem? (i := 1) rfl)), rfl, rfl, rfl⟩,
  fun _ h => absurd h List.not_mem_nil⟩⟩⟩⟩⟩⟩⟩⟩⟩⟩⟩⟩⟩⟩
def xt_cp7 : List (Nat × Nat × Int) := xt_cp7_0
theorem xt_cp7_ok (L : Nat) (xs : Nat → Int32) : ∀ q ∈ xt_cp7, xr_cpf (xt_T L xs) xt_GW xt_ST xt_AO "HexTemplates$States" q := xt_cp7_0_ok L xs
def xt_cp8_0 : List (Nat × Nat × Int) := [(3, 11, 0), (9, 2, 448), (15, 1, 449), (15, 2, 449), (18, 1, 450), (18, 2, 450), (21, 1, 451), (21, 2, 451), (24, 1, 452), (24, 7, 452), (28, 1, 453), (28, 7, 453), (31, 1, 454), (31, 7, 454), (34, 1, 455), (34, 7, 455), (37, 1, 456), (37, 7, 456), (40, 1, 457), (40, 7, 457), (43, 1, 458), (43, 7, 458), (46, 7, 459), (49, 7, 460), (52, 7, 461), (55, 7, 462), (58, 7, 463), (61, 7, 464), (64, 7, 465), (67, 7, 466)]
theorem xt_cp8_0_ok (L : Nat) (xs : Nat → Int32) : ∀ q ∈ xt_cp8_0, xr_cpf (xt_T L xs) xt_GW xt_ST xt_AO "HexTemplates$Template" q := by
  unfold xt_cp8_0
  exact List.forall_mem_cons.mpr ⟨⟨(xt_in 6 rfl (List.mem_of_getElem? (i := 14) rfl)), (xt_in 1 rfl (List.mem_of_getElem? (i := 33) rfl)), (xt_in 1 rfl (List.mem_of_getElem? (i := 34) rfl))⟩,
  List.forall_mem_cons.mpr ⟨⟨RX7, TX7, 21, .int, rfl, by decide, (xt_in 6 rfl (List.mem_of_getElem? (i := 15) rfl)), by decide +kernel, Or.inl ⟨rfl, rfl⟩, rfl, fun h => nomatch h⟩,
  List.forall_mem_cons.mpr ⟨⟨RX7, TX7, 21, rfl, by decide, (xt_in 6 rfl (List.mem_of_getElem? (i := 17) rfl))⟩,
  List.forall_mem_cons.mpr ⟨⟨RX7, TX7, 21, .int, rfl, by decide, (xt_in 6 rfl (List.mem_of_getElem? (i := 17) rfl)), by decide +kernel, Or.inl ⟨rfl, rfl⟩, rfl, fun h => nomatch h⟩,
  List.forall_mem_cons.mpr ⟨⟨RX7, TX7, 21, rfl, by decide, (xt_in 6 rfl (List.mem_of_getElem? (i := 20) rfl))⟩,
  List.forall_mem_cons.mpr ⟨⟨RX7, TX7, 21, .int, rfl, by decide, (xt_in 6 rfl (List.mem_of_getElem? (i := 20) rfl)), by decide +kernel, Or.inl ⟨rfl, rfl⟩, rfl, fun h => nomatch h⟩,
  List.forall_mem_cons.mpr ⟨⟨RX7, TX7, 21, rfl, by decide, (xt_in 6 rfl (List.mem_of_getElem? (i := 22) rfl))⟩,
  List.forall_mem_cons.mpr ⟨⟨RX7, TX7, 21, .int, rfl, by decide, (xt_in 6 rfl (List.mem_of_getElem? (i := 22) rfl)), by decide +kernel, Or.inl ⟨rfl, rfl⟩, rfl, fun h => nomatch h⟩,
  List.forall_mem_cons.mpr ⟨⟨RX7, TX7, 21, rfl, by decide, (xt_in 6 rfl (List.mem_of_getElem? (i := 24) rfl))⟩,
  List.forall_mem_cons.mpr ⟨⟨RX7, TX7, 21, (.array .int), rfl, by decide, (xt_in 6 rfl (List.mem_of_getElem? (i := 24) rfl)), by decide +kernel, Or.inr (Or.inr ⟨rfl, Or.inr ⟨_, rfl⟩⟩), rfl, fun _ => rfl⟩,
  List.forall_mem_cons.mpr ⟨⟨RX7, TX7, 21, rfl, by decide, (xt_in 6 rfl (List.mem_of_getElem? (i := 27) rfl))⟩,
  List.forall_mem_cons.mpr ⟨⟨RX7, TX7, 21, (.array .int), rfl, by decide, (xt_in 6 rfl (List.mem_of_getElem? (i := 27) rfl)), by decide +kernel, Or.inr (Or.inr ⟨rfl, Or.inr ⟨_, rfl⟩⟩), rfl, fun _ => rfl⟩,
  List.forall_mem_cons.mpr ⟨⟨RX7, TX7, 21, rfl, by decide, (xt_in 6 rfl (List.mem_of_getElem? (i := 30) rfl))⟩,
  List.forall_mem_cons.mpr ⟨⟨RX7, TX7, 21, (.array .int), rfl, by decide, (xt_in 6 rfl (List.mem_of_getElem? (i := 30) rfl)), by decide +kernel, Or.inr (Or.inr ⟨rfl, Or.inr ⟨_, rfl⟩⟩), rfl, fun _ => rfl⟩,
  List.forall_mem_cons.mpr ⟨⟨RX7, TX7, 21, rfl, by decide, (xt_in 6 rfl (List.mem_of_getElem? (i := 32) rfl))⟩,
  List.forall_mem_cons.mpr ⟨⟨RX7, TX7, 21, (.array .int), rfl, by decide, (xt_in 6 rfl (List.mem_of_getElem? (i := 32) rfl)), by decide +kernel, Or.inr (Or.inr ⟨rfl, Or.inr ⟨_, rfl⟩⟩), rfl, fun _ => rfl⟩,
  List.forall_mem_cons.mpr ⟨⟨RX7, TX7, 21, rfl, by decide, (xt_in 6 rfl (List.mem_of_getElem? (i := 34) rfl))⟩,
  List.forall_mem_cons.mpr ⟨⟨RX7, TX7, 21, (.array .int), rfl, by decide, (xt_in 6 rfl (List.mem_of_getElem? (i := 34) rfl)), by decide +kernel, Or.inr (Or.inr ⟨rfl, Or.inr ⟨_, rfl⟩⟩), rfl, fun _ => rfl⟩,
  List.forall_mem_cons.mpr ⟨⟨RX7, TX7, 21, rfl, by decide, (xt_in 6 rfl (List.mem_of_getElem? (i := 37) rfl))⟩,
  List.forall_mem_cons.mpr ⟨⟨RX7, TX7, 21, (.array .int), rfl, by decide, (xt_in 6 rfl (List.mem_of_getElem? (i := 37) rfl)), by decide +kernel, Or.inr (Or.inr ⟨rfl, Or.inr ⟨_, rfl⟩⟩), rfl, fun _ => rfl⟩,
  List.forall_mem_cons.mpr ⟨⟨RX7, TX7, 21, rfl, by decide, (xt_in 7 rfl (List.mem_of_getElem? (i := 0) rfl))⟩,
  List.forall_mem_cons.mpr ⟨⟨RX7, TX7, 21, (.array .int), rfl, by decide, (xt_in 7 rfl (List.mem_of_getElem? (i := 0) rfl)), by decide +kernel, Or.inr (Or.inr ⟨rfl, Or.inr ⟨_, rfl⟩⟩), rfl, fun _ => rfl⟩,
  List.forall_mem_cons.mpr ⟨⟨RX7, TX7, 21, (.array .int), rfl, by decide, (xt_in 7 rfl (List.mem_of_getElem? (i := 3) rfl)), by decide +kernel, Or.inr (Or.inr ⟨rfl, Or.inr ⟨_, rfl⟩⟩), rfl, fun _ => rfl⟩,
  List.forall_mem_cons.mpr ⟨⟨RX7, TX7, 21, (.array .int), rfl, by decide, (xt_in 7 rfl (List.mem_of_getElem? (i := 6) rfl)), by decide +kernel, Or.inr (Or.inr ⟨rfl, Or.inr ⟨_, rfl⟩⟩), rfl, fun _ => rfl⟩,
  List.forall_mem_cons.mpr ⟨⟨RX7, TX7, 21, (.array .int), rfl, by decide, (xt_in 7 rfl (List.mem_of_getElem? (i := 9) rfl)), by decide +kernel, Or.inr (Or.inr ⟨rfl, Or.inr ⟨_, rfl⟩⟩), rfl, fun _ => rfl⟩,
  List.forall_mem_cons.mpr ⟨⟨RX7, TX7, 21, (.array .int), rfl, by decide, (xt_in 7 rfl (List.mem_of_getElem? (i := 12) rfl)), by decide +kernel, Or.inr (Or.inr ⟨rfl, Or.inr ⟨_, rfl⟩⟩), rfl, fun _ => rfl⟩,
  List.forall_mem_cons.mpr ⟨⟨RX7, TX7, 21, (.array .int), rfl, by decide, (xt_in 7 rfl (List.mem_of_getElem? (i := 15) rfl)), by decide +kernel, Or.inr (Or.inr ⟨rfl, Or.inr ⟨_, rfl⟩⟩), rfl, fun _ => rfl⟩,
  List.forall_mem_cons.mpr ⟨⟨RX7, TX7, 21, (.array .int), rfl, by decide, (xt_in 7 rfl (List.mem_of_getElem? (i := 18) rfl)), by decide +kernel, Or.inr (Or.inr ⟨rfl, Or.inr ⟨_, rfl⟩⟩), rfl, fun _ => rfl⟩,
  List.forall_mem_cons.mpr ⟨⟨RX7, TX7, 21, (.array .int), rfl, by decide, (xt_in 7 rfl (List.mem_of_getElem? (i := 21) rfl)), by decide +kernel, Or.inr (Or.inr ⟨rfl, Or.inr ⟨_, rfl⟩⟩), rfl, fun _ => rfl⟩,
  List.forall_mem_cons.mpr ⟨⟨RX7, TX7, 21, (.array .int), rfl, by decide, (xt_in 7 rfl (List.mem_of_getElem? (i := 24) rfl)), by decide +kernel, Or.inr (Or.inr ⟨rfl, Or.inr ⟨_, rfl⟩⟩), rfl, fun _ => rfl⟩,
  fun _ h => absurd h List.not_mem_nil⟩⟩⟩⟩⟩⟩⟩⟩⟩⟩⟩⟩⟩⟩⟩⟩⟩⟩⟩⟩⟩⟩⟩⟩⟩⟩⟩⟩⟩⟩
def xt_cp8_1 : List (Nat × Nat × Int) := [(70, 7, 467), (73, 7, 468), (76, 8, 101)]
theorem xt_cp8_1_ok (L : Nat) (xs : Nat → Int32) : ∀ q ∈ xt_cp8_1, xr_cpf (xt_T L xs) xt_GW xt_ST xt_AO "HexTemplates$Template" q := by
  unfold xt_cp8_1
  exact List.forall_mem_cons.mpr ⟨⟨RX7, TX7, 21, (.array .int), rfl, by decide, (xt_in 7 rfl (List.mem_of_getElem? (i := 27) rfl)), by decide +kernel, Or.inr (Or.inr ⟨rfl, Or.inr ⟨_, rfl⟩⟩), rfl, fun _ => rfl⟩,
  List.forall_mem_cons.mpr ⟨⟨RX7, TX7, 21, (.array .int), rfl, by decide, (xt_in 7 rfl (List.mem_of_getElem? (i := 30) rfl)), by decide +kernel, Or.inr (Or.inr ⟨rfl, Or.inr ⟨_, rfl⟩⟩), rfl, fun _ => rfl⟩,
  List.forall_mem_cons.mpr ⟨⟨xm_101, _, rfl, by decide, (xt_in 9 rfl (List.mem_of_getElem? (i := 19) rfl)), (xt_in 9 rfl (List.mem_of_getElem? (i := 20) rfl)), (xt_in 9 rfl (List.mem_of_getElem? (i := 21) rfl)), rfl, rfl, rfl⟩,
  fun _ h => absurd h List.not_mem_nil⟩⟩⟩
def xt_cp8 : List (Nat × Nat × Int) := xt_cp8_0 ++ (xt_cp8_1)
theorem xt_cp8_ok (L : Nat) (xs : Nat → Int32) : ∀ q ∈ xt_cp8, xr_cpf (xt_T L xs) xt_GW xt_ST xt_AO "HexTemplates$Template" q := List.forall_mem_append.mpr ⟨xt_cp8_0_ok L xs, xt_cp8_1_ok L xs⟩
def xt_cp9_0 : List (Nat × Nat × Int) := [(7, 14, 51797), (8, 14, 2957131), (9, 14, 2147483647), (10, 8, 124), (11, 12, 8), (16, 8, 125), (20, 8, 126), (24, 8, 123), (27, 8, 127), (35, 8, 105), (39, 10, 94), (45, 10, 111), (49, 8, 116), (52, 8, 108), (55, 8, 110), (58, 8, 113), (61, 8, 114), (65, 8, 117), (68, 8, 118), (71, 8, 115), (74, 8, 109), (78, 10, 112), (81, 10, 128), (84, 8, 119), (87, 8, 120), (90, 10, 90), (93, 8, 121), (96, 8, 122), (99, 10, 134), (103, 10, 91)]
theorem xt_cp9_0_ok (L : Nat) (xs : Nat → Int32) : ∀ q ∈ xt_cp9_0, xr_cpf (xt_T L xs) xt_GW xt_ST xt_AO "HexTemplatesLaw" q := by
  unfold xt_cp9_0
  exact List.forall_mem_cons.mpr ⟨(show Cond.constant "HexTemplatesLaw" 7 (Int32.ofInt (51797)) ∈ xt_GW from (by rw [show Int32.ofInt (51797) = (51797 : Int32) from by decide +kernel]; exact (xt_in 10 rfl (List.mem_of_getElem? (i := 6) rfl)))),
  List.forall_mem_cons.mpr ⟨(show Cond.constant "HexTemplatesLaw" 8 (Int32.ofInt (2957131)) ∈ xt_GW from (by rw [show Int32.ofInt (2957131) = (2957131 : Int32) from by decide +kernel]; exact (xt_in 10 rfl (List.mem_of_getElem? (i := 7) rfl)))),
  List.forall_mem_cons.mpr ⟨(show Cond.constant "HexTemplatesLaw" 9 (Int32.ofInt (2147483647)) ∈ xt_GW from (by rw [show Int32.ofInt (2147483647) = (2147483647 : Int32) from by decide +kernel]; exact (xt_in 10 rfl (List.mem_of_getElem? (i := 11) rfl)))),
  List.forall_mem_cons.mpr ⟨⟨xm_124, _, rfl, by decide, (xt_in 10 rfl (List.mem_of_getElem? (i := 17) rfl)), (xt_in 10 rfl (List.mem_of_getElem? (i := 18) rfl)), (xt_in 10 rfl (List.mem_of_getElem? (i := 19) rfl)), rfl, rfl, rfl⟩,
  List.forall_mem_cons.mpr ⟨⟨RX8, TX8, 12, rfl, (xt_in 1 rfl (List.mem_of_getElem? (i := 27) rfl))⟩,
  List.forall_mem_cons.mpr ⟨⟨xm_125, _, rfl, by decide, (xt_in 15 rfl (List.mem_of_getElem? (i := 27) rfl)), (xt_in 15 rfl (List.mem_of_getElem? (i := 28) rfl)), (xt_in 15 rfl (List.mem_of_getElem? (i := 29) rfl)), rfl, rfl, rfl⟩,
  List.forall_mem_cons.mpr ⟨⟨xm_126, _, rfl, by decide, (xt_in 16 rfl (List.mem_of_getElem? (i := 0) rfl)), (xt_in 16 rfl (List.mem_of_getElem? (i := 1) rfl)), (xt_in 16 rfl (List.mem_of_getElem? (i := 2) rfl)), rfl, rfl, rfl⟩,
  List.forall_mem_cons.mpr ⟨⟨xm_123, _, rfl, by decide, (xt_in 16 rfl (List.mem_of_getElem? (i := 14) rfl)), (xt_in 16 rfl (List.mem_of_getElem? (i := 15) rfl)), (xt_in 16 rfl (List.mem_of_getElem? (i := 16) rfl)), rfl, rfl, rfl⟩,
  List.forall_mem_cons.mpr ⟨⟨xm_127, _, rfl, by decide, (xt_in 16 rfl (List.mem_of_getElem? (i := 28) rfl)), (xt_in 16 rfl (List.mem_of_getElem? (i := 29) rfl)), (xt_in 16 rfl (List.mem_of_getElem? (i := 30) rfl)), rfl, rfl, rfl⟩,
  List.forall_mem_cons.mpr ⟨⟨xm_105, _, rfl, by decide, (xt_in 5 rfl (List.mem_of_getElem? (i := 5) rfl)), (xt_in 5 rfl (List.mem_of_getElem? (i := 6) rfl)), (xt_in 5 rfl (List.mem_of_getElem? (i := 7) rfl)), rfl, rfl, rfl⟩,
  List.forall_mem_cons.mpr ⟨⟨xm_94, rfl, by decide, (xt_in 16 rfl (List.mem_of_getElem? (i := 38) rfl)), (xt_in 16 rfl (List.mem_of_getElem? (i := 39) rfl))⟩,
  List.forall_mem_cons.mpr ⟨⟨xm_111, rfl, by decide, (xt_in 16 rfl (List.mem_of_getElem? (i := 35) rfl)), (xt_in 16 rfl (List.mem_of_getElem? (i := 36) rfl))⟩,
  List.forall_mem_cons.mpr ⟨⟨xm_116, _, rfl, by decide, (xt_in 18 rfl (List.mem_of_getElem? (i := 4) rfl)), (xt_in 18 rfl (List.mem_of_getElem? (i := 5) rfl)), (xt_in 18 rfl (List.mem_of_getElem? (i := 6) rfl)), rfl, rfl, rfl⟩,
  List.forall_mem_cons.mpr ⟨⟨xm_108, _, rfl, by decide, (xt_in 17 rfl (List.mem_of_getElem? (i := 7) rfl)), (xt_in 17 rfl (List.mem_of_getElem? (i := 8) rfl)), (xt_in 17 rfl (List.mem_of_getElem? (i := 9) rfl)), rfl, rfl, rfl⟩,
  List.forall_mem_cons.mpr ⟨⟨xm_110, _, rfl, by decide, (xt_in 17 rfl (List.mem_of_getElem? (i := 11) rfl)), (xt_in 17 rfl (List.mem_of_getElem? (i := 12) rfl)), (xt_in 17 rfl (List.mem_of_getElem? (i := 13) rfl)), rfl, rfl, rfl⟩,
  List.forall_mem_cons.mpr ⟨⟨xm_113, _, rfl, by decide, (xt_in 17 rfl (List.mem_of_getElem? (i := 15) rfl)), (xt_in 17 rfl (List.mem_of_getElem? (i := 16) rfl)), (xt_in 17 rfl (List.mem_of_getElem? (i := 17) rfl)), rfl, rfl, rfl⟩,
  List.forall_mem_cons.mpr ⟨⟨xm_114, _, rfl, by decide, (xt_in 17 rfl (List.mem_of_getElem? (i := 19) rfl)), (xt_in 17 rfl (List.mem_of_getElem? (i := 20) rfl)), (xt_in 17 rfl (List.mem_of_getElem? (i := 21) rfl)), rfl, rfl, rfl⟩,
  List.forall_mem_cons.mpr ⟨⟨xm_117, _, rfl, by decide, (xt_in 17 rfl (List.mem_of_getElem? (i := 23) rfl)), (xt_in 17 rfl (List.mem_of_getElem? (i := 24) rfl)), (xt_in 17 rfl (List.mem_of_getElem? (i := 25) rfl)), rfl, rfl, rfl⟩,
  List.forall_mem_cons.mpr ⟨⟨xm_118, _, rfl, by decide, (xt_in 17 rfl (List.mem_of_getElem? (i := 28) rfl)), (xt_in 17 rfl (List.mem_of_getElem? (i := 29) rfl)), (xt_in 17 rfl (List.mem_of_getElem? (i := 30) rfl)), rfl, rfl, rfl⟩,
  List.forall_mem_cons.mpr ⟨⟨xm_115, _, rfl, by decide, (xt_in 17 rfl (List.mem_of_getElem? (i := 32) rfl)), (xt_in 17 rfl (List.mem_of_getElem? (i := 33) rfl)), (xt_in 17 rfl (List.mem_of_getElem? (i := 34) rfl)), rfl, rfl, rfl⟩,
  List.forall_mem_cons.mpr ⟨⟨xm_109, _, rfl, by decide, (xt_in 17 rfl (List.mem_of_getElem? (i := 36) rfl)), (xt_in 17 rfl (List.mem_of_getElem? (i := 37) rfl)), (xt_in 17 rfl (List.mem_of_getElem? (i := 38) rfl)), rfl, rfl, rfl⟩,
  List.forall_mem_cons.mpr ⟨⟨xm_112, rfl, by decide, (xt_in 17 rfl (List.mem_of_getElem? (i := 1) rfl)), (xt_in 17 rfl (List.mem_of_getElem? (i := 2) rfl))⟩,
  List.forall_mem_cons.mpr ⟨⟨xm_128, rfl, by decide, (xt_in 18 rfl (List.mem_of_getElem? (i := 1) rfl)), (xt_in 18 rfl (List.mem_of_getElem? (i := 2) rfl))⟩,
  List.forall_mem_cons.mpr ⟨⟨xm_119, _, rfl, by decide, (xt_in 18 rfl (List.mem_of_getElem? (i := 12) rfl)), (xt_in 18 rfl (List.mem_of_getElem? (i := 13) rfl)), (xt_in 18 rfl (List.mem_of_getElem? (i := 14) rfl)), rfl, rfl, rfl⟩,
  List.forall_mem_cons.mpr ⟨⟨xm_120, _, rfl, by decide, (xt_in 18 rfl (List.mem_of_getElem? (i := 23) rfl)), (xt_in 18 rfl (List.mem_of_getElem? (i := 24) rfl)), (xt_in 18 rfl (List.mem_of_getElem? (i := 25) rfl)), rfl, rfl, rfl⟩,
  List.forall_mem_cons.mpr ⟨⟨xm_90, rfl, by decide, (xt_in 10 rfl (List.mem_of_getElem? (i := 8) rfl)), (xt_in 10 rfl (List.mem_of_getElem? (i := 9) rfl))⟩,
  List.forall_mem_cons.mpr ⟨⟨xm_121, _, rfl, by decide, (xt_in 18 rfl (List.mem_of_getElem? (i := 37) rfl)), (xt_in 18 rfl (List.mem_of_getElem? (i := 38) rfl)), (xt_in 18 rfl (List.mem_of_getElem? (i := 39) rfl)), rfl, rfl, rfl⟩,
  List.forall_mem_cons.mpr ⟨⟨xm_122, _, rfl, by decide, (xt_in 19 rfl (List.mem_of_getElem? (i := 1) rfl)), (xt_in 19 rfl (List.mem_of_getElem? (i := 2) rfl)), (xt_in 19 rfl (List.mem_of_getElem? (i := 3) rfl)), rfl, rfl, rfl⟩,
  List.forall_mem_cons.mpr ⟨⟨xm_134, rfl, by decide, (xt_in 19 rfl (List.mem_of_getElem? (i := 9) rfl)), (xt_in 19 rfl (List.mem_of_getElem? (i := 10) rfl))⟩,
  List.forall_mem_cons.mpr ⟨⟨xm_91, rfl, by decide, (xt_in 10 rfl (List.mem_of_getElem? (i := 12) rfl)), (xt_in 10 rfl (List.mem_of_getElem? (i := 13) rfl))⟩,
  fun _ h => absurd h List.not_mem_nil⟩⟩⟩⟩⟩⟩⟩⟩⟩⟩⟩⟩⟩⟩⟩⟩⟩⟩⟩⟩⟩⟩⟩⟩⟩⟩⟩⟩⟩⟩
def xt_cp9_1 : List (Nat × Nat × Int) := [(107, 10, 145), (111, 9, 104), (112, 10, 92), (116, 8, 107), (119, 10, 89), (123, 8, 106), (126, 10, 143), (130, 10, 144), (134, 10, 129)]
theorem xt_cp9_1_ok (L : Nat) (xs : Nat → Int32) : ∀ q ∈ xt_cp9_1, xr_cpf (xt_T L xs) xt_GW xt_ST xt_AO "HexTemplatesLaw" q := by
  unfold xt_cp9_1
  exact List.forall_mem_cons.mpr ⟨⟨xm_145, rfl, by decide, (xt_in 19 rfl (List.mem_of_getElem? (i := 15) rfl)), (xt_in 19 rfl (List.mem_of_getElem? (i := 16) rfl))⟩,
  List.forall_mem_cons.mpr ⟨⟨xm_104, rfl, by decide, Or.inl (xt_in 1 rfl (List.mem_of_getElem? (i := 29) rfl)), rfl, (xt_in 1 rfl (List.mem_of_getElem? (i := 30) rfl)), rfl, rfl⟩,
  List.forall_mem_cons.mpr ⟨⟨xm_92, rfl, by decide, (xt_in 16 rfl (List.mem_of_getElem? (i := 32) rfl)), (xt_in 16 rfl (List.mem_of_getElem? (i := 33) rfl))⟩,
  List.forall_mem_cons.mpr ⟨⟨xm_107, _, rfl, by decide, (xt_in 6 rfl (List.mem_of_getElem? (i := 3) rfl)), (xt_in 6 rfl (List.mem_of_getElem? (i := 4) rfl)), (xt_in 6 rfl (List.mem_of_getElem? (i := 5) rfl)), rfl, rfl, rfl⟩,
  List.forall_mem_cons.mpr ⟨⟨xm_89, rfl, by decide, (xt_in 10 rfl (List.mem_of_getElem? (i := 3) rfl)), (xt_in 10 rfl (List.mem_of_getElem? (i := 4) rfl))⟩,
  List.forall_mem_cons.mpr ⟨⟨xm_106, _, rfl, by decide, (xt_in 5 rfl (List.mem_of_getElem? (i := 16) rfl)), (xt_in 5 rfl (List.mem_of_getElem? (i := 17) rfl)), (xt_in 5 rfl (List.mem_of_getElem? (i := 18) rfl)), rfl, rfl, rfl⟩,
  List.forall_mem_cons.mpr ⟨⟨xm_143, rfl, by decide, (xt_in 19 rfl (List.mem_of_getElem? (i := 6) rfl)), (xt_in 19 rfl (List.mem_of_getElem? (i := 7) rfl))⟩,
  List.forall_mem_cons.mpr ⟨⟨xm_144, rfl, by decide, (xt_in 19 rfl (List.mem_of_getElem? (i := 12) rfl)), (xt_in 19 rfl (List.mem_of_getElem? (i := 13) rfl))⟩,
  List.forall_mem_cons.mpr ⟨⟨xm_129, rfl, by decide, (xt_in 17 rfl (List.mem_of_getElem? (i := 4) rfl)), (xt_in 17 rfl (List.mem_of_getElem? (i := 5) rfl))⟩,
  fun _ h => absurd h List.not_mem_nil⟩⟩⟩⟩⟩⟩⟩⟩⟩
def xt_cp9 : List (Nat × Nat × Int) := xt_cp9_0 ++ (xt_cp9_1)
theorem xt_cp9_ok (L : Nat) (xs : Nat → Int32) : ∀ q ∈ xt_cp9, xr_cpf (xt_T L xs) xt_GW xt_ST xt_AO "HexTemplatesLaw" q := List.forall_mem_append.mpr ⟨xt_cp9_0_ok L xs, xt_cp9_1_ok L xs⟩
end
section
/-! every method is checked -/
theorem xt_arr : Cond.arrayClass .int ∈ xt_GW ∧ Cond.arrayClass .boolean ∈ xt_GW := ⟨(xt_in 2 rfl (List.mem_of_getElem? (i := 9) rfl)), (xt_in 4 rfl (List.mem_of_getElem? (i := 23) rfl))⟩
theorem xr_chk {α : Type} (p : α → Bool) (n s : Nat) (l : List α) (h1 : ((l.drop s).take n).all p = true) (h2 : (l.drop (s + n)).all p = true) : (l.drop s).all p = true := by
  rw [← List.take_append_drop n (l.drop s), List.all_append, h1, List.drop_drop, h2]
  rfl
theorem xk_0_0 : ((xc_0.drop 0).take 40).all (fun q => xr_okb xt_cp9 false xm_0 q.1 q.2.1 q.2.2) = true := by decide +kernel
theorem xk_0_40 : ((xc_0.drop 40).take 40).all (fun q => xr_okb xt_cp9 false xm_0 q.1 q.2.1 q.2.2) = true := by decide +kernel
theorem xk_0_80 : ((xc_0.drop 80).take 40).all (fun q => xr_okb xt_cp9 false xm_0 q.1 q.2.1 q.2.2) = true := by decide +kernel
theorem xk_0_120 : ((xc_0.drop 120).take 40).all (fun q => xr_okb xt_cp9 false xm_0 q.1 q.2.1 q.2.2) = true := by decide +kernel
theorem xk_0_160 : ((xc_0.drop 160).take 40).all (fun q => xr_okb xt_cp9 false xm_0 q.1 q.2.1 q.2.2) = true := by decide +kernel
theorem xk_0_200 : ((xc_0.drop 200).take 40).all (fun q => xr_okb xt_cp9 false xm_0 q.1 q.2.1 q.2.2) = true := by decide +kernel
theorem xk_0_240 : ((xc_0.drop 240).take 40).all (fun q => xr_okb xt_cp9 false xm_0 q.1 q.2.1 q.2.2) = true := by decide +kernel
theorem xk_0_280 : ((xc_0.drop 280).take 40).all (fun q => xr_okb xt_cp9 false xm_0 q.1 q.2.1 q.2.2) = true := by decide +kernel
theorem xk_0_320 : ((xc_0.drop 320).take 40).all (fun q => xr_okb xt_cp9 false xm_0 q.1 q.2.1 q.2.2) = true := by decide +kernel
theorem xk_0_360 : ((xc_0.drop 360).take 40).all (fun q => xr_okb xt_cp9 false xm_0 q.1 q.2.1 q.2.2) = true := by decide +kernel
theorem xk_0_400 : ((xc_0.drop 400).take 40).all (fun q => xr_okb xt_cp9 false xm_0 q.1 q.2.1 q.2.2) = true := by decide +kernel
end
section
/-! methods that are checked -/
theorem xk_0_440 : ((xc_0.drop 440).take 40).all (fun q => xr_okb xt_cp9 false xm_0 q.1 q.2.1 q.2.2) = true := by decide +kernel
theorem xk_0_480 : ((xc_0.drop 480).take 40).all (fun q => xr_okb xt_cp9 false xm_0 q.1 q.2.1 q.2.2) = true := by decide +kernel
theorem xk_0 : xr_cdb xt_cp9 false xm_0 = true := (xr_chk _ 40 0 _ xk_0_0 (xr_chk _ 40 40 _ xk_0_40 (xr_chk _ 40 80 _ xk_0_80 (xr_chk _ 40 120 _ xk_0_120 (xr_chk _ 40 160 _ xk_0_160 (xr_chk _ 40 200 _ xk_0_200 (xr_chk _ 40 240 _ xk_0_240 (xr_chk _ 40 280 _ xk_0_280 (xr_chk _ 40 320 _ xk_0_320 (xr_chk _ 40 360 _ xk_0_360 (xr_chk _ 40 400 _ xk_0_400 (xr_chk _ 40 440 _ xk_0_440 (xr_chk _ 40 480 _ xk_0_480 (by decide +kernel))))))))))))))
set_option maxRecDepth 100000 in
theorem xo_0 (L : Nat) (xs : Nat → Int32) : (∀ (pc : Nat) (i : Instr) (n : Nat), xr_fetch (xr_cd xm_0) pc = some (i, n) → xr_ok (xt_T L xs) xt_GW xt_ST xt_AO xm_0 pc i n) ∧ xr_hok xt_GW xt_NC xm_0 := ⟨xr_cdb_s (T := xt_T L xs) (ST := xt_ST) (AO := xt_AO) (GW := xt_GW) (cp := xt_cp9) (ini := false) (M := xm_0) (xt_cp9_ok L xs) (fun h => Bool.noConfusion h) xt_arr xk_0, (fun _ h => absurd h List.not_mem_nil)⟩
theorem xk_1 : xr_cdb xt_cp1 true xm_1 = true := by decide +kernel
set_option maxRecDepth 100000 in
theorem xo_1 (L : Nat) (xs : Nat → Int32) : (∀ (pc : Nat) (i : Instr) (n : Nat), xr_fetch (xr_cd xm_1) pc = some (i, n) → xr_ok (xt_T L xs) xt_GW xt_ST xt_AO xm_1 pc i n) ∧ xr_hok xt_GW xt_NC xm_1 := ⟨xr_cdb_s (T := xt_T L xs) (ST := xt_ST) (AO := xt_AO) (GW := xt_GW) (cp := xt_cp1) (ini := true) (M := xm_1) (xt_cp1_ok L xs) (fun _ => rfl) xt_arr xk_1, (fun _ h => absurd h List.not_mem_nil)⟩
theorem xl_1 : xr_cal xt_GW xm_1 := ⟨plainFor_of_name (by decide +kernel), (xt_in 1 rfl (List.mem_of_getElem? (i := 39) rfl)), (xt_in 1 rfl (List.mem_of_getElem? (i := 15) rfl)), ⟨by decide +kernel, by decide +kernel⟩, by decide +kernel, by decide⟩
theorem xk_2 : xr_cdb xt_cp1 false xm_2 = true := by decide +kernel
set_option maxRecDepth 100000 in
theorem xo_2 (L : Nat) (xs : Nat → Int32) : (∀ (pc : Nat) (i : Instr) (n : Nat), xr_fetch (xr_cd xm_2) pc = some (i, n) → xr_ok (xt_T L xs) xt_GW xt_ST xt_AO xm_2 pc i n) ∧ xr_hok xt_GW xt_NC xm_2 := ⟨xr_cdb_s (T := xt_T L xs) (ST := xt_ST) (AO := xt_AO) (GW := xt_GW) (cp := xt_cp1) (ini := false) (M := xm_2) (xt_cp1_ok L xs) (fun h => Bool.noConfusion h) xt_arr xk_2, (fun _ h => absurd h List.not_mem_nil)⟩
theorem xl_2 : xr_cal xt_GW xm_2 := ⟨plainFor_of_name (by decide +kernel), (xt_in 6 rfl (List.mem_of_getElem? (i := 2) rfl)), (xt_in 1 rfl (List.mem_of_getElem? (i := 15) rfl)), ⟨by decide +kernel, by decide +kernel⟩, by decide +kernel, by decide⟩
theorem xk_3 : xr_cdb xt_cp1 false xm_3 = true := by decide +kernel
set_option maxRecDepth 100000 in
theorem xo_3 (L : Nat) (xs : Nat → Int32) : (∀ (pc : Nat) (i : Instr) (n : Nat), xr_fetch (xr_cd xm_3) pc = some (i, n) → xr_ok (xt_T L xs) xt_GW xt_ST xt_AO xm_3 pc i n) ∧ xr_hok xt_GW xt_NC xm_3 := ⟨xr_cdb_s (T := xt_T L xs) (ST := xt_ST) (AO := xt_AO) (GW := xt_GW) (cp := xt_cp1) (ini := false) (M := xm_3) (xt_cp1_ok L xs) (fun h => Bool.noConfusion h) xt_arr xk_3, (fun _ h => absurd h List.not_mem_nil)⟩
theorem xl_3 : xr_cal xt_GW xm_3 := ⟨plainFor_of_name (by decide +kernel), (xt_in 13 rfl (List.mem_of_getElem? (i := 33) rfl)), (xt_in 1 rfl (List.mem_of_getElem? (i := 15) rfl)), ⟨by decide +kernel, by decide +kernel⟩, by decide +kernel, by decide⟩
theorem xk_4 : xr_cdb xt_cp1 false xm_4 = true := by decide +kernel
set_option maxRecDepth 100000 in
theorem xo_4 (L : Nat) (xs : Nat → Int32) : (∀ (pc : Nat) (i : Instr) (n : Nat), xr_fetch (xr_cd xm_4) pc = some (i, n) → xr_ok (xt_T L xs) xt_GW xt_ST xt_AO xm_4 pc i n) ∧ xr_hok xt_GW xt_NC xm_4 := ⟨xr_cdb_s (T := xt_T L xs) (ST := xt_ST) (AO := xt_AO) (GW := xt_GW) (cp := xt_cp1) (ini := false) (M := xm_4) (xt_cp1_ok L xs) (fun h => Bool.noConfusion h) xt_arr xk_4, (fun _ h => absurd h List.not_mem_nil)⟩
theorem xl_4 : xr_cal xt_GW xm_4 := ⟨plainFor_of_name (by decide +kernel), (xt_in 5 rfl (List.mem_of_getElem? (i := 15) rfl)), (xt_in 1 rfl (List.mem_of_getElem? (i := 15) rfl)), ⟨by decide +kernel, by decide +kernel⟩, by decide +kernel, by decide⟩
theorem xk_5 : xr_cdb xt_cp1 false xm_5 = true := by decide +kernel
set_option maxRecDepth 100000 in
theorem xo_5 (L : Nat) (xs : Nat → Int32) : (∀ (pc : Nat) (i : Instr) (n : Nat), xr_fetch (xr_cd xm_5) pc = some (i, n) → xr_ok (xt_T L xs) xt_GW xt_ST xt_AO xm_5 pc i n) ∧ xr_hok xt_GW xt_NC xm_5 := ⟨xr_cdb_s (T := xt_T L xs) (ST := xt_ST) (AO := xt_AO) (GW := xt_GW) (cp := xt_cp1) (ini := false) (M := xm_5) (xt_cp1_ok L xs) (fun h => Bool.noConfusion h) xt_arr xk_5, (fun _ h => absurd h List.not_mem_nil)⟩
theorem xl_5 : xr_cal xt_GW xm_5 := ⟨plainFor_of_name (by decide +kernel), (xt_in 5 rfl (List.mem_of_getElem? (i := 27) rfl)), (xt_in 1 rfl (List.mem_of_getElem? (i := 15) rfl)), ⟨by decide +kernel, by decide +kernel⟩, by decide +kernel, by decide⟩
theorem xk_6 : xr_cdb xt_cp1 false xm_6 = true := by decide +kernel
set_option maxRecDepth 100000 in
theorem xo_6 (L : Nat) (xs : Nat → Int32) : (∀ (pc : Nat) (i : Instr) (n : Nat), xr_fetch (xr_cd xm_6) pc = some (i, n) → xr_ok (xt_T L xs) xt_GW xt_ST xt_AO xm_6 pc i n) ∧ xr_hok xt_GW xt_NC xm_6 := ⟨xr_cdb_s (T := xt_T L xs) (ST := xt_ST) (AO := xt_AO) (GW := xt_GW) (cp := xt_cp1) (ini := false) (M := xm_6) (xt_cp1_ok L xs) (fun h => Bool.noConfusion h) xt_arr xk_6, (fun _ h => absurd h List.not_mem_nil)⟩
theorem xl_6 : xr_cal xt_GW xm_6 := ⟨plainFor_of_name (by decide +kernel), (xt_in 14 rfl (List.mem_of_getElem? (i := 26) rfl)), (xt_in 1 rfl (List.mem_of_getElem? (i := 15) rfl)), ⟨by decide +kernel, by decide +kernel⟩, by decide +kernel, by decide⟩
theorem xk_7 : xr_cdb xt_cp1 false xm_7 = true := by decide +kernel
set_option maxRecDepth 100000 in
theorem xo_7 (L : Nat) (xs : Nat → Int32) : (∀ (pc : Nat) (i : Instr) (n : Nat), xr_fetch (xr_cd xm_7) pc = some (i, n) → xr_ok (xt_T L xs) xt_GW xt_ST xt_AO xm_7 pc i n) ∧ xr_hok xt_GW xt_NC xm_7 := ⟨xr_cdb_s (T := xt_T L xs) (ST := xt_ST) (AO := xt_AO) (GW := xt_GW) (cp := xt_cp1) (ini := false) (M := xm_7) (xt_cp1_ok L xs) (fun h => Bool.noConfusion h) xt_arr xk_7, (fun _ h => absurd h List.not_mem_nil)⟩
theorem xl_7 : xr_cal xt_GW xm_7 := ⟨plainFor_of_name (by decide +kernel), (xt_in 15 rfl (List.mem_of_getElem? (i := 39) rfl)), (xt_in 1 rfl (List.mem_of_getElem? (i := 15) rfl)), ⟨by decide +kernel, by decide +kernel⟩, by decide +kernel, by decide⟩
theorem xk_8 : xr_cdb xt_cp1 false xm_8 = true := by decide +kernel
set_option maxRecDepth 100000 in
theorem xo_8 (L : Nat) (xs : Nat → Int32) : (∀ (pc : Nat) (i : Instr) (n : Nat), xr_fetch (xr_cd xm_8) pc = some (i, n) → xr_ok (xt_T L xs) xt_GW xt_ST xt_AO xm_8 pc i n) ∧ xr_hok xt_GW xt_NC xm_8 := ⟨xr_cdb_s (T := xt_T L xs) (ST := xt_ST) (AO := xt_AO) (GW := xt_GW) (cp := xt_cp1) (ini := false) (M := xm_8) (xt_cp1_ok L xs) (fun h => Bool.noConfusion h) xt_arr xk_8, (fun _ h => absurd h List.not_mem_nil)⟩
theorem xl_8 : xr_cal xt_GW xm_8 := ⟨plainFor_of_name (by decide +kernel), (xt_in 16 rfl (List.mem_of_getElem? (i := 11) rfl)), (xt_in 1 rfl (List.mem_of_getElem? (i := 15) rfl)), ⟨by decide +kernel, by decide +kernel⟩, by decide +kernel, by decide⟩
theorem xk_9 : xr_cdb xt_cp2 true xm_9 = true := by decide +kernel
set_option maxRecDepth 100000 in
theorem xo_9 (L : Nat) (xs : Nat → Int32) : (∀ (pc : Nat) (i : Instr) (n : Nat), xr_fetch (xr_cd xm_9) pc = some (i, n) → xr_ok (xt_T L xs) xt_GW xt_ST xt_AO xm_9 pc i n) ∧ xr_hok xt_GW xt_NC xm_9 := ⟨xr_cdb_s (T := xt_T L xs) (ST := xt_ST) (AO := xt_AO) (GW := xt_GW) (cp := xt_cp2) (ini := true) (M := xm_9) (xt_cp2_ok L xs) (fun _ => rfl) xt_arr xk_9, (fun _ h => absurd h List.not_mem_nil)⟩
theorem xl_9 : xr_cal xt_GW xm_9 := ⟨plainFor_of_name (by decide +kernel), (xt_in 4 rfl (List.mem_of_getElem? (i := 16) rfl)), (xt_in 1 rfl (List.mem_of_getElem? (i := 20) rfl)), ⟨by decide +kernel, by decide +kernel⟩, by decide +kernel, by decide⟩
theorem xk_10 : xr_cdb xt_cp2 false xm_10 = true := by decide +kernel
set_option maxRecDepth 100000 in
theorem xo_10 (L : Nat) (xs : Nat → Int32) : (∀ (pc : Nat) (i : Instr) (n : Nat), xr_fetch (xr_cd xm_10) pc = some (i, n) → xr_ok (xt_T L xs) xt_GW xt_ST xt_AO xm_10 pc i n) ∧ xr_hok xt_GW xt_NC xm_10 := ⟨xr_cdb_s (T := xt_T L xs) (ST := xt_ST) (AO := xt_AO) (GW := xt_GW) (cp := xt_cp2) (ini := false) (M := xm_10) (xt_cp2_ok L xs) (fun h => Bool.noConfusion h) xt_arr xk_10, (fun _ h => absurd h List.not_mem_nil)⟩
theorem xl_10 : xr_cal xt_GW xm_10 := ⟨plainFor_of_name (by decide +kernel), (xt_in 13 rfl (List.mem_of_getElem? (i := 19) rfl)), (xt_in 1 rfl (List.mem_of_getElem? (i := 20) rfl)), ⟨by decide +kernel, by decide +kernel⟩, by decide +kernel, by decide⟩
theorem xk_11_0 : ((xc_11.drop 0).take 40).all (fun q => xr_okb xt_cp2 false xm_11 q.1 q.2.1 q.2.2) = true := by decide +kernel
theorem xk_11_40 : ((xc_11.drop 40).take 40).all (fun q => xr_okb xt_cp2 false xm_11 q.1 q.2.1 q.2.2) = true := by decide +kernel
theorem xk_11 : xr_cdb xt_cp2 false xm_11 = true := (xr_chk _ 40 0 _ xk_11_0 (xr_chk _ 40 40 _ xk_11_40 (by decide +kernel)))
set_option maxRecDepth 100000 in
theorem xo_11 (L : Nat) (xs : Nat → Int32) : (∀ (pc : Nat) (i : Instr) (n : Nat), xr_fetch (xr_cd xm_11) pc = some (i, n) → xr_ok (xt_T L xs) xt_GW xt_ST xt_AO xm_11 pc i n) ∧ xr_hok xt_GW xt_NC xm_11 := ⟨xr_cdb_s (T := xt_T L xs) (ST := xt_ST) (AO := xt_AO) (GW := xt_GW) (cp := xt_cp2) (ini := false) (M := xm_11) (xt_cp2_ok L xs) (fun h => Bool.noConfusion h) xt_arr xk_11, (fun _ h => absurd h List.not_mem_nil)⟩
theorem xl_11 : xr_cal xt_GW xm_11 := ⟨plainFor_of_name (by decide +kernel), (xt_in 13 rfl (List.mem_of_getElem? (i := 28) rfl)), (xt_in 1 rfl (List.mem_of_getElem? (i := 20) rfl)), ⟨by decide +kernel, by decide +kernel⟩, by decide +kernel, by decide⟩
theorem xk_12_0 : ((xc_12.drop 0).take 40).all (fun q => xr_okb xt_cp2 false xm_12 q.1 q.2.1 q.2.2) = true := by decide +kernel
theorem xk_12_40 : ((xc_12.drop 40).take 40).all (fun q => xr_okb xt_cp2 false xm_12 q.1 q.2.1 q.2.2) = true := by decide +kernel
theorem xk_12 : xr_cdb xt_cp2 false xm_12 = true := (xr_chk _ 40 0 _ xk_12_0 (xr_chk _ 40 40 _ xk_12_40 (by decide +kernel)))
set_option maxRecDepth 100000 in
theorem xo_12 (L : Nat) (xs : Nat → Int32) : (∀ (pc : Nat) (i : Instr) (n : Nat), xr_fetch (xr_cd xm_12) pc = some (i, n) → xr_ok (xt_T L xs) xt_GW xt_ST xt_AO xm_12 pc i n) ∧ xr_hok xt_GW xt_NC xm_12 := ⟨xr_cdb_s (T := xt_T L xs) (ST := xt_ST) (AO := xt_AO) (GW := xt_GW) (cp := xt_cp2) (ini := false) (M := xm_12) (xt_cp2_ok L xs) (fun h => Bool.noConfusion h) xt_arr xk_12, (fun _ h => absurd h List.not_mem_nil)⟩
theorem xl_12 : xr_cal xt_GW xm_12 := ⟨plainFor_of_name (by decide +kernel), (xt_in 13 rfl (List.mem_of_getElem? (i := 24) rfl)), (xt_in 1 rfl (List.mem_of_getElem? (i := 20) rfl)), ⟨by decide +kernel, by decide +kernel⟩, by decide +kernel, by decide⟩
theorem xk_13 : xr_cdb xt_cp2 false xm_13 = true := by decide +kernel
set_option maxRecDepth 100000 in
theorem xo_13 (L : Nat) (xs : Nat → Int32) : (∀ (pc : Nat) (i : Instr) (n : Nat), xr_fetch (xr_cd xm_13) pc = some (i, n) → xr_ok (xt_T L xs) xt_GW xt_ST xt_AO xm_13 pc i n) ∧ xr_hok xt_GW xt_NC xm_13 := ⟨xr_cdb_s (T := xt_T L xs) (ST := xt_ST) (AO := xt_AO) (GW := xt_GW) (cp := xt_cp2) (ini := false) (M := xm_13) (xt_cp2_ok L xs) (fun h => Bool.noConfusion h) xt_arr xk_13, (fun _ h => absurd h List.not_mem_nil)⟩
theorem xl_13 : xr_cal xt_GW xm_13 := ⟨plainFor_of_name (by decide +kernel), (xt_in 15 rfl (List.mem_of_getElem? (i := 34) rfl)), (xt_in 1 rfl (List.mem_of_getElem? (i := 20) rfl)), ⟨by decide +kernel, by decide +kernel⟩, by decide +kernel, by decide⟩
end
section
/-! methods that are checked -/
theorem xk_14 : xr_cdb xt_cp2 false xm_14 = true := by decide +kernel
set_option maxRecDepth 100000 in
theorem xo_14 (L : Nat) (xs : Nat → Int32) : (∀ (pc : Nat) (i : Instr) (n : Nat), xr_fetch (xr_cd xm_14) pc = some (i, n) → xr_ok (xt_T L xs) xt_GW xt_ST xt_AO xm_14 pc i n) ∧ xr_hok xt_GW xt_NC xm_14 := ⟨xr_cdb_s (T := xt_T L xs) (ST := xt_ST) (AO := xt_AO) (GW := xt_GW) (cp := xt_cp2) (ini := false) (M := xm_14) (xt_cp2_ok L xs) (fun h => Bool.noConfusion h) xt_arr xk_14, (fun _ h => absurd h List.not_mem_nil)⟩
theorem xl_14 : xr_cal xt_GW xm_14 := ⟨plainFor_of_name (by decide +kernel), (xt_in 14 rfl (List.mem_of_getElem? (i := 5) rfl)), (xt_in 1 rfl (List.mem_of_getElem? (i := 20) rfl)), ⟨by decide +kernel, by decide +kernel⟩, by decide +kernel, by decide⟩
theorem xk_15 : xr_cdb xt_cp2 false xm_15 = true := by decide +kernel
set_option maxRecDepth 100000 in
theorem xo_15 (L : Nat) (xs : Nat → Int32) : (∀ (pc : Nat) (i : Instr) (n : Nat), xr_fetch (xr_cd xm_15) pc = some (i, n) → xr_ok (xt_T L xs) xt_GW xt_ST xt_AO xm_15 pc i n) ∧ xr_hok xt_GW xt_NC xm_15 := ⟨xr_cdb_s (T := xt_T L xs) (ST := xt_ST) (AO := xt_AO) (GW := xt_GW) (cp := xt_cp2) (ini := false) (M := xm_15) (xt_cp2_ok L xs) (fun h => Bool.noConfusion h) xt_arr xk_15, (fun _ h => absurd h List.not_mem_nil)⟩
theorem xl_15 : xr_cal xt_GW xm_15 := ⟨plainFor_of_name (by decide +kernel), (xt_in 14 rfl (List.mem_of_getElem? (i := 37) rfl)), (xt_in 1 rfl (List.mem_of_getElem? (i := 20) rfl)), ⟨by decide +kernel, by decide +kernel⟩, by decide +kernel, by decide⟩
theorem xk_16 : xr_cdb xt_cp2 false xm_16 = true := by decide +kernel
set_option maxRecDepth 100000 in
theorem xo_16 (L : Nat) (xs : Nat → Int32) : (∀ (pc : Nat) (i : Instr) (n : Nat), xr_fetch (xr_cd xm_16) pc = some (i, n) → xr_ok (xt_T L xs) xt_GW xt_ST xt_AO xm_16 pc i n) ∧ xr_hok xt_GW xt_NC xm_16 := ⟨xr_cdb_s (T := xt_T L xs) (ST := xt_ST) (AO := xt_AO) (GW := xt_GW) (cp := xt_cp2) (ini := false) (M := xm_16) (xt_cp2_ok L xs) (fun h => Bool.noConfusion h) xt_arr xk_16, (fun _ h => absurd h List.not_mem_nil)⟩
theorem xl_16 : xr_cal xt_GW xm_16 := ⟨plainFor_of_name (by decide +kernel), (xt_in 15 rfl (List.mem_of_getElem? (i := 1) rfl)), (xt_in 1 rfl (List.mem_of_getElem? (i := 20) rfl)), ⟨by decide +kernel, by decide +kernel⟩, by decide +kernel, by decide⟩
theorem xk_17_0 : ((xc_17.drop 0).take 40).all (fun q => xr_okb xt_cp2 false xm_17 q.1 q.2.1 q.2.2) = true := by decide +kernel
theorem xk_17_40 : ((xc_17.drop 40).take 40).all (fun q => xr_okb xt_cp2 false xm_17 q.1 q.2.1 q.2.2) = true := by decide +kernel
theorem xk_17 : xr_cdb xt_cp2 false xm_17 = true := (xr_chk _ 40 0 _ xk_17_0 (xr_chk _ 40 40 _ xk_17_40 (by decide +kernel)))
set_option maxRecDepth 100000 in
theorem xo_17 (L : Nat) (xs : Nat → Int32) : (∀ (pc : Nat) (i : Instr) (n : Nat), xr_fetch (xr_cd xm_17) pc = some (i, n) → xr_ok (xt_T L xs) xt_GW xt_ST xt_AO xm_17 pc i n) ∧ xr_hok xt_GW xt_NC xm_17 := ⟨xr_cdb_s (T := xt_T L xs) (ST := xt_ST) (AO := xt_AO) (GW := xt_GW) (cp := xt_cp2) (ini := false) (M := xm_17) (xt_cp2_ok L xs) (fun h => Bool.noConfusion h) xt_arr xk_17, (fun _ h => absurd h List.not_mem_nil)⟩
theorem xl_17 : xr_cal xt_GW xm_17 := ⟨plainFor_of_name (by decide +kernel), (xt_in 15 rfl (List.mem_of_getElem? (i := 10) rfl)), (xt_in 1 rfl (List.mem_of_getElem? (i := 20) rfl)), ⟨by decide +kernel, by decide +kernel⟩, by decide +kernel, by decide⟩
theorem xk_18 : xr_cdb xt_cp2 false xm_18 = true := by decide +kernel
set_option maxRecDepth 100000 in
theorem xo_18 (L : Nat) (xs : Nat → Int32) : (∀ (pc : Nat) (i : Instr) (n : Nat), xr_fetch (xr_cd xm_18) pc = some (i, n) → xr_ok (xt_T L xs) xt_GW xt_ST xt_AO xm_18 pc i n) ∧ xr_hok xt_GW xt_NC xm_18 := ⟨xr_cdb_s (T := xt_T L xs) (ST := xt_ST) (AO := xt_AO) (GW := xt_GW) (cp := xt_cp2) (ini := false) (M := xm_18) (xt_cp2_ok L xs) (fun h => Bool.noConfusion h) xt_arr xk_18, (fun _ h => absurd h List.not_mem_nil)⟩
theorem xl_18 : xr_cal xt_GW xm_18 := ⟨plainFor_of_name (by decide +kernel), (xt_in 15 rfl (List.mem_of_getElem? (i := 13) rfl)), (xt_in 1 rfl (List.mem_of_getElem? (i := 20) rfl)), ⟨by decide +kernel, by decide +kernel⟩, by decide +kernel, by decide⟩
theorem xk_19 : xr_cdb xt_cp2 false xm_19 = true := by decide +kernel
set_option maxRecDepth 100000 in
theorem xo_19 (L : Nat) (xs : Nat → Int32) : (∀ (pc : Nat) (i : Instr) (n : Nat), xr_fetch (xr_cd xm_19) pc = some (i, n) → xr_ok (xt_T L xs) xt_GW xt_ST xt_AO xm_19 pc i n) ∧ xr_hok xt_GW xt_NC xm_19 := ⟨xr_cdb_s (T := xt_T L xs) (ST := xt_ST) (AO := xt_AO) (GW := xt_GW) (cp := xt_cp2) (ini := false) (M := xm_19) (xt_cp2_ok L xs) (fun h => Bool.noConfusion h) xt_arr xk_19, (fun _ h => absurd h List.not_mem_nil)⟩
theorem xl_19 : xr_cal xt_GW xm_19 := ⟨plainFor_of_name (by decide +kernel), (xt_in 15 rfl (List.mem_of_getElem? (i := 16) rfl)), (xt_in 1 rfl (List.mem_of_getElem? (i := 20) rfl)), ⟨by decide +kernel, by decide +kernel⟩, by decide +kernel, by decide⟩
theorem xk_20 : xr_cdb xt_cp2 false xm_20 = true := by decide +kernel
set_option maxRecDepth 100000 in
theorem xo_20 (L : Nat) (xs : Nat → Int32) : (∀ (pc : Nat) (i : Instr) (n : Nat), xr_fetch (xr_cd xm_20) pc = some (i, n) → xr_ok (xt_T L xs) xt_GW xt_ST xt_AO xm_20 pc i n) ∧ xr_hok xt_GW xt_NC xm_20 := ⟨xr_cdb_s (T := xt_T L xs) (ST := xt_ST) (AO := xt_AO) (GW := xt_GW) (cp := xt_cp2) (ini := false) (M := xm_20) (xt_cp2_ok L xs) (fun h => Bool.noConfusion h) xt_arr xk_20, (fun _ h => absurd h List.not_mem_nil)⟩
theorem xl_20 : xr_cal xt_GW xm_20 := ⟨plainFor_of_name (by decide +kernel), (xt_in 15 rfl (List.mem_of_getElem? (i := 21) rfl)), (xt_in 1 rfl (List.mem_of_getElem? (i := 20) rfl)), ⟨by decide +kernel, by decide +kernel⟩, by decide +kernel, by decide⟩
theorem xk_21 : xr_cdb xt_cp3 true xm_21 = true := by decide +kernel
set_option maxRecDepth 100000 in
theorem xo_21 (L : Nat) (xs : Nat → Int32) : (∀ (pc : Nat) (i : Instr) (n : Nat), xr_fetch (xr_cd xm_21) pc = some (i, n) → xr_ok (xt_T L xs) xt_GW xt_ST xt_AO xm_21 pc i n) ∧ xr_hok xt_GW xt_NC xm_21 := ⟨xr_cdb_s (T := xt_T L xs) (ST := xt_ST) (AO := xt_AO) (GW := xt_GW) (cp := xt_cp3) (ini := true) (M := xm_21) (xt_cp3_ok L xs) (fun _ => rfl) xt_arr xk_21, (fun _ h => absurd h List.not_mem_nil)⟩
theorem xl_21 : xr_cal xt_GW xm_21 := ⟨plainFor_of_name (by decide +kernel), (xt_in 4 rfl (List.mem_of_getElem? (i := 28) rfl)), (xt_in 1 rfl (List.mem_of_getElem? (i := 21) rfl)), ⟨by decide +kernel, by decide +kernel⟩, by decide +kernel, by decide⟩
theorem xk_22 : xr_cdb ([] : List (Nat × Nat × Int)) false xm_22 = true := by decide +kernel
set_option maxRecDepth 100000 in
theorem xo_22 (L : Nat) (xs : Nat → Int32) : (∀ (pc : Nat) (i : Instr) (n : Nat), xr_fetch (xr_cd xm_22) pc = some (i, n) → xr_ok (xt_T L xs) xt_GW xt_ST xt_AO xm_22 pc i n) ∧ xr_hok xt_GW xt_NC xm_22 := ⟨xr_cdb_s (T := xt_T L xs) (ST := xt_ST) (AO := xt_AO) (GW := xt_GW) (cp := ([] : List (Nat × Nat × Int))) (ini := false) (M := xm_22) (fun _ h => absurd h List.not_mem_nil) (fun h => Bool.noConfusion h) xt_arr xk_22, (fun _ h => absurd h List.not_mem_nil)⟩
theorem xl_22 : xr_cal xt_GW xm_22 := ⟨by decide +kernel, (xt_in 9 rfl (List.mem_of_getElem? (i := 11) rfl)), (xt_in 1 rfl (List.mem_of_getElem? (i := 25) rfl)), ⟨by decide +kernel, by decide +kernel⟩, by decide +kernel, by decide⟩
theorem xk_23 : xr_cdb ([] : List (Nat × Nat × Int)) false xm_23 = true := by decide +kernel
set_option maxRecDepth 100000 in
theorem xo_23 (L : Nat) (xs : Nat → Int32) : (∀ (pc : Nat) (i : Instr) (n : Nat), xr_fetch (xr_cd xm_23) pc = some (i, n) → xr_ok (xt_T L xs) xt_GW xt_ST xt_AO xm_23 pc i n) ∧ xr_hok xt_GW xt_NC xm_23 := ⟨xr_cdb_s (T := xt_T L xs) (ST := xt_ST) (AO := xt_AO) (GW := xt_GW) (cp := ([] : List (Nat × Nat × Int))) (ini := false) (M := xm_23) (fun _ h => absurd h List.not_mem_nil) (fun h => Bool.noConfusion h) xt_arr xk_23, (fun _ h => absurd h List.not_mem_nil)⟩
theorem xl_23 : xr_cal xt_GW xm_23 := ⟨by decide +kernel, (xt_in 11 rfl (List.mem_of_getElem? (i := 26) rfl)), (xt_in 1 rfl (List.mem_of_getElem? (i := 25) rfl)), ⟨by decide +kernel, by decide +kernel⟩, by decide +kernel, by decide⟩
theorem xk_24 : xr_cdb ([] : List (Nat × Nat × Int)) false xm_24 = true := by decide +kernel
set_option maxRecDepth 100000 in
theorem xo_24 (L : Nat) (xs : Nat → Int32) : (∀ (pc : Nat) (i : Instr) (n : Nat), xr_fetch (xr_cd xm_24) pc = some (i, n) → xr_ok (xt_T L xs) xt_GW xt_ST xt_AO xm_24 pc i n) ∧ xr_hok xt_GW xt_NC xm_24 := ⟨xr_cdb_s (T := xt_T L xs) (ST := xt_ST) (AO := xt_AO) (GW := xt_GW) (cp := ([] : List (Nat × Nat × Int))) (ini := false) (M := xm_24) (fun _ h => absurd h List.not_mem_nil) (fun h => Bool.noConfusion h) xt_arr xk_24, (fun _ h => absurd h List.not_mem_nil)⟩
theorem xl_24 : xr_cal xt_GW xm_24 := ⟨by decide +kernel, (xt_in 5 rfl (List.mem_of_getElem? (i := 30) rfl)), (xt_in 1 rfl (List.mem_of_getElem? (i := 25) rfl)), ⟨by decide +kernel, by decide +kernel⟩, by decide +kernel, by decide⟩
theorem xk_25 : xr_cdb ([] : List (Nat × Nat × Int)) false xm_25 = true := by decide +kernel
set_option maxRecDepth 100000 in
theorem xo_25 (L : Nat) (xs : Nat → Int32) : (∀ (pc : Nat) (i : Instr) (n : Nat), xr_fetch (xr_cd xm_25) pc = some (i, n) → xr_ok (xt_T L xs) xt_GW xt_ST xt_AO xm_25 pc i n) ∧ xr_hok xt_GW xt_NC xm_25 := ⟨xr_cdb_s (T := xt_T L xs) (ST := xt_ST) (AO := xt_AO) (GW := xt_GW) (cp := ([] : List (Nat × Nat × Int))) (ini := false) (M := xm_25) (fun _ h => absurd h List.not_mem_nil) (fun h => Bool.noConfusion h) xt_arr xk_25, (fun _ h => absurd h List.not_mem_nil)⟩
theorem xl_25 : xr_cal xt_GW xm_25 := ⟨by decide +kernel, (xt_in 11 rfl (List.mem_of_getElem? (i := 23) rfl)), (xt_in 1 rfl (List.mem_of_getElem? (i := 25) rfl)), ⟨by decide +kernel, by decide +kernel⟩, by decide +kernel, by decide⟩
theorem xk_26 : xr_cdb xt_cp4 true xm_26 = true := by decide +kernel
set_option maxRecDepth 100000 in
theorem xo_26 (L : Nat) (xs : Nat → Int32) : (∀ (pc : Nat) (i : Instr) (n : Nat), xr_fetch (xr_cd xm_26) pc = some (i, n) → xr_ok (xt_T L xs) xt_GW xt_ST xt_AO xm_26 pc i n) ∧ xr_hok xt_GW xt_NC xm_26 := ⟨xr_cdb_s (T := xt_T L xs) (ST := xt_ST) (AO := xt_AO) (GW := xt_GW) (cp := xt_cp4) (ini := true) (M := xm_26) (xt_cp4_ok L xs) (fun _ => rfl) xt_arr xk_26, (fun _ h => absurd h List.not_mem_nil)⟩
theorem xl_26 : xr_cal xt_GW xm_26 := ⟨plainFor_of_name (by decide +kernel), (xt_in 3 rfl (List.mem_of_getElem? (i := 5) rfl)), (xt_in 1 rfl (List.mem_of_getElem? (i := 19) rfl)), ⟨by decide +kernel, by decide +kernel⟩, by decide +kernel, by decide⟩
theorem xk_27 : xr_cdb xt_cp4 false xm_27 = true := by decide +kernel
set_option maxRecDepth 100000 in
theorem xo_27 (L : Nat) (xs : Nat → Int32) : (∀ (pc : Nat) (i : Instr) (n : Nat), xr_fetch (xr_cd xm_27) pc = some (i, n) → xr_ok (xt_T L xs) xt_GW xt_ST xt_AO xm_27 pc i n) ∧ xr_hok xt_GW xt_NC xm_27 := ⟨xr_cdb_s (T := xt_T L xs) (ST := xt_ST) (AO := xt_AO) (GW := xt_GW) (cp := xt_cp4) (ini := false) (M := xm_27) (xt_cp4_ok L xs) (fun h => Bool.noConfusion h) xt_arr xk_27, (fun _ h => absurd h List.not_mem_nil)⟩
theorem xl_27 : xr_cal xt_GW xm_27 := ⟨plainFor_of_name (by decide +kernel), (xt_in 12 rfl (List.mem_of_getElem? (i := 4) rfl)), (xt_in 1 rfl (List.mem_of_getElem? (i := 19) rfl)), ⟨by decide +kernel, by decide +kernel⟩, by decide +kernel, by decide⟩
theorem xk_28 : xr_cdb xt_cp4 false xm_28 = true := by decide +kernel
set_option maxRecDepth 100000 in
theorem xo_28 (L : Nat) (xs : Nat → Int32) : (∀ (pc : Nat) (i : Instr) (n : Nat), xr_fetch (xr_cd xm_28) pc = some (i, n) → xr_ok (xt_T L xs) xt_GW xt_ST xt_AO xm_28 pc i n) ∧ xr_hok xt_GW xt_NC xm_28 := ⟨xr_cdb_s (T := xt_T L xs) (ST := xt_ST) (AO := xt_AO) (GW := xt_GW) (cp := xt_cp4) (ini := false) (M := xm_28) (xt_cp4_ok L xs) (fun h => Bool.noConfusion h) xt_arr xk_28, (fun _ h => absurd h List.not_mem_nil)⟩
theorem xl_28 : xr_cal xt_GW xm_28 := ⟨plainFor_of_name (by decide +kernel), (xt_in 11 rfl (List.mem_of_getElem? (i := 3) rfl)), (xt_in 1 rfl (List.mem_of_getElem? (i := 19) rfl)), ⟨by decide +kernel, by decide +kernel⟩, by decide +kernel, by decide⟩
theorem xk_29 : xr_cdb xt_cp4 false xm_29 = true := by decide +kernel
set_option maxRecDepth 100000 in
theorem xo_29 (L : Nat) (xs : Nat → Int32) : (∀ (pc : Nat) (i : Instr) (n : Nat), xr_fetch (xr_cd xm_29) pc = some (i, n) → xr_ok (xt_T L xs) xt_GW xt_ST xt_AO xm_29 pc i n) ∧ xr_hok xt_GW xt_NC xm_29 := ⟨xr_cdb_s (T := xt_T L xs) (ST := xt_ST) (AO := xt_AO) (GW := xt_GW) (cp := xt_cp4) (ini := false) (M := xm_29) (xt_cp4_ok L xs) (fun h => Bool.noConfusion h) xt_arr xk_29, (fun _ h => absurd h List.not_mem_nil)⟩
theorem xl_29 : xr_cal xt_GW xm_29 := ⟨plainFor_of_name (by decide +kernel), (xt_in 12 rfl (List.mem_of_getElem? (i := 0) rfl)), (xt_in 1 rfl (List.mem_of_getElem? (i := 19) rfl)), ⟨by decide +kernel, by decide +kernel⟩, by decide +kernel, by decide⟩
theorem xk_30 : xr_cdb xt_cp4 false xm_30 = true := by decide +kernel
set_option maxRecDepth 100000 in
theorem xo_30 (L : Nat) (xs : Nat → Int32) : (∀ (pc : Nat) (i : Instr) (n : Nat), xr_fetch (xr_cd xm_30) pc = some (i, n) → xr_ok (xt_T L xs) xt_GW xt_ST xt_AO xm_30 pc i n) ∧ xr_hok xt_GW xt_NC xm_30 := ⟨xr_cdb_s (T := xt_T L xs) (ST := xt_ST) (AO := xt_AO) (GW := xt_GW) (cp := xt_cp4) (ini := false) (M := xm_30) (xt_cp4_ok L xs) (fun h => Bool.noConfusion h) xt_arr xk_30, (fun _ h => absurd h List.not_mem_nil)⟩
theorem xl_30 : xr_cal xt_GW xm_30 := ⟨plainFor_of_name (by decide +kernel), (xt_in 16 rfl (List.mem_of_getElem? (i := 24) rfl)), (xt_in 1 rfl (List.mem_of_getElem? (i := 19) rfl)), ⟨by decide +kernel, by decide +kernel⟩, by decide +kernel, by decide⟩
end
section
/-! methods that are checked -/
theorem xk_31 : xr_cdb xt_cp4 false xm_31 = true := by decide +kernel
set_option maxRecDepth 100000 in
theorem xo_31 (L : Nat) (xs : Nat → Int32) : (∀ (pc : Nat) (i : Instr) (n : Nat), xr_fetch (xr_cd xm_31) pc = some (i, n) → xr_ok (xt_T L xs) xt_GW xt_ST xt_AO xm_31 pc i n) ∧ xr_hok xt_GW xt_NC xm_31 := ⟨xr_cdb_s (T := xt_T L xs) (ST := xt_ST) (AO := xt_AO) (GW := xt_GW) (cp := xt_cp4) (ini := false) (M := xm_31) (xt_cp4_ok L xs) (fun h => Bool.noConfusion h) xt_arr xk_31, (fun _ h => absurd h List.not_mem_nil)⟩
theorem xl_31 : xr_cal xt_GW xm_31 := ⟨plainFor_of_name (by decide +kernel), (xt_in 14 rfl (List.mem_of_getElem? (i := 18) rfl)), (xt_in 1 rfl (List.mem_of_getElem? (i := 19) rfl)), ⟨by decide +kernel, by decide +kernel⟩, by decide +kernel, by decide⟩
theorem xk_32 : xr_cdb xt_cp4 false xm_32 = true := by decide +kernel
set_option maxRecDepth 100000 in
theorem xo_32 (L : Nat) (xs : Nat → Int32) : (∀ (pc : Nat) (i : Instr) (n : Nat), xr_fetch (xr_cd xm_32) pc = some (i, n) → xr_ok (xt_T L xs) xt_GW xt_ST xt_AO xm_32 pc i n) ∧ xr_hok xt_GW xt_NC xm_32 := ⟨xr_cdb_s (T := xt_T L xs) (ST := xt_ST) (AO := xt_AO) (GW := xt_GW) (cp := xt_cp4) (ini := false) (M := xm_32) (xt_cp4_ok L xs) (fun h => Bool.noConfusion h) xt_arr xk_32, (fun _ h => absurd h List.not_mem_nil)⟩
theorem xl_32 : xr_cal xt_GW xm_32 := ⟨plainFor_of_name (by decide +kernel), (xt_in 18 rfl (List.mem_of_getElem? (i := 36) rfl)), (xt_in 1 rfl (List.mem_of_getElem? (i := 19) rfl)), ⟨by decide +kernel, by decide +kernel⟩, by decide +kernel, by decide⟩
theorem xk_33 : xr_cdb xt_cp4 false xm_33 = true := by decide +kernel
set_option maxRecDepth 100000 in
theorem xo_33 (L : Nat) (xs : Nat → Int32) : (∀ (pc : Nat) (i : Instr) (n : Nat), xr_fetch (xr_cd xm_33) pc = some (i, n) → xr_ok (xt_T L xs) xt_GW xt_ST xt_AO xm_33 pc i n) ∧ xr_hok xt_GW xt_NC xm_33 := ⟨xr_cdb_s (T := xt_T L xs) (ST := xt_ST) (AO := xt_AO) (GW := xt_GW) (cp := xt_cp4) (ini := false) (M := xm_33) (xt_cp4_ok L xs) (fun h => Bool.noConfusion h) xt_arr xk_33, (fun _ h => absurd h List.not_mem_nil)⟩
theorem xl_33 : xr_cal xt_GW xm_33 := ⟨plainFor_of_name (by decide +kernel), (xt_in 16 rfl (List.mem_of_getElem? (i := 7) rfl)), (xt_in 1 rfl (List.mem_of_getElem? (i := 19) rfl)), ⟨by decide +kernel, by decide +kernel⟩, by decide +kernel, by decide⟩
theorem xk_34 : xr_cdb xt_cp4 false xm_34 = true := by decide +kernel
set_option maxRecDepth 100000 in
theorem xo_34 (L : Nat) (xs : Nat → Int32) : (∀ (pc : Nat) (i : Instr) (n : Nat), xr_fetch (xr_cd xm_34) pc = some (i, n) → xr_ok (xt_T L xs) xt_GW xt_ST xt_AO xm_34 pc i n) ∧ xr_hok xt_GW xt_NC xm_34 := ⟨xr_cdb_s (T := xt_T L xs) (ST := xt_ST) (AO := xt_AO) (GW := xt_GW) (cp := xt_cp4) (ini := false) (M := xm_34) (xt_cp4_ok L xs) (fun h => Bool.noConfusion h) xt_arr xk_34, (fun _ h => absurd h List.not_mem_nil)⟩
theorem xl_34 : xr_cal xt_GW xm_34 := ⟨plainFor_of_name (by decide +kernel), (xt_in 14 rfl (List.mem_of_getElem? (i := 22) rfl)), (xt_in 1 rfl (List.mem_of_getElem? (i := 19) rfl)), ⟨by decide +kernel, by decide +kernel⟩, by decide +kernel, by decide⟩
theorem xk_35 : xr_cdb xt_cp5 true xm_35 = true := by decide +kernel
set_option maxRecDepth 100000 in
theorem xo_35 (L : Nat) (xs : Nat → Int32) : (∀ (pc : Nat) (i : Instr) (n : Nat), xr_fetch (xr_cd xm_35) pc = some (i, n) → xr_ok (xt_T L xs) xt_GW xt_ST xt_AO xm_35 pc i n) ∧ xr_hok xt_GW xt_NC xm_35 := ⟨xr_cdb_s (T := xt_T L xs) (ST := xt_ST) (AO := xt_AO) (GW := xt_GW) (cp := xt_cp5) (ini := true) (M := xm_35) (xt_cp5_ok L xs) (fun _ => rfl) xt_arr xk_35, (fun _ h => absurd h List.not_mem_nil)⟩
theorem xl_35 : xr_cal xt_GW xm_35 := ⟨plainFor_of_name (by decide +kernel), (xt_in 2 rfl (List.mem_of_getElem? (i := 14) rfl)), (xt_in 1 rfl (List.mem_of_getElem? (i := 16) rfl)), ⟨by decide +kernel, by decide +kernel⟩, by decide +kernel, by decide⟩
theorem xk_36_0 : ((xc_36.drop 0).take 40).all (fun q => xr_okb xt_cp5 false xm_36 q.1 q.2.1 q.2.2) = true := by decide +kernel
theorem xk_36_40 : ((xc_36.drop 40).take 40).all (fun q => xr_okb xt_cp5 false xm_36 q.1 q.2.1 q.2.2) = true := by decide +kernel
theorem xk_36 : xr_cdb xt_cp5 false xm_36 = true := (xr_chk _ 40 0 _ xk_36_0 (xr_chk _ 40 40 _ xk_36_40 (by decide +kernel)))
set_option maxRecDepth 100000 in
theorem xo_36 (L : Nat) (xs : Nat → Int32) : (∀ (pc : Nat) (i : Instr) (n : Nat), xr_fetch (xr_cd xm_36) pc = some (i, n) → xr_ok (xt_T L xs) xt_GW xt_ST xt_AO xm_36 pc i n) ∧ xr_hok xt_GW xt_NC xm_36 := ⟨xr_cdb_s (T := xt_T L xs) (ST := xt_ST) (AO := xt_AO) (GW := xt_GW) (cp := xt_cp5) (ini := false) (M := xm_36) (xt_cp5_ok L xs) (fun h => Bool.noConfusion h) xt_arr xk_36, (fun _ h => absurd h List.not_mem_nil)⟩
theorem xl_36 : xr_cal xt_GW xm_36 := ⟨plainFor_of_name (by decide +kernel), (xt_in 7 rfl (List.mem_of_getElem? (i := 36) rfl)), (xt_in 1 rfl (List.mem_of_getElem? (i := 16) rfl)), ⟨by decide +kernel, by decide +kernel⟩, by decide +kernel, by decide⟩
theorem xk_37 : xr_cdb xt_cp5 false xm_37 = true := by decide +kernel
set_option maxRecDepth 100000 in
theorem xo_37 (L : Nat) (xs : Nat → Int32) : (∀ (pc : Nat) (i : Instr) (n : Nat), xr_fetch (xr_cd xm_37) pc = some (i, n) → xr_ok (xt_T L xs) xt_GW xt_ST xt_AO xm_37 pc i n) ∧ xr_hok xt_GW xt_NC xm_37 := ⟨xr_cdb_s (T := xt_T L xs) (ST := xt_ST) (AO := xt_AO) (GW := xt_GW) (cp := xt_cp5) (ini := false) (M := xm_37) (xt_cp5_ok L xs) (fun h => Bool.noConfusion h) xt_arr xk_37, (fun _ h => absurd h List.not_mem_nil)⟩
theorem xl_37 : xr_cal xt_GW xm_37 := ⟨plainFor_of_name (by decide +kernel), (xt_in 7 rfl (List.mem_of_getElem? (i := 39) rfl)), (xt_in 1 rfl (List.mem_of_getElem? (i := 16) rfl)), ⟨by decide +kernel, by decide +kernel⟩, by decide +kernel, by decide⟩
theorem xk_38 : xr_cdb xt_cp5 false xm_38 = true := by decide +kernel
set_option maxRecDepth 100000 in
theorem xo_38 (L : Nat) (xs : Nat → Int32) : (∀ (pc : Nat) (i : Instr) (n : Nat), xr_fetch (xr_cd xm_38) pc = some (i, n) → xr_ok (xt_T L xs) xt_GW xt_ST xt_AO xm_38 pc i n) ∧ xr_hok xt_GW xt_NC xm_38 := ⟨xr_cdb_s (T := xt_T L xs) (ST := xt_ST) (AO := xt_AO) (GW := xt_GW) (cp := xt_cp5) (ini := false) (M := xm_38) (xt_cp5_ok L xs) (fun h => Bool.noConfusion h) xt_arr xk_38, (fun _ h => absurd h List.not_mem_nil)⟩
theorem xl_38 : xr_cal xt_GW xm_38 := ⟨plainFor_of_name (by decide +kernel), (xt_in 8 rfl (List.mem_of_getElem? (i := 6) rfl)), (xt_in 1 rfl (List.mem_of_getElem? (i := 16) rfl)), ⟨by decide +kernel, by decide +kernel⟩, by decide +kernel, by decide⟩
theorem xk_39 : xr_cdb xt_cp5 false xm_39 = true := by decide +kernel
set_option maxRecDepth 100000 in
theorem xo_39 (L : Nat) (xs : Nat → Int32) : (∀ (pc : Nat) (i : Instr) (n : Nat), xr_fetch (xr_cd xm_39) pc = some (i, n) → xr_ok (xt_T L xs) xt_GW xt_ST xt_AO xm_39 pc i n) ∧ xr_hok xt_GW xt_NC xm_39 := ⟨xr_cdb_s (T := xt_T L xs) (ST := xt_ST) (AO := xt_AO) (GW := xt_GW) (cp := xt_cp5) (ini := false) (M := xm_39) (xt_cp5_ok L xs) (fun h => Bool.noConfusion h) xt_arr xk_39, (fun _ h => absurd h List.not_mem_nil)⟩
theorem xl_39 : xr_cal xt_GW xm_39 := ⟨plainFor_of_name (by decide +kernel), (xt_in 8 rfl (List.mem_of_getElem? (i := 19) rfl)), (xt_in 1 rfl (List.mem_of_getElem? (i := 16) rfl)), ⟨by decide +kernel, by decide +kernel⟩, by decide +kernel, by decide⟩
theorem xk_40 : xr_cdb xt_cp5 false xm_40 = true := by decide +kernel
set_option maxRecDepth 100000 in
theorem xo_40 (L : Nat) (xs : Nat → Int32) : (∀ (pc : Nat) (i : Instr) (n : Nat), xr_fetch (xr_cd xm_40) pc = some (i, n) → xr_ok (xt_T L xs) xt_GW xt_ST xt_AO xm_40 pc i n) ∧ xr_hok xt_GW xt_NC xm_40 := ⟨xr_cdb_s (T := xt_T L xs) (ST := xt_ST) (AO := xt_AO) (GW := xt_GW) (cp := xt_cp5) (ini := false) (M := xm_40) (xt_cp5_ok L xs) (fun h => Bool.noConfusion h) xt_arr xk_40, (fun _ h => absurd h List.not_mem_nil)⟩
theorem xl_40 : xr_cal xt_GW xm_40 := ⟨plainFor_of_name (by decide +kernel), (xt_in 8 rfl (List.mem_of_getElem? (i := 12) rfl)), (xt_in 1 rfl (List.mem_of_getElem? (i := 16) rfl)), ⟨by decide +kernel, by decide +kernel⟩, by decide +kernel, by decide⟩
theorem xk_41 : xr_cdb xt_cp5 false xm_41 = true := by decide +kernel
set_option maxRecDepth 100000 in
theorem xo_41 (L : Nat) (xs : Nat → Int32) : (∀ (pc : Nat) (i : Instr) (n : Nat), xr_fetch (xr_cd xm_41) pc = some (i, n) → xr_ok (xt_T L xs) xt_GW xt_ST xt_AO xm_41 pc i n) ∧ xr_hok xt_GW xt_NC xm_41 := ⟨xr_cdb_s (T := xt_T L xs) (ST := xt_ST) (AO := xt_AO) (GW := xt_GW) (cp := xt_cp5) (ini := false) (M := xm_41) (xt_cp5_ok L xs) (fun h => Bool.noConfusion h) xt_arr xk_41, (fun _ h => absurd h List.not_mem_nil)⟩
theorem xl_41 : xr_cal xt_GW xm_41 := ⟨plainFor_of_name (by decide +kernel), (xt_in 9 rfl (List.mem_of_getElem? (i := 8) rfl)), (xt_in 1 rfl (List.mem_of_getElem? (i := 16) rfl)), ⟨by decide +kernel, by decide +kernel⟩, by decide +kernel, by decide⟩
theorem xk_42 : xr_cdb xt_cp5 false xm_42 = true := by decide +kernel
set_option maxRecDepth 100000 in
theorem xo_42 (L : Nat) (xs : Nat → Int32) : (∀ (pc : Nat) (i : Instr) (n : Nat), xr_fetch (xr_cd xm_42) pc = some (i, n) → xr_ok (xt_T L xs) xt_GW xt_ST xt_AO xm_42 pc i n) ∧ xr_hok xt_GW xt_NC xm_42 := ⟨xr_cdb_s (T := xt_T L xs) (ST := xt_ST) (AO := xt_AO) (GW := xt_GW) (cp := xt_cp5) (ini := false) (M := xm_42) (xt_cp5_ok L xs) (fun h => Bool.noConfusion h) xt_arr xk_42, (fun _ h => absurd h List.not_mem_nil)⟩
theorem xl_42 : xr_cal xt_GW xm_42 := ⟨plainFor_of_name (by decide +kernel), (xt_in 8 rfl (List.mem_of_getElem? (i := 9) rfl)), (xt_in 1 rfl (List.mem_of_getElem? (i := 16) rfl)), ⟨by decide +kernel, by decide +kernel⟩, by decide +kernel, by decide⟩
theorem xk_43 : xr_cdb xt_cp5 false xm_43 = true := by decide +kernel
set_option maxRecDepth 100000 in
theorem xo_43 (L : Nat) (xs : Nat → Int32) : (∀ (pc : Nat) (i : Instr) (n : Nat), xr_fetch (xr_cd xm_43) pc = some (i, n) → xr_ok (xt_T L xs) xt_GW xt_ST xt_AO xm_43 pc i n) ∧ xr_hok xt_GW xt_NC xm_43 := ⟨xr_cdb_s (T := xt_T L xs) (ST := xt_ST) (AO := xt_AO) (GW := xt_GW) (cp := xt_cp5) (ini := false) (M := xm_43) (xt_cp5_ok L xs) (fun h => Bool.noConfusion h) xt_arr xk_43, (fun _ h => absurd h List.not_mem_nil)⟩
theorem xl_43 : xr_cal xt_GW xm_43 := ⟨plainFor_of_name (by decide +kernel), (xt_in 9 rfl (List.mem_of_getElem? (i := 36) rfl)), (xt_in 1 rfl (List.mem_of_getElem? (i := 16) rfl)), ⟨by decide +kernel, by decide +kernel⟩, by decide +kernel, by decide⟩
theorem xk_44 : xr_cdb xt_cp5 false xm_44 = true := by decide +kernel
set_option maxRecDepth 100000 in
theorem xo_44 (L : Nat) (xs : Nat → Int32) : (∀ (pc : Nat) (i : Instr) (n : Nat), xr_fetch (xr_cd xm_44) pc = some (i, n) → xr_ok (xt_T L xs) xt_GW xt_ST xt_AO xm_44 pc i n) ∧ xr_hok xt_GW xt_NC xm_44 := ⟨xr_cdb_s (T := xt_T L xs) (ST := xt_ST) (AO := xt_AO) (GW := xt_GW) (cp := xt_cp5) (ini := false) (M := xm_44) (xt_cp5_ok L xs) (fun h => Bool.noConfusion h) xt_arr xk_44, (fun _ h => absurd h List.not_mem_nil)⟩
theorem xl_44 : xr_cal xt_GW xm_44 := ⟨plainFor_of_name (by decide +kernel), (xt_in 10 rfl (List.mem_of_getElem? (i := 2) rfl)), (xt_in 1 rfl (List.mem_of_getElem? (i := 16) rfl)), ⟨by decide +kernel, by decide +kernel⟩, by decide +kernel, by decide⟩
theorem xk_45_0 : ((xc_45.drop 0).take 40).all (fun q => xr_okb xt_cp5 false xm_45 q.1 q.2.1 q.2.2) = true := by decide +kernel
end
section
/-! methods that are checked -/
theorem xk_45_40 : ((xc_45.drop 40).take 40).all (fun q => xr_okb xt_cp5 false xm_45 q.1 q.2.1 q.2.2) = true := by decide +kernel
theorem xk_45 : xr_cdb xt_cp5 false xm_45 = true := (xr_chk _ 40 0 _ xk_45_0 (xr_chk _ 40 40 _ xk_45_40 (by decide +kernel)))
set_option maxRecDepth 100000 in
theorem xo_45 (L : Nat) (xs : Nat → Int32) : (∀ (pc : Nat) (i : Instr) (n : Nat), xr_fetch (xr_cd xm_45) pc = some (i, n) → xr_ok (xt_T L xs) xt_GW xt_ST xt_AO xm_45 pc i n) ∧ xr_hok xt_GW xt_NC xm_45 := ⟨xr_cdb_s (T := xt_T L xs) (ST := xt_ST) (AO := xt_AO) (GW := xt_GW) (cp := xt_cp5) (ini := false) (M := xm_45) (xt_cp5_ok L xs) (fun h => Bool.noConfusion h) xt_arr xk_45, (fun _ h => absurd h List.not_mem_nil)⟩
theorem xl_45 : xr_cal xt_GW xm_45 := ⟨plainFor_of_name (by decide +kernel), (xt_in 9 rfl (List.mem_of_getElem? (i := 39) rfl)), (xt_in 1 rfl (List.mem_of_getElem? (i := 16) rfl)), ⟨by decide +kernel, by decide +kernel⟩, by decide +kernel, by decide⟩
theorem xk_46_0 : ((xc_46.drop 0).take 40).all (fun q => xr_okb xt_cp5 false xm_46 q.1 q.2.1 q.2.2) = true := by decide +kernel
theorem xk_46_40 : ((xc_46.drop 40).take 40).all (fun q => xr_okb xt_cp5 false xm_46 q.1 q.2.1 q.2.2) = true := by decide +kernel
theorem xk_46 : xr_cdb xt_cp5 false xm_46 = true := (xr_chk _ 40 0 _ xk_46_0 (xr_chk _ 40 40 _ xk_46_40 (by decide +kernel)))
set_option maxRecDepth 100000 in
theorem xo_46 (L : Nat) (xs : Nat → Int32) : (∀ (pc : Nat) (i : Instr) (n : Nat), xr_fetch (xr_cd xm_46) pc = some (i, n) → xr_ok (xt_T L xs) xt_GW xt_ST xt_AO xm_46 pc i n) ∧ xr_hok xt_GW xt_NC xm_46 := ⟨xr_cdb_s (T := xt_T L xs) (ST := xt_ST) (AO := xt_AO) (GW := xt_GW) (cp := xt_cp5) (ini := false) (M := xm_46) (xt_cp5_ok L xs) (fun h => Bool.noConfusion h) xt_arr xk_46, (fun _ h => absurd h List.not_mem_nil)⟩
theorem xl_46 : xr_cal xt_GW xm_46 := ⟨plainFor_of_name (by decide +kernel), (xt_in 8 rfl (List.mem_of_getElem? (i := 22) rfl)), (xt_in 1 rfl (List.mem_of_getElem? (i := 16) rfl)), ⟨by decide +kernel, by decide +kernel⟩, by decide +kernel, by decide⟩
theorem xk_47_0 : ((xc_47.drop 0).take 40).all (fun q => xr_okb xt_cp5 false xm_47 q.1 q.2.1 q.2.2) = true := by decide +kernel
theorem xk_47_40 : ((xc_47.drop 40).take 40).all (fun q => xr_okb xt_cp5 false xm_47 q.1 q.2.1 q.2.2) = true := by decide +kernel
theorem xk_47_80 : ((xc_47.drop 80).take 40).all (fun q => xr_okb xt_cp5 false xm_47 q.1 q.2.1 q.2.2) = true := by decide +kernel
theorem xk_47 : xr_cdb xt_cp5 false xm_47 = true := (xr_chk _ 40 0 _ xk_47_0 (xr_chk _ 40 40 _ xk_47_40 (xr_chk _ 40 80 _ xk_47_80 (by decide +kernel))))
set_option maxRecDepth 100000 in
theorem xo_47 (L : Nat) (xs : Nat → Int32) : (∀ (pc : Nat) (i : Instr) (n : Nat), xr_fetch (xr_cd xm_47) pc = some (i, n) → xr_ok (xt_T L xs) xt_GW xt_ST xt_AO xm_47 pc i n) ∧ xr_hok xt_GW xt_NC xm_47 := ⟨xr_cdb_s (T := xt_T L xs) (ST := xt_ST) (AO := xt_AO) (GW := xt_GW) (cp := xt_cp5) (ini := false) (M := xm_47) (xt_cp5_ok L xs) (fun h => Bool.noConfusion h) xt_arr xk_47, (fun _ h => absurd h List.not_mem_nil)⟩
theorem xl_47 : xr_cal xt_GW xm_47 := ⟨plainFor_of_name (by decide +kernel), (xt_in 8 rfl (List.mem_of_getElem? (i := 29) rfl)), (xt_in 1 rfl (List.mem_of_getElem? (i := 16) rfl)), ⟨by decide +kernel, by decide +kernel⟩, by decide +kernel, by decide⟩
theorem xk_48 : xr_cdb xt_cp5 false xm_48 = true := by decide +kernel
set_option maxRecDepth 100000 in
theorem xo_48 (L : Nat) (xs : Nat → Int32) : (∀ (pc : Nat) (i : Instr) (n : Nat), xr_fetch (xr_cd xm_48) pc = some (i, n) → xr_ok (xt_T L xs) xt_GW xt_ST xt_AO xm_48 pc i n) ∧ xr_hok xt_GW xt_NC xm_48 := ⟨xr_cdb_s (T := xt_T L xs) (ST := xt_ST) (AO := xt_AO) (GW := xt_GW) (cp := xt_cp5) (ini := false) (M := xm_48) (xt_cp5_ok L xs) (fun h => Bool.noConfusion h) xt_arr xk_48, (fun _ h => absurd h List.not_mem_nil)⟩
theorem xl_48 : xr_cal xt_GW xm_48 := ⟨plainFor_of_name (by decide +kernel), (xt_in 8 rfl (List.mem_of_getElem? (i := 35) rfl)), (xt_in 1 rfl (List.mem_of_getElem? (i := 16) rfl)), ⟨by decide +kernel, by decide +kernel⟩, by decide +kernel, by decide⟩
theorem xk_49 : xr_cdb xt_cp5 false xm_49 = true := by decide +kernel
set_option maxRecDepth 100000 in
theorem xo_49 (L : Nat) (xs : Nat → Int32) : (∀ (pc : Nat) (i : Instr) (n : Nat), xr_fetch (xr_cd xm_49) pc = some (i, n) → xr_ok (xt_T L xs) xt_GW xt_ST xt_AO xm_49 pc i n) ∧ xr_hok xt_GW xt_NC xm_49 := ⟨xr_cdb_s (T := xt_T L xs) (ST := xt_ST) (AO := xt_AO) (GW := xt_GW) (cp := xt_cp5) (ini := false) (M := xm_49) (xt_cp5_ok L xs) (fun h => Bool.noConfusion h) xt_arr xk_49, (fun _ h => absurd h List.not_mem_nil)⟩
theorem xl_49 : xr_cal xt_GW xm_49 := ⟨plainFor_of_name (by decide +kernel), (xt_in 9 rfl (List.mem_of_getElem? (i := 29) rfl)), (xt_in 1 rfl (List.mem_of_getElem? (i := 16) rfl)), ⟨by decide +kernel, by decide +kernel⟩, by decide +kernel, by decide⟩
theorem xk_50 : xr_cdb xt_cp5 false xm_50 = true := by decide +kernel
set_option maxRecDepth 100000 in
theorem xo_50 (L : Nat) (xs : Nat → Int32) : (∀ (pc : Nat) (i : Instr) (n : Nat), xr_fetch (xr_cd xm_50) pc = some (i, n) → xr_ok (xt_T L xs) xt_GW xt_ST xt_AO xm_50 pc i n) ∧ xr_hok xt_GW xt_NC xm_50 := ⟨xr_cdb_s (T := xt_T L xs) (ST := xt_ST) (AO := xt_AO) (GW := xt_GW) (cp := xt_cp5) (ini := false) (M := xm_50) (xt_cp5_ok L xs) (fun h => Bool.noConfusion h) xt_arr xk_50, (fun _ h => absurd h List.not_mem_nil)⟩
theorem xl_50 : xr_cal xt_GW xm_50 := ⟨plainFor_of_name (by decide +kernel), (xt_in 8 rfl (List.mem_of_getElem? (i := 32) rfl)), (xt_in 1 rfl (List.mem_of_getElem? (i := 16) rfl)), ⟨by decide +kernel, by decide +kernel⟩, by decide +kernel, by decide⟩
theorem xk_51_0 : ((xc_51.drop 0).take 40).all (fun q => xr_okb xt_cp5 false xm_51 q.1 q.2.1 q.2.2) = true := by decide +kernel
theorem xk_51_40 : ((xc_51.drop 40).take 40).all (fun q => xr_okb xt_cp5 false xm_51 q.1 q.2.1 q.2.2) = true := by decide +kernel
theorem xk_51_80 : ((xc_51.drop 80).take 40).all (fun q => xr_okb xt_cp5 false xm_51 q.1 q.2.1 q.2.2) = true := by decide +kernel
theorem xk_51 : xr_cdb xt_cp5 false xm_51 = true := (xr_chk _ 40 0 _ xk_51_0 (xr_chk _ 40 40 _ xk_51_40 (xr_chk _ 40 80 _ xk_51_80 (by decide +kernel))))
set_option maxRecDepth 100000 in
theorem xo_51 (L : Nat) (xs : Nat → Int32) : (∀ (pc : Nat) (i : Instr) (n : Nat), xr_fetch (xr_cd xm_51) pc = some (i, n) → xr_ok (xt_T L xs) xt_GW xt_ST xt_AO xm_51 pc i n) ∧ xr_hok xt_GW xt_NC xm_51 := ⟨xr_cdb_s (T := xt_T L xs) (ST := xt_ST) (AO := xt_AO) (GW := xt_GW) (cp := xt_cp5) (ini := false) (M := xm_51) (xt_cp5_ok L xs) (fun h => Bool.noConfusion h) xt_arr xk_51, (fun _ h => absurd h List.not_mem_nil)⟩
theorem xl_51 : xr_cal xt_GW xm_51 := ⟨plainFor_of_name (by decide +kernel), (xt_in 9 rfl (List.mem_of_getElem? (i := 2) rfl)), (xt_in 1 rfl (List.mem_of_getElem? (i := 16) rfl)), ⟨by decide +kernel, by decide +kernel⟩, by decide +kernel, by decide⟩
theorem xk_52_0 : ((xc_52.drop 0).take 40).all (fun q => xr_okb xt_cp5 false xm_52 q.1 q.2.1 q.2.2) = true := by decide +kernel
end
section
/-! methods that are checked -/
theorem xk_52_40 : ((xc_52.drop 40).take 40).all (fun q => xr_okb xt_cp5 false xm_52 q.1 q.2.1 q.2.2) = true := by decide +kernel
theorem xk_52_80 : ((xc_52.drop 80).take 40).all (fun q => xr_okb xt_cp5 false xm_52 q.1 q.2.1 q.2.2) = true := by decide +kernel
theorem xk_52 : xr_cdb xt_cp5 false xm_52 = true := (xr_chk _ 40 0 _ xk_52_0 (xr_chk _ 40 40 _ xk_52_40 (xr_chk _ 40 80 _ xk_52_80 (by decide +kernel))))
set_option maxRecDepth 100000 in
theorem xo_52 (L : Nat) (xs : Nat → Int32) : (∀ (pc : Nat) (i : Instr) (n : Nat), xr_fetch (xr_cd xm_52) pc = some (i, n) → xr_ok (xt_T L xs) xt_GW xt_ST xt_AO xm_52 pc i n) ∧ xr_hok xt_GW xt_NC xm_52 := ⟨xr_cdb_s (T := xt_T L xs) (ST := xt_ST) (AO := xt_AO) (GW := xt_GW) (cp := xt_cp5) (ini := false) (M := xm_52) (xt_cp5_ok L xs) (fun h => Bool.noConfusion h) xt_arr xk_52, (fun _ h => absurd h List.not_mem_nil)⟩
theorem xl_52 : xr_cal xt_GW xm_52 := ⟨plainFor_of_name (by decide +kernel), (xt_in 9 rfl (List.mem_of_getElem? (i := 14) rfl)), (xt_in 1 rfl (List.mem_of_getElem? (i := 16) rfl)), ⟨by decide +kernel, by decide +kernel⟩, by decide +kernel, by decide⟩
theorem xk_53 : xr_cdb xt_cp5 false xm_53 = true := by decide +kernel
set_option maxRecDepth 100000 in
theorem xo_53 (L : Nat) (xs : Nat → Int32) : (∀ (pc : Nat) (i : Instr) (n : Nat), xr_fetch (xr_cd xm_53) pc = some (i, n) → xr_ok (xt_T L xs) xt_GW xt_ST xt_AO xm_53 pc i n) ∧ xr_hok xt_GW xt_NC xm_53 := ⟨xr_cdb_s (T := xt_T L xs) (ST := xt_ST) (AO := xt_AO) (GW := xt_GW) (cp := xt_cp5) (ini := false) (M := xm_53) (xt_cp5_ok L xs) (fun h => Bool.noConfusion h) xt_arr xk_53, (fun _ h => absurd h List.not_mem_nil)⟩
theorem xl_53 : xr_cal xt_GW xm_53 := ⟨plainFor_of_name (by decide +kernel), (xt_in 9 rfl (List.mem_of_getElem? (i := 5) rfl)), (xt_in 1 rfl (List.mem_of_getElem? (i := 16) rfl)), ⟨by decide +kernel, by decide +kernel⟩, by decide +kernel, by decide⟩
theorem xk_54_0 : ((xc_54.drop 0).take 40).all (fun q => xr_okb xt_cp5 false xm_54 q.1 q.2.1 q.2.2) = true := by decide +kernel
theorem xk_54_40 : ((xc_54.drop 40).take 40).all (fun q => xr_okb xt_cp5 false xm_54 q.1 q.2.1 q.2.2) = true := by decide +kernel
theorem xk_54 : xr_cdb xt_cp5 false xm_54 = true := (xr_chk _ 40 0 _ xk_54_0 (xr_chk _ 40 40 _ xk_54_40 (by decide +kernel)))
set_option maxRecDepth 100000 in
theorem xo_54 (L : Nat) (xs : Nat → Int32) : (∀ (pc : Nat) (i : Instr) (n : Nat), xr_fetch (xr_cd xm_54) pc = some (i, n) → xr_ok (xt_T L xs) xt_GW xt_ST xt_AO xm_54 pc i n) ∧ xr_hok xt_GW xt_NC xm_54 := ⟨xr_cdb_s (T := xt_T L xs) (ST := xt_ST) (AO := xt_AO) (GW := xt_GW) (cp := xt_cp5) (ini := false) (M := xm_54) (xt_cp5_ok L xs) (fun h => Bool.noConfusion h) xt_arr xk_54, (fun _ h => absurd h List.not_mem_nil)⟩
theorem xl_54 : xr_cal xt_GW xm_54 := ⟨plainFor_of_name (by decide +kernel), (xt_in 9 rfl (List.mem_of_getElem? (i := 32) rfl)), (xt_in 1 rfl (List.mem_of_getElem? (i := 16) rfl)), ⟨by decide +kernel, by decide +kernel⟩, by decide +kernel, by decide⟩
theorem xk_55 : xr_cdb xt_cp6 true xm_55 = true := by decide +kernel
set_option maxRecDepth 100000 in
theorem xo_55 (L : Nat) (xs : Nat → Int32) : (∀ (pc : Nat) (i : Instr) (n : Nat), xr_fetch (xr_cd xm_55) pc = some (i, n) → xr_ok (xt_T L xs) xt_GW xt_ST xt_AO xm_55 pc i n) ∧ xr_hok xt_GW xt_NC xm_55 := ⟨xr_cdb_s (T := xt_T L xs) (ST := xt_ST) (AO := xt_AO) (GW := xt_GW) (cp := xt_cp6) (ini := true) (M := xm_55) (xt_cp6_ok L xs) (fun _ => rfl) xt_arr xk_55, (fun _ h => absurd h List.not_mem_nil)⟩
theorem xl_55 : xr_cal xt_GW xm_55 := ⟨plainFor_of_name (by decide +kernel), (xt_in 2 rfl (List.mem_of_getElem? (i := 39) rfl)), (xt_in 1 rfl (List.mem_of_getElem? (i := 18) rfl)), ⟨by decide +kernel, by decide +kernel⟩, by decide +kernel, by decide⟩
theorem xk_56 : xr_cdb xt_cp6 false xm_56 = true := by decide +kernel
set_option maxRecDepth 100000 in
theorem xo_56 (L : Nat) (xs : Nat → Int32) : (∀ (pc : Nat) (i : Instr) (n : Nat), xr_fetch (xr_cd xm_56) pc = some (i, n) → xr_ok (xt_T L xs) xt_GW xt_ST xt_AO xm_56 pc i n) ∧ xr_hok xt_GW xt_NC xm_56 := ⟨xr_cdb_s (T := xt_T L xs) (ST := xt_ST) (AO := xt_AO) (GW := xt_GW) (cp := xt_cp6) (ini := false) (M := xm_56) (xt_cp6_ok L xs) (fun h => Bool.noConfusion h) xt_arr xk_56, (fun _ h => absurd h List.not_mem_nil)⟩
theorem xl_56 : xr_cal xt_GW xm_56 := ⟨plainFor_of_name (by decide +kernel), (xt_in 10 rfl (List.mem_of_getElem? (i := 30) rfl)), (xt_in 1 rfl (List.mem_of_getElem? (i := 18) rfl)), ⟨by decide +kernel, by decide +kernel⟩, by decide +kernel, by decide⟩
theorem xk_57 : xr_cdb xt_cp6 false xm_57 = true := by decide +kernel
set_option maxRecDepth 100000 in
theorem xo_57 (L : Nat) (xs : Nat → Int32) : (∀ (pc : Nat) (i : Instr) (n : Nat), xr_fetch (xr_cd xm_57) pc = some (i, n) → xr_ok (xt_T L xs) xt_GW xt_ST xt_AO xm_57 pc i n) ∧ xr_hok xt_GW xt_NC xm_57 := ⟨xr_cdb_s (T := xt_T L xs) (ST := xt_ST) (AO := xt_AO) (GW := xt_GW) (cp := xt_cp6) (ini := false) (M := xm_57) (xt_cp6_ok L xs) (fun h => Bool.noConfusion h) xt_arr xk_57, (fun _ h => absurd h List.not_mem_nil)⟩
theorem xl_57 : xr_cal xt_GW xm_57 := ⟨plainFor_of_name (by decide +kernel), (xt_in 10 rfl (List.mem_of_getElem? (i := 36) rfl)), (xt_in 1 rfl (List.mem_of_getElem? (i := 18) rfl)), ⟨by decide +kernel, by decide +kernel⟩, by decide +kernel, by decide⟩
theorem xk_58 : xr_cdb xt_cp6 false xm_58 = true := by decide +kernel
set_option maxRecDepth 100000 in
theorem xo_58 (L : Nat) (xs : Nat → Int32) : (∀ (pc : Nat) (i : Instr) (n : Nat), xr_fetch (xr_cd xm_58) pc = some (i, n) → xr_ok (xt_T L xs) xt_GW xt_ST xt_AO xm_58 pc i n) ∧ xr_hok xt_GW xt_NC xm_58 := ⟨xr_cdb_s (T := xt_T L xs) (ST := xt_ST) (AO := xt_AO) (GW := xt_GW) (cp := xt_cp6) (ini := false) (M := xm_58) (xt_cp6_ok L xs) (fun h => Bool.noConfusion h) xt_arr xk_58, (fun _ h => absurd h List.not_mem_nil)⟩
theorem xl_58 : xr_cal xt_GW xm_58 := ⟨plainFor_of_name (by decide +kernel), (xt_in 10 rfl (List.mem_of_getElem? (i := 39) rfl)), (xt_in 1 rfl (List.mem_of_getElem? (i := 18) rfl)), ⟨by decide +kernel, by decide +kernel⟩, by decide +kernel, by decide⟩
theorem xk_59_0 : ((xc_59.drop 0).take 40).all (fun q => xr_okb xt_cp6 false xm_59 q.1 q.2.1 q.2.2) = true := by decide +kernel
theorem xk_59_40 : ((xc_59.drop 40).take 40).all (fun q => xr_okb xt_cp6 false xm_59 q.1 q.2.1 q.2.2) = true := by decide +kernel
theorem xk_59 : xr_cdb xt_cp6 false xm_59 = true := (xr_chk _ 40 0 _ xk_59_0 (xr_chk _ 40 40 _ xk_59_40 (by decide +kernel)))
set_option maxRecDepth 100000 in
theorem xo_59 (L : Nat) (xs : Nat → Int32) : (∀ (pc : Nat) (i : Instr) (n : Nat), xr_fetch (xr_cd xm_59) pc = some (i, n) → xr_ok (xt_T L xs) xt_GW xt_ST xt_AO xm_59 pc i n) ∧ xr_hok xt_GW xt_NC xm_59 := ⟨xr_cdb_s (T := xt_T L xs) (ST := xt_ST) (AO := xt_AO) (GW := xt_GW) (cp := xt_cp6) (ini := false) (M := xm_59) (xt_cp6_ok L xs) (fun h => Bool.noConfusion h) xt_arr xk_59, (fun _ h => absurd h List.not_mem_nil)⟩
theorem xl_59 : xr_cal xt_GW xm_59 := ⟨plainFor_of_name (by decide +kernel), (xt_in 10 rfl (List.mem_of_getElem? (i := 33) rfl)), (xt_in 1 rfl (List.mem_of_getElem? (i := 18) rfl)), ⟨by decide +kernel, by decide +kernel⟩, by decide +kernel, by decide⟩
theorem xk_60 : xr_cdb xt_cp6 false xm_60 = true := by decide +kernel
set_option maxRecDepth 100000 in
theorem xo_60 (L : Nat) (xs : Nat → Int32) : (∀ (pc : Nat) (i : Instr) (n : Nat), xr_fetch (xr_cd xm_60) pc = some (i, n) → xr_ok (xt_T L xs) xt_GW xt_ST xt_AO xm_60 pc i n) ∧ xr_hok xt_GW xt_NC xm_60 := ⟨xr_cdb_s (T := xt_T L xs) (ST := xt_ST) (AO := xt_AO) (GW := xt_GW) (cp := xt_cp6) (ini := false) (M := xm_60) (xt_cp6_ok L xs) (fun h => Bool.noConfusion h) xt_arr xk_60, (fun _ h => absurd h List.not_mem_nil)⟩
theorem xl_60 : xr_cal xt_GW xm_60 := ⟨plainFor_of_name (by decide +kernel), (xt_in 11 rfl (List.mem_of_getElem? (i := 6) rfl)), (xt_in 1 rfl (List.mem_of_getElem? (i := 18) rfl)), ⟨by decide +kernel, by decide +kernel⟩, by decide +kernel, by decide⟩
end
section
/-! methods that are checked -/
theorem xk_61_0 : ((xc_61.drop 0).take 40).all (fun q => xr_okb xt_cp6 false xm_61 q.1 q.2.1 q.2.2) = true := by decide +kernel
theorem xk_61_40 : ((xc_61.drop 40).take 40).all (fun q => xr_okb xt_cp6 false xm_61 q.1 q.2.1 q.2.2) = true := by decide +kernel
theorem xk_61_80 : ((xc_61.drop 80).take 40).all (fun q => xr_okb xt_cp6 false xm_61 q.1 q.2.1 q.2.2) = true := by decide +kernel
theorem xk_61 : xr_cdb xt_cp6 false xm_61 = true := (xr_chk _ 40 0 _ xk_61_0 (xr_chk _ 40 40 _ xk_61_40 (xr_chk _ 40 80 _ xk_61_80 (by decide +kernel))))
set_option maxRecDepth 100000 in
theorem xo_61 (L : Nat) (xs : Nat → Int32) : (∀ (pc : Nat) (i : Instr) (n : Nat), xr_fetch (xr_cd xm_61) pc = some (i, n) → xr_ok (xt_T L xs) xt_GW xt_ST xt_AO xm_61 pc i n) ∧ xr_hok xt_GW xt_NC xm_61 := ⟨xr_cdb_s (T := xt_T L xs) (ST := xt_ST) (AO := xt_AO) (GW := xt_GW) (cp := xt_cp6) (ini := false) (M := xm_61) (xt_cp6_ok L xs) (fun h => Bool.noConfusion h) xt_arr xk_61, (fun _ h => absurd h List.not_mem_nil)⟩
theorem xl_61 : xr_cal xt_GW xm_61 := ⟨plainFor_of_name (by decide +kernel), (xt_in 12 rfl (List.mem_of_getElem? (i := 7) rfl)), (xt_in 1 rfl (List.mem_of_getElem? (i := 18) rfl)), ⟨by decide +kernel, by decide +kernel⟩, by decide +kernel, by decide⟩
theorem xk_62_0 : ((xc_62.drop 0).take 40).all (fun q => xr_okb xt_cp6 false xm_62 q.1 q.2.1 q.2.2) = true := by decide +kernel
theorem xk_62_40 : ((xc_62.drop 40).take 40).all (fun q => xr_okb xt_cp6 false xm_62 q.1 q.2.1 q.2.2) = true := by decide +kernel
theorem xk_62_80 : ((xc_62.drop 80).take 40).all (fun q => xr_okb xt_cp6 false xm_62 q.1 q.2.1 q.2.2) = true := by decide +kernel
theorem xk_62 : xr_cdb xt_cp6 false xm_62 = true := (xr_chk _ 40 0 _ xk_62_0 (xr_chk _ 40 40 _ xk_62_40 (xr_chk _ 40 80 _ xk_62_80 (by decide +kernel))))
set_option maxRecDepth 100000 in
theorem xo_62 (L : Nat) (xs : Nat → Int32) : (∀ (pc : Nat) (i : Instr) (n : Nat), xr_fetch (xr_cd xm_62) pc = some (i, n) → xr_ok (xt_T L xs) xt_GW xt_ST xt_AO xm_62 pc i n) ∧ xr_hok xt_GW xt_NC xm_62 := ⟨xr_cdb_s (T := xt_T L xs) (ST := xt_ST) (AO := xt_AO) (GW := xt_GW) (cp := xt_cp6) (ini := false) (M := xm_62) (xt_cp6_ok L xs) (fun h => Bool.noConfusion h) xt_arr xk_62, (fun _ h => absurd h List.not_mem_nil)⟩
theorem xl_62 : xr_cal xt_GW xm_62 := ⟨plainFor_of_name (by decide +kernel), (xt_in 12 rfl (List.mem_of_getElem? (i := 26) rfl)), (xt_in 1 rfl (List.mem_of_getElem? (i := 18) rfl)), ⟨by decide +kernel, by decide +kernel⟩, by decide +kernel, by decide⟩
theorem xk_63 : xr_cdb xt_cp6 false xm_63 = true := by decide +kernel
set_option maxRecDepth 100000 in
theorem xo_63 (L : Nat) (xs : Nat → Int32) : (∀ (pc : Nat) (i : Instr) (n : Nat), xr_fetch (xr_cd xm_63) pc = some (i, n) → xr_ok (xt_T L xs) xt_GW xt_ST xt_AO xm_63 pc i n) ∧ xr_hok xt_GW xt_NC xm_63 := ⟨xr_cdb_s (T := xt_T L xs) (ST := xt_ST) (AO := xt_AO) (GW := xt_GW) (cp := xt_cp6) (ini := false) (M := xm_63) (xt_cp6_ok L xs) (fun h => Bool.noConfusion h) xt_arr xk_63, (fun _ h => absurd h List.not_mem_nil)⟩
theorem xl_63 : xr_cal xt_GW xm_63 := ⟨plainFor_of_name (by decide +kernel), (xt_in 12 rfl (List.mem_of_getElem? (i := 20) rfl)), (xt_in 1 rfl (List.mem_of_getElem? (i := 18) rfl)), ⟨by decide +kernel, by decide +kernel⟩, by decide +kernel, by decide⟩
theorem xk_64 : xr_cdb xt_cp6 false xm_64 = true := by decide +kernel
set_option maxRecDepth 100000 in
theorem xo_64 (L : Nat) (xs : Nat → Int32) : (∀ (pc : Nat) (i : Instr) (n : Nat), xr_fetch (xr_cd xm_64) pc = some (i, n) → xr_ok (xt_T L xs) xt_GW xt_ST xt_AO xm_64 pc i n) ∧ xr_hok xt_GW xt_NC xm_64 := ⟨xr_cdb_s (T := xt_T L xs) (ST := xt_ST) (AO := xt_AO) (GW := xt_GW) (cp := xt_cp6) (ini := false) (M := xm_64) (xt_cp6_ok L xs) (fun h => Bool.noConfusion h) xt_arr xk_64, (fun _ h => absurd h List.not_mem_nil)⟩
theorem xl_64 : xr_cal xt_GW xm_64 := ⟨plainFor_of_name (by decide +kernel), (xt_in 12 rfl (List.mem_of_getElem? (i := 14) rfl)), (xt_in 1 rfl (List.mem_of_getElem? (i := 18) rfl)), ⟨by decide +kernel, by decide +kernel⟩, by decide +kernel, by decide⟩
theorem xk_65 : xr_cdb xt_cp6 false xm_65 = true := by decide +kernel
set_option maxRecDepth 100000 in
theorem xo_65 (L : Nat) (xs : Nat → Int32) : (∀ (pc : Nat) (i : Instr) (n : Nat), xr_fetch (xr_cd xm_65) pc = some (i, n) → xr_ok (xt_T L xs) xt_GW xt_ST xt_AO xm_65 pc i n) ∧ xr_hok xt_GW xt_NC xm_65 := ⟨xr_cdb_s (T := xt_T L xs) (ST := xt_ST) (AO := xt_AO) (GW := xt_GW) (cp := xt_cp6) (ini := false) (M := xm_65) (xt_cp6_ok L xs) (fun h => Bool.noConfusion h) xt_arr xk_65, (fun _ h => absurd h List.not_mem_nil)⟩
theorem xl_65 : xr_cal xt_GW xm_65 := ⟨plainFor_of_name (by decide +kernel), (xt_in 12 rfl (List.mem_of_getElem? (i := 17) rfl)), (xt_in 1 rfl (List.mem_of_getElem? (i := 18) rfl)), ⟨by decide +kernel, by decide +kernel⟩, by decide +kernel, by decide⟩
theorem xk_66 : xr_cdb xt_cp6 false xm_66 = true := by decide +kernel
set_option maxRecDepth 100000 in
theorem xo_66 (L : Nat) (xs : Nat → Int32) : (∀ (pc : Nat) (i : Instr) (n : Nat), xr_fetch (xr_cd xm_66) pc = some (i, n) → xr_ok (xt_T L xs) xt_GW xt_ST xt_AO xm_66 pc i n) ∧ xr_hok xt_GW xt_NC xm_66 := ⟨xr_cdb_s (T := xt_T L xs) (ST := xt_ST) (AO := xt_AO) (GW := xt_GW) (cp := xt_cp6) (ini := false) (M := xm_66) (xt_cp6_ok L xs) (fun h => Bool.noConfusion h) xt_arr xk_66, (fun _ h => absurd h List.not_mem_nil)⟩
theorem xl_66 : xr_cal xt_GW xm_66 := ⟨plainFor_of_name (by decide +kernel), (xt_in 11 rfl (List.mem_of_getElem? (i := 9) rfl)), (xt_in 1 rfl (List.mem_of_getElem? (i := 18) rfl)), ⟨by decide +kernel, by decide +kernel⟩, by decide +kernel, by decide⟩
theorem xk_67 : xr_cdb xt_cp6 false xm_67 = true := by decide +kernel
set_option maxRecDepth 100000 in
theorem xo_67 (L : Nat) (xs : Nat → Int32) : (∀ (pc : Nat) (i : Instr) (n : Nat), xr_fetch (xr_cd xm_67) pc = some (i, n) → xr_ok (xt_T L xs) xt_GW xt_ST xt_AO xm_67 pc i n) ∧ xr_hok xt_GW xt_NC xm_67 := ⟨xr_cdb_s (T := xt_T L xs) (ST := xt_ST) (AO := xt_AO) (GW := xt_GW) (cp := xt_cp6) (ini := false) (M := xm_67) (xt_cp6_ok L xs) (fun h => Bool.noConfusion h) xt_arr xk_67, (fun _ h => absurd h List.not_mem_nil)⟩
theorem xl_67 : xr_cal xt_GW xm_67 := ⟨plainFor_of_name (by decide +kernel), (xt_in 11 rfl (List.mem_of_getElem? (i := 12) rfl)), (xt_in 1 rfl (List.mem_of_getElem? (i := 18) rfl)), ⟨by decide +kernel, by decide +kernel⟩, by decide +kernel, by decide⟩
theorem xk_68_0 : ((xc_68.drop 0).take 40).all (fun q => xr_okb xt_cp6 false xm_68 q.1 q.2.1 q.2.2) = true := by decide +kernel
end
section
/-! methods that are checked -/
theorem xk_68_40 : ((xc_68.drop 40).take 40).all (fun q => xr_okb xt_cp6 false xm_68 q.1 q.2.1 q.2.2) = true := by decide +kernel
theorem xk_68_80 : ((xc_68.drop 80).take 40).all (fun q => xr_okb xt_cp6 false xm_68 q.1 q.2.1 q.2.2) = true := by decide +kernel
theorem xk_68 : xr_cdb xt_cp6 false xm_68 = true := (xr_chk _ 40 0 _ xk_68_0 (xr_chk _ 40 40 _ xk_68_40 (xr_chk _ 40 80 _ xk_68_80 (by decide +kernel))))
set_option maxRecDepth 100000 in
theorem xo_68 (L : Nat) (xs : Nat → Int32) : (∀ (pc : Nat) (i : Instr) (n : Nat), xr_fetch (xr_cd xm_68) pc = some (i, n) → xr_ok (xt_T L xs) xt_GW xt_ST xt_AO xm_68 pc i n) ∧ xr_hok xt_GW xt_NC xm_68 := ⟨xr_cdb_s (T := xt_T L xs) (ST := xt_ST) (AO := xt_AO) (GW := xt_GW) (cp := xt_cp6) (ini := false) (M := xm_68) (xt_cp6_ok L xs) (fun h => Bool.noConfusion h) xt_arr xk_68, (fun _ h => absurd h List.not_mem_nil)⟩
theorem xl_68 : xr_cal xt_GW xm_68 := ⟨plainFor_of_name (by decide +kernel), (xt_in 11 rfl (List.mem_of_getElem? (i := 15) rfl)), (xt_in 1 rfl (List.mem_of_getElem? (i := 18) rfl)), ⟨by decide +kernel, by decide +kernel⟩, by decide +kernel, by decide⟩
theorem xk_69 : xr_cdb xt_cp6 false xm_69 = true := by decide +kernel
set_option maxRecDepth 100000 in
theorem xo_69 (L : Nat) (xs : Nat → Int32) : (∀ (pc : Nat) (i : Instr) (n : Nat), xr_fetch (xr_cd xm_69) pc = some (i, n) → xr_ok (xt_T L xs) xt_GW xt_ST xt_AO xm_69 pc i n) ∧ xr_hok xt_GW xt_NC xm_69 := ⟨xr_cdb_s (T := xt_T L xs) (ST := xt_ST) (AO := xt_AO) (GW := xt_GW) (cp := xt_cp6) (ini := false) (M := xm_69) (xt_cp6_ok L xs) (fun h => Bool.noConfusion h) xt_arr xk_69, (fun _ h => absurd h List.not_mem_nil)⟩
theorem xl_69 : xr_cal xt_GW xm_69 := ⟨plainFor_of_name (by decide +kernel), (xt_in 11 rfl (List.mem_of_getElem? (i := 36) rfl)), (xt_in 1 rfl (List.mem_of_getElem? (i := 18) rfl)), ⟨by decide +kernel, by decide +kernel⟩, by decide +kernel, by decide⟩
theorem xk_70 : xr_cdb xt_cp6 false xm_70 = true := by decide +kernel
set_option maxRecDepth 100000 in
theorem xo_70 (L : Nat) (xs : Nat → Int32) : (∀ (pc : Nat) (i : Instr) (n : Nat), xr_fetch (xr_cd xm_70) pc = some (i, n) → xr_ok (xt_T L xs) xt_GW xt_ST xt_AO xm_70 pc i n) ∧ xr_hok xt_GW xt_NC xm_70 := ⟨xr_cdb_s (T := xt_T L xs) (ST := xt_ST) (AO := xt_AO) (GW := xt_GW) (cp := xt_cp6) (ini := false) (M := xm_70) (xt_cp6_ok L xs) (fun h => Bool.noConfusion h) xt_arr xk_70, (fun _ h => absurd h List.not_mem_nil)⟩
theorem xl_70 : xr_cal xt_GW xm_70 := ⟨plainFor_of_name (by decide +kernel), (xt_in 11 rfl (List.mem_of_getElem? (i := 29) rfl)), (xt_in 1 rfl (List.mem_of_getElem? (i := 18) rfl)), ⟨by decide +kernel, by decide +kernel⟩, by decide +kernel, by decide⟩
theorem xk_71_0 : ((xc_71.drop 0).take 40).all (fun q => xr_okb xt_cp6 false xm_71 q.1 q.2.1 q.2.2) = true := by decide +kernel
theorem xk_71_40 : ((xc_71.drop 40).take 40).all (fun q => xr_okb xt_cp6 false xm_71 q.1 q.2.1 q.2.2) = true := by decide +kernel
theorem xk_71 : xr_cdb xt_cp6 false xm_71 = true := (xr_chk _ 40 0 _ xk_71_0 (xr_chk _ 40 40 _ xk_71_40 (by decide +kernel)))
set_option maxRecDepth 100000 in
theorem xo_71 (L : Nat) (xs : Nat → Int32) : (∀ (pc : Nat) (i : Instr) (n : Nat), xr_fetch (xr_cd xm_71) pc = some (i, n) → xr_ok (xt_T L xs) xt_GW xt_ST xt_AO xm_71 pc i n) ∧ xr_hok xt_GW xt_NC xm_71 := ⟨xr_cdb_s (T := xt_T L xs) (ST := xt_ST) (AO := xt_AO) (GW := xt_GW) (cp := xt_cp6) (ini := false) (M := xm_71) (xt_cp6_ok L xs) (fun h => Bool.noConfusion h) xt_arr xk_71, (fun _ h => absurd h List.not_mem_nil)⟩
theorem xl_71 : xr_cal xt_GW xm_71 := ⟨plainFor_of_name (by decide +kernel), (xt_in 11 rfl (List.mem_of_getElem? (i := 32) rfl)), (xt_in 1 rfl (List.mem_of_getElem? (i := 18) rfl)), ⟨by decide +kernel, by decide +kernel⟩, by decide +kernel, by decide⟩
theorem xk_72_0 : ((xc_72.drop 0).take 40).all (fun q => xr_okb xt_cp6 false xm_72 q.1 q.2.1 q.2.2) = true := by decide +kernel
theorem xk_72_40 : ((xc_72.drop 40).take 40).all (fun q => xr_okb xt_cp6 false xm_72 q.1 q.2.1 q.2.2) = true := by decide +kernel
theorem xk_72 : xr_cdb xt_cp6 false xm_72 = true := (xr_chk _ 40 0 _ xk_72_0 (xr_chk _ 40 40 _ xk_72_40 (by decide +kernel)))
set_option maxRecDepth 100000 in
theorem xo_72 (L : Nat) (xs : Nat → Int32) : (∀ (pc : Nat) (i : Instr) (n : Nat), xr_fetch (xr_cd xm_72) pc = some (i, n) → xr_ok (xt_T L xs) xt_GW xt_ST xt_AO xm_72 pc i n) ∧ xr_hok xt_GW xt_NC xm_72 := ⟨xr_cdb_s (T := xt_T L xs) (ST := xt_ST) (AO := xt_AO) (GW := xt_GW) (cp := xt_cp6) (ini := false) (M := xm_72) (xt_cp6_ok L xs) (fun h => Bool.noConfusion h) xt_arr xk_72, (fun _ h => absurd h List.not_mem_nil)⟩
theorem xl_72 : xr_cal xt_GW xm_72 := ⟨plainFor_of_name (by decide +kernel), (xt_in 11 rfl (List.mem_of_getElem? (i := 18) rfl)), (xt_in 1 rfl (List.mem_of_getElem? (i := 18) rfl)), ⟨by decide +kernel, by decide +kernel⟩, by decide +kernel, by decide⟩
theorem xk_73_0 : ((xc_73.drop 0).take 40).all (fun q => xr_okb xt_cp6 false xm_73 q.1 q.2.1 q.2.2) = true := by decide +kernel
theorem xk_73_40 : ((xc_73.drop 40).take 40).all (fun q => xr_okb xt_cp6 false xm_73 q.1 q.2.1 q.2.2) = true := by decide +kernel
theorem xk_73 : xr_cdb xt_cp6 false xm_73 = true := (xr_chk _ 40 0 _ xk_73_0 (xr_chk _ 40 40 _ xk_73_40 (by decide +kernel)))
set_option maxRecDepth 100000 in
theorem xo_73 (L : Nat) (xs : Nat → Int32) : (∀ (pc : Nat) (i : Instr) (n : Nat), xr_fetch (xr_cd xm_73) pc = some (i, n) → xr_ok (xt_T L xs) xt_GW xt_ST xt_AO xm_73 pc i n) ∧ xr_hok xt_GW xt_NC xm_73 := ⟨xr_cdb_s (T := xt_T L xs) (ST := xt_ST) (AO := xt_AO) (GW := xt_GW) (cp := xt_cp6) (ini := false) (M := xm_73) (xt_cp6_ok L xs) (fun h => Bool.noConfusion h) xt_arr xk_73, (fun _ h => absurd h List.not_mem_nil)⟩
theorem xl_73 : xr_cal xt_GW xm_73 := ⟨plainFor_of_name (by decide +kernel), (xt_in 12 rfl (List.mem_of_getElem? (i := 29) rfl)), (xt_in 1 rfl (List.mem_of_getElem? (i := 18) rfl)), ⟨by decide +kernel, by decide +kernel⟩, by decide +kernel, by decide⟩
theorem xk_74 : xr_cdb xt_cp6 false xm_74 = true := by decide +kernel
set_option maxRecDepth 100000 in
theorem xo_74 (L : Nat) (xs : Nat → Int32) : (∀ (pc : Nat) (i : Instr) (n : Nat), xr_fetch (xr_cd xm_74) pc = some (i, n) → xr_ok (xt_T L xs) xt_GW xt_ST xt_AO xm_74 pc i n) ∧ xr_hok xt_GW xt_NC xm_74 := ⟨xr_cdb_s (T := xt_T L xs) (ST := xt_ST) (AO := xt_AO) (GW := xt_GW) (cp := xt_cp6) (ini := false) (M := xm_74) (xt_cp6_ok L xs) (fun h => Bool.noConfusion h) xt_arr xk_74, (fun _ h => absurd h List.not_mem_nil)⟩
theorem xl_74 : xr_cal xt_GW xm_74 := ⟨plainFor_of_name (by decide +kernel), (xt_in 12 rfl (List.mem_of_getElem? (i := 32) rfl)), (xt_in 1 rfl (List.mem_of_getElem? (i := 18) rfl)), ⟨by decide +kernel, by decide +kernel⟩, by decide +kernel, by decide⟩
theorem xk_75 : xr_cdb xt_cp6 false xm_75 = true := by decide +kernel
set_option maxRecDepth 100000 in
theorem xo_75 (L : Nat) (xs : Nat → Int32) : (∀ (pc : Nat) (i : Instr) (n : Nat), xr_fetch (xr_cd xm_75) pc = some (i, n) → xr_ok (xt_T L xs) xt_GW xt_ST xt_AO xm_75 pc i n) ∧ xr_hok xt_GW xt_NC xm_75 := ⟨xr_cdb_s (T := xt_T L xs) (ST := xt_ST) (AO := xt_AO) (GW := xt_GW) (cp := xt_cp6) (ini := false) (M := xm_75) (xt_cp6_ok L xs) (fun h => Bool.noConfusion h) xt_arr xk_75, (fun _ h => absurd h List.not_mem_nil)⟩
theorem xl_75 : xr_cal xt_GW xm_75 := ⟨plainFor_of_name (by decide +kernel), (xt_in 12 rfl (List.mem_of_getElem? (i := 23) rfl)), (xt_in 1 rfl (List.mem_of_getElem? (i := 18) rfl)), ⟨by decide +kernel, by decide +kernel⟩, by decide +kernel, by decide⟩
theorem xk_76 : xr_cdb xt_cp6 false xm_76 = true := by decide +kernel
set_option maxRecDepth 100000 in
theorem xo_76 (L : Nat) (xs : Nat → Int32) : (∀ (pc : Nat) (i : Instr) (n : Nat), xr_fetch (xr_cd xm_76) pc = some (i, n) → xr_ok (xt_T L xs) xt_GW xt_ST xt_AO xm_76 pc i n) ∧ xr_hok xt_GW xt_NC xm_76 := ⟨xr_cdb_s (T := xt_T L xs) (ST := xt_ST) (AO := xt_AO) (GW := xt_GW) (cp := xt_cp6) (ini := false) (M := xm_76) (xt_cp6_ok L xs) (fun h => Bool.noConfusion h) xt_arr xk_76, (fun _ h => absurd h List.not_mem_nil)⟩
theorem xl_76 : xr_cal xt_GW xm_76 := ⟨plainFor_of_name (by decide +kernel), (xt_in 14 rfl (List.mem_of_getElem? (i := 9) rfl)), (xt_in 1 rfl (List.mem_of_getElem? (i := 18) rfl)), ⟨by decide +kernel, by decide +kernel⟩, by decide +kernel, by decide⟩
end
section
/-! methods that are checked -/
theorem xk_77 : xr_cdb xt_cp6 false xm_77 = true := by decide +kernel
set_option maxRecDepth 100000 in
theorem xo_77 (L : Nat) (xs : Nat → Int32) : (∀ (pc : Nat) (i : Instr) (n : Nat), xr_fetch (xr_cd xm_77) pc = some (i, n) → xr_ok (xt_T L xs) xt_GW xt_ST xt_AO xm_77 pc i n) ∧ xr_hok xt_GW xt_NC xm_77 := ⟨xr_cdb_s (T := xt_T L xs) (ST := xt_ST) (AO := xt_AO) (GW := xt_GW) (cp := xt_cp6) (ini := false) (M := xm_77) (xt_cp6_ok L xs) (fun h => Bool.noConfusion h) xt_arr xk_77, (fun _ h => absurd h List.not_mem_nil)⟩
theorem xl_77 : xr_cal xt_GW xm_77 := ⟨plainFor_of_name (by decide +kernel), (xt_in 14 rfl (List.mem_of_getElem? (i := 13) rfl)), (xt_in 1 rfl (List.mem_of_getElem? (i := 18) rfl)), ⟨by decide +kernel, by decide +kernel⟩, by decide +kernel, by decide⟩
theorem xk_78 : xr_cdb xt_cp6 false xm_78 = true := by decide +kernel
set_option maxRecDepth 100000 in
theorem xo_78 (L : Nat) (xs : Nat → Int32) : (∀ (pc : Nat) (i : Instr) (n : Nat), xr_fetch (xr_cd xm_78) pc = some (i, n) → xr_ok (xt_T L xs) xt_GW xt_ST xt_AO xm_78 pc i n) ∧ xr_hok xt_GW xt_NC xm_78 := ⟨xr_cdb_s (T := xt_T L xs) (ST := xt_ST) (AO := xt_AO) (GW := xt_GW) (cp := xt_cp6) (ini := false) (M := xm_78) (xt_cp6_ok L xs) (fun h => Bool.noConfusion h) xt_arr xk_78, (fun _ h => absurd h List.not_mem_nil)⟩
theorem xl_78 : xr_cal xt_GW xm_78 := ⟨plainFor_of_name (by decide +kernel), (xt_in 15 rfl (List.mem_of_getElem? (i := 5) rfl)), (xt_in 1 rfl (List.mem_of_getElem? (i := 18) rfl)), ⟨by decide +kernel, by decide +kernel⟩, by decide +kernel, by decide⟩
theorem xk_79 : xr_cdb xt_cp6 false xm_79 = true := by decide +kernel
set_option maxRecDepth 100000 in
theorem xo_79 (L : Nat) (xs : Nat → Int32) : (∀ (pc : Nat) (i : Instr) (n : Nat), xr_fetch (xr_cd xm_79) pc = some (i, n) → xr_ok (xt_T L xs) xt_GW xt_ST xt_AO xm_79 pc i n) ∧ xr_hok xt_GW xt_NC xm_79 := ⟨xr_cdb_s (T := xt_T L xs) (ST := xt_ST) (AO := xt_AO) (GW := xt_GW) (cp := xt_cp6) (ini := false) (M := xm_79) (xt_cp6_ok L xs) (fun h => Bool.noConfusion h) xt_arr xk_79, (fun _ h => absurd h List.not_mem_nil)⟩
theorem xl_79 : xr_cal xt_GW xm_79 := ⟨plainFor_of_name (by decide +kernel), (xt_in 18 rfl (List.mem_of_getElem? (i := 11) rfl)), (xt_in 1 rfl (List.mem_of_getElem? (i := 18) rfl)), ⟨by decide +kernel, by decide +kernel⟩, by decide +kernel, by decide⟩
theorem xk_80 : xr_cdb xt_cp6 false xm_80 = true := by decide +kernel
set_option maxRecDepth 100000 in
theorem xo_80 (L : Nat) (xs : Nat → Int32) : (∀ (pc : Nat) (i : Instr) (n : Nat), xr_fetch (xr_cd xm_80) pc = some (i, n) → xr_ok (xt_T L xs) xt_GW xt_ST xt_AO xm_80 pc i n) ∧ xr_hok xt_GW xt_NC xm_80 := ⟨xr_cdb_s (T := xt_T L xs) (ST := xt_ST) (AO := xt_AO) (GW := xt_GW) (cp := xt_cp6) (ini := false) (M := xm_80) (xt_cp6_ok L xs) (fun h => Bool.noConfusion h) xt_arr xk_80, (fun _ h => absurd h List.not_mem_nil)⟩
theorem xl_80 : xr_cal xt_GW xm_80 := ⟨plainFor_of_name (by decide +kernel), (xt_in 15 rfl (List.mem_of_getElem? (i := 25) rfl)), (xt_in 1 rfl (List.mem_of_getElem? (i := 18) rfl)), ⟨by decide +kernel, by decide +kernel⟩, by decide +kernel, by decide⟩
theorem xk_81 : xr_cdb xt_cp6 false xm_81 = true := by decide +kernel
set_option maxRecDepth 100000 in
theorem xo_81 (L : Nat) (xs : Nat → Int32) : (∀ (pc : Nat) (i : Instr) (n : Nat), xr_fetch (xr_cd xm_81) pc = some (i, n) → xr_ok (xt_T L xs) xt_GW xt_ST xt_AO xm_81 pc i n) ∧ xr_hok xt_GW xt_NC xm_81 := ⟨xr_cdb_s (T := xt_T L xs) (ST := xt_ST) (AO := xt_AO) (GW := xt_GW) (cp := xt_cp6) (ini := false) (M := xm_81) (xt_cp6_ok L xs) (fun h => Bool.noConfusion h) xt_arr xk_81, (fun _ h => absurd h List.not_mem_nil)⟩
theorem xl_81 : xr_cal xt_GW xm_81 := ⟨plainFor_of_name (by decide +kernel), (xt_in 13 rfl (List.mem_of_getElem? (i := 11) rfl)), (xt_in 1 rfl (List.mem_of_getElem? (i := 18) rfl)), ⟨by decide +kernel, by decide +kernel⟩, by decide +kernel, by decide⟩
theorem xk_82 : xr_cdb xt_cp6 false xm_82 = true := by decide +kernel
set_option maxRecDepth 100000 in
theorem xo_82 (L : Nat) (xs : Nat → Int32) : (∀ (pc : Nat) (i : Instr) (n : Nat), xr_fetch (xr_cd xm_82) pc = some (i, n) → xr_ok (xt_T L xs) xt_GW xt_ST xt_AO xm_82 pc i n) ∧ xr_hok xt_GW xt_NC xm_82 := ⟨xr_cdb_s (T := xt_T L xs) (ST := xt_ST) (AO := xt_AO) (GW := xt_GW) (cp := xt_cp6) (ini := false) (M := xm_82) (xt_cp6_ok L xs) (fun h => Bool.noConfusion h) xt_arr xk_82, (fun _ h => absurd h List.not_mem_nil)⟩
theorem xl_82 : xr_cal xt_GW xm_82 := ⟨plainFor_of_name (by decide +kernel), (xt_in 18 rfl (List.mem_of_getElem? (i := 22) rfl)), (xt_in 1 rfl (List.mem_of_getElem? (i := 18) rfl)), ⟨by decide +kernel, by decide +kernel⟩, by decide +kernel, by decide⟩
theorem xk_83 : xr_cdb xt_cp6 false xm_83 = true := by decide +kernel
set_option maxRecDepth 100000 in
theorem xo_83 (L : Nat) (xs : Nat → Int32) : (∀ (pc : Nat) (i : Instr) (n : Nat), xr_fetch (xr_cd xm_83) pc = some (i, n) → xr_ok (xt_T L xs) xt_GW xt_ST xt_AO xm_83 pc i n) ∧ xr_hok xt_GW xt_NC xm_83 := ⟨xr_cdb_s (T := xt_T L xs) (ST := xt_ST) (AO := xt_AO) (GW := xt_GW) (cp := xt_cp6) (ini := false) (M := xm_83) (xt_cp6_ok L xs) (fun h => Bool.noConfusion h) xt_arr xk_83, (fun _ h => absurd h List.not_mem_nil)⟩
theorem xl_83 : xr_cal xt_GW xm_83 := ⟨plainFor_of_name (by decide +kernel), (xt_in 14 rfl (List.mem_of_getElem? (i := 2) rfl)), (xt_in 1 rfl (List.mem_of_getElem? (i := 18) rfl)), ⟨by decide +kernel, by decide +kernel⟩, by decide +kernel, by decide⟩
theorem xk_84 : xr_cdb xt_cp6 false xm_84 = true := by decide +kernel
set_option maxRecDepth 100000 in
theorem xo_84 (L : Nat) (xs : Nat → Int32) : (∀ (pc : Nat) (i : Instr) (n : Nat), xr_fetch (xr_cd xm_84) pc = some (i, n) → xr_ok (xt_T L xs) xt_GW xt_ST xt_AO xm_84 pc i n) ∧ xr_hok xt_GW xt_NC xm_84 := ⟨xr_cdb_s (T := xt_T L xs) (ST := xt_ST) (AO := xt_AO) (GW := xt_GW) (cp := xt_cp6) (ini := false) (M := xm_84) (xt_cp6_ok L xs) (fun h => Bool.noConfusion h) xt_arr xk_84, (fun _ h => absurd h List.not_mem_nil)⟩
theorem xl_84 : xr_cal xt_GW xm_84 := ⟨plainFor_of_name (by decide +kernel), (xt_in 13 rfl (List.mem_of_getElem? (i := 37) rfl)), (xt_in 1 rfl (List.mem_of_getElem? (i := 18) rfl)), ⟨by decide +kernel, by decide +kernel⟩, by decide +kernel, by decide⟩
theorem xk_85 : xr_cdb xt_cp6 false xm_85 = true := by decide +kernel
set_option maxRecDepth 100000 in
theorem xo_85 (L : Nat) (xs : Nat → Int32) : (∀ (pc : Nat) (i : Instr) (n : Nat), xr_fetch (xr_cd xm_85) pc = some (i, n) → xr_ok (xt_T L xs) xt_GW xt_ST xt_AO xm_85 pc i n) ∧ xr_hok xt_GW xt_NC xm_85 := ⟨xr_cdb_s (T := xt_T L xs) (ST := xt_ST) (AO := xt_AO) (GW := xt_GW) (cp := xt_cp6) (ini := false) (M := xm_85) (xt_cp6_ok L xs) (fun h => Bool.noConfusion h) xt_arr xk_85, (fun _ h => absurd h List.not_mem_nil)⟩
theorem xl_85 : xr_cal xt_GW xm_85 := ⟨plainFor_of_name (by decide +kernel), (xt_in 13 rfl (List.mem_of_getElem? (i := 7) rfl)), (xt_in 1 rfl (List.mem_of_getElem? (i := 18) rfl)), ⟨by decide +kernel, by decide +kernel⟩, by decide +kernel, by decide⟩
theorem xk_86 : xr_cdb xt_cp6 false xm_86 = true := by decide +kernel
set_option maxRecDepth 100000 in
theorem xo_86 (L : Nat) (xs : Nat → Int32) : (∀ (pc : Nat) (i : Instr) (n : Nat), xr_fetch (xr_cd xm_86) pc = some (i, n) → xr_ok (xt_T L xs) xt_GW xt_ST xt_AO xm_86 pc i n) ∧ xr_hok xt_GW xt_NC xm_86 := ⟨xr_cdb_s (T := xt_T L xs) (ST := xt_ST) (AO := xt_AO) (GW := xt_GW) (cp := xt_cp6) (ini := false) (M := xm_86) (xt_cp6_ok L xs) (fun h => Bool.noConfusion h) xt_arr xk_86, (fun _ h => absurd h List.not_mem_nil)⟩
theorem xl_86 : xr_cal xt_GW xm_86 := ⟨plainFor_of_name (by decide +kernel), (xt_in 13 rfl (List.mem_of_getElem? (i := 2) rfl)), (xt_in 1 rfl (List.mem_of_getElem? (i := 18) rfl)), ⟨by decide +kernel, by decide +kernel⟩, by decide +kernel, by decide⟩
theorem xk_87 : xr_cdb xt_cp7 true xm_87 = true := by decide +kernel
set_option maxRecDepth 100000 in
theorem xo_87 (L : Nat) (xs : Nat → Int32) : (∀ (pc : Nat) (i : Instr) (n : Nat), xr_fetch (xr_cd xm_87) pc = some (i, n) → xr_ok (xt_T L xs) xt_GW xt_ST xt_AO xm_87 pc i n) ∧ xr_hok xt_GW xt_NC xm_87 := ⟨xr_cdb_s (T := xt_T L xs) (ST := xt_ST) (AO := xt_AO) (GW := xt_GW) (cp := xt_cp7) (ini := true) (M := xm_87) (xt_cp7_ok L xs) (fun _ => rfl) xt_arr xk_87, (fun _ h => absurd h List.not_mem_nil)⟩
theorem xl_87 : xr_cal xt_GW xm_87 := ⟨plainFor_of_name (by decide +kernel), (xt_in 2 rfl (List.mem_of_getElem? (i := 27) rfl)), (xt_in 1 rfl (List.mem_of_getElem? (i := 17) rfl)), ⟨by decide +kernel, by decide +kernel⟩, by decide +kernel, by decide⟩
theorem xk_88 : xr_cdb xt_cp7 false xm_88 = true := by decide +kernel
set_option maxRecDepth 100000 in
theorem xo_88 (L : Nat) (xs : Nat → Int32) : (∀ (pc : Nat) (i : Instr) (n : Nat), xr_fetch (xr_cd xm_88) pc = some (i, n) → xr_ok (xt_T L xs) xt_GW xt_ST xt_AO xm_88 pc i n) ∧ xr_hok xt_GW xt_NC xm_88 := ⟨xr_cdb_s (T := xt_T L xs) (ST := xt_ST) (AO := xt_AO) (GW := xt_GW) (cp := xt_cp7) (ini := false) (M := xm_88) (xt_cp7_ok L xs) (fun h => Bool.noConfusion h) xt_arr xk_88, (fun _ h => absurd h List.not_mem_nil)⟩
theorem xl_88 : xr_cal xt_GW xm_88 := ⟨plainFor_of_name (by decide +kernel), (xt_in 5 rfl (List.mem_of_getElem? (i := 23) rfl)), (xt_in 1 rfl (List.mem_of_getElem? (i := 17) rfl)), ⟨by decide +kernel, by decide +kernel⟩, by decide +kernel, by decide⟩
theorem xk_89 : xr_cdb xt_cp9 false xm_89 = true := by decide +kernel
set_option maxRecDepth 100000 in
theorem xo_89 (L : Nat) (xs : Nat → Int32) : (∀ (pc : Nat) (i : Instr) (n : Nat), xr_fetch (xr_cd xm_89) pc = some (i, n) → xr_ok (xt_T L xs) xt_GW xt_ST xt_AO xm_89 pc i n) ∧ xr_hok xt_GW xt_NC xm_89 := ⟨xr_cdb_s (T := xt_T L xs) (ST := xt_ST) (AO := xt_AO) (GW := xt_GW) (cp := xt_cp9) (ini := false) (M := xm_89) (xt_cp9_ok L xs) (fun h => Bool.noConfusion h) xt_arr xk_89, (fun _ h => absurd h List.not_mem_nil)⟩
theorem xl_89 : xr_cal xt_GW xm_89 := ⟨plainFor_of_name (by decide +kernel), (xt_in 10 rfl (List.mem_of_getElem? (i := 5) rfl)), (xt_in 1 rfl (List.mem_of_getElem? (i := 13) rfl)), ⟨by decide +kernel, by decide +kernel⟩, by decide +kernel, by decide⟩
theorem xk_90 : xr_cdb xt_cp9 false xm_90 = true := by decide +kernel
set_option maxRecDepth 100000 in
theorem xo_90 (L : Nat) (xs : Nat → Int32) : (∀ (pc : Nat) (i : Instr) (n : Nat), xr_fetch (xr_cd xm_90) pc = some (i, n) → xr_ok (xt_T L xs) xt_GW xt_ST xt_AO xm_90 pc i n) ∧ xr_hok xt_GW xt_NC xm_90 := ⟨xr_cdb_s (T := xt_T L xs) (ST := xt_ST) (AO := xt_AO) (GW := xt_GW) (cp := xt_cp9) (ini := false) (M := xm_90) (xt_cp9_ok L xs) (fun h => Bool.noConfusion h) xt_arr xk_90, (fun _ h => absurd h List.not_mem_nil)⟩
theorem xl_90 : xr_cal xt_GW xm_90 := ⟨plainFor_of_name (by decide +kernel), (xt_in 10 rfl (List.mem_of_getElem? (i := 10) rfl)), (xt_in 1 rfl (List.mem_of_getElem? (i := 13) rfl)), ⟨by decide +kernel, by decide +kernel⟩, by decide +kernel, by decide⟩
theorem xk_91 : xr_cdb xt_cp9 false xm_91 = true := by decide +kernel
set_option maxRecDepth 100000 in
theorem xo_91 (L : Nat) (xs : Nat → Int32) : (∀ (pc : Nat) (i : Instr) (n : Nat), xr_fetch (xr_cd xm_91) pc = some (i, n) → xr_ok (xt_T L xs) xt_GW xt_ST xt_AO xm_91 pc i n) ∧ xr_hok xt_GW xt_NC xm_91 := ⟨xr_cdb_s (T := xt_T L xs) (ST := xt_ST) (AO := xt_AO) (GW := xt_GW) (cp := xt_cp9) (ini := false) (M := xm_91) (xt_cp9_ok L xs) (fun h => Bool.noConfusion h) xt_arr xk_91, List.forall_mem_cons.mpr ⟨⟨by decide, (xt_in 10 rfl (List.mem_of_getElem? (i := 15) rfl)), (xt_in 12 rfl (List.mem_of_getElem? (i := 38) rfl)), by decide +kernel⟩,
  List.forall_mem_cons.mpr ⟨⟨by decide, (xt_in 10 rfl (List.mem_of_getElem? (i := 16) rfl)), (xt_in 5 rfl (List.mem_of_getElem? (i := 11) rfl)), by decide +kernel⟩,
  fun _ h => absurd h List.not_mem_nil⟩⟩⟩
theorem xl_91 : xr_cal xt_GW xm_91 := ⟨plainFor_of_name (by decide +kernel), (xt_in 10 rfl (List.mem_of_getElem? (i := 14) rfl)), (xt_in 1 rfl (List.mem_of_getElem? (i := 13) rfl)), ⟨by decide +kernel, by decide +kernel⟩, by decide +kernel, by decide⟩
theorem xk_92 : xr_cdb xt_cp9 false xm_92 = true := by decide +kernel
set_option maxRecDepth 100000 in
theorem xo_92 (L : Nat) (xs : Nat → Int32) : (∀ (pc : Nat) (i : Instr) (n : Nat), xr_fetch (xr_cd xm_92) pc = some (i, n) → xr_ok (xt_T L xs) xt_GW xt_ST xt_AO xm_92 pc i n) ∧ xr_hok xt_GW xt_NC xm_92 := ⟨xr_cdb_s (T := xt_T L xs) (ST := xt_ST) (AO := xt_AO) (GW := xt_GW) (cp := xt_cp9) (ini := false) (M := xm_92) (xt_cp9_ok L xs) (fun h => Bool.noConfusion h) xt_arr xk_92, (fun _ h => absurd h List.not_mem_nil)⟩
theorem xl_92 : xr_cal xt_GW xm_92 := ⟨plainFor_of_name (by decide +kernel), (xt_in 16 rfl (List.mem_of_getElem? (i := 34) rfl)), (xt_in 1 rfl (List.mem_of_getElem? (i := 13) rfl)), ⟨by decide +kernel, by decide +kernel⟩, by decide +kernel, by decide⟩
theorem xk_93 : xr_cdb xt_cp7 false xm_93 = true := by decide +kernel
set_option maxRecDepth 100000 in
theorem xo_93 (L : Nat) (xs : Nat → Int32) : (∀ (pc : Nat) (i : Instr) (n : Nat), xr_fetch (xr_cd xm_93) pc = some (i, n) → xr_ok (xt_T L xs) xt_GW xt_ST xt_AO xm_93 pc i n) ∧ xr_hok xt_GW xt_NC xm_93 := ⟨xr_cdb_s (T := xt_T L xs) (ST := xt_ST) (AO := xt_AO) (GW := xt_GW) (cp := xt_cp7) (ini := false) (M := xm_93) (xt_cp7_ok L xs) (fun h => Bool.noConfusion h) xt_arr xk_93, (fun _ h => absurd h List.not_mem_nil)⟩
theorem xl_93 : xr_cal xt_GW xm_93 := ⟨plainFor_of_name (by decide +kernel), (xt_in 5 rfl (List.mem_of_getElem? (i := 37) rfl)), (xt_in 1 rfl (List.mem_of_getElem? (i := 17) rfl)), ⟨by decide +kernel, by decide +kernel⟩, by decide +kernel, by decide⟩
end
section
/-! methods that are checked -/
theorem xk_94 : xr_cdb xt_cp9 false xm_94 = true := by decide +kernel
set_option maxRecDepth 100000 in
theorem xo_94 (L : Nat) (xs : Nat → Int32) : (∀ (pc : Nat) (i : Instr) (n : Nat), xr_fetch (xr_cd xm_94) pc = some (i, n) → xr_ok (xt_T L xs) xt_GW xt_ST xt_AO xm_94 pc i n) ∧ xr_hok xt_GW xt_NC xm_94 := ⟨xr_cdb_s (T := xt_T L xs) (ST := xt_ST) (AO := xt_AO) (GW := xt_GW) (cp := xt_cp9) (ini := false) (M := xm_94) (xt_cp9_ok L xs) (fun h => Bool.noConfusion h) xt_arr xk_94, (fun _ h => absurd h List.not_mem_nil)⟩
theorem xl_94 : xr_cal xt_GW xm_94 := ⟨plainFor_of_name (by decide +kernel), (xt_in 17 rfl (List.mem_of_getElem? (i := 0) rfl)), (xt_in 1 rfl (List.mem_of_getElem? (i := 13) rfl)), ⟨by decide +kernel, by decide +kernel⟩, by decide +kernel, by decide⟩
theorem xk_95_0 : ((xc_95.drop 0).take 40).all (fun q => xr_okb xt_cp8 true xm_95 q.1 q.2.1 q.2.2) = true := by decide +kernel
theorem xk_95_40 : ((xc_95.drop 40).take 40).all (fun q => xr_okb xt_cp8 true xm_95 q.1 q.2.1 q.2.2) = true := by decide +kernel
theorem xk_95_80 : ((xc_95.drop 80).take 40).all (fun q => xr_okb xt_cp8 true xm_95 q.1 q.2.1 q.2.2) = true := by decide +kernel
theorem xk_95 : xr_cdb xt_cp8 true xm_95 = true := (xr_chk _ 40 0 _ xk_95_0 (xr_chk _ 40 40 _ xk_95_40 (xr_chk _ 40 80 _ xk_95_80 (by decide +kernel))))
set_option maxRecDepth 100000 in
theorem xo_95 (L : Nat) (xs : Nat → Int32) : (∀ (pc : Nat) (i : Instr) (n : Nat), xr_fetch (xr_cd xm_95) pc = some (i, n) → xr_ok (xt_T L xs) xt_GW xt_ST xt_AO xm_95 pc i n) ∧ xr_hok xt_GW xt_NC xm_95 := ⟨xr_cdb_s (T := xt_T L xs) (ST := xt_ST) (AO := xt_AO) (GW := xt_GW) (cp := xt_cp8) (ini := true) (M := xm_95) (xt_cp8_ok L xs) (fun _ => rfl) xt_arr xk_95, (fun _ h => absurd h List.not_mem_nil)⟩
theorem xl_95 : xr_cal xt_GW xm_95 := ⟨plainFor_of_name (by decide +kernel), (xt_in 6 rfl (List.mem_of_getElem? (i := 13) rfl)), (xt_in 1 rfl (List.mem_of_getElem? (i := 24) rfl)), ⟨by decide +kernel, by decide +kernel⟩, by decide +kernel, by decide⟩
theorem xk_96 : xr_cdb xt_cp8 false xm_96 = true := by decide +kernel
set_option maxRecDepth 100000 in
theorem xo_96 (L : Nat) (xs : Nat → Int32) : (∀ (pc : Nat) (i : Instr) (n : Nat), xr_fetch (xr_cd xm_96) pc = some (i, n) → xr_ok (xt_T L xs) xt_GW xt_ST xt_AO xm_96 pc i n) ∧ xr_hok xt_GW xt_NC xm_96 := ⟨xr_cdb_s (T := xt_T L xs) (ST := xt_ST) (AO := xt_AO) (GW := xt_GW) (cp := xt_cp8) (ini := false) (M := xm_96) (xt_cp8_ok L xs) (fun h => Bool.noConfusion h) xt_arr xk_96, (fun _ h => absurd h List.not_mem_nil)⟩
theorem xl_96 : xr_cal xt_GW xm_96 := ⟨plainFor_of_name (by decide +kernel), (xt_in 8 rfl (List.mem_of_getElem? (i := 3) rfl)), (xt_in 1 rfl (List.mem_of_getElem? (i := 24) rfl)), ⟨by decide +kernel, by decide +kernel⟩, by decide +kernel, by decide⟩
theorem xk_97 : xr_cdb xt_cp8 false xm_97 = true := by decide +kernel
set_option maxRecDepth 100000 in
theorem xo_97 (L : Nat) (xs : Nat → Int32) : (∀ (pc : Nat) (i : Instr) (n : Nat), xr_fetch (xr_cd xm_97) pc = some (i, n) → xr_ok (xt_T L xs) xt_GW xt_ST xt_AO xm_97 pc i n) ∧ xr_hok xt_GW xt_NC xm_97 := ⟨xr_cdb_s (T := xt_T L xs) (ST := xt_ST) (AO := xt_AO) (GW := xt_GW) (cp := xt_cp8) (ini := false) (M := xm_97) (xt_cp8_ok L xs) (fun h => Bool.noConfusion h) xt_arr xk_97, (fun _ h => absurd h List.not_mem_nil)⟩
theorem xl_97 : xr_cal xt_GW xm_97 := ⟨plainFor_of_name (by decide +kernel), (xt_in 8 rfl (List.mem_of_getElem? (i := 16) rfl)), (xt_in 1 rfl (List.mem_of_getElem? (i := 24) rfl)), ⟨by decide +kernel, by decide +kernel⟩, by decide +kernel, by decide⟩
theorem xk_98 : xr_cdb xt_cp8 false xm_98 = true := by decide +kernel
set_option maxRecDepth 100000 in
theorem xo_98 (L : Nat) (xs : Nat → Int32) : (∀ (pc : Nat) (i : Instr) (n : Nat), xr_fetch (xr_cd xm_98) pc = some (i, n) → xr_ok (xt_T L xs) xt_GW xt_ST xt_AO xm_98 pc i n) ∧ xr_hok xt_GW xt_NC xm_98 := ⟨xr_cdb_s (T := xt_T L xs) (ST := xt_ST) (AO := xt_AO) (GW := xt_GW) (cp := xt_cp8) (ini := false) (M := xm_98) (xt_cp8_ok L xs) (fun h => Bool.noConfusion h) xt_arr xk_98, (fun _ h => absurd h List.not_mem_nil)⟩
theorem xl_98 : xr_cal xt_GW xm_98 := ⟨plainFor_of_name (by decide +kernel), (xt_in 8 rfl (List.mem_of_getElem? (i := 26) rfl)), (xt_in 1 rfl (List.mem_of_getElem? (i := 24) rfl)), ⟨by decide +kernel, by decide +kernel⟩, by decide +kernel, by decide⟩
theorem xk_99 : xr_cdb xt_cp8 false xm_99 = true := by decide +kernel
set_option maxRecDepth 100000 in
theorem xo_99 (L : Nat) (xs : Nat → Int32) : (∀ (pc : Nat) (i : Instr) (n : Nat), xr_fetch (xr_cd xm_99) pc = some (i, n) → xr_ok (xt_T L xs) xt_GW xt_ST xt_AO xm_99 pc i n) ∧ xr_hok xt_GW xt_NC xm_99 := ⟨xr_cdb_s (T := xt_T L xs) (ST := xt_ST) (AO := xt_AO) (GW := xt_GW) (cp := xt_cp8) (ini := false) (M := xm_99) (xt_cp8_ok L xs) (fun h => Bool.noConfusion h) xt_arr xk_99, (fun _ h => absurd h List.not_mem_nil)⟩
theorem xl_99 : xr_cal xt_GW xm_99 := ⟨plainFor_of_name (by decide +kernel), (xt_in 9 rfl (List.mem_of_getElem? (i := 18) rfl)), (xt_in 1 rfl (List.mem_of_getElem? (i := 24) rfl)), ⟨by decide +kernel, by decide +kernel⟩, by decide +kernel, by decide⟩
theorem xk_100 : xr_cdb xt_cp8 false xm_100 = true := by decide +kernel
set_option maxRecDepth 100000 in
theorem xo_100 (L : Nat) (xs : Nat → Int32) : (∀ (pc : Nat) (i : Instr) (n : Nat), xr_fetch (xr_cd xm_100) pc = some (i, n) → xr_ok (xt_T L xs) xt_GW xt_ST xt_AO xm_100 pc i n) ∧ xr_hok xt_GW xt_NC xm_100 := ⟨xr_cdb_s (T := xt_T L xs) (ST := xt_ST) (AO := xt_AO) (GW := xt_GW) (cp := xt_cp8) (ini := false) (M := xm_100) (xt_cp8_ok L xs) (fun h => Bool.noConfusion h) xt_arr xk_100, (fun _ h => absurd h List.not_mem_nil)⟩
theorem xl_100 : xr_cal xt_GW xm_100 := ⟨plainFor_of_name (by decide +kernel), (xt_in 12 rfl (List.mem_of_getElem? (i := 11) rfl)), (xt_in 1 rfl (List.mem_of_getElem? (i := 24) rfl)), ⟨by decide +kernel, by decide +kernel⟩, by decide +kernel, by decide⟩
theorem xk_101 : xr_cdb xt_cp8 false xm_101 = true := by decide +kernel
set_option maxRecDepth 100000 in
theorem xo_101 (L : Nat) (xs : Nat → Int32) : (∀ (pc : Nat) (i : Instr) (n : Nat), xr_fetch (xr_cd xm_101) pc = some (i, n) → xr_ok (xt_T L xs) xt_GW xt_ST xt_AO xm_101 pc i n) ∧ xr_hok xt_GW xt_NC xm_101 := ⟨xr_cdb_s (T := xt_T L xs) (ST := xt_ST) (AO := xt_AO) (GW := xt_GW) (cp := xt_cp8) (ini := false) (M := xm_101) (xt_cp8_ok L xs) (fun h => Bool.noConfusion h) xt_arr xk_101, (fun _ h => absurd h List.not_mem_nil)⟩
theorem xl_101 : xr_cal xt_GW xm_101 := ⟨plainFor_of_name (by decide +kernel), (xt_in 9 rfl (List.mem_of_getElem? (i := 22) rfl)), (xt_in 1 rfl (List.mem_of_getElem? (i := 24) rfl)), ⟨by decide +kernel, by decide +kernel⟩, by decide +kernel, by decide⟩
theorem xk_102 : xr_cdb xt_cp8 false xm_102 = true := by decide +kernel
set_option maxRecDepth 100000 in
theorem xo_102 (L : Nat) (xs : Nat → Int32) : (∀ (pc : Nat) (i : Instr) (n : Nat), xr_fetch (xr_cd xm_102) pc = some (i, n) → xr_ok (xt_T L xs) xt_GW xt_ST xt_AO xm_102 pc i n) ∧ xr_hok xt_GW xt_NC xm_102 := ⟨xr_cdb_s (T := xt_T L xs) (ST := xt_ST) (AO := xt_AO) (GW := xt_GW) (cp := xt_cp8) (ini := false) (M := xm_102) (xt_cp8_ok L xs) (fun h => Bool.noConfusion h) xt_arr xk_102, (fun _ h => absurd h List.not_mem_nil)⟩
theorem xl_102 : xr_cal xt_GW xm_102 := ⟨plainFor_of_name (by decide +kernel), (xt_in 9 rfl (List.mem_of_getElem? (i := 26) rfl)), (xt_in 1 rfl (List.mem_of_getElem? (i := 24) rfl)), ⟨by decide +kernel, by decide +kernel⟩, by decide +kernel, by decide⟩
theorem xk_103 : xr_cdb xt_cp8 false xm_103 = true := by decide +kernel
set_option maxRecDepth 100000 in
theorem xo_103 (L : Nat) (xs : Nat → Int32) : (∀ (pc : Nat) (i : Instr) (n : Nat), xr_fetch (xr_cd xm_103) pc = some (i, n) → xr_ok (xt_T L xs) xt_GW xt_ST xt_AO xm_103 pc i n) ∧ xr_hok xt_GW xt_NC xm_103 := ⟨xr_cdb_s (T := xt_T L xs) (ST := xt_ST) (AO := xt_AO) (GW := xt_GW) (cp := xt_cp8) (ini := false) (M := xm_103) (xt_cp8_ok L xs) (fun h => Bool.noConfusion h) xt_arr xk_103, (fun _ h => absurd h List.not_mem_nil)⟩
theorem xl_103 : xr_cal xt_GW xm_103 := ⟨plainFor_of_name (by decide +kernel), (xt_in 8 rfl (List.mem_of_getElem? (i := 39) rfl)), (xt_in 1 rfl (List.mem_of_getElem? (i := 24) rfl)), ⟨by decide +kernel, by decide +kernel⟩, by decide +kernel, by decide⟩
theorem xk_104 : xr_cdb xt_cp0 true xm_104 = true := by decide +kernel
set_option maxRecDepth 100000 in
theorem xo_104 (L : Nat) (xs : Nat → Int32) : (∀ (pc : Nat) (i : Instr) (n : Nat), xr_fetch (xr_cd xm_104) pc = some (i, n) → xr_ok (xt_T L xs) xt_GW xt_ST xt_AO xm_104 pc i n) ∧ xr_hok xt_GW xt_NC xm_104 := ⟨xr_cdb_s (T := xt_T L xs) (ST := xt_ST) (AO := xt_AO) (GW := xt_GW) (cp := xt_cp0) (ini := true) (M := xm_104) (xt_cp0_ok L xs) (fun _ => rfl) xt_arr xk_104, (fun _ h => absurd h List.not_mem_nil)⟩
theorem xl_104 : xr_cal xt_GW xm_104 := ⟨plainFor_of_name (by decide +kernel), (xt_in 1 rfl (List.mem_of_getElem? (i := 31) rfl)), (xt_in 1 rfl (List.mem_of_getElem? (i := 14) rfl)), ⟨by decide +kernel, by decide +kernel⟩, by decide +kernel, by decide⟩
theorem xk_105 : xr_cdb xt_cp0 false xm_105 = true := by decide +kernel
set_option maxRecDepth 100000 in
theorem xo_105 (L : Nat) (xs : Nat → Int32) : (∀ (pc : Nat) (i : Instr) (n : Nat), xr_fetch (xr_cd xm_105) pc = some (i, n) → xr_ok (xt_T L xs) xt_GW xt_ST xt_AO xm_105 pc i n) ∧ xr_hok xt_GW xt_NC xm_105 := ⟨xr_cdb_s (T := xt_T L xs) (ST := xt_ST) (AO := xt_AO) (GW := xt_GW) (cp := xt_cp0) (ini := false) (M := xm_105) (xt_cp0_ok L xs) (fun h => Bool.noConfusion h) xt_arr xk_105, (fun _ h => absurd h List.not_mem_nil)⟩
theorem xl_105 : xr_cal xt_GW xm_105 := ⟨plainFor_of_name (by decide +kernel), (xt_in 5 rfl (List.mem_of_getElem? (i := 8) rfl)), (xt_in 1 rfl (List.mem_of_getElem? (i := 14) rfl)), ⟨by decide +kernel, by decide +kernel⟩, by decide +kernel, by decide⟩
theorem xk_106 : xr_cdb xt_cp0 false xm_106 = true := by decide +kernel
set_option maxRecDepth 100000 in
theorem xo_106 (L : Nat) (xs : Nat → Int32) : (∀ (pc : Nat) (i : Instr) (n : Nat), xr_fetch (xr_cd xm_106) pc = some (i, n) → xr_ok (xt_T L xs) xt_GW xt_ST xt_AO xm_106 pc i n) ∧ xr_hok xt_GW xt_NC xm_106 := ⟨xr_cdb_s (T := xt_T L xs) (ST := xt_ST) (AO := xt_AO) (GW := xt_GW) (cp := xt_cp0) (ini := false) (M := xm_106) (xt_cp0_ok L xs) (fun h => Bool.noConfusion h) xt_arr xk_106, (fun _ h => absurd h List.not_mem_nil)⟩
theorem xl_106 : xr_cal xt_GW xm_106 := ⟨plainFor_of_name (by decide +kernel), (xt_in 5 rfl (List.mem_of_getElem? (i := 19) rfl)), (xt_in 1 rfl (List.mem_of_getElem? (i := 14) rfl)), ⟨by decide +kernel, by decide +kernel⟩, by decide +kernel, by decide⟩
theorem xk_107 : xr_cdb xt_cp0 false xm_107 = true := by decide +kernel
set_option maxRecDepth 100000 in
theorem xo_107 (L : Nat) (xs : Nat → Int32) : (∀ (pc : Nat) (i : Instr) (n : Nat), xr_fetch (xr_cd xm_107) pc = some (i, n) → xr_ok (xt_T L xs) xt_GW xt_ST xt_AO xm_107 pc i n) ∧ xr_hok xt_GW xt_NC xm_107 := ⟨xr_cdb_s (T := xt_T L xs) (ST := xt_ST) (AO := xt_AO) (GW := xt_GW) (cp := xt_cp0) (ini := false) (M := xm_107) (xt_cp0_ok L xs) (fun h => Bool.noConfusion h) xt_arr xk_107, (fun _ h => absurd h List.not_mem_nil)⟩
theorem xl_107 : xr_cal xt_GW xm_107 := ⟨plainFor_of_name (by decide +kernel), (xt_in 6 rfl (List.mem_of_getElem? (i := 6) rfl)), (xt_in 1 rfl (List.mem_of_getElem? (i := 14) rfl)), ⟨by decide +kernel, by decide +kernel⟩, by decide +kernel, by decide⟩
theorem xk_108 : xr_cdb xt_cp0 false xm_108 = true := by decide +kernel
set_option maxRecDepth 100000 in
theorem xo_108 (L : Nat) (xs : Nat → Int32) : (∀ (pc : Nat) (i : Instr) (n : Nat), xr_fetch (xr_cd xm_108) pc = some (i, n) → xr_ok (xt_T L xs) xt_GW xt_ST xt_AO xm_108 pc i n) ∧ xr_hok xt_GW xt_NC xm_108 := ⟨xr_cdb_s (T := xt_T L xs) (ST := xt_ST) (AO := xt_AO) (GW := xt_GW) (cp := xt_cp0) (ini := false) (M := xm_108) (xt_cp0_ok L xs) (fun h => Bool.noConfusion h) xt_arr xk_108, (fun _ h => absurd h List.not_mem_nil)⟩
theorem xl_108 : xr_cal xt_GW xm_108 := ⟨plainFor_of_name (by decide +kernel), (xt_in 17 rfl (List.mem_of_getElem? (i := 10) rfl)), (xt_in 1 rfl (List.mem_of_getElem? (i := 14) rfl)), ⟨by decide +kernel, by decide +kernel⟩, by decide +kernel, by decide⟩
theorem xk_109 : xr_cdb xt_cp0 false xm_109 = true := by decide +kernel
set_option maxRecDepth 100000 in
theorem xo_109 (L : Nat) (xs : Nat → Int32) : (∀ (pc : Nat) (i : Instr) (n : Nat), xr_fetch (xr_cd xm_109) pc = some (i, n) → xr_ok (xt_T L xs) xt_GW xt_ST xt_AO xm_109 pc i n) ∧ xr_hok xt_GW xt_NC xm_109 := ⟨xr_cdb_s (T := xt_T L xs) (ST := xt_ST) (AO := xt_AO) (GW := xt_GW) (cp := xt_cp0) (ini := false) (M := xm_109) (xt_cp0_ok L xs) (fun h => Bool.noConfusion h) xt_arr xk_109, (fun _ h => absurd h List.not_mem_nil)⟩
theorem xl_109 : xr_cal xt_GW xm_109 := ⟨plainFor_of_name (by decide +kernel), (xt_in 17 rfl (List.mem_of_getElem? (i := 39) rfl)), (xt_in 1 rfl (List.mem_of_getElem? (i := 14) rfl)), ⟨by decide +kernel, by decide +kernel⟩, by decide +kernel, by decide⟩
theorem xk_110 : xr_cdb xt_cp0 false xm_110 = true := by decide +kernel
set_option maxRecDepth 100000 in
theorem xo_110 (L : Nat) (xs : Nat → Int32) : (∀ (pc : Nat) (i : Instr) (n : Nat), xr_fetch (xr_cd xm_110) pc = some (i, n) → xr_ok (xt_T L xs) xt_GW xt_ST xt_AO xm_110 pc i n) ∧ xr_hok xt_GW xt_NC xm_110 := ⟨xr_cdb_s (T := xt_T L xs) (ST := xt_ST) (AO := xt_AO) (GW := xt_GW) (cp := xt_cp0) (ini := false) (M := xm_110) (xt_cp0_ok L xs) (fun h => Bool.noConfusion h) xt_arr xk_110, (fun _ h => absurd h List.not_mem_nil)⟩
theorem xl_110 : xr_cal xt_GW xm_110 := ⟨plainFor_of_name (by decide +kernel), (xt_in 17 rfl (List.mem_of_getElem? (i := 14) rfl)), (xt_in 1 rfl (List.mem_of_getElem? (i := 14) rfl)), ⟨by decide +kernel, by decide +kernel⟩, by decide +kernel, by decide⟩
end
section
/-! methods that are checked -/
theorem xk_111 : xr_cdb xt_cp9 false xm_111 = true := by decide +kernel
set_option maxRecDepth 100000 in
theorem xo_111 (L : Nat) (xs : Nat → Int32) : (∀ (pc : Nat) (i : Instr) (n : Nat), xr_fetch (xr_cd xm_111) pc = some (i, n) → xr_ok (xt_T L xs) xt_GW xt_ST xt_AO xm_111 pc i n) ∧ xr_hok xt_GW xt_NC xm_111 := ⟨xr_cdb_s (T := xt_T L xs) (ST := xt_ST) (AO := xt_AO) (GW := xt_GW) (cp := xt_cp9) (ini := false) (M := xm_111) (xt_cp9_ok L xs) (fun h => Bool.noConfusion h) xt_arr xk_111, (fun _ h => absurd h List.not_mem_nil)⟩
theorem xl_111 : xr_cal xt_GW xm_111 := ⟨plainFor_of_name (by decide +kernel), (xt_in 16 rfl (List.mem_of_getElem? (i := 37) rfl)), (xt_in 1 rfl (List.mem_of_getElem? (i := 13) rfl)), ⟨by decide +kernel, by decide +kernel⟩, by decide +kernel, by decide⟩
theorem xk_112_0 : ((xc_112.drop 0).take 40).all (fun q => xr_okb xt_cp9 false xm_112 q.1 q.2.1 q.2.2) = true := by decide +kernel
theorem xk_112_40 : ((xc_112.drop 40).take 40).all (fun q => xr_okb xt_cp9 false xm_112 q.1 q.2.1 q.2.2) = true := by decide +kernel
theorem xk_112_80 : ((xc_112.drop 80).take 40).all (fun q => xr_okb xt_cp9 false xm_112 q.1 q.2.1 q.2.2) = true := by decide +kernel
theorem xk_112_120 : ((xc_112.drop 120).take 40).all (fun q => xr_okb xt_cp9 false xm_112 q.1 q.2.1 q.2.2) = true := by decide +kernel
theorem xk_112_160 : ((xc_112.drop 160).take 40).all (fun q => xr_okb xt_cp9 false xm_112 q.1 q.2.1 q.2.2) = true := by decide +kernel
theorem xk_112 : xr_cdb xt_cp9 false xm_112 = true := (xr_chk _ 40 0 _ xk_112_0 (xr_chk _ 40 40 _ xk_112_40 (xr_chk _ 40 80 _ xk_112_80 (xr_chk _ 40 120 _ xk_112_120 (xr_chk _ 40 160 _ xk_112_160 (by decide +kernel))))))
set_option maxRecDepth 100000 in
theorem xo_112 (L : Nat) (xs : Nat → Int32) : (∀ (pc : Nat) (i : Instr) (n : Nat), xr_fetch (xr_cd xm_112) pc = some (i, n) → xr_ok (xt_T L xs) xt_GW xt_ST xt_AO xm_112 pc i n) ∧ xr_hok xt_GW xt_NC xm_112 := ⟨xr_cdb_s (T := xt_T L xs) (ST := xt_ST) (AO := xt_AO) (GW := xt_GW) (cp := xt_cp9) (ini := false) (M := xm_112) (xt_cp9_ok L xs) (fun h => Bool.noConfusion h) xt_arr xk_112, (fun _ h => absurd h List.not_mem_nil)⟩
theorem xl_112 : xr_cal xt_GW xm_112 := ⟨plainFor_of_name (by decide +kernel), (xt_in 17 rfl (List.mem_of_getElem? (i := 3) rfl)), (xt_in 1 rfl (List.mem_of_getElem? (i := 13) rfl)), ⟨by decide +kernel, by decide +kernel⟩, by decide +kernel, by decide⟩
theorem xk_113 : xr_cdb xt_cp0 false xm_113 = true := by decide +kernel
set_option maxRecDepth 100000 in
theorem xo_113 (L : Nat) (xs : Nat → Int32) : (∀ (pc : Nat) (i : Instr) (n : Nat), xr_fetch (xr_cd xm_113) pc = some (i, n) → xr_ok (xt_T L xs) xt_GW xt_ST xt_AO xm_113 pc i n) ∧ xr_hok xt_GW xt_NC xm_113 := ⟨xr_cdb_s (T := xt_T L xs) (ST := xt_ST) (AO := xt_AO) (GW := xt_GW) (cp := xt_cp0) (ini := false) (M := xm_113) (xt_cp0_ok L xs) (fun h => Bool.noConfusion h) xt_arr xk_113, (fun _ h => absurd h List.not_mem_nil)⟩
theorem xl_113 : xr_cal xt_GW xm_113 := ⟨plainFor_of_name (by decide +kernel), (xt_in 17 rfl (List.mem_of_getElem? (i := 18) rfl)), (xt_in 1 rfl (List.mem_of_getElem? (i := 14) rfl)), ⟨by decide +kernel, by decide +kernel⟩, by decide +kernel, by decide⟩
theorem xk_114 : xr_cdb xt_cp0 false xm_114 = true := by decide +kernel
set_option maxRecDepth 100000 in
theorem xo_114 (L : Nat) (xs : Nat → Int32) : (∀ (pc : Nat) (i : Instr) (n : Nat), xr_fetch (xr_cd xm_114) pc = some (i, n) → xr_ok (xt_T L xs) xt_GW xt_ST xt_AO xm_114 pc i n) ∧ xr_hok xt_GW xt_NC xm_114 := ⟨xr_cdb_s (T := xt_T L xs) (ST := xt_ST) (AO := xt_AO) (GW := xt_GW) (cp := xt_cp0) (ini := false) (M := xm_114) (xt_cp0_ok L xs) (fun h => Bool.noConfusion h) xt_arr xk_114, (fun _ h => absurd h List.not_mem_nil)⟩
theorem xl_114 : xr_cal xt_GW xm_114 := ⟨plainFor_of_name (by decide +kernel), (xt_in 17 rfl (List.mem_of_getElem? (i := 22) rfl)), (xt_in 1 rfl (List.mem_of_getElem? (i := 14) rfl)), ⟨by decide +kernel, by decide +kernel⟩, by decide +kernel, by decide⟩
theorem xk_115 : xr_cdb xt_cp0 false xm_115 = true := by decide +kernel
set_option maxRecDepth 100000 in
theorem xo_115 (L : Nat) (xs : Nat → Int32) : (∀ (pc : Nat) (i : Instr) (n : Nat), xr_fetch (xr_cd xm_115) pc = some (i, n) → xr_ok (xt_T L xs) xt_GW xt_ST xt_AO xm_115 pc i n) ∧ xr_hok xt_GW xt_NC xm_115 := ⟨xr_cdb_s (T := xt_T L xs) (ST := xt_ST) (AO := xt_AO) (GW := xt_GW) (cp := xt_cp0) (ini := false) (M := xm_115) (xt_cp0_ok L xs) (fun h => Bool.noConfusion h) xt_arr xk_115, (fun _ h => absurd h List.not_mem_nil)⟩
theorem xl_115 : xr_cal xt_GW xm_115 := ⟨plainFor_of_name (by decide +kernel), (xt_in 17 rfl (List.mem_of_getElem? (i := 35) rfl)), (xt_in 1 rfl (List.mem_of_getElem? (i := 14) rfl)), ⟨by decide +kernel, by decide +kernel⟩, by decide +kernel, by decide⟩
theorem xk_116 : xr_cdb xt_cp0 false xm_116 = true := by decide +kernel
set_option maxRecDepth 100000 in
theorem xo_116 (L : Nat) (xs : Nat → Int32) : (∀ (pc : Nat) (i : Instr) (n : Nat), xr_fetch (xr_cd xm_116) pc = some (i, n) → xr_ok (xt_T L xs) xt_GW xt_ST xt_AO xm_116 pc i n) ∧ xr_hok xt_GW xt_NC xm_116 := ⟨xr_cdb_s (T := xt_T L xs) (ST := xt_ST) (AO := xt_AO) (GW := xt_GW) (cp := xt_cp0) (ini := false) (M := xm_116) (xt_cp0_ok L xs) (fun h => Bool.noConfusion h) xt_arr xk_116, (fun _ h => absurd h List.not_mem_nil)⟩
theorem xl_116 : xr_cal xt_GW xm_116 := ⟨plainFor_of_name (by decide +kernel), (xt_in 18 rfl (List.mem_of_getElem? (i := 7) rfl)), (xt_in 1 rfl (List.mem_of_getElem? (i := 14) rfl)), ⟨by decide +kernel, by decide +kernel⟩, by decide +kernel, by decide⟩
theorem xk_117 : xr_cdb xt_cp0 false xm_117 = true := by decide +kernel
set_option maxRecDepth 100000 in
theorem xo_117 (L : Nat) (xs : Nat → Int32) : (∀ (pc : Nat) (i : Instr) (n : Nat), xr_fetch (xr_cd xm_117) pc = some (i, n) → xr_ok (xt_T L xs) xt_GW xt_ST xt_AO xm_117 pc i n) ∧ xr_hok xt_GW xt_NC xm_117 := ⟨xr_cdb_s (T := xt_T L xs) (ST := xt_ST) (AO := xt_AO) (GW := xt_GW) (cp := xt_cp0) (ini := false) (M := xm_117) (xt_cp0_ok L xs) (fun h => Bool.noConfusion h) xt_arr xk_117, (fun _ h => absurd h List.not_mem_nil)⟩
theorem xl_117 : xr_cal xt_GW xm_117 := ⟨plainFor_of_name (by decide +kernel), (xt_in 17 rfl (List.mem_of_getElem? (i := 26) rfl)), (xt_in 1 rfl (List.mem_of_getElem? (i := 14) rfl)), ⟨by decide +kernel, by decide +kernel⟩, by decide +kernel, by decide⟩
theorem xk_118 : xr_cdb xt_cp0 false xm_118 = true := by decide +kernel
set_option maxRecDepth 100000 in
theorem xo_118 (L : Nat) (xs : Nat → Int32) : (∀ (pc : Nat) (i : Instr) (n : Nat), xr_fetch (xr_cd xm_118) pc = some (i, n) → xr_ok (xt_T L xs) xt_GW xt_ST xt_AO xm_118 pc i n) ∧ xr_hok xt_GW xt_NC xm_118 := ⟨xr_cdb_s (T := xt_T L xs) (ST := xt_ST) (AO := xt_AO) (GW := xt_GW) (cp := xt_cp0) (ini := false) (M := xm_118) (xt_cp0_ok L xs) (fun h => Bool.noConfusion h) xt_arr xk_118, (fun _ h => absurd h List.not_mem_nil)⟩
theorem xl_118 : xr_cal xt_GW xm_118 := ⟨plainFor_of_name (by decide +kernel), (xt_in 17 rfl (List.mem_of_getElem? (i := 31) rfl)), (xt_in 1 rfl (List.mem_of_getElem? (i := 14) rfl)), ⟨by decide +kernel, by decide +kernel⟩, by decide +kernel, by decide⟩
theorem xk_119 : xr_cdb xt_cp0 false xm_119 = true := by decide +kernel
set_option maxRecDepth 100000 in
theorem xo_119 (L : Nat) (xs : Nat → Int32) : (∀ (pc : Nat) (i : Instr) (n : Nat), xr_fetch (xr_cd xm_119) pc = some (i, n) → xr_ok (xt_T L xs) xt_GW xt_ST xt_AO xm_119 pc i n) ∧ xr_hok xt_GW xt_NC xm_119 := ⟨xr_cdb_s (T := xt_T L xs) (ST := xt_ST) (AO := xt_AO) (GW := xt_GW) (cp := xt_cp0) (ini := false) (M := xm_119) (xt_cp0_ok L xs) (fun h => Bool.noConfusion h) xt_arr xk_119, (fun _ h => absurd h List.not_mem_nil)⟩
theorem xl_119 : xr_cal xt_GW xm_119 := ⟨plainFor_of_name (by decide +kernel), (xt_in 18 rfl (List.mem_of_getElem? (i := 15) rfl)), (xt_in 1 rfl (List.mem_of_getElem? (i := 14) rfl)), ⟨by decide +kernel, by decide +kernel⟩, by decide +kernel, by decide⟩
theorem xk_120_0 : ((xc_120.drop 0).take 40).all (fun q => xr_okb xt_cp0 false xm_120 q.1 q.2.1 q.2.2) = true := by decide +kernel
theorem xk_120_40 : ((xc_120.drop 40).take 40).all (fun q => xr_okb xt_cp0 false xm_120 q.1 q.2.1 q.2.2) = true := by decide +kernel
theorem xk_120_80 : ((xc_120.drop 80).take 40).all (fun q => xr_okb xt_cp0 false xm_120 q.1 q.2.1 q.2.2) = true := by decide +kernel
theorem xk_120 : xr_cdb xt_cp0 false xm_120 = true := (xr_chk _ 40 0 _ xk_120_0 (xr_chk _ 40 40 _ xk_120_40 (xr_chk _ 40 80 _ xk_120_80 (by decide +kernel))))
set_option maxRecDepth 100000 in
theorem xo_120 (L : Nat) (xs : Nat → Int32) : (∀ (pc : Nat) (i : Instr) (n : Nat), xr_fetch (xr_cd xm_120) pc = some (i, n) → xr_ok (xt_T L xs) xt_GW xt_ST xt_AO xm_120 pc i n) ∧ xr_hok xt_GW xt_NC xm_120 := ⟨xr_cdb_s (T := xt_T L xs) (ST := xt_ST) (AO := xt_AO) (GW := xt_GW) (cp := xt_cp0) (ini := false) (M := xm_120) (xt_cp0_ok L xs) (fun h => Bool.noConfusion h) xt_arr xk_120, (fun _ h => absurd h List.not_mem_nil)⟩
theorem xl_120 : xr_cal xt_GW xm_120 := ⟨plainFor_of_name (by decide +kernel), (xt_in 18 rfl (List.mem_of_getElem? (i := 26) rfl)), (xt_in 1 rfl (List.mem_of_getElem? (i := 14) rfl)), ⟨by decide +kernel, by decide +kernel⟩, by decide +kernel, by decide⟩
end
section
/-! methods that are checked -/
theorem xk_121 : xr_cdb xt_cp0 false xm_121 = true := by decide +kernel
set_option maxRecDepth 100000 in
theorem xo_121 (L : Nat) (xs : Nat → Int32) : (∀ (pc : Nat) (i : Instr) (n : Nat), xr_fetch (xr_cd xm_121) pc = some (i, n) → xr_ok (xt_T L xs) xt_GW xt_ST xt_AO xm_121 pc i n) ∧ xr_hok xt_GW xt_NC xm_121 := ⟨xr_cdb_s (T := xt_T L xs) (ST := xt_ST) (AO := xt_AO) (GW := xt_GW) (cp := xt_cp0) (ini := false) (M := xm_121) (xt_cp0_ok L xs) (fun h => Bool.noConfusion h) xt_arr xk_121, (fun _ h => absurd h List.not_mem_nil)⟩
theorem xl_121 : xr_cal xt_GW xm_121 := ⟨plainFor_of_name (by decide +kernel), (xt_in 19 rfl (List.mem_of_getElem? (i := 0) rfl)), (xt_in 1 rfl (List.mem_of_getElem? (i := 14) rfl)), ⟨by decide +kernel, by decide +kernel⟩, by decide +kernel, by decide⟩
theorem xk_122 : xr_cdb xt_cp0 false xm_122 = true := by decide +kernel
set_option maxRecDepth 100000 in
theorem xo_122 (L : Nat) (xs : Nat → Int32) : (∀ (pc : Nat) (i : Instr) (n : Nat), xr_fetch (xr_cd xm_122) pc = some (i, n) → xr_ok (xt_T L xs) xt_GW xt_ST xt_AO xm_122 pc i n) ∧ xr_hok xt_GW xt_NC xm_122 := ⟨xr_cdb_s (T := xt_T L xs) (ST := xt_ST) (AO := xt_AO) (GW := xt_GW) (cp := xt_cp0) (ini := false) (M := xm_122) (xt_cp0_ok L xs) (fun h => Bool.noConfusion h) xt_arr xk_122, (fun _ h => absurd h List.not_mem_nil)⟩
theorem xl_122 : xr_cal xt_GW xm_122 := ⟨plainFor_of_name (by decide +kernel), (xt_in 19 rfl (List.mem_of_getElem? (i := 4) rfl)), (xt_in 1 rfl (List.mem_of_getElem? (i := 14) rfl)), ⟨by decide +kernel, by decide +kernel⟩, by decide +kernel, by decide⟩
theorem xk_123 : xr_cdb xt_cp0 false xm_123 = true := by decide +kernel
set_option maxRecDepth 100000 in
theorem xo_123 (L : Nat) (xs : Nat → Int32) : (∀ (pc : Nat) (i : Instr) (n : Nat), xr_fetch (xr_cd xm_123) pc = some (i, n) → xr_ok (xt_T L xs) xt_GW xt_ST xt_AO xm_123 pc i n) ∧ xr_hok xt_GW xt_NC xm_123 := ⟨xr_cdb_s (T := xt_T L xs) (ST := xt_ST) (AO := xt_AO) (GW := xt_GW) (cp := xt_cp0) (ini := false) (M := xm_123) (xt_cp0_ok L xs) (fun h => Bool.noConfusion h) xt_arr xk_123, (fun _ h => absurd h List.not_mem_nil)⟩
theorem xl_123 : xr_cal xt_GW xm_123 := ⟨plainFor_of_name (by decide +kernel), (xt_in 16 rfl (List.mem_of_getElem? (i := 17) rfl)), (xt_in 1 rfl (List.mem_of_getElem? (i := 14) rfl)), ⟨by decide +kernel, by decide +kernel⟩, by decide +kernel, by decide⟩
theorem xk_124 : xr_cdb xt_cp0 false xm_124 = true := by decide +kernel
set_option maxRecDepth 100000 in
theorem xo_124 (L : Nat) (xs : Nat → Int32) : (∀ (pc : Nat) (i : Instr) (n : Nat), xr_fetch (xr_cd xm_124) pc = some (i, n) → xr_ok (xt_T L xs) xt_GW xt_ST xt_AO xm_124 pc i n) ∧ xr_hok xt_GW xt_NC xm_124 := ⟨xr_cdb_s (T := xt_T L xs) (ST := xt_ST) (AO := xt_AO) (GW := xt_GW) (cp := xt_cp0) (ini := false) (M := xm_124) (xt_cp0_ok L xs) (fun h => Bool.noConfusion h) xt_arr xk_124, (fun _ h => absurd h List.not_mem_nil)⟩
theorem xl_124 : xr_cal xt_GW xm_124 := ⟨plainFor_of_name (by decide +kernel), (xt_in 10 rfl (List.mem_of_getElem? (i := 20) rfl)), (xt_in 1 rfl (List.mem_of_getElem? (i := 14) rfl)), ⟨by decide +kernel, by decide +kernel⟩, by decide +kernel, by decide⟩
theorem xk_125 : xr_cdb xt_cp0 false xm_125 = true := by decide +kernel
set_option maxRecDepth 100000 in
theorem xo_125 (L : Nat) (xs : Nat → Int32) : (∀ (pc : Nat) (i : Instr) (n : Nat), xr_fetch (xr_cd xm_125) pc = some (i, n) → xr_ok (xt_T L xs) xt_GW xt_ST xt_AO xm_125 pc i n) ∧ xr_hok xt_GW xt_NC xm_125 := ⟨xr_cdb_s (T := xt_T L xs) (ST := xt_ST) (AO := xt_AO) (GW := xt_GW) (cp := xt_cp0) (ini := false) (M := xm_125) (xt_cp0_ok L xs) (fun h => Bool.noConfusion h) xt_arr xk_125, (fun _ h => absurd h List.not_mem_nil)⟩
theorem xl_125 : xr_cal xt_GW xm_125 := ⟨plainFor_of_name (by decide +kernel), (xt_in 15 rfl (List.mem_of_getElem? (i := 30) rfl)), (xt_in 1 rfl (List.mem_of_getElem? (i := 14) rfl)), ⟨by decide +kernel, by decide +kernel⟩, by decide +kernel, by decide⟩
theorem xk_126_0 : ((xc_126.drop 0).take 40).all (fun q => xr_okb xt_cp0 false xm_126 q.1 q.2.1 q.2.2) = true := by decide +kernel
theorem xk_126_40 : ((xc_126.drop 40).take 40).all (fun q => xr_okb xt_cp0 false xm_126 q.1 q.2.1 q.2.2) = true := by decide +kernel
theorem xk_126 : xr_cdb xt_cp0 false xm_126 = true := (xr_chk _ 40 0 _ xk_126_0 (xr_chk _ 40 40 _ xk_126_40 (by decide +kernel)))
set_option maxRecDepth 100000 in
theorem xo_126 (L : Nat) (xs : Nat → Int32) : (∀ (pc : Nat) (i : Instr) (n : Nat), xr_fetch (xr_cd xm_126) pc = some (i, n) → xr_ok (xt_T L xs) xt_GW xt_ST xt_AO xm_126 pc i n) ∧ xr_hok xt_GW xt_NC xm_126 := ⟨xr_cdb_s (T := xt_T L xs) (ST := xt_ST) (AO := xt_AO) (GW := xt_GW) (cp := xt_cp0) (ini := false) (M := xm_126) (xt_cp0_ok L xs) (fun h => Bool.noConfusion h) xt_arr xk_126, (fun _ h => absurd h List.not_mem_nil)⟩
theorem xl_126 : xr_cal xt_GW xm_126 := ⟨plainFor_of_name (by decide +kernel), (xt_in 16 rfl (List.mem_of_getElem? (i := 3) rfl)), (xt_in 1 rfl (List.mem_of_getElem? (i := 14) rfl)), ⟨by decide +kernel, by decide +kernel⟩, by decide +kernel, by decide⟩
theorem xk_127 : xr_cdb xt_cp0 false xm_127 = true := by decide +kernel
set_option maxRecDepth 100000 in
theorem xo_127 (L : Nat) (xs : Nat → Int32) : (∀ (pc : Nat) (i : Instr) (n : Nat), xr_fetch (xr_cd xm_127) pc = some (i, n) → xr_ok (xt_T L xs) xt_GW xt_ST xt_AO xm_127 pc i n) ∧ xr_hok xt_GW xt_NC xm_127 := ⟨xr_cdb_s (T := xt_T L xs) (ST := xt_ST) (AO := xt_AO) (GW := xt_GW) (cp := xt_cp0) (ini := false) (M := xm_127) (xt_cp0_ok L xs) (fun h => Bool.noConfusion h) xt_arr xk_127, (fun _ h => absurd h List.not_mem_nil)⟩
theorem xl_127 : xr_cal xt_GW xm_127 := ⟨plainFor_of_name (by decide +kernel), (xt_in 16 rfl (List.mem_of_getElem? (i := 31) rfl)), (xt_in 1 rfl (List.mem_of_getElem? (i := 14) rfl)), ⟨by decide +kernel, by decide +kernel⟩, by decide +kernel, by decide⟩
theorem xk_128 : xr_cdb xt_cp9 false xm_128 = true := by decide +kernel
set_option maxRecDepth 100000 in
theorem xo_128 (L : Nat) (xs : Nat → Int32) : (∀ (pc : Nat) (i : Instr) (n : Nat), xr_fetch (xr_cd xm_128) pc = some (i, n) → xr_ok (xt_T L xs) xt_GW xt_ST xt_AO xm_128 pc i n) ∧ xr_hok xt_GW xt_NC xm_128 := ⟨xr_cdb_s (T := xt_T L xs) (ST := xt_ST) (AO := xt_AO) (GW := xt_GW) (cp := xt_cp9) (ini := false) (M := xm_128) (xt_cp9_ok L xs) (fun h => Bool.noConfusion h) xt_arr xk_128, (fun _ h => absurd h List.not_mem_nil)⟩
theorem xl_128 : xr_cal xt_GW xm_128 := ⟨plainFor_of_name (by decide +kernel), (xt_in 18 rfl (List.mem_of_getElem? (i := 3) rfl)), (xt_in 1 rfl (List.mem_of_getElem? (i := 13) rfl)), ⟨by decide +kernel, by decide +kernel⟩, by decide +kernel, by decide⟩
theorem xk_129_0 : ((xc_129.drop 0).take 40).all (fun q => xr_okb xt_cp9 false xm_129 q.1 q.2.1 q.2.2) = true := by decide +kernel
theorem xk_129_40 : ((xc_129.drop 40).take 40).all (fun q => xr_okb xt_cp9 false xm_129 q.1 q.2.1 q.2.2) = true := by decide +kernel
end
section
/-! methods that are checked -/
theorem xk_129_80 : ((xc_129.drop 80).take 40).all (fun q => xr_okb xt_cp9 false xm_129 q.1 q.2.1 q.2.2) = true := by decide +kernel
theorem xk_129_120 : ((xc_129.drop 120).take 40).all (fun q => xr_okb xt_cp9 false xm_129 q.1 q.2.1 q.2.2) = true := by decide +kernel
theorem xk_129_160 : ((xc_129.drop 160).take 40).all (fun q => xr_okb xt_cp9 false xm_129 q.1 q.2.1 q.2.2) = true := by decide +kernel
theorem xk_129_200 : ((xc_129.drop 200).take 40).all (fun q => xr_okb xt_cp9 false xm_129 q.1 q.2.1 q.2.2) = true := by decide +kernel
theorem xk_129_240 : ((xc_129.drop 240).take 40).all (fun q => xr_okb xt_cp9 false xm_129 q.1 q.2.1 q.2.2) = true := by decide +kernel
theorem xk_129_280 : ((xc_129.drop 280).take 40).all (fun q => xr_okb xt_cp9 false xm_129 q.1 q.2.1 q.2.2) = true := by decide +kernel
theorem xk_129_320 : ((xc_129.drop 320).take 40).all (fun q => xr_okb xt_cp9 false xm_129 q.1 q.2.1 q.2.2) = true := by decide +kernel
theorem xk_129_360 : ((xc_129.drop 360).take 40).all (fun q => xr_okb xt_cp9 false xm_129 q.1 q.2.1 q.2.2) = true := by decide +kernel
theorem xk_129_400 : ((xc_129.drop 400).take 40).all (fun q => xr_okb xt_cp9 false xm_129 q.1 q.2.1 q.2.2) = true := by decide +kernel
theorem xk_129_440 : ((xc_129.drop 440).take 40).all (fun q => xr_okb xt_cp9 false xm_129 q.1 q.2.1 q.2.2) = true := by decide +kernel
theorem xk_129 : xr_cdb xt_cp9 false xm_129 = true := (xr_chk _ 40 0 _ xk_129_0 (xr_chk _ 40 40 _ xk_129_40 (xr_chk _ 40 80 _ xk_129_80 (xr_chk _ 40 120 _ xk_129_120 (xr_chk _ 40 160 _ xk_129_160 (xr_chk _ 40 200 _ xk_129_200 (xr_chk _ 40 240 _ xk_129_240 (xr_chk _ 40 280 _ xk_129_280 (xr_chk _ 40 320 _ xk_129_320 (xr_chk _ 40 360 _ xk_129_360 (xr_chk _ 40 400 _ xk_129_400 (xr_chk _ 40 440 _ xk_129_440 (by decide +kernel)))))))))))))
set_option maxRecDepth 100000 in
theorem xo_129 (L : Nat) (xs : Nat → Int32) : (∀ (pc : Nat) (i : Instr) (n : Nat), xr_fetch (xr_cd xm_129) pc = some (i, n) → xr_ok (xt_T L xs) xt_GW xt_ST xt_AO xm_129 pc i n) ∧ xr_hok xt_GW xt_NC xm_129 := ⟨xr_cdb_s (T := xt_T L xs) (ST := xt_ST) (AO := xt_AO) (GW := xt_GW) (cp := xt_cp9) (ini := false) (M := xm_129) (xt_cp9_ok L xs) (fun h => Bool.noConfusion h) xt_arr xk_129, (fun _ h => absurd h List.not_mem_nil)⟩
theorem xl_129 : xr_cal xt_GW xm_129 := ⟨plainFor_of_name (by decide +kernel), (xt_in 17 rfl (List.mem_of_getElem? (i := 6) rfl)), (xt_in 1 rfl (List.mem_of_getElem? (i := 13) rfl)), ⟨by decide +kernel, by decide +kernel⟩, by decide +kernel, by decide⟩
theorem xk_130 : xr_cdb xt_cp0 false xm_130 = true := by decide +kernel
set_option maxRecDepth 100000 in
theorem xo_130 (L : Nat) (xs : Nat → Int32) : (∀ (pc : Nat) (i : Instr) (n : Nat), xr_fetch (xr_cd xm_130) pc = some (i, n) → xr_ok (xt_T L xs) xt_GW xt_ST xt_AO xm_130 pc i n) ∧ xr_hok xt_GW xt_NC xm_130 := ⟨xr_cdb_s (T := xt_T L xs) (ST := xt_ST) (AO := xt_AO) (GW := xt_GW) (cp := xt_cp0) (ini := false) (M := xm_130) (xt_cp0_ok L xs) (fun h => Bool.noConfusion h) xt_arr xk_130, (fun _ h => absurd h List.not_mem_nil)⟩
theorem xl_130 : xr_cal xt_GW xm_130 := ⟨plainFor_of_name (by decide +kernel), (xt_in 6 rfl (List.mem_of_getElem? (i := 9) rfl)), (xt_in 1 rfl (List.mem_of_getElem? (i := 14) rfl)), ⟨by decide +kernel, by decide +kernel⟩, by decide +kernel, by decide⟩
theorem xk_131 : xr_cdb xt_cp0 false xm_131 = true := by decide +kernel
set_option maxRecDepth 100000 in
theorem xo_131 (L : Nat) (xs : Nat → Int32) : (∀ (pc : Nat) (i : Instr) (n : Nat), xr_fetch (xr_cd xm_131) pc = some (i, n) → xr_ok (xt_T L xs) xt_GW xt_ST xt_AO xm_131 pc i n) ∧ xr_hok xt_GW xt_NC xm_131 := ⟨xr_cdb_s (T := xt_T L xs) (ST := xt_ST) (AO := xt_AO) (GW := xt_GW) (cp := xt_cp0) (ini := false) (M := xm_131) (xt_cp0_ok L xs) (fun h => Bool.noConfusion h) xt_arr xk_131, (fun _ h => absurd h List.not_mem_nil)⟩
theorem xl_131 : xr_cal xt_GW xm_131 := ⟨plainFor_of_name (by decide +kernel), (xt_in 5 rfl (List.mem_of_getElem? (i := 33) rfl)), (xt_in 1 rfl (List.mem_of_getElem? (i := 14) rfl)), ⟨by decide +kernel, by decide +kernel⟩, by decide +kernel, by decide⟩
theorem xk_132 : xr_cdb xt_cp0 false xm_132 = true := by decide +kernel
set_option maxRecDepth 100000 in
theorem xo_132 (L : Nat) (xs : Nat → Int32) : (∀ (pc : Nat) (i : Instr) (n : Nat), xr_fetch (xr_cd xm_132) pc = some (i, n) → xr_ok (xt_T L xs) xt_GW xt_ST xt_AO xm_132 pc i n) ∧ xr_hok xt_GW xt_NC xm_132 := ⟨xr_cdb_s (T := xt_T L xs) (ST := xt_ST) (AO := xt_AO) (GW := xt_GW) (cp := xt_cp0) (ini := false) (M := xm_132) (xt_cp0_ok L xs) (fun h => Bool.noConfusion h) xt_arr xk_132, (fun _ h => absurd h List.not_mem_nil)⟩
theorem xl_132 : xr_cal xt_GW xm_132 := ⟨plainFor_of_name (by decide +kernel), (xt_in 12 rfl (List.mem_of_getElem? (i := 35) rfl)), (xt_in 1 rfl (List.mem_of_getElem? (i := 14) rfl)), ⟨by decide +kernel, by decide +kernel⟩, by decide +kernel, by decide⟩
end
section
/-! methods that are checked -/
theorem xk_133 : xr_cdb xt_cp0 false xm_133 = true := by decide +kernel
set_option maxRecDepth 100000 in
theorem xo_133 (L : Nat) (xs : Nat → Int32) : (∀ (pc : Nat) (i : Instr) (n : Nat), xr_fetch (xr_cd xm_133) pc = some (i, n) → xr_ok (xt_T L xs) xt_GW xt_ST xt_AO xm_133 pc i n) ∧ xr_hok xt_GW xt_NC xm_133 := ⟨xr_cdb_s (T := xt_T L xs) (ST := xt_ST) (AO := xt_AO) (GW := xt_GW) (cp := xt_cp0) (ini := false) (M := xm_133) (xt_cp0_ok L xs) (fun h => Bool.noConfusion h) xt_arr xk_133, (fun _ h => absurd h List.not_mem_nil)⟩
theorem xl_133 : xr_cal xt_GW xm_133 := ⟨plainFor_of_name (by decide +kernel), (xt_in 10 rfl (List.mem_of_getElem? (i := 26) rfl)), (xt_in 1 rfl (List.mem_of_getElem? (i := 14) rfl)), ⟨by decide +kernel, by decide +kernel⟩, by decide +kernel, by decide⟩
theorem xk_134 : xr_cdb xt_cp9 false xm_134 = true := by decide +kernel
set_option maxRecDepth 100000 in
theorem xo_134 (L : Nat) (xs : Nat → Int32) : (∀ (pc : Nat) (i : Instr) (n : Nat), xr_fetch (xr_cd xm_134) pc = some (i, n) → xr_ok (xt_T L xs) xt_GW xt_ST xt_AO xm_134 pc i n) ∧ xr_hok xt_GW xt_NC xm_134 := ⟨xr_cdb_s (T := xt_T L xs) (ST := xt_ST) (AO := xt_AO) (GW := xt_GW) (cp := xt_cp9) (ini := false) (M := xm_134) (xt_cp9_ok L xs) (fun h => Bool.noConfusion h) xt_arr xk_134, (fun _ h => absurd h List.not_mem_nil)⟩
theorem xl_134 : xr_cal xt_GW xm_134 := ⟨plainFor_of_name (by decide +kernel), (xt_in 19 rfl (List.mem_of_getElem? (i := 11) rfl)), (xt_in 1 rfl (List.mem_of_getElem? (i := 13) rfl)), ⟨by decide +kernel, by decide +kernel⟩, by decide +kernel, by decide⟩
theorem xk_135 : xr_cdb xt_cp0 false xm_135 = true := by decide +kernel
set_option maxRecDepth 100000 in
theorem xo_135 (L : Nat) (xs : Nat → Int32) : (∀ (pc : Nat) (i : Instr) (n : Nat), xr_fetch (xr_cd xm_135) pc = some (i, n) → xr_ok (xt_T L xs) xt_GW xt_ST xt_AO xm_135 pc i n) ∧ xr_hok xt_GW xt_NC xm_135 := ⟨xr_cdb_s (T := xt_T L xs) (ST := xt_ST) (AO := xt_AO) (GW := xt_GW) (cp := xt_cp0) (ini := false) (M := xm_135) (xt_cp0_ok L xs) (fun h => Bool.noConfusion h) xt_arr xk_135, (fun _ h => absurd h List.not_mem_nil)⟩
theorem xl_135 : xr_cal xt_GW xm_135 := ⟨plainFor_of_name (by decide +kernel), (xt_in 10 rfl (List.mem_of_getElem? (i := 23) rfl)), (xt_in 1 rfl (List.mem_of_getElem? (i := 14) rfl)), ⟨by decide +kernel, by decide +kernel⟩, by decide +kernel, by decide⟩
theorem xk_136 : xr_cdb xt_cp0 false xm_136 = true := by decide +kernel
set_option maxRecDepth 100000 in
theorem xo_136 (L : Nat) (xs : Nat → Int32) : (∀ (pc : Nat) (i : Instr) (n : Nat), xr_fetch (xr_cd xm_136) pc = some (i, n) → xr_ok (xt_T L xs) xt_GW xt_ST xt_AO xm_136 pc i n) ∧ xr_hok xt_GW xt_NC xm_136 := ⟨xr_cdb_s (T := xt_T L xs) (ST := xt_ST) (AO := xt_AO) (GW := xt_GW) (cp := xt_cp0) (ini := false) (M := xm_136) (xt_cp0_ok L xs) (fun h => Bool.noConfusion h) xt_arr xk_136, (fun _ h => absurd h List.not_mem_nil)⟩
theorem xl_136 : xr_cal xt_GW xm_136 := ⟨plainFor_of_name (by decide +kernel), (xt_in 18 rfl (List.mem_of_getElem? (i := 18) rfl)), (xt_in 1 rfl (List.mem_of_getElem? (i := 14) rfl)), ⟨by decide +kernel, by decide +kernel⟩, by decide +kernel, by decide⟩
theorem xk_137 : xr_cdb xt_cp0 false xm_137 = true := by decide +kernel
set_option maxRecDepth 100000 in
theorem xo_137 (L : Nat) (xs : Nat → Int32) : (∀ (pc : Nat) (i : Instr) (n : Nat), xr_fetch (xr_cd xm_137) pc = some (i, n) → xr_ok (xt_T L xs) xt_GW xt_ST xt_AO xm_137 pc i n) ∧ xr_hok xt_GW xt_NC xm_137 := ⟨xr_cdb_s (T := xt_T L xs) (ST := xt_ST) (AO := xt_AO) (GW := xt_GW) (cp := xt_cp0) (ini := false) (M := xm_137) (xt_cp0_ok L xs) (fun h => Bool.noConfusion h) xt_arr xk_137, (fun _ h => absurd h List.not_mem_nil)⟩
theorem xl_137 : xr_cal xt_GW xm_137 := ⟨plainFor_of_name (by decide +kernel), (xt_in 13 rfl (List.mem_of_getElem? (i := 14) rfl)), (xt_in 1 rfl (List.mem_of_getElem? (i := 14) rfl)), ⟨by decide +kernel, by decide +kernel⟩, by decide +kernel, by decide⟩
theorem xk_138 : xr_cdb xt_cp0 false xm_138 = true := by decide +kernel
set_option maxRecDepth 100000 in
theorem xo_138 (L : Nat) (xs : Nat → Int32) : (∀ (pc : Nat) (i : Instr) (n : Nat), xr_fetch (xr_cd xm_138) pc = some (i, n) → xr_ok (xt_T L xs) xt_GW xt_ST xt_AO xm_138 pc i n) ∧ xr_hok xt_GW xt_NC xm_138 := ⟨xr_cdb_s (T := xt_T L xs) (ST := xt_ST) (AO := xt_AO) (GW := xt_GW) (cp := xt_cp0) (ini := false) (M := xm_138) (xt_cp0_ok L xs) (fun h => Bool.noConfusion h) xt_arr xk_138, (fun _ h => absurd h List.not_mem_nil)⟩
theorem xl_138 : xr_cal xt_GW xm_138 := ⟨plainFor_of_name (by decide +kernel), (xt_in 14 rfl (List.mem_of_getElem? (i := 30) rfl)), (xt_in 1 rfl (List.mem_of_getElem? (i := 14) rfl)), ⟨by decide +kernel, by decide +kernel⟩, by decide +kernel, by decide⟩
theorem xk_139 : xr_cdb xt_cp0 false xm_139 = true := by decide +kernel
set_option maxRecDepth 100000 in
theorem xo_139 (L : Nat) (xs : Nat → Int32) : (∀ (pc : Nat) (i : Instr) (n : Nat), xr_fetch (xr_cd xm_139) pc = some (i, n) → xr_ok (xt_T L xs) xt_GW xt_ST xt_AO xm_139 pc i n) ∧ xr_hok xt_GW xt_NC xm_139 := ⟨xr_cdb_s (T := xt_T L xs) (ST := xt_ST) (AO := xt_AO) (GW := xt_GW) (cp := xt_cp0) (ini := false) (M := xm_139) (xt_cp0_ok L xs) (fun h => Bool.noConfusion h) xt_arr xk_139, (fun _ h => absurd h List.not_mem_nil)⟩
theorem xl_139 : xr_cal xt_GW xm_139 := ⟨plainFor_of_name (by decide +kernel), (xt_in 16 rfl (List.mem_of_getElem? (i := 20) rfl)), (xt_in 1 rfl (List.mem_of_getElem? (i := 14) rfl)), ⟨by decide +kernel, by decide +kernel⟩, by decide +kernel, by decide⟩
theorem xk_140 : xr_cdb xt_cp0 false xm_140 = true := by decide +kernel
set_option maxRecDepth 100000 in
theorem xo_140 (L : Nat) (xs : Nat → Int32) : (∀ (pc : Nat) (i : Instr) (n : Nat), xr_fetch (xr_cd xm_140) pc = some (i, n) → xr_ok (xt_T L xs) xt_GW xt_ST xt_AO xm_140 pc i n) ∧ xr_hok xt_GW xt_NC xm_140 := ⟨xr_cdb_s (T := xt_T L xs) (ST := xt_ST) (AO := xt_AO) (GW := xt_GW) (cp := xt_cp0) (ini := false) (M := xm_140) (xt_cp0_ok L xs) (fun h => Bool.noConfusion h) xt_arr xk_140, (fun _ h => absurd h List.not_mem_nil)⟩
theorem xl_140 : xr_cal xt_GW xm_140 := ⟨plainFor_of_name (by decide +kernel), (xt_in 14 rfl (List.mem_of_getElem? (i := 33) rfl)), (xt_in 1 rfl (List.mem_of_getElem? (i := 14) rfl)), ⟨by decide +kernel, by decide +kernel⟩, by decide +kernel, by decide⟩
theorem xk_141 : xr_cdb xt_cp0 false xm_141 = true := by decide +kernel
set_option maxRecDepth 100000 in
theorem xo_141 (L : Nat) (xs : Nat → Int32) : (∀ (pc : Nat) (i : Instr) (n : Nat), xr_fetch (xr_cd xm_141) pc = some (i, n) → xr_ok (xt_T L xs) xt_GW xt_ST xt_AO xm_141 pc i n) ∧ xr_hok xt_GW xt_NC xm_141 := ⟨xr_cdb_s (T := xt_T L xs) (ST := xt_ST) (AO := xt_AO) (GW := xt_GW) (cp := xt_cp0) (ini := false) (M := xm_141) (xt_cp0_ok L xs) (fun h => Bool.noConfusion h) xt_arr xk_141, (fun _ h => absurd h List.not_mem_nil)⟩
theorem xl_141 : xr_cal xt_GW xm_141 := ⟨plainFor_of_name (by decide +kernel), (xt_in 18 rfl (List.mem_of_getElem? (i := 29) rfl)), (xt_in 1 rfl (List.mem_of_getElem? (i := 14) rfl)), ⟨by decide +kernel, by decide +kernel⟩, by decide +kernel, by decide⟩
theorem xk_142 : xr_cdb xt_cp0 false xm_142 = true := by decide +kernel
set_option maxRecDepth 100000 in
theorem xo_142 (L : Nat) (xs : Nat → Int32) : (∀ (pc : Nat) (i : Instr) (n : Nat), xr_fetch (xr_cd xm_142) pc = some (i, n) → xr_ok (xt_T L xs) xt_GW xt_ST xt_AO xm_142 pc i n) ∧ xr_hok xt_GW xt_NC xm_142 := ⟨xr_cdb_s (T := xt_T L xs) (ST := xt_ST) (AO := xt_AO) (GW := xt_GW) (cp := xt_cp0) (ini := false) (M := xm_142) (xt_cp0_ok L xs) (fun h => Bool.noConfusion h) xt_arr xk_142, (fun _ h => absurd h List.not_mem_nil)⟩
theorem xl_142 : xr_cal xt_GW xm_142 := ⟨plainFor_of_name (by decide +kernel), (xt_in 18 rfl (List.mem_of_getElem? (i := 32) rfl)), (xt_in 1 rfl (List.mem_of_getElem? (i := 14) rfl)), ⟨by decide +kernel, by decide +kernel⟩, by decide +kernel, by decide⟩
theorem xk_143_0 : ((xc_143.drop 0).take 40).all (fun q => xr_okb xt_cp9 false xm_143 q.1 q.2.1 q.2.2) = true := by decide +kernel
theorem xk_143_40 : ((xc_143.drop 40).take 40).all (fun q => xr_okb xt_cp9 false xm_143 q.1 q.2.1 q.2.2) = true := by decide +kernel
theorem xk_143_80 : ((xc_143.drop 80).take 40).all (fun q => xr_okb xt_cp9 false xm_143 q.1 q.2.1 q.2.2) = true := by decide +kernel
theorem xk_143_120 : ((xc_143.drop 120).take 40).all (fun q => xr_okb xt_cp9 false xm_143 q.1 q.2.1 q.2.2) = true := by decide +kernel
theorem xk_143_160 : ((xc_143.drop 160).take 40).all (fun q => xr_okb xt_cp9 false xm_143 q.1 q.2.1 q.2.2) = true := by decide +kernel
end
section
/-! methods that are checked -/
theorem xk_143_200 : ((xc_143.drop 200).take 40).all (fun q => xr_okb xt_cp9 false xm_143 q.1 q.2.1 q.2.2) = true := by decide +kernel
theorem xk_143_240 : ((xc_143.drop 240).take 40).all (fun q => xr_okb xt_cp9 false xm_143 q.1 q.2.1 q.2.2) = true := by decide +kernel
theorem xk_143 : xr_cdb xt_cp9 false xm_143 = true := (xr_chk _ 40 0 _ xk_143_0 (xr_chk _ 40 40 _ xk_143_40 (xr_chk _ 40 80 _ xk_143_80 (xr_chk _ 40 120 _ xk_143_120 (xr_chk _ 40 160 _ xk_143_160 (xr_chk _ 40 200 _ xk_143_200 (xr_chk _ 40 240 _ xk_143_240 (by decide +kernel))))))))
set_option maxRecDepth 100000 in
theorem xo_143 (L : Nat) (xs : Nat → Int32) : (∀ (pc : Nat) (i : Instr) (n : Nat), xr_fetch (xr_cd xm_143) pc = some (i, n) → xr_ok (xt_T L xs) xt_GW xt_ST xt_AO xm_143 pc i n) ∧ xr_hok xt_GW xt_NC xm_143 := ⟨xr_cdb_s (T := xt_T L xs) (ST := xt_ST) (AO := xt_AO) (GW := xt_GW) (cp := xt_cp9) (ini := false) (M := xm_143) (xt_cp9_ok L xs) (fun h => Bool.noConfusion h) xt_arr xk_143, (fun _ h => absurd h List.not_mem_nil)⟩
theorem xl_143 : xr_cal xt_GW xm_143 := ⟨plainFor_of_name (by decide +kernel), (xt_in 19 rfl (List.mem_of_getElem? (i := 8) rfl)), (xt_in 1 rfl (List.mem_of_getElem? (i := 13) rfl)), ⟨by decide +kernel, by decide +kernel⟩, by decide +kernel, by decide⟩
theorem xk_144_0 : ((xc_144.drop 0).take 40).all (fun q => xr_okb xt_cp9 false xm_144 q.1 q.2.1 q.2.2) = true := by decide +kernel
theorem xk_144_40 : ((xc_144.drop 40).take 40).all (fun q => xr_okb xt_cp9 false xm_144 q.1 q.2.1 q.2.2) = true := by decide +kernel
theorem xk_144_80 : ((xc_144.drop 80).take 40).all (fun q => xr_okb xt_cp9 false xm_144 q.1 q.2.1 q.2.2) = true := by decide +kernel
theorem xk_144_120 : ((xc_144.drop 120).take 40).all (fun q => xr_okb xt_cp9 false xm_144 q.1 q.2.1 q.2.2) = true := by decide +kernel
theorem xk_144 : xr_cdb xt_cp9 false xm_144 = true := (xr_chk _ 40 0 _ xk_144_0 (xr_chk _ 40 40 _ xk_144_40 (xr_chk _ 40 80 _ xk_144_80 (xr_chk _ 40 120 _ xk_144_120 (by decide +kernel)))))
set_option maxRecDepth 100000 in
theorem xo_144 (L : Nat) (xs : Nat → Int32) : (∀ (pc : Nat) (i : Instr) (n : Nat), xr_fetch (xr_cd xm_144) pc = some (i, n) → xr_ok (xt_T L xs) xt_GW xt_ST xt_AO xm_144 pc i n) ∧ xr_hok xt_GW xt_NC xm_144 := ⟨xr_cdb_s (T := xt_T L xs) (ST := xt_ST) (AO := xt_AO) (GW := xt_GW) (cp := xt_cp9) (ini := false) (M := xm_144) (xt_cp9_ok L xs) (fun h => Bool.noConfusion h) xt_arr xk_144, (fun _ h => absurd h List.not_mem_nil)⟩
theorem xl_144 : xr_cal xt_GW xm_144 := ⟨plainFor_of_name (by decide +kernel), (xt_in 19 rfl (List.mem_of_getElem? (i := 14) rfl)), (xt_in 1 rfl (List.mem_of_getElem? (i := 13) rfl)), ⟨by decide +kernel, by decide +kernel⟩, by decide +kernel, by decide⟩
theorem xk_145 : xr_cdb xt_cp9 false xm_145 = true := by decide +kernel
set_option maxRecDepth 100000 in
theorem xo_145 (L : Nat) (xs : Nat → Int32) : (∀ (pc : Nat) (i : Instr) (n : Nat), xr_fetch (xr_cd xm_145) pc = some (i, n) → xr_ok (xt_T L xs) xt_GW xt_ST xt_AO xm_145 pc i n) ∧ xr_hok xt_GW xt_NC xm_145 := ⟨xr_cdb_s (T := xt_T L xs) (ST := xt_ST) (AO := xt_AO) (GW := xt_GW) (cp := xt_cp9) (ini := false) (M := xm_145) (xt_cp9_ok L xs) (fun h => Bool.noConfusion h) xt_arr xk_145, (fun _ h => absurd h List.not_mem_nil)⟩
theorem xl_145 : xr_cal xt_GW xm_145 := ⟨plainFor_of_name (by decide +kernel), (xt_in 19 rfl (List.mem_of_getElem? (i := 17) rfl)), (xt_in 1 rfl (List.mem_of_getElem? (i := 13) rfl)), ⟨by decide +kernel, by decide +kernel⟩, by decide +kernel, by decide⟩
end
section
/-! what is known of the tables, all of it -/
theorem xt_o0 (L : Nat) (xs : Nat → Int32) : ∀ M ∈ [xm_0, xm_1, xm_2, xm_3, xm_4, xm_5, xm_6, xm_7, xm_8, xm_9, xm_10, xm_11, xm_12, xm_13, xm_14, xm_15, xm_16, xm_17, xm_18, xm_19, xm_20, xm_21, xm_22, xm_23, xm_24], (∀ (pc : Nat) (i : Instr) (n : Nat), xr_fetch (xr_cd M) pc = some (i, n) → xr_ok (xt_T L xs) xt_GW xt_ST xt_AO M pc i n) ∧ xr_hok xt_GW xt_NC M := List.forall_mem_cons.mpr ⟨xo_0 L xs,
  List.forall_mem_cons.mpr ⟨xo_1 L xs,
  List.forall_mem_cons.mpr ⟨xo_2 L xs,
  List.forall_mem_cons.mpr ⟨xo_3 L xs,
  List.forall_mem_cons.mpr ⟨xo_4 L xs,
  List.forall_mem_cons.mpr ⟨xo_5 L xs,
  List.forall_mem_cons.mpr ⟨xo_6 L xs,
  List.forall_mem_cons.mpr ⟨xo_7 L xs,
  List.forall_mem_cons.mpr ⟨xo_8 L xs,
  List.forall_mem_cons.mpr ⟨xo_9 L xs,
  List.forall_mem_cons.mpr ⟨xo_10 L xs,
  List.forall_mem_cons.mpr ⟨xo_11 L xs,
  List.forall_mem_cons.mpr ⟨xo_12 L xs,
  List.forall_mem_cons.mpr ⟨xo_13 L xs,
  List.forall_mem_cons.mpr ⟨xo_14 L xs,
  List.forall_mem_cons.mpr ⟨xo_15 L xs,
  List.forall_mem_cons.mpr ⟨xo_16 L xs,
  List.forall_mem_cons.mpr ⟨xo_17 L xs,
  List.forall_mem_cons.mpr ⟨xo_18 L xs,
  List.forall_mem_cons.mpr ⟨xo_19 L xs,
  List.forall_mem_cons.mpr ⟨xo_20 L xs,
  List.forall_mem_cons.mpr ⟨xo_21 L xs,
  List.forall_mem_cons.mpr ⟨xo_22 L xs,
  List.forall_mem_cons.mpr ⟨xo_23 L xs,
  List.forall_mem_cons.mpr ⟨xo_24 L xs,
  fun _ h => absurd h List.not_mem_nil⟩⟩⟩⟩⟩⟩⟩⟩⟩⟩⟩⟩⟩⟩⟩⟩⟩⟩⟩⟩⟩⟩⟩⟩⟩
theorem xt_l0 : ∀ M ∈ [xm_1, xm_2, xm_3, xm_4, xm_5, xm_6, xm_7, xm_8, xm_9, xm_10, xm_11, xm_12, xm_13, xm_14, xm_15, xm_16, xm_17, xm_18, xm_19, xm_20, xm_21, xm_22, xm_23, xm_24], xr_cal xt_GW M := List.forall_mem_cons.mpr ⟨xl_1,
  List.forall_mem_cons.mpr ⟨xl_2,
  List.forall_mem_cons.mpr ⟨xl_3,
  List.forall_mem_cons.mpr ⟨xl_4,
  List.forall_mem_cons.mpr ⟨xl_5,
  List.forall_mem_cons.mpr ⟨xl_6,
  List.forall_mem_cons.mpr ⟨xl_7,
  List.forall_mem_cons.mpr ⟨xl_8,
  List.forall_mem_cons.mpr ⟨xl_9,
  List.forall_mem_cons.mpr ⟨xl_10,
  List.forall_mem_cons.mpr ⟨xl_11,
  List.forall_mem_cons.mpr ⟨xl_12,
  List.forall_mem_cons.mpr ⟨xl_13,
  List.forall_mem_cons.mpr ⟨xl_14,
  List.forall_mem_cons.mpr ⟨xl_15,
  List.forall_mem_cons.mpr ⟨xl_16,
  List.forall_mem_cons.mpr ⟨xl_17,
  List.forall_mem_cons.mpr ⟨xl_18,
  List.forall_mem_cons.mpr ⟨xl_19,
  List.forall_mem_cons.mpr ⟨xl_20,
  List.forall_mem_cons.mpr ⟨xl_21,
  List.forall_mem_cons.mpr ⟨xl_22,
  List.forall_mem_cons.mpr ⟨xl_23,
  List.forall_mem_cons.mpr ⟨xl_24,
  fun _ h => absurd h List.not_mem_nil⟩⟩⟩⟩⟩⟩⟩⟩⟩⟩⟩⟩⟩⟩⟩⟩⟩⟩⟩⟩⟩⟩⟩⟩
theorem xt_o1 (L : Nat) (xs : Nat → Int32) : ∀ M ∈ [xm_25, xm_26, xm_27, xm_28, xm_29, xm_30, xm_31, xm_32, xm_33, xm_34, xm_35, xm_36, xm_37, xm_38, xm_39, xm_40, xm_41, xm_42, xm_43, xm_44, xm_45, xm_46, xm_47, xm_48, xm_49], (∀ (pc : Nat) (i : Instr) (n : Nat), xr_fetch (xr_cd M) pc = some (i, n) → xr_ok (xt_T L xs) xt_GW xt_ST xt_AO M pc i n) ∧ xr_hok xt_GW xt_NC M := List.forall_mem_cons.mpr ⟨xo_25 L xs,
  List.forall_mem_cons.mpr ⟨xo_26 L xs,
  List.forall_mem_cons.mpr ⟨xo_27 L xs,
  List.forall_mem_cons.mpr ⟨xo_28 L xs,
  List.forall_mem_cons.mpr ⟨xo_29 L xs,
  List.forall_mem_cons.mpr ⟨xo_30 L xs,
  List.forall_mem_cons.mpr ⟨xo_31 L xs,
  List.forall_mem_cons.mpr ⟨xo_32 L xs,
  List.forall_mem_cons.mpr ⟨xo_33 L xs,
  List.forall_mem_cons.mpr ⟨xo_34 L xs,
  List.forall_mem_cons.mpr ⟨xo_35 L xs,
  List.forall_mem_cons.mpr ⟨xo_36 L xs,
  List.forall_mem_cons.mpr ⟨xo_37 L xs,
  List.forall_mem_cons.mpr ⟨xo_38 L xs,
  List.forall_mem_cons.mpr ⟨xo_39 L xs,
  List.forall_mem_cons.mpr ⟨xo_40 L xs,
  List.forall_mem_cons.mpr ⟨xo_41 L xs,
  List.forall_mem_cons.mpr ⟨xo_42 L xs,
  List.forall_mem_cons.mpr ⟨xo_43 L xs,
  List.forall_mem_cons.mpr ⟨xo_44 L xs,
  List.forall_mem_cons.mpr ⟨xo_45 L xs,
  List.forall_mem_cons.mpr ⟨xo_46 L xs,
  List.forall_mem_cons.mpr ⟨xo_47 L xs,
  List.forall_mem_cons.mpr ⟨xo_48 L xs,
  List.forall_mem_cons.mpr ⟨xo_49 L xs,
  fun _ h => absurd h List.not_mem_nil⟩⟩⟩⟩⟩⟩⟩⟩⟩⟩⟩⟩⟩⟩⟩⟩⟩⟩⟩⟩⟩⟩⟩⟩⟩
theorem xt_l1 : ∀ M ∈ [xm_25, xm_26, xm_27, xm_28, xm_29, xm_30, xm_31, xm_32, xm_33, xm_34, xm_35, xm_36, xm_37, xm_38, xm_39, xm_40, xm_41, xm_42, xm_43, xm_44, xm_45, xm_46, xm_47, xm_48, xm_49], xr_cal xt_GW M := List.forall_mem_cons.mpr ⟨xl_25,
  List.forall_mem_cons.mpr ⟨xl_26,
  List.forall_mem_cons.mpr ⟨xl_27,
  List.forall_mem_cons.mpr ⟨xl_28,
  List.forall_mem_cons.mpr ⟨xl_29,
  List.forall_mem_cons.mpr ⟨xl_30,
  List.forall_mem_cons.mpr ⟨xl_31,
  List.forall_mem_cons.mpr ⟨xl_32,
  List.forall_mem_cons.mpr ⟨xl_33,
  List.forall_mem_cons.mpr ⟨xl_34,
  List.forall_mem_cons.mpr ⟨xl_35,
  List.forall_mem_cons.mpr ⟨xl_36,
  List.forall_mem_cons.mpr ⟨xl_37,
  List.forall_mem_cons.mpr ⟨xl_38,
  List.forall_mem_cons.mpr ⟨xl_39,
  List.forall_mem_cons.mpr ⟨xl_40,
  List.forall_mem_cons.mpr ⟨xl_41,
  List.forall_mem_cons.mpr ⟨xl_42,
  List.forall_mem_cons.mpr ⟨xl_43,
  List.forall_mem_cons.mpr ⟨xl_44,
  List.forall_mem_cons.mpr ⟨xl_45,
  List.forall_mem_cons.mpr ⟨xl_46,
  List.forall_mem_cons.mpr ⟨xl_47,
  List.forall_mem_cons.mpr ⟨xl_48,
  List.forall_mem_cons.mpr ⟨xl_49,
  fun _ h => absurd h List.not_mem_nil⟩⟩⟩⟩⟩⟩⟩⟩⟩⟩⟩⟩⟩⟩⟩⟩⟩⟩⟩⟩⟩⟩⟩⟩⟩
theorem xt_o2 (L : Nat) (xs : Nat → Int32) : ∀ M ∈ [xm_50, xm_51, xm_52, xm_53, xm_54, xm_55, xm_56, xm_57, xm_58, xm_59, xm_60, xm_61, xm_62, xm_63, xm_64, xm_65, xm_66, xm_67, xm_68, xm_69, xm_70, xm_71, xm_72, xm_73, xm_74], (∀ (pc : Nat) (i : Instr) (n : Nat), xr_fetch (xr_cd M) pc = some (i, n) → xr_ok (xt_T L xs) xt_GW xt_ST xt_AO M pc i n) ∧ xr_hok xt_GW xt_NC M := List.forall_mem_cons.mpr ⟨xo_50 L xs,
  List.forall_mem_cons.mpr ⟨xo_51 L xs,
  List.forall_mem_cons.mpr ⟨xo_52 L xs,
  List.forall_mem_cons.mpr ⟨xo_53 L xs,
  List.forall_mem_cons.mpr ⟨xo_54 L xs,
  List.forall_mem_cons.mpr ⟨xo_55 L xs,
  List.forall_mem_cons.mpr ⟨xo_56 L xs,
  List.forall_mem_cons.mpr ⟨xo_57 L xs,
  List.forall_mem_cons.mpr ⟨xo_58 L xs,
  List.forall_mem_cons.mpr ⟨xo_59 L xs,
  List.forall_mem_cons.mpr ⟨xo_60 L xs,
  List.forall_mem_cons.mpr ⟨xo_61 L xs,
  List.forall_mem_cons.mpr ⟨xo_62 L xs,
  List.forall_mem_cons.mpr ⟨xo_63 L xs,
  List.forall_mem_cons.mpr ⟨xo_64 L xs,
  List.forall_mem_cons.mpr ⟨xo_65 L xs,
  List.forall_mem_cons.mpr ⟨xo_66 L xs,
  List.forall_mem_cons.mpr ⟨xo_67 L xs,
  List.forall_mem_cons.mpr ⟨xo_68 L xs,
  List.forall_mem_cons.mpr ⟨xo_69 L xs,
  List.forall_mem_cons.mpr ⟨xo_70 L xs,
  List.forall_mem_cons.mpr ⟨xo_71 L xs,
  List.forall_mem_cons.mpr ⟨xo_72 L xs,
  List.forall_mem_cons.mpr ⟨xo_73 L xs,
  List.forall_mem_cons.mpr ⟨xo_74 L xs,
  fun _ h => absurd h List.not_mem_nil⟩⟩⟩⟩⟩⟩⟩⟩⟩⟩⟩⟩⟩⟩⟩⟩⟩⟩⟩⟩⟩⟩⟩⟩⟩
theorem xt_l2 : ∀ M ∈ [xm_50, xm_51, xm_52, xm_53, xm_54, xm_55, xm_56, xm_57, xm_58, xm_59, xm_60, xm_61, xm_62, xm_63, xm_64, xm_65, xm_66, xm_67, xm_68, xm_69, xm_70, xm_71, xm_72, xm_73, xm_74], xr_cal xt_GW M := List.forall_mem_cons.mpr ⟨xl_50,
  List.forall_mem_cons.mpr ⟨xl_51,
  List.forall_mem_cons.mpr ⟨xl_52,
  List.forall_mem_cons.mpr ⟨xl_53,
  List.forall_mem_cons.mpr ⟨xl_54,
  List.forall_mem_cons.mpr ⟨xl_55,
  List.forall_mem_cons.mpr ⟨xl_56,
  List.forall_mem_cons.mpr ⟨xl_57,
  List.forall_mem_cons.mpr ⟨xl_58,
  List.forall_mem_cons.mpr ⟨xl_59,
  List.forall_mem_cons.mpr ⟨xl_60,
  List.forall_mem_cons.mpr ⟨xl_61,
  List.forall_mem_cons.mpr ⟨xl_62,
  List.forall_mem_cons.mpr ⟨xl_63,
  List.forall_mem_cons.mpr ⟨xl_64,
  List.forall_mem_cons.mpr ⟨xl_65,
  List.forall_mem_cons.mpr ⟨xl_66,
  List.forall_mem_cons.mpr ⟨xl_67,
  List.forall_mem_cons.mpr ⟨xl_68,
  List.forall_mem_cons.mpr ⟨xl_69,
  List.forall_mem_cons.mpr ⟨xl_70,
  List.forall_mem_cons.mpr ⟨xl_71,
  List.forall_mem_cons.mpr ⟨xl_72,
  List.forall_mem_cons.mpr ⟨xl_73,
  List.forall_mem_cons.mpr ⟨xl_74,
  fun _ h => absurd h List.not_mem_nil⟩⟩⟩⟩⟩⟩⟩⟩⟩⟩⟩⟩⟩⟩⟩⟩⟩⟩⟩⟩⟩⟩⟩⟩⟩
theorem xt_o3 (L : Nat) (xs : Nat → Int32) : ∀ M ∈ [xm_75, xm_76, xm_77, xm_78, xm_79, xm_80, xm_81, xm_82, xm_83, xm_84, xm_85, xm_86, xm_87, xm_88, xm_89, xm_90, xm_91, xm_92, xm_93, xm_94, xm_95, xm_96, xm_97, xm_98, xm_99], (∀ (pc : Nat) (i : Instr) (n : Nat), xr_fetch (xr_cd M) pc = some (i, n) → xr_ok (xt_T L xs) xt_GW xt_ST xt_AO M pc i n) ∧ xr_hok xt_GW xt_NC M := List.forall_mem_cons.mpr ⟨xo_75 L xs,
  List.forall_mem_cons.mpr ⟨xo_76 L xs,
  List.forall_mem_cons.mpr ⟨xo_77 L xs,
  List.forall_mem_cons.mpr ⟨xo_78 L xs,
  List.forall_mem_cons.mpr ⟨xo_79 L xs,
  List.forall_mem_cons.mpr ⟨xo_80 L xs,
  List.forall_mem_cons.mpr ⟨xo_81 L xs,
  List.forall_mem_cons.mpr ⟨xo_82 L xs,
  List.forall_mem_cons.mpr ⟨xo_83 L xs,
  List.forall_mem_cons.mpr ⟨xo_84 L xs,
  List.forall_mem_cons.mpr ⟨xo_85 L xs,
  List.forall_mem_cons.mpr ⟨xo_86 L xs,
  List.forall_mem_cons.mpr ⟨xo_87 L xs,
  List.forall_mem_cons.mpr ⟨xo_88 L xs,
  List.forall_mem_cons.mpr ⟨xo_89 L xs,
  List.forall_mem_cons.mpr ⟨xo_90 L xs,
  List.forall_mem_cons.mpr ⟨xo_91 L xs,
  List.forall_mem_cons.mpr ⟨xo_92 L xs,
  List.forall_mem_cons.mpr ⟨xo_93 L xs,
  List.forall_mem_cons.mpr ⟨xo_94 L xs,
  List.forall_mem_cons.mpr ⟨xo_95 L xs,
  List.forall_mem_cons.mpr ⟨xo_96 L xs,
  List.forall_mem_cons.mpr ⟨xo_97 L xs,
  List.forall_mem_cons.mpr ⟨xo_98 L xs,
  List.forall_mem_cons.mpr ⟨xo_99 L xs,
  fun _ h => absurd h List.not_mem_nil⟩⟩⟩⟩⟩⟩⟩⟩⟩⟩⟩⟩⟩⟩⟩⟩⟩⟩⟩⟩⟩⟩⟩⟩⟩
theorem xt_l3 : ∀ M ∈ [xm_75, xm_76, xm_77, xm_78, xm_79, xm_80, xm_81, xm_82, xm_83, xm_84, xm_85, xm_86, xm_87, xm_88, xm_89, xm_90, xm_91, xm_92, xm_93, xm_94, xm_95, xm_96, xm_97, xm_98, xm_99], xr_cal xt_GW M := List.forall_mem_cons.mpr ⟨xl_75,
  List.forall_mem_cons.mpr ⟨xl_76,
  List.forall_mem_cons.mpr ⟨xl_77,
  List.forall_mem_cons.mpr ⟨xl_78,
  List.forall_mem_cons.mpr ⟨xl_79,
  List.forall_mem_cons.mpr ⟨xl_80,
  List.forall_mem_cons.mpr ⟨xl_81,
  List.forall_mem_cons.mpr ⟨xl_82,
  List.forall_mem_cons.mpr ⟨xl_83,
  List.forall_mem_cons.mpr ⟨xl_84,
  List.forall_mem_cons.mpr ⟨xl_85,
  List.forall_mem_cons.mpr ⟨xl_86,
  List.forall_mem_cons.mpr ⟨xl_87,
  List.forall_mem_cons.mpr ⟨xl_88,
  List.forall_mem_cons.mpr ⟨xl_89,
  List.forall_mem_cons.mpr ⟨xl_90,
  List.forall_mem_cons.mpr ⟨xl_91,
  List.forall_mem_cons.mpr ⟨xl_92,
  List.forall_mem_cons.mpr ⟨xl_93,
  List.forall_mem_cons.mpr ⟨xl_94,
  List.forall_mem_cons.mpr ⟨xl_95,
  List.forall_mem_cons.mpr ⟨xl_96,
  List.forall_mem_cons.mpr ⟨xl_97,
  List.forall_mem_cons.mpr ⟨xl_98,
  List.forall_mem_cons.mpr ⟨xl_99,
  fun _ h => absurd h List.not_mem_nil⟩⟩⟩⟩⟩⟩⟩⟩⟩⟩⟩⟩⟩⟩⟩⟩⟩⟩⟩⟩⟩⟩⟩⟩⟩
theorem xt_o4 (L : Nat) (xs : Nat → Int32) : ∀ M ∈ [xm_100, xm_101, xm_102, xm_103, xm_104, xm_105, xm_106, xm_107, xm_108, xm_109, xm_110, xm_111, xm_112, xm_113, xm_114, xm_115, xm_116, xm_117, xm_118, xm_119, xm_120, xm_121, xm_122, xm_123, xm_124], (∀ (pc : Nat) (i : Instr) (n : Nat), xr_fetch (xr_cd M) pc = some (i, n) → xr_ok (xt_T L xs) xt_GW xt_ST xt_AO M pc i n) ∧ xr_hok xt_GW xt_NC M := List.forall_mem_cons.mpr ⟨xo_100 L xs,
  List.forall_mem_cons.mpr ⟨xo_101 L xs,
  List.forall_mem_cons.mpr ⟨xo_102 L xs,
  List.forall_mem_cons.mpr ⟨xo_103 L xs,
  List.forall_mem_cons.mpr ⟨xo_104 L xs,
  List.forall_mem_cons.mpr ⟨xo_105 L xs,
  List.forall_mem_cons.mpr ⟨xo_106 L xs,
  List.forall_mem_cons.mpr ⟨xo_107 L xs,
  List.forall_mem_cons.mpr ⟨xo_108 L xs,
  List.forall_mem_cons.mpr ⟨xo_109 L xs,
  List.forall_mem_cons.mpr ⟨xo_110 L xs,
  List.forall_mem_cons.mpr ⟨xo_111 L xs,
  List.forall_mem_cons.mpr ⟨xo_112 L xs,
  List.forall_mem_cons.mpr ⟨xo_113 L xs,
  List.forall_mem_cons.mpr ⟨xo_114 L xs,
  List.forall_mem_cons.mpr ⟨xo_115 L xs,
  List.forall_mem_cons.mpr ⟨xo_116 L xs,
  List.forall_mem_cons.mpr ⟨xo_117 L xs,
  List.forall_mem_cons.mpr ⟨xo_118 L xs,
  List.forall_mem_cons.mpr ⟨xo_119 L xs,
  List.forall_mem_cons.mpr ⟨xo_120 L xs,
  List.forall_mem_cons.mpr ⟨xo_121 L xs,
  List.forall_mem_cons.mpr ⟨xo_122 L xs,
  List.forall_mem_cons.mpr ⟨xo_123 L xs,
  List.forall_mem_cons.mpr ⟨xo_124 L xs,
  fun _ h => absurd h List.not_mem_nil⟩⟩⟩⟩⟩⟩⟩⟩⟩⟩⟩⟩⟩⟩⟩⟩⟩⟩⟩⟩⟩⟩⟩⟩⟩
theorem xt_l4 : ∀ M ∈ [xm_100, xm_101, xm_102, xm_103, xm_104, xm_105, xm_106, xm_107, xm_108, xm_109, xm_110, xm_111, xm_112, xm_113, xm_114, xm_115, xm_116, xm_117, xm_118, xm_119, xm_120, xm_121, xm_122, xm_123, xm_124], xr_cal xt_GW M := List.forall_mem_cons.mpr ⟨xl_100,
  List.forall_mem_cons.mpr ⟨xl_101,
  List.forall_mem_cons.mpr ⟨xl_102,
  List.forall_mem_cons.mpr ⟨xl_103,
  List.forall_mem_cons.mpr ⟨xl_104,
  List.forall_mem_cons.mpr ⟨xl_105,
  List.forall_mem_cons.mpr ⟨xl_106,
  List.forall_mem_cons.mpr ⟨xl_107,
  List.forall_mem_cons.mpr ⟨xl_108,
  List.forall_mem_cons.mpr ⟨xl_109,
  List.forall_mem_cons.mpr ⟨xl_110,
  List.forall_mem_cons.mpr ⟨xl_111,
  List.forall_mem_cons.mpr ⟨xl_112,
  List.forall_mem_cons.mpr ⟨xl_113,
  List.forall_mem_cons.mpr ⟨xl_114,
  List.forall_mem_cons.mpr ⟨xl_115,
  List.forall_mem_cons.mpr ⟨xl_116,
  List.forall_mem_cons.mpr ⟨xl_117,
  List.forall_mem_cons.mpr ⟨xl_118,
  List.forall_mem_cons.mpr ⟨xl_119,
  List.forall_mem_cons.mpr ⟨xl_120,
  List.forall_mem_cons.mpr ⟨xl_121,
  List.forall_mem_cons.mpr ⟨xl_122,
  List.forall_mem_cons.mpr ⟨xl_123,
  List.forall_mem_cons.mpr ⟨xl_124,
  fun _ h => absurd h List.not_mem_nil⟩⟩⟩⟩⟩⟩⟩⟩⟩⟩⟩⟩⟩⟩⟩⟩⟩⟩⟩⟩⟩⟩⟩⟩⟩
theorem xt_o5 (L : Nat) (xs : Nat → Int32) : ∀ M ∈ [xm_125, xm_126, xm_127, xm_128, xm_129, xm_130, xm_131, xm_132, xm_133, xm_134, xm_135, xm_136, xm_137, xm_138, xm_139, xm_140, xm_141, xm_142, xm_143, xm_144, xm_145], (∀ (pc : Nat) (i : Instr) (n : Nat), xr_fetch (xr_cd M) pc = some (i, n) → xr_ok (xt_T L xs) xt_GW xt_ST xt_AO M pc i n) ∧ xr_hok xt_GW xt_NC M := List.forall_mem_cons.mpr ⟨xo_125 L xs,
  List.forall_mem_cons.mpr ⟨xo_126 L xs,
  List.forall_mem_cons.mpr ⟨xo_127 L xs,
  List.forall_mem_cons.mpr ⟨xo_128 L xs,
  List.forall_mem_cons.mpr ⟨xo_129 L xs,
  List.forall_mem_cons.mpr ⟨xo_130 L xs,
  List.forall_mem_cons.mpr ⟨xo_131 L xs,
  List.forall_mem_cons.mpr ⟨xo_132 L xs,
  List.forall_mem_cons.mpr ⟨xo_133 L xs,
  List.forall_mem_cons.mpr ⟨xo_134 L xs,
  List.forall_mem_cons.mpr ⟨xo_135 L xs,
  List.forall_mem_cons.mpr ⟨xo_136 L xs,
  List.forall_mem_cons.mpr ⟨xo_137 L xs,
  List.forall_mem_cons.mpr ⟨xo_138 L xs,
  List.forall_mem_cons.mpr ⟨xo_139 L xs,
  List.forall_mem_cons.mpr ⟨xo_140 L xs,
  List.forall_mem_cons.mpr ⟨xo_141 L xs,
  List.forall_mem_cons.mpr ⟨xo_142 L xs,
  List.forall_mem_cons.mpr ⟨xo_143 L xs,
  List.forall_mem_cons.mpr ⟨xo_144 L xs,
  List.forall_mem_cons.mpr ⟨xo_145 L xs,
  fun _ h => absurd h List.not_mem_nil⟩⟩⟩⟩⟩⟩⟩⟩⟩⟩⟩⟩⟩⟩⟩⟩⟩⟩⟩⟩⟩
theorem xt_l5 : ∀ M ∈ [xm_125, xm_126, xm_127, xm_128, xm_129, xm_130, xm_131, xm_132, xm_133, xm_134, xm_135, xm_136, xm_137, xm_138, xm_139, xm_140, xm_141, xm_142, xm_143, xm_144, xm_145], xr_cal xt_GW M := List.forall_mem_cons.mpr ⟨xl_125,
  List.forall_mem_cons.mpr ⟨xl_126,
  List.forall_mem_cons.mpr ⟨xl_127,
  List.forall_mem_cons.mpr ⟨xl_128,
  List.forall_mem_cons.mpr ⟨xl_129,
  List.forall_mem_cons.mpr ⟨xl_130,
  List.forall_mem_cons.mpr ⟨xl_131,
  List.forall_mem_cons.mpr ⟨xl_132,
  List.forall_mem_cons.mpr ⟨xl_133,
  List.forall_mem_cons.mpr ⟨xl_134,
  List.forall_mem_cons.mpr ⟨xl_135,
  List.forall_mem_cons.mpr ⟨xl_136,
  List.forall_mem_cons.mpr ⟨xl_137,
  List.forall_mem_cons.mpr ⟨xl_138,
  List.forall_mem_cons.mpr ⟨xl_139,
  List.forall_mem_cons.mpr ⟨xl_140,
  List.forall_mem_cons.mpr ⟨xl_141,
  List.forall_mem_cons.mpr ⟨xl_142,
  List.forall_mem_cons.mpr ⟨xl_143,
  List.forall_mem_cons.mpr ⟨xl_144,
  List.forall_mem_cons.mpr ⟨xl_145,
  fun _ h => absurd h List.not_mem_nil⟩⟩⟩⟩⟩⟩⟩⟩⟩⟩⟩⟩⟩⟩⟩⟩⟩⟩⟩⟩⟩
set_option maxRecDepth 100000 in
theorem xt_ms_eq : xt_ms = [xm_0, xm_1, xm_2, xm_3, xm_4, xm_5, xm_6, xm_7, xm_8, xm_9, xm_10, xm_11, xm_12, xm_13, xm_14, xm_15, xm_16, xm_17, xm_18, xm_19, xm_20, xm_21, xm_22, xm_23, xm_24] ++ ([xm_25, xm_26, xm_27, xm_28, xm_29, xm_30, xm_31, xm_32, xm_33, xm_34, xm_35, xm_36, xm_37, xm_38, xm_39, xm_40, xm_41, xm_42, xm_43, xm_44, xm_45, xm_46, xm_47, xm_48, xm_49] ++ ([xm_50, xm_51, xm_52, xm_53, xm_54, xm_55, xm_56, xm_57, xm_58, xm_59, xm_60, xm_61, xm_62, xm_63, xm_64, xm_65, xm_66, xm_67, xm_68, xm_69, xm_70, xm_71, xm_72, xm_73, xm_74] ++ ([xm_75, xm_76, xm_77, xm_78, xm_79, xm_80, xm_81, xm_82, xm_83, xm_84, xm_85, xm_86, xm_87, xm_88, xm_89, xm_90, xm_91, xm_92, xm_93, xm_94, xm_95, xm_96, xm_97, xm_98, xm_99] ++ ([xm_100, xm_101, xm_102, xm_103, xm_104, xm_105, xm_106, xm_107, xm_108, xm_109, xm_110, xm_111, xm_112, xm_113, xm_114, xm_115, xm_116, xm_117, xm_118, xm_119, xm_120, xm_121, xm_122, xm_123, xm_124] ++ ([xm_125, xm_126, xm_127, xm_128, xm_129, xm_130, xm_131, xm_132, xm_133, xm_134, xm_135, xm_136, xm_137, xm_138, xm_139, xm_140, xm_141, xm_142, xm_143, xm_144, xm_145]))))) := rfl
set_option maxRecDepth 100000 in
theorem xt_ms_eq2 : xt_ms = xm_0 :: ([xm_1, xm_2, xm_3, xm_4, xm_5, xm_6, xm_7, xm_8, xm_9, xm_10, xm_11, xm_12, xm_13, xm_14, xm_15, xm_16, xm_17, xm_18, xm_19, xm_20, xm_21, xm_22, xm_23, xm_24] ++ ([xm_25, xm_26, xm_27, xm_28, xm_29, xm_30, xm_31, xm_32, xm_33, xm_34, xm_35, xm_36, xm_37, xm_38, xm_39, xm_40, xm_41, xm_42, xm_43, xm_44, xm_45, xm_46, xm_47, xm_48, xm_49] ++ ([xm_50, xm_51, xm_52, xm_53, xm_54, xm_55, xm_56, xm_57, xm_58, xm_59, xm_60, xm_61, xm_62, xm_63, xm_64, xm_65, xm_66, xm_67, xm_68, xm_69, xm_70, xm_71, xm_72, xm_73, xm_74] ++ ([xm_75, xm_76, xm_77, xm_78, xm_79, xm_80, xm_81, xm_82, xm_83, xm_84, xm_85, xm_86, xm_87, xm_88, xm_89, xm_90, xm_91, xm_92, xm_93, xm_94, xm_95, xm_96, xm_97, xm_98, xm_99] ++ ([xm_100, xm_101, xm_102, xm_103, xm_104, xm_105, xm_106, xm_107, xm_108, xm_109, xm_110, xm_111, xm_112, xm_113, xm_114, xm_115, xm_116, xm_117, xm_118, xm_119, xm_120, xm_121, xm_122, xm_123, xm_124] ++ ([xm_125, xm_126, xm_127, xm_128, xm_129, xm_130, xm_131, xm_132, xm_133, xm_134, xm_135, xm_136, xm_137, xm_138, xm_139, xm_140, xm_141, xm_142, xm_143, xm_144, xm_145])))))) := rfl
theorem xt_SF (L : Nat) (xs : Nat → Int32) : xr_SF (xt_T L xs) xt_GW xt_ST xt_NC xt_AO := by
  refine ⟨fun w hw => (xt_GW_ok w hw).2, xt_Ks L xs, fun j M hj => ?_, fun j M h0 hj => ?_⟩
  · have h1 : M ∈ xt_ms := List.mem_of_getElem? hj
    rw [xt_ms_eq] at h1
    exact (List.forall_mem_append.mpr ⟨xt_o0 L xs, List.forall_mem_append.mpr ⟨xt_o1 L xs, List.forall_mem_append.mpr ⟨xt_o2 L xs, List.forall_mem_append.mpr ⟨xt_o3 L xs, List.forall_mem_append.mpr ⟨xt_o4 L xs, xt_o5 L xs⟩⟩⟩⟩⟩) M h1
  · have h1 : xt_ms[j]? = some M := hj
    rw [xt_ms_eq2] at h1
    cases j with
    | zero => exact absurd rfl h0
    | succ j =>
      rw [List.getElem?_cons_succ] at h1
      exact (List.forall_mem_append.mpr ⟨xt_l0, List.forall_mem_append.mpr ⟨xt_l1, List.forall_mem_append.mpr ⟨xt_l2, List.forall_mem_append.mpr ⟨xt_l3, List.forall_mem_append.mpr ⟨xt_l4, xt_l5⟩⟩⟩⟩⟩) M (List.mem_of_getElem? h1)
end
section
/-! THE TOP: what the Statement asks, out of a run of the runner -/
/-! THE CLAIM OUT OF ONE WALK OF THE LAW'S BODY. Your part is whole_start (and what it stands on); all else here is the same for every law, but numbers. -/
def R_law : String := "HexTemplatesLaw"
def lw_P (b : Addr) (xs : List Int32) (args : Array Value) (s : State) : Prop := args = #[.ref b] ∧ s.IntsAt b xs ∧ xs.length ≤ 260 ∧ (Jvm.Cond.and given_1 narrow_1).before args s = true
def lw_Q (_ : Array Value) (s : State) (o : Outcome) (t : State) : Prop := o = .returned (some (.int 1)) ∧ Framed s o t [] 600130 7301080
def lw_Z (below : List Frame) (a : Array Value) (s : State) : State → Prop := fun t => ∃ o, t.status = .running ∧ Ended t below o ∧ lw_Q a s o t
/-- the law's own end, with 1 on the stack, nothing written that was there before, its room as the claim has it -/
theorem lw_ret {p : Program} {l : Launch} {e : Env} {s : State} {m : MethodId} {below : List Frame} {meth : Method} {c : Code} {b : Nat} (hx : p.tables.exec = Jvm.exec) (hb : c.code = code) (hr : meth.sig.returnType = ret) (hlocks : meth.locks = false) {pc : Nat} {H : Heap} {ls : Array Slot} (hdg : decode code pc = .ok (.ireturn, 1)) : W p l e room_1 s m #[Value.ref b] below meth c H [] 600130 7301080 (lw_Z below #[Value.ref b] s) (F0 m pc ls [.int 1]) := by
  intro T hT X
  obtain ⟨fs, hret, hrun, hended, hW, hframe⟩ := X.leave (v := some (.int 1)) (hlocks := hlocks) (fun h => by rw [hr] at h; cases h)
  have hmeth' : T.vm.method? m = some meth := X.method'
  refine ⟨T.setFrames fs, ?_, .returned (some (.int 1)), hrun, hended, rfl, ⟨_, rfl⟩, hW, hframe⟩
  jvm_step X.here [X.here.top, hx, hb, hdg, hmeth', hr, ret, narrow_b1]
  (try refine ⟨rfl, ?_⟩); (try refine ⟨rfl, ?_⟩)
  first | (intro acts; rw [hret _ acts rfl rfl rfl]) | rw [hret _ _ rfl rfl rfl]
  exact Steps.refl _
/-- what holds at the law's entry: the machine, the code, the tables' words (any of lw_tbl by 'hts w (by decide +kernel)'), the script of L ints xs at the cell b, what the Statement gives of the start (any of its parts by flat_of_before) -/
def lw_At (p : Program) (s : State) (m : MethodId) (meth : Method) (c : Code) (b L : Nat) (xs : Nat → Int32) : Prop :=
  p.tables.exec = Jvm.exec ∧ c.code = code ∧ meth.sig.returnType = ret ∧ c.maxLocals = 13 ∧ s.vm.findClass R_law = some m.cls ∧ (∀ w ∈ lw_tbl, w.before #[Value.ref b] s = true) ∧ va_X b L xs s s.heap ∧ b < s.heap.size ∧ meth.locks = false ∧ (Jvm.Cond.and given_1 narrow_1).before #[Value.ref b] s = true
theorem xt_sref {s : State} {args : Array Value} {own tx : String} {k : Nat} (h : (Cond.stringRef own k tx).before args s = true) : ∃ a, vk_R own k tx a s := by
  have hcur : ∃ cur, s.vm.findClass own = some cur := by
    have h1 := h
    simp only [Cond.before, Cond.holds, Cond.value] at h1
    cases hc : s.vm.findClass own with
    | none => simp [hc] at h1
    | some cur => exact ⟨cur, rfl⟩
  obtain ⟨cur, hcur⟩ := hcur
  obtain ⟨k1, cf, i, a, -, -, -, -, -, hev⟩ := Cond.stringRef_spec hcur h
  exact ⟨a, vk_R.of h hev⟩
theorem xt_STin : ∀ q ∈ xt_ST, Cond.stringRef q.1 q.2.1 q.2.2 ∈ lw_tbl := by
  unfold xt_ST
  exact List.forall_mem_cons.mpr ⟨(List.mem_of_getElem? (i := 361) (by decide +kernel)),
  List.forall_mem_cons.mpr ⟨(List.mem_of_getElem? (i := 397) (by decide +kernel)),
  List.forall_mem_cons.mpr ⟨(List.mem_of_getElem? (i := 423) (by decide +kernel)),
  List.forall_mem_cons.mpr ⟨(List.mem_of_getElem? (i := 441) (by decide +kernel)),
  List.forall_mem_cons.mpr ⟨(List.mem_of_getElem? (i := 660) (by decide +kernel)),
  List.forall_mem_cons.mpr ⟨(List.mem_of_getElem? (i := 1029) (by decide +kernel)),
  List.forall_mem_cons.mpr ⟨(List.mem_of_getElem? (i := 1011) (by decide +kernel)),
  List.forall_mem_cons.mpr ⟨(List.mem_of_getElem? (i := 1038) (by decide +kernel)),
  List.forall_mem_cons.mpr ⟨(List.mem_of_getElem? (i := 1076) (by decide +kernel)),
  List.forall_mem_cons.mpr ⟨(List.mem_of_getElem? (i := 974) (by decide +kernel)),
  List.forall_mem_cons.mpr ⟨(List.mem_of_getElem? (i := 813) (by decide +kernel)),
  List.forall_mem_cons.mpr ⟨(List.mem_of_getElem? (i := 833) (by decide +kernel)),
  List.forall_mem_cons.mpr ⟨(List.mem_of_getElem? (i := 806) (by decide +kernel)),
  List.forall_mem_cons.mpr ⟨(List.mem_of_getElem? (i := 1051) (by decide +kernel)),
  List.forall_mem_cons.mpr ⟨(List.mem_of_getElem? (i := 831) (by decide +kernel)),
  List.forall_mem_cons.mpr ⟨(List.mem_of_getElem? (i := 891) (by decide +kernel)),
  List.forall_mem_cons.mpr ⟨(List.mem_of_getElem? (i := 932) (by decide +kernel)),
  fun _ h => absurd h List.not_mem_nil⟩⟩⟩⟩⟩⟩⟩⟩⟩⟩⟩⟩⟩⟩⟩⟩⟩
theorem xt_AOin : ∀ C ∈ xt_AO, Cond.arrayOver (.object C) ∈ lw_tbl := by
  unfold xt_AO
  exact List.forall_mem_cons.mpr ⟨(List.mem_of_getElem? (i := 125) (by decide +kernel)),
  fun _ h => absurd h List.not_mem_nil⟩
theorem xt_env {s : State} {b L : Nat} {xs : Nat → Int32} (hts : ∀ w ∈ lw_tbl, w.before #[Value.ref b] s = true) (hX : va_X b L xs s s.heap) (hbl : b < s.heap.size) (hgv : (Jvm.Cond.and given_1 narrow_1).before #[Value.ref b] s = true) :
    xr_Env (xt_T L xs) (fun q : Nat => s.heap.size ≤ q) b xt_ST xt_NC xt_AO s s.heap := by
  have hg := flat_of_before _ hgv
  have hA : ∀ a : Nat, a < s.heap.size → ¬ (fun q : Nat => s.heap.size ≤ q) a := fun a h => Nat.not_le.mpr h
  have hini : (Cond.initialized "java/lang/Throwable").before #[Value.ref b] s = true := hts _ (List.mem_of_getElem? (i := 63) (by decide +kernel))
  refine ⟨vx_Zqof (hts _ (List.mem_of_getElem? (i := 347) (by decide +kernel))) hini (hg _ (by decide +kernel)) hA, vx_Zqof (hts _ (List.mem_of_getElem? (i := 349) (by decide +kernel))) hini (hg _ (by decide +kernel)) hA, hX, hbl, hA b hbl, fun q hq => xt_sref (hts _ (xt_STin q hq)), ?_, fun C hC => va_AO.of (hts _ (xt_AOin C hC))⟩
  unfold xt_NC
  exact List.forall_mem_cons.mpr ⟨va_Nc.of (hg _ (by decide +kernel)),
  List.forall_mem_cons.mpr ⟨va_Nc.of (hg _ (by decide +kernel)),
  List.forall_mem_cons.mpr ⟨va_Nc.of (hg _ (by decide +kernel)),
  List.forall_mem_cons.mpr ⟨va_Nc.of (hg _ (by decide +kernel)),
  List.forall_mem_cons.mpr ⟨va_Nc.of (hg _ (by decide +kernel)),
  List.forall_mem_cons.mpr ⟨va_Nc.of (hg _ (by decide +kernel)),
  fun _ h => absurd h List.not_mem_nil⟩⟩⟩⟩⟩⟩
/-- the heap of the start -/
def xt_h0 : xrH := (0, 0, 0, fun _ => .inr (99, []))
theorem xt_known {s : State} {b : Nat} (hts : ∀ w ∈ lw_tbl, w.before #[Value.ref b] s = true) : ∃ D : va_G, ∀ (k : Nat) (q : vw_C), xt_cl[k]? = some q → u_Kn s q.1 q.2.1 q.2.2 (D.1 k) (D.2 k) := by
  obtain ⟨c0, iS0, hKn0⟩ := u_known (C := RX0) (T := TX0) (N := 2) (n := 2) hts (fun w hw => (xt_GW_ok w (xt_in 23 rfl hw)).1) (hts (.instantiable RX0 2) (xt_GW_ok _ (xt_in 1 rfl (List.mem_of_getElem? (i := 36) rfl))).1)
  obtain ⟨c1, iS1, hKn1⟩ := u_known (C := RX1) (T := TX1) (N := 2) (n := 2) hts (fun w hw => (xt_GW_ok w (xt_in 24 rfl hw)).1) (hts (.instantiable RX1 2) (xt_GW_ok _ (xt_in 4 rfl (List.mem_of_getElem? (i := 13) rfl))).1)
  obtain ⟨c2, iS2, hKn2⟩ := u_known (C := RX2) (T := TX2) (N := 3) (n := 3) hts (fun w hw => (xt_GW_ok w (xt_in 25 rfl hw)).1) (hts (.instantiable RX2 3) (xt_GW_ok _ (xt_in 4 rfl (List.mem_of_getElem? (i := 25) rfl))).1)
  obtain ⟨c3, iS3, hKn3⟩ := u_known (C := RX3) (T := TX3) (N := 8) (n := 8) hts (fun w hw => (xt_GW_ok w (xt_in 26 rfl hw)).1) (hts (.instantiable RX3 8) (xt_GW_ok _ (xt_in 3 rfl (List.mem_of_getElem? (i := 2) rfl))).1)
  obtain ⟨c4, iS4, hKn4⟩ := u_known (C := RX4) (T := TX4) (N := 6) (n := 6) hts (fun w hw => (xt_GW_ok w (xt_in 27 rfl hw)).1) (hts (.instantiable RX4 6) (xt_GW_ok _ (xt_in 2 rfl (List.mem_of_getElem? (i := 11) rfl))).1)
  obtain ⟨c5, iS5, hKn5⟩ := u_known (C := RX5) (T := TX5) (N := 11) (n := 11) hts (fun w hw => (xt_GW_ok w (xt_in 28 rfl hw)).1) (hts (.instantiable RX5 11) (xt_GW_ok _ (xt_in 2 rfl (List.mem_of_getElem? (i := 36) rfl))).1)
  obtain ⟨c6, iS6, hKn6⟩ := u_known (C := RX6) (T := TX6) (N := 5) (n := 5) hts (fun w hw => (xt_GW_ok w (xt_in 29 rfl hw)).1) (hts (.instantiable RX6 5) (xt_GW_ok _ (xt_in 2 rfl (List.mem_of_getElem? (i := 24) rfl))).1)
  obtain ⟨c7, iS7, hKn7⟩ := u_known (C := RX7) (T := TX7) (N := 21) (n := 21) hts (fun w hw => (xt_GW_ok w (xt_in 30 rfl hw)).1) (hts (.instantiable RX7 21) (xt_GW_ok _ (xt_in 6 rfl (List.mem_of_getElem? (i := 10) rfl))).1)
  obtain ⟨c8, iS8, hKn8⟩ := u_known (C := RX8) (T := TX8) (N := 12) (n := 12) hts (fun w hw => (xt_GW_ok w (xt_in 31 rfl hw)).1) (hts (.instantiable RX8 12) (xt_GW_ok _ (xt_in 1 rfl (List.mem_of_getElem? (i := 28) rfl))).1)
  refine ⟨(fun k => if k = 0 then c0 else if k = 1 then c1 else if k = 2 then c2 else if k = 3 then c3 else if k = 4 then c4 else if k = 5 then c5 else if k = 6 then c6 else if k = 7 then c7 else c8, fun k => if k = 0 then iS0 else if k = 1 then iS1 else if k = 2 then iS2 else if k = 3 then iS3 else if k = 4 then iS4 else if k = 5 then iS5 else if k = 6 then iS6 else if k = 7 then iS7 else iS8), ?_⟩
  intro k q hq
  match k, hq with
    | 0, hq => cases hq; exact hKn0
    | 1, hq => cases hq; exact hKn1
    | 2, hq => cases hq; exact hKn2
    | 3, hq => cases hq; exact hKn3
    | 4, hq => cases hq; exact hKn4
    | 5, hq => cases hq; exact hKn5
    | 6, hq => cases hq; exact hKn6
    | 7, hq => cases hq; exact hKn7
    | 8, hq => cases hq; exact hKn8
    | k + 9, hq => simp [xt_cl] at hq
set_option maxHeartbeats 4000000 in
/-- from the entry: a run of the runner to true is the law's own -/
theorem xt_start {p : Program} {e : Env} {s : State} {m : MethodId} {below : List Frame} {meth : Method} {c : Code} (l : Launch) (hflags : l.flags = flags0) {b L : Nat} {xs : Nat → Int32} (C0 : lw_At p s m meth c b L xs) (hname : meth.name = "law") (htab : c.exceptionTable.toList = [])
    {N : Nat} {h' : xrH} (hrun : xr_run (xt_T L xs) N 1000 0 0 (lv_args 0 [.retAddr 1]) [] xt_h0 = some (.inl (some (.int 1)), h')) (hc : h'.1 ≤ 600130) (hs : h'.2.1 ≤ 7301080) :
    W p l e room_1 s m #[Value.ref b] below meth c s.heap [] 0 0 (lw_Z below #[Value.ref b] s) (entryFrame m ([Value.ref b] : List Value).toArray 13) := by
  obtain ⟨hx, hb, hr, hml, hown, hts, hX, hbl, hlocks, hgv⟩ := id C0
  obtain ⟨D, hK0⟩ := xt_known hts
  have hE := xt_env hts hX hbl hgv
  have hl0 : l.stackTraces = false := by
    unfold Launch.stackTraces
    rw [hflags]
    decide +kernel
  have C : xr_Cx p l s m #[Value.ref b] meth c (xt_T L xs) (fun q : Nat => s.heap.size ≤ q) b xt_GW xt_ST xt_NC xt_AO xm_0 :=
    ⟨hx, hb, hml, hown, fun w hw => hts w (xt_GW_ok w hw).1, hname, hr, hlocks, htab, hE, hl0, fun _ h => h⟩
  have hl := lv_entry ([.ref b]) (n := 13) (Nat.le_of_ble_eq_true rfl)
  rw [lg_entry_eq]
  generalize (lg_sl ([.ref b]) ++ List.replicate (13 - (lg_sl ([.ref b])).length) Slot.unset).toArray = ls at hl ⊢
  have hl : lv_has ls 13 [(0, .ref b)] := hl
  have hW : xr_W (xt_T L xs) D (fun q : Nat => s.heap.size ≤ q) b xt_h0 [] s [] [] s.heap :=
    ⟨⟨hK0, fun k q h => by simp at h⟩, fun k q h => by simp at h, ⟨fun i j p q h => by simp at h, fun k q h => by simp at h⟩, rfl, rfl, fun a q e' h => by simp at h⟩
  refine xr_sim hl0 (xt_SF L xs) N p e room_1 s m #[Value.ref b] below meth c (lw_Z below #[Value.ref b] s) xm_0 0 1000 0 (lv_args 0 [.retAddr 1]) [] xt_h0 (.inl (some (.int 1))) h' [] 0 0 rfl C hrun (Nat.zero_le _) (Nat.zero_le _) ⟨hc, hs⟩ ⟨Nat.le_of_ble_eq_true rfl, Nat.le_of_ble_eq_true rfl⟩ ?_ ?_ s.heap [] [] [] [] ls [(0, .ref b)] [] (xr_le.rf _) hW va_S.rf hl ⟨rfl, rfl, trivial⟩ trivial
  · intro v i pc1 L1 st1 hv hend hd H locs ads ws tys ls1 L' st' g1 g2 g3 g4 g5 g6
    cases hv
    have hi : i = .ireturn ∧ st1 = [.int 1] := by
      unfold xr_end at hend
      split at hend
      · split at hend
        · cases hok : xr_okr (xr_rt xm_0) (.int _) with
          | false =>
            rw [hok] at hend
            cases hend
          | true =>
            rw [hok] at hend
            cases hend
            exact ⟨rfl, rfl⟩
        · cases hend
      · split at hend
        · rename_i z
          cases hok : xr_okr (xr_rt xm_0) (.long z) with
          | false =>
            rw [hok] at hend
            cases hend
          | true =>
            rw [hok] at hend
            cases hend
        · cases hend
      · split at hend
        · rename_i z
          cases hok : xr_okr (xr_rt xm_0) (.ref z) with
          | false =>
            rw [hok] at hend
            cases hend
          | true =>
            rw [hok] at hend
            cases hend
        · cases hok : xr_okr (xr_rt xm_0) .null with
          | false =>
            rw [hok] at hend
            cases hend
          | true =>
            rw [hok] at hend
            cases hend
        · cases hend
      · split at hend
        · split at hend
          · cases hend
          · cases hend
        · cases hend
      · cases hend
    obtain ⟨rfl, rfl⟩ := hi
    obtain ⟨v', r', rfl, hv1, hr1⟩ := g6.cons
    have hr2 := hr1.nil
    subst hr2
    have hv2 := hv1.int
    subst hv2
    refine va_forget (fun q hq => g3.2.2 q hq) ?_
    refine W.widen (k := 600130) (n := 7301080) hc hs ?_
    exact lw_ret hx hb hr hlocks hd
  · intro k hk
    cases hk
end
