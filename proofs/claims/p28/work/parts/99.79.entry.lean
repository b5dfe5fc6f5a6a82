section
/-! THE ENTRY: what the constructors make, by a mirror that can be reckoned with -/
/-- a thing as it is made: an array (0 int, 1 boolean, 2 long, 3 templates) of so many, or an object -/
abbrev zE : Type := (Nat × Nat) ⊕ (Nat × List Value)
abbrev zM : Type := List zE × Nat
def zEi (e : zE) : xrE := match e with
  | .inl (0, n) => .inl (.int, n, .inl fun _ => 0)
  | .inl (1, n) => .inl (.boolean, n, .inl fun _ => 0)
  | .inl (2, n) => .inl (.long, n, .inr (.inl fun _ => 0))
  | .inl (_ + 3, n) => .inl (.object RX7, n, .inr (.inr (.inr (.inr fun _ => none))))
  | .inr q => .inr q
def zKs (g : zM) (h : xrH) : Prop := h.1 = g.1.length ∧ h.2.1 = g.2 ∧ h.2.2.1 = g.1.length ∧ ∀ a e, g.1[a]? = some e → xr_M h a = zEi e
def zSim (F : xrR) (G : Option zM) : Prop := ∀ g', G = some g' → ∃ h', F = some (.inl none, h') ∧ zKs g' h'
def me_o (g : zM) (c : Nat) (K : Nat → zM → Option zM) : Option zM := K g.1.length (g.1 ++ [.inr (c, xt_df c)], g.2 + (xt_df c).length)
def me_a (g : zM) (t : Nat) (k : Int32) (K : Nat → zM → Option zM) : Option zM := if k < 0 ∨ 65536 < k.toNatClampNeg then none else K g.1.length (g.1 ++ [.inl (t, k.toNatClampNeg)], g.2 + k.toNatClampNeg)
def me_p (k : Nat) (g : zM) (a f : Nat) (v : Value) (K : zM → Option zM) : Option zM := match g.1[a]? with
  | some (.inr (c, fs)) => bif Nat.beq c (f / 64) && Nat.blt (f % 64) fs.length && xr_tak k v then K (g.1.set a (.inr (c, fs.set (f % 64) v)), g.2) else none
  | _ => none
def me_c (g : zM) (a c : Nat) : Bool := match g.1[a]? with
  | some (.inr (c', _)) => Nat.beq c' c
  | _ => false
def me_n (F : Option zM) (K : zM → Option zM) : Option zM := match F with
  | some g => K g
  | none => none
section
variable {g : zM} {h : xrH} {c k a f x0 : Nat} {v : Value} {X : Int32} {e : zE} {F A B Y : xrR} {F' A' B' Y' : Option zM}
theorem zKs.new (H : zKs g h) (n : Nat) : zKs (g.1 ++ [e], g.2 + n) (xr_new h n (zEi e)) := by
  obtain ⟨h1, h2, h3, h4⟩ := H
  refine ⟨?_, ?_, ?_, fun a d hd => ?_⟩
  · show h.1 + 1 = (g.1 ++ [e]).length
    rw [h1, List.length_append]
    rfl
  · show h.2.1 + n = g.2 + n
    rw [h2]
  · show h.2.2.1 + 1 = (g.1 ++ [e]).length
    rw [h3, List.length_append]
    rfl
  · show va_up h.2.2.2 h.2.2.1 (zEi e) a = zEi d
    have hd : (g.1 ++ [e])[a]? = some d := hd
    by_cases y : a < g.1.length
    · rw [List.getElem?_append_left y] at hd
      rw [← h4 a d hd]
      unfold va_up
      rw [if_neg (by omega)]
    · rw [List.getElem?_append_right (by omega)] at hd
      have ea : a = g.1.length := by
        by_cases z : a - g.1.length = 0
        · omega
        · rw [List.getElem?_eq_none (by simp; omega)] at hd
          cases hd
      rw [ea, show g.1.length - g.1.length = 0 by omega] at hd
      injection hd with hd
      rw [← hd, ea, ← h3]
      unfold va_up
      rw [if_pos rfl]
theorem zs_v (H : zKs g h) : zSim (xv h) (some g) := fun g' e => by
  injection e with e
  subst e
  exact ⟨h, rfl, H⟩
theorem zs_o {K : Nat → xrH → xrR} {K' : Nat → zM → Option zM} (H : zKs g h) (k : ∀ a h' g', zKs g' h' → zSim (K a h') (K' a g')) : zSim (xn_o xt_df h c K) (me_o g c K') := fun g' e => by
  unfold me_o at e
  unfold xn_o
  rw [H.2.2.1]
  exact k _ _ _ (H.new (e := .inr (c, xt_df c)) _) g' e
theorem zs_ai {K : Nat → xrH → xrR} {K' : Nat → zM → Option zM} (H : zKs g h) (k : ∀ a h' g', zKs g' h' → zSim (K a h') (K' a g')) : zSim (xn_a h .int X K) (me_a g 0 X K') := fun g' e => by
  unfold me_a at e
  unfold xn_a
  by_cases z : X < 0 ∨ 65536 < X.toNatClampNeg
  · rw [if_pos z] at e
    cases e
  · rw [if_neg z] at e ⊢
    rw [H.2.2.1]
    exact k _ _ _ (H.new (e := .inl (0, X.toNatClampNeg)) _) g' e
theorem zs_ab {K : Nat → xrH → xrR} {K' : Nat → zM → Option zM} (H : zKs g h) (k : ∀ a h' g', zKs g' h' → zSim (K a h') (K' a g')) : zSim (xn_a h .boolean X K) (me_a g 1 X K') := fun g' e => by
  unfold me_a at e
  unfold xn_a
  by_cases z : X < 0 ∨ 65536 < X.toNatClampNeg
  · rw [if_pos z] at e
    cases e
  · rw [if_neg z] at e ⊢
    rw [H.2.2.1]
    exact k _ _ _ (H.new (e := .inl (1, X.toNatClampNeg)) _) g' e
theorem zs_q {K : Nat → xrH → xrR} {K' : Nat → zM → Option zM} (H : zKs g h) (k : ∀ a h' g', zKs g' h' → zSim (K a h') (K' a g')) : zSim (xn_q xt_cl h 7 X K) (me_a g 3 X K') := fun g' e => by
  unfold me_a at e
  show ∃ h', (if X < 0 ∨ 65536 < X.toNatClampNeg then none else K h.2.2.1 (xr_new h X.toNatClampNeg (.inl (.object RX7, X.toNatClampNeg, .inr (.inr (.inr (.inr (fun _ => none)))))))) = some (.inl none, h') ∧ zKs g' h'
  by_cases z : X < 0 ∨ 65536 < X.toNatClampNeg
  · rw [if_pos z] at e
    cases e
  · rw [if_neg z] at e ⊢
    rw [H.2.2.1]
    exact k _ _ _ (H.new (e := .inl (3, X.toNatClampNeg)) _) g' e
theorem zs_p {K : xrH → xrR} {K' : zM → Option zM} (H : zKs g h) (kk : ∀ h' g', zKs g' h' → zSim (K h') (K' g')) : zSim (Option.bind (xo_p k h a f v) K) (me_p k g a f v K') := fun g' e => by
  unfold me_p at e
  unfold xo_p
  split at e
  · rename_i c fs hq
    obtain ⟨h1, h2, h3, h4⟩ := H
    rw [h4 a _ hq]
    show ∃ h', Option.bind (bif Nat.beq c (f / 64) && Nat.blt (f % 64) fs.length && xr_tak k v then some (xr_put h a (.inr (c, fs.set (f % 64) v))) else none) K = some (.inl none, h') ∧ zKs g' h'
    cases hb : (Nat.beq c (f / 64) && Nat.blt (f % 64) fs.length && xr_tak k v) with
    | false =>
      rw [hb] at e
      cases e
    | true =>
      rw [hb] at e
      have e : K' (g.1.set a (.inr (c, fs.set (f % 64) v)), g.2) = some g' := e
      refine kk (xr_put h a (.inr (c, fs.set (f % 64) v))) (g.1.set a (.inr (c, fs.set (f % 64) v)), g.2) ⟨?_, h2, ?_, fun b d hd => ?_⟩ g' e
      · show h.1 = (g.1.set a _).length
        rw [h1, List.length_set]
      · show h.2.2.1 = (g.1.set a _).length
        rw [h3, List.length_set]
      · show va_up h.2.2.2 a (.inr (c, fs.set (f % 64) v)) b = zEi d
        have hd : (g.1.set a (.inr (c, fs.set (f % 64) v)))[b]? = some d := hd
        unfold va_up
        by_cases y : b = a
        · have al : a < g.1.length := by
            by_cases z : a < g.1.length
            · exact z
            · rw [List.getElem?_eq_none (by omega)] at hq
              cases hq
          rw [y, List.getElem?_set_self al] at hd
          injection hd with hd
          rw [if_pos y, ← hd]
          rfl
        · rw [List.getElem?_set_ne (fun z => y z.symm)] at hd
          rw [if_neg y]
          exact h4 b d hd
  · cases e
theorem zs_c (H : zKs g h) (s : zSim Y Y') : zSim (bif xo_c h a c then Y else none) (bif me_c g a c then Y' else none) := fun g' e => by
  cases hb : me_c g a c with
  | false =>
    rw [hb] at e
    cases e
  | true =>
    rw [hb] at e
    have hx : xo_c h a c = true := by
      unfold me_c at hb
      unfold xo_c
      split at hb
      · rename_i c' fs hq
        rw [H.2.2.2 a _ hq]
        exact hb
      · exact absurd hb (by decide)
    rw [hx]
    exact s g' e
theorem zs_n {K : xrH → xrR} {K' : zM → Option zM} (s : zSim F F') (k : ∀ h' g', zKs g' h' → zSim (K h') (K' g')) : zSim (xc_n F K) (me_n F' K') := fun g' e => by
  cases hf : F' with
  | none =>
    rw [hf] at e
    cases e
  | some g1 =>
    rw [hf] at e
    obtain ⟨h1, a1, a2⟩ := s g1 hf
    rw [a1]
    exact k h1 g1 a2 g' e
theorem zs_br (sA : zSim A A') (sB : zSim B B') : zSim (xr_br .ge X 0 A B) (if (0 : Int32) ≤ X then A' else B') := fun g' e => by
  show ∃ h', (if (0 : Int32) ≤ X then A else B) = some (.inl none, h') ∧ zKs g' h'
  by_cases c : (0 : Int32) ≤ X
  · rw [if_pos c] at e ⊢
    exact sA g' e
  · rw [if_neg c] at e ⊢
    exact sB g' e
def me_1 (x0 : Nat) (x1 : Int32) (g : zM) : Option zM := me_p 0 g x0 1 (.int (Int32.ofInt 0)) fun g101 => (if (0 : Int32) ≤ x1 then (me_a g101 0 x1 fun a102 g103 => (me_p 2 g103 x0 0 (.ref a102) fun g104 => (some g104))) else (me_a g101 0 (Int32.ofInt 0) fun a105 g106 => (me_p 2 g106 x0 0 (.ref a105) fun g107 => (some g107))))
theorem ms_1 {x0 : Nat} {x1 : Int32} (H : zKs g h) : zSim (xf_1 x0 x1 h) (me_1 x0 x1 g) := by
  unfold xf_1 me_1
  exact zs_p H fun h101 g101 H101 => (zs_br (zs_ai H101 fun a102 h103 g103 H103 => (zs_p H103 fun h104 g104 H104 => (zs_v H104))) (zs_ai H101 fun a105 h106 g106 H106 => (zs_p H106 fun h107 g107 H107 => (zs_v H107))))
def me_9 (x0 : Nat) (g : zM) : Option zM := me_o g 0 fun a101 g102 => (bif me_c g102 a101 0 then (me_n (me_1 a101 (Int16.ofInt 160).toInt32 g102) fun g103 => (me_p 2 g103 x0 64 (.ref a101) fun g104 => (me_a g104 1 (Int16.ofInt 200).toInt32 fun a105 g106 => (me_p 2 g106 x0 65 (.ref a105) fun g107 => (some g107))))) else none)
theorem ms_9 {x0 : Nat} (H : zKs g h) : zSim (xf_9 x0 h) (me_9 x0 g) := by
  unfold xf_9 me_9
  exact zs_o H fun a101 h102 g102 H102 => (zs_c H102 (zs_n (ms_1 H102) fun h103 g103 H103 => (zs_p H103 fun h104 g104 H104 => (zs_ab H104 fun a105 h106 g106 H106 => (zs_p H106 fun h107 g107 H107 => (zs_v H107))))))
def me_21 (x0 : Nat) (g : zM) : Option zM := me_p 0 g x0 128 (.int (Int32.ofInt 0)) fun g101 => (me_p 0 g101 x0 129 (.int (Int32.ofInt 0)) fun g102 => (me_p 0 g102 x0 130 (.int (Int32.ofInt 0)) fun g103 => (some g103)))
theorem ms_21 {x0 : Nat} (H : zKs g h) : zSim (xf_21 x0 h) (me_21 x0 g) := by
  unfold xf_21 me_21
  exact zs_p H fun h101 g101 H101 => (zs_p H101 fun h102 g102 H102 => (zs_p H102 fun h103 g103 H103 => (zs_v H103)))
def me_26 (x0 : Nat) (g : zM) : Option zM := me_a g 0 (Int16.ofInt 200).toInt32 fun a101 g102 => (me_p 2 g102 x0 192 (.ref a101) fun g103 => (me_a g103 0 (Int16.ofInt 200).toInt32 fun a104 g105 => (me_p 2 g105 x0 193 (.ref a104) fun g106 => (me_a g106 0 (Int16.ofInt 200).toInt32 fun a107 g108 => (me_p 2 g108 x0 194 (.ref a107) fun g109 => (me_a g109 0 (Int16.ofInt 200).toInt32 fun a110 g111 => (me_p 2 g111 x0 195 (.ref a110) fun g112 => (me_a g112 0 (Int16.ofInt 200).toInt32 fun a113 g114 => (me_p 2 g114 x0 196 (.ref a113) fun g115 => (me_a g115 0 (Int16.ofInt 200).toInt32 fun a116 g117 => (me_p 2 g117 x0 197 (.ref a116) fun g118 => (me_a g118 0 (Int16.ofInt 200).toInt32 fun a119 g120 => (me_p 2 g120 x0 198 (.ref a119) fun g121 => (me_p 0 g121 x0 199 (.int (Int32.ofInt 0)) fun g122 => (some g122)))))))))))))))
theorem ms_26 {x0 : Nat} (H : zKs g h) : zSim (xf_26 x0 h) (me_26 x0 g) := by
  unfold xf_26 me_26
  exact zs_ai H fun a101 h102 g102 H102 => (zs_p H102 fun h103 g103 H103 => (zs_ai H103 fun a104 h105 g105 H105 => (zs_p H105 fun h106 g106 H106 => (zs_ai H106 fun a107 h108 g108 H108 => (zs_p H108 fun h109 g109 H109 => (zs_ai H109 fun a110 h111 g111 H111 => (zs_p H111 fun h112 g112 H112 => (zs_ai H112 fun a113 h114 g114 H114 => (zs_p H114 fun h115 g115 H115 => (zs_ai H115 fun a116 h117 g117 H117 => (zs_p H117 fun h118 g118 H118 => (zs_ai H118 fun a119 h120 g120 H120 => (zs_p H120 fun h121 g121 H121 => (zs_p H121 fun h122 g122 H122 => (zs_v H122)))))))))))))))
def me_35 (x0 : Nat) (g : zM) : Option zM := me_p 2 g x0 256 (.null) fun g101 => (me_p 2 g101 x0 257 (.null) fun g102 => (me_p 0 g102 x0 258 (.int (Int32.ofInt 0)) fun g103 => (me_p 0 g103 x0 259 (.int (Int32.ofInt (-1))) fun g104 => (me_p 0 g104 x0 260 (.int (Int32.ofInt 0)) fun g105 => (me_p 0 g105 x0 261 (.int (Int32.ofInt 0)) fun g106 => (some g106))))))
theorem ms_35 {x0 : Nat} (H : zKs g h) : zSim (xf_35 x0 h) (me_35 x0 g) := by
  unfold xf_35 me_35
  exact zs_p H fun h101 g101 H101 => (zs_p H101 fun h102 g102 H102 => (zs_p H102 fun h103 g103 H103 => (zs_p H103 fun h104 g104 H104 => (zs_p H104 fun h105 g105 H105 => (zs_p H105 fun h106 g106 H106 => (zs_v H106))))))
def me_55 (x0 : Nat) (g : zM) : Option zM := me_o g 3 fun a101 g102 => (bif me_c g102 a101 3 then (me_n (me_26 a101 g102) fun g103 => (me_p 2 g103 x0 320 (.ref a101) fun g104 => (me_p 2 g104 x0 321 (.null) fun g105 => (me_p 2 g105 x0 322 (.null) fun g106 => (me_p 0 g106 x0 323 (.int (Int32.ofInt 0)) fun g107 => (me_p 0 g107 x0 324 (.int (Int32.ofInt 0)) fun g108 => (me_p 0 g108 x0 325 (.int (Int32.ofInt 0)) fun g109 => (me_p 0 g109 x0 326 (.int (Int32.ofInt (-1))) fun g110 => (me_p 0 g110 x0 327 (.int (Int32.ofInt 0)) fun g111 => (me_a g111 0 (Int8.ofInt 48).toInt32 fun a112 g113 => (me_p 2 g113 x0 328 (.ref a112) fun g114 => (me_a g114 0 (Int8.ofInt 48).toInt32 fun a115 g116 => (me_p 2 g116 x0 329 (.ref a115) fun g117 => (me_a g117 0 (Int8.ofInt 48).toInt32 fun a118 g119 => (me_p 2 g119 x0 330 (.ref a118) fun g120 => (some g120)))))))))))))))) else none)
theorem ms_55 {x0 : Nat} (H : zKs g h) : zSim (xf_55 x0 h) (me_55 x0 g) := by
  unfold xf_55 me_55
  exact zs_o H fun a101 h102 g102 H102 => (zs_c H102 (zs_n (ms_26 H102) fun h103 g103 H103 => (zs_p H103 fun h104 g104 H104 => (zs_p H104 fun h105 g105 H105 => (zs_p H105 fun h106 g106 H106 => (zs_p H106 fun h107 g107 H107 => (zs_p H107 fun h108 g108 H108 => (zs_p H108 fun h109 g109 H109 => (zs_p H109 fun h110 g110 H110 => (zs_p H110 fun h111 g111 H111 => (zs_ai H111 fun a112 h113 g113 H113 => (zs_p H113 fun h114 g114 H114 => (zs_ai H114 fun a115 h116 g116 H116 => (zs_p H116 fun h117 g117 H117 => (zs_ai H117 fun a118 h119 g119 H119 => (zs_p H119 fun h120 g120 H120 => (zs_v H120)))))))))))))))))
def me_87 (x0 : Nat) (g : zM) : Option zM := me_a g 0 (Int16.ofInt 4800).toInt32 fun a101 g102 => (me_p 2 g102 x0 384 (.ref a101) fun g103 => (me_a g103 0 (Int8.ofInt 30).toInt32 fun a104 g105 => (me_p 2 g105 x0 385 (.ref a104) fun g106 => (me_a g106 0 (Int8.ofInt 30).toInt32 fun a107 g108 => (me_p 2 g108 x0 386 (.ref a107) fun g109 => (me_p 0 g109 x0 387 (.int (Int32.ofInt 0)) fun g110 => (me_p 0 g110 x0 388 (.int (Int32.ofInt (-1))) fun g111 => (some g111))))))))
theorem ms_87 {x0 : Nat} (H : zKs g h) : zSim (xf_87 x0 h) (me_87 x0 g) := by
  unfold xf_87 me_87
  exact zs_ai H fun a101 h102 g102 H102 => (zs_p H102 fun h103 g103 H103 => (zs_ai H103 fun a104 h105 g105 H105 => (zs_p H105 fun h106 g106 H106 => (zs_ai H106 fun a107 h108 g108 H108 => (zs_p H108 fun h109 g109 H109 => (zs_p H109 fun h110 g110 H110 => (zs_p H110 fun h111 g111 H111 => (zs_v H111))))))))
def me_104 (x0 : Nat) (g : zM) : Option zM := me_o g 0 fun a101 g102 => (bif me_c g102 a101 0 then (me_n (me_1 a101 (Int16.ofInt 200).toInt32 g102) fun g103 => (me_p 2 g103 x0 512 (.ref a101) fun g104 => (me_o g104 0 fun a105 g106 => (bif me_c g106 a105 0 then (me_n (me_1 a105 (Int16.ofInt 160).toInt32 g106) fun g107 => (me_p 2 g107 x0 513 (.ref a105) fun g108 => (me_o g108 4 fun a109 g110 => (bif me_c g110 a109 4 then (me_n (me_35 a109 g110) fun g111 => (me_p 2 g111 x0 514 (.ref a109) fun g112 => (me_a g112 3 (Int32.ofInt 4) fun a113 g114 => (me_p 2 g114 x0 515 (.ref a113) fun g115 => (me_o g115 6 fun a116 g117 => (bif me_c g117 a116 6 then (me_n (me_87 a116 g117) fun g118 => (me_p 2 g118 x0 516 (.ref a116) fun g119 => (me_o g119 5 fun a120 g121 => (bif me_c g121 a120 5 then (me_n (me_55 a120 g121) fun g122 => (me_p 2 g122 x0 517 (.ref a120) fun g123 => (me_o g123 5 fun a124 g125 => (bif me_c g125 a124 5 then (me_n (me_55 a124 g125) fun g126 => (me_p 2 g126 x0 518 (.ref a124) fun g127 => (me_o g127 1 fun a128 g129 => (bif me_c g129 a128 1 then (me_n (me_9 a128 g129) fun g130 => (me_p 2 g130 x0 519 (.ref a128) fun g131 => (me_o g131 2 fun a132 g133 => (bif me_c g133 a132 2 then (me_n (me_21 a132 g133) fun g134 => (me_p 2 g134 x0 520 (.ref a132) fun g135 => (me_a g135 1 (Int16.ofInt 1536).toInt32 fun a136 g137 => (me_p 2 g137 x0 521 (.ref a136) fun g138 => (me_p 0 g138 x0 522 (.int (Int32.ofInt 0)) fun g139 => (me_p 0 g139 x0 523 (.int (Int8.ofInt (-3)).toInt32) fun g140 => (some g140))))))) else none)))) else none)))) else none)))) else none)))) else none)))))) else none)))) else none)))) else none)
theorem ms_104 {x0 : Nat} (H : zKs g h) : zSim (xf_104 x0 h) (me_104 x0 g) := by
  unfold xf_104 me_104
  exact zs_o H fun a101 h102 g102 H102 => (zs_c H102 (zs_n (ms_1 H102) fun h103 g103 H103 => (zs_p H103 fun h104 g104 H104 => (zs_o H104 fun a105 h106 g106 H106 => (zs_c H106 (zs_n (ms_1 H106) fun h107 g107 H107 => (zs_p H107 fun h108 g108 H108 => (zs_o H108 fun a109 h110 g110 H110 => (zs_c H110 (zs_n (ms_35 H110) fun h111 g111 H111 => (zs_p H111 fun h112 g112 H112 => (zs_q H112 fun a113 h114 g114 H114 => (zs_p H114 fun h115 g115 H115 => (zs_o H115 fun a116 h117 g117 H117 => (zs_c H117 (zs_n (ms_87 H117) fun h118 g118 H118 => (zs_p H118 fun h119 g119 H119 => (zs_o H119 fun a120 h121 g121 H121 => (zs_c H121 (zs_n (ms_55 H121) fun h122 g122 H122 => (zs_p H122 fun h123 g123 H123 => (zs_o H123 fun a124 h125 g125 H125 => (zs_c H125 (zs_n (ms_55 H125) fun h126 g126 H126 => (zs_p H126 fun h127 g127 H127 => (zs_o H127 fun a128 h129 g129 H129 => (zs_c H129 (zs_n (ms_9 H129) fun h130 g130 H130 => (zs_p H130 fun h131 g131 H131 => (zs_o H131 fun a132 h133 g133 H133 => (zs_c H133 (zs_n (ms_21 H133) fun h134 g134 H134 => (zs_p H134 fun h135 g135 H135 => (zs_ab H135 fun a136 h137 g137 H137 => (zs_p H137 fun h138 g138 H138 => (zs_p H138 fun h139 g139 H139 => (zs_p H139 fun h140 g140 H140 => (zs_v H140))))))))))))))))))))))))))))))))))))))
end
/-! what they make is the store's heap at the start -/
def zs0 : zS := (fun f n i => if f = 523 then -3 else if f = 388 ∨ f = 259 ∨ f = 326 ∨ f = 598 then -1 else 0, 0, 0)
def zdE (d : zD) : zE := match d with
  | .inl q => .inl (q.1, q.2.1)
  | .inr q => .inr (q.1, q.2.map (zIv zs0))
def zG0 : zM := ([.inr (8, xt_df 8)], (xt_df 8).length)
def zG1 : zM := (me_104 0 zG0).getD ([], 0)
def zG2 : zM := (zG1.1 ++ [.inl (0, 21)], zG1.2 + 21)
def zG3 : zM := (zG2.1 ++ [.inl (0, 64)], zG2.2 + 64)
def zG4 : zM := (zG3.1 ++ [.inl (0, 4)], zG3.2 + 4)
theorem zG_1 : me_104 0 zG0 = some zG1 := by decide +kernel
theorem zG_1l : zG1.1.length = 41 := by decide +kernel
theorem zG_4 : zG4 = ((zDs.take 44).map zdE, 10369) := by decide +kernel
theorem zDs_f : zDs.all (fun d => match d with
  | .inl q => !(Nat.beq q.2.2.1 523 || (Nat.beq q.2.2.1 388 || (Nat.beq q.2.2.1 259 || (Nat.beq q.2.2.1 326 || Nat.beq q.2.2.1 598))))
  | .inr _ => true) = true := by decide +kernel
theorem zs0_r (f n : Nat) (i : Int) : zrng (zs0.1 f n i) := by
  show zrng (if f = 523 then -3 else if f = 388 ∨ f = 259 ∨ f = 326 ∨ f = 598 then -1 else 0)
  split
  · decide
  · split <;> decide
theorem zI_0 {d : zD} (hd : d ∈ zDs) : zEi (zdE d) = zI zs0 d := by
  have hf := List.all_eq_true.mp zDs_f d hd
  cases d with
  | inr q => rfl
  | inl q =>
    obtain ⟨ty, m, f, n⟩ := q
    have hf : (!(Nat.beq f 523 || (Nat.beq f 388 || (Nat.beq f 259 || (Nat.beq f 326 || Nat.beq f 598))))) = true := hf
    have e : ∀ i : Int, zs0.1 f n i = 0 := fun i => by
      have n1 : f ≠ 523 := fun z => by
        rw [z] at hf
        exact absurd hf (by decide)
      have n2 : ¬ (f = 388 ∨ f = 259 ∨ f = 326 ∨ f = 598) := fun z => by
        rcases z with z | z | z | z <;> (rw [z] at hf; exact absurd hf (by decide))
      show (if f = 523 then (-3 : Int) else if f = 388 ∨ f = 259 ∨ f = 326 ∨ f = 598 then -1 else 0) = 0
      rw [if_neg n1, if_neg n2]
    match ty with
    | 0 =>
      show (.inl (.int, m, .inl fun _ => 0) : xrE) = .inl (.int, m, .inl (fun i => Int32.ofInt (zs0.1 f n i)))
      simp only [e]
      rfl
    | 1 =>
      show (.inl (.boolean, m, .inl fun _ => 0) : xrE) = .inl (.boolean, m, .inl (fun i => Int32.ofInt (zs0.1 f n i)))
      simp only [e]
      rfl
    | 2 =>
      show (.inl (.long, m, .inr (.inl fun _ => 0)) : xrE) = .inl (.long, m, .inr (.inl (fun i => Int64.ofInt (zs0.1 f n i))))
      simp only [e]
      rfl
    | k + 3 =>
      show (.inl (.object RX7, m, .inr (.inr (.inr (.inr fun _ => none)))) : xrE) = .inl (.object RX7, m, .inr (.inr (.inr (.inr (fun i => zT (zs0.1 f n i))))))
      simp only [e]
      rfl
theorem zH_0 {h : xrH} (H : zKs zG4 h) : zH 0 h zs0 := by
  obtain ⟨h1, h2, h3, h4⟩ := H
  rw [zG_4] at h1 h2 h3 h4
  have l : ((zDs.take 44).map zdE).length = 44 := by decide +kernel
  refine ⟨Nat.le_refl 0, by decide, ⟨h3.trans l, h1.trans l, h2⟩, fun a d ha hd => ?_, zs0_r⟩
  have ha : a < 44 := by
    rw [h3.trans l] at ha
    exact ha
  rw [h4 a (zdE d) (by rw [List.getElem?_map, List.getElem?_take_of_lt ha, hd]; rfl)]
  exact zI_0 (List.mem_of_getElem? hd)
def ent_c (L : Nat) (xs : Nat → Int32) (a101 : Nat) (h103 : xrH) : xrR := xn_a h103 .int (Int8.ofInt 21).toInt32 fun a104 h105 => xn_a h105 .int (Int8.ofInt 64).toInt32 fun a106 h107 => xn_a h107 .int (Int32.ofInt 4) fun a108 h109 => xf_0_23 L xs a101 a104 a106 a108 h109
theorem ent_0 (L : Nat) (xs : Nat → Int32) : ∃ h, xf_0 L xs xt_h0 = xf_0_23 L xs (za_8 0) (zy_576 0) (zy_577 0) (zy_578 0) h ∧ zH 0 h zs0 := by
  have k0 : zKs zG0 (xr_new xt_h0 (xt_df 8).length (.inr (8, xt_df 8))) := by
    have k : zKs ([], 0) xt_h0 := ⟨rfl, rfl, rfl, fun a e he => by simp at he⟩
    have k' := k.new (e := .inr (8, xt_df 8)) (xt_df 8).length
    rw [Nat.zero_add] at k'
    exact k'
  obtain ⟨h1, a1, k1⟩ := ms_104 (x0 := 0) k0 _ zG_1
  have e1 : h1.2.2.1 = 41 := k1.2.2.1.trans zG_1l
  have k2 : zKs zG2 (xr_new h1 21 (.inl (.int, 21, .inl fun _ => 0))) := k1.new (e := .inl (0, 21)) 21
  have k3 : zKs zG3 (xr_new (xr_new h1 21 (.inl (.int, 21, .inl fun _ => 0))) 64 (.inl (.int, 64, .inl fun _ => 0))) := k2.new (e := .inl (0, 64)) 64
  have k4 : zKs zG4 (xr_new (xr_new (xr_new h1 21 (.inl (.int, 21, .inl fun _ => 0))) 64 (.inl (.int, 64, .inl fun _ => 0))) 4 (.inl (.int, 4, .inl fun _ => 0))) := k3.new (e := .inl (0, 4)) 4
  have c1 : xo_c (xr_new xt_h0 (xt_df 8).length (.inr (8, xt_df 8))) 0 8 = true := rfl
  refine ⟨_, ?_, zH_0 k4⟩
  have s1 : xf_0 L xs xt_h0 = (bif xo_c (xr_new xt_h0 (xt_df 8).length (.inr (8, xt_df 8))) 0 8 then xc_n (xf_104 0 (xr_new xt_h0 (xt_df 8).length (.inr (8, xt_df 8)))) (fun h103 => ent_c L xs 0 h103) else none) := rfl
  rw [s1, c1, a1]
  show ent_c L xs 0 h1 = _
  have s2 : ent_c L xs 0 h1 = xf_0_23 L xs 0 h1.2.2.1 (h1.2.2.1 + 1) (h1.2.2.1 + 1 + 1) (xr_new (xr_new (xr_new h1 21 (.inl (.int, 21, .inl fun _ => 0))) 64 (.inl (.int, 64, .inl fun _ => 0))) 4 (.inl (.int, 4, .inl fun _ => 0))) := by
    unfold ent_c xn_a
    rw [if_neg (by decide)]
    show (if _ then _ else _) = _
    rw [if_neg (by decide)]
    show (if _ then _ else _) = _
    rw [if_neg (by decide)]
    rfl
  rw [s2, e1]
  rfl
end
