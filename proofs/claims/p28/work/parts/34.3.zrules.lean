/-! RULES: zq k A F Z: whatever Z has as a result, F has (k: 0 an int, 1 nothing, 2 a template). -/
def zV (k : Nat) (r : Int ⊕ Nat) (o : xrO) : Prop := match r with
  | .inl v => zrng v ∧ o = (match k with
    | 0 => .inl (some (.int (Int32.ofInt v)))
    | 1 => .inl none
    | _ => .inl (some (xr_rf (zT v))))
  | .inr e => o = .inr e
def zq (k A : Nat) (F : xrR) (Z : zR) : Prop := ∀ r s', Z = some (r, s') → ∃ o h', F = some (o, h') ∧ zV k r o ∧ zH A h' s'
section
variable {k A : Nat} {h : xrH} {s : zS} {F F1 F2 : xrR} {Z Z1 Z2 : zR} {X Y C : Int32} {x y c : Int}
theorem zq_none : zq k A F none := fun _ _ e => by cases e
theorem zH.mono {A B : Nat} (H : zH B h s) (hA : A ≤ B) : zH A h s := ⟨Nat.le_trans hA H.1, H.2⟩
theorem zH.top (H : zH A h s) : zH s.2.1 h s := ⟨Nat.le_refl _, H.2⟩
theorem zq_mono {B : Nat} (hA : A ≤ B) (q : zq k B F Z) : zq k A F Z := by
  intro r s' e
  obtain ⟨o, h', h1, h2, h3⟩ := q r s' e
  exact ⟨o, h', h1, h2, h3.mono hA⟩
theorem zq_b {α : Type} {X : Option α} {v : α} {G : α → xrR} (e : X = some v) (q : zq k A (G v) Z) : zq k A (Option.bind X G) Z := by
  rw [e]
  exact q
theorem zq_c {c : Bool} (e : c = true) (q : zq k A F Z) : zq k A (bif c then F else none) Z := by
  rw [e]
  exact q
theorem zq_g {v : Int} (q : zrng v → zq k A F Z) : zq k A F (zg v Z) := by
  unfold zg
  split
  · rename_i hv
    exact q hv
  · exact zq_none
theorem zq_ifn {p : Prop} [Decidable p] (q : p → zq k A F Z) : zq k A F (if p then Z else none) := by
  split
  · rename_i hv
    exact q hv
  · exact zq_none
theorem zq_a {ty : FieldType} {a m f n : Nat} {I : Int32} {i : Int} {G : Int32 → xrR} (e : xr_M h a = .inl (ty, m, .inl fun j : Nat => Int32.ofInt (s.1 f n j))) (hi : zx I i) (q : zq k A (G (Int32.ofInt (s.1 f n i))) Z) : zq k A (Option.bind (xo_a ty h a I) G) (zn i m Z) := by
  refine zq_ifn fun hl => ?_
  refine zq_b ?_ q
  unfold xo_a
  rw [e]
  dsimp only
  rw [if_pos rfl, if_neg (zn_in hi hl), zx_toNat hi hl.1, Int.toNat_of_nonneg hl.1]
theorem zq_l {a m f n : Nat} {I : Int32} {i : Int} {G : Int64 → xrR} (e : xr_M h a = .inl (.long, m, .inr (.inl fun j : Nat => Int64.ofInt (s.1 f n j)))) (hi : zx I i) (q : zq k A (G (Int64.ofInt (s.1 f n i))) Z) : zq k A (Option.bind (xo_l h a I) G) (zn i m Z) := by
  refine zq_ifn fun hl => ?_
  refine zq_b ?_ q
  unfold xo_l
  rw [e]
  dsimp only
  rw [if_neg (zn_in hi hl), zx_toNat hi hl.1, Int.toNat_of_nonneg hl.1]
theorem zq_q {t : String} {a m f n : Nat} {I : Int32} {i : Int} {G : Option Nat → xrR} (e : xr_M h a = .inl (.object t, m, .inr (.inr (.inr (.inr fun j : Nat => zT (s.1 f n j)))))) (hi : zx I i) (q : zq k A (G (zT (s.1 f n i))) Z) : zq k A (Option.bind (xo_q h a I) G) (zn i m Z) := by
  refine zq_ifn fun hl => ?_
  refine zq_b ?_ q
  unfold xo_q
  rw [e]
  dsimp only
  rw [if_neg (zn_in hi hl), zx_toNat hi hl.1, Int.toNat_of_nonneg hl.1]
theorem zq_x {L : Nat} {xs : Nat → Int32} {I : Int32} {i : Int} {G : Int32 → xrR} (hi : zx I i) (q : zq k A (G (xs i.toNat)) Z) : zq k A (Option.bind (xo_x L xs I) G) (zn i L Z) := by
  refine zq_ifn fun hl => ?_
  refine zq_b ?_ q
  unfold xo_x
  rw [if_neg (zn_in hi hl), zx_toNat hi hl.1]
theorem zq_P {X : Option xrH} {G : xrH → xrR} {f n : Nat} {i v : Int} {K : zS → zR} (e : ∃ h1, X = some h1 ∧ zH A h1 (zp f n i v s)) (q : ∀ h1 s1, zH A h1 s1 → zq k A (G h1) (K s1)) : zq k A (Option.bind X G) (zP f n i v s K) := by
  obtain ⟨h1, e1, H1⟩ := e
  exact zq_b e1 (q _ _ H1)
theorem zq_Pz {X : Option xrH} {G : xrH → xrR} {f n : Nat} {v : Int} {K : zS → zR} (e : v = 0 ∨ v = 1 → ∃ h1, X = some h1 ∧ zH A h1 (zp f n 0 v s)) (q : ∀ h1 s1, zH A h1 s1 → zq k A (G h1) (K s1)) : zq k A (Option.bind X G) (zPz f n v s K) := by
  refine zq_ifn fun hl => ?_
  obtain ⟨h1, e1, H1⟩ := e hl
  exact zq_b e1 (q _ _ H1)
theorem zq_W {X : Option xrH} {G : xrH → xrR} {f n m : Nat} {i v : Int} {K : zS → zR} (e : 0 ≤ i ∧ i < m → ∃ h1, X = some h1 ∧ zH A h1 (zp f n i v s)) (q : ∀ h1 s1, zH A h1 s1 → zq k A (G h1) (K s1)) : zq k A (Option.bind X G) (zW f n m i v s K) := by
  refine zq_ifn fun hl => ?_
  obtain ⟨h1, e1, H1⟩ := e hl
  exact zq_b e1 (q _ _ H1)
theorem zq_Wz {X : Option xrH} {G : xrH → xrR} {f n m : Nat} {i v : Int} {K : zS → zR} (e : 0 ≤ i ∧ i < m → v = 0 ∨ v = 1 → ∃ h1, X = some h1 ∧ zH A h1 (zp f n i v s)) (q : ∀ h1 s1, zH A h1 s1 → zq k A (G h1) (K s1)) : zq k A (Option.bind X G) (zWz f n m i v s K) := by
  refine zq_ifn fun hl => ?_
  obtain ⟨h1, e1, H1⟩ := e hl.1 hl.2
  exact zq_b e1 (q _ _ H1)
theorem zq_O {O : Option Nat} {G : Nat → xrR} {K : Nat → zR} (H : zH A h s) (ho : zo O c) (q : ∀ q, q < s.2.1 → A ≤ s.2.1 → zH s.2.1 h s → zq k s.2.1 (G (za_7 q)) (K q)) : zq k A (Option.bind O G) (zO c s K) := by
  refine zq_ifn fun hc => ?_
  refine zq_mono H.1 ?_
  rw [ho.1]
  unfold zT
  rw [if_neg (by omega)]
  exact q _ (by omega) H.1 H.top
theorem zq_If {O : Option Nat} {G : Nat → xrR} {K : Nat → zR} (H : zH A h s) (ho : zo O c) (qa : zq k A F1 Z1) (q : ∀ q, q < s.2.1 → A ≤ s.2.1 → zH s.2.1 h s → zq k s.2.1 (G (za_7 q)) (K q)) : zq k A (xif O F1 G) (zIf c s Z1 K) := by
  unfold zIf
  split
  · rename_i hc
    rw [ho.1, hc]
    exact qa
  · rename_i hc
    refine zq_ifn fun hc => ?_
    refine zq_mono H.1 ?_
    rw [ho.1]
    unfold zT
    rw [if_neg (by omega)]
    exact q _ (by omega) H.1 H.top
theorem zq_B {X : Option Nat} {G : Nat → xrR} {K : Nat → zR} (e : 1 ≤ c ∧ c ≤ 3 → X = some (za_0 (c.toNat - 1))) (q : ∀ b, b < 3 → zq k A (G (za_0 b)) (K b)) : zq k A (Option.bind X G) (zB c K) := by
  refine zq_ifn fun hc => ?_
  exact zq_b (e hc) (q _ (by omega))
theorem zx_toInt (hx : zx X x) : X.toInt = x := by
  rw [hx.1]
  exact Int32.toInt_ofInt_of_le (by have := hx.2; omega) (by have := hx.2; omega)
theorem zx_eq (hx : zx X x) (hy : zx Y y) : X = Y ↔ x = y := by
  rw [← Int32.toInt_inj, zx_toInt hx, zx_toInt hy]
theorem zx_lt (hx : zx X x) (hy : zx Y y) : X < Y ↔ x < y := by
  rw [Int32.lt_iff_toInt_lt, zx_toInt hx, zx_toInt hy]
theorem zx_le (hx : zx X x) (hy : zx Y y) : X ≤ Y ↔ x ≤ y := by
  rw [Int32.le_iff_toInt_le, zx_toInt hx, zx_toInt hy]
theorem zq_eq (hx : zx X x) (hy : zx Y y) (qa : zq k A F1 Z1) (qb : zq k A F2 Z2) : zq k A (xr_br .eq X Y F1 F2) (if x = y then Z1 else Z2) := by
  show zq k A (if X = Y then F1 else F2) _
  simp only [zx_eq hx hy]
  split <;> assumption
theorem zq_ne (hx : zx X x) (hy : zx Y y) (qa : zq k A F1 Z1) (qb : zq k A F2 Z2) : zq k A (xr_br .ne X Y F1 F2) (if x = y then Z2 else Z1) := by
  show zq k A (if X = Y then F2 else F1) _
  simp only [zx_eq hx hy]
  split <;> assumption
theorem zq_lt (hx : zx X x) (hy : zx Y y) (qa : zq k A F1 Z1) (qb : zq k A F2 Z2) : zq k A (xr_br .lt X Y F1 F2) (if x < y then Z1 else Z2) := by
  show zq k A (if X < Y then F1 else F2) _
  simp only [zx_lt hx hy]
  split <;> assumption
theorem zq_ge (hx : zx X x) (hy : zx Y y) (qa : zq k A F1 Z1) (qb : zq k A F2 Z2) : zq k A (xr_br .ge X Y F1 F2) (if y ≤ x then Z1 else Z2) := by
  show zq k A (if Y ≤ X then F1 else F2) _
  simp only [zx_le hy hx]
  split <;> assumption
theorem zq_gt (hx : zx X x) (hy : zx Y y) (qa : zq k A F1 Z1) (qb : zq k A F2 Z2) : zq k A (xr_br .gt X Y F1 F2) (if y < x then Z1 else Z2) := by
  show zq k A (if Y < X then F1 else F2) _
  simp only [zx_lt hy hx]
  split <;> assumption
theorem zq_le (hx : zx X x) (hy : zx Y y) (qa : zq k A F1 Z1) (qb : zq k A F2 Z2) : zq k A (xr_br .le X Y F1 F2) (if x ≤ y then Z1 else Z2) := by
  show zq k A (if X ≤ Y then F1 else F2) _
  simp only [zx_le hx hy]
  split <;> assumption
theorem zq_sw {t : List (Int32 × xrR)} {D : xrR} (hx : zx X x) (hc : zx C c) (q1 : zq k A F1 Z1) (q2 : zq k A (xsw X t D) Z2) : zq k A (xsw X ((C, F1) :: t) D) (if x = c then Z1 else Z2) := by
  show zq k A (if X = C then F1 else xsw X t D) _
  simp only [zx_eq hx hc]
  split <;> assumption
theorem zq_i (H : zH A h s) (hx : zx X x) : zq 0 A (xi X h) (zi x s) := by
  intro r s' e
  cases e
  exact ⟨_, h, rfl, ⟨hx.2, by rw [hx.1]; rfl⟩, H⟩
theorem zq_z (H : zH A h s) (hx : zx X x) : zq 0 A (xz X h) (zz x s) := by
  refine zq_ifn fun hb => ?_
  intro r s' e
  cases e
  refine ⟨.inl (some (.int X)), h, ?_, ⟨hx.2, by rw [hx.1]; rfl⟩, H⟩
  obtain ⟨rfl, _⟩ := hx
  rcases hb with rfl | rfl <;> rfl
theorem zq_v (H : zH A h s) : zq 1 A (xv h) (zi 0 s) := by
  intro r s' e
  cases e
  exact ⟨_, h, rfl, ⟨by decide, rfl⟩, H⟩
theorem zq_o {O : Option Nat} (H : zH A h s) (ho : zo O c) : zq 2 A (xo O h) (zi c s) := by
  intro r s' e
  cases e
  exact ⟨_, h, rfl, ⟨ho.2, by rw [ho.1]; rfl⟩, H⟩
theorem zq_t {e : Nat} (H : zH A h s) : zq k A (xt e h) (zt e s) := by
  intro r s' e
  cases e
  refine ⟨_, _, rfl, rfl, ?_⟩
  obtain ⟨h1, h2, ⟨h3, h4, h5⟩, h6, h7⟩ := H
  refine ⟨h1, h2, ⟨h3, ?_, ?_⟩, h6, h7⟩
  · show h.1 + 1 = _
    rw [h4]
    rfl
  · show h.2.1 + 6 = _
    rw [h5]
    show _ = 10369 + 909 * s.2.1 + 6 * (s.2.2 + 1)
    omega
theorem zq_ex {e : Nat} (H : zH A h s) : zq k A (some (.inr e, h)) (some (.inr e, s)) := by
  intro r s' e
  cases e
  exact ⟨_, _, rfl, rfl, H⟩
theorem zq_c_i {G : Int32 → xrH → xrR} {K : Int → zS → zR} (q0 : zq 0 A F1 Z1) (q : ∀ v h1 s1, zrng v → zH A h1 s1 → zq k A (G (Int32.ofInt v) h1) (K v s1)) : zq k A (xc_i F1 G) (zC Z1 K) := by
  intro r s' e
  unfold zC at e
  split at e
  · rename_i v s1
    obtain ⟨o, h', rfl, ⟨hv, rfl⟩, H1⟩ := q0 _ _ rfl
    exact q v h' s1 hv H1 r s' e
  · rename_i e1 s1
    cases e
    obtain ⟨o, h', rfl, h2, H1⟩ := q0 _ _ rfl
    have h2 : o = .inr e1 := h2
    subst h2
    exact ⟨_, _, rfl, rfl, H1⟩
  · cases e
theorem zq_c_v {G : xrH → xrR} {K : Int → zS → zR} (q0 : zq 1 A F1 Z1) (q : ∀ v h1 s1, zrng v → zH A h1 s1 → zq k A (G h1) (K v s1)) : zq k A (xc_v F1 G) (zC Z1 K) := by
  intro r s' e
  unfold zC at e
  split at e
  · rename_i v s1
    obtain ⟨o, h', rfl, ⟨hv, rfl⟩, H1⟩ := q0 _ _ rfl
    exact q v h' s1 hv H1 r s' e
  · rename_i e1 s1
    cases e
    obtain ⟨o, h', rfl, h2, H1⟩ := q0 _ _ rfl
    have h2 : o = .inr e1 := h2
    subst h2
    exact ⟨_, _, rfl, rfl, H1⟩
  · cases e
theorem zq_c_o {G : Option Nat → xrH → xrR} {K : Int → zS → zR} (q0 : zq 2 A F1 Z1) (q : ∀ v h1 s1, zrng v → zH A h1 s1 → zq k A (G (zT v) h1) (K v s1)) : zq k A (xc_o F1 G) (zC Z1 K) := by
  intro r s' e
  unfold zC at e
  split at e
  · rename_i v s1
    obtain ⟨o, h', rfl, ⟨hv, rfl⟩, H1⟩ := q0 _ _ rfl
    have q1 := q v h' s1 hv H1 r s' e
    cases hz : zT v <;> rw [hz] at q1 <;> exact q1
  · rename_i e1 s1
    cases e
    obtain ⟨o, h', rfl, h2, H1⟩ := q0 _ _ rfl
    have h2 : o = .inr e1 := h2
    subst h2
    exact ⟨_, _, rfl, rfl, H1⟩
  · cases e
theorem zq_ch {G : Int32 → xrH → xrR} {E : Nat → xrH → xrR} {K : Int → zS → zR} {EZ : Nat → zS → zR} (q0 : zq 0 A F1 Z1) (q : ∀ v h1 s1, zrng v → zH A h1 s1 → zq k A (G (Int32.ofInt v) h1) (K v s1)) (qe : ∀ e h1 s1, zH A h1 s1 → zq k A (E e h1) (EZ e s1)) : zq k A (xc_ih F1 G E) (zCh Z1 K EZ) := by
  intro r s' e
  unfold zCh at e
  split at e
  · rename_i v s1
    obtain ⟨o, h', rfl, ⟨hv, rfl⟩, H1⟩ := q0 _ _ rfl
    exact q v h' s1 hv H1 r s' e
  · rename_i e1 s1
    obtain ⟨o, h', rfl, h2, H1⟩ := q0 _ _ rfl
    have h2 : o = .inr e1 := h2
    subst h2
    exact qe e1 h' s1 H1 r s' e
  · cases e
theorem zq_cl {G : Int64 → xrH → xrR} {v : Int64} (e : F1 = some (.inl (some (.long v)), h)) (q : zq k A (G v h) Z) : zq k A (xc_l F1 G) Z := by
  rw [e]
  exact q
theorem xf_23_eq {x y : Int64} : xf_23 x y h = some (.inl (some (.long (zmax64 x y))), h) := by
  unfold xf_23 zmax64 xr_br xl
  dsimp only
  split <;> rfl
theorem xf_25_eq {x y : Int64} : xf_25 x y h = some (.inl (some (.long (zmin64 x y))), h) := by
  unfold xf_25 zmin64 xr_br xl
  dsimp only
  show (if 0 < lg_cmp x y then _ else _) = some (Sum.inl (some (Value.long (if 0 < lg_cmp x y then y else x))), h)
  split <;> rfl
theorem zmax64_y {X X' Y Y' : Int64} (hx : X = X') (hy : Y = Y') : zmax64 X Y = zmax64 X' Y' := by rw [hx, hy]
theorem zmin64_y {X X' Y Y' : Int64} (hx : X = X') (hy : Y = Y') : zmin64 X Y = zmin64 X' Y' := by rw [hx, hy]
theorem zn_eq {ty : FieldType} {a : Nat} {q : vp_A} (e : xr_M h a = .inl (ty, q)) : xo_n h a = some (Int32.ofNat q.1) := by
  unfold xo_n
  rw [e]
theorem zd_eq {Y v : Int32} (hy : Y ≠ 0) : xo_d Y v = some v := by
  unfold xo_d
  rw [if_neg hy]
theorem zq_dv {G : Int32 → xrR} {v : Int32} (hy : zx Y y) (q : zq k A (G v) Z) : zq k A (Option.bind (xo_d Y v) G) (if y = 0 then none else Z) := by
  split
  · exact zq_none
  · rename_i h
    refine zq_b (zd_eq fun e => h ?_) q
    have hz : zx (0 : Int32) 0 := ⟨by decide, by decide⟩
    exact (zx_eq hy hz).mp e
theorem zx_nk {m : Nat} {c : Int} (e : Int32.ofNat m = Int32.ofInt c) (r : zrng c) : zx (Int32.ofNat m) c := ⟨e, r⟩
theorem zx_nB {n : Nat} : zx (Int32.ofNat (zlB n)) ((zlB n : Nat) : Int) := by
  unfold zlB
  split <;> exact ⟨by decide, by decide⟩
theorem zx_L {L : Nat} (hL : L ≤ 2147483647) : zx (Int32.ofNat L) (L : Int) := ⟨Int32.ofInt_eq_ofNat.symm, by omega, by omega⟩
theorem zx_s (H : zH A h s) (f n : Nat) (i : Int) : zx (Int32.ofInt (s.1 f n i)) (s.1 f n i) := ⟨rfl, H.rng f n i⟩
theorem zo_s (H : zH A h s) (f n : Nat) (i : Int) : zo (zT (s.1 f n i)) (s.1 f n i) := ⟨rfl, H.rng f n i⟩
theorem zx_r {v : Int} (hv : zrng v) : zx (Int32.ofInt v) v := ⟨rfl, hv⟩
theorem zo_r {v : Int} (hv : zrng v) : zo (zT v) v := ⟨rfl, hv⟩
theorem zo_0 : zo none 0 := ⟨rfl, by decide⟩
theorem zo_q {q : Nat} (hq : q < 4) : zo (some (za_7 q)) ((q : Int) + 1) := by
  refine ⟨?_, by omega, by omega⟩
  have e : ((q : Int) + 1).toNat - 1 = q := by omega
  unfold zT
  rw [if_neg (by omega), e]
theorem zx_32 (v : Int32) : zx v v.toInt := ⟨(Int32.ofInt_toInt v).symm, by have := v.le_toInt; omega, by have := v.toInt_lt; omega⟩
theorem zx_t {v : Int32} : zx v v.toInt := zx_32 v
theorem zadd_x (hx : zx X x) (hy : zx Y y) (g : zrng (x + y)) : zx (X + Y) (x + y) := ⟨by rw [hx.1, hy.1, Int32.ofInt_add], g⟩
theorem zsub_x (hx : zx X x) (hy : zx Y y) (g : zrng (x - y)) : zx (X - Y) (x - y) := ⟨by rw [hx.1, hy.1, Int32.ofInt_sub], g⟩
theorem zmul_x (hx : zx X x) (hy : zx Y y) (g : zrng (x * y)) : zx (X * Y) (x * y) := ⟨by rw [hx.1, hy.1, Int32.ofInt_mul], g⟩
theorem zneg_x (hx : zx X x) (g : zrng (-x)) : zx (-X) (-x) := ⟨by rw [hx.1, Int32.ofInt_neg], g⟩
theorem zand_x (hx : zx X x) (hy : zx Y y) : zx (X &&& Y) (zand x y) := by
  rw [hx.1, hy.1]
  exact zx_32 _
theorem zor_x (hx : zx X x) (hy : zx Y y) : zx (X ||| Y) (zor x y) := by
  rw [hx.1, hy.1]
  exact zx_32 _
theorem zxor_x (hx : zx X x) (hy : zx Y y) : zx (X ^^^ Y) (zxor x y) := by
  rw [hx.1, hy.1]
  exact zx_32 _
theorem zshl_x (hx : zx X x) (hy : zx Y y) : zx (X <<< (Y &&& 31)) (zshl x y) := by
  rw [hx.1, hy.1]
  exact zx_32 _
theorem zshr_x (hx : zx X x) (hy : zx Y y) : zx (X >>> (Y &&& 31)) (zshr x y) := by
  rw [hx.1, hy.1]
  exact zx_32 _
theorem zdiv_x (hx : zx X x) (hy : zx Y y) : zx (X / Y) (zdiv x y) := by
  rw [hx.1, hy.1]
  exact zx_32 _
theorem zrem_x (hx : zx X x) (hy : zx Y y) : zx (X - X / Y * Y) (zrem x y) := by
  rw [hx.1, hy.1]
  exact zx_32 _
theorem zx_l2i {X X' : Int64} (e : X = X') : zx X.toInt32 X'.toInt32.toInt := by
  rw [e]
  exact zx_32 _
theorem zx_cmp {X X' Y Y' : Int64} (e : X = X') (e2 : Y = Y') : zx (lg_cmp X Y) (lg_cmp X' Y').toInt := by
  rw [e, e2]
  exact zx_32 _
theorem ly_i (hx : zx X x) : X.toInt64 = (Int32.ofInt x).toInt64 := by rw [hx.1]
theorem ly_add {X X' Y Y' : Int64} (e : X = X') (e2 : Y = Y') : X + Y = X' + Y' := by rw [e, e2]
theorem ly_sub {X X' Y Y' : Int64} (e : X = X') (e2 : Y = Y') : X - Y = X' - Y' := by rw [e, e2]
theorem ly_mul {X X' Y Y' : Int64} (e : X = X') (e2 : Y = Y') : X * Y = X' * Y' := by rw [e, e2]
theorem ly_and {X X' Y Y' : Int64} (e : X = X') (e2 : Y = Y') : X &&& Y = X' &&& Y' := by rw [e, e2]
theorem ly_or {X X' Y Y' : Int64} (e : X = X') (e2 : Y = Y') : X ||| Y = X' ||| Y' := by rw [e, e2]
theorem ly_xor {X X' Y Y' : Int64} (e : X = X') (e2 : Y = Y') : X ^^^ Y = X' ^^^ Y' := by rw [e, e2]
theorem ly_shl {X X' : Int64} (e : X = X') (hy : zx Y y) : X <<< (Y.toInt64 &&& 63) = X' <<< ((Int32.ofInt y).toInt64 &&& 63) := by rw [e, hy.1]
theorem ly_shr {X X' : Int64} (e : X = X') (hy : zx Y y) : X >>> (Y.toInt64 &&& 63) = X' >>> ((Int32.ofInt y).toInt64 &&& 63) := by rw [e, hy.1]
theorem ly_ushr {X X' : Int64} (e : X = X') (hy : zx Y y) : (X.toUInt64 >>> (Y.toInt64.toUInt64 &&& Int64.toUInt64 63)).toInt64 = (X'.toUInt64 >>> ((Int32.ofInt y).toInt64.toUInt64 &&& Int64.toUInt64 63)).toInt64 := by rw [e, hy.1]
end
