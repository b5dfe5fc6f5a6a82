/-! WHAT THE RUNNER'S VALUES AND HEAPS ARE IN THE MACHINE: a place is the number of an object, ads tells its address; retAddr 0 stands for any reference, retAddr (k + 1) for the script's. -/
def xr_V (ads : List Nat) (b : Nat) : Value → Value → Prop
  | .ref a, .ref q => ads[a]? = some q
  | .retAddr 0, .ref _ => True
  | .retAddr (_ + 1), .ref q => q = b
  | .int x, .int y => x = y
  | .long x, .long y => x = y
  | .null, .null => True
  | _, _ => False
def xr_Vs (ads : List Nat) (b : Nat) : List Value → List Value → Prop
  | [], [] => True
  | v :: r, v' :: r' => xr_V ads b v v' ∧ xr_Vs ads b r r'
  | _, _ => False
def xr_Ls (ads : List Nat) (b : Nat) : xrL → xrL → Prop
  | [], [] => True
  | v :: r, v' :: r' => v'.1 = v.1 ∧ xr_V ads b v.2 v'.2 ∧ xr_Ls ads b r r'
  | _, _ => False
/-- one list of addresses goes on with another one -/
def xr_le (a1 a2 : List Nat) : Prop := ∀ (a q : Nat), a1[a]? = some q → a2[a]? = some q
theorem xr_le.rf (a : List Nat) : xr_le a a := fun _ _ h => h
theorem xr_le.tr {a1 a2 a3 : List Nat} (h : xr_le a1 a2) (h2 : xr_le a2 a3) : xr_le a1 a3 := fun a q g => h2 a q (h a q g)
theorem xr_le.app (a1 a2 : List Nat) : xr_le a1 (a1 ++ a2) := fun a q h => by
  rw [List.getElem?_append_left (List.getElem?_eq_some_iff.mp h).1]; exact h
theorem xr_V.mono {a1 a2 : List Nat} {b : Nat} (h : xr_le a1 a2) : ∀ {v v' : Value}, xr_V a1 b v v' → xr_V a2 b v v' := by
  intro v v' g
  unfold xr_V at g ⊢
  split at g <;> first | exact h _ _ g | exact g | trivial
theorem xr_Vs.mono {a1 a2 : List Nat} {b : Nat} (h : xr_le a1 a2) : ∀ {v v' : List Value}, xr_Vs a1 b v v' → xr_Vs a2 b v v'
  | [], [], _ => trivial
  | _ :: _, _ :: _, g => ⟨g.1.mono h, xr_Vs.mono h g.2⟩
  | [], _ :: _, g => g
  | _ :: _, [], g => g
theorem xr_Ls.mono {a1 a2 : List Nat} {b : Nat} (h : xr_le a1 a2) : ∀ {v v' : xrL}, xr_Ls a1 b v v' → xr_Ls a2 b v v'
  | [], [], _ => trivial
  | _ :: _, _ :: _, g => ⟨g.1, g.2.1.mono h, xr_Ls.mono h g.2.2⟩
  | [], _ :: _, g => g
  | _ :: _, [], g => g
theorem xr_V.cat {ads : List Nat} {b : Nat} {v v' : Value} (g : xr_V ads b v v') : v'.category = v.category := by
  unfold xr_V at g
  split at g <;> first | rfl | exact g.elim
theorem xr_V.int {ads : List Nat} {b : Nat} {x : Int32} {v : Value} (g : xr_V ads b (.int x) v) : v = .int x := by
  cases v <;> first | (have g' : x = _ := g; rw [g']) | exact g.elim
theorem xr_V.long {ads : List Nat} {b : Nat} {x : Int64} {v : Value} (g : xr_V ads b (.long x) v) : v = .long x := by
  cases v <;> first | (have g' : x = _ := g; rw [g']) | exact g.elim
theorem xr_V.null {ads : List Nat} {b : Nat} {v : Value} (g : xr_V ads b .null v) : v = .null := by
  cases v <;> first | rfl | exact g.elim
theorem xr_V.ref {ads : List Nat} {b a : Nat} {v : Value} (g : xr_V ads b (.ref a) v) : ∃ q, v = .ref q ∧ ads[a]? = some q := by
  cases v <;> first | exact ⟨_, rfl, g⟩ | exact g.elim
theorem xr_V.ret {ads : List Nat} {b a : Nat} {v : Value} (g : xr_V ads b (.retAddr a) v) : ∃ q, v = .ref q := by
  cases a <;> cases v <;> first | exact ⟨_, rfl⟩ | exact g.elim
theorem xr_V.ret1 {ads : List Nat} {b a : Nat} {v : Value} (g : xr_V ads b (.retAddr (a + 1)) v) : v = .ref b := by
  cases v <;> first | (have g' : _ = b := g; rw [g']) | exact g.elim
theorem xr_V.rf {ads : List Nat} {b a q : Nat} (h : ads[a]? = some q) : xr_V ads b (.ref a) (.ref q) := h
theorem xr_Vs.cons {ads : List Nat} {b : Nat} {v : Value} {r s : List Value} (g : xr_Vs ads b (v :: r) s) : ∃ v' r', s = v' :: r' ∧ xr_V ads b v v' ∧ xr_Vs ads b r r' := by
  cases s with
  | nil => exact g.elim
  | cons v' r' => exact ⟨v', r', rfl, g.1, g.2⟩
theorem xr_Vs.nil {ads : List Nat} {b : Nat} {s : List Value} (g : xr_Vs ads b [] s) : s = [] := by
  cases s with
  | nil => rfl
  | cons v' r' => exact g.elim
theorem xr_Vs.len {ads : List Nat} {b : Nat} : ∀ {r s : List Value}, xr_Vs ads b r s → s.length = r.length
  | [], [], _ => rfl
  | _ :: _, _ :: _, g => by simp [xr_Vs.len g.2]
  | [], _ :: _, g => g.elim
  | _ :: _, [], g => g.elim
theorem xr_Vs.catsum {ads : List Nat} {b : Nat} : ∀ {r s : List Value}, xr_Vs ads b r s → (s.map fun v => v.category).sum = xr_cat r
  | [], [], _ => rfl
  | _ :: _, _ :: _, g => by simp [xr_cat, xr_Vs.catsum g.2, g.1.cat]
  | [], _ :: _, g => g.elim
  | _ :: _, [], g => g.elim
theorem xr_Vs.get {ads : List Nat} {b : Nat} : ∀ {r s : List Value}, xr_Vs ads b r s → ∀ (k : Nat) (v : Value), r[k]? = some v → ∃ v', s[k]? = some v' ∧ xr_V ads b v v'
  | [], [], _, k, v, h => by simp at h
  | _ :: _, v' :: _, g, 0, v, h => by
    simp at h
    subst h
    exact ⟨v', by simp, g.1⟩
  | _ :: _, _ :: _, g, k + 1, v, h => by
    simp at h
    obtain ⟨v', h1, h2⟩ := xr_Vs.get g.2 k v h
    exact ⟨v', by simpa using h1, h2⟩
  | [], _ :: _, g, _, _, _ => g.elim
  | _ :: _, [], g, _, _, _ => g.elim
theorem xr_Vs.set {ads : List Nat} {b : Nat} {v v' : Value} (hv : xr_V ads b v v') : ∀ {r s : List Value}, xr_Vs ads b r s → ∀ (k : Nat), xr_Vs ads b (r.set k v) (s.set k v')
  | [], [], _, _ => trivial
  | _ :: _, _ :: _, g, 0 => ⟨hv, g.2⟩
  | _ :: _, _ :: _, g, k + 1 => ⟨g.1, xr_Vs.set hv g.2 k⟩
  | [], _ :: _, g, _ => g.elim
  | _ :: _, [], g, _ => g.elim
theorem xr_Vs.app {ads : List Nat} {b : Nat} : ∀ {r s r2 s2 : List Value}, xr_Vs ads b r s → xr_Vs ads b r2 s2 → xr_Vs ads b (r ++ r2) (s ++ s2)
  | [], [], _, _, _, h => h
  | _ :: _, _ :: _, _, _, g, h => ⟨g.1, xr_Vs.app g.2 h⟩
  | [], _ :: _, _, _, g, _ => g.elim
  | _ :: _, [], _, _, g, _ => g.elim
theorem xr_Vs.cutd {ads : List Nat} {b : Nat} : ∀ (n : Nat) {acc acc' st st' as r : List Value}, xr_cut n acc st = some (as, r) → xr_Vs ads b acc acc' → xr_Vs ads b st st' →
    ∃ as' r', xr_Vs ads b as as' ∧ xr_Vs ads b r r' ∧ as'.reverse ++ r' = acc'.reverse ++ st' ∧ as'.length = n + acc'.length
  | 0, acc, acc', st, st', as, r, h, ha, hs => by
    simp [xr_cut] at h
    obtain ⟨rfl, rfl⟩ := h
    exact ⟨acc', st', ha, hs, rfl, by omega⟩
  | n + 1, acc, acc', [], st', as, r, h, ha, hs => by simp [xr_cut] at h
  | n + 1, acc, acc', v :: st, st', as, r, h, ha, hs => by
    obtain ⟨v', r1, rfl, hv, hr⟩ := hs.cons
    have h' : xr_cut n (v :: acc) st = some (as, r) := h
    obtain ⟨as', r', h1, h2, h3, h4⟩ := xr_Vs.cutd n (acc' := v' :: acc') h' ⟨hv, ha⟩ hr
    exact ⟨as', r', h1, h2, by rw [h3]; simp, by rw [h4]; simp; omega⟩
theorem xr_Ls.get {ads : List Nat} {b : Nat} : ∀ {r s : xrL}, xr_Ls ads b r s → ∀ (i : Nat) (v : Value), xr_get r i = some v → ∃ (k : Nat) (v' : Value), s[k]? = some (i, v') ∧ xr_V ads b v v'
  | [], [], _, i, v, h => by simp [xr_get] at h
  | q :: t, q' :: t', g, i, v, h => by
    unfold xr_get at h
    cases hq : Nat.beq q.1 i with
    | true =>
      rw [hq] at h
      have e : q.1 = i := Nat.eq_of_beq_eq_true hq
      simp at h
      subst h
      exact ⟨0, q'.2, by simp [← e, ← g.1], g.2.1⟩
    | false =>
      rw [hq] at h
      obtain ⟨k, v', h1, h2⟩ := xr_Ls.get g.2.2 i v h
      exact ⟨k + 1, v', by simpa using h1, h2⟩
  | [], _ :: _, g, _, _, _ => g.elim
  | _ :: _, [], g, _, _, _ => g.elim
theorem xr_Ls.fil {ads : List Nat} {b : Nat} (f : Nat → Nat → Bool) : ∀ {r s : xrL}, xr_Ls ads b r s → xr_Ls ads b (r.filter fun q => f q.1 q.2.category) (s.filter fun q => f q.1 q.2.category)
  | [], [], _ => trivial
  | q :: t, q' :: t', g => by
    have e : f q'.1 q'.2.category = f q.1 q.2.category := by rw [g.1, g.2.1.cat]
    cases hq : f q.1 q.2.category with
    | true =>
      rw [List.filter_cons_of_pos (by simpa using hq), List.filter_cons_of_pos (by simpa [e] using hq)]
      exact ⟨g.1, g.2.1, xr_Ls.fil f g.2.2⟩
    | false =>
      rw [List.filter_cons_of_neg (by simp [hq]), List.filter_cons_of_neg (by simp [e, hq])]
      exact xr_Ls.fil f g.2.2
  | [], _ :: _, g => g.elim
  | _ :: _, [], g => g.elim
theorem xr_Ls.st1 {ads : List Nat} {b : Nat} {v v' : Value} (hv : xr_V ads b v v') (i : Nat) {r s : xrL} (g : xr_Ls ads b r s) : xr_Ls ads b (xr_st1 r i v) (xr_st1 s i v') := ⟨rfl, hv, xr_Ls.fil (fun a c => !(a == i) && !(a + 1 == i && c == 2)) g⟩
theorem xr_Ls.st2 {ads : List Nat} {b : Nat} {v v' : Value} (hv : xr_V ads b v v') (i : Nat) {r s : xrL} (g : xr_Ls ads b r s) : xr_Ls ads b (xr_st2 r i v) (xr_st2 s i v') := ⟨rfl, hv, xr_Ls.fil (fun a c => !(a == i) && (!(a == i + 1) && !(a + 1 == i && c == 2))) g⟩
theorem xr_Ls.args {ads : List Nat} {b : Nat} : ∀ {r s : List Value} (n : Nat), xr_Vs ads b r s → xr_Ls ads b (lv_args n r) (lv_args n s)
  | [], [], _, _ => trivial
  | v :: _, v' :: _, n, g => by
    refine ⟨rfl, g.1, ?_⟩
    show xr_Ls ads b (lv_args (if v.category = 2 then n + 2 else n + 1) _) (lv_args (if v'.category = 2 then n + 2 else n + 1) _)
    rw [g.1.cat]
    exact xr_Ls.args _ g.2
  | [], _ :: _, _, g => g.elim
  | _ :: _, [], _, g => g.elim
theorem xr_sl_len : ∀ (vs : List Value), (lg_sl vs).length = xr_cat vs
  | [] => rfl
  | v :: t => by
    have h := xr_sl_len t
    unfold lg_sl at h ⊢
    rw [List.flatMap_cons, List.length_append, h]
    unfold xr_cat
    rcases lv_cat v with h1 | h1 <;> simp [h1]
def xr_R (ads : List Nat) (f g : Nat → Option Nat) : Prop := ∀ k, (f k = none ∧ g k = none) ∨ ∃ a q, f k = some a ∧ g k = some q ∧ ads[a]? = some q
def xr_A (ads : List Nat) : ((Nat → Int32) ⊕ (Nat → Int64) ⊕ (Nat → UInt32) ⊕ (Nat → UInt64) ⊕ (Nat → Option Nat)) → ((Nat → Int32) ⊕ (Nat → Int64) ⊕ (Nat → UInt32) ⊕ (Nat → UInt64) ⊕ (Nat → Option Nat)) → Prop
  | .inl f, .inl g => g = f
  | .inr (.inl f), .inr (.inl g) => g = f
  | .inr (.inr (.inr (.inr f))), .inr (.inr (.inr (.inr g))) => xr_R ads f g
  | _, _ => False
def xr_E (ads : List Nat) (b : Nat) (tys : List (ClassId × FieldType)) : xrE → va_E → Prop
  | .inl (ty, n, c), .inl (cA, n', c') => n' = n ∧ (∃ t0 : Nat, tys[t0]? = some (cA, ty)) ∧ xr_A ads c c'
  | .inr (ci, fs), .inr (ci', fs') => ci' = ci ∧ xr_Vs ads b fs fs'
  | _, _ => False
theorem xr_R.mono {a1 a2 : List Nat} (h : xr_le a1 a2) {f g : Nat → Option Nat} (r : xr_R a1 f g) : xr_R a2 f g := fun k => (r k).imp id (fun ⟨a, q, x, y, z⟩ => ⟨a, q, x, y, h _ _ z⟩)
theorem xr_A.mono {a1 a2 : List Nat} (h : xr_le a1 a2) : ∀ {c c'}, xr_A a1 c c' → xr_A a2 c c' := by
  intro c c' g
  unfold xr_A at g ⊢
  split at g <;> first | exact g.mono h | exact g
theorem xr_E.mono {a1 a2 : List Nat} {b : Nat} {t1 t2 : List (ClassId × FieldType)} (h : xr_le a1 a2) (ht : ∀ (k : Nat) (q : ClassId × FieldType), t1[k]? = some q → t2[k]? = some q) : ∀ {e : xrE} {e' : va_E}, xr_E a1 b t1 e e' → xr_E a2 b t2 e e'
  | .inl (_, _, _), .inl (_, _, _), ⟨g1, ⟨t0, g2⟩, g3⟩ => ⟨g1, ⟨t0, ht _ _ g2⟩, g3.mono h⟩
  | .inr (_, _), .inr (_, _), ⟨g1, g2⟩ => ⟨g1, g2.mono h⟩
  | .inl (_, _, _), .inr (_, _), g => g.elim
  | .inr (_, _), .inl (_, _, _), g => g.elim
theorem xr_E.arr {ads : List Nat} {b : Nat} {tys : List (ClassId × FieldType)} {ty : FieldType} {n : Nat} {c} {e' : va_E} (h : xr_E ads b tys (.inl (ty, n, c)) e') : ∃ (cA : ClassId) (c' : _) (t0 : Nat), e' = .inl (cA, n, c') ∧ tys[t0]? = some (cA, ty) ∧ xr_A ads c c' := by
  rcases e' with ⟨cA, n', c'⟩ | ⟨ci, fs⟩
  · obtain ⟨rfl, ⟨t0, g2⟩, g3⟩ := h
    exact ⟨cA, c', t0, rfl, g2, g3⟩
  · exact h.elim
theorem xr_E.obj {ads : List Nat} {b : Nat} {tys : List (ClassId × FieldType)} {ci : Nat} {fs : List Value} {e' : va_E} (h : xr_E ads b tys (.inr (ci, fs)) e') : ∃ fs', e' = .inr (ci, fs') ∧ xr_Vs ads b fs fs' := by
  rcases e' with ⟨cA, n', c'⟩ | ⟨ci', fs'⟩
  · exact h.elim
  · obtain ⟨rfl, g⟩ := h
    exact ⟨fs', rfl, g⟩
theorem xr_A.i {ads : List Nat} {f} {c'} (h : xr_A ads (.inl f) c') : c' = .inl f := by
  rcases c' with g | g | g | g | g <;> first | (have h' : g = f := h; rw [h']) | exact h.elim
theorem xr_A.l {ads : List Nat} {f} {c'} (h : xr_A ads (.inr (.inl f)) c') : c' = .inr (.inl f) := by
  rcases c' with g | g | g | g | g <;> first | (have h' : g = f := h; rw [h']) | exact h.elim
theorem xr_A.q {ads : List Nat} {f} {c'} (h : xr_A ads (.inr (.inr (.inr (.inr f)))) c') : ∃ g, c' = .inr (.inr (.inr (.inr g))) ∧ xr_R ads f g := by
  rcases c' with g | g | g | g | g <;> first | exact ⟨g, rfl, h⟩ | exact h.elim
/-- the machine's world ws, at a state U in a heap H, is the runner's heap h -/
def xr_W (T : xrT) (D : va_G) (A : Nat → Prop) (b : Nat) (h : xrH) (ads : List Nat) (U : State) (ws : va_W) (tys : List (ClassId × FieldType)) (H : Heap) : Prop :=
  va_K D T.2.1 tys U ∧ va_P D T.2.1 ws H ∧ va_D A ws ∧ ws.map (fun q => q.1) = ads ∧ ws.length = h.2.2.1 ∧ ∀ (a q : Nat) (e' : va_E), ws[a]? = some (q, e') → xr_E ads b tys (h.2.2.2 a) e'
section XRW
variable {T : xrT} {D : va_G} {A : Nat → Prop} {b : Nat} {h : xrH} {ads : List Nat} {U : State} {ws : va_W} {tys : List (ClassId × FieldType)} {H : Heap}
theorem xr_W.at (w : xr_W T D A b h ads U ws tys H) {a q : Nat} (hq : ads[a]? = some q) : ∃ e', ws[a]? = some (q, e') ∧ xr_E ads b tys (xr_M h a) e' := by
  obtain ⟨-, -, -, h4, -, h6⟩ := w
  rw [← h4, List.getElem?_map] at hq
  cases hw : ws[a]? with
  | none => rw [hw] at hq; cases hq
  | some x =>
    rw [hw] at hq
    obtain ⟨y, e'⟩ := x
    have hy : y = q := Option.some.inj hq
    subst hy
    exact ⟨e', rfl, h6 a y e' hw⟩
theorem xr_W.set {a q : Nat} {e0 e1 : va_E} {e : xrE} {H1 : Heap} (w : xr_W T D A b h ads U ws tys H) (ha : ws[a]? = some (q, e0)) (he : xr_E ads b tys e e1) (hP : va_P D T.2.1 (ws.set a (q, e1)) H1) (hD : va_D A (ws.set a (q, e1))) :
    xr_W T D A b (xr_put h a e) ads U (ws.set a (q, e1)) tys H1 := by
  obtain ⟨h1, -, -, h4, h5, h6⟩ := w
  have hl := (List.getElem?_eq_some_iff.mp ha).1
  refine ⟨h1, hP, hD, ?_, by rw [List.length_set]; exact h5, fun x y e' hx => ?_⟩
  · rw [← h4]
    apply List.ext_getElem?
    intro i
    rw [List.getElem?_map, List.getElem?_map]
    by_cases hi : i = a
    · subst hi
      rw [List.getElem?_set_self hl, ha]
      rfl
    · rw [List.getElem?_set_ne (Ne.symm hi)]
  · by_cases hi : x = a
    · subst hi
      rw [List.getElem?_set_self hl] at hx
      cases hx
      show xr_E ads b tys (va_up h.2.2.2 x e x) e1
      simp [va_up]
      exact he
    · rw [List.getElem?_set_ne (Ne.symm hi)] at hx
      show xr_E ads b tys (va_up h.2.2.2 a e x) e'
      simp [va_up, hi]
      exact h6 x y e' hx
theorem xr_W.add {q k : Nat} {e1 : va_E} {e : xrE} {H1 : Heap} {ts : List (ClassId × FieldType)} (w : xr_W T D A b h ads U ws tys H) (hK : va_K D T.2.1 (tys ++ ts) U) (he : xr_E (ads ++ [q]) b (tys ++ ts) e e1) (hP : va_P D T.2.1 (ws ++ [(q, e1)]) H1) (hD : va_D A (ws ++ [(q, e1)])) :
    xr_W T D A b (xr_new h k e) (ads ++ [q]) U (ws ++ [(q, e1)]) (tys ++ ts) H1 := by
  obtain ⟨-, -, -, h4, h5, h6⟩ := w
  refine ⟨hK, hP, hD, by rw [List.map_append, h4]; rfl, by rw [List.length_append, h5]; rfl, fun x y e' hx => ?_⟩
  show xr_E _ b _ (va_up h.2.2.2 h.2.2.1 e x) e'
  by_cases hi : x < ws.length
  · rw [List.getElem?_append_left hi] at hx
    have hne : x ≠ h.2.2.1 := by omega
    simp [va_up, hne]
    exact (h6 x y e' hx).mono (xr_le.app _ _) (fun k q hk => by rw [List.getElem?_append_left (List.getElem?_eq_some_iff.mp hk).1]; exact hk)
  · rw [List.getElem?_append_right (by omega)] at hx
    have hz : x - ws.length < 1 := (List.getElem?_eq_some_iff.mp hx).1
    have hx0 : x = ws.length := by omega
    subst hx0
    rw [Nat.sub_self] at hx
    cases hx
    rw [h5]
    simp [va_up]
    exact he
theorem xr_W.last (w : xr_W T D A b h ads U ws tys H) (q : Nat) : (ads ++ [q])[h.2.2.1]? = some q := by
  obtain ⟨-, -, -, h4, h5, -⟩ := w
  have hl : ads.length = h.2.2.1 := by rw [← h4, List.length_map]; exact h5
  rw [← hl]
  simp
theorem xr_W.moved {U2 : State} (w : xr_W T D A b h ads U ws tys H) (hvm : U.vm.Alike U2.vm) : xr_W T D A b h ads U2 ws tys H := ⟨va_K.moved hvm w.1, w.2⟩
theorem xr_W.exc (w : xr_W T D A b h ads U ws tys H) {H1 : Heap} (hk : ∀ q, q < H.size → H1[q]? = H[q]?) : xr_W T D A b (xr_exc h) ads U ws tys H1 := ⟨w.1, w.2.1.kept (fun k q hq => hk q.1 ((w.2.1 k q hq).lt)), w.2.2⟩
end XRW
