/-! the parser: what it does, as plain functions over the tables T of the template, the place p and the bits b taken.
    G p: the sign at place p, -1 behind the last one -/
def pa_sg (X : Int → Int) (n p : Int) : Int := if 0 ≤ p ∧ p < n then X p else -1
def pa_w (f : Nat) (i v : Int) (T : yT) : yT := fun f' i' => if f' = f ∧ i' = i then v else T f' i'
/-- the first of m places from k on that holds c; else -1 -/
def pa_ix (g : Int → Int) (c : Int) : Nat → Int → Int
  | 0, _ => -1
  | m + 1, k => if g k = c then k else pa_ix g c m (k + 1)
def pa_sn (T : yT) (c : Int) : Int := pa_ix (T 452) c (T 449 0).toNat 0
def pa_pl (T : yT) (st c : Int) : Int := pa_ix (fun k => T 457 (8 * st + k)) c (T 453 st).toNat 0
def pa_cho (G : Int → Int) (T : yT) (p : Int) : Option (yT × Int) := if (65 ≤ G p ∧ G p ≤ 90 ∧ G p ≠ 87) ∧ T 451 0 < 100 then some (pa_w 451 0 (T 451 0 + 1) (pa_w 456 (T 451 0) (G p - 65) T), p + 1) else none
def pa_more (G : Int → Int) (f : Int) : Nat → yT → Int → Option (yT × Int)
  | 0, T, p => some (pa_w 464 f (T 451 0) T, p)
  | m + 1, T, p => if G p = 124 then (pa_cho G T (p + 1)).bind fun x => pa_more G f m x.1 x.2 else some (pa_w 464 f (T 451 0) T, p)
def pa_names (G : Int → Int) (f : Int) (T : yT) (p : Int) : Option (yT × Int) := (pa_cho G (pa_w 463 f (T 451 0) T) p).bind fun x => pa_more G f 100 x.1 x.2
def pa_term (G : Int → Int) (st : Int) (T : yT) (p : Int) : Option (Int × Int) :=
  if 48 ≤ G p ∧ G p ≤ 57 then some (mNum G 3 0 p)
  else if pa_pl T st (G p - 97) = -1 then none
  else if T 458 (8 * st + pa_pl T st (G p - 97)) = 98 ∨ T 458 (8 * st + pa_pl T st (G p - 97)) = 119 ∨ T 458 (8 * st + pa_pl T st (G p - 97)) = 87 ∨ T 458 (8 * st + pa_pl T st (G p - 97)) = 114 ∨ T 458 (8 * st + pa_pl T st (G p - 97)) = 110 then some (-1 - pa_pl T st (G p - 97), p + 1)
  else none
def pa_add (f op v : Int) (T : yT) : yT := pa_w 462 f (T 450 0 + 1) (pa_w 450 0 (T 450 0 + 1) (pa_w 454 (T 450 0) v (pa_w 455 (T 450 0) op T)))
def pa_sumL (G : Int → Int) (st f : Int) : Nat → Int → yT → Int → Option (yT × Int)
  | 0, _, _, _ => none
  | m + 1, op, T, p => (pa_term G st T p).bind fun x => if T 450 0 < 100 then (if G x.2 = 43 ∨ G x.2 = 45 ∨ G x.2 = 42 then pa_sumL G st f m (G x.2) (pa_add f op x.1 T) (x.2 + 1) else some (pa_add f op x.1 T, x.2)) else none
def pa_sum (G : Int → Int) (st f : Int) (T : yT) (p : Int) : Option (yT × Int) := pa_sumL G st f 100 43 (pa_w 461 f (T 450 0) T) p
def pa_acc (G : Int → Int) (c : Int) (x : Option (yT × Int)) : Option (yT × Int) := x.bind fun y => if G y.2 = c then some (y.1, y.2 + 1) else none
def pa_int (G : Int → Int) (p : Int) : Int × Int := if 48 ≤ G p ∧ G p ≤ 57 then mNum G 3 0 p else (-1, p)
def pa_cnt (G : Int → Int) (st f : Int) (T : yT) (p : Int) : Option (yT × Int) :=
  if G (p + 1) = 42 then pa_acc G 93 (some (pa_w 465 f 42 (pa_w 465 f 43 (pa_w 458 f 91 T)), p + 1 + 1))
  else if G (p + 1) = 33 then (if (pa_int G (p + 1 + 1)).1 = -1 then none else pa_acc G 93 (some (pa_w 466 f (pa_int G (p + 1 + 1)).1 (pa_w 465 f 33 (pa_w 465 f 43 (pa_w 458 f 91 T))), (pa_int G (p + 1 + 1)).2)))
  else if G (p + 1) = 63 then pa_acc G 93 (pa_sum G st f (pa_w 465 f 63 (pa_w 465 f 43 (pa_w 458 f 91 T))) (p + 1 + 1))
  else pa_acc G 93 (pa_sum G st f (pa_w 465 f 43 (pa_w 458 f 91 T)) (p + 1))
def pa_plain (G : Int → Int) (st f : Int) (T : yT) (p b : Int) : Option (yT × Int × Int) :=
  if G p = 98 ∨ G p = 119 ∨ G p = 87 ∨ G p = 122 then some (T, p + 1, b)
  else if G p = 114 then (pa_cho G (pa_w 464 f (T 451 0 + 1) (pa_w 463 f (T 451 0) T)) (p + 1)).map fun x => (x.1, x.2, b)
  else if G p = 110 then (if G (p + 1) - 48 < 1 ∨ 8 - b < G (p + 1) - 48 then none else some (pa_w 460 f (8 - (b + (G (p + 1) - 48))) (pa_w 459 f (G (p + 1) - 48) T), p + 1 + 1, if b + (G (p + 1) - 48) = 8 then 0 else b + (G (p + 1) - 48)))
  else if G p = 115 ∧ G (p + 1) = 40 then (pa_acc G 41 (pa_sum G st f T (p + 1 + 1))).map fun x => (x.1, x.2, b)
  else none
def pa_type (G : Int → Int) (st f : Int) (T : yT) (p b : Int) : Option (yT × Int × Int) :=
  if G p ≠ 110 ∧ b ≠ 0 then none
  else if 65 ≤ G p ∧ G p ≤ 90 ∧ G p ≠ 87 then ((pa_names G f (pa_w 458 f 65 T) p).bind fun x => if G x.2 = 91 then pa_cnt G st f x.1 x.2 else some x).map fun x => (x.1, x.2, b)
  else pa_plain G st f (pa_w 459 f (if G p = 119 ∨ G p = 87 then 16 else 8) (pa_w 458 f (G p) T)) p b
def pa_rel (G : Int → Int) (f : Int) (T : yT) (p : Int) : Option (yT × Int) :=
  if T 458 f = 98 ∨ T 458 f = 119 ∨ T 458 f = 87 then
    (if 48 ≤ G (p + 1) ∧ G (p + 1) ≤ 57 then some (pa_w 468 f (mNum G 3 0 (p + 1)).1 (pa_w 467 f 61 T), (mNum G 3 0 (p + 1)).2)
    else if G (p + 1) = 35 ∨ G (p + 1) = 37 ∨ G (p + 1) = 43 ∨ G (p + 1) = 94 then some (pa_w 468 f (G (p + 1 + 1) - 97) (pa_w 467 f (G (p + 1)) T), p + 1 + 1 + 1)
    else none)
  else none
def pa_field (G : Int → Int) (st k : Int) (T : yT) (p b : Int) : Option (yT × Int × Int) :=
  if (97 ≤ G p ∧ G p ≤ 122 ∧ pa_pl T st (G p - 97) = -1) ∧ G (p + 1) = 58 then (pa_type G st (8 * st + k) T (p + 1 + 1) b).bind fun x =>
    ((if G x.2.1 = 61 then pa_rel G (8 * st + k) (pa_w 467 (8 * st + k) 0 (pa_w 457 (8 * st + k) (G p - 97) x.1)) x.2.1 else some (pa_w 467 (8 * st + k) 0 (pa_w 457 (8 * st + k) (G p - 97) x.1), x.2.1))).bind fun y =>
      if G y.2 = 59 then some (pa_w 453 st (y.1 453 st + 1) y.1, y.2 + 1, x.2.2) else none
  else none
def pa_rel1 (st k : Int) (T : yT) : Option yT :=
  if T 467 (8 * st + k) = 0 ∨ T 467 (8 * st + k) = 61 then some T
  else if pa_pl T st (T 468 (8 * st + k)) = -1 ∨ pa_pl T st (T 468 (8 * st + k)) = k then none
  else if T 467 (8 * st + k) = 37 ∧ T 458 (8 * st + pa_pl T st (T 468 (8 * st + k))) ≠ 91 then none
  else some (pa_w 468 (8 * st + k) (8 * st + pa_pl T st (T 468 (8 * st + k))) T)
def pa_rels (st : Int) : Nat → Int → yT → Option yT
  | 0, _, T => some T
  | m + 1, k, T => (pa_rel1 st k T).bind fun U => pa_rels st m (k + 1) U
def pa_close (G : Int → Int) (st : Int) (T : yT) (p b : Int) : Option (yT × Int) := (pa_rels st (T 453 st).toNat 0 T).bind fun U => if b = 0 ∧ G p = 125 then some (U, p + 1) else none
def pa_fields (G : Int → Int) (st : Int) : Nat → Int → yT → Int → Int → Option (yT × Int × Int)
  | 0, _, T, p, b => some (T, p, b)
  | m + 1, k, T, p, b => if G p = 125 then some (T, p, b) else (pa_field G st k T p b).bind fun x => pa_fields G st m (k + 1) x.1 x.2.1 x.2.2
def pa_str (G : Int → Int) (st : Int) (T : yT) (p : Int) : Option (yT × Int) :=
  if ((65 ≤ G p ∧ G p ≤ 90 ∧ G p ≠ 87) ∧ pa_sn T (G p - 65) = -1) ∧ G (p + 1) = 123 then (pa_fields G st 8 0 (pa_w 449 0 (T 449 0 + 1) (pa_w 453 st 0 (pa_w 452 st (G p - 65) T))) (p + 1 + 1) 0).bind fun x => pa_close G st x.1 x.2.1 x.2.2
  else none
def pa_strs (G : Int → Int) : Nat → Int → yT → Int → Option (yT × Int)
  | 0, _, T, p => some (T, p)
  | m + 1, st, T, p => if G p = -1 then some (T, p) else (pa_str G st T p).bind fun x => pa_strs G m (st + 1) x.1 x.2
def pa_chs : Nat → Int → yT → Option yT
  | 0, _, T => some T
  | m + 1, k, T => if pa_sn T (T 456 k) = -1 then none else pa_chs m (k + 1) (pa_w 456 k (pa_sn T (T 456 k)) T)
def pa_all (G : Int → Int) (T : yT) : Option yT := (pa_strs G 6 0 (pa_w 451 0 0 (pa_w 450 0 0 (pa_w 449 0 0 T))) 0).bind fun x => if G x.2 = -1 ∧ 0 < x.1 449 0 then pa_chs (x.1 451 0).toNat 0 x.1 else none
/-! the class's parser -/
/-- it stands at place p of the tape (object 0), in structure st, with b bits taken and the tables T -/
def pa_at (q : Nat) (X : Int → Int) (n : Int) (T : yT) (p st b : Int) (s : zS) : Prop := s.1 256 0 0 = 1 ∧ (s.1 257 0 0 = q + 1 ∧ q < s.2.1) ∧ s.1 258 0 0 = p ∧ s.1 259 0 0 = pa_sg X n p ∧ s.1 260 0 0 = st ∧ s.1 261 0 0 = b ∧ (∀ f i, 448 ≤ f → f < 469 → s.1 f q i = T f i) ∧ s.1 1 0 0 = n ∧ ∀ i, 0 ≤ i → i < n → s.1 0 0 i = X i
def pa_fr (q : Nat) (s u : zS) : Prop := (∀ f n i, ¬ (n = 0 ∧ (256 ≤ f ∧ f < 262) ∨ n = q ∧ (448 ≤ f ∧ f < 469)) → u.1 f n i = s.1 f n i) ∧ u.2 = s.2
theorem pa_fr.rf {q : Nat} {s : zS} : pa_fr q s s := ⟨fun _ _ _ _ => rfl, rfl⟩
theorem pa_fr.tr {q : Nat} {s t u : zS} (a : pa_fr q s t) (b : pa_fr q t u) : pa_fr q s u := ⟨fun f n i h => (b.1 f n i h).trans (a.1 f n i h), b.2.trans a.2⟩
theorem pa_fr.pw {q f : Nat} {i v : Int} {s t : zS} (a : pa_fr q s t) (h : 256 ≤ f ∧ f < 262) : pa_fr q s (zp f 0 i v t) := by
  refine ⟨fun f' n' i' hn => ?_, a.2⟩
  rw [zp_ne (fun z => hn (Or.inl ⟨z.2, by omega⟩))]
  exact a.1 f' n' i' hn
theorem pa_fr.qw {q f : Nat} {i v : Int} {s t : zS} (a : pa_fr q s t) (h : 448 ≤ f ∧ f < 469) : pa_fr q s (zp f q i v t) := by
  refine ⟨fun f' n' i' hn => ?_, a.2⟩
  rw [zp_ne (fun z => hn (Or.inr ⟨z.2, by omega⟩))]
  exact a.1 f' n' i' hn
section
variable {q : Nat} {X : Int → Int} {n p st b : Int} {T : yT} {s : zS}
theorem pa_at.qw {f : Nat} {i v : Int} (h : pa_at q X n T p st b s) (hf : 448 ≤ f ∧ f < 469) : pa_at q X n (pa_w f i v T) p st b (zp f q i v s) := by
  obtain ⟨h1, h2, h3, h4, h5, h6, h7, h8, h9⟩ := h
  have e : ∀ (g m : Nat) (j : Int), g < 448 → (zp f q i v s).1 g m j = s.1 g m j := fun g m j hg => zp_nk (by omega)
  refine ⟨(e _ _ _ (by decide)).trans h1, ⟨(e _ _ _ (by decide)).trans h2.1, h2.2⟩, (e _ _ _ (by decide)).trans h3, (e _ _ _ (by decide)).trans h4, (e _ _ _ (by decide)).trans h5, (e _ _ _ (by decide)).trans h6, fun g j g1 g2 => ?_, (e _ _ _ (by decide)).trans h8, fun j j1 j2 => (e _ _ _ (by decide)).trans (h9 j j1 j2)⟩
  unfold pa_w
  rw [zp_1]
  by_cases c : g = f ∧ j = i
  · rw [if_pos ⟨c.1, rfl, c.2⟩, if_pos c]
  · rw [if_neg (fun z => c ⟨z.1, z.2.2⟩), if_neg c]
    exact h7 g j g1 g2
theorem pa_at.O (h : pa_at q X n T p st b s) {K : Nat → zR} : zO (s.1 257 0 0) s K = K q := zO_ok h.2.1.1 h.2.1.2
/-- the place and the sign behind -/
def pa_nx (X : Int → Int) (n p : Int) (s : zS) : zS := zp 259 0 0 (pa_sg X n (p + 1)) (zp 258 0 0 (p + 1) s)
theorem pa_at.nx (h : pa_at q X n T p st b s) : pa_at q X n T (p + 1) st b (pa_nx X n p s) := by
  obtain ⟨h1, h2, h3, h4, h5, h6, h7, h8, h9⟩ := h
  have e : ∀ (g m : Nat) (j : Int), g ≠ 258 → g ≠ 259 → (pa_nx X n p s).1 g m j = s.1 g m j := fun g m j g1 g2 => by unfold pa_nx; rw [zp_nk g2, zp_nk g1]
  refine ⟨(e _ _ _ (by decide) (by decide)).trans h1, ⟨(e _ _ _ (by decide) (by decide)).trans h2.1, h2.2⟩, ?_, zp_eq, (e _ _ _ (by decide) (by decide)).trans h5, (e _ _ _ (by decide) (by decide)).trans h6, fun g j g1 g2 => (e _ _ _ (by omega) (by omega)).trans (h7 g j g1 g2), (e _ _ _ (by decide) (by decide)).trans h8, fun j j1 j2 => (e _ _ _ (by decide) (by decide)).trans (h9 j j1 j2)⟩
  unfold pa_nx
  rw [zp_nk (by decide)]
  exact zp_eq
theorem pa_fr.nx {u : zS} (a : pa_fr q u s) : pa_fr q u (pa_nx X n p s) := (a.pw (by decide)).pw (by decide)
theorem pa_adv0 (h1 : s.1 256 0 0 = 1) (h3 : s.1 258 0 0 = p) (h8 : s.1 1 0 0 = n) (h9 : ∀ i, 0 ≤ i → i < n → s.1 0 0 i = X i) (hp : -1 ≤ p ∧ p ≤ 1000) (hn : n ≤ 200) : zf_38 0 s = zi 0 (pa_nx X n p s) := by
  unfold zf_38 pa_nx
  rw [h3, zg_ok ⟨by omega, by omega⟩, zP_ok, show (zp 258 0 0 (p + 1) s).1 258 0 0 = p + 1 from zp_eq, if_neg (by omega)]
  rw [zB_ok (b := 0) ((zp_nk (by decide)).trans h1) (by decide), zp_nk (by decide), h8]
  unfold pa_sg
  by_cases c : n ≤ p + 1
  · rw [if_pos c, if_neg (by omega), zP_ok]
  · rw [if_neg c, if_pos (by omega), zB_ok (b := 0) ((zp_nk (by decide)).trans h1) (by decide), zn_ok ⟨by omega, by rw [show zlB 0 = 200 from rfl]; omega⟩, zP_ok, zp_nk (by decide), h9 _ (by omega) (by omega)]
theorem pa_adv (h : pa_at q X n T p st b s) (hp : -1 ≤ p ∧ p ≤ 1000) (hn : n ≤ 200) : zf_38 0 s = zi 0 (pa_nx X n p s) := pa_adv0 h.1 h.2.2.1 h.2.2.2.2.2.2.2.1 h.2.2.2.2.2.2.2.2 hp hn
end
