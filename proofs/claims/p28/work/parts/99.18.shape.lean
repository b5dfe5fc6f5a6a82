/-! what is read has that shape -/
def yOp (T : yT) (s k : Int) : Int := if yBit T s k.toNat = 0 then 0 else 1
/-- a structure that was read: one root -/
def yQO (T : yT) (B : yB) (n f pa pos cnt : Int) (o : yO) : Prop := match o with
  | .inl _ => True
  | .inr x => ∀ N, yAg x.2.2.2 cnt N → (N cnt 197 = pa ∧ N cnt 198 = f ∧ N cnt 194 = pos ∧ N cnt 195 = x.1 - pos) ∧ (1 ≤ x.2.2.2.length ∧ ∀ k, cnt < k → k < cnt + x.2.2.2.length → cnt ≤ N k 197) ∧ yPh T B n N cnt (cnt + x.2.2.2.length) pa pos pos x.1 x.1 (fun q => q = f ∧ f ≠ -1) (fun h => h f) x.2.2.1
def yQN (T : yT) (B : yB) (n f pa : Int) (nm : Int → Int → Int → yO) : Prop := ∀ pos made cnt, 0 ≤ pos → pa < cnt → yQO T B n f pa pos cnt (nm pos made cnt)
/-- a field that holds structures, or none -/
def yOw (T : yT) (f : Int) : Prop := f = -1 ∨ (∃ st k, f = 8 * st + k ∧ (0 ≤ st ∧ st < T 449 0) ∧ 0 ≤ k ∧ k < T 453 st) ∧ T 458 f = 65
def yQR (T : yT) (B : yB) (n : Int) (rs : Int → Int → Int → Int → Int → Int → yO) : Prop := ∀ s ow pa, 0 ≤ s → s < T 449 0 → yOw T ow → yQN T B n ow pa (rs s ow pa)
/-- elements that were read -/
def yQF (T : yT) (B : yB) (n me pos cnt : Int) (o : yO) : Prop := match o with
  | .inl _ => True
  | .inr x => ∀ N, yAg x.2.2.2 cnt N → yPh T B n N cnt (cnt + x.2.2.2.length) me pos pos x.1 x.1 (fun _ => False) (fun _ => 0) x.2.2.1
def yQA (T : yT) (B : yB) (n me pos cnt : Int) (o : yA) : Prop := match o with
  | .inl _ => True
  | .inr x => (0 ≤ x.1 ∧ x.1 ≤ 200) ∧ ∀ N, yAg x.2.2.2.2 cnt N → yPh T B n N cnt (cnt + x.2.2.2.2.length) me pos pos x.2.1 x.2.1 (fun _ => False) (fun _ => 0) x.2.2.2.1
/-- fields that were read, m of them from field k on -/
def yQD (T : yT) (B : yB) (n me pos cnt s k m : Int) (E : yE) (o : yF) : Prop := match o with
  | .inl _ => True
  | .inr x => (∀ c i, ¬ (k ≤ i ∧ i < k + m) → x.1 c i = E c i) ∧ pos + yOp T s k ≤ x.2.1 + yOp T s (k + m) ∧ ∀ N, yAg x.2.2.2.2 cnt N → yPh T B n N cnt (cnt + x.2.2.2.2.length) me pos (pos + yOp T s k) x.2.1 (x.2.1 + yOp T s (k + m)) (fun q => 8 * s + k ≤ q ∧ q < 8 * s + k + m) (fun h => ySm (fun i => h (8 * s + i)) m.toNat k) x.2.2.2.1 ∧ yRE T N cnt (cnt + x.2.2.2.2.length) me s k (k + m) x.1
section
variable {rs : Int → Int → Int → Int → Int → Int → yO} {T : yT} {B : yB} {n : Int}
/-- there is such an N -/
theorem yAg_g {l : List yN} (cnt : Int) : yAg l cnt fun i => (l[(i - cnt).toNat]?).getD (fun _ => 0) := fun j x hx => by
  dsimp only
  rw [show (cnt + (j : Int) - cnt).toNat = j by omega, hx]
  rfl
theorem yOp_b {s k : Int} : 0 ≤ yOp T s k ∧ yOp T s k ≤ 1 := by
  unfold yOp
  split <;> decide
theorem yNm_q (hr : yQR T B n rs) {ow pa : Int} (ho : yOw T ow) : ∀ (m : Nat) (k pos made cnt : Int), (∀ j, k ≤ j → j < k + m → 0 ≤ T 456 j ∧ T 456 j < T 449 0) → 0 ≤ pos → pa < cnt → yQO T B n ow pa pos cnt (yNm rs T ow pa m k pos made cnt)
  | 0, _, _, _, _, _, _, _ => trivial
  | m + 1, k, pos, made, cnt, hj, hp, hc => by
    have a := hr (T 456 k) ow pa (hj k (by omega) (by omega)).1 (hj k (by omega) (by omega)).2 ho pos made cnt hp hc
    unfold yNm
    cases hx : rs (T 456 k) ow pa pos made cnt with
    | inr x =>
      rw [hx] at a
      exact a
    | inl e =>
      obtain ⟨c, p, made'⟩ := e
      dsimp only
      by_cases hc2 : c = 5 ∨ m = 0
      · rw [if_pos hc2]
        exact trivial
      · rw [if_neg hc2]
        exact yNm_q hr ho m (k + 1) pos made' cnt (fun j h1 h2 => hj j (by omega) (by omega)) hp hc
theorem yNm_qW {st k ow pa : Int} (hr : yQR T B n rs) (W : yWF T st k) (ho : yOw T ow) (ht : T 458 (8 * st + k) = 65 ∨ T 458 (8 * st + k) = 91) : yQN T B n ow pa (yNm rs T ow pa (T 464 (8 * st + k) - T 463 (8 * st + k)).toNat (T 463 (8 * st + k))) := by
  intro pos made cnt hp hc
  obtain ⟨a1, a2, a3, a4⟩ := W.2.2.1 (by omega)
  exact yNm_q hr ho _ _ _ _ _ (fun j h1 h2 => a4 j h1 (by omega)) hp hc
/-- a root without a field, and elements behind it -/
theorem yPh.el (W : yWT T) {N : Int → yN} {cnt me pos p1 p2 w1 w2 : Int} {a b : Nat} (h1 : yPh T B n N cnt (cnt + a) me pos pos p1 p1 (fun q => q = -1 ∧ (-1 : Int) ≠ -1) (fun h => h (-1)) w1) (h2 : yPh T B n N (cnt + a) (cnt + a + b) me p1 p1 p2 p2 (fun _ => False) (fun _ => 0) w2) (hm : me < cnt) : yPh T B n N cnt (cnt + ((a + b : Nat) : Int)) me pos pos p2 p2 (fun _ => False) (fun _ => 0) (w1 + w2) := by
  have q1 := h1.2.1.1
  have q2 := h2.2.1.1
  have e : cnt + ((a + b : Nat) : Int) = cnt + a + b := by omega
  rw [e]
  refine (yPh.app W h1 h2 (by omega) (by omega) hm (fun f z _ => z.2 rfl) (by omega) (by omega)).cg (fun f => ⟨fun z => z.elim (fun y => y.2 rfl) id, fun z => z.elim⟩) fun h h0 => ?_
  show h (-1) + 0 = 0
  rw [h0]
  rfl
theorem yCt_q (W : yWT T) {nm : Int → Int → Int → yO} {me : Int} (hn : yQN T B n (-1) me nm) : ∀ (m : Nat) (pos made cnt : Int), 0 ≤ pos → me < cnt → yQF T B n me pos cnt (yCt nm m pos made cnt)
  | 0, pos, made, cnt, hp, hc => fun N _ => by
    dsimp only [List.length_nil]
    rw [show cnt + ((0 : Nat) : Int) = cnt by omega]
    exact yPh.nil ⟨hp, Int.le_refl _⟩
  | m + 1, pos, made, cnt, hp, hc => by
    have a := hn pos made cnt hp hc
    unfold yCt
    cases hx : nm pos made cnt with
    | inl e => exact trivial
    | inr x =>
      rw [hx] at a
      obtain ⟨p1, m1, w1, l1⟩ := x
      dsimp only
      cases hy : yCt nm m p1 m1 (cnt + l1.length) with
      | inl e => exact trivial
      | inr x =>
        obtain ⟨p2, m2, w2, l2⟩ := x
        intro N hN
        obtain ⟨n1, n2⟩ := hN.app
        obtain ⟨-, -, a3⟩ := a N n1
        dsimp only at a3
        have b := yCt_q W hn m p1 m1 (cnt + l1.length) (by have := a3.2.1.1; omega) (by omega)
        rw [hy] at b
        have b3 := b N n2
        dsimp only at b3
        dsimp only
        rw [List.length_append]
        exact yPh.el W a3 b3 hc
theorem yAl_q (W : yWT T) {nm : Int → Int → Int → yO} {me : Int} (hn : yQN T B n (-1) me nm) : ∀ (m : Nat) (k pos made cnt : Int), 0 ≤ k → k + m ≤ 201 → 0 ≤ pos → me < cnt → yQA T B n me pos cnt (yAl nm m k pos made cnt)
  | 0, _, _, _, _, _, _, _, _ => trivial
  | m + 1, k, pos, made, cnt, hk, hkm, hp, hc => by
    have a := hn pos made cnt hp hc
    have nil : ∀ made' : Int, yQA T B n me pos cnt (.inr (k, pos, made', 0, [])) := fun made' => by
      refine ⟨⟨hk, by dsimp only; omega⟩, fun N _ => ?_⟩
      dsimp only [List.length_nil]
      rw [show cnt + ((0 : Nat) : Int) = cnt by omega]
      exact yPh.nil ⟨hp, Int.le_refl _⟩
    unfold yAl
    cases hx : nm pos made cnt with
    | inl e =>
      obtain ⟨c, p, made'⟩ := e
      dsimp only
      split
      · exact trivial
      · exact nil _
    | inr x =>
      rw [hx] at a
      obtain ⟨p1, m1, w1, l1⟩ := x
      dsimp only
      split
      · exact nil _
      · cases hy : yAl nm m (k + 1) p1 m1 (cnt + l1.length) with
        | inl e => exact trivial
        | inr x =>
          obtain ⟨k2, p2, m2, w2, l2⟩ := x
          have a0 : pos ≤ p1 := by
            obtain ⟨-, -, a3⟩ := a (fun i => (l1[(i - cnt).toNat]?).getD (fun _ => 0)) (yAg_g cnt)
            have := a3.2.1.1
            dsimp only at this
            omega
          have b := yAl_q W hn m (k + 1) p1 m1 (cnt + l1.length) (by omega) (by omega) (by omega) (by omega)
          rw [hy] at b
          refine ⟨b.1, fun N hN => ?_⟩
          obtain ⟨n1, n2⟩ := hN.app
          obtain ⟨-, -, a3⟩ := a N n1
          dsimp only at a3
          have b3 := b.2 N n2
          dsimp only at b3
          dsimp only
          rw [List.length_append]
          exact yPh.el W a3 b3 hc
theorem yEn_q (W : yWT T) {nm : Int → Int → Int → yO} {me e st : Int} (hn : yQN T B n (-1) me nm) : ∀ (m : Nat) (k pos made cnt : Int), 0 ≤ k → k + m ≤ 201 → 0 ≤ pos → me < cnt → yQA T B n me pos cnt (yEn B n nm e st m k pos made cnt)
  | 0, _, _, _, _, _, _, _, _ => trivial
  | m + 1, k, pos, made, cnt, hk, hkm, hp, hc => by
    have a := hn pos made cnt hp hc
    have nil : ∀ made' : Int, yQA T B n me pos cnt (.inr (k, pos, made', 0, [])) := fun made' => by
      refine ⟨⟨hk, by dsimp only; omega⟩, fun N _ => ?_⟩
      dsimp only [List.length_nil]
      rw [show cnt + ((0 : Nat) : Int) = cnt by omega]
      exact yPh.nil ⟨hp, Int.le_refl _⟩
    unfold yEn
    split
    · exact nil _
    · split
      · exact trivial
      · cases hx : nm pos made cnt with
        | inl e => exact trivial
        | inr x =>
          rw [hx] at a
          obtain ⟨p1, m1, w1, l1⟩ := x
          dsimp only
          split
          · exact trivial
          · cases hy : yEn B n nm e st m (k + 1) p1 m1 (cnt + l1.length) with
            | inl e => exact trivial
            | inr x =>
              obtain ⟨k2, p2, m2, w2, l2⟩ := x
              have a0 : pos ≤ p1 := by
                obtain ⟨-, -, a3⟩ := a (fun i => (l1[(i - cnt).toNat]?).getD (fun _ => 0)) (yAg_g cnt)
                have := a3.2.1.1
                dsimp only at this
                omega
              have b := yEn_q W (e := e) (st := st) hn m (k + 1) p1 m1 (cnt + l1.length) (by omega) (by omega) (by omega) (by omega)
              rw [hy] at b
              refine ⟨b.1, fun N hN => ?_⟩
              obtain ⟨n1, n2⟩ := hN.app
              obtain ⟨-, -, a3⟩ := a N n1
              dsimp only at a3
              have b3 := b.2 N n2
              dsimp only at b3
              dsimp only
              rw [List.length_append]
              exact yPh.el W a3 b3 hc
theorem yAr_q {st k me pos made cnt : Int} {V : Int → Int} (WT : yWT T) (hr : yQR T B n rs) (W : yWF T st k) (ht : T 458 (8 * st + k) = 91) (hv : T 465 (8 * st + k) = 43 → 0 ≤ yCn T V (8 * st + k) ∧ yCn T V (8 * st + k) ≤ 20) (hp : 0 ≤ pos) : yQA T B n cnt pos (cnt + 1) (yAr rs T B n V me (8 * st + k) pos made cnt) := by
  have hnm := yNm_qW (ow := -1) (pa := cnt) hr W (Or.inl rfl) (Or.inr ht)
  unfold yAr
  split
  · exact yAl_q WT hnm _ _ _ _ _ (by decide) (by decide) hp (by omega)
  · split
    · exact yEn_q WT hnm _ _ _ _ _ (by decide) (by decide) hp (by omega)
    · have a := yCt_q WT hnm (yCn T V (8 * st + k)).toNat pos (made + 1) (cnt + 1) hp (by omega)
      have b := yCn_b hv
      revert a
      cases yCt _ (yCn T V (8 * st + k)).toNat pos (made + 1) (cnt + 1) with
      | inl e => exact fun a => trivial
      | inr x => exact fun a => ⟨⟨b.1, by dsimp only; omega⟩, a⟩
theorem yPl_q {f pos : Int} {V : Int → Int} {ln v : Int} (h : yPl T B n V f pos = .inr (ln, v)) (hp : 0 ≤ pos) : 0 ≤ ln ∧ (ln = 0 ∨ pos + ln ≤ n) ∧ (T 458 f = 110 → ln = 1) := by
  unfold yPl at h
  by_cases c1 : T 458 f = 115
  · rw [if_pos c1] at h
    dsimp only at h
    split at h
    · cases h
    · split at h
      · cases h
      · rename_i d1 d2
        injection h with h
        have e : ln = yReckon T V f := by
          have := congrArg Prod.fst h
          exact this.symm
        rw [e]
        exact ⟨by omega, by omega, fun z => by omega⟩
  · rw [if_neg c1] at h
    by_cases c2 : T 458 f = 122
    · rw [if_pos c2] at h
      cases e : yZ B n (n - pos).toNat pos with
      | none => rw [e] at h; cases h
      | some k =>
        rw [e] at h
        injection h with h
        have e1 : ln = k + 1 - pos := (congrArg Prod.fst h).symm
        have z : ∀ (m : Nat) (k0 : Int), yZ B n m k0 = some k → k0 ≤ k ∧ k < k0 + m := by
          intro m
          induction m with
          | zero =>
            intro k0 z
            cases z
          | succ m ih =>
            intro k0 z
            unfold yZ at z
            split at z
            · injection z with z
              omega
            · have := ih (k0 + 1) z
              omega
        have := z _ _ e
        exact ⟨by omega, by omega, fun z => by omega⟩
    · rw [if_neg c2] at h
      by_cases c3 : T 458 f = 110
      · rw [if_pos c3] at h
        split at h
        · cases h
        · rename_i d
          injection h with h
          have e1 : ln = 1 := (congrArg Prod.fst h).symm
          exact ⟨by omega, by omega, fun _ => e1⟩
      · rw [if_neg c3] at h
        by_cases c4 : T 459 f = 16
        · simp only [if_pos c4] at h
          generalize (if T 458 f = 87 then 256 * B pos + B (pos + 1) else B pos + 256 * B (pos + 1)) = vv at h
          split at h
          · cases h
          · rename_i d
            split at h
            · cases h
            · injection h with h
              have e1 : ln = 2 := (congrArg Prod.fst h).symm
              exact ⟨by omega, by omega, fun z => absurd z c3⟩
        · simp only [if_neg c4] at h
          split at h
          · cases h
          · rename_i d
            split at h
            · cases h
            · injection h with h
              have e1 : ln = 1 := (congrArg Prod.fst h).symm
              exact ⟨by omega, by omega, fun z => absurd z c3⟩
theorem yFd_q {st k me pos made cnt : Int} {E : yE} (WT : yWT T) (BE : yBE T) (hr : yQR T B n rs) (hst : 0 ≤ st ∧ st < T 449 0) (hk : 0 ≤ k ∧ k < T 453 st) (hp : 0 ≤ pos) (hc : me < cnt) : yQD T B n me pos cnt st k 1 E (yFd rs T B n me (8 * st + k) k E pos made cnt) := by
  have W := (WT.2.2 st hst.1 hst.2).2.2 k hk.1 hk.2
  obtain ⟨bE, bB⟩ := BE st hst.1 hst.2
  obtain ⟨bb0, bb1, bb2⟩ := bB k hk.1 hk.2
  have h8 := (WT.2.2 st hst.1 hst.2).2.1
  have yb : yBit T st (k + 1).toNat = if T 458 (8 * st + k) = 110 then (if yBit T st k.toNat + T 459 (8 * st + k) = 8 then 0 else yBit T st k.toNat + T 459 (8 * st + k)) else 0 := by
    rw [show (k + 1).toNat = k.toNat + 1 by omega]
    show (if T 458 (8 * st + (k.toNat : Int)) = 110 then _ else _) = _
    rw [show (k.toNat : Int) = k by omega]
  -- bits are closed on both sides of all but bits
  have cl : T 458 (8 * st + k) ≠ 110 → yOp T st k = 0 ∧ yOp T st (k + 1) = 0 := fun z => by
    unfold yOp
    rw [if_pos (bb1 z), yb, if_neg z, if_pos rfl]
    exact ⟨rfl, rfl⟩
  have sm : ∀ h : Int → Int, h (8 * st + k) = ySm (fun i => h (8 * st + i)) (1 : Int).toNat k := fun h => by
    show _ = h (8 * st + k) + 0
    omega
  have rr : ∀ q, (q = 8 * st + k ∧ 8 * st + k ≠ -1) ↔ (8 * st + k ≤ q ∧ q < 8 * st + k + 1) := fun q => by omega
  have upd : ∀ (p1 v : Int) (c : Nat) (i : Int), ¬ (k ≤ i ∧ i < k + 1) → yeu E k pos p1 v c i = E c i := fun p1 v c i hi => by
    unfold yeu
    rw [if_neg (by omega)]
  -- the root is where it stands
  have re : ∀ (N : Int → yN) (L : Nat) (p ub lb w ln v : Int) (Hs : (Int → Int) → Int), yPh T B n N cnt (cnt + L) me pos lb p ub (fun q => q = 8 * st + k ∧ 8 * st + k ≠ -1) Hs w → 1 ≤ L → N cnt 197 = me → N cnt 198 = 8 * st + k → N cnt 194 = pos → N cnt 195 = ln → (T 458 (8 * st + k) ≠ 65 → N cnt 196 = v) → yRE T N cnt (cnt + L) me st k (k + 1) (yeu E k pos ln v) := fun N L p ub lb w ln v Hs P hL x1 x2 x3 x4 x5 j j1 j2 jm i i1 i2 jf => by
    have ei : i = k := by omega
    subst ei
    have ej : j = cnt := P.1.2.1 j cnt j1 j2 (Int.le_refl _) (by omega) (jm.trans x1.symm) (jf.trans x2.symm) (by omega)
    subst ej
    unfold yeu
    simp only [if_true]
    exact ⟨x3, x4, x5⟩
  unfold yFd
  by_cases h1 : T 458 (8 * st + k) = 65
  · rw [if_pos h1]
    obtain ⟨c1, c2⟩ := cl (by omega)
    have a := yNm_qW (ow := 8 * st + k) (pa := me) hr W (Or.inr ⟨⟨st, k, rfl, hst, hk⟩, h1⟩) (Or.inl h1) pos made cnt hp hc
    revert a
    cases yNm rs T (8 * st + k) me (T 464 (8 * st + k) - T 463 (8 * st + k)).toNat (T 463 (8 * st + k)) pos made cnt with
    | inl e => exact fun a => trivial
    | inr x =>
      intro a
      obtain ⟨p1, m1, w1, l1⟩ := x
      refine ⟨upd _ _, ?_, fun N hN => ?_⟩
      · rw [c1, c2]
        have := (a _ (yAg_g cnt)).2.2.2.1.1
        dsimp only at this ⊢
        omega
      · obtain ⟨⟨x1, x2, x3, x4⟩, a2, a3⟩ := a N hN
        dsimp only at x4 a2 a3 ⊢
        rw [c1, c2, show pos + 0 = pos by omega, show p1 + 0 = p1 by omega]
        exact ⟨a3.cg rr fun h _ => sm h, re N l1.length p1 p1 pos w1 (p1 - pos) 0 _ a3 a2.1 x1 x2 x3 x4 fun z => absurd h1 z⟩
  · rw [if_neg h1]
    by_cases h3 : 200 ≤ made
    · rw [if_pos h3]
      exact trivial
    · rw [if_neg h3]
      by_cases h4 : T 458 (8 * st + k) = 91
      · rw [if_pos h4]
        obtain ⟨c1, c2⟩ := cl (by omega)
        by_cases h5 : T 465 (8 * st + k) = 43 ∧ (yCn T (E 330) (8 * st + k) < 0 ∨ 20 < yCn T (E 330) (8 * st + k))
        · rw [if_pos h5]
          exact trivial
        · rw [if_neg h5]
          have a := yAr_q (me := me) (made := made) (cnt := cnt) (V := E 330) WT hr W h4 (fun z => by omega) hp
          have kl : ∀ k2 p2 m2 w2 l2, yAr rs T B n (E 330) me (8 * st + k) pos made cnt = .inr (k2, p2, m2, w2, l2) → 0 ≤ k2 ∧ (k2 = 0 → l2 = []) := fun k2 p2 m2 w2 l2 h => yAr_k (fun z => by omega) h
          revert a kl
          cases yAr rs T B n (E 330) me (8 * st + k) pos made cnt with
          | inl e => exact fun a kl => trivial
          | inr x =>
            intro a kl
            obtain ⟨k2, p2, m2, w2, l2⟩ := x
            have kl := kl _ _ _ _ _ rfl
            obtain ⟨hk2, a⟩ := a
            dsimp only at hk2
            have a0 : pos ≤ p2 := by
              have := (a _ (yAg_g (cnt + 1))).2.1.1
              dsimp only at this
              omega
            refine ⟨upd _ _, ?_, fun N hN => ?_⟩
            · rw [c1, c2]
              dsimp only
              omega
            · obtain ⟨n1, n2⟩ := hN.cons
              have F := a N n2
              dsimp only at F
              have x1 : N cnt 197 = me := by rw [n1]; rfl
              have x2 : N cnt 198 = 8 * st + k := by rw [n1]; rfl
              have x3 : N cnt 194 = pos := by rw [n1]; rfl
              have x4 : N cnt 195 = p2 - pos := by rw [n1]; rfl
              have x5 : N cnt 196 = k2 := by rw [n1]; rfl
              have x6 : N cnt 192 = 1 := by rw [n1]; rfl
              have q := F.2.1.1
              have nd : yNd T B n (N cnt) := by
                unfold yNd
                rw [x2, x3, x4, x5, x6]
                exact ⟨by omega, Or.inr ⟨st, k, rfl, hst, hk, Or.inr (Or.inl ⟨h4, rfl, hk2⟩)⟩⟩
              have T0 := yPh.tree (wr := 0) F (by omega) ⟨x1, x2, x3, x4⟩ hc nd (fun z => Or.inr ⟨x6, by
                rw [x5]
                by_cases y : k2 = 0
                · have e : (l2.length : Int) = 0 := by
                    rw [kl.2 y]
                    rfl
                  omega
                · have := kl.1
                  omega⟩) (fun q hq => hq.elim) (fun g hg => ySm_0 _ _ fun i i1 i2 => by
                by_cases c : N i 197 = cnt
                · rw [if_pos c]
                  rcases F.1.1 i i1 (by omega) with ⟨z1, z2⟩ | ⟨z1, z2⟩
                  · unfold yWg
                    rw [if_pos (Or.inl (z2.elim id fun z => z.elim))]
                  · omega
                · rw [if_neg c])
              have eL : cnt + ((yn 1 (T 457 (8 * st + k)) pos (p2 - pos) k2 me (8 * st + k) :: l2).length : Int) = cnt + 1 + (l2.length : Int) := by
                rw [List.length_cons]
                omega
              dsimp only
              have eL2 : cnt + 1 + (l2.length : Int) = cnt + ((l2.length + 1 : Nat) : Int) := by omega
              rw [Int.add_zero, eL2] at T0
              rw [List.length_cons, c1, c2, show pos + 0 = pos by omega, show p2 + 0 = p2 by omega]
              exact ⟨T0.cg rr fun h _ => sm h, re N (l2.length + 1) p2 p2 pos w2 (p2 - pos) k2 _ T0 (by omega) x1 x2 x3 x4 fun _ => x5⟩
      · rw [if_neg h4]
        cases e : yPl T B n (E 330) (8 * st + k) pos with
        | inl c => exact trivial
        | inr x =>
          obtain ⟨ln, v⟩ := x
          obtain ⟨l0, l1, l2⟩ := yPl_q e hp
          have ty := W.1
          have b9 := W.2.2.2.2.2.1
          -- where the next field stands
          have nx : pos + yOp T st k ≤ (if T 458 (8 * st + k) = 110 ∧ T 460 (8 * st + k) ≠ 0 then pos else pos + ln) + yOp T st (k + 1) ∧ pos + ln ≤ (if T 458 (8 * st + k) = 110 ∧ T 460 (8 * st + k) ≠ 0 then pos else pos + ln) + yOp T st (k + 1) ∧ (T 458 (8 * st + k) ≠ 110 → yOp T st k = 0 ∧ yOp T st (k + 1) = 0) := by
            have ob := yOp_b (T := T) (s := st) (k := k)
            by_cases d : T 458 (8 * st + k) = 110
            · have l3 := l2 d
              have d2 := bb2 d
              have d3 := b9 d
              by_cases z : T 460 (8 * st + k) = 0
              · rw [if_neg (fun y => y.2 z)]
                have := yOp_b (T := T) (s := st) (k := k + 1)
                exact ⟨by omega, by omega, fun y => absurd d y⟩
              · rw [if_pos ⟨d, z⟩]
                have : yOp T st (k + 1) = 1 := by
                  unfold yOp
                  rw [yb, if_pos d, if_neg (show ¬ yBit T st k.toNat + T 459 (8 * st + k) = 8 by omega), if_neg (by omega)]
                exact ⟨by omega, by omega, fun y => absurd d y⟩
            · rw [if_neg (fun y => d y.1)]
              obtain ⟨c1, c2⟩ := cl d
              exact ⟨by omega, by omega, fun _ => ⟨c1, c2⟩⟩
          refine ⟨upd _ _, nx.1, fun N hN => ?_⟩
          obtain ⟨n1, -⟩ := hN.cons
          have x1 : N cnt 197 = me := by rw [n1]; rfl
          have x2 : N cnt 198 = 8 * st + k := by rw [n1]; rfl
          have x3 : N cnt 194 = pos := by rw [n1]; rfl
          have x4 : N cnt 195 = ln := by rw [n1]; rfl
          have x5 : N cnt 196 = v := by rw [n1]; rfl
          have x6 : N cnt 192 = yKd (T 458 (8 * st + k)) := by rw [n1]; rfl
          have nd : yNd T B n (N cnt) := by
            unfold yNd
            rw [x2, x3, x4, x5, x6]
            exact ⟨⟨hp, l0, l1⟩, Or.inr ⟨st, k, rfl, hst, hk, Or.inr (Or.inr ⟨h1, h4, rfl, E 330, e⟩)⟩⟩
          have ob2 := yOp_b (T := T) (s := st) (k := k + 1)
          have k4 : N cnt 192 ≠ 4 → T 458 (8 * st + k) ≠ 110 := fun z y => z (by
            rw [x6, y]
            rfl)
          have L := yPh.leaf (lb := pos + yOp T st k) (p := if T 458 (8 * st + k) = 110 ∧ T 460 (8 * st + k) ≠ 0 then pos else pos + ln) (ub := (if T 458 (8 * st + k) = 110 ∧ T 460 (8 * st + k) ≠ 0 then pos else pos + ln) + yOp T st (k + 1)) ⟨x1, x2, x3⟩ hc nd (by split <;> omega) (by split <;> omega) (by rw [x4]; exact nx.2.1) (fun z => by
            have z2 := k4 z
            have := nx.2.2 z2
            rw [if_neg (fun y => z2 y.1), x4]
            omega)
          exact ⟨L.cg rr fun h _ => sm h, re N 1 _ _ _ _ ln v _ L (Nat.le_refl _) x1 x2 x3 x4 fun _ => x5⟩
theorem yFs_q {st me : Int} (WT : yWT T) (BE : yBE T) (hr : yQR T B n rs) (hst : 0 ≤ st ∧ st < T 449 0) : ∀ (m : Nat) (k : Int) (E : yE) (pos made cnt : Int), 0 ≤ k → k + m ≤ T 453 st → 0 ≤ pos → me < cnt → yQD T B n me pos cnt st k m E (yFs rs T B n me st m k E pos made cnt)
  | 0, k, E, pos, made, cnt, hk, hm, hp, hc => by
    have o := yOp_b (T := T) (s := st) (k := k)
    refine ⟨fun c i hi => rfl, ?_, fun N _ => ⟨?_, fun j j1 j2 => ?_⟩⟩
    · dsimp only
      rw [show k + ((0 : Nat) : Int) = k by omega]
      exact Int.le_refl _
    · dsimp only [List.length_nil]
      rw [show cnt + ((0 : Nat) : Int) = cnt by omega, show k + ((0 : Nat) : Int) = k by omega]
      exact (yPh.nil (ub := pos + yOp T st k) ⟨hp, by omega⟩).cg (fun q => ⟨fun z => z.elim, fun z => by omega⟩) fun h _ => rfl
    · dsimp only [List.length_nil] at j2
      omega
  | m + 1, k, E, pos, made, cnt, hk, hm, hp, hc => by
    have a := yFd_q (me := me) (pos := pos) (made := made) (cnt := cnt) (E := E) WT BE hr hst ⟨hk, by omega⟩ hp hc
    unfold yFs
    cases hx : yFd rs T B n me (8 * st + k) k E pos made cnt with
    | inl e => exact trivial
    | inr x =>
      rw [hx] at a
      obtain ⟨E1, p1, m1, w1, l1⟩ := x
      obtain ⟨a1, a2, a3⟩ := a
      dsimp only at a1 a2 a3 ⊢
      have q1 : pos ≤ p1 := by
        have := (a3 _ (yAg_g cnt)).1.2.1.1
        omega
      have b := yFs_q (me := me) WT BE hr hst m (k + 1) E1 p1 m1 (cnt + l1.length) (by omega) (by omega) (by omega) (by omega)
      cases hy : yFs rs T B n me st m (k + 1) E1 p1 m1 (cnt + l1.length) with
      | inl e => exact trivial
      | inr x =>
        rw [hy] at b
        obtain ⟨E2, p2, m2, w2, l2⟩ := x
        obtain ⟨b1, b2, b3⟩ := b
        dsimp only at b1 b2 b3
        have ek : k + 1 + (m : Int) = k + ((m + 1 : Nat) : Int) := by omega
        rw [ek] at b2 b3
        refine ⟨fun c i hi => ?_, ?_, fun N hN => ?_⟩
        · dsimp only
          rw [b1 c i (by omega), a1 c i (by omega)]
        · dsimp only
          omega
        · obtain ⟨n1, n2⟩ := hN.app
          obtain ⟨A1, A2⟩ := a3 N n1
          obtain ⟨B1, B2⟩ := b3 N n2
          have z1 := A1.2.1.1
          have z2 := B1.2.1.1
          have eL : cnt + ((l1 ++ l2).length : Int) = cnt + l1.length + l2.length := by
            rw [List.length_append]
            omega
          dsimp only
          rw [eL]
          refine ⟨(yPh.app WT A1 B1 (by omega) (by omega) hc (fun f y1 y2 => by omega) ⟨Int.le_refl _, a2, Int.le_refl _, b2⟩ (by omega)).cg (fun q => by omega) fun h h0 => ?_, fun j j1 j2 jm i i1 i2 jf => ?_⟩
          · have es : ((m + 1 : Nat) : Int).toNat = (m : Int).toNat + 1 := by omega
            rw [es]
            show (h (8 * st + k) + 0) + _ = h (8 * st + k) + ySm _ _ (k + 1)
            omega
          · by_cases c : j < cnt + l1.length
            · have fk : 8 * st + i = 8 * st + k := by
                rcases A1.1.1 j j1 c with ⟨y1, y2⟩ | ⟨y1, y2⟩
                · rcases y2 with y2 | y2
                  · omega
                  · omega
                · omega
              have ei : i = k := by omega
              subst ei
              have := A2 j j1 c jm i (Int.le_refl _) (by omega) jf
              rw [b1 328 i (by omega), b1 329 i (by omega), b1 330 i (by omega)]
              exact this
            · have fk : k + 1 ≤ i := by
                rcases B1.1.1 j (by omega) j2 with ⟨y1, y2⟩ | ⟨y1, y2⟩
                · rcases y2 with y2 | y2
                  · omega
                  · omega
                · omega
              exact B2 j (by omega) j2 jm i fk i2 jf
end
theorem yS_q {T : yT} {B : yB} {n : Int} (WT : yWT T) (BE : yBE T) : ∀ d : Nat, yQR T B n (yS T B n d)
  | 0 => fun _ _ _ _ _ _ _ _ _ _ _ => trivial
  | d + 1 => by
    intro s ow pa hs0 hs1 ho pos made cnt hp hc
    obtain ⟨c1, c2, c3⟩ := WT.2.2 s hs0 hs1
    have bE := (BE s hs0 hs1).1
    unfold yS
    by_cases h3 : 200 ≤ made
    · rw [if_pos h3]
      exact trivial
    · rw [if_neg h3]
      have a := yFs_q (st := s) (me := cnt) (B := B) (n := n) WT BE (yS_q (B := B) (n := n) WT BE d) ⟨hs0, hs1⟩ (T 453 s).toNat 0 (fun _ _ => 0) pos (made + 1) (cnt + 1) (Int.le_refl _) (by omega) hp (by omega)
      cases hy : yFs (yS T B n d) T B n cnt s (T 453 s).toNat 0 (fun _ _ => 0) pos (made + 1) (cnt + 1) with
      | inl e => exact trivial
      | inr x =>
        rw [hy] at a
        obtain ⟨E, p1, m1, w1, l1⟩ := x
        obtain ⟨a1, a2, a3⟩ := a
        intro N hN
        obtain ⟨n1, n2⟩ := hN.cons
        obtain ⟨A1, A2⟩ := a3 N n2
        dsimp only at A1 A2
        have o0 : yOp T s 0 = 0 := if_pos rfl
        have o1 : yOp T s (0 + ((T 453 s).toNat : Int)) = 0 := by
          unfold yOp
          rw [show (0 + ((T 453 s).toNat : Int)).toNat = (T 453 s).toNat by omega, bE, if_pos rfl]
        rw [o0, o1, Int.add_zero, Int.add_zero] at A1
        have q := A1.2.1.1
        have x1 : N cnt 197 = pa := by rw [n1]; rfl
        have x2 : N cnt 198 = ow := by rw [n1]; rfl
        have x3 : N cnt 194 = pos := by rw [n1]; rfl
        have x4 : N cnt 195 = p1 - pos := by rw [n1]; rfl
        have x6 : N cnt 192 = 0 := by rw [n1]; rfl
        have nd : yNd T B n (N cnt) := by
          unfold yNd
          rw [x2, x3, x4, x6]
          refine ⟨by omega, ?_⟩
          rcases ho with ho | ⟨⟨st, k, g1, g2, g3⟩, g4⟩
          · exact Or.inl ⟨ho, rfl⟩
          · exact Or.inr ⟨st, k, g1, g2, g3, Or.inl ⟨g4, rfl⟩⟩
        have A3 := A1.cg (R' := fun q => 8 * s ≤ q ∧ q < 8 * s + ((T 453 s).toNat : Int)) (H' := fun h => ySm (fun i => h (8 * s + i)) (T 453 s).toNat 0) (fun q => by omega) fun h _ => by
          rw [show (((T 453 s).toNat : Int)).toNat = (T 453 s).toNat by omega]
        have wr := yPh.wrg (pa := pa) WT (m := (T 453 s).toNat) ⟨⟨hs0, hs1⟩, by omega⟩ A3 (by rw [show (0 : Int) + ((T 453 s).toNat : Int) = ((T 453 s).toNat : Int) by omega] at A2; exact A2) hc x1 (by omega)
        have T0 := yPh.tree (wr := yWr T B E s (T 453 s).toNat 0) A3 (by omega) ⟨x1, x2, x3, x4⟩ hc nd (fun _ => Or.inl x6) (fun q hq => ⟨s, ⟨hq.1, by omega⟩, c2, fun q' y1 y2 => ⟨y1, by omega⟩⟩) wr
        have eL2 : cnt + 1 + (l1.length : Int) = cnt + ((l1.length + 1 : Nat) : Int) := by omega
        rw [eL2] at T0
        dsimp only
        refine ⟨⟨x1, x2, x3, x4⟩, ⟨by rw [List.length_cons]; omega, fun k k1 k2 => ?_⟩, ?_⟩
        · rw [List.length_cons] at k2
          rcases A3.1.1 k (by omega) (by omega) with z | z <;> omega
        rw [List.length_cons]
        exact T0
