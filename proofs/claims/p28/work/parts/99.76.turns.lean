/-! THE LAW'S turns -/
section
variable {w w' : wW} {A A' : aA} {s u : zS} {m M : Nat} {R : Int → zS → Prop} {L : Nat} {xs : Nat → Int32} {zk : Nat → Nat → Nat → Nat → Int → Int → zS → zR} {t z : Int}
theorem l883 (I : wI w A) (h : lQ A w m s) (ht : 0 ≤ t ∧ t ≤ 40) (k : ∀ u, lQ A w (m + 400) u → zw (zk 0 0 0 0 1 (t + 1) u) R) : zw (zf_0_883 L xs zk 0 0 0 0 1 t z s) R := by
  unfold zf_0_883
  rw [if_neg (by decide)]
  refine zw_C' (l129 I h (Nat.le_refl _)) fun v u g => ?_
  rw [g.1, if_neg (by decide), zg_ok ⟨by omega, by omega⟩]
  exact k u g.2
/-- behind an edit -/
theorem l883T {v : Int} (g : lT (m + 1) v u) (ht : 0 ≤ t ∧ t ≤ 40) (k : ∀ A' w' u, wI w' A' → lQ A' w' (m + 401) u → zw (zk 0 0 0 0 1 (t + 1) u) R) : zw (zf_0_883 L xs zk 0 0 0 0 v t z u) R := by
  obtain ⟨rfl, A', w', I', h'⟩ := g
  exact l883 I' h' ht fun u h => k A' w' u I' (h.mono (by omega))
theorem low3 {x n : Int} (hn : 0 < n ∧ n ≤ 2147483647) : zf_90 x n s = zi (zrem (zand x 2147483647) n) s := by
  unfold zf_90
  rw [if_neg (by omega)]
/-- the same numbers, written anew -/
theorem lQ.same (h : lQ A w m s) (e1 : ∀ i, w'.1 i = w.1 i) (e2 : ∀ i, w'.2.1 i = w.2.1 i) (e3 : ∀ i, w'.2.2 i = w.2.2 i) : lQ A w' m s := ⟨h.1, h.2.1, ⟨fun i => (h.2.2.1.1 i).trans (e1 i).symm, fun i => (h.2.2.1.2.1 i).trans (e2 i).symm, fun i => (h.2.2.1.2.2 i).trans (e3 i).symm⟩, h.2.2.2⟩
/-- set of the reference -/
theorem l721 {v to d cn : Int} (I' : wI w' A') (h : lQ A w m s) (hq : ∀ i, w'.2.2 i = if i = 3 then w.2.2 3 + d else w.2.2 i) (e1 : ∀ i, w'.1 i = w.1 i) (e2 : ∀ i, w'.2.1 i = w.2.1 i) (b1 : 0 ≤ w.2.2 1 ∧ w.2.2 1 ≤ 7) (b3 : 0 ≤ w.2.2 3 ∧ w.2.2 3 ≤ 100) (hd : d = 0 ∨ d = 1) (ht : 0 ≤ t ∧ t ≤ 40) (hv : v = if cn = 0 then -1003 else w'.2.2 3)
    (c : ∀ u, lQ A w' m u → zw (zf_91 0 3 (8 + 3 * w'.2.2 1) to 0 u) fun x u => x = v ∧ lQ A' w' (m + 1) u) (k : ∀ A' w' u, wI w' A' → lQ A' w' (m + 401) u → zw (zk 0 0 0 0 1 (t + 1) u) R) : zw (zf_0_721 L xs zk 0 0 0 0 t z to cn 0 3 (w.2.2 3) d s) R := by
  unfold zf_0_721
  rw [zg_ok ⟨by omega, by omega⟩, zW_ok (by decide), zn_ok (by decide)]
  have h1 : lQ A w' m (zp 578 0 3 (w.2.2 3 + d) s) := (h.q (i0 := 3) (v := w.2.2 3 + d) (Q := w'.2.2) hq).same e1 e2 fun i => rfl
  have q1 : w'.2.2 1 = w.2.2 1 := (hq 1).trans (if_neg (by decide))
  rw [h1.2.2.1.2.2, zg_ok ⟨by omega, by omega⟩, zg_ok ⟨by omega, by omega⟩]
  refine zw_C' (c _ h1) fun x u g => ?_
  have k755 : ∀ y : Int, y = v → zw (zf_0_755 L xs zk 0 0 0 0 t z x y u) R := fun y hy => by
    unfold zf_0_755
    rw [if_pos (g.1.trans hy.symm)]
    exact l883 I' g.2 ht fun u h => k A' w' u I' (h.mono (by omega))
  by_cases c0 : cn = 0
  · rw [if_pos c0] at hv ⊢
    exact k755 _ hv.symm
  · rw [if_neg c0] at hv ⊢
    rw [zn_ok (by decide), g.2.2.2.1.2.2]
    exact k755 _ hv.symm
theorem l686 {to cn : Int} (I : wI w A) (h : lQ A w m s) (ht : 0 ≤ t ∧ t ≤ 40) (hc : cn = 0 ∧ ¬ ((0 ≤ to ∧ to < 256) ∧ w.2.2 3 < 29) ∨ cn = 1 ∧ (0 ≤ to ∧ to < 256) ∧ w.2.2 3 < 29) (k : ∀ A' w' u, wI w' A' → lQ A' w' (m + 401) u → zw (zk 0 0 0 0 1 (t + 1) u) R) : zw (zf_0_686 L xs zk 0 0 0 0 t z to cn s) R := by
  have k2 := I.1.2.1
  have k7 := I.1.2.2.2.2.2.2
  have ok := I.2.2.2.2.2.2.2.2
  unfold zf_0_686
  rcases hc with ⟨rfl, hc⟩ | ⟨rfl, hc, h29⟩
  · rw [if_pos rfl, zn_ok (by decide), h.2.2.1.2.2]
    unfold zf_0_705
    rw [zW_ok (by decide), zn_ok (by decide), if_pos rfl]
    have h1 := (h.q (i0 := 2) (v := w.2.2 2) (Q := w.2.2) fun i => by
      by_cases c : i = 2
      · rw [if_pos c, c]
      · rw [if_neg c])
    have h1 : lQ A w m (zp 578 0 2 (w.2.2 2) s) := h1
    rw [h1.2.2.1.2.2]
    refine l721 (w' := w) (v := -1003) I h1 (fun i => ?_) (fun i => rfl) (fun i => rfl) k2 (by omega) (Or.inl rfl) ht (by rw [if_pos rfl]) (fun u h => l91_3 h ok ((ed_set I).2 hc) (Or.inr ⟨rfl, rfl⟩)) k
    by_cases c : i = 3
    · rw [if_pos c, c]
      omega
    · rw [if_neg c]
  · rw [if_neg (by decide)]
    unfold zf_0_705
    rw [zW_ok (by decide), zn_ok (by decide), if_neg (by decide)]
    have h1 := h.q (i0 := 2) (v := to) (Q := fun i => if i = 2 then to else w.2.2 i) fun i => rfl
    have r3 : _ = w.2.2 3 := h1.2.2.1.2.2 3
    rw [r3]
    obtain ⟨A', e, I'⟩ := (ed_set (v := to) I).1 (w.1, w.2.1, wQ w to) hc h29 rfl rfl rfl rfl (fun i => rfl) (fun i => rfl)
    refine l721 (w := (w.1, w.2.1, fun i => if i = 2 then to else w.2.2 i)) (w' := (w.1, w.2.1, wQ w to)) (v := w.2.2 3 + 1) I' h1 (fun i => rfl) (fun i => rfl) (fun i => rfl) k2 (show 0 ≤ w.2.2 3 ∧ w.2.2 3 ≤ 100 by omega) (Or.inr rfl) ht (by rw [if_neg (by decide)]; rfl) (fun u h => l91_3 h ok e (Or.inl rfl)) k
/-- repair, and what can't be set -/
theorem l782 {cn : Int} (I : wI w A) (h : lQ A w m s) (ht : 0 ≤ t ∧ t ≤ 40) (hc : cn = 0 ∧ 29 ≤ w.2.2 3 ∨ cn = 1 ∧ w.2.2 3 < 29) (k : ∀ A' w' u, wI w' A' → lQ A' w' (m + 401) u → zw (zk 0 0 0 0 1 (t + 1) u) R) : zw (zf_0_782 L xs zk 0 0 0 0 t z cn s) R := by
  have k7 := I.1.2.2.2.2.2.2
  have ok := I.2.2.2.2.2.2.2.2
  have lb := zrem_b (x := zand z 2147483647) (n := 3) zand31 (by decide)
  have fin : ∀ (A' : aA) (w' : wW) (u : zS), wI w' A' → lQ A' w' (m + 1) u → zw (zf_0_883 L xs zk 0 0 0 0 1 t z u) R := fun A' w' u I' h' => l883 I' h' ht fun u h => k A' w' u I' (h.mono (by omega))
  have k873 : ∀ (x y : Int) (A' : aA) (w' : wW) (u : zS), x = y → wI w' A' → lQ A' w' (m + 1) u → zw (zf_0_873 L xs zk 0 0 0 0 t z x y u) R := fun x y A' w' u hxy I' h' => by
    unfold zf_0_873
    rw [if_pos hxy]
    exact fin A' w' u I' h'
  -- nothing is counted
  have k0 : (cn = 0 ∨ 0 < zrem (zand z 2147483647) 3) → zw (zf_0_808 L xs zk 0 0 0 0 t z cn 0 3 (w.2.2 3) 0 s) R := fun c => by
    unfold zf_0_808
    rw [zg_ok ⟨by omega, by omega⟩, zW_ok (by decide)]
    have h1 : lQ A w m (zp 578 0 3 (w.2.2 3 + 0) s) := h.q (i0 := 3) (v := w.2.2 3 + 0) (Q := w.2.2) fun i => by
      by_cases c : i = 3
      · rw [if_pos c, c]
        omega
      · rw [if_neg c]
    refine lq_p (low3 (by decide)) ?_
    by_cases d : zrem (zand z 2147483647) 3 ≤ 0
    · have hc : cn = 0 ∧ 29 ≤ w.2.2 3 := by omega
      rw [if_pos d]
      refine zw_C' (l91_4 h1 ok ((ed_rep I).2 hc.2) (Or.inr ⟨rfl, rfl⟩)) fun x u g => ?_
      rw [if_pos hc.1]
      exact k873 _ _ A w u g.1 I g.2
    · rw [if_neg d]
      obtain ⟨v12, e1, a1, a2⟩ := l90 (s := zp 578 0 3 (w.2.2 3 + 0) s) (x := zshr z 2) (n := 3) (by decide)
      refine lq_p e1 ?_
      rw [zg_ok ⟨by omega, by omega⟩]
      refine zw_C' (l91_3 h1 ok (ed_noset I (by omega)) (Or.inr ⟨rfl, rfl⟩)) fun x u g => ?_
      rw [if_pos g.1]
      exact fin A w u I g.2
  unfold zf_0_782
  rw [zn_ok (by decide), h.2.2.1.2.2]
  rcases hc with ⟨rfl, hc⟩ | ⟨rfl, hc⟩
  · rw [if_pos rfl]
    exact k0 (Or.inl rfl)
  · rw [if_neg (by decide)]
    refine lq_p (low3 (by decide)) ?_
    by_cases d : zrem (zand z 2147483647) 3 = 0
    · rw [if_pos d]
      unfold zf_0_808
      rw [zg_ok ⟨by omega, by omega⟩, zW_ok (by decide)]
      have h1 := h.q (i0 := 3) (v := w.2.2 3 + 1) (Q := fun i => if i = 3 then w.2.2 3 + 1 else w.2.2 i) fun i => rfl
      refine lq_p (low3 (by decide)) ?_
      rw [if_pos (by omega)]
      obtain ⟨A', e, I'⟩ := (ed_rep I).1 (w.1, w.2.1, fun i => if i = 3 then w.2.2 3 + 1 else w.2.2 i) hc rfl rfl rfl rfl (fun i => rfl) (fun i => rfl)
      refine zw_C' (l91_4 h1 ok e (Or.inl rfl)) fun x u g => ?_
      rw [if_neg (by decide), zn_ok (by decide), g.2.2.2.1.2.2]
      exact k873 _ _ A' _ u g.1 I' g.2
    · rw [if_neg d]
      have e := k0
      unfold zf_0_808 at e ⊢
      rw [zg_ok ⟨by omega, by omega⟩, zW_ok (by decide)]
      have h1 : lQ A w m (zp 578 0 3 (w.2.2 3 + 0) s) := h.q (i0 := 3) (v := w.2.2 3 + 0) (Q := w.2.2) fun i => by
        by_cases c : i = 3
        · rw [if_pos c, c]
          omega
        · rw [if_neg c]
      refine lq_p (low3 (by decide)) ?_
      rw [if_neg (by omega)]
      obtain ⟨v12, e1, a1, a2⟩ := l90 (s := zp 578 0 3 (w.2.2 3 + 0) s) (x := zshr z 2) (n := 3) (by decide)
      refine lq_p e1 ?_
      rw [zg_ok ⟨by omega, by omega⟩]
      refine zw_C' (l91_3 h1 ok (ed_noset I (by omega)) (Or.inr ⟨rfl, rfl⟩)) fun x u g => ?_
      rw [if_pos g.1]
      exact fin A w u I g.2
/-- all the turns -/
theorem l525 : ∀ (j F : Nat) (t : Int) (m : Nat) (A : aA) (w : wW) (s : zS), j < F → t + j = 36 → 0 ≤ t → wI w A → lQ A w m s → m + 401 * j ≤ M → zw (zf_0_525 L xs F 0 0 0 0 1 t s) fun r u => r = 1 ∧ u.2.2 ≤ M := by
  intro j
  induction j with
  | zero =>
    intro F t m A w s hF ht t0 I h hM
    obtain ⟨F, rfl⟩ : ∃ M, F = M + 1 := ⟨F - 1, by omega⟩
    unfold zf_0_525
    rw [if_pos (by omega)]
    exact zw_z1 ⟨rfl, by have := h.2.2.2; omega⟩
  | succ j ih =>
    intro F t m A w s hF ht t0 I h hM
    obtain ⟨F, rfl⟩ : ∃ M, F = M + 1 := ⟨F - 1, by omega⟩
    have go : ∀ (A' : aA) (w' : wW) (u : zS), wI w' A' → lQ A' w' (m + 401) u → zw ((fun y0 y1 y2 y3 y4 y5 y => zf_0_525 L xs F y0 y1 y2 y3 y4 y5 y) 0 0 0 0 1 (t + 1) u) fun r u => r = 1 ∧ u.2.2 ≤ M := fun A' w' u I' h' => ih F (t + 1) (m + 401) A' w' u (by omega) (by omega) (by omega) I' h' (by omega)
    have ht40 : 0 ≤ t ∧ t ≤ 40 := by omega
    unfold zf_0_525
    rw [if_neg (by omega), if_neg (by decide), zg_ok ⟨by omega, by omega⟩]
    obtain ⟨y, e1⟩ := l89 (L := L) (xs := xs) (s := s) (k := 11 + t) (by omega)
    obtain ⟨act, e2, a1, a2⟩ := l90 (s := s) (x := y) (n := 8) (by decide)
    refine lq_p e1 (lq_p e2 ?_)
    by_cases c3 : 3 ≤ act
    · rw [if_pos c3]
      by_cases d3 : act = 3
      · rw [if_pos d3]
        exact zw_C' (l143 I h (Or.inl rfl)) fun v u g => l883T g ht40 go
      · rw [if_neg d3]
        by_cases c6 : 6 ≤ act
        · rw [if_pos c6]
          by_cases d6 : act = 6
          · rw [if_pos d6]
            obtain ⟨to, e3, b1, b2⟩ := l90 (s := s) (x := zshr y 4) (n := 300) (by decide)
            refine lq_p e3 ?_
            rw [zg_ok ⟨by omega, by omega⟩]
            by_cases f1 : to - 10 < 0
            · rw [if_pos f1]
              exact l686 I h ht40 (Or.inl ⟨rfl, by omega⟩) go
            · rw [if_neg f1]
              by_cases f2 : 256 ≤ to - 10
              · rw [if_pos f2]
                exact l686 I h ht40 (Or.inl ⟨rfl, by omega⟩) go
              · rw [if_neg f2, zn_ok (by decide), h.2.2.1.2.2]
                by_cases f3 : 29 ≤ w.2.2 3
                · rw [if_pos f3]
                  exact l686 I h ht40 (Or.inl ⟨rfl, by omega⟩) go
                · rw [if_neg f3]
                  exact l686 I h ht40 (Or.inr ⟨rfl, by omega, by omega⟩) go
          · rw [if_neg d6, zn_ok (by decide), h.2.2.1.2.2]
            by_cases f3 : 29 ≤ w.2.2 3
            · rw [if_pos f3]
              exact l782 I h ht40 (Or.inl ⟨rfl, f3⟩) go
            · rw [if_neg f3]
              exact l782 I h ht40 (Or.inr ⟨rfl, by omega⟩) go
        · rw [if_neg c6]
          by_cases d4 : act = 4
          · rw [if_pos d4]
            unfold zf_0_626
            exact zw_C' (l144 I h (Or.inr rfl)) fun v u g => l883T g ht40 go
          · rw [if_neg d4]
            unfold zf_0_626
            exact zw_C' (l144 I h (Or.inl rfl)) fun v u g => l883T g ht40 go
    · rw [if_neg c3]
      exact zw_C' (l143 I h (Or.inr rfl)) fun v u g => l883T g ht40 go
end
