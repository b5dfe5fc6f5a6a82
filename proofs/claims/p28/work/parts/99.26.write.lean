/-! edits: a value is written into a node -/
/-- the bytes F behind it -/
def eW (T : yT) (N : Int → yN) (k v : Int) (F : yB) : yB := fun i =>
  if T 458 (N k 198) = 119 then (if i = N k 194 + 1 then zshr v 8 else if i = N k 194 then zand v 255 else F i)
  else if T 458 (N k 198) = 87 then (if i = N k 194 + 1 then zand v 255 else if i = N k 194 then zshr v 8 else F i)
  else if T 458 (N k 198) = 110 then (if i = N k 194 then zor (zand (F (N k 194)) (zxor (zshl (zshl 1 (T 459 (N k 198)) - 1) (T 460 (N k 198))) (-1))) (zshl v (T 460 (N k 198))) else F i)
  else if i = N k 194 then v else F i
/-- the reader r has these nodes by template q -/
def cTb (r q : Nat) (T : yT) (N : Int → yN) (L : Int) (s : zS) : Prop := s.1 321 r 0 = q + 1 ∧ q < s.2.1 ∧ (∀ (f : Nat) (i : Int), 448 ≤ f → f < 469 → s.1 f q i = T f i) ∧ cNd r N L s
/-- the row b holds F, n -/
def cBy (b : Nat) (F : yB) (n : Int) (s : zS) : Prop := s.1 1 b 0 = n ∧ ∀ i, 0 ≤ i → i < n → s.1 0 b i = F i
section
variable {T : yT} {B F : yB} {n L w : Int} {N : Int → yN} {s u : zS} {r q : Nat} {t k v : Int}
theorem cHo.tb {b : Nat} {C : yB} (H : cHo r q b T B C n N L w s) : cTb r q T N L s := ⟨H.1.1, H.1.2.1, H.1.2.2.2.2.1, H.2.1⟩
/-- only the row of the work has changed -/
def cWk (s u : zS) : Prop := (∀ (f n : Nat) (i : Int), ¬ (n = 2 ∧ f ≤ 1) → u.1 f n i = s.1 f n i) ∧ u.2 = s.2
theorem cWk.rf : cWk s s := ⟨fun _ _ _ _ => rfl, rfl⟩
theorem cWk.tr {v : zS} (a : cWk s u) (b : cWk u v) : cWk s v := ⟨fun f n i h => (b.1 f n i h).trans (a.1 f n i h), b.2.trans a.2⟩
theorem cTb.wk (h : cTb r q T N L s) (a : cWk s u) : cTb r q T N L u := by
  obtain ⟨h1, h2, h3, h4, h5⟩ := h
  exact ⟨(a.1 321 r 0 (by omega)).trans h1, by rw [a.2]; exact h2, fun f i f1 f2 => (a.1 f q i (by omega)).trans (h3 f i f1 f2), (a.1 199 r 0 (by omega)).trans h4, fun j j1 j2 c c1 c2 => (a.1 c r j (by omega)).trans (h5 j j1 j2 c c1 c2)⟩
/-- a numeric node lies in the file -/
theorem yNd.num {x : yN} (W : yWT T) (h : yNd T B n x) (kd : x 192 = 2 ∨ x 192 = 3 ∨ x 192 = 4) : ∃ st k, x 198 = 8 * st + k ∧ (0 ≤ st ∧ st < T 449 0) ∧ (0 ≤ k ∧ k < T 453 st) ∧ x 198 ≠ -1 ∧ (T 458 (x 198) = 98 ∨ T 458 (x 198) = 119 ∨ T 458 (x 198) = 87 ∨ T 458 (x 198) = 114 ∨ T 458 (x 198) = 110) ∧ 0 ≤ x 194 ∧ x 194 + x 195 ≤ n ∧ x 195 = (if T 458 (x 198) = 119 ∨ T 458 (x 198) = 87 then 2 else 1) ∧ (x 192 = 4 ↔ T 458 (x 198) = 110) ∧ (x 192 = 3 ↔ T 458 (x 198) = 114) ∧ yWF T st k := by
  obtain ⟨o, h⟩ := h
  rcases h with h | ⟨st, k, h1, h2, h3, h⟩
  · omega
  · rcases h with h | h | ⟨a1, a2, a3, V, a4⟩
    · omega
    · omega
    · have wf := (W.2.2 st h2.1 h2.2).2.2 k h3.1 h3.2
      have ty := wf.1
      have c8 := wf.2.2.2.2.2.2.1
      have c16 := wf.2.2.2.2.2.2.2.1
      rw [← h1] at ty c8 c16
      have nk : T 458 (x 198) ≠ 115 ∧ T 458 (x 198) ≠ 122 := by
        unfold yKd at a3
        refine ⟨fun z => ?_, fun z => ?_⟩
        · rw [z] at a3
          have a3 : x 192 = 5 := a3
          omega
        · rw [z] at a3
          have a3 : x 192 = 5 := a3
          omega
      have l := yPl_q a4 o.1
      have k4 : x 192 = 4 ↔ T 458 (x 198) = 110 := by
        rw [a3]
        unfold yKd
        by_cases z : T 458 (x 198) = 110
        · rw [if_pos z]
          exact ⟨fun _ => z, fun _ => rfl⟩
        · rw [if_neg z]
          refine ⟨fun y => ?_, fun y => absurd y z⟩
          split at y
          · exact absurd y (by decide)
          · split at y
            · exact absurd y (by decide)
            · split at y <;> exact absurd y (by decide)
      have k3 : x 192 = 3 ↔ T 458 (x 198) = 114 := by
        rw [a3]
        exact yKd_3
      have len : x 195 = if T 458 (x 198) = 119 ∨ T 458 (x 198) = 87 then 2 else 1 := by
        unfold yPl at a4
        rw [if_neg nk.1, if_neg nk.2] at a4
        by_cases z : T 458 (x 198) = 110
        · rw [if_neg (by omega)]
          exact l.2.2 z
        · rw [if_neg z] at a4
          by_cases z2 : T 458 (x 198) = 119 ∨ T 458 (x 198) = 87
          · have e := c16 z2
            simp only [if_pos e] at a4
            rw [if_pos z2]
            generalize (if T 458 (x 198) = 87 then 256 * B (x 194) + B (x 194 + 1) else B (x 194) + 256 * B (x 194 + 1)) = vv at a4
            split at a4
            · cases a4
            · split at a4
              · cases a4
              · injection a4 with a4
                exact (congrArg Prod.fst a4).symm
          · have e : T 459 (x 198) = 8 := c8 (by omega)
            simp only [if_neg (show ¬ T 459 (x 198) = 16 by omega)] at a4
            rw [if_neg z2]
            split at a4
            · cases a4
            · split at a4
              · cases a4
              · injection a4 with a4
                exact (congrArg Prod.fst a4).symm
      have l1 : 1 ≤ x 195 := by
        rw [len]
        split <;> decide
      exact ⟨st, k, h1, h2, h3, by omega, by omega, o.1, by omega, len, k4, k3, wf⟩
theorem z81 (W : yWT T) (H : cTb r q T N L s) (S : ySh T B n N L w) (hk : 0 ≤ k ∧ k < L) (f : N k 198 ≠ -1) : zf_81 r k s = zi (T 458 (N k 198)) s := by
  obtain ⟨h1, h2, h3, h4, h5⟩ := H
  have hL := S.1
  have f48 := (S.nd hk).f W f
  unfold zf_81 zf_81_24
  rw [z27 h4, zC_zi, if_pos hk, if_neg (by decide), zn_ok (by omega), h5 k hk.1 hk.2 198 (by decide) (by decide), if_neg f, zO_ok h1 h2, zn_ok (by omega), h3 458 _ (by decide) (by decide)]
theorem z83 (W : yWT T) (H : cTb r q T N L s) (S : ySh T B n N L w) (hk : 0 ≤ k ∧ k < L) (f : N k 198 ≠ -1) (hb : 0 ≤ T 459 (N k 198) ∧ T 459 (N k 198) ≤ 16) : zf_83 r k s = zi (zshl 1 (T 459 (N k 198)) - 1) s := by
  obtain ⟨h1, h2, h3, h4, h5⟩ := H
  have hL := S.1
  have f48 := (S.nd hk).f W f
  have b := zshl1_le hb
  unfold zf_83 zf_83_24
  rw [z27 h4, zC_zi, if_pos hk, if_neg (by decide), zn_ok (by omega), h5 k hk.1 hk.2 198 (by decide) (by decide), if_neg f, zO_ok h1 h2, zn_ok (by omega), h3 459 _ (by decide) (by decide), zg_ok ⟨by omega, by omega⟩]
theorem z84 (W : yWT T) (H : cTb r q T N L s) (S : ySh T B n N L w) (hk : 0 ≤ k ∧ k < L) (f : N k 198 ≠ -1) (ty : T 458 (N k 198) = 110) : zf_84 r k s = zi (T 460 (N k 198)) s := by
  have f48 := (S.nd hk).f W f
  have hL := S.1
  unfold zf_84
  rw [z81 W H S hk f, zC_zi, if_pos ty]
  obtain ⟨h1, h2, h3, h4, h5⟩ := H
  rw [zO_ok h1 h2, zn_ok (by omega), h5 k hk.1 hk.2 198 (by decide) (by decide), zn_ok (by omega), h3 460 _ (by decide) (by decide)]
/-- a byte of the work -/
theorem zb_3 (h : cBy 2 F n s) (hn : n ≤ 160) {p x : Int} (hp : 0 ≤ p ∧ p < n) : ∃ u, zf_3 2 p x s = zi 0 u ∧ cWk s u ∧ cBy 2 (fun i => if i = p then x else F i) n u := by
  unfold zf_3
  rw [if_neg (by omega), h.1, if_neg (by omega), zW_ok (by rw [show zlB 2 = 160 from rfl]; omega)]
  refine ⟨_, rfl, ⟨fun f m i hn => zp_n3 (by omega), rfl⟩, (zp_nk (by decide)).trans h.1, fun i i1 i2 => ?_⟩
  dsimp only
  by_cases e : i = p
  · rw [if_pos e, e, zp_eq]
  · rw [if_neg e, zp_ni e]
    exact h.2 i i1 i2
theorem C11 (W : yWT T) (H : cTb r q T N L s) (S : ySh T B n N L w) (hn : n ≤ 160) (hB : cBy 2 F n s) (hk : 0 ≤ k ∧ k < L) (kd : N k 192 = 2 ∨ N k 192 = 3 ∨ N k 192 = 4) : ∃ u, zf_11 0 r k v s = zi 0 u ∧ cWk s u ∧ cBy 2 (eW T N k v F) n u := by
  have hL := S.1
  obtain ⟨st, j, f1, f2, f3, f4, ty, o0, on, ol, k4, k3, wf⟩ := (S.nd hk).num W kd
  have g := H.2.2.2.2 k hk.1 hk.2
  have e194 := g 194 (by decide) (by decide)
  unfold zf_11
  rw [zn_ok (by omega), z81 W H S hk f4, zC_zi, e194]
  by_cases c87 : T 458 (N k 198) = 87
  · rw [if_pos (Or.inr c87)] at ol
    rw [if_pos c87]
    obtain ⟨u1, a1, a2, a3⟩ := zb_3 (x := zshr v 8) hB hn (p := N k 194) (by omega)
    rw [a1, zC_zi, zg_ok ⟨by omega, by omega⟩]
    obtain ⟨u2, b1, b2, b3⟩ := zb_3 (x := zand v 255) a3 hn (p := N k 194 + 1) (by omega)
    rw [b1, zC_zi]
    refine ⟨u2, rfl, a2.tr b2, b3.1, fun i i1 i2 => (b3.2 i i1 i2).trans ?_⟩
    unfold eW
    rw [if_neg (show ¬ T 458 (N k 198) = 119 by omega), if_pos c87]
  · rw [if_neg c87]
    by_cases c110 : T 458 (N k 198) = 110
    · rw [if_neg (by omega)] at ol
      have wb := wf.2.2.2.2.2.1
      rw [← f1] at wb
      have wb := wb c110
      rw [if_pos c110, z84 W H S hk f4 c110, zC_zi, zb_2 hB.1 hB.2 (by rw [show zlB 2 = 160 from rfl]; omega), zC_zi, if_pos (show 0 ≤ N k 194 ∧ N k 194 < n by omega), z83 W H S hk f4 (by omega), zC_zi]
      obtain ⟨u1, a1, a2, a3⟩ := zb_3 (x := zor (zand (F (N k 194)) (zxor (zshl (zshl 1 (T 459 (N k 198)) - 1) (T 460 (N k 198))) (-1))) (zshl v (T 460 (N k 198)))) hB hn (p := N k 194) (by omega)
      rw [a1, zC_zi]
      refine ⟨u1, rfl, a2, a3.1, fun i i1 i2 => (a3.2 i i1 i2).trans ?_⟩
      unfold eW
      rw [if_neg (show ¬ T 458 (N k 198) = 119 by omega), if_neg c87, if_pos c110]
    · rw [if_neg c110]
      by_cases c119 : T 458 (N k 198) = 119
      · rw [if_pos (Or.inl c119)] at ol
        rw [if_pos c119]
        obtain ⟨u1, a1, a2, a3⟩ := zb_3 (x := zand v 255) hB hn (p := N k 194) (by omega)
        rw [a1, zC_zi, zg_ok ⟨by omega, by omega⟩]
        obtain ⟨u2, b1, b2, b3⟩ := zb_3 (x := zshr v 8) a3 hn (p := N k 194 + 1) (by omega)
        rw [b1, zC_zi]
        refine ⟨u2, rfl, a2.tr b2, b3.1, fun i i1 i2 => (b3.2 i i1 i2).trans ?_⟩
        unfold eW
        rw [if_pos c119]
      · rw [if_neg (by omega)] at ol
        rw [if_neg c119]
        obtain ⟨u1, a1, a2, a3⟩ := zb_3 (x := v) hB hn (p := N k 194) (by omega)
        rw [a1, zC_zi]
        refine ⟨u1, rfl, a2, a3.1, fun i i1 i2 => (a3.2 i i1 i2).trans ?_⟩
        unfold eW
        rw [if_neg c119, if_neg c87, if_neg c110]
/-- only the bytes and the values of nodes have changed in the reference -/
def mWk (s u : zS) : Prop := (∀ (f n : Nat) (i : Int), ¬ (n = 0 ∧ (f = 595 ∨ f = 616)) → u.1 f n i = s.1 f n i) ∧ u.2 = s.2
/-- the reference has these nodes, but maybe for values that were written -/
def mTb (t : Int) (T : yT) (N : Int → yN) (L : Int) (s : zS) : Prop := s.1 610 0 0 = L ∧ ∀ j, 0 ≤ j → j < L → s.1 612 0 j = N j 192 ∧ s.1 613 0 j = N j 193 ∧ s.1 614 0 j = N j 194 ∧ s.1 615 0 j = N j 195 ∧ s.1 617 0 j = N j 197 ∧ s.1 618 0 j = (if N j 198 = -1 then -1 else 48 * t + N j 198) ∧ (N j 192 = 4 → s.1 619 0 j = 8 - T 460 (N j 198) - T 459 (N j 198))
def mBy (F : yB) (n : Int) (s : zS) : Prop := s.1 594 0 0 = n ∧ ∀ i, 0 ≤ i → i < n → s.1 595 0 i = F i
theorem mNd.tb (h : mNd t T N L s) : mTb t T N L s := ⟨h.1, fun j j1 j2 => by
  obtain ⟨h1, h2, h3, h4, h5, h6, h7, h8⟩ := h.2 j j1 j2
  exact ⟨h1, h2, h3, h4, h6, h7, h8⟩⟩
theorem mTb.wk (h : mTb t T N L s) (a : mWk s u) : mTb t T N L u := ⟨(a.1 610 0 0 (by omega)).trans h.1, fun j j1 j2 => by
  rw [a.1 612 0 j (by omega), a.1 613 0 j (by omega), a.1 614 0 j (by omega), a.1 615 0 j (by omega), a.1 617 0 j (by omega), a.1 618 0 j (by omega), a.1 619 0 j (by omega)]
  exact h.2 j j1 j2⟩
theorem mWk.tr {v : zS} (a : mWk s u) (b : mWk u v) : mWk s v := ⟨fun f n i h => (b.1 f n i h).trans (a.1 f n i h), b.2.trans a.2⟩
end
