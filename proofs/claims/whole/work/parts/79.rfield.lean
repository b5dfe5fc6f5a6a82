/-! the reference's parser: a field -/
section
variable {t st n N p w f b : Int} {X G : Int → Int} {T U : yT} {s u : zS} {o : Option Int}
theorem pa_type_0n (h : pa_type G st f T p 0 = none) (hb : 0 ≤ b) : pa_type G st f T p b = none := by
  cases e : pa_type G st f T p b with
  | none => rfl
  | some x =>
    rcases pa_type_s e with ⟨c1, c2, c3, c4⟩ | ⟨c1, c2, c3, c4⟩
    · rw [h] at c4
      cases c4
    · unfold pa_type at h
      rw [if_neg (fun z => z.1 c1), if_neg (show ¬ (65 ≤ G p ∧ G p ≤ 90 ∧ G p ≠ 87) by omega)] at h
      unfold pa_plain at h
      rw [if_neg (show ¬ (G p = 98 ∨ G p = 119 ∨ G p = 87 ∨ G p = 122) by omega), if_neg (show ¬ G p = 114 by omega), if_pos c1, if_neg (by omega)] at h
      cases h
/-- rkf and the number of fields -/
def rkg (w y : Int) (s u : zS) : Prop := (∀ (f n : Nat) (i : Int), ¬ (n = 0 ∧ (f = 605 ∨ f = 606 ∨ 586 ≤ f ∧ f ≤ 593 ∧ i = w ∨ f = 585 ∧ i = y)) → u.1 f n i = s.1 f n i) ∧ u.2 = s.2 ∧ (-48 ≤ s.1 589 0 w ∧ s.1 589 0 w ≤ 207 → -48 ≤ u.1 589 0 w ∧ u.1 589 0 w ≤ 207)
theorem rkf.g {y : Int} (a : rkf w s u) : rkg w y s u := ⟨fun f n i h => a.1 f n i (by omega), a.2.1, a.2.2⟩
/-- the end of a field: how many bits of its byte are used, and the loop goes on -/
theorem r169_316 {zk : Nat → Int → Int → Int → zS → zR} {v : Int} (h : rS t X n N o s) : ∃ u, zf_169_316 zk 0 t st v s = zk 0 t st (if v = 8 then 0 else v) u ∧ rk s u ∧ rS t X n N (o.bind fun p => if v ≤ 8 then some p else none) u := by
  unfold zf_169_316 zf_169_338
  have k : ∀ g : Int, (g = 0 ∨ g = 1) → (zPz 606 0 g s fun s2 => if v = 8 then zk 0 t st 0 s2 else zk 0 t st v s2) = zk 0 t st (if v = 8 then 0 else v) (zp 606 0 0 g s) := fun g hg => by
    rw [zPz_ok hg]
    split <;> rfl
  rcases h.ob with ⟨e1, e2⟩ | ⟨e1, e2⟩
  · have m := h.g (g := 0) (Or.inl rfl)
    rw [if_pos rfl] at m
    rw [if_pos e1, k 0 (Or.inl rfl), e2]
    exact ⟨_, rfl, rk.rf.pw (Or.inr rfl), m⟩
  · rw [if_neg (show ¬ s.1 606 0 0 = 0 by omega), e2]
    dsimp only [Option.bind]
    by_cases c : 8 < v
    · have m := h.g (g := 0) (Or.inl rfl)
      rw [if_pos rfl] at m
      rw [if_pos c, k 0 (Or.inl rfl), if_neg (show ¬ v ≤ 8 by omega)]
      exact ⟨_, rfl, rk.rf.pw (Or.inr rfl), m⟩
    · have m := h.g (g := 1) (Or.inr rfl)
      rw [if_neg (by decide)] at m
      rw [if_neg c, k 1 (Or.inr rfl), if_pos (show v ≤ 8 by omega)]
      exact ⟨_, rfl, rk.rf.pw (Or.inr rfl), m⟩
/-- from the closing sign on -/
theorem r169_tail {zk : Nat → Int → Int → Int → zS → zR} (hX : pa_X X n) (h6 : 0 ≤ st ∧ st ≤ 5) (hw2 : 0 ≤ w ∧ w < 192) (hb : 0 ≤ b ∧ b ≤ 99) (h85 : 0 ≤ s.1 585 0 (6 * t + st) ∧ s.1 585 0 (6 * t + st) ≤ 8) (h89 : -48 ≤ s.1 589 0 w ∧ s.1 589 0 w ≤ 207) (h : rS t X n N o s) (hN : n ≤ N ∧ N ≤ 60000) :
    ∃ u b', (zC (zf_157 0 59 s) fun _ s18 => zg (6 * t) (zg ((6 * t) + st) (zn ((6 * t) + st) 24 (zg ((s18.1 585 0 ((6 * t) + st)) + 1) (zW 585 0 24 ((6 * t) + st) ((s18.1 585 0 ((6 * t) + st)) + 1) s18 fun s23 => zn w 192 (if (s23.1 587 0 w) = 110 then (zn w 192 (zg (b + (s23.1 589 0 w)) ((zf_169_316 zk 0 t st (b + (s23.1 589 0 w)) s23)))) else (if b = 0 then ((zf_169_316 zk 0 t st 0 s23)) else ((zf_169_316 zk 0 t st 99 s23)))))))))
      = zk 0 t st b' u ∧ rkg w (6 * t + st) s u ∧ u.1 585 0 (6 * t + st) = s.1 585 0 (6 * t + st) + 1 ∧ (∀ i : Nat, 586 ≤ i → i ≤ 593 → u.1 i 0 w = s.1 i 0 w) ∧ (b' = if (if s.1 587 0 w = 110 then b + s.1 589 0 w else if b = 0 then 0 else 99) = 8 then 0 else (if s.1 587 0 w = 110 then b + s.1 589 0 w else if b = 0 then 0 else 99)) ∧ rS t X n (N + 1) ((o.bind fun p => if pa_sg X n p = 59 then some (p + 1) else none).bind fun p => if (if s.1 587 0 w = 110 then b + s.1 589 0 w else if b = 0 then 0 else 99) ≤ 8 then some p else none) u := by
  have h1 := h.1
  obtain ⟨v, s1, e1, k1, k2, k3⟩ := r157 (c := 59) hX (by decide) h (by omega)
  rw [e1, show ∀ K : Int → zS → zR, zC (some (.inl v, s1)) K = K v s1 from fun K => rfl, zg_ok ⟨by omega, by omega⟩, zg_ok ⟨by omega, by omega⟩, zn_ok (by omega), k1.1 585 0 _ (by omega), zg_ok ⟨by omega, by omega⟩, zW_ok (by omega), zn_ok hw2]
  have l : ∀ i : Nat, 586 ≤ i → i ≤ 593 → (zp 585 0 (6 * t + st) (s.1 585 0 (6 * t + st) + 1) s1).1 i 0 w = s.1 i 0 w := fun i i1 i2 => (zp_nk (by omega)).trans (k1.1 i 0 w (by omega))
  have hS : rS t X n (N + 1) (o.bind fun p => if pa_sg X n p = 59 then some (p + 1) else none) (zp 585 0 (6 * t + st) (s.1 585 0 (6 * t + st) + 1) s1) := by
    obtain ⟨a1, a2, a3, a4, a5, a6⟩ := k2
    refine ⟨a1, (zp_nk (by decide)).trans a2, (zp_nk (by decide)).trans a3, ?_, fun i i1 i2 => (zp_nk (by decide)).trans (a5 i i1 i2), ?_⟩
    · rw [zp_nk (by decide)]
      exact a4
    · revert a6
      cases (o.bind fun p => if pa_sg X n p = 59 then some (p + 1) else none) with
      | none => exact fun a6 => (zp_nk (by decide)).trans a6
      | some p => exact fun a6 => ⟨(zp_nk (by decide)).trans a6.1, (zp_nk (by decide)).trans a6.2⟩
  have F : rkg w (6 * t + st) s (zp 585 0 (6 * t + st) (s.1 585 0 (6 * t + st) + 1) s1) := by
    refine ⟨fun f' n' i' hn => ?_, k1.2, fun h2 => ?_⟩
    · rw [zp_1, if_neg (fun z => hn ⟨z.2.1, by omega⟩)]
      exact k1.1 f' n' i' (by omega)
    · rw [l 589 (by decide) (by decide)]
      exact h2
  have e85 : (zp 585 0 (6 * t + st) (s.1 585 0 (6 * t + st) + 1) s1).1 585 0 (6 * t + st) = s.1 585 0 (6 * t + st) + 1 := zp_eq
  rw [l 587 (by decide) (by decide), l 589 (by decide) (by decide)]
  generalize zp 585 0 (6 * t + st) (s.1 585 0 (6 * t + st) + 1) s1 = s2 at l hS F e85 ⊢
  have fin : ∀ x : Int, ∃ u, zf_169_316 zk 0 t st x s2 = zk 0 t st (if x = 8 then 0 else x) u ∧ rkg w (6 * t + st) s u ∧ u.1 585 0 (6 * t + st) = s.1 585 0 (6 * t + st) + 1 ∧ (∀ i : Nat, 586 ≤ i → i ≤ 593 → u.1 i 0 w = s.1 i 0 w) ∧ rS t X n (N + 1) ((o.bind fun p => if pa_sg X n p = 59 then some (p + 1) else none).bind fun p => if x ≤ 8 then some p else none) u := by
    intro x
    obtain ⟨u, g1, g2, g3⟩ := r169_316 (zk := zk) (v := x) (st := st) hS
    refine ⟨u, g1, ⟨fun f' n' i' hn => (g2.1 f' n' i' (by omega)).trans (F.1 f' n' i' hn), g2.2.trans F.2.1, fun h2 => ?_⟩, (g2.1 585 0 _ (by omega)).trans e85, fun i i1 i2 => (g2.1 i 0 w (by omega)).trans (l i i1 i2), g3⟩
    rw [g2.1 589 0 w (by omega)]
    exact F.2.2 h2
  by_cases c1 : s.1 587 0 w = 110
  · obtain ⟨u, g1, g2, g3, g4, g5⟩ := fin (b + s.1 589 0 w)
    refine ⟨u, _, ?_, g2, g3, g4, rfl, ?_⟩
    · rw [if_pos c1, zn_ok hw2, zg_ok ⟨by omega, by omega⟩, if_pos c1]
      exact g1
    · rw [if_pos c1]
      exact g5
  · by_cases c2 : b = 0
    · obtain ⟨u, g1, g2, g3, g4, g5⟩ := fin 0
      refine ⟨u, _, ?_, g2, g3, g4, rfl, ?_⟩
      · rw [if_neg c1, if_pos c2, if_neg c1, if_pos c2]
        exact g1
      · rw [if_neg c1, if_pos c2]
        exact g5
    · obtain ⟨u, g1, g2, g3, g4, g5⟩ := fin 99
      refine ⟨u, _, ?_, g2, g3, g4, rfl, ?_⟩
      · rw [if_neg c1, if_neg c2, if_neg c1, if_neg c2]
        exact g1
      · rw [if_neg c1, if_neg c2]
        exact g5
end
