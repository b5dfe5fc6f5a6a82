/-! WHAT THE CALLS THAT CHANGE NOTHING ANSWER when the file is one of the law's -/
section
variable {A : aA} {P : Nat → Int} {a : Int} {N : Nat}
/-- one template, the law's; the file lies as it should; the sums are right -/
def qA (A : aA) (P : Nat → Int) (a : Int) (N : Nat) : Prop := A.1 522 0 = 1 ∧ tpH (A.2 0) ∧ LY (A.1 2) P a N (A.1 3 0) ∧ LSm (A.1 2) P a N
theorem qA.rd (q : qA A P a N) : ∃ m w, aRd A 0 = .inr (P N + 3, m, w, ndL (A.1 2) P a N) := q.2.2.1.rd q.2.1
theorem qA.ch (q : qA A P a N) : aChosen A = 0 := by
  obtain ⟨m, w, e⟩ := q.rd
  unfold aChosen
  rw [q.1]
  show aBest A 0 1 (if aFine (aRd A 0) = true ∧ ((-1 : Int) = -1 ∨ A.2 (-1 : Int).toNat 448 0 < A.2 0 448 0) then ((0 : Nat) : Int) else -1) = 0
  rw [e, if_pos ⟨rfl, Or.inl rfl⟩]
  rfl
theorem qA.ct (q : qA A P a N) : aCt A = A.2 0 := by
  unfold aCt
  rw [q.ch]
  rfl
theorem qA.nd (q : qA A P a N) : aNodes A = ndL (A.1 2) P a N := by
  obtain ⟨m, w, e⟩ := q.rd
  unfold aNodes
  rw [q.ch, if_neg (by decide), show (0 : Int).toNat = 0 from rfl, e]
theorem qA.nn (q : qA A P a N) : aNn A = yNs (ndL (A.1 2) P a N) := by
  unfold aNn
  rw [q.nd]
theorem qA.ln (q : qA A P a N) : aLn A = 9 + 3 * N := by
  unfold aLn
  rw [q.nd, ndL_len]
  omega
theorem qA.fault (q : qA A P a N) : sFault 0 0 A = .inl 0 ∧ sFault 0 1 A = .inl (-1) := by
  obtain ⟨m, w, e⟩ := q.rd
  have h := q.1
  constructor
  · unfold sFault
    rw [if_pos (by omega), show (0 : Int).toNat = 0 from rfl, e]
    rfl
  · unfold sFault
    rw [if_pos (by omega), show (0 : Int).toNat = 0 from rfl, e]
    rfl
theorem qA.wrong (q : qA A P a N) : aWrong A = 0 := by
  unfold aWrong
  rw [q.ch, if_neg (by decide), q.nd]
  exact ws_0 q.2.1 q.2.2.1 q.2.2.2
theorem qA.node (q : qA A P a N) {j w : Int} (h0 : 0 ≤ j) (h1 : j < 9 + 3 * N) (w0 : 0 ≤ w ∧ w ≤ 6) : sNode j w A = .inl (if w = 6 then 1 else yNs (ndL (A.1 2) P a N) j (192 + w.toNat)) := by
  unfold sNode
  rw [q.ln, if_pos ⟨h0, h1⟩, if_pos w0, q.ct, q.nn, wg_0 q.2.1 q.2.2.1 q.2.2.2 h0 h1]
  rfl
theorem qA.r3 (q : qA A P a N) : aNn A (8 + 3 * N) 192 = 3 ∧ aNn A (8 + 3 * N) 198 = 7 ∧ aNn A (8 + 3 * N) 196 = A.1 2 (P N + 2) := by
  rw [q.nn, nd_l.2.2]
  exact ⟨rfl, rfl, rfl⟩
theorem qA.rs (q : qA A P a N) : yRs (aCt A) 7 = 1 := by
  unfold yRs
  rw [q.ct, q.2.1.f463_7, q.2.1.f456_1]
theorem qA.at1 (q : qA A P a N) {r : Int} (h0 : 0 ≤ r) (h1 : r < A.1 3 0) (h2 : 0 ≤ A.1 2 r ∧ r + A.1 2 r < A.1 3 0) : ∃ m w, aAtS A 1 r = .inr (r + 1 + A.1 2 r, m, w, bN (A.1 2) r 1 (-1) (-1) 0) := by
  have hb := q.2.2.1.b (i := 0) (Nat.zero_le _)
  have hn := q.2.2.1.2.2.2.2.2.2.2
  unfold aAtS
  rw [q.ct]
  obtain ⟨w, e⟩ := yS_B (T := A.2 0) (B := A.1 2) (n := A.1 3 0) (f := -1) (p := -1) (pos := r) (made := 0) (cnt := 0) q.2.1 5 (by decide) (by omega) (by omega)
  exact ⟨_, w, e⟩
theorem qA.at0 (q : qA A P a N) {r : Int} (h0 : 0 ≤ r) (h1 : A.1 3 0 ≤ r ∨ 0 ≤ A.1 2 r ∧ A.1 2 r ≤ 255 ∧ A.1 3 0 ≤ r + A.1 2 r) : ∃ e, aAtS A 1 r = .inl e := by
  have hb := q.2.2.1.b (i := 0) (Nat.zero_le _)
  have hn := q.2.2.1.2.2.2.2.2.2.2
  unfold aAtS
  rw [q.ct]
  exact yS_Bx q.2.1 5 (by decide) (by omega) (by omega)
/-- what follow and chain answer -/
theorem qA.follow (q : qA A P a N) (o : ∀ i, 0 ≤ i → i < A.1 3 0 → 0 ≤ A.1 2 i ∧ A.1 2 i ≤ 255) {r : Int} (hr : A.1 2 (P N + 2) = r) (h0 : 0 ≤ r) : (r < A.1 3 0 ∧ r + A.1 2 r < A.1 3 0 → sFollow (8 + 3 * N) A = .inl (1 + A.1 2 r) ∧ sChain (8 + 3 * N) A = .inl 1) ∧ (¬ (r < A.1 3 0 ∧ r + A.1 2 r < A.1 3 0) → sFollow (8 + 3 * N) A = .inl (-1) ∧ sChain (8 + 3 * N) A = .inl 0) := by
  obtain ⟨r1, r2, r3⟩ := q.r3
  have rs := q.rs
  rw [hr] at r3
  have hL : (0 : Int) ≤ 8 + 3 * N ∧ 8 + 3 * (N : Int) < 9 + 3 * N := by omega
  have ef : sFollow (8 + 3 * N) A = .inl (match aAtS A 1 r with
    | .inl _ => -1
    | .inr x => x.1 - r) := by
    unfold sFollow
    rw [q.ln, if_pos hL, if_pos r1, r2, r3, rs]
    cases aAtS A 1 r <;> rfl
  have ec : sChain (8 + 3 * N) A = .inl (aCh A 1536 (fun _ => 0) 1 r 0) := by
    unfold sChain
    rw [q.ln, if_pos hL, if_pos r1, r2, r3, rs]
  rw [ef, ec]
  have ch : aCh A 1536 (fun _ => 0) 1 r 0 = match aAtS A 1 r with
    | .inl _ => 0
    | .inr x => if aFr (yNs x.2.2.2) (x.2.2.2.length - 1) 1 = -1 then 0 + 1 else aCh A 1535 (fun c => if c = 256 * 1 + r then 1 else 0) (yRs (aCt A) (yNs x.2.2.2 (aFr (yNs x.2.2.2) (x.2.2.2.length - 1) 1) 198)) (yNs x.2.2.2 (aFr (yNs x.2.2.2) (x.2.2.2.length - 1) 1) 196) (0 + 1) := by
    rw [aCh]
    rw [if_neg (by decide)]
    cases aAtS A 1 r <;> rfl
  rw [ch]
  constructor
  · rintro ⟨c1, c2⟩
    obtain ⟨m, w, e⟩ := q.at1 h0 c1 ⟨(o r h0 c1).1, c2⟩
    rw [e]
    dsimp only
    have f : aFr (yNs (bN (A.1 2) r 1 (-1) (-1) 0)) ((bN (A.1 2) r 1 (-1) (-1) 0).length - 1) 1 = -1 := rfl
    rw [f, if_pos rfl]
    exact ⟨by rw [show r + 1 + A.1 2 r - r = 1 + A.1 2 r by omega], rfl⟩
  · intro c
    obtain ⟨e, he⟩ := q.at0 (r := r) h0 (by
      by_cases d : A.1 3 0 ≤ r
      · exact Or.inl d
      · have := o r h0 (by omega)
        exact Or.inr ⟨this.1, this.2, by omega⟩)
    rw [he]
    exact ⟨rfl, rfl⟩
theorem aFf_at {M : Int → yN} {nm v j : Int} : ∀ (m : Nat) (k : Int), k ≤ j → j < k + m → M j 192 = 3 → M j 193 = nm → M j 196 = v → (∀ i, k ≤ i → i < j → ¬ ((M i 192 = 2 ∨ M i 192 = 3 ∨ M i 192 = 4) ∧ M i 193 = nm)) → aFf M nm v m k = j
  | 0, k, h1, h2, _, _, _, _ => by omega
  | m + 1, k, h1, h2, h3, h4, h5, h6 => by
    unfold aFf
    by_cases c : k = j
    · subst c
      rw [if_pos ⟨Or.inr (Or.inl h3), h4, h5⟩]
    · rw [if_neg (fun z => h6 k (Int.le_refl _) (by omega) ⟨z.1, z.2.1⟩)]
      exact aFf_at m (k + 1) (by omega) (by omega) h3 h4 h5 fun i i1 i2 => h6 i (by omega) i2
theorem qA.findF (q : qA A P a N) {r : Int} (hr : A.1 2 (P N + 2) = r) (h0 : 0 ≤ r ∧ r ≤ 255) : sFindF 17 r 0 A = .inl (8 + 3 * N) := by
  obtain ⟨r1, r2, r3⟩ := q.r3
  unfold sFindF
  rw [if_pos (by omega), q.ln]
  rw [aFf_at (j := 8 + 3 * (N : Int)) _ _ (by omega) (by omega) r1 (by rw [q.nn, nd_l.2.2]; rfl) (r3.trans hr)]
  intro k k0 k1
  rw [q.nn]
  rcases nd_c (N := N) k0 (by omega) with (rfl | rfl | rfl | rfl | rfl | rfl) | ⟨j, hj, rfl | rfl | rfl⟩ | (rfl | rfl | rfl)
  · rw [nd0]
    exact fun z => absurd (show ((0 : Int) = 2 ∨ (0 : Int) = 3 ∨ (0 : Int) = 4) from z.1) (by decide)
  · rw [nd1]
    exact fun z => absurd (show (12 : Int) = 17 from z.2) (by decide)
  · rw [nd2]
    exact fun z => absurd (show (11 : Int) = 17 from z.2) (by decide)
  · rw [nd3]
    exact fun z => absurd (show (13 : Int) = 17 from z.2) (by decide)
  · rw [nd4]
    exact fun z => absurd (show ((5 : Int) = 2 ∨ (5 : Int) = 3 ∨ (5 : Int) = 4) from z.1) (by decide)
  · rw [nd5]
    exact fun z => absurd (show ((1 : Int) = 2 ∨ (1 : Int) = 3 ∨ (1 : Int) = 4) from z.1) (by decide)
  · rw [(nd_e hj).1]
    exact fun z => absurd (show ((0 : Int) = 2 ∨ (0 : Int) = 3 ∨ (0 : Int) = 4) from z.1) (by decide)
  · rw [(nd_e hj).2.1]
    exact fun z => absurd (show (19 : Int) = 17 from z.2) (by decide)
  · rw [(nd_e hj).2.2]
    exact fun z => absurd (show ((5 : Int) = 2 ∨ (5 : Int) = 3 ∨ (5 : Int) = 4) from z.1) (by decide)
  · rw [nd_l.1]
    exact fun z => absurd (show (2 : Int) = 17 from z.2) (by decide)
  · rw [nd_l.2.1]
    exact fun z => absurd (show (23 : Int) = 17 from z.2) (by decide)
  · omega
end
