section
/-! edits: sums settle (reference) -/
/-- the reference has these nodes (but for values written) and the bytes C -/
def mHw (t : Int) (T : yT) (B C : yB) (n : Int) (N : Int → yN) (L w : Int) (s : zS) : Prop := mTb t T N L s ∧ ySh T B n N L w ∧ mRel t T s ∧ mFile C n s
section
variable {T : yT} {B C F G : yB} {n L w : Int} {N : Int → yN} {s u : zS} {t k v g e : Int} {h sz : Int → Int}
theorem mHo.hw (H : mHo t T B C n N L w s) : mHw t T B C n N L w s := ⟨H.tb, H.2⟩
theorem M193w_30 (W : yWT T) (H : mHw t T B C n N L w s) {k : Int} (hk : 0 ≤ k ∧ k < L) (R : yRl T (N k 198)) : ∀ (m M : Nat) (x i : Int), m < M → m = (L - i).toNat → 0 ≤ i → i ≤ L → (i ≤ yTg T N L k → x = -1) → (yTg T N L k < i → x = yTg T N L k) → zf_193_30 M 0 k (48 * t + T 468 (N k 198)) x i s = zi (yTg T N L k) s := by
  have hL := H.2.1.1
  have h10 := H.1.1
  have h1 := H.2.2.1.1
  obtain ⟨g1, g2, g3, g4, g5⟩ := H.2.1.tg W hk R
  have rr := yNd_rel W (H.2.1.nd hk) R
  intro m
  induction m with
  | zero =>
    intro M x i hM hm i0 iL x1 x2
    obtain ⟨M, rfl⟩ : ∃ L, M = L + 1 := ⟨M - 1, by omega⟩
    unfold zf_193_30
    rw [h10, if_pos (by omega), x2 (by omega)]
  | succ m ih =>
    intro M x i hM hm i0 iL x1 x2
    obtain ⟨M, rfl⟩ : ∃ L, M = L + 1 := ⟨M - 1, by omega⟩
    have ei := H.1.2 i i0 (by omega)
    have ek := H.1.2 k hk.1 hk.2
    have go : ∀ x' : Int, (i + 1 ≤ yTg T N L k → x' = -1) → (yTg T N L k < i + 1 → x' = yTg T N L k) → zg (i + 1) (zf_193_30 M 0 k (48 * t + T 468 (N k 198)) x' (i + 1) s) = zi (yTg T N L k) s := fun x' y1 y2 => by
      rw [zg_ok ⟨by omega, by omega⟩]
      exact ih M x' (i + 1) (by omega) (by omega) (by omega) (by omega) y1 y2
    unfold zf_193_30
    rw [h10, if_neg (by omega), zn_ok (by omega), zn_ok (by omega), ei.2.2.2.2.1, ek.2.2.2.2.1]
    by_cases c1 : N i 197 = N k 197
    · rw [if_pos c1, zn_ok (by omega), ei.2.2.2.2.2.1]
      by_cases c2 : N i 198 = T 468 (N k 198)
      · have e : i = yTg T N L k := H.2.1.un ⟨i0, by omega⟩ g1 (c1.trans g2.symm) (c2.trans g3.symm) (by omega)
        rw [if_neg (show ¬ N i 198 = -1 by omega), if_pos (by omega)]
        exact go i (fun z => by omega) (fun z => e)
      · have ne : i ≠ yTg T N L k := fun e => c2 (by rw [e]; exact g3)
        have : ¬ (if N i 198 = -1 then (-1 : Int) else 48 * t + N i 198) = 48 * t + T 468 (N k 198) := by
          split <;> omega
        rw [if_neg this]
        exact go x (fun z => x1 (by omega)) (fun z => x2 (by omega))
    · have ne : i ≠ yTg T N L k := fun e => c1 (by rw [e]; exact g2)
      rw [if_neg c1]
      exact go x (fun z => x1 (by omega)) (fun z => x2 (by omega))
theorem M193w (W : yWT T) (H : mHw t T B C n N L w s) {k : Int} (hk : 0 ≤ k ∧ k < L) (R : yRl T (N k 198)) : zf_193 0 k s = zi (yTg T N L k) s := by
  have hL := H.2.1.1
  have h1 := H.2.2.1.1
  have e18 := (H.1.2 k hk.1 hk.2).2.2.2.2.2.1
  obtain ⟨g1, g2, g3, g4, g5⟩ := H.2.1.tg W hk R
  obtain ⟨st, j, f1, f2, f3, f4, F, WF, f8⟩ := mTb.fl W H.2.2.1 H.2.1 hk R.1
  have hst := W.2.1
  have r := F.2.2.2.2.2.2.1
  rw [← f1] at r
  have e93 := r R.2.1
  rw [if_neg R.2.2] at e93
  unfold zf_193
  rw [zn_ok (by omega), zn_ok (by omega), e18, if_neg R.1, zn_ok (by omega), zdiv_8 (by omega), show 8 * ((48 * t + N k 198) / 8) = 48 * t + 8 * st by omega, zg_ok ⟨by omega, by omega⟩, e93, show 48 * t + 8 * st + (T 468 (N k 198) - 8 * st) = 48 * t + T 468 (N k 198) by omega]
  have rr := yNd_rel W (H.2.1.nd hk) R
  have es : N k 198 / 8 = st := by omega
  rw [es] at rr
  rw [zg_ok ⟨by omega, by omega⟩, M193w_30 W H hk R (L - 0).toNat xfu (-1) 0 (pa_fu (by omega)) rfl (Int.le_refl _) (by omega) (fun _ => rfl) (fun z => by omega)]
theorem M194w (W : yWT T) (H : mHw t T B C n N L w s) {k : Int} (hk : 0 ≤ k ∧ k < L) (R : yRl T (N k 198)) (R5 : T 467 (N k 198) ≠ 37) : zf_194 0 k s = zi (yDu T C N L k) s := by
  have hL := H.2.1.1
  have h1 := H.2.2.1.1
  have e18 := (H.1.2 k hk.1 hk.2).2.2.2.2.2.1
  rw [if_neg R.1] at e18
  obtain ⟨g1, g2, g3, g4, g5⟩ := H.2.1.tg W hk R
  obtain ⟨st, j, f1, f2, f3, f4, F, WF, f8⟩ := mTb.fl W H.2.2.1 H.2.1 hk R.1
  have r := F.2.2.2.2.2.1
  have ty := F.2.2.1
  have rr := yNd_rel W (H.2.1.nd hk) R
  have b8 := WF.2.2.2.2.2.2.1
  have b16 := WF.2.2.2.2.2.2.2.1
  rw [← f1] at r ty b8 b16
  rw [if_neg R.2.2] at r
  have ty := ty (by omega) (by omega)
  have eg := H.1.2 _ g1.1 g1.2
  have nt := (H.2.1.nd g1).1
  have ot := H.2.1.of g1
  have nn := H.2.2.2.2.1
  have bits : (if s.1 587 0 (48 * t + N k 198) = 98 then (255 : Int) else 65535) = zshl 1 (T 459 (N k 198)) - 1 := by
    rw [ty]
    by_cases c : T 458 (N k 198) = 98
    · rw [if_pos c, b8 (Or.inl c)]
      decide
    · rw [if_neg c, b16 (by omega)]
      decide
  unfold zf_194
  rw [M193w W H hk R, zC_zi, zn_ok (by omega), e18, zn_ok (by omega), r]
  have key : ∀ v : Int, zf_194_49 0 k (yTg T N L k) (T 467 (N k 198)) v s = zi (zand (if T 467 (N k 198) = 43 ∨ T 467 (N k 198) = 94 then yBy C (T 467 (N k 198)) (N (yTg T N L k) 195).toNat (N (yTg T N L k) 194) v else v) (zshl 1 (T 459 (N k 198)) - 1)) s ∨ (T 467 (N k 198) = 43 ∧ v ≠ 0) := fun v => by
    by_cases c : T 467 (N k 198) = 43 ∧ v ≠ 0
    · exact Or.inr c
    · left
      unfold zf_194_49
      rw [zn_ok (by omega), eg.2.2.1, M194_59 H.2.2.2 (k := k) (g := yTg T N L k) (h := T 467 (N k 198)) (off := N (yTg T N L k) 194) (ln := N (yTg T N L k) 195) (fl := 48 * t + N k 198) (by omega) (by omega) eg.2.2.1 eg.2.2.2.1 e18 (by omega) ot (by omega) nt.2.2 (N (yTg T N L k) 195).toNat xfu (N (yTg T N L k) 194) v (pa_fu (by omega)) (Int.le_refl _) (by omega) (fun z => by
        have : v = 0 := by
          by_cases y : v = 0
          · exact y
          · exact absurd ⟨z, y⟩ c
        omega), bits]
  unfold yDu yCut yDue
  by_cases c1 : T 467 (N k 198) = 35
  · rw [if_pos c1, zn_ok (by omega), eg.2.2.2.1, if_pos c1]
    rcases key (N (yTg T N L k) 195) with z | z
    · rw [z, if_neg (by omega)]
    · omega
  · rw [if_neg c1, if_neg c1]
    rw [if_neg R5, if_neg R5]
    rcases key 0 with z | z
    · rw [z, if_pos (by omega)]
    · exact absurd rfl z.2
theorem ySh.up (S : ySh T B n N L w) {k : Int} (hk : 0 ≤ k ∧ k < L) : -1 ≤ N k 197 ∧ N k 197 < k := by
  obtain ⟨-, -, -, off, p, -, ⟨a, -, -⟩, -, -⟩ := S
  rcases a k hk.1 hk.2 with z | z <;> omega
theorem ySh.szs (S : ySh T B n N L w) : ∃ sz, ySz N 0 L sz := by
  obtain ⟨-, -, -, off, p, -, -, ⟨-, -, -, -, sz, z⟩, -⟩ := S
  exact ⟨sz, z⟩
theorem M206_2 (H : mTb t T N L s) (S : ySh T B n N L w) (Z : ySz N 0 L sz) (hg : 0 ≤ g ∧ g < L) : ∀ (m M : Nat) (c : Int), m < M → c < m → -1 ≤ c → c < L → zf_206_2 M 0 g c s = zi (if g ≤ c ∧ c < g + sz g then 1 else 0) s := by
  have hL := S.1
  obtain ⟨z1, z2, z3, -, -⟩ := Z g hg.1 hg.2
  intro m
  induction m with
  | zero =>
    intro M c hM h1 h2 h3
    obtain ⟨M, rfl⟩ : ∃ L, M = L + 1 := ⟨M - 1, by omega⟩
    have e : c = -1 := by omega
    unfold zf_206_2 zf_206_22
    rw [if_pos e, if_neg (by omega), if_neg (by omega)]
    rfl
  | succ m ih =>
    intro M c hM h1 h2 h3
    obtain ⟨M, rfl⟩ : ∃ L, M = L + 1 := ⟨M - 1, by omega⟩
    unfold zf_206_2 zf_206_22
    by_cases e : c = -1
    · rw [if_pos e, if_neg (by omega), if_neg (by omega)]
      rfl
    · rw [if_neg e]
      by_cases d : c = g
      · rw [if_pos d, if_pos d, if_pos (by omega)]
        rfl
      · have hc : 0 ≤ c ∧ c < L := by omega
        have up := S.up hc
        rw [if_neg d, zn_ok (by omega), (H.2 c hc.1 hc.2).2.2.2.2.1, ih M (N c 197) (by omega) (by omega) (by omega) (by omega)]
        congr 1
        by_cases q : g ≤ c ∧ c < g + sz g
        · have := z2 c (by omega) q.2
          rw [if_pos q, if_pos (by omega)]
        · rw [if_neg q, if_neg]
          by_cases y : c < g
          · omega
          · have := z3 c (by omega) hc.2
            omega
theorem eRd_1 : ∀ (m : Nat) (j : Int), eRd N h e m j = 1 → ∃ i, (j ≤ i ∧ i < j + m) ∧ h i = 1 ∧ N i 194 < e
  | 0, _, z => absurd (show (0 : Int) = 1 from z) (by decide)
  | m + 1, j, z => by
    unfold eRd at z
    split at z
    · rename_i y
      exact ⟨j, ⟨Int.le_refl _, by omega⟩, y⟩
    · obtain ⟨i, i1, i2⟩ := eRd_1 m (j + 1) z
      exact ⟨i, ⟨by omega, by omega⟩, i2⟩
/-- a left node lies in the field g, by its offset or by its parents -/
theorem eIn (W : yWT T) (S : ySh T B n N L w) (Z : ySz N 0 L sz) (hg : 0 ≤ g ∧ g < L) {i : Int} (hi : 0 ≤ i ∧ i < L) (kd : N i 192 = 2) : (g ≤ i ∧ i < g + sz g) ↔ (g ≤ i ∧ N i 194 < N g 194 + N g 195) := by
  obtain ⟨z1, z2, z3, z4, z5, -⟩ := Z g hg.1 hg.2
  obtain ⟨st, j, -, -, -, -, -, -, -, ol, -⟩ := (S.nd hi).num W (Or.inl kd)
  have l1 : 1 ≤ N i 195 := by
    rw [ol]
    split <;> decide
  constructor
  · intro y
    have := z4 i y.1 y.2
    exact ⟨y.1, by omega⟩
  · intro y
    refine ⟨y.1, ?_⟩
    by_cases c : i < g + sz g
    · exact c
    · have := z5 i (by omega) hi.2 (by omega)
      omega
theorem M213_37 (W : yWT T) (H : mHw t T B C n N L w s) (hh : ∀ j, 0 ≤ j → j < L → s.1 632 0 j = h j) (h01 : ∀ j, h j = 0 ∨ h j = 1) (hr : ∀ j, 0 ≤ j → j < L → h j = 1 → yRl T (N j 198)) (hk : 0 ≤ k ∧ k < L) (hg : 0 ≤ g ∧ g < L) (kg : ¬ (g ≤ k ∧ N k 194 < N g 194 + N g 195)) {zk : Nat → Int → Int → Int → zS → zR} {x : Int} : ∀ (m M : Nat) (f j : Int), m < M → (m : Int) = L - j → 0 ≤ j → (f = 0 ∨ f = 1) → (f = 1 → (∀ i, j ≤ i → i < L → h i = 1 → ¬ (g ≤ i ∧ N i 194 < N g 194 + N g 195)) → zf_213_37 zk M 0 x k g f j s = zk 0 k 1 (k + (-1)) s) ∧ (f = 0 ∨ (∃ i, (j ≤ i ∧ i < L) ∧ h i = 1 ∧ g ≤ i ∧ N i 194 < N g 194 + N g 195) → zf_213_37 zk M 0 x k g f j s = zk 0 x 1 (k + (-1)) s) := by
  have S := H.2.1
  have hL := S.1
  obtain ⟨sz, Z⟩ := S.szs
  intro m
  induction m with
  | zero =>
    intro M f j hM hm j0 f01
    obtain ⟨M, rfl⟩ : ∃ L, M = L + 1 := ⟨M - 1, by omega⟩
    unfold zf_213_37
    rw [H.1.1, if_pos (by omega)]
    refine ⟨fun e _ => ?_, fun e => ?_⟩
    · rw [if_neg (by omega), zg_ok ⟨by omega, by omega⟩]
    · rcases e with e | ⟨i, i1, i2⟩
      · rw [if_pos e, zg_ok ⟨by omega, by omega⟩]
      · omega
  | succ m ih =>
    intro M f j hM hm j0 f01
    obtain ⟨M, rfl⟩ : ∃ L, M = L + 1 := ⟨M - 1, by omega⟩
    have hj : 0 ≤ j ∧ j < L := by omega
    have zero : zf_213_37 zk M 0 x k g 0 (j + 1) s = zk 0 x 1 (k + (-1)) s := (ih M 0 (j + 1) (by omega) (by omega) (by omega) (Or.inl rfl)).2 (Or.inl rfl)
    have skip : ¬ (h j = 1 ∧ g ≤ j ∧ N j 194 < N g 194 + N g 195) → f = 1 → ((f = 1 → (∀ i, j ≤ i → i < L → h i = 1 → ¬ (g ≤ i ∧ N i 194 < N g 194 + N g 195)) → zf_213_37 zk M 0 x k g 1 (j + 1) s = zk 0 k 1 (k + (-1)) s) ∧ (f = 0 ∨ (∃ i, (j ≤ i ∧ i < L) ∧ h i = 1 ∧ g ≤ i ∧ N i 194 < N g 194 + N g 195) → zf_213_37 zk M 0 x k g 1 (j + 1) s = zk 0 x 1 (k + (-1)) s)) := fun no f1 => by
      obtain ⟨i1, i2⟩ := ih M 1 (j + 1) (by omega) (by omega) (by omega) (Or.inr rfl)
      refine ⟨fun _ y => i1 rfl fun i i1 i2 => y i (by omega) i2, fun y => i2 ?_⟩
      rcases y with y | ⟨i, y1, y2⟩
      · omega
      · by_cases e : i = j
        · rw [e] at y2
          exact absurd y2 no
        · exact Or.inr ⟨i, by omega, y2⟩
    unfold zf_213_37
    rw [H.1.1, if_neg (by omega)]
    rcases f01 with rfl | rfl
    · rw [if_pos rfl, zg_ok ⟨by omega, by omega⟩]
      exact ⟨fun e => absurd e (by decide), fun _ => zero⟩
    · rw [if_neg (show ¬ (1 : Int) = 0 by decide), zn_ok (by omega), hh j hj.1 hj.2]
      rcases h01 j with z | z
      · rw [if_pos z, zg_ok ⟨by omega, by omega⟩]
        exact skip (fun y => by have := y.1; omega) rfl
      · rw [if_neg (by omega)]
        by_cases e : j = k
        · rw [if_pos e, zg_ok ⟨by omega, by omega⟩]
          exact skip (fun y => kg (by rw [← e]; exact y.2)) rfl
        · have kd := (yDu_b (C := C) W S hj (hr j hj.1 hj.2 z)).2.2.2
          have q := eIn W S Z hg hj kd
          rw [if_neg e]
          unfold zf_206
          rw [M206_2 H.1 S Z hg (j.toNat + 1) xfu j (pa_fu (by omega)) (by omega) (by omega) hj.2, zC_zi]
          by_cases c : g ≤ j ∧ j < g + sz g
          · rw [if_pos c, if_neg (show ¬ (1 : Int) = 0 by decide), zg_ok ⟨by omega, by omega⟩]
            exact ⟨fun _ y => absurd (q.mp c) (y j (Int.le_refl _) hj.2 z), fun _ => zero⟩
          · rw [if_neg c, if_pos rfl, zg_ok ⟨by omega, by omega⟩]
            exact skip (fun y => c (q.mpr y.2)) rfl
end
end
