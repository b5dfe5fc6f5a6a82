section
/-! edits: bytes are put in or taken out: what is written ahead of that -/
/-- whether node c is g or lies in it -/
def eLi (N : Int → yN) (g : Int) : Nat → Int → Int
  | 0, _ => 0
  | m + 1, c => if c < 0 then 0 else if c = g then 1 else eLi N g m (N c 197)
/-- the new value of a reference, k bytes put in (g = 1) or taken out (g = 0) at p -/
def eRv (p k g v : Int) : Int := if g = 0 then (if v < p + k then (if v ≤ p then v else p) else v - k) else if v < p then v else v + k
/-- what node i gets, -1: nothing; J is the node that changes, e how many elements more it gets -/
def eVl (T : yT) (N : Int → yN) (L J p k g e i : Int) : Int :=
  if N i 192 = 3 then eRv p k g (N i 196)
  else if yRl T (N i 198) ∧ T 467 (N i 198) = 35 ∧ eLi N (yTg T N L i) 201 J = 1 then N (yTg T N L i) 195 + (if g = 0 then -k else k)
  else if yRl T (N i 198) ∧ T 467 (N i 198) = 37 ∧ yTg T N L i = J then N (yTg T N L i) 196 + e
  else -1
/-- the bytes F behind these writes, from node i on -/
def eMv (T : yT) (N : Int → yN) (V : Int → Int) : Nat → Int → yB → yB
  | 0, _, F => F
  | m + 1, i, F => eMv T N V m (i + 1) (if V i = -1 then F else eW T N i (V i) F)
/-- whether all references stay within a byte -/
def eFg (N : Int → yN) (V : Int → Int) : Nat → Int → Int
  | 0, _ => 1
  | m + 1, i => if N i 192 = 3 ∧ 255 < V i then 0 else eFg N V m (i + 1)
def eVb (T : yT) (N : Int → yN) (L J p k g e : Int) : Prop := ∀ i, 0 ≤ i → i < L → (N i 192 = 3 → 0 ≤ eVl T N L J p k g e i ∧ (g = 0 → eVl T N L J p k g e i ≤ 255)) ∧ (N i 192 ≠ 3 → yRl T (N i 198) → T 467 (N i 198) = 35 → eLi N (yTg T N L i) 201 J = 1 → eVl T N L J p k g e i = N (yTg T N L i) 195 + (if g = 0 then -k else k) ∧ 0 ≤ eVl T N L J p k g e i ∧ eVl T N L J p k g e i ≤ 160) ∧ (N i 192 ≠ 3 → yRl T (N i 198) → T 467 (N i 198) = 37 → yTg T N L i = J → eVl T N L J p k g e i = N (yTg T N L i) 196 + e ∧ 0 ≤ eVl T N L J p k g e i ∧ eVl T N L J p k g e i ≤ 201) ∧ (N i 192 ≠ 3 → ¬ (yRl T (N i 198) ∧ T 467 (N i 198) = 35 ∧ eLi N (yTg T N L i) 201 J = 1) → ¬ (yRl T (N i 198) ∧ T 467 (N i 198) = 37 ∧ yTg T N L i = J) → eVl T N L J p k g e i = -1)
def eVA (N : Int → yN) (V : Int → Int) (i : Int) : Int := if N i 192 = 3 then V i else -1
def eVB (N : Int → yN) (V : Int → Int) (i : Int) : Int := if N i 192 = 3 then -1 else V i
/-- the bytes of nodes from i on are as they were read -/
def eAg (N : Int → yN) (L : Int) (B : yB) (i : Int) (F : yB) : Prop := ∀ j, i ≤ j → j < L → (N j 192 = 2 ∨ N j 192 = 3) → ∀ p, N j 194 ≤ p → p < N j 194 + N j 195 → F p = B p
section
variable {T : yT} {B C F G : yB} {n L w : Int} {N : Int → yN} {i k p v x g J e c : Int} {V : Int → Int} {sz : Int → Int}
theorem zand255_e {v : Int} (h : 0 ≤ v ∧ v ≤ 65535) : zand v 255 = v % 256 := by
  have hb : (Int32.ofInt v).toBitVec = BitVec.ofNat 32 v.toNat := zbv (by omega) (by omega)
  have e : ((Int32.ofInt v).toBitVec &&& (Int32.ofInt 255).toBitVec).toNat = v.toNat % 256 := by
    rw [BitVec.toNat_and, hb, BitVec.toNat_ofNat, show (Int32.ofInt 255).toBitVec.toNat = 2 ^ 8 - 1 from rfl, Nat.and_two_pow_sub_one_eq_mod]
    omega
  unfold zand
  show ((Int32.ofInt v).toBitVec &&& (Int32.ofInt 255).toBitVec).toInt = _
  rw [BitVec.toInt_eq_toNat_of_lt (by omega), e]
  omega
theorem zshr8_e {v : Int} (h : 0 ≤ v ∧ v ≤ 65535) : zshr v 8 = v / 256 := by
  unfold zshr
  show ((Int32.ofInt v).toBitVec.sshiftRight' ((Int32.ofInt 8 &&& 31).toBitVec.smod 32)).toInt = _
  rw [show ((Int32.ofInt 8 &&& 31).toBitVec.smod 32) = 8#32 by decide, zbv (by omega) (by omega)]
  show ((BitVec.ofNat 32 v.toNat).sshiftRight 8).toInt = _
  rw [BitVec.toInt_sshiftRight, BitVec.toInt_eq_toNat_of_lt (by rw [BitVec.toNat_ofNat]; omega), BitVec.toNat_ofNat, Int.shiftRight_eq_div_pow]
  omega
/-- the value of a number or a reference, by its bytes -/
theorem yNd.val {x : yN} (W : yWT T) (h : yNd T B n x) (kd : x 192 = 2 ∨ x 192 = 3) : x 196 = (if T 458 (x 198) = 119 then B (x 194) + 256 * B (x 194 + 1) else if T 458 (x 198) = 87 then 256 * B (x 194) + B (x 194 + 1) else B (x 194)) := by
  obtain ⟨o, h⟩ := h
  rcases h with h | ⟨st, k, h1, h2, h3, h⟩
  · omega
  · rcases h with h | h | ⟨a1, a2, a3, V, a4⟩
    · omega
    · omega
    · have wf := (W.2.2 st h2.1 h2.2).2.2 k h3.1 h3.2
      have ty := wf.1
      have c8 := wf.2.2.2.2.2.2.1
      have c16 := wf.2.2.2.2.2.2.2.1
      rw [← h1] at ty c8 c16
      have nk : T 458 (x 198) ≠ 115 ∧ T 458 (x 198) ≠ 122 ∧ T 458 (x 198) ≠ 110 := by
        unfold yKd at a3
        refine ⟨fun z => ?_, fun z => ?_, fun z => ?_⟩
        · rw [z] at a3
          have a3 : x 192 = 5 := a3
          omega
        · rw [z] at a3
          have a3 : x 192 = 5 := a3
          omega
        · rw [z] at a3
          have a3 : x 192 = 4 := a3
          omega
      unfold yPl at a4
      rw [if_neg nk.1, if_neg nk.2.1, if_neg nk.2.2] at a4
      by_cases z1 : T 458 (x 198) = 119
      · have e := c16 (Or.inl z1)
        simp only [if_pos e, if_neg (show ¬ T 458 (x 198) = 87 by omega)] at a4
        rw [if_pos z1]
        split at a4
        · cases a4
        · split at a4
          · cases a4
          · injection a4 with a4
            exact (congrArg Prod.snd a4).symm
      · rw [if_neg z1]
        by_cases z2 : T 458 (x 198) = 87
        · have e := c16 (Or.inr z2)
          simp only [if_pos e, if_pos z2] at a4
          rw [if_pos z2]
          split at a4
          · cases a4
          · split at a4
            · cases a4
            · injection a4 with a4
              exact (congrArg Prod.snd a4).symm
        · have e : T 459 (x 198) = 8 := c8 (by omega)
          simp only [if_neg (show ¬ T 459 (x 198) = 16 by omega)] at a4
          rw [if_neg z2]
          split at a4
          · cases a4
          · split at a4
            · cases a4
            · injection a4 with a4
              exact (congrArg Prod.snd a4).symm
/-- a value written again is what is there -/
theorem eW_own (W : yWT T) (S : ySh T B n N L w) (hB : ∀ i, 0 ≤ i → i < n → 0 ≤ B i ∧ B i ≤ 255) (hk : 0 ≤ k ∧ k < L) (kd : N k 192 = 2 ∨ N k 192 = 3) (hF : ∀ p, N k 194 ≤ p → p < N k 194 + N k 195 → F p = B p) : eW T N k (N k 196) F = F := by
  obtain ⟨st, j, f1, f2, f3, f4, ty, o0, on, ol, k4, k3, wf⟩ := (S.nd hk).num W (by omega)
  have c110 : T 458 (N k 198) ≠ 110 := fun z => by
    have := k4.mpr z
    omega
  have e := (S.nd hk).val W kd
  funext q
  unfold eW
  by_cases c1 : T 458 (N k 198) = 119
  · rw [if_pos (Or.inl c1)] at ol
    rw [if_pos c1] at e
    have b0 := hB (N k 194) (by omega) (by omega)
    have b1 := hB (N k 194 + 1) (by omega) (by omega)
    rw [if_pos c1]
    by_cases d : q = N k 194 + 1
    · rw [if_pos d, zshr8_e (by omega), d, hF _ (by omega) (by omega)]
      omega
    · rw [if_neg d]
      by_cases d2 : q = N k 194
      · rw [if_pos d2, zand255_e (by omega), d2, hF _ (by omega) (by omega)]
        omega
      · rw [if_neg d2]
  · rw [if_neg c1] at e ⊢
    by_cases c2 : T 458 (N k 198) = 87
    · rw [if_pos (Or.inr c2)] at ol
      rw [if_pos c2] at e
      have b0 := hB (N k 194) (by omega) (by omega)
      have b1 := hB (N k 194 + 1) (by omega) (by omega)
      rw [if_pos c2]
      by_cases d : q = N k 194 + 1
      · rw [if_pos d, zand255_e (by omega), d, hF _ (by omega) (by omega)]
        omega
      · rw [if_neg d]
        by_cases d2 : q = N k 194
        · rw [if_pos d2, zshr8_e (by omega), d2, hF _ (by omega) (by omega)]
          omega
        · rw [if_neg d2]
    · rw [if_neg (by omega)] at ol
      rw [if_neg c2] at e
      rw [if_neg c2, if_neg c110]
      by_cases d2 : q = N k 194
      · rw [if_pos d2, d2, hF _ (by omega) (by omega), e]
      · rw [if_neg d2]
theorem eAg.nx (W : yWT T) (S : ySh T B n N L w) (hi : 0 ≤ i ∧ i < L) (kd : N i 192 = 2 ∨ N i 192 = 3) (a : eAg N L C i F) : eAg N L C (i + 1) (eW T N i v F) := fun j j1 j2 kj p p1 p2 => by
  have ap := S.apart (i := i) (k := j) ⟨hi.1, by omega⟩ j2 (by omega) (by omega)
  rw [eW_o W S hi kd (Or.inr (by omega))]
  exact a j (by omega) j2 kj p p1 p2
theorem eAg.sk (a : eAg N L C i F) : eAg N L C (i + 1) F := fun j j1 j2 kj p p1 p2 => a j (by omega) j2 kj p p1 p2
theorem eMv_cm (W : yWT T) (S : ySh T B n N L w) (hV : ∀ i, 0 ≤ i → i < L → V i ≠ -1 → N i 192 = 2 ∨ N i 192 = 3) {i0 : Int} (h0 : 0 ≤ i0) (k0 : N i0 192 = 2 ∨ N i0 192 = 3) : ∀ (m : Nat) (i : Int) (F : yB), (m : Int) = L - i → i0 < i → eW T N i0 x (eMv T N V m i F) = eMv T N V m i (eW T N i0 x F)
  | 0, _, _, _, _ => rfl
  | m + 1, i, F, hm, hi => by
    show eW T N i0 x (eMv T N V m (i + 1) (if V i = -1 then F else eW T N i (V i) F)) = eMv T N V m (i + 1) (if V i = -1 then eW T N i0 x F else eW T N i (V i) (eW T N i0 x F))
    rw [eMv_cm W S hV h0 k0 m (i + 1) _ (by omega) (by omega)]
    by_cases c : V i = -1
    · rw [if_pos c, if_pos c]
    · rw [if_neg c, if_neg c, eW_comm W S ⟨h0, hi⟩ (by omega) k0 (hV i (by omega) (by omega) c)]
/-- references first, then the others -/
theorem eMv_sp (W : yWT T) (S : ySh T B n N L w) (hV : ∀ i, 0 ≤ i → i < L → V i ≠ -1 → N i 192 = 2 ∨ N i 192 = 3) : ∀ (m : Nat) (i : Int) (F : yB), (m : Int) = L - i → 0 ≤ i → eMv T N (eVB N V) m i (eMv T N (eVA N V) m i F) = eMv T N V m i F
  | 0, _, _, _, _ => rfl
  | m + 1, i, F, hm, hi => by
    have hA : ∀ i, 0 ≤ i → i < L → eVA N V i ≠ -1 → N i 192 = 2 ∨ N i 192 = 3 := fun i _ _ z => by
      unfold eVA at z
      split at z
      · exact Or.inr (by assumption)
      · exact absurd rfl z
    show eMv T N (eVB N V) m (i + 1) (if eVB N V i = -1 then eMv T N (eVA N V) m (i + 1) (if eVA N V i = -1 then F else eW T N i (eVA N V i) F) else eW T N i (eVB N V i) (eMv T N (eVA N V) m (i + 1) (if eVA N V i = -1 then F else eW T N i (eVA N V i) F))) = eMv T N V m (i + 1) (if V i = -1 then F else eW T N i (V i) F)
    by_cases c : N i 192 = 3
    · have e1 : eVB N V i = -1 := if_pos c
      have e2 : eVA N V i = V i := if_pos c
      rw [if_pos e1, e2]
      exact eMv_sp W S hV m (i + 1) _ (by omega) (by omega)
    · have e1 : eVB N V i = V i := if_neg c
      have e2 : eVA N V i = -1 := if_neg c
      rw [if_pos e2, e1]
      by_cases d : V i = -1
      · rw [if_pos d, if_pos d]
        exact eMv_sp W S hV m (i + 1) _ (by omega) (by omega)
      · rw [if_neg d, if_neg d, eMv_cm W S hA hi (hV i hi (by omega) d) m (i + 1) F (by omega) (by omega)]
        exact eMv_sp W S hV m (i + 1) _ (by omega) (by omega)
theorem eMv_b (W : yWT T) (S : ySh T B n N L w) (hV : ∀ i, 0 ≤ i → i < L → V i ≠ -1 → (N i 192 = 2 ∨ N i 192 = 3) ∧ 0 ≤ V i ∧ V i ≤ 255) : ∀ (m : Nat) (i : Int) (F : yB), (m : Int) = L - i → 0 ≤ i → (∀ p, 0 ≤ p → p < n → 0 ≤ F p ∧ F p ≤ 255) → ∀ p, 0 ≤ p → p < n → 0 ≤ eMv T N V m i F p ∧ eMv T N V m i F p ≤ 255
  | 0, _, _, _, _, hF => hF
  | m + 1, i, F, hm, hi, hF => by
    refine eMv_b W S hV m (i + 1) _ (by omega) (by omega) ?_
    by_cases c : V i = -1
    · rw [if_pos c]
      exact hF
    · obtain ⟨kd, v0, v1⟩ := hV i hi (by omega) c
      obtain ⟨st, j, f1, f2, f3, f4, ty, o0, on, ol, k4, k3, wf⟩ := (S.nd ⟨hi, by omega⟩).num W (by omega)
      rw [if_neg c]
      exact eW_b hF (fun z => by have := k4.mpr z; omega) (fun _ => by omega) fun _ => by omega
theorem eFg_01 : ∀ (m : Nat) (i : Int), eFg N V m i = 0 ∨ eFg N V m i = 1
  | 0, _ => Or.inr rfl
  | m + 1, i => by
    unfold eFg
    split
    · exact Or.inl rfl
    · exact eFg_01 m (i + 1)
theorem eFg_1 : ∀ (m : Nat) (i : Int), eFg N V m i = 1 → ∀ j, i ≤ j → j < i + m → N j 192 = 3 → V j ≤ 255
  | 0, _, _ => fun j j1 j2 => by omega
  | m + 1, i, h => fun j j1 j2 kj => by
    unfold eFg at h
    split at h
    · exact absurd h (by decide)
    · rename_i c
      by_cases d : j = i
      · rw [d]
        by_cases y : V i ≤ 255
        · exact y
        · exact absurd ⟨by rw [← d]; exact kj, by omega⟩ c
      · exact eFg_1 m (i + 1) h j (by omega) (by omega) kj
theorem eFg_i : ∀ (m : Nat) (i : Int), (∀ j, i ≤ j → j < i + m → N j 192 = 3 → V j ≤ 255) → eFg N V m i = 1
  | 0, _, _ => rfl
  | m + 1, i, h => by
    unfold eFg
    rw [if_neg (fun z => by have := h i (Int.le_refl _) (by omega) z.1; omega)]
    exact eFg_i m (i + 1) fun j j1 j2 => h j (by omega) (by omega)
theorem eLi_01 : ∀ (m : Nat) (c : Int), eLi N g m c = 0 ∨ eLi N g m c = 1
  | 0, _ => Or.inl rfl
  | m + 1, c => by
    unfold eLi
    split
    · exact Or.inl rfl
    · split
      · exact Or.inr rfl
      · exact eLi_01 m (N c 197)
theorem eLi_1 (S : ySh T B n N L w) (Z : ySz N 0 L sz) (hg : 0 ≤ g ∧ g < L) : ∀ (m : Nat) (c : Int), c < L → eLi N g m c = 1 → g ≤ c ∧ c < g + sz g
  | 0, _, _, h => absurd (show (0 : Int) = 1 from h) (by decide)
  | m + 1, c, hc, h => by
    obtain ⟨z1, z2, z3, -, -⟩ := Z g hg.1 hg.2
    unfold eLi at h
    split at h
    · exact absurd h (by decide)
    · split at h
      · omega
      · rename_i c0 c1
        have hc2 : 0 ≤ c ∧ c < L := by omega
        have up := S.up hc2
        have := eLi_1 S Z hg m (N c 197) (by omega) h
        refine ⟨by omega, ?_⟩
        by_cases y : c < g + sz g
        · exact y
        · have := z3 c (by omega) hc
          omega
theorem ySh.mono (S : ySh T B n N L w) (hi : 0 ≤ i ∧ i ≤ k) (hk : k < L) : N i 194 ≤ N k 194 := by
  obtain ⟨-, -, -, off, p, -, -, ⟨-, -, -, z, -⟩, -⟩ := S
  exact z i k hi.1 hi.2 hk
/-- what lies in a node -/
theorem eLi_ln (S : ySh T B n N L w) (hg : 0 ≤ g ∧ g < L) (hc : c < L) {m : Nat} (h : eLi N g m c = 1) : N c 195 ≤ N g 195 := by
  obtain ⟨sz, Z⟩ := S.szs
  have a := eLi_1 S Z hg m c hc h
  have b := (Z g hg.1 hg.2).2.2.2.1 c a.1 a.2
  have d := S.mono (i := g) (k := c) ⟨hg.1, a.1⟩ hc
  omega
theorem ySh.ln (S : ySh T B n N L w) (hn : 0 ≤ n) (hk : 0 ≤ k ∧ k < L) : 0 ≤ N k 195 ∧ N k 195 ≤ n := by
  have := (S.nd hk).1
  omega
/-- a relation's field is a number -/
theorem yRl.k2 (W : yWT T) (S : ySh T B n N L w) (hk : 0 ≤ k ∧ k < L) (R : yRl T (N k 198)) : N k 192 = 2 := (yDu_b (C := B) W S hk R).2.2.2
/-- values of references -/
theorem ySh.rv (W : yWT T) (S : ySh T B n N L w) (hB : ∀ i, 0 ≤ i → i < n → 0 ≤ B i ∧ B i ≤ 255) (hk : 0 ≤ k ∧ k < L) (kd : N k 192 = 3) : 0 ≤ N k 196 ∧ N k 196 ≤ 255 := by
  obtain ⟨st, j, f1, f2, f3, f4, ty, o0, on, ol, k4, k3, wf⟩ := (S.nd hk).num W (by omega)
  have c := k3.mp kd
  have e := (S.nd hk).val W (Or.inr kd)
  rw [if_neg (by omega)] at ol
  rw [if_neg (by omega), if_neg (by omega)] at e
  rw [e]
  exact hB _ o0 (by omega)
/-- the node of a count is an array -/
theorem ySh.ar (W : yWT T) (S : ySh T B n N L w) (hk : 0 ≤ k ∧ k < L) (R : yRl T (N k 198)) (c : T 467 (N k 198) = 37) : N (yTg T N L k) 192 = 1 ∧ 0 ≤ N (yTg T N L k) 196 ∧ N (yTg T N L k) 196 ≤ 200 := by
  have rr := yNd_rel W (S.nd hk) R
  have tg := S.tg W hk R
  have t91 := rr.2.2.2.2.1 c
  rw [← tg.2.2.1] at t91
  rcases (S.nd tg.1).2 with z | ⟨st, j, h1, h2, h3, z⟩
  · have := tg.2.2.1
    omega
  · rcases z with z | z | z
    · omega
    · exact z.2
    · exact absurd t91 z.2.1
/-- what is written are bytes -/
theorem eVl_b (W : yWT T) (S : ySh T B n N L w) (hn : 0 ≤ n ∧ n ≤ 160) (hB : ∀ i, 0 ≤ i → i < n → 0 ≤ B i ∧ B i ≤ 255) (hJ : 0 ≤ J ∧ J < L) (hp : 0 ≤ p) (hk : 0 ≤ k) (h0 : g = 0 → k ≤ N J 195 ∧ p ≤ 255) (h1 : g ≠ 0 → n + k ≤ 160) (he : (-1 ≤ e ∧ e ≤ 1) ∧ (e = -1 → N J 192 = 1 → 1 ≤ N J 196)) : eVb T N L J p k g e := by
  intro i i0 i1
  have hi : 0 ≤ i ∧ i < L := ⟨i0, i1⟩
  refine ⟨fun c => ?_, fun c R c35 li => ?_, fun c R c37 tg => ?_, fun c a b => ?_⟩
  · have v := S.rv W hB hi c
    unfold eVl eRv
    rw [if_pos c]
    by_cases g0 : g = 0
    · have := h0 g0
      rw [if_pos g0]
      split
      · split <;> omega
      · omega
    · rw [if_neg g0]
      refine ⟨?_, fun z => absurd z g0⟩
      split <;> omega
  · have tg := S.tg W hi R
    have l1 := S.ln hn.1 tg.1
    have l2 := eLi_ln S tg.1 hJ.2 li
    have e1 : eVl T N L J p k g e i = N (yTg T N L i) 195 + (if g = 0 then -k else k) := by
      unfold eVl
      rw [if_neg c, if_pos ⟨R, c35, li⟩]
    rw [e1]
    refine ⟨rfl, ?_⟩
    by_cases g0 : g = 0
    · have := h0 g0
      rw [if_pos g0]
      omega
    · have := h1 g0
      rw [if_neg g0]
      omega
  · have ar := S.ar W hi R c37
    have e1 : eVl T N L J p k g e i = N (yTg T N L i) 196 + e := by
      unfold eVl
      rw [if_neg c, if_neg (fun z => by have := z.2.1; omega), if_pos ⟨R, c37, tg⟩]
    rw [e1]
    rw [tg] at ar ⊢
    refine ⟨rfl, ?_⟩
    have := he.2
    by_cases z : e = -1
    · have := he.2 z ar.1
      omega
    · omega
  · unfold eVl
    rw [if_neg c, if_neg a, if_neg b]
theorem eVl_w (W : yWT T) (S : ySh T B n N L w) (hb : eVb T N L J p k g e) (hf : g ≠ 0 → ∀ j, 0 ≤ j → j < L → N j 192 = 3 → eVl T N L J p k g e j ≤ 255) : ∀ i, 0 ≤ i → i < L → eVl T N L J p k g e i ≠ -1 → (N i 192 = 2 ∨ N i 192 = 3) ∧ 0 ≤ eVl T N L J p k g e i ∧ eVl T N L J p k g e i ≤ 255 := fun i i0 i1 hne => by
  obtain ⟨b1, b2, b3, b4⟩ := hb i i0 i1
  by_cases c : N i 192 = 3
  · have b1 := b1 c
    refine ⟨Or.inr c, b1.1, ?_⟩
    by_cases z : g = 0
    · exact b1.2 z
    · exact hf z i i0 i1 c
  · by_cases a : yRl T (N i 198) ∧ T 467 (N i 198) = 35 ∧ eLi N (yTg T N L i) 201 J = 1
    · have := b2 c a.1 a.2.1 a.2.2
      exact ⟨Or.inl (a.1.k2 W S ⟨i0, i1⟩), by omega, by omega⟩
    · by_cases b : yRl T (N i 198) ∧ T 467 (N i 198) = 37 ∧ yTg T N L i = J
      · have := b3 c b.1 b.2.1 b.2.2
        exact ⟨Or.inl (b.1.k2 W S ⟨i0, i1⟩), by omega, by omega⟩
      · exact absurd (b4 c a b) hne
theorem eVl_k (W : yWT T) (S : ySh T B n N L w) : ∀ i, 0 ≤ i → i < L → eVl T N L J p k g e i ≠ -1 → N i 192 = 2 ∨ N i 192 = 3 := fun i i0 i1 hne => by
  by_cases c : N i 192 = 3
  · exact Or.inr c
  · by_cases a : yRl T (N i 198)
    · exact Or.inl (a.k2 W S ⟨i0, i1⟩)
    · unfold eVl at hne
      rw [if_neg c, if_neg (fun z => a z.1), if_neg (fun z => a z.1)] at hne
      exact absurd rfl hne
/-- where no array changes, the count of elements does not matter -/
theorem eVl_e (W : yWT T) (S : ySh T B n N L w) (hJ : N J 192 ≠ 1) (e e' : Int) (hi : 0 ≤ i ∧ i < L) : eVl T N L J p k g e i = eVl T N L J p k g e' i := by
  unfold eVl
  split
  · rfl
  · split
    · rfl
    · split
      · rename_i z
        have := S.ar W hi z.1 z.2.1
        rw [z.2.2] at this
        exact absurd this.1 hJ
      · rfl
theorem eMv_c {V V' : Int → Int} : ∀ (m : Nat) (i : Int) (F : yB), (∀ j, i ≤ j → j < i + m → V j = V' j) → eMv T N V m i F = eMv T N V' m i F
  | 0, _, _, _ => rfl
  | m + 1, i, F, h => by
    show eMv T N V m (i + 1) (if V i = -1 then F else eW T N i (V i) F) = eMv T N V' m (i + 1) (if V' i = -1 then F else eW T N i (V' i) F)
    rw [h i (Int.le_refl _) (by omega)]
    exact eMv_c m (i + 1) _ fun j j1 j2 => h j (by omega) (by omega)
theorem eFg_c {V V' : Int → Int} : ∀ (m : Nat) (i : Int), (∀ j, i ≤ j → j < i + m → V j = V' j) → eFg N V m i = eFg N V' m i
  | 0, _, _ => rfl
  | m + 1, i, h => by
    unfold eFg
    rw [h i (Int.le_refl _) (by omega), eFg_c m (i + 1) fun j j1 j2 => h j (by omega) (by omega)]
end
end
