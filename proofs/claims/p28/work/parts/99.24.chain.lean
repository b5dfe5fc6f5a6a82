/-! chain -/
/-- the first node from k on, of m, that lies in node 0 and is a reference -/
def aFr (N : Int → yN) : Nat → Int → Int
  | 0, _ => -1
  | m + 1, k => if N k 197 = 0 ∧ N k 192 = 3 then k else aFr N m (k + 1)
/-- h tells where the chain has been -/
def aCh (A : aA) : Nat → (Int → Int) → Int → Int → Int → Int
  | 0, _, _, _, _ => -2
  | m + 1, h, st, off, cnt => if h (256 * st + off) = 1 then -2 else match aAtS A st off with
    | .inl _ => cnt
    | .inr x => if aFr (yNs x.2.2.2) (x.2.2.2.length - 1) 1 = -1 then cnt + 1 else aCh A m (fun c => if c = 256 * st + off then 1 else h c) (yRs (aCt A) (yNs x.2.2.2 (aFr (yNs x.2.2.2) (x.2.2.2.length - 1) 1) 198)) (yNs x.2.2.2 (aFr (yNs x.2.2.2) (x.2.2.2.length - 1) 1) 196) (cnt + 1)
def sChain (j : Int) (A : aA) : Int ⊕ Nat := if 0 ≤ j ∧ j < aLn A then (if aNn A j 192 = 3 then .inl (aCh A 1536 (fun _ => 0) (yRs (aCt A) (aNn A j 198)) (aNn A j 196) 0) else .inr 1) else .inr 2
section
variable {A : aA} {s u : zS} {j w t : Int} {T : yT} {B C : yB} {n L : Int} {N : Int → yN} {r q b : Nat}
theorem aCh_y {m : Nat} {h : Int → Int} {st off cnt : Int} (z : h (256 * st + off) = 1) : aCh A (m + 1) h st off cnt = -2 := if_pos z
theorem aCh_f {m : Nat} {h : Int → Int} {st off cnt : Int} {e : Int × Int × Int} (z : ¬ h (256 * st + off) = 1) (x : aAtS A st off = .inl e) : aCh A (m + 1) h st off cnt = cnt := by
  unfold aCh
  rw [if_neg z, x]
theorem aCh_e {m : Nat} {h : Int → Int} {st off cnt : Int} {y : Int × Int × Int × List yN} (z : ¬ h (256 * st + off) = 1) (x : aAtS A st off = .inr y) (c : aFr (yNs y.2.2.2) (y.2.2.2.length - 1) 1 = -1) : aCh A (m + 1) h st off cnt = cnt + 1 := by
  unfold aCh
  rw [if_neg z, x]
  exact if_pos c
theorem aCh_g {m : Nat} {h : Int → Int} {st off cnt : Int} {y : Int × Int × Int × List yN} (z : ¬ h (256 * st + off) = 1) (x : aAtS A st off = .inr y) (c : ¬ aFr (yNs y.2.2.2) (y.2.2.2.length - 1) 1 = -1) : aCh A (m + 1) h st off cnt = aCh A m (fun c => if c = 256 * st + off then 1 else h c) (yRs (aCt A) (yNs y.2.2.2 (aFr (yNs y.2.2.2) (y.2.2.2.length - 1) 1) 198)) (yNs y.2.2.2 (aFr (yNs y.2.2.2) (y.2.2.2.length - 1) 1) 196) (cnt + 1) := by
  rw [aCh, if_neg z, x]
  exact if_neg c
theorem pa_fx : 2000 < xfu := by
  unfold xfu
  decide
theorem aFr_b : ∀ (m : Nat) (k : Int), aFr N m k = -1 ∨ ((k ≤ aFr N m k ∧ aFr N m k < k + m) ∧ N (aFr N m k) 197 = 0 ∧ N (aFr N m k) 192 = 3)
  | 0, _ => Or.inl rfl
  | m + 1, k => by
    unfold aFr
    by_cases c : N k 197 = 0 ∧ N k 192 = 3
    · rw [if_pos c]
      exact Or.inr ⟨by omega, c⟩
    · rw [if_neg c]
      rcases aFr_b m (k + 1) with z | ⟨z1, z2⟩
      · exact Or.inl z
      · exact Or.inr ⟨by omega, z2⟩
theorem aFr_s : ∀ (m : Nat) (k : Int), 0 ≤ k → aFr N (m + 1) k = if aFr N m k = -1 then (if N (k + m) 197 = 0 ∧ N (k + m) 192 = 3 then k + m else -1) else aFr N m k
  | 0, k, _ => by
    unfold aFr
    rw [show k + ((0 : Nat) : Int) = k by omega]
    rfl
  | m + 1, k, k0 => by
    rw [aFr]
    conv => rhs; rw [aFr]
    by_cases c : N k 197 = 0 ∧ N k 192 = 3
    · rw [if_pos c, if_pos c, if_neg (by omega)]
    · rw [if_neg c, if_neg c, aFr_s m (k + 1) (by omega), show k + 1 + (m : Int) = k + ((m + 1 : Nat) : Int) by omega]
/-- the node where a chain goes on -/
theorem aFr_ref (W : yWT T) (hB : ∀ i, 0 ≤ i → i < n → 0 ≤ B i ∧ B i ≤ 255) (S : ySh T B n N L w) {m : Nat} (hm : (m : Int) = L - 1) (c : aFr N m 1 ≠ -1) : (1 ≤ aFr N m 1 ∧ aFr N m 1 < L) ∧ N (aFr N m 1) 192 = 3 := by
  rcases aFr_b (N := N) m 1 with z | ⟨z1, z2, z3⟩
  · exact absurd z c
  · exact ⟨by omega, z3⟩
theorem C32_4 (I : cNd r N L s) (hL : L ≤ 200) : ∀ (m M : Nat) (k : Int), m < M → (m : Int) = L - k → 0 ≤ k → zf_32_4 M r 0 k s = zi (aFr N m k) s := by
  intro m
  induction m with
  | zero =>
    intro M k hM hm k0
    obtain ⟨M, rfl⟩ : ∃ L, M = L + 1 := ⟨M - 1, by omega⟩
    unfold zf_32_4 aFr
    rw [I.1, if_pos (by omega)]
  | succ m ih =>
    intro M k hM hm k0
    obtain ⟨M, rfl⟩ : ∃ L, M = L + 1 := ⟨M - 1, by omega⟩
    have go := ih M (k + 1) (by omega) (by omega) (by omega)
    unfold zf_32_4 aFr
    rw [I.1, if_neg (by omega), zn_ok (by omega), I.2 k k0 (by omega) 197 (by decide) (by decide)]
    by_cases c1 : N k 197 = 0
    · rw [if_pos c1, zn_ok (by omega), I.2 k k0 (by omega) 192 (by decide) (by decide)]
      by_cases c2 : N k 192 = 3
      · rw [if_pos c2, if_pos ⟨c1, c2⟩]
      · rw [if_neg c2, if_neg (fun z => c2 z.2), zg_ok ⟨by omega, by omega⟩]
        exact go
    · rw [if_neg c1, if_neg (fun z => c1 z.1), zg_ok ⟨by omega, by omega⟩]
      exact go
theorem C120_59 (ok : aOK A) (cn : aChosen A ≠ -1) : ∀ (m M : Nat) (h : Int → Int) (st off cnt : Int) (s : zS), m < M → cnt + m = 1536 → 0 ≤ cnt → cR A s → (∀ c, 0 ≤ c → c < 1536 → s.1 521 0 c = h c) → (∀ c, h c = 0 ∨ h c = 1) → (0 ≤ st ∧ st < (aCt A) 449 0) → (0 ≤ off ∧ off ≤ 255) → ∃ u, zf_120_59 M 0 (((aChosen A).toNat : Int) + 1) st off cnt cnt s = zi (aCh A m h st off cnt) u ∧ cR A u ∧ (∀ (f n : Nat) (i : Int), ¬ (f = 521 ∨ n = 1 ∧ (192 ≤ f ∧ f < 200 ∨ 321 ≤ f ∧ f < 331)) → u.1 f n i = s.1 f n i) ∧ u.2 = s.2 := by
  obtain ⟨x, x1, x2, x3, x4, x5⟩ := aChosen_x ok cn
  have o := ok.2.2.2.2.2 _ x4
  have W : yWT (aCt A) := o.1
  have hW := W.2.1
  intro m
  induction m with
  | zero =>
    intro M h st off cnt s hM hc c0 hR hh h01 hst ho
    obtain ⟨M, rfl⟩ : ∃ L, M = L + 1 := ⟨M - 1, by omega⟩
    unfold zf_120_59 aCh
    rw [if_pos (by omega)]
    exact ⟨s, rfl, hR, fun _ _ _ _ => rfl, rfl⟩
  | succ m ih =>
    intro M h st off cnt s hM hc c0 hR hh h01 hst ho
    obtain ⟨M, rfl⟩ : ∃ L, M = L + 1 := ⟨M - 1, by omega⟩
    unfold zf_120_59 zf_142
    have ec : st * 256 + off = 256 * st + off := by omega
    rw [if_neg (by omega), zg_ok ⟨by omega, by omega⟩, zg_ok ⟨by omega, by omega⟩, ec, if_neg (by omega), if_pos (by omega), zn_ok (by omega), zWz_ok ⟨by omega, Or.inr rfl⟩, hh (256 * st + off) (by omega) (by omega)]
    have k1 : ∀ (f n : Nat) (i : Int), f ≠ 521 → (zp 521 0 (256 * st + off) 1 s).1 f n i = s.1 f n i := fun f n i hf => zp_nk hf
    have hR1 : cR A (zp 521 0 (256 * st + off) 1 s) := hR.k (fun f n i hf => zp_nk (by omega)) rfl
    have hh1 : ∀ c, 0 ≤ c → c < 1536 → (zp 521 0 (256 * st + off) 1 s).1 521 0 c = if c = 256 * st + off then 1 else h c := fun c c1 c2 => by
      by_cases e : c = 256 * st + off
      · rw [if_pos e, e, zp_eq]
      · rw [if_neg e, zp_ni e]
        exact hh c c1 c2
    rcases h01 (256 * st + off) with z | z
    · have nz : ¬ h (256 * st + off) = 1 := by omega
      rw [z, zz0, zC_zi, if_pos rfl]
      obtain ⟨v, u, b1, ⟨b2, b3, b4⟩, b5⟩ := C56' (r := 1) (k := (aChosen A).toNat) (st := st) (off := off) hR1 ok x4 hst ho
      rw [b1, zC_zi]
      have F : ∀ (f n : Nat) (i : Int), ¬ (f = 521 ∨ n = 1 ∧ (192 ≤ f ∧ f < 200 ∨ 321 ≤ f ∧ f < 331)) → u.1 f n i = s.1 f n i := fun f n i hn => (b2.1 f n i (by omega)).trans (k1 f n i (by omega))
      have hu := hR1.fr2 b2
      have b6 := b5
      revert b6
      show yTold 1 (aAtS A st off) v u → _
      cases e : aAtS A st off with
      | inl y =>
        intro b6
        rw [if_pos b6.1, aCh_f nz e]
        exact ⟨u, rfl, hu, F, b2.2⟩
      | inr y =>
        intro b6
        have H := C56_rd (r := 1) hu ok x4 hst ho b3 b4 (by rw [b6.1] at b5; exact b5) e
        have S := H.2.2
        have hS := S.1
        have hm2 : ((y.2.2.2.length - 1 : Nat) : Int) = (y.2.2.2.length : Int) - 1 := by omega
        rw [if_neg (by rw [b6.1]; decide)]
        unfold zf_32
        rw [zg_ok ⟨by decide, by decide⟩, show (0 : Int) + 1 = 1 from rfl, C32_4 H.2.1 hS.2 (y.2.2.2.length - 1) xfu 1 (pa_fu (by omega)) hm2 (by decide), zC_zi]
        by_cases cf : aFr (yNs y.2.2.2) (y.2.2.2.length - 1) 1 = -1
        · rw [if_pos cf, aCh_e nz e cf, zg_ok ⟨by omega, by omega⟩]
          exact ⟨u, rfl, hu, F, b2.2⟩
        · obtain ⟨g1, g2⟩ := aFr_ref W ok.2.1.2 S hm2 cf
          obtain ⟨st', k', f1, f2, f3, f4, f5, f6, f7, f8, f9, f10, f11⟩ := (S.nd ⟨by omega, g1.2⟩).ref W ok.2.1.2 g2
          have f48 := (S.nd ⟨by omega, g1.2⟩).f W f5
          rw [if_neg cf, aCh_g nz e cf, zn_ok (by omega), H.2.1.2 _ (by omega) g1.2 198 (by decide) (by decide), z82 H W f48 ⟨f10.1, f10.2.1⟩, zC_zi, zn_ok (by omega), zg_ok ⟨by omega, by omega⟩, zg_ok ⟨by omega, by omega⟩, H.2.1.2 _ (by omega) g1.2 196 (by decide) (by decide)]
          obtain ⟨v', d1, d2, d3, d4⟩ := ih M (fun c => if c = 256 * st + off then 1 else h c) (yRs (aCt A) (yNs y.2.2.2 (aFr (yNs y.2.2.2) (y.2.2.2.length - 1) 1) 198)) (yNs y.2.2.2 (aFr (yNs y.2.2.2) (y.2.2.2.length - 1) 1) 196) (cnt + 1) u (by omega) (by omega) (by omega) hu (fun c c1 c2 => (b2.1 521 0 c (by omega)).trans (hh1 c c1 c2)) (fun c => by
            by_cases e : c = 256 * st + off
            · rw [if_pos e]
              exact Or.inr rfl
            · rw [if_neg e]
              exact h01 c) f11 f8
          exact ⟨v', d1, d2, fun f n i hn => (d3 f n i hn).trans (F f n i hn), d4.trans b2.2⟩
    · rw [z, zz1, zC_zi, if_neg (by decide), aCh_y z]
      exact ⟨_, rfl, hR1, fun f n i hn => k1 f n i (by omega), rfl⟩
theorem C141_2 : ∀ (m M : Nat) (k : Int) (s : zS), m < M → (m : Int) = 1536 - k → 0 ≤ k → ∃ u, zf_141_2 M 0 k s = zi 0 u ∧ (∀ (f n : Nat) (i : Int), f ≠ 521 → u.1 f n i = s.1 f n i) ∧ u.2 = s.2 ∧ (∀ c, k ≤ c → c < 1536 → u.1 521 0 c = 0) ∧ ∀ c, c < k → u.1 521 0 c = s.1 521 0 c := by
  intro m
  induction m with
  | zero =>
    intro M k s hM hm k0
    obtain ⟨M, rfl⟩ : ∃ L, M = L + 1 := ⟨M - 1, by omega⟩
    unfold zf_141_2
    rw [if_pos (by omega)]
    exact ⟨s, rfl, fun _ _ _ _ => rfl, rfl, fun c c1 c2 => by omega, fun c _ => rfl⟩
  | succ m ih =>
    intro M k s hM hm k0
    obtain ⟨M, rfl⟩ : ∃ L, M = L + 1 := ⟨M - 1, by omega⟩
    unfold zf_141_2
    rw [if_neg (by omega), zWz_ok ⟨by omega, Or.inl rfl⟩, zg_ok ⟨by omega, by omega⟩]
    obtain ⟨u, a1, a2, a3, a4, a5⟩ := ih M (k + 1) (zp 521 0 k 0 s) (by omega) (by omega) (by omega)
    refine ⟨u, a1, fun f n i hf => (a2 f n i hf).trans (zp_nk hf), a3, fun c c1 c2 => ?_, fun c c1 => ?_⟩
    · by_cases e : c = k
      · rw [a5 c (by omega), e, zp_eq]
      · exact a4 c (by omega) c2
    · rw [a5 c (by omega), zp_ni (by omega)]
theorem C120 (h : cR A s) (ok : aOK A) (c : cC A s) : cOut (zf_120 0 j s) (sChain j A) A s := by
  obtain ⟨u, a1, a2, a3, a4, a5, a6⟩ := C135 (j := j) h ok c
  have hL := aLn_b ok
  unfold zf_120 sChain
  rw [a1]
  by_cases d : 0 ≤ j ∧ j < aLn A
  · have g : ∀ c : Nat, 192 ≤ c → c < 199 → u.1 c 0 j = aNn A j c := fun c c1 c2 => a4.2 j d.1 d.2 c c1 c2
    rw [if_pos d, if_pos d, zC_zi]
    unfold zf_136
    rw [zn_ok (by omega), g 192 (by decide) (by decide)]
    by_cases k3 : aNn A j 192 = 3
    · have cn := hL.2.2 (by omega)
      obtain ⟨x, x1, x2, x3, x4, x5⟩ := aChosen_x ok cn
      have H := a3.H a2 ok cn x1
      have W : yWT (aCt A) := (ok.2.2.2.2.2 _ x4).1
      rw [← x2] at H
      have H : cHo 0 (aChosen A).toNat 1 (aCt A) (A.1 2) (A.1 2) (A.1 3 0) (aNn A) (aLn A) x.2.2.1 u := H
      obtain ⟨st, k, f1, f2, f3, f4, f5, f6, f7, f8, f9, f10, f11⟩ := (H.2.2.nd d).ref W ok.2.1.2 k3
      have f48 := (H.2.2.nd d).f W f5
      rw [if_pos k3, if_pos k3, zC_zi, z132 a2 ok a3 cn, zC_zi, zn_ok (by omega), g 198 (by decide) (by decide), z82 H W f48 ⟨f10.1, f10.2.1⟩, zC_zi, zn_ok (by omega), g 196 (by decide) (by decide)]
      unfold zf_141
      obtain ⟨v, b1, b2, b3, b4, b5⟩ := C141_2 1536 xfu 0 u (by have := pa_fx; omega) (by decide) (by decide)
      rw [b1, zC_zi]
      have hv : cR A v := a2.k (fun f n i hf => b2 f n i (by omega)) (by rw [b3])
      obtain ⟨z, d1, d2, d3, d4⟩ := C120_59 ok cn 1536 xfu (fun _ => 0) (yRs (aCt A) (aNn A j 198)) (aNn A j 196) 0 v (by have := pa_fx; omega) (by decide) (by decide) hv b4 (fun _ => Or.inl rfl) f11 f8
      rw [d1]
      exact ⟨z, rfl, d2, cC.c (Or.inr a3) rfl rfl rfl rfl fun f i hf => (d3 f 0 i (by omega)).trans (b2 f 0 i (by omega)), fun f n i f1 f2 => (d3 f n i (by omega)).trans ((b2 f n i (by omega)).trans (a5 f n i f1 f2)), by rw [d4, b3, a6]; omega⟩
    · rw [if_neg k3, if_neg k3]
      exact cEndT a2 a3 a5 a6
  · rw [if_neg d, if_neg d]
    exact cEndT (e := 2) a2 a3 a5 a6
end
