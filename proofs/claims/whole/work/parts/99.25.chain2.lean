/-! chain: the reference -/
section
variable {A : aA} {s u : zS} {j w t : Int} {T : yT} {B C : yB} {n L : Int} {N : Int → yN}
theorem ySm_up {h : Int → Int} {c : Int} (hc : h c = 0) : ∀ (m : Nat) (k : Int), k ≤ c → c < k + m → ySm (fun i => if i = c then 1 else h i) m k = ySm h m k + 1
  | 0, k, k1, k2 => by omega
  | m + 1, k, k1, k2 => by
    show (if k = c then 1 else h k) + ySm _ m (k + 1) = h k + ySm h m (k + 1) + 1
    by_cases e : k = c
    · rw [if_pos e, ySm_c (h' := h) m (k + 1) fun i i1 i2 => if_neg (by omega), e, hc]
      omega
    · rw [if_neg e, ySm_up hc m (k + 1) (by omega) (by omega)]
      omega
theorem ySm_full {h : Int → Int} (hh : ∀ i, 0 ≤ h i ∧ h i ≤ 1) : ∀ (m : Nat) (k : Int), ySm h m k = m → ∀ i, k ≤ i → i < k + m → h i = 1
  | 0, k, _, i, i1, i2 => by omega
  | m + 1, k, e, i, i1, i2 => by
    have e : h k + ySm h m (k + 1) = ((m + 1 : Nat) : Int) := e
    have a := ySm_b hh m (k + 1)
    have b := hh k
    by_cases d : i = k
    · rw [d]
      omega
    · exact ySm_full hh m (k + 1) (by omega) i (by omega) (by omega)
/-- what the reference remembers of a chain: the first cnt of its list are where h is 1 -/
def mVs (h : Int → Int) (cnt : Int) (s : zS) : Prop := (∀ c, h c = 0 ∨ h c = 1) ∧ (∀ st off, (0 ≤ st ∧ st < 6) → (0 ≤ off ∧ off ≤ 255) → (h (256 * st + off) = 1 ↔ ∃ k, (0 ≤ k ∧ k < cnt) ∧ s.1 633 0 k = 1000 * st + off)) ∧ ySm h 1536 0 = cnt
theorem M200_106y {zk : Nat → Int → Int → Int → zS → zR} {st off cnt : Int} (hb : -100000 ≤ 1000 * st ∧ 1000 * st ≤ 100000) (ho : 0 ≤ off ∧ off ≤ 255) (hc : cnt ≤ 1600) : ∀ (m M : Nat) (k : Int), m < M → (m : Int) = cnt - k → 0 ≤ k → (∃ i, (k ≤ i ∧ i < cnt) ∧ s.1 633 0 i = 1000 * st + off) → zf_200_106 zk M 0 t cnt off st k s = zi (-2) s := by
  intro m
  induction m with
  | zero =>
    intro M k hM hm k0 ⟨i, i1, i2⟩
    omega
  | succ m ih =>
    intro M k hM hm k0 ⟨i, i1, i2⟩
    obtain ⟨M, rfl⟩ : ∃ L, M = L + 1 := ⟨M - 1, by omega⟩
    unfold zf_200_106
    rw [if_neg (by omega), zn_ok (by omega), zg_ok ⟨by omega, by omega⟩, zg_ok ⟨by omega, by omega⟩]
    by_cases c : s.1 633 0 k = 1000 * st + off
    · rw [if_pos c]
    · rw [if_neg c, zg_ok ⟨by omega, by omega⟩]
      refine ih M (k + 1) (by omega) (by omega) (by omega) ⟨i, ⟨?_, i1.2⟩, i2⟩
      by_cases e : i = k
      · rw [e] at i2
        exact absurd i2 c
      · omega
theorem M200_106n {zk : Nat → Int → Int → Int → zS → zR} {st off cnt : Int} (hb : -100000 ≤ 1000 * st ∧ 1000 * st ≤ 100000) (ho : 0 ≤ off ∧ off ≤ 255) (hc : cnt ≤ 1600) : ∀ (m M : Nat) (k : Int), m < M → (m : Int) = cnt - k → 0 ≤ k → (∀ i, k ≤ i → i < cnt → s.1 633 0 i ≠ 1000 * st + off) → zf_200_106 zk M 0 t cnt off st k s = zC (zf_186 0 t st off s) fun v3 s2 => if v3 = 0 then (zi cnt s2) else (zg (1000 * st) (zg ((1000 * st) + off) (zW 633 0 1600 cnt ((1000 * st) + off) s2 fun s7 => zg (cnt + 1) (zg ((s7.1 610 0 0) - 1) ((zf_200_185 zk xfu 0 t (-1) (cnt + 1) ((s7.1 610 0 0) - 1) s7)))))) := by
  intro m
  induction m with
  | zero =>
    intro M k hM hm k0 hn
    obtain ⟨M, rfl⟩ : ∃ L, M = L + 1 := ⟨M - 1, by omega⟩
    unfold zf_200_106
    rw [if_pos (by omega)]
  | succ m ih =>
    intro M k hM hm k0 hn
    obtain ⟨M, rfl⟩ : ∃ L, M = L + 1 := ⟨M - 1, by omega⟩
    unfold zf_200_106
    rw [if_neg (by omega), zn_ok (by omega), zg_ok ⟨by omega, by omega⟩, zg_ok ⟨by omega, by omega⟩, if_neg (hn k (Int.le_refl _) (by omega)), zg_ok ⟨by omega, by omega⟩]
    exact ih M (k + 1) (by omega) (by omega) (by omega) fun i i1 i2 => hn i (by omega) i2
theorem aSel1 {a v x : Int} {P : Prop} [Decidable P] (hP : P) (hv : v ≠ -1) : (if (if a = -1 then (if P then v else -1) else a) = -1 then x else (if a = -1 then (if P then v else -1) else a)) = if a = -1 then v else a := by
  by_cases c : a = -1
  · simp only [if_pos c, if_pos hP, if_neg hv]
  · simp only [if_neg c]
theorem aSel2 {a v x : Int} {P : Prop} [Decidable P] (hP : ¬ P) : (if (if a = -1 then (if P then v else -1) else a) = -1 then x else (if a = -1 then (if P then v else -1) else a)) = if a = -1 then x else a := by
  by_cases c : a = -1
  · simp only [if_pos c, if_neg hP, if_true]
  · simp only [if_neg c]
theorem M200_185 {zk : Nat → Int → Int → Int → zS → zR} {cnt : Int} (I : mNd t T N L s) (hL : L ≤ 200) : ∀ (m M : Nat) (x : Int), m < M → (m : Int) < L → zf_200_185 zk M 0 t x cnt m s = zk 0 t (if aFr N m 1 = -1 then x else aFr N m 1) cnt s := by
  intro m
  induction m with
  | zero =>
    intro M x hM hm
    obtain ⟨M, rfl⟩ : ∃ L, M = L + 1 := ⟨M - 1, by omega⟩
    unfold zf_200_185
    rw [if_pos (by omega)]
    rfl
  | succ m ih =>
    intro M x hM hm
    obtain ⟨M, rfl⟩ : ∃ L, M = L + 1 := ⟨M - 1, by omega⟩
    have g := I.2 ((m + 1 : Nat) : Int) (by omega) hm
    have e1 : (1 : Int) + (m : Int) = ((m + 1 : Nat) : Int) := by omega
    unfold zf_200_185
    rw [if_neg (by omega), zn_ok (by omega), g.2.2.2.2.2.1, aFr_s m 1 (by decide), e1, show ((m + 1 : Nat) : Int) + (-1) = (m : Int) by omega]
    have go : ∀ x' : Int, zg (m : Int) (zf_200_185 zk M 0 t x' cnt m s) = zk 0 t (if aFr N m 1 = -1 then x' else aFr N m 1) cnt s := fun x' => by
      rw [zg_ok ⟨by omega, by omega⟩]
      exact ih M x' (by omega) (by omega)
    by_cases c1 : N ((m + 1 : Nat) : Int) 197 = 0
    · rw [if_pos c1, zn_ok (by omega), g.1]
      by_cases c2 : N ((m + 1 : Nat) : Int) 192 = 3
      · rw [if_pos c2, go, aSel1 (⟨c1, c2⟩ : N ((m + 1 : Nat) : Int) 197 = 0 ∧ N ((m + 1 : Nat) : Int) 192 = 3) (by omega)]
      · rw [if_neg c2, go, aSel2 (P := N ((m + 1 : Nat) : Int) 197 = 0 ∧ N ((m + 1 : Nat) : Int) 192 = 3) (fun z => c2 z.2)]
    · rw [if_neg c1, go, aSel2 (P := N ((m + 1 : Nat) : Int) 197 = 0 ∧ N ((m + 1 : Nat) : Int) 192 = 3) (fun z => c1 z.1)]
/-- from a node that is a reference the chain goes to where it tells -/
theorem M200_54 (W : yWT T) (H : mHo t T B C n N L w s) (hB : ∀ i, 0 ≤ i → i < n → 0 ≤ B i ∧ B i ≤ 255) (e603 : s.1 603 0 0 = 200 * t) {F : Nat} {cnt : Int} (hj : 0 ≤ j ∧ j < L) (k3 : N j 192 = 3) : zf_200_54 (F + 1) 0 t j cnt s = zf_200_106 (fun y0 y1 y2 y3 y => zf_200_54 F y0 y1 y2 y3 y) xfu 0 t cnt (N j 196) (yRs T (N j 198)) 0 s := by
  have hL := H.2.1.1
  have h1 := H.2.2.1.1
  have g := H.1.2 j hj.1 hj.2
  obtain ⟨st, k, f1, f2, f3, f4, f5, f6, f7, f8, f9, f10, f11⟩ := (H.2.1.nd hj).ref W hB k3
  have f48 := (H.2.1.nd hj).f W f5
  rw [f1] at f4
  obtain ⟨r1, r2, r3⟩ := mRef W H.2.2.1 f2 f3 f4
  rw [zf_200_54, if_neg (by omega), zn_ok (by omega), zn_ok (by omega), g.2.2.2.2.2.2.1, if_neg f5, f1, zn_ok (by omega), e603, zg_ok ⟨by omega, by omega⟩, zn_ok (by omega), zg_ok ⟨by omega, by omega⟩, zg_ok ⟨by omega, by omega⟩, zg_ok ⟨by omega, by omega⟩, zn_ok (by omega), r3, g.2.2.2.2.1]
theorem M200_run (ok : aOK A) (cn : aChosen A ≠ -1) : ∀ (m F : Nat) (h : Int → Int) (st off cnt : Int) (s : zS), m < F → cnt + m = 1536 → 0 ≤ cnt → mR A s → mVs h cnt s → (0 ≤ st ∧ st < (aCt A) 449 0) → (0 ≤ off ∧ off ≤ 255) → ∃ u, zf_200_106 (fun y0 y1 y2 y3 y => zf_200_54 F y0 y1 y2 y3 y) xfu 0 (aChosen A) cnt off st 0 s = zi (aCh A m h st off cnt) u ∧ mR A u ∧ mFr s u ∧ u.1 576 0 0 = s.1 576 0 0 := by
  obtain ⟨x, x1, x2, x3, x4, x5⟩ := aChosen_x ok cn
  have o := ok.2.2.2.2.2 _ x4
  have W : yWT (aCt A) := o.1
  have hW := W.2.1
  intro m
  induction m with
  | zero =>
    intro F h st off cnt s hF hc c0 hR hV hst ho
    obtain ⟨v1, v2, v3⟩ := hV
    have all := ySm_full (h := h) (fun i => by rcases v1 i with z | z <;> omega) 1536 0 (by omega) (256 * st + off) (by omega) (by omega)
    obtain ⟨i, i1, i2⟩ := (v2 st off (by omega) ho).mp all
    rw [M200_106y (by omega) ho (by omega) cnt.toNat xfu 0 (by have := pa_fx; omega) (by omega) (Int.le_refl _) ⟨i, i1, i2⟩]
    exact ⟨s, rfl, hR, mFr.rf, rfl⟩
  | succ m ih =>
    intro F h st off cnt s hF hc c0 hR hV hst ho
    obtain ⟨F, rfl⟩ : ∃ L, F = L + 1 := ⟨F - 1, by omega⟩
    obtain ⟨v1, v2, v3⟩ := id hV
    by_cases z : h (256 * st + off) = 1
    · obtain ⟨i, i1, i2⟩ := (v2 st off (by omega) ho).mp z
      rw [aCh_y z, M200_106y (by omega) ho (by omega) cnt.toNat xfu 0 (by have := pa_fx; omega) (by omega) (Int.le_refl _) ⟨i, i1, i2⟩]
      exact ⟨s, rfl, hR, mFr.rf, rfl⟩
    · have z0 : h (256 * st + off) = 0 := (v1 _).resolve_right z
      rw [M200_106n (by omega) ho (by omega) cnt.toNat xfu 0 (by have := pa_fx; omega) (by omega) (Int.le_refl _) (fun i i1 i2 i3 => z ((v2 st off (by omega) ho).mpr ⟨i, ⟨i1, i2⟩, i3⟩))]
      obtain ⟨v, u, b1, b2, b3, b4⟩ := M186' (k := (aChosen A).toNat) (st := st) (off := off) hR ok x4 hst ho
      rw [x5] at b1 b3 b4
      rw [b1, zC_zi]
      have hu := hR.fb ok b2
      have e6 : u.1 576 0 0 = s.1 576 0 0 := b2.1 576 0 0 (by omega)
      revert b4
      show mTold (aChosen A) (aCt A) (aAtS A st off) v u → _
      cases e : aAtS A st off with
      | inl y =>
        intro b4
        rw [if_pos b4.1, aCh_f z e]
        exact ⟨u, rfl, hu, b2.F, e6⟩
      | inr y =>
        intro b4
        have S := yTop_sh (B := A.1 2) W o.2.2.2 ok.2.1.1.2 ok.2.1.2 hst ho e
        have hS := S.1
        have I := b4.2.2.1.nds
        rw [if_neg (by rw [b4.1]; decide), zg_ok ⟨by omega, by omega⟩, zg_ok ⟨by omega, by omega⟩, zW_ok (by omega), zg_ok ⟨by omega, by omega⟩]
        have k1 : ∀ (f n : Nat) (i : Int), f ≠ 633 → (zp 633 0 cnt (1000 * st + off) u).1 f n i = u.1 f n i := fun f n i hf => zp_nk hf
        have h2 : mR A (zp 633 0 cnt (1000 * st + off) u) := hu.k ok fun f i hf => k1 f 0 i (by omega)
        have F2 : mFr s (zp 633 0 cnt (1000 * st + off) u) := mFr.pw b2.F (by decide)
        have I2 : mNd (aChosen A) (aCt A) (yNs y.2.2.2) y.2.2.2.length (zp 633 0 cnt (1000 * st + off) u) := by
          refine ⟨(k1 610 0 0 (by decide)).trans I.1, fun i i1 i2 => ?_⟩
          rw [k1 612 0 i (by decide), k1 613 0 i (by decide), k1 614 0 i (by decide), k1 615 0 i (by decide), k1 616 0 i (by decide), k1 617 0 i (by decide), k1 618 0 i (by decide), k1 619 0 i (by decide)]
          exact I.2 i i1 i2
        have hm2 : ((y.2.2.2.length - 1 : Nat) : Int) = (y.2.2.2.length : Int) - 1 := by omega
        rw [I2.1, zg_ok ⟨by omega, by omega⟩, ← hm2, M200_185 I2 hS.2 (y.2.2.2.length - 1) xfu (-1) (pa_fu (by omega)) (by omega)]
        by_cases cf : aFr (yNs y.2.2.2) (y.2.2.2.length - 1) 1 = -1
        · rw [if_pos cf, aCh_e z e cf]
          unfold zf_200_54
          rw [if_pos rfl]
          exact ⟨_, rfl, h2, F2, (k1 576 0 0 (by decide)).trans e6⟩
        · obtain ⟨g1, g2⟩ := aFr_ref W ok.2.1.2 S hm2 cf
          obtain ⟨st', k', f1, f2, f3, f4, f5, f6, f7, f8, f9, f10, f11⟩ := (S.nd ⟨by omega, g1.2⟩).ref W ok.2.1.2 g2
          have R2 := (h2.2.2.2.2.2.1 _ x4).2
          rw [x5] at R2
          have H2 : mHo (aChosen A) (aCt A) (A.1 2) (A.1 2) (A.1 3 0) (yNs y.2.2.2) y.2.2.2.length y.2.2.1 (zp 633 0 cnt (1000 * st + off) u) := ⟨I2, S, R2, h2.F ok⟩
          rw [if_neg cf, aCh_g z e cf, M200_54 W H2 ok.2.1.2 ((k1 603 0 0 (by decide)).trans b3) ⟨by omega, g1.2⟩ g2]
          have e33 : ∀ i, (zp 633 0 cnt (1000 * st + off) u).1 633 0 i = if i = cnt then 1000 * st + off else s.1 633 0 i := fun i => by
            by_cases q : i = cnt
            · rw [if_pos q, q, zp_eq]
            · rw [if_neg q, zp_ni q, b2.1 633 0 i (by omega)]
          have V2 : mVs (fun c => if c = 256 * st + off then 1 else h c) (cnt + 1) (zp 633 0 cnt (1000 * st + off) u) := by
            refine ⟨fun c => ?_, fun st2 off2 q1 q2 => ?_, ?_⟩
            · dsimp only
              by_cases q : c = 256 * st + off
              · rw [if_pos q]
                exact Or.inr rfl
              · rw [if_neg q]
                exact v1 c
            · dsimp only
              by_cases q : 256 * st2 + off2 = 256 * st + off
              · rw [if_pos q]
                refine ⟨fun _ => ⟨cnt, by omega, ?_⟩, fun _ => rfl⟩
                rw [e33, if_pos rfl]
                omega
              · rw [if_neg q, v2 st2 off2 q1 q2]
                refine ⟨fun ⟨i, i1, i2⟩ => ⟨i, by omega, by rw [e33, if_neg (by omega)]; exact i2⟩, fun ⟨i, i1, i2⟩ => ?_⟩
                rw [e33] at i2
                by_cases q3 : i = cnt
                · rw [if_pos q3] at i2
                  omega
                · rw [if_neg q3] at i2
                  exact ⟨i, by omega, i2⟩
            · rw [ySm_up z0 1536 0 (by omega) (by omega), v3]
          obtain ⟨u', d1, d2, d3, d4⟩ := ih F (fun c => if c = 256 * st + off then 1 else h c) (yRs (aCt A) (yNs y.2.2.2 (aFr (yNs y.2.2.2) (y.2.2.2.length - 1) 1) 198)) (yNs y.2.2.2 (aFr (yNs y.2.2.2) (y.2.2.2.length - 1) 1) 196) (cnt + 1) _ (by omega) (by omega) (by omega) h2 V2 f11 f8
          exact ⟨u', d1, d2, F2.tr d3, d4.trans ((k1 576 0 0 (by decide)).trans e6)⟩
theorem M200 (h : mR A s) (ok : aOK A) : mOut (zf_200 0 j s) (sChain j A) cd21 A s := by
  obtain ⟨u, a1, a2, a3, a4, a5⟩ := M191 (j := j) h ok
  have hL := aLn_b ok
  unfold zf_200 sChain
  rw [a1, zC_zi]
  by_cases d : 0 ≤ j ∧ j < aLn A
  · have g := a4.2 j d.1 d.2
    rw [if_pos d, if_neg (by decide), if_pos d, zn_ok (by omega), g.1]
    by_cases k3 : aNn A j 192 = 3
    · have cn := hL.2.2 (by omega)
      obtain ⟨x, x1, x2, x3, x4, x5⟩ := aChosen_x ok cn
      have H := a3.H a2 ok cn x1
      have W : yWT (aCt A) := (ok.2.2.2.2.2 _ x4).1
      rw [← x2] at H
      have H : mHo (aChosen A) (aCt A) (A.1 2) (A.1 2) (A.1 3 0) (aNn A) (aLn A) x.2.2.1 u := H
      have c3 : aChosen A ≤ 3 := by have := ok.2.2.2.2.1; omega
      obtain ⟨st, k, f1, f2, f3, f4, f5, f6, f7, f8, f9, f10, f11⟩ := (H.2.1.nd d).ref W ok.2.1.2 k3
      have e603 : u.1 603 0 0 = 200 * aChosen A := by
        unfold mRd' at a3
        rw [if_neg cn] at a3
        exact a3.1
      have kk : ∀ (f : Nat) (i : Int), f ≠ 576 → (zp 576 0 0 0 u).1 f 0 i = u.1 f 0 i := fun f i hf => zp_nk hf
      have h0 : mR A (zp 576 0 0 0 u) := a2.k ok fun f i hf => zp_nk (by omega)
      have H0 : mHo (aChosen A) (aCt A) (A.1 2) (A.1 2) (A.1 3 0) (aNn A) (aLn A) x.2.2.1 (zp 576 0 0 0 u) := by
        obtain ⟨q1, q2, q3, q4⟩ := H
        refine ⟨⟨(kk 610 0 (by decide)).trans q1.1, fun i i1 i2 => ?_⟩, q2, q3.c W fun f i hf => kk f i (by omega), h0.F ok⟩
        rw [kk 612 i (by decide), kk 613 i (by decide), kk 614 i (by decide), kk 615 i (by decide), kk 616 i (by decide), kk 617 i (by decide), kk 618 i (by decide), kk 619 i (by decide)]
        exact q1.2 i i1 i2
      have hx : (xfu : Nat) = (xfu - 1) + 1 := by
        have := pa_fu (m := 1) (by decide)
        omega
      unfold zf_200_28
      rw [if_pos k3, if_pos k3, zP_ok, if_pos (by rw [zp_eq]; decide), kk 603 _ (by decide), e603, zdiv_200 ⟨by omega, c3⟩, hx, M200_54 W H0 ok.2.1.2 ((kk 603 0 (by decide)).trans e603) d k3]
      obtain ⟨z, d1, d2, d3, d4⟩ := M200_run ok cn 1536 (xfu - 1) (fun _ => 0) (yRs (aCt A) (aNn A j 198)) (aNn A j 196) 0 (zp 576 0 0 0 u) (by have := pa_fx; omega) (by decide) (by decide) h0 ⟨fun _ => Or.inl rfl, fun st off q1 q2 => ⟨fun z => by
        have z : (0 : Int) = 1 := z
        omega, fun ⟨i, i1, i2⟩ => by omega⟩, ySm_0 _ _ fun _ _ _ => rfl⟩ f11 f8
      rw [d1]
      exact ⟨_, z, rfl, d2, mFr.tr (mFr.pw a5.F (by decide)) d3, rfl, d4.trans zp_eq⟩
    · rw [if_neg k3, if_neg k3]
      unfold zf_200_28
      rw [zP_ok, if_neg (by rw [zp_eq]; decide)]
      exact mEndT (e := 1) (cd := cd21) ok a2 a5.F
  · rw [if_neg d, if_pos rfl, if_neg d]
    unfold zf_200_28
    rw [zP_ok, if_neg (by rw [zp_eq]; decide)]
    exact mEndT (e := 2) (cd := cd21) ok a2 a5.F
end
