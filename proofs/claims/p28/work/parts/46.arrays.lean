/-! the class's reader: arrays by all and by an end -/
section
variable {r q b : Nat} {T : yT} {B : yB} {n dep : Int} {zrs : Nat → Int → Int → Int → Int → zS → zR} {rs : Int → Int → Int → Int → Int → Int → yO} {E : yE} {st k d me pos made cnt : Int} {s : zS}
theorem z70_73 {at' nd w cnt' D : Int} {s' : zS} (K : yKeep r cnt' D s s') {x : Int} : zf_70_73 zrs r x at' nd w s' = zi x (zp 327 r 0 w (zp 199 r 0 nd (zp 323 r 0 at' s'))) ∧ yKeep r cnt' D s (zp 327 r 0 w (zp 199 r 0 nd (zp 323 r 0 at' s'))) := by
  refine ⟨?_, ((K.pw (by omega)).pw (by omega)).pw (by omega)⟩
  unfold zf_70_73
  rw [z67, zC_zi]
/-- nodes are made -/
def yNmNe (nm : Int → Int → Int → yO) : Prop := ∀ pos made cnt x, nm pos made cnt = .inr x → 1 ≤ x.2.2.2.length
theorem C70_3 {f arr d' : Int} {nm : Int → Int → Int → yO} (hd : d' ≤ 100 ∧ 0 ≤ d') (hN : yNmC r q b T B n (8 * (d' + 1)) (fun s => zf_66 zrs r f (-1) arr (d' + 1) s) nm) (hok : yNmOk n nm) (hne : yNmNe nm) : ∀ (m N : Nat) (j pos made cnt : Int) (s : zS), m < N → 0 ≤ j → j + m = 201 → j ≤ made → yRd r q b T B n s → yPre r pos made cnt s → zw (zf_70_3 zrs N r f arr d' j s) fun v t => yKeep r cnt (8 * (d' + 1)) s t ∧ yResA r cnt (s.1 327 r 0) (yAl nm m j pos made cnt) v t := by
  intro m
  induction m with
  | zero =>
    intro N j pos made cnt s hN' h0 hj hjm R P
    have := P.2.2.2.2.2.2.1
    omega
  | succ m ih =>
    intro N j pos made cnt s hN' h0 hj hjm R P
    obtain ⟨N, rfl⟩ : ∃ M, N = M + 1 := ⟨N - 1, by omega⟩
    unfold zf_70_3 yAl
    rw [if_neg (by omega), zg_ok ⟨by omega, by omega⟩]
    have a := hN s pos made cnt R P
    have ok := hok pos made cnt P.2.2.2.1.1 (by have := P.2.2.2.2.1; have := P.2.2.2.2.2.1; omega) P.2.2.2.2.2.2.1
    have back : ∀ (v : Int) (t : zS) (m1 : Int), yKeep r cnt (8 * (d' + 1)) s t → t.1 324 r 0 = m1 → zw (zf_70_73 zrs r j (s.1 323 r 0) (s.1 199 r 0) (s.1 327 r 0) t) fun v t => yKeep r cnt (8 * (d' + 1)) s t ∧ yResA r cnt (s.1 327 r 0) (.inr (j, pos, m1, 0, [])) v t := by
      intro v t m1 K h
      obtain ⟨e, K2⟩ := z70_73 (zrs := zrs) (at' := s.1 323 r 0) (nd := s.1 199 r 0) (w := s.1 327 r 0) K (x := j)
      rw [e]
      refine zw_i ⟨K2, rfl, ?_, ?_, ?_, yIn.nil ?_⟩
      · simpa [zp_1] using P.1
      · simpa [zp_1] using h
      · simp [zp_1]
      · simpa [zp_1] using P.2.2.1
    have ne := hne pos made cnt
    revert a ok ne
    cases hx : nm pos made cnt with
    | inl e =>
      intro a ok _
      obtain ⟨c, p, made'⟩ := e
      refine zw_C' a fun v t ht => ?_
      obtain ⟨hv, h5, h6, h7, h8⟩ := ht.2
      dsimp only at h5 h6 h7 ⊢
      rw [hv, if_pos rfl, h5]
      by_cases hc5 : c = 5
      · rw [if_pos hc5, if_pos hc5]
        exact zw_i ⟨ht.1, rfl, h5, h6, h7, h8⟩
      · rw [if_neg hc5, if_neg hc5]
        unfold zf_70_59
        rw [if_pos rfl]
        exact back 0 t made' ht.1 h7
    | inr x =>
      intro a ok ne
      have ne := ne _ rfl
      obtain ⟨p1, m1, w1, l1⟩ := x
      refine zw_C' a fun v t ht => ?_
      have hv := ht.2.1
      have h323 := ht.2.2.1
      have h324 := ht.2.2.2.1
      dsimp only at h323 h324 ne ⊢
      rw [hv, if_neg (by decide)]
      unfold zf_70_59
      rw [if_neg (by decide), h323, P.1]
      by_cases hpp : p1 = pos
      · rw [if_pos hpp, if_pos hpp]
        have := back 0 t m1 ht.1 h324
        rw [P.1] at this
        exact this
      · have P2 := P.next R ok ht.2
        have o3 := ok.2.2.1
        dsimp only at o3
        rw [if_neg hpp, if_neg hpp, zg_ok ⟨by omega, by omega⟩]
        refine (ih N (j + 1) p1 m1 (cnt + l1.length) t (by omega) (by omega) (by omega) (by omega) (R.fr ht.1.1) P2).mono fun v u hu => ?_
        have K := ht.1.tr hu.1 (by omega) (Int.le_refl _)
        (try dsimp only)
        revert hu
        cases yAl nm m (j + 1) p1 m1 (cnt + l1.length) with
        | inl e => exact fun hu => ⟨K, hu.2⟩
        | inr y =>
          intro hu
          obtain ⟨k2, p2, m2, w2, l2⟩ := y
          obtain ⟨u1, u2, u3, u4, u5⟩ := hu.2
          obtain ⟨g1, g2, g3, g4, g5⟩ := ht.2
          dsimp only at u1 u2 u3 u4 u5 g4 g5
          exact ⟨K, u1, u2, u3, by dsimp only; omega, g5.app hu.1 u5⟩
theorem C71_9 {f arr d' st0 : Int} {nm : Int → Int → Int → yO} (hf : 0 ≤ f ∧ f < 48) (hd : d' ≤ 100 ∧ 0 ≤ d') (hN : yNmC r q b T B n (8 * (d' + 1)) (fun s => zf_66 zrs r f (-1) arr (d' + 1) s) nm) (hok : yNmOk n nm) (hne : yNmNe nm) : ∀ (m N : Nat) (j pos made cnt : Int) (s : zS), m < N → 0 ≤ j → j + m = 201 → j ≤ made → yRd r q b T B n s → yPre r pos made cnt s → zw (zf_71_9 zrs N r f arr d' st0 j s) fun v t => yKeep r cnt (8 * (d' + 1)) s t ∧ yResA r cnt (s.1 327 r 0) (yEn B n nm (T 466 f) st0 m j pos made cnt) v t := by
  intro m
  induction m with
  | zero =>
    intro N j pos made cnt s hN' h0 hj hjm R P
    have := P.2.2.2.2.2.2.1
    omega
  | succ m ih =>
    intro N j pos made cnt s hN' h0 hj hjm R P
    obtain ⟨N, rfl⟩ : ∃ M, N = M + 1 := ⟨N - 1, by omega⟩
    obtain ⟨r1, r2, r3, r4, r5, r6, r7, r8, r9, r10⟩ := id R
    have e118 : ∀ (t : zS) (m1 : Int), yKeep r cnt (8 * (d' + 1)) s t → t.1 324 r 0 = m1 → (0 ≤ t.1 323 r 0 ∧ t.1 323 r 0 ≤ 1000) → zw (zf_71_118 zrs r st0 t) fun v t => yKeep r cnt (8 * (d' + 1)) s t ∧ yResA r cnt (s.1 327 r 0) (.inl (1, st0, m1)) v t := by
      intro t m1 K h h9
      unfold zf_71_118
      rw [z57, zC_zi]
      refine zw_i ⟨(K.pw (by omega)).pw (by omega), rfl, ?_, ?_, ?_, ?_⟩
      · simp [zp_1]
      · simp [zp_1]
      · simpa [zp_1] using h
      · simpa [zp_1] using h9
    unfold yEn
    have step : ¬ (pos < n ∧ B pos = T 466 f) → zw (zf_71_57 zrs (fun y0 y1 y2 y3 y4 y5 y => (zf_71_9 zrs N y0 y1 y2 y3 y4 y5 y)) r f arr d' st0 j s) fun v t => yKeep r cnt (8 * (d' + 1)) s t ∧ yResA r cnt (s.1 327 r 0) (if pos < n ∧ B pos = T 466 f then .inr (j, pos, made, 0, []) else if n ≤ pos then .inl (1, st0, made) else match nm pos made cnt with
    | .inl e => .inl e
    | .inr (p1, m1, w1, l1) => if p1 = pos then .inl (1, st0, m1) else match yEn B n nm (T 466 f) st0 m (j + 1) p1 m1 (cnt + l1.length) with
      | .inl e => .inl e
      | .inr (k2, p2, m2, w2, l2) => .inr (k2, p2, m2, w1 + w2, l1 ++ l2)) v t := by
      intro hnot
      rw [if_neg hnot]
      unfold zf_71_57
      rw [zB_ok r3 r4, r6, P.1]
      by_cases h1 : n ≤ pos
      · rw [if_pos h1, if_pos h1]
        unfold zf_71_82
        rw [if_pos rfl]
        unfold zf_71_104
        rw [if_pos rfl]
        exact e118 s made yKeep.rf P.2.1 (by rw [P.1]; exact P.2.2.2.1)
      · rw [if_neg h1, if_neg h1]
        unfold zf_71_82
        rw [if_neg (by decide), zg_ok ⟨by omega, by omega⟩]
        have a := hN s pos made cnt R P
        have ok := hok pos made cnt P.2.2.2.1.1 (by have := P.2.2.2.2.1; have := P.2.2.2.2.2.1; omega) P.2.2.2.2.2.2.1
        have ne := hne pos made cnt
        revert a ok ne
        cases hx : nm pos made cnt with
        | inl e =>
          intro a ok _
          refine zw_C' a fun v t ht => ?_
          have hv := ht.2.1
          rw [hv, if_pos rfl]
          exact zw_i ⟨ht.1, rfl, ht.2.2⟩
        | inr x =>
          intro a ok ne
          have ne := ne _ rfl
          obtain ⟨p1, m1, w1, l1⟩ := x
          refine zw_C' a fun v t ht => ?_
          have hv := ht.2.1
          have h323 := ht.2.2.1
          have h324 := ht.2.2.2.1
          dsimp only at h323 h324 ne ⊢
          rw [hv, if_neg (by decide)]
          unfold zf_71_104
          rw [if_neg (by decide), h323]
          by_cases hpp : p1 = pos
          · rw [if_pos hpp, if_pos hpp]
            exact e118 t m1 ht.1 h324 (by rw [h323, hpp]; exact P.2.2.2.1)
          · have P2 := P.next R ok ht.2
            have o3 := ok.2.2.1
            dsimp only at o3
            rw [if_neg hpp, if_neg hpp, zg_ok ⟨by omega, by omega⟩]
            refine (ih N (j + 1) p1 m1 (cnt + l1.length) t (by omega) (by omega) (by omega) (by omega) (R.fr ht.1.1) P2).mono fun v u hu => ?_
            have K := ht.1.tr hu.1 (by omega) (Int.le_refl _)
            (try dsimp only)
            revert hu
            cases yEn B n nm (T 466 f) st0 m (j + 1) p1 m1 (cnt + l1.length) with
            | inl e => exact fun hu => ⟨K, hu.2⟩
            | inr y =>
              intro hu
              obtain ⟨k2, p2, m2, w2, l2⟩ := y
              obtain ⟨u1, u2, u3, u4, u5⟩ := hu.2
              obtain ⟨g1, g2, g3, g4, g5⟩ := ht.2
              dsimp only at u1 u2 u3 u4 u5 g4 g5
              exact ⟨K, u1, u2, u3, by dsimp only; omega, g5.app hu.1 u5⟩
    unfold zf_71_9
    rw [if_neg (by omega), zB_ok r3 r4, r6, P.1]
    by_cases h1 : n ≤ pos
    · rw [if_pos h1]
      exact step (by omega)
    · have hp0 := P.2.2.2.1.1
      rw [if_neg h1, zB_ok r3 r4, R.get (by omega), zC_zi, zO_ok r1 r2, zn_ok (by omega), r5 466 _ (by omega) (by omega)]
      by_cases h2 : B pos = T 466 f
      · rw [if_pos h2, if_pos (show pos < n ∧ B pos = T 466 f by omega)]
        exact zw_i ⟨yKeep.rf, rfl, P.1, P.2.1, (Int.add_zero _).symm, yIn.nil P.2.2.1⟩
      · rw [if_neg h2]
        exact step (by omega)
end
