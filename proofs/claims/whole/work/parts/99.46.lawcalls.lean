section
/-! THE LAW: the calls that throw -/
section
variable {A : aA} {s : zS} {L : Nat} {xs : Nat → Int32} {i : Int} {K : Nat → Nat → Nat → Int → zS → zR}
theorem law_252 (I : lI A s) (hi : 0 ≤ i ∧ i + 4 ≤ L) (hL : L ≤ 2048) : ∃ A' w, zf_0_252 L xs K 0 0 0 i s = K 0 0 0 (i + 4) w ∧ lI A' w ∧ w.2.2 ≤ s.2.2 + 1 := by
  have hM := I.2.2.1
  have ok := I.2.2.2.1
  obtain ⟨u, b, w, e1, e2, e3, e4, e5, e6⟩ := law_op (FC := zf_106 0) (FM := zf_149 0) (W := zf_232 0 0) (l := [1]) (cd := (fun _ => 1)) I rfl (C106 I.1 ok I.2.1) sGive_e (by intro e he u; simp only [List.mem_cons, List.not_mem_nil, or_false] at he; first | (subst he; rfl) | (rcases he with rfl | rfl <;> rfl) | (rcases he with rfl | rfl | rfl <;> rfl)) (by decide) (fun u hu => M149 hu ok) (aOK_give ok) (fun h H => ⟨_, zg_232 H (by decide) (by decide)⟩) (fun u h H => ⟨_, zg_149 H (by decide)⟩)
  refine ⟨_, w, ?_, e5, e6⟩
  unfold zf_0_252
  rw [e1, zC_zi, e2, zC_zi, e3, zC_zi]
  exact law_tl e4 ⟨by omega, by omega⟩
theorem law_365 (I : lI A s) (hi : 0 ≤ i ∧ i + 4 ≤ L) (hL : L ≤ 2048) : ∃ A' w, zf_0_365 L xs K 0 0 0 i s = K 0 0 0 (i + 4) w ∧ lI A' w ∧ w.2.2 ≤ s.2.2 + 1 := by
  have hM := I.2.2.1
  have ok := I.2.2.2.1
  obtain ⟨u, b, w, e1, e2, e3, e4, e5, e6⟩ := law_op (FC := zf_109 0 (xs (i + 1).toNat).toInt) (FM := zf_151 0 (xs (i + 1).toNat).toInt) (W := zf_234 0 (xs (i + 1).toNat).toInt 0) (l := [2]) (cd := cd2) I rfl (C109 I.1 ok I.2.1) sByteAt_e (by intro e he u; simp only [List.mem_cons, List.not_mem_nil, or_false] at he; first | (subst he; rfl) | (rcases he with rfl | rfl <;> rfl) | (rcases he with rfl | rfl | rfl <;> rfl)) (by decide) (fun u hu => M151 hu ok) (ok) (fun h H => ⟨_, zg_234 H (by decide) (zx_i _) (by decide)⟩) (fun u h H => ⟨_, zg_151 H (by decide) (zx_i _)⟩)
  refine ⟨_, w, ?_, e5, e6⟩
  unfold zf_0_365
  rw [zg_ok ⟨by omega, by omega⟩, zn_ok (by omega), e1, zC_zi, zn_ok (by omega), e2, zC_zi, e3, zC_zi]
  exact law_tl e4 ⟨by omega, by omega⟩
theorem law_434 (I : lI A s) (hi : 0 ≤ i ∧ i + 4 ≤ L) (hL : L ≤ 2048) : ∃ A' w, zf_0_434 L xs K 0 0 0 i s = K 0 0 0 (i + 4) w ∧ lI A' w ∧ w.2.2 ≤ s.2.2 + 1 := by
  have hM := I.2.2.1
  have ok := I.2.2.2.1
  obtain ⟨u, b, w, e1, e2, e3, e4, e5, e6⟩ := law_op (FC := zf_111 0 (xs (i + 1).toNat).toInt) (FM := zf_154 0 (xs (i + 1).toNat).toInt) (W := zf_235 0 (xs (i + 1).toNat).toInt 0) (l := [2]) (cd := cd2) I rfl (C111 I.1 ok I.2.1) sParent_e (by intro e he u; simp only [List.mem_cons, List.not_mem_nil, or_false] at he; first | (subst he; rfl) | (rcases he with rfl | rfl <;> rfl) | (rcases he with rfl | rfl | rfl <;> rfl)) (by decide) (fun u hu => M154 hu ok) (ok) (fun h H => ⟨_, zg_235 H (by decide) (zx_i _) (by decide)⟩) (fun u h H => ⟨_, zg_154 H (by decide) (zx_i _)⟩)
  refine ⟨_, w, ?_, e5, e6⟩
  unfold zf_0_434
  rw [zg_ok ⟨by omega, by omega⟩, zn_ok (by omega), e1, zC_zi, zn_ok (by omega), e2, zC_zi, e3, zC_zi]
  exact law_tl e4 ⟨by omega, by omega⟩
theorem law_490 (I : lI A s) (hi : 0 ≤ i ∧ i + 4 ≤ L) (hL : L ≤ 2048) : ∃ A' w, zf_0_490 L xs K 0 0 0 i s = K 0 0 0 (i + 4) w ∧ lI A' w ∧ w.2.2 ≤ s.2.2 + 1 := by
  have hM := I.2.2.1
  have ok := I.2.2.2.1
  obtain ⟨u, b, w, e1, e2, e3, e4, e5, e6⟩ := law_op (FC := zf_112 0 (xs (i + 1).toNat).toInt) (FM := zf_155 0 (xs (i + 1).toNat).toInt) (W := zf_236 0 (xs (i + 1).toNat).toInt 0) (l := [2]) (cd := cd2) I rfl (C112 I.1 ok I.2.1) sGoTo_e (by intro e he u; simp only [List.mem_cons, List.not_mem_nil, or_false] at he; first | (subst he; rfl) | (rcases he with rfl | rfl <;> rfl) | (rcases he with rfl | rfl | rfl <;> rfl)) (by decide) (fun u hu => M155 hu ok) (aOK_goTo ok) (fun h H => ⟨_, zg_236 H (by decide) (zx_i _) (by decide)⟩) (fun u h H => ⟨_, zg_155 H (by decide) (zx_i _)⟩)
  refine ⟨_, w, ?_, e5, e6⟩
  unfold zf_0_490
  rw [zg_ok ⟨by omega, by omega⟩, zn_ok (by omega), e1, zC_zi, zn_ok (by omega), e2, zC_zi, e3, zC_zi]
  exact law_tl e4 ⟨by omega, by omega⟩
theorem law_656 (I : lI A s) (hi : 0 ≤ i ∧ i + 4 ≤ L) (hL : L ≤ 2048) : ∃ A' w, zf_0_656 L xs K 0 0 0 i s = K 0 0 0 (i + 4) w ∧ lI A' w ∧ w.2.2 ≤ s.2.2 + 1 := by
  have hM := I.2.2.1
  have ok := I.2.2.2.1
  obtain ⟨u, b, w, e1, e2, e3, e4, e5, e6⟩ := law_op (FC := zf_116 0 (xs (i + 1).toNat).toInt (xs (i + 2).toNat).toInt) (FM := zf_196 0 (xs (i + 1).toNat).toInt (xs (i + 2).toNat).toInt) (W := zf_238 0 (xs (i + 1).toNat).toInt (xs (i + 2).toNat).toInt 0) (l := [2, 0]) (cd := cd20) I rfl (C116 I.1 ok I.2.1) sNode_e (by intro e he u; simp only [List.mem_cons, List.not_mem_nil, or_false] at he; first | (subst he; rfl) | (rcases he with rfl | rfl <;> rfl) | (rcases he with rfl | rfl | rfl <;> rfl)) (by decide) (fun u hu => M196 hu ok) (ok) (fun h H => ⟨_, zg_238 H (by decide) (zx_i _) (zx_i _) (by decide)⟩) (fun u h H => ⟨_, zg_196 H (by decide) (zx_i _) (zx_i _)⟩)
  refine ⟨_, w, ?_, e5, e6⟩
  unfold zf_0_656
  rw [zg_ok ⟨by omega, by omega⟩, zn_ok (by omega), zg_ok ⟨by omega, by omega⟩, zn_ok (by omega), e1, zC_zi, zn_ok (by omega), zn_ok (by omega), e2, zC_zi, e3, zC_zi]
  exact law_tl e4 ⟨by omega, by omega⟩
theorem law_750 (I : lI A s) (hi : 0 ≤ i ∧ i + 4 ≤ L) (hL : L ≤ 2048) : ∃ A' w, zf_0_750 L xs K 0 0 0 i s = K 0 0 0 (i + 4) w ∧ lI A' w ∧ w.2.2 ≤ s.2.2 + 1 := by
  have hM := I.2.2.1
  have ok := I.2.2.2.1
  obtain ⟨u, b, w, e1, e2, e3, e4, e5, e6⟩ := law_op (FC := zf_119 0 (xs (i + 1).toNat).toInt) (FM := zf_199 0 (xs (i + 1).toNat).toInt) (W := zf_239 0 (xs (i + 1).toNat).toInt 0) (l := [2, 1]) (cd := cd21) I rfl (C119 I.1 ok I.2.1) sFollow_e (by intro e he u; simp only [List.mem_cons, List.not_mem_nil, or_false] at he; first | (subst he; rfl) | (rcases he with rfl | rfl <;> rfl) | (rcases he with rfl | rfl | rfl <;> rfl)) (by decide) (fun u hu => M199 hu ok) (ok) (fun h H => ⟨_, zg_239 H (by decide) (zx_i _) (by decide)⟩) (fun u h H => ⟨_, zg_199 H (by decide) (zx_i _)⟩)
  refine ⟨_, w, ?_, e5, e6⟩
  unfold zf_0_750
  rw [zg_ok ⟨by omega, by omega⟩, zn_ok (by omega), e1, zC_zi, zn_ok (by omega), e2, zC_zi, e3, zC_zi]
  exact law_tl e4 ⟨by omega, by omega⟩
theorem law_806 (I : lI A s) (hi : 0 ≤ i ∧ i + 4 ≤ L) (hL : L ≤ 2048) : ∃ A' w, zf_0_806 L xs K 0 0 0 i s = K 0 0 0 (i + 4) w ∧ lI A' w ∧ w.2.2 ≤ s.2.2 + 1 := by
  have hM := I.2.2.1
  have ok := I.2.2.2.1
  obtain ⟨u, b, w, e1, e2, e3, e4, e5, e6⟩ := law_op (FC := zf_120 0 (xs (i + 1).toNat).toInt) (FM := zf_200 0 (xs (i + 1).toNat).toInt) (W := zf_240 0 (xs (i + 1).toNat).toInt 0) (l := [2, 1]) (cd := cd21) I rfl (C120 I.1 ok I.2.1) sChain_e (by intro e he u; simp only [List.mem_cons, List.not_mem_nil, or_false] at he; first | (subst he; rfl) | (rcases he with rfl | rfl <;> rfl) | (rcases he with rfl | rfl | rfl <;> rfl)) (by decide) (fun u hu => M200 hu ok) (ok) (fun h H => ⟨_, zg_240 H (by decide) (zx_i _) (by decide)⟩) (fun u h H => ⟨_, zg_200 H (by decide) (zx_i _)⟩)
  refine ⟨_, w, ?_, e5, e6⟩
  unfold zf_0_806
  rw [zg_ok ⟨by omega, by omega⟩, zn_ok (by omega), e1, zC_zi, zn_ok (by omega), e2, zC_zi, e3, zC_zi]
  exact law_tl e4 ⟨by omega, by omega⟩
theorem law_862 (I : lI A s) (hi : 0 ≤ i ∧ i + 4 ≤ L) (hL : L ≤ 2048) : ∃ A' w, zf_0_862 L xs K 0 0 0 i s = K 0 0 0 (i + 4) w ∧ lI A' w ∧ w.2.2 ≤ s.2.2 + 1 := by
  have hM := I.2.2.1
  have ok := I.2.2.2.1
  obtain ⟨u, b, w, e1, e2, e3, e4, e5, e6⟩ := law_op (FC := zf_121 0 (xs (i + 1).toNat).toInt (xs (i + 2).toNat).toInt (xs (i + 3).toNat).toInt) (FM := zf_201 0 (xs (i + 1).toNat).toInt (xs (i + 2).toNat).toInt (xs (i + 3).toNat).toInt) (W := zf_241 0 (xs (i + 1).toNat).toInt (xs (i + 2).toNat).toInt (xs (i + 3).toNat).toInt 0) (l := [0]) (cd := cd01) I rfl (C121 I.1 ok I.2.1) sFind_e (by intro e he u; simp only [List.mem_cons, List.not_mem_nil, or_false] at he; first | (subst he; rfl) | (rcases he with rfl | rfl <;> rfl) | (rcases he with rfl | rfl | rfl <;> rfl)) (by decide) (fun u hu => M201 hu ok) (ok) (fun h H => ⟨_, zg_241 H (by decide) (zx_i _) (zx_i _) (zx_i _) (by decide)⟩) (fun u h H => ⟨_, zg_201 H (by decide) (zx_i _) (zx_i _) (zx_i _)⟩)
  refine ⟨_, w, ?_, e5, e6⟩
  unfold zf_0_862
  rw [zg_ok ⟨by omega, by omega⟩, zn_ok (by omega), zg_ok ⟨by omega, by omega⟩, zn_ok (by omega), zg_ok ⟨by omega, by omega⟩, zn_ok (by omega), e1, zC_zi, zn_ok (by omega), zn_ok (by omega), zn_ok (by omega), e2, zC_zi, e3, zC_zi]
  exact law_tl e4 ⟨by omega, by omega⟩
theorem law_942 (I : lI A s) (hi : 0 ≤ i ∧ i + 4 ≤ L) (hL : L ≤ 2048) : ∃ A' w, zf_0_942 L xs K 0 0 0 i s = K 0 0 0 (i + 4) w ∧ lI A' w ∧ w.2.2 ≤ s.2.2 + 1 := by
  have hM := I.2.2.1
  have ok := I.2.2.2.1
  obtain ⟨u, b, w, e1, e2, e3, e4, e5, e6⟩ := law_op (FC := zf_122 0 (xs (i + 1).toNat).toInt (xs (i + 2).toNat).toInt (xs (i + 3).toNat).toInt) (FM := zf_202 0 (xs (i + 1).toNat).toInt (xs (i + 2).toNat).toInt (xs (i + 3).toNat).toInt) (W := zf_242 0 (xs (i + 1).toNat).toInt (xs (i + 2).toNat).toInt (xs (i + 3).toNat).toInt 0) (l := [0]) (cd := cd01) I rfl (C122 I.1 ok I.2.1) sFindF_e (by intro e he u; simp only [List.mem_cons, List.not_mem_nil, or_false] at he; first | (subst he; rfl) | (rcases he with rfl | rfl <;> rfl) | (rcases he with rfl | rfl | rfl <;> rfl)) (by decide) (fun u hu => M202 hu ok) (ok) (fun h H => ⟨_, zg_242 H (by decide) (zx_i _) (zx_i _) (zx_i _) (by decide)⟩) (fun u h H => ⟨_, zg_202 H (by decide) (zx_i _) (zx_i _) (zx_i _)⟩)
  refine ⟨_, w, ?_, e5, e6⟩
  unfold zf_0_942
  rw [zg_ok ⟨by omega, by omega⟩, zn_ok (by omega), zg_ok ⟨by omega, by omega⟩, zn_ok (by omega), zg_ok ⟨by omega, by omega⟩, zn_ok (by omega), e1, zC_zi, zn_ok (by omega), zn_ok (by omega), zn_ok (by omega), e2, zC_zi, e3, zC_zi]
  exact law_tl e4 ⟨by omega, by omega⟩
theorem law_1022 (I : lI A s) (hi : 0 ≤ i ∧ i + 4 ≤ L) (hL : L ≤ 2048) : ∃ A' w, zf_0_1022 L xs K 0 0 0 i s = K 0 0 0 (i + 4) w ∧ lI A' w ∧ w.2.2 ≤ s.2.2 + 1 := by
  have hM := I.2.2.1
  have ok := I.2.2.2.1
  obtain ⟨u, b, w, e1, e2, e3, e4, e5, e6⟩ := law_op (FC := zf_123 0 (xs (i + 1).toNat).toInt (xs (i + 2).toNat).toInt) (FM := zf_214 0 (xs (i + 1).toNat).toInt (xs (i + 2).toNat).toInt) (W := zf_243 0 (xs (i + 1).toNat).toInt (xs (i + 2).toNat).toInt 0) (l := [2, 1]) (cd := cd21) I rfl (C123 I.1 ok I.2.1) sSet_e (by intro e he u; simp only [List.mem_cons, List.not_mem_nil, or_false] at he; first | (subst he; rfl) | (rcases he with rfl | rfl <;> rfl) | (rcases he with rfl | rfl | rfl <;> rfl)) (by decide) (fun u hu => M214 hu ok) (aOK_set hM ok) (fun h H => ⟨_, zg_243 H (by decide) (zx_i _) (zx_i _) (by decide)⟩) (fun u h H => ⟨_, zg_214 H (by decide) (zx_i _) (zx_i _)⟩)
  refine ⟨_, w, ?_, e5, e6⟩
  unfold zf_0_1022
  rw [zg_ok ⟨by omega, by omega⟩, zn_ok (by omega), zg_ok ⟨by omega, by omega⟩, zn_ok (by omega), e1, zC_zi, zn_ok (by omega), zn_ok (by omega), e2, zC_zi, e3, zC_zi]
  exact law_tl e4 ⟨by omega, by omega⟩
theorem law_1090 (I : lI A s) (hi : 0 ≤ i ∧ i + 4 ≤ L) (hL : L ≤ 2048) : ∃ A' w, zf_0_1090 L xs K 0 0 0 i s = K 0 0 0 (i + 4) w ∧ lI A' w ∧ w.2.2 ≤ s.2.2 + 1 := by
  have hM := I.2.2.1
  have ok := I.2.2.2.1
  obtain ⟨u, b, w, e1, e2, e3, e4, e5, e6⟩ := law_op (FC := zf_124 0 (xs (i + 1).toNat).toInt (xs (i + 2).toNat).toInt (xs (i + 3).toNat).toInt) (FM := zf_216 0 (xs (i + 1).toNat).toInt (xs (i + 2).toNat).toInt (xs (i + 3).toNat).toInt) (W := zf_244 0 (xs (i + 1).toNat).toInt (xs (i + 2).toNat).toInt (xs (i + 3).toNat).toInt 0) (l := [2, 0, 1]) (cd := cd201) I rfl (C124 I.1 ok I.2.1) sInsert_e (by intro e he u; simp only [List.mem_cons, List.not_mem_nil, or_false] at he; first | (subst he; rfl) | (rcases he with rfl | rfl <;> rfl) | (rcases he with rfl | rfl | rfl <;> rfl)) (by decide) (fun u hu => M216 hu ok) (aOK_insert hM ok) (fun h H => ⟨_, zg_244 H (by decide) (zx_i _) (zx_i _) (zx_i _) (by decide)⟩) (fun u h H => ⟨_, zg_216 H (by decide) (zx_i _) (zx_i _) (zx_i _)⟩)
  refine ⟨_, w, ?_, e5, e6⟩
  unfold zf_0_1090
  rw [zg_ok ⟨by omega, by omega⟩, zn_ok (by omega), zg_ok ⟨by omega, by omega⟩, zn_ok (by omega), zg_ok ⟨by omega, by omega⟩, zn_ok (by omega), e1, zC_zi, zn_ok (by omega), zn_ok (by omega), zn_ok (by omega), e2, zC_zi, e3, zC_zi]
  exact law_tl e4 ⟨by omega, by omega⟩
theorem law_1170 (I : lI A s) (hi : 0 ≤ i ∧ i + 4 ≤ L) (hL : L ≤ 2048) : ∃ A' w, zf_0_1170 L xs K 0 0 0 i s = K 0 0 0 (i + 4) w ∧ lI A' w ∧ w.2.2 ≤ s.2.2 + 1 := by
  have hM := I.2.2.1
  have ok := I.2.2.2.1
  obtain ⟨u, b, w, e1, e2, e3, e4, e5, e6⟩ := law_op (FC := zf_125 0 (xs (i + 1).toNat).toInt (xs (i + 2).toNat).toInt) (FM := zf_217 0 (xs (i + 1).toNat).toInt (xs (i + 2).toNat).toInt) (W := zf_245 0 (xs (i + 1).toNat).toInt (xs (i + 2).toNat).toInt 0) (l := [2, 1]) (cd := cd21) I rfl (C125 I.1 ok I.2.1) sRemove_e (by intro e he u; simp only [List.mem_cons, List.not_mem_nil, or_false] at he; first | (subst he; rfl) | (rcases he with rfl | rfl <;> rfl) | (rcases he with rfl | rfl | rfl <;> rfl)) (by decide) (fun u hu => M217 hu ok) (aOK_remove hM ok) (fun h H => ⟨_, zg_245 H (by decide) (zx_i _) (zx_i _) (by decide)⟩) (fun u h H => ⟨_, zg_217 H (by decide) (zx_i _) (zx_i _)⟩)
  refine ⟨_, w, ?_, e5, e6⟩
  unfold zf_0_1170
  rw [zg_ok ⟨by omega, by omega⟩, zn_ok (by omega), zg_ok ⟨by omega, by omega⟩, zn_ok (by omega), e1, zC_zi, zn_ok (by omega), zn_ok (by omega), e2, zC_zi, e3, zC_zi]
  exact law_tl e4 ⟨by omega, by omega⟩
theorem law_1334 (I : lI A s) (hi : 0 ≤ i ∧ i + 4 ≤ L) (hL : L ≤ 2048) : ∃ A' w, zf_0_1334 L xs K 0 0 0 i s = K 0 0 0 (i + 4) w ∧ lI A' w ∧ w.2.2 ≤ s.2.2 + 1 := by
  have hM := I.2.2.1
  have ok := I.2.2.2.1
  obtain ⟨u, b, w, e1, e2, e3, e4, e5, e6⟩ := law_op (FC := zf_127 0) (FM := zf_220 0) (W := zf_247 0 0) (l := [1]) (cd := (fun _ => 1)) I rfl (C127 I.1 ok I.2.1) sRepair_e (by intro e he u; simp only [List.mem_cons, List.not_mem_nil, or_false] at he; first | (subst he; rfl) | (rcases he with rfl | rfl <;> rfl) | (rcases he with rfl | rfl | rfl <;> rfl)) (by decide) (fun u hu => M220 hu ok) (aOK_repair hM ok) (fun h H => ⟨_, zg_247 H (by decide) (by decide)⟩) (fun u h H => ⟨_, zg_220 H (by decide)⟩)
  refine ⟨_, w, ?_, e5, e6⟩
  unfold zf_0_1334
  rw [e1, zC_zi, e2, zC_zi, e3, zC_zi]
  exact law_tl e4 ⟨by omega, by omega⟩
theorem law_1378 (I : lI A s) (hi : 0 ≤ i ∧ i + 4 ≤ L) (hL : L ≤ 2048) : ∃ A' w, zf_0_1378 L xs K 0 0 0 i s = K 0 0 0 (i + 4) w ∧ lI A' w ∧ w.2.2 ≤ s.2.2 + 1 := by
  have hM := I.2.2.1
  have ok := I.2.2.2.1
  obtain ⟨u, b, w, e1, e2, e3, e4, e5, e6⟩ := law_op (FC := zf_128 0 (xs (i + 1).toNat).toInt (xs (i + 2).toNat).toInt (xs (i + 3).toNat).toInt) (FM := zf_224 0 (xs (i + 1).toNat).toInt (xs (i + 2).toNat).toInt (xs (i + 3).toNat).toInt) (W := zf_248 0 (xs (i + 1).toNat).toInt (xs (i + 2).toNat).toInt (xs (i + 3).toNat).toInt 0) (l := [2, 0]) (cd := cd20) I rfl (C128 I.1 ok I.2.1) sHunk_e (by intro e he u; simp only [List.mem_cons, List.not_mem_nil, or_false] at he; first | (subst he; rfl) | (rcases he with rfl | rfl <;> rfl) | (rcases he with rfl | rfl | rfl <;> rfl)) (by decide) (fun u hu => M224 hu ok) (ok) (fun h H => ⟨_, zg_248 H (by decide) (zx_i _) (zx_i _) (zx_i _) (by decide)⟩) (fun u h H => ⟨_, zg_224 H (by decide) (zx_i _) (zx_i _) (zx_i _)⟩)
  refine ⟨_, w, ?_, e5, e6⟩
  unfold zf_0_1378
  rw [zg_ok ⟨by omega, by omega⟩, zn_ok (by omega), zg_ok ⟨by omega, by omega⟩, zn_ok (by omega), zg_ok ⟨by omega, by omega⟩, zn_ok (by omega), e1, zC_zi, zn_ok (by omega), zn_ok (by omega), zn_ok (by omega), e2, zC_zi, e3, zC_zi]
  exact law_tl e4 ⟨by omega, by omega⟩
theorem law_1458 (I : lI A s) (hi : 0 ≤ i ∧ i + 4 ≤ L) (hL : L ≤ 2048) : ∃ A' w, zf_0_1458 L xs K 0 0 0 i s = K 0 0 0 (i + 4) w ∧ lI A' w ∧ w.2.2 ≤ s.2.2 + 1 := by
  have hM := I.2.2.1
  have ok := I.2.2.2.1
  obtain ⟨u, b, w, e1, e2, e3, e4, e5, e6⟩ := law_op (FC := zf_129 0 (xs (i + 1).toNat).toInt (xs (i + 2).toNat).toInt) (FM := zf_226 0 (xs (i + 1).toNat).toInt (xs (i + 2).toNat).toInt) (W := zf_249 0 (xs (i + 1).toNat).toInt (xs (i + 2).toNat).toInt 0) (l := [2, 1]) (cd := cd21) I rfl (C129 I.1 ok I.2.1) sPatch_e (by intro e he u; simp only [List.mem_cons, List.not_mem_nil, or_false] at he; first | (subst he; rfl) | (rcases he with rfl | rfl <;> rfl) | (rcases he with rfl | rfl | rfl <;> rfl)) (by decide) (fun u hu => M226 hu ok) (aOK_patch ok) (fun h H => ⟨_, zg_249 H (by decide) (zx_i _) (zx_i _) (by decide)⟩) (fun u h H => ⟨_, zg_226 H (by decide) (zx_i _) (zx_i _)⟩)
  refine ⟨_, w, ?_, e5, e6⟩
  unfold zf_0_1458
  rw [zg_ok ⟨by omega, by omega⟩, zn_ok (by omega), zg_ok ⟨by omega, by omega⟩, zn_ok (by omega), e1, zC_zi, zn_ok (by omega), zn_ok (by omega), e2, zC_zi, e3, zC_zi]
  exact law_tl e4 ⟨by omega, by omega⟩
theorem law_152 (I : lI A s) (hi : 0 ≤ i ∧ i + 4 ≤ L) (hL : L ≤ 2048) : ∃ A' w, zf_0_152 L xs K 0 0 0 i s = K 0 0 0 (i + 4) w ∧ lI A' w ∧ w.2.2 ≤ s.2.2 + 1 := by
  have hM := I.2.2.1
  have ok := I.2.2.2.1
  unfold zf_0_152
  generalize (((Int32.ofInt (xs (i + 1).toNat).toInt).toInt64 <<< ((Int32.ofInt 32).toInt64 &&& 63)) ||| ((Int32.ofInt (xs (i + 2).toNat).toInt).toInt64 &&& (Int64.ofInt 4294967295))) = y
  obtain ⟨u, b, w, e1, e2, e3, e4, e5, e6⟩ := law_op (FC := zf_105 0 y (xs (i + 3).toNat).toInt) (FM := zf_147 0 y (xs (i + 3).toNat).toInt) (W := zf_231 0 y (xs (i + 3).toNat).toInt 0) (l := [0, 1]) (cd := cd01) I rfl (C105 I.1 I.2.1 ok) sFeed_e (by intro e he u; simp only [List.mem_cons, List.not_mem_nil, or_false] at he; first | (subst he; rfl) | (rcases he with rfl | rfl <;> rfl) | (rcases he with rfl | rfl | rfl <;> rfl)) (by decide) (fun u hu => M147 hu ok) (aOK_feed ok) (fun h H => ⟨_, zg_231 H (by decide) rfl (zx_i _) (by decide)⟩) (fun u h H => ⟨_, zg_147 H (by decide) rfl (zx_i _)⟩)
  refine ⟨_, w, ?_, e5, e6⟩
  rw [zg_ok ⟨by omega, by omega⟩, zn_ok (by omega), zg_ok ⟨by omega, by omega⟩, zn_ok (by omega), zg_ok ⟨by omega, by omega⟩, zn_ok (by omega), e1, zC_zi, zn_ok (by omega), zn_ok (by omega), zn_ok (by omega), e2, zC_zi, e3, zC_zi]
  exact law_tl e4 ⟨by omega, by omega⟩
theorem law_296 (I : lI A s) (hi : 0 ≤ i ∧ i + 4 ≤ L) (hL : L ≤ 2048) : ∃ A' w, zf_0_296 L xs K 0 0 0 i s = K 0 0 0 (i + 4) w ∧ lI A' w ∧ w.2.2 ≤ s.2.2 + 1 := by
  have hM := I.2.2.1
  have ok := I.2.2.2.1
  obtain ⟨T, hC⟩ := C107 (x := (xs (i + 1).toNat).toInt) I.1 ok I.2.1
  obtain ⟨u, b, w, e1, e2, e3, e4, e5, e6⟩ := law_op (FC := zf_107 0 (xs (i + 1).toNat).toInt) (FM := zf_171 0 (xs (i + 1).toNat).toInt) (W := zf_233 0 (xs (i + 1).toNat).toInt 0) (l := [0, 1]) (cd := cd01) I rfl hC sTemplate_e (by intro e he u; simp only [List.mem_cons, List.not_mem_nil, or_false] at he; first | (subst he; rfl) | (rcases he with rfl | rfl <;> rfl) | (rcases he with rfl | rfl | rfl <;> rfl)) (by decide) (fun u hu => (M171 hu ok).1) ((M171 hM ok).2) (fun h H => ⟨_, zg_233 H (by decide) (zx_i _) (by decide)⟩) (fun u h H => ⟨_, zg_171 H (by decide) (zx_i _)⟩)
  refine ⟨_, w, ?_, e5, e6⟩
  unfold zf_0_296
  rw [zg_ok ⟨by omega, by omega⟩, zn_ok (by omega), e1, zC_zi, zn_ok (by omega), e2, zC_zi, e3, zC_zi]
  exact law_tl e4 ⟨by omega, by omega⟩
theorem law_559 (I : lI A s) (hi : 0 ≤ i ∧ i + 4 ≤ L) (hL : L ≤ 2048) : ∃ A' w, zf_0_559 L xs K 0 0 0 i s = K 0 0 0 (i + 4) w ∧ lI A' w ∧ w.2.2 ≤ s.2.2 + 1 := by
  have hM := I.2.2.1
  have ok := I.2.2.2.1
  have two : ∀ o : Int, o = 0 ∨ o = 1 → ∃ A' w, (zC (zf_237 0 (xs (i + 1).toNat).toInt o 0 s) fun v3 s2 => zf_0_607 L xs K 0 0 0 i v3 0 (xs (i + 1).toNat).toInt o s2) = K 0 0 0 (i + 4) w ∧ lI A' w ∧ w.2.2 ≤ s.2.2 + 1 := fun o ho => by
    obtain ⟨u, b, w, e1, e2, e3, e4, e5, e6⟩ := law_op (FC := zf_114 0 (xs (i + 1).toNat).toInt o) (FM := zf_189 0 (xs (i + 1).toNat).toInt o) (W := zf_237 0 (xs (i + 1).toNat).toInt o 0) (l := [2]) (cd := cd2) I rfl (C114 I.1 ok I.2.1) sFault_e (by intro e he u; simp only [List.mem_cons, List.not_mem_nil, or_false] at he; first | (subst he; rfl) | (rcases he with rfl | rfl <;> rfl) | (rcases he with rfl | rfl | rfl <;> rfl)) (by decide) (fun u hu => M189 hu ok) (ok) (fun h H => ⟨_, zg_237 H (by decide) (zx_i _) ⟨rfl, by omega⟩ (by decide)⟩) (fun u h H => ⟨_, zg_189 H (by decide) (zx_i _) ⟨rfl, by omega⟩⟩)
    refine ⟨_, w, ?_, e5, e6⟩
    rw [e1, zC_zi]
    unfold zf_0_607
    rw [e2, zC_zi, e3, zC_zi]
    exact law_tl e4 ⟨by omega, by omega⟩
  unfold zf_0_559 zf_0_580
  rw [zg_ok ⟨by omega, by omega⟩, zn_ok (by omega), zg_ok ⟨by omega, by omega⟩, zn_ok (by omega)]
  by_cases c : (xs (i + 2).toNat).toInt = 0
  · obtain ⟨A', w, e, h⟩ := two 0 (Or.inl rfl)
    refine ⟨A', w, ?_, h⟩
    rw [if_pos c, ← e]
    congr 1
    funext v s2
    rw [zg_ok ⟨by omega, by omega⟩, zn_ok (by omega), zg_ok ⟨by omega, by omega⟩, zn_ok (by omega), if_pos c]
  · obtain ⟨A', w, e, h⟩ := two 1 (Or.inr rfl)
    refine ⟨A', w, ?_, h⟩
    rw [if_neg c, ← e]
    congr 1
    funext v s2
    rw [zg_ok ⟨by omega, by omega⟩, zn_ok (by omega), zg_ok ⟨by omega, by omega⟩, zn_ok (by omega), if_neg c]
theorem law_1238 (I : lI A s) (hi : 0 ≤ i ∧ i + 4 ≤ L) (hL : L ≤ 2048) : ∃ A' w, zf_0_1238 L xs K 0 0 0 i s = K 0 0 0 (i + 4) w ∧ lI A' w ∧ w.2.2 ≤ s.2.2 + 1 := by
  have hM := I.2.2.1
  have ok := I.2.2.2.1
  have r2 := (zx_i (xs (i + 2).toNat)).2
  have two : ∀ o : Int, o = 0 ∨ o = 1 → ∃ A' w, (zC (zf_246 0 (xs (i + 1).toNat).toInt (xs (i + 2).toNat).toInt o 0 s) fun v3 s2 => zf_0_1298 L xs K 0 0 0 i v3 0 (xs (i + 1).toNat).toInt (xs (i + 2).toNat).toInt o s2) = K 0 0 0 (i + 4) w ∧ lI A' w ∧ w.2.2 ≤ s.2.2 + 1 := fun o ho => by
    obtain ⟨u, b, w, e1, e2, e3, e4, e5, e6⟩ := law_op (FC := zf_126 0 (xs (i + 1).toNat).toInt (xs (i + 2).toNat).toInt o) (FM := zf_219 0 (xs (i + 1).toNat).toInt (xs (i + 2).toNat).toInt o) (W := zf_246 0 (xs (i + 1).toNat).toInt (xs (i + 2).toNat).toInt o 0) (l := [2, 1]) (cd := cd21) I rfl (C126 I.1 ok I.2.1 r2.2) sElement_e (by intro e he u; simp only [List.mem_cons, List.not_mem_nil, or_false] at he; first | (subst he; rfl) | (rcases he with rfl | rfl <;> rfl) | (rcases he with rfl | rfl | rfl <;> rfl)) (by decide) (fun u hu => M219 hu ok ho) (aOK_element hM ok) (fun h H => ⟨_, zg_246 H (by decide) (zx_i _) (zx_i _) ⟨rfl, by omega⟩ (by decide)⟩) (fun u h H => ⟨_, zg_219 H (by decide) (zx_i _) (zx_i _) ⟨rfl, by omega⟩⟩)
    refine ⟨_, w, ?_, e5, e6⟩
    rw [e1, zC_zi]
    unfold zf_0_1298
    rw [e2, zC_zi, e3, zC_zi]
    exact law_tl e4 ⟨by omega, by omega⟩
  unfold zf_0_1238 zf_0_1265
  rw [zg_ok ⟨by omega, by omega⟩, zn_ok (by omega), zg_ok ⟨by omega, by omega⟩, zn_ok (by omega), zg_ok ⟨by omega, by omega⟩, zn_ok (by omega)]
  by_cases c : (xs (i + 3).toNat).toInt = 0
  · obtain ⟨A', w, e, h⟩ := two 0 (Or.inl rfl)
    refine ⟨A', w, ?_, h⟩
    rw [if_pos c, ← e]
    congr 1
    funext v s2
    rw [zg_ok ⟨by omega, by omega⟩, zn_ok (by omega), zg_ok ⟨by omega, by omega⟩, zn_ok (by omega), zg_ok ⟨by omega, by omega⟩, zn_ok (by omega), if_pos c]
  · obtain ⟨A', w, e, h⟩ := two 1 (Or.inr rfl)
    refine ⟨A', w, ?_, h⟩
    rw [if_neg c, ← e]
    congr 1
    funext v s2
    rw [zg_ok ⟨by omega, by omega⟩, zn_ok (by omega), zg_ok ⟨by omega, by omega⟩, zn_ok (by omega), zg_ok ⟨by omega, by omega⟩, zn_ok (by omega), if_neg c]
theorem law_352 (I : lI A s) (hi : 0 ≤ i ∧ i + 4 ≤ L) (hL : L ≤ 2048) : ∃ A' w, zf_0_352 L xs K 0 0 0 i s = K 0 0 0 (i + 4) w ∧ lI A' w ∧ w.2.2 ≤ s.2.2 + 1 := by
  have ok := I.2.2.2.1
  obtain ⟨v, u, w, e1, e2, e5, e6⟩ := law_op0 (FC := zf_108 0) (FM := zf_150 0) I (C108 I.1 I.2.1) (fun u hu => M150 (cd := fun _ => 1) hu ok) (fun h H => ⟨_, zg_108 H (by decide)⟩) (fun u h H => ⟨_, zg_150 H (by decide)⟩)
  refine ⟨_, w, ?_, e5, e6⟩
  unfold zf_0_352
  rw [e1, zC_zi, e2, zC_zi, if_pos rfl, zg_ok ⟨by omega, by omega⟩]
theorem law_421 (I : lI A s) (hi : 0 ≤ i ∧ i + 4 ≤ L) (hL : L ≤ 2048) : ∃ A' w, zf_0_421 L xs K 0 0 0 i s = K 0 0 0 (i + 4) w ∧ lI A' w ∧ w.2.2 ≤ s.2.2 + 1 := by
  have ok := I.2.2.2.1
  obtain ⟨v, u, w, e1, e2, e5, e6⟩ := law_op0 (FC := zf_110 0) (FM := zf_152 0) I (C110 I.1 I.2.1) (fun u hu => M152 (cd := fun _ => 1) hu ok) (fun h H => ⟨_, zg_110 H (by decide)⟩) (fun u h H => ⟨_, zg_152 H (by decide)⟩)
  refine ⟨_, w, ?_, e5, e6⟩
  unfold zf_0_421
  rw [e1, zC_zi, e2, zC_zi, if_pos rfl, zg_ok ⟨by omega, by omega⟩]
theorem law_546 (I : lI A s) (hi : 0 ≤ i ∧ i + 4 ≤ L) (hL : L ≤ 2048) : ∃ A' w, zf_0_546 L xs K 0 0 0 i s = K 0 0 0 (i + 4) w ∧ lI A' w ∧ w.2.2 ≤ s.2.2 + 1 := by
  have ok := I.2.2.2.1
  obtain ⟨v, u, w, e1, e2, e5, e6⟩ := law_op0 (FC := zf_113 0) (FM := zf_188 0) I (C113 I.1 ok I.2.1) (fun u hu => M188 (cd := fun _ => 1) hu ok) (fun h H => ⟨_, zg_113 H (by decide)⟩) (fun u h H => ⟨_, zg_188 H (by decide)⟩)
  refine ⟨_, w, ?_, e5, e6⟩
  unfold zf_0_546
  rw [e1, zC_zi, e2, zC_zi, if_pos rfl, zg_ok ⟨by omega, by omega⟩]
theorem law_643 (I : lI A s) (hi : 0 ≤ i ∧ i + 4 ≤ L) (hL : L ≤ 2048) : ∃ A' w, zf_0_643 L xs K 0 0 0 i s = K 0 0 0 (i + 4) w ∧ lI A' w ∧ w.2.2 ≤ s.2.2 + 1 := by
  have ok := I.2.2.2.1
  obtain ⟨v, u, w, e1, e2, e5, e6⟩ := law_op0 (FC := zf_115 0) (FM := zf_190 0) I (C115 I.1 ok I.2.1) (fun u hu => M190 (cd := fun _ => 1) hu ok) (fun h H => ⟨_, zg_115 H (by decide)⟩) (fun u h H => ⟨_, zg_190 H (by decide)⟩)
  refine ⟨_, w, ?_, e5, e6⟩
  unfold zf_0_643
  rw [e1, zC_zi, e2, zC_zi, if_pos rfl, zg_ok ⟨by omega, by omega⟩]
theorem law_724 (I : lI A s) (hi : 0 ≤ i ∧ i + 4 ≤ L) (hL : L ≤ 2048) : ∃ A' w, zf_0_724 L xs K 0 0 0 i s = K 0 0 0 (i + 4) w ∧ lI A' w ∧ w.2.2 ≤ s.2.2 + 1 := by
  have ok := I.2.2.2.1
  obtain ⟨v, u, w, e1, e2, e5, e6⟩ := law_op0 (FC := zf_117 0) (FM := zf_197 0) I (C117 I.1 ok I.2.1) (fun u hu => M197 (cd := fun _ => 1) hu ok) (fun h H => ⟨_, zg_117 H (by decide)⟩) (fun u h H => ⟨_, zg_197 H (by decide)⟩)
  refine ⟨_, w, ?_, e5, e6⟩
  unfold zf_0_724
  rw [e1, zC_zi, e2, zC_zi, if_pos rfl, zg_ok ⟨by omega, by omega⟩]
theorem law_737 (I : lI A s) (hi : 0 ≤ i ∧ i + 4 ≤ L) (hL : L ≤ 2048) : ∃ A' w, zf_0_737 L xs K 0 0 0 i s = K 0 0 0 (i + 4) w ∧ lI A' w ∧ w.2.2 ≤ s.2.2 + 1 := by
  have ok := I.2.2.2.1
  obtain ⟨v, u, w, e1, e2, e5, e6⟩ := law_op0 (FC := zf_118 0) (FM := zf_198 0) I (C118 I.1 ok I.2.1) (fun u hu => M198 (cd := fun _ => 1) hu ok) (fun h H => ⟨_, zg_118 H (by decide)⟩) (fun u h H => ⟨_, zg_198 H (by decide)⟩)
  refine ⟨_, w, ?_, e5, e6⟩
  unfold zf_0_737
  rw [e1, zC_zi, e2, zC_zi, if_pos rfl, zg_ok ⟨by omega, by omega⟩]
end
end
