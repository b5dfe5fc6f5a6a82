/-! all words together -/
theorem xt_x0_p : ∀ w ∈ vx_atS "HexTemplates" 80 (xr_en 0) xr_up, w ∈ lw_tbl := by decide +kernel
theorem xt_x0_t : (vx_atS "HexTemplates" 80 (xr_en 0) xr_up).all xr_tw = true := by decide +kernel
theorem xt_x1_p : ∀ w ∈ vx_atS "HexTemplates" 90 (xr_en 1) xr_up, w ∈ lw_tbl := by decide +kernel
theorem xt_x1_t : (vx_atS "HexTemplates" 90 (xr_en 1) xr_up).all xr_tw = true := by decide +kernel
theorem xt_x2_p : ∀ w ∈ vx_atS "HexTemplates" 127 (xr_en 2) xr_up, w ∈ lw_tbl := by decide +kernel
theorem xt_x2_t : (vx_atS "HexTemplates" 127 (xr_en 2) xr_up).all xr_tw = true := by decide +kernel
theorem xt_x3_p : ∀ w ∈ u_ws RX0 TX0 2, w ∈ lw_tbl := by decide +kernel
theorem xt_x3_t : (u_ws RX0 TX0 2).all xr_tw = true := by decide +kernel
theorem xt_x4_p : ∀ w ∈ u_ws RX1 TX1 2, w ∈ lw_tbl := by decide +kernel
theorem xt_x4_t : (u_ws RX1 TX1 2).all xr_tw = true := by decide +kernel
theorem xt_x5_p : ∀ w ∈ u_ws RX2 TX2 3, w ∈ lw_tbl := by decide +kernel
theorem xt_x5_t : (u_ws RX2 TX2 3).all xr_tw = true := by decide +kernel
theorem xt_x6_p : ∀ w ∈ u_ws RX3 TX3 8, w ∈ lw_tbl := by decide +kernel
theorem xt_x6_t : (u_ws RX3 TX3 8).all xr_tw = true := by decide +kernel
theorem xt_x7_p : ∀ w ∈ u_ws RX4 TX4 6, w ∈ lw_tbl := by decide +kernel
theorem xt_x7_t : (u_ws RX4 TX4 6).all xr_tw = true := by decide +kernel
theorem xt_x8_p : ∀ w ∈ u_ws RX5 TX5 11, w ∈ lw_tbl := by decide +kernel
theorem xt_x8_t : (u_ws RX5 TX5 11).all xr_tw = true := by decide +kernel
theorem xt_x9_p : ∀ w ∈ u_ws RX6 TX6 5, w ∈ lw_tbl := by decide +kernel
theorem xt_x9_t : (u_ws RX6 TX6 5).all xr_tw = true := by decide +kernel
theorem xt_x10_p : ∀ w ∈ u_ws RX7 TX7 21, w ∈ lw_tbl := by decide +kernel
theorem xt_x10_t : (u_ws RX7 TX7 21).all xr_tw = true := by decide +kernel
theorem xt_x11_p : ∀ w ∈ u_ws RX8 TX8 12, w ∈ lw_tbl := by decide +kernel
theorem xt_x11_t : (u_ws RX8 TX8 12).all xr_tw = true := by decide +kernel
def xt_ch : List (List Cond) := [xt_g0, xt_g1, xt_g2, xt_g3, xt_g4, xt_g5, xt_g6, xt_g7, xt_g8, xt_g9, xt_g10, xt_g11, xt_g12, xt_g13, xt_g14, xt_g15, xt_g16, xt_g17, xt_g18, xt_g19, xt_g20, xt_g21, vx_atS "HexTemplates" 80 (xr_en 0) xr_up, vx_atS "HexTemplates" 90 (xr_en 1) xr_up, vx_atS "HexTemplates" 127 (xr_en 2) xr_up, u_ws RX0 TX0 2, u_ws RX1 TX1 2, u_ws RX2 TX2 3, u_ws RX3 TX3 8, u_ws RX4 TX4 6, u_ws RX5 TX5 11, u_ws RX6 TX6 5, u_ws RX7 TX7 21, u_ws RX8 TX8 12]
def xt_GW : List Cond := xt_ch.flatten
theorem xt_in (c : Nat) {l : List Cond} (h : xt_ch[c]? = some l) {w : Cond} (hw : w ∈ l) : w ∈ xt_GW := List.mem_flatten_of_mem (List.mem_of_getElem? h) hw
theorem xt_mem {l : List Cond} {ps : List Nat} (hp : l = ps.filterMap (fun i => lw_tbl[i]?)) : ∀ w ∈ l, w ∈ lw_tbl := by
  intro w hw
  rw [hp] at hw
  obtain ⟨i, -, hi⟩ := List.mem_filterMap.mp hw
  exact List.mem_of_getElem? hi
theorem xt_ch_ok : ∀ l ∈ xt_ch, (∀ w ∈ l, w ∈ lw_tbl) ∧ ∀ w ∈ l, xr_tw w = true := by
  unfold xt_ch
  exact List.forall_mem_cons.mpr ⟨⟨xt_mem xt_g0_p, List.all_eq_true.mp xt_g0_t⟩,
  List.forall_mem_cons.mpr ⟨⟨xt_mem xt_g1_p, List.all_eq_true.mp xt_g1_t⟩,
  List.forall_mem_cons.mpr ⟨⟨xt_mem xt_g2_p, List.all_eq_true.mp xt_g2_t⟩,
  List.forall_mem_cons.mpr ⟨⟨xt_mem xt_g3_p, List.all_eq_true.mp xt_g3_t⟩,
  List.forall_mem_cons.mpr ⟨⟨xt_mem xt_g4_p, List.all_eq_true.mp xt_g4_t⟩,
  List.forall_mem_cons.mpr ⟨⟨xt_mem xt_g5_p, List.all_eq_true.mp xt_g5_t⟩,
  List.forall_mem_cons.mpr ⟨⟨xt_mem xt_g6_p, List.all_eq_true.mp xt_g6_t⟩,
  List.forall_mem_cons.mpr ⟨⟨xt_mem xt_g7_p, List.all_eq_true.mp xt_g7_t⟩,
  List.forall_mem_cons.mpr ⟨⟨xt_mem xt_g8_p, List.all_eq_true.mp xt_g8_t⟩,
  List.forall_mem_cons.mpr ⟨⟨xt_mem xt_g9_p, List.all_eq_true.mp xt_g9_t⟩,
  List.forall_mem_cons.mpr ⟨⟨xt_mem xt_g10_p, List.all_eq_true.mp xt_g10_t⟩,
  List.forall_mem_cons.mpr ⟨⟨xt_mem xt_g11_p, List.all_eq_true.mp xt_g11_t⟩,
  List.forall_mem_cons.mpr ⟨⟨xt_mem xt_g12_p, List.all_eq_true.mp xt_g12_t⟩,
  List.forall_mem_cons.mpr ⟨⟨xt_mem xt_g13_p, List.all_eq_true.mp xt_g13_t⟩,
  List.forall_mem_cons.mpr ⟨⟨xt_mem xt_g14_p, List.all_eq_true.mp xt_g14_t⟩,
  List.forall_mem_cons.mpr ⟨⟨xt_mem xt_g15_p, List.all_eq_true.mp xt_g15_t⟩,
  List.forall_mem_cons.mpr ⟨⟨xt_mem xt_g16_p, List.all_eq_true.mp xt_g16_t⟩,
  List.forall_mem_cons.mpr ⟨⟨xt_mem xt_g17_p, List.all_eq_true.mp xt_g17_t⟩,
  List.forall_mem_cons.mpr ⟨⟨xt_mem xt_g18_p, List.all_eq_true.mp xt_g18_t⟩,
  List.forall_mem_cons.mpr ⟨⟨xt_mem xt_g19_p, List.all_eq_true.mp xt_g19_t⟩,
  List.forall_mem_cons.mpr ⟨⟨xt_g20_m, List.all_eq_true.mp xt_g20_t⟩,
  List.forall_mem_cons.mpr ⟨⟨xt_g21_m, List.all_eq_true.mp xt_g21_t⟩,
  List.forall_mem_cons.mpr ⟨⟨xt_x0_p, List.all_eq_true.mp xt_x0_t⟩,
  List.forall_mem_cons.mpr ⟨⟨xt_x1_p, List.all_eq_true.mp xt_x1_t⟩,
  List.forall_mem_cons.mpr ⟨⟨xt_x2_p, List.all_eq_true.mp xt_x2_t⟩,
  List.forall_mem_cons.mpr ⟨⟨xt_x3_p, List.all_eq_true.mp xt_x3_t⟩,
  List.forall_mem_cons.mpr ⟨⟨xt_x4_p, List.all_eq_true.mp xt_x4_t⟩,
  List.forall_mem_cons.mpr ⟨⟨xt_x5_p, List.all_eq_true.mp xt_x5_t⟩,
  List.forall_mem_cons.mpr ⟨⟨xt_x6_p, List.all_eq_true.mp xt_x6_t⟩,
  List.forall_mem_cons.mpr ⟨⟨xt_x7_p, List.all_eq_true.mp xt_x7_t⟩,
  List.forall_mem_cons.mpr ⟨⟨xt_x8_p, List.all_eq_true.mp xt_x8_t⟩,
  List.forall_mem_cons.mpr ⟨⟨xt_x9_p, List.all_eq_true.mp xt_x9_t⟩,
  List.forall_mem_cons.mpr ⟨⟨xt_x10_p, List.all_eq_true.mp xt_x10_t⟩,
  List.forall_mem_cons.mpr ⟨⟨xt_x11_p, List.all_eq_true.mp xt_x11_t⟩,
  fun _ h => absurd h List.not_mem_nil⟩⟩⟩⟩⟩⟩⟩⟩⟩⟩⟩⟩⟩⟩⟩⟩⟩⟩⟩⟩⟩⟩⟩⟩⟩⟩⟩⟩⟩⟩⟩⟩⟩⟩
theorem xt_GW_ok : ∀ w ∈ xt_GW, w ∈ lw_tbl ∧ xr_tw w = true := by
  intro w hw
  obtain ⟨l, hl, hw⟩ := List.mem_flatten.mp hw
  exact ⟨(xt_ch_ok l hl).1 w hw, (xt_ch_ok l hl).2 w hw⟩
