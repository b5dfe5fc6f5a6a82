/-! methods that are checked -/
theorem xk_247 : xr_cdb xt_cp9 false xm_247 = true := by decide +kernel
set_option maxRecDepth 100000 in
theorem xo_247 (L : Nat) (xs : Nat → Int32) : (∀ (pc : Nat) (i : Instr) (n : Nat), xr_fetch (xr_cd xm_247) pc = some (i, n) → xr_ok (xt_T L xs) xt_GW xt_ST xt_AO xm_247 pc i n) ∧ xr_hok xt_GW xt_NC xm_247 := ⟨xr_cdb_s (T := xt_T L xs) (ST := xt_ST) (AO := xt_AO) (GW := xt_GW) (cp := xt_cp9) (ini := false) (M := xm_247) (xt_cp9_ok L xs) (fun h => Bool.noConfusion h) xt_arr xk_247, List.forall_mem_cons.mpr ⟨⟨by decide, (xt_in 10 rfl (List.mem_of_getElem? (i := 10) rfl)), (xt_in 10 rfl (List.mem_of_getElem? (i := 18) rfl)), by decide +kernel⟩,
  fun _ h => absurd h List.not_mem_nil⟩⟩
theorem xl_247 : xr_cal xt_GW xm_247 := ⟨plainFor_of_name (by decide +kernel), (xt_in 21 rfl (List.mem_of_getElem? (i := 36) rfl)), (xt_in 2 rfl (List.mem_of_getElem? (i := 28) rfl)), ⟨by decide +kernel, by decide +kernel⟩, by decide +kernel, by decide⟩
theorem xk_248 : xr_cdb xt_cp9 false xm_248 = true := by decide +kernel
set_option maxRecDepth 100000 in
theorem xo_248 (L : Nat) (xs : Nat → Int32) : (∀ (pc : Nat) (i : Instr) (n : Nat), xr_fetch (xr_cd xm_248) pc = some (i, n) → xr_ok (xt_T L xs) xt_GW xt_ST xt_AO xm_248 pc i n) ∧ xr_hok xt_GW xt_NC xm_248 := ⟨xr_cdb_s (T := xt_T L xs) (ST := xt_ST) (AO := xt_AO) (GW := xt_GW) (cp := xt_cp9) (ini := false) (M := xm_248) (xt_cp9_ok L xs) (fun h => Bool.noConfusion h) xt_arr xk_248, List.forall_mem_cons.mpr ⟨⟨by decide, (xt_in 15 rfl (List.mem_of_getElem? (i := 16) rfl)), (xt_in 15 rfl (List.mem_of_getElem? (i := 22) rfl)), by decide +kernel⟩,
  List.forall_mem_cons.mpr ⟨⟨by decide, (xt_in 10 rfl (List.mem_of_getElem? (i := 9) rfl)), (xt_in 10 rfl (List.mem_of_getElem? (i := 16) rfl)), by decide +kernel⟩,
  fun _ h => absurd h List.not_mem_nil⟩⟩⟩
theorem xl_248 : xr_cal xt_GW xm_248 := ⟨plainFor_of_name (by decide +kernel), (xt_in 22 rfl (List.mem_of_getElem? (i := 3) rfl)), (xt_in 2 rfl (List.mem_of_getElem? (i := 28) rfl)), ⟨by decide +kernel, by decide +kernel⟩, by decide +kernel, by decide⟩
theorem xk_249 : xr_cdb xt_cp9 false xm_249 = true := by decide +kernel
set_option maxRecDepth 100000 in
theorem xo_249 (L : Nat) (xs : Nat → Int32) : (∀ (pc : Nat) (i : Instr) (n : Nat), xr_fetch (xr_cd xm_249) pc = some (i, n) → xr_ok (xt_T L xs) xt_GW xt_ST xt_AO xm_249 pc i n) ∧ xr_hok xt_GW xt_NC xm_249 := ⟨xr_cdb_s (T := xt_T L xs) (ST := xt_ST) (AO := xt_AO) (GW := xt_GW) (cp := xt_cp9) (ini := false) (M := xm_249) (xt_cp9_ok L xs) (fun h => Bool.noConfusion h) xt_arr xk_249, List.forall_mem_cons.mpr ⟨⟨by decide, (xt_in 15 rfl (List.mem_of_getElem? (i := 16) rfl)), (xt_in 15 rfl (List.mem_of_getElem? (i := 22) rfl)), by decide +kernel⟩,
  List.forall_mem_cons.mpr ⟨⟨by decide, (xt_in 10 rfl (List.mem_of_getElem? (i := 10) rfl)), (xt_in 10 rfl (List.mem_of_getElem? (i := 18) rfl)), by decide +kernel⟩,
  fun _ h => absurd h List.not_mem_nil⟩⟩⟩
theorem xl_249 : xr_cal xt_GW xm_249 := ⟨plainFor_of_name (by decide +kernel), (xt_in 22 rfl (List.mem_of_getElem? (i := 17) rfl)), (xt_in 2 rfl (List.mem_of_getElem? (i := 28) rfl)), ⟨by decide +kernel, by decide +kernel⟩, by decide +kernel, by decide⟩
