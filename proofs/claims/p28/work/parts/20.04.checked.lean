/-! methods that are checked -/
theorem xk_45_40 : ((xc_45.drop 40).take 40).all (fun q => xr_okb xt_cp5 false xm_45 q.1 q.2.1 q.2.2) = true := by decide +kernel
theorem xk_45 : xr_cdb xt_cp5 false xm_45 = true := (xr_chk _ 40 0 _ xk_45_0 (xr_chk _ 40 40 _ xk_45_40 (by decide +kernel)))
set_option maxRecDepth 100000 in
theorem xo_45 (L : Nat) (xs : Nat → Int32) : (∀ (pc : Nat) (i : Instr) (n : Nat), xr_fetch (xr_cd xm_45) pc = some (i, n) → xr_ok (xt_T L xs) xt_GW xt_ST xt_AO xm_45 pc i n) ∧ xr_hok xt_GW xt_NC xm_45 := ⟨xr_cdb_s (T := xt_T L xs) (ST := xt_ST) (AO := xt_AO) (GW := xt_GW) (cp := xt_cp5) (ini := false) (M := xm_45) (xt_cp5_ok L xs) (fun h => Bool.noConfusion h) xt_arr xk_45, (fun _ h => absurd h List.not_mem_nil)⟩
theorem xl_45 : xr_cal xt_GW xm_45 := ⟨plainFor_of_name (by decide +kernel), (xt_in 9 rfl (List.mem_of_getElem? (i := 39) rfl)), (xt_in 1 rfl (List.mem_of_getElem? (i := 16) rfl)), ⟨by decide +kernel, by decide +kernel⟩, by decide +kernel, by decide⟩
theorem xk_46_0 : ((xc_46.drop 0).take 40).all (fun q => xr_okb xt_cp5 false xm_46 q.1 q.2.1 q.2.2) = true := by decide +kernel
theorem xk_46_40 : ((xc_46.drop 40).take 40).all (fun q => xr_okb xt_cp5 false xm_46 q.1 q.2.1 q.2.2) = true := by decide +kernel
theorem xk_46 : xr_cdb xt_cp5 false xm_46 = true := (xr_chk _ 40 0 _ xk_46_0 (xr_chk _ 40 40 _ xk_46_40 (by decide +kernel)))
set_option maxRecDepth 100000 in
theorem xo_46 (L : Nat) (xs : Nat → Int32) : (∀ (pc : Nat) (i : Instr) (n : Nat), xr_fetch (xr_cd xm_46) pc = some (i, n) → xr_ok (xt_T L xs) xt_GW xt_ST xt_AO xm_46 pc i n) ∧ xr_hok xt_GW xt_NC xm_46 := ⟨xr_cdb_s (T := xt_T L xs) (ST := xt_ST) (AO := xt_AO) (GW := xt_GW) (cp := xt_cp5) (ini := false) (M := xm_46) (xt_cp5_ok L xs) (fun h => Bool.noConfusion h) xt_arr xk_46, (fun _ h => absurd h List.not_mem_nil)⟩
theorem xl_46 : xr_cal xt_GW xm_46 := ⟨plainFor_of_name (by decide +kernel), (xt_in 8 rfl (List.mem_of_getElem? (i := 22) rfl)), (xt_in 1 rfl (List.mem_of_getElem? (i := 16) rfl)), ⟨by decide +kernel, by decide +kernel⟩, by decide +kernel, by decide⟩
theorem xk_47_0 : ((xc_47.drop 0).take 40).all (fun q => xr_okb xt_cp5 false xm_47 q.1 q.2.1 q.2.2) = true := by decide +kernel
theorem xk_47_40 : ((xc_47.drop 40).take 40).all (fun q => xr_okb xt_cp5 false xm_47 q.1 q.2.1 q.2.2) = true := by decide +kernel
theorem xk_47_80 : ((xc_47.drop 80).take 40).all (fun q => xr_okb xt_cp5 false xm_47 q.1 q.2.1 q.2.2) = true := by decide +kernel
theorem xk_47 : xr_cdb xt_cp5 false xm_47 = true := (xr_chk _ 40 0 _ xk_47_0 (xr_chk _ 40 40 _ xk_47_40 (xr_chk _ 40 80 _ xk_47_80 (by decide +kernel))))
set_option maxRecDepth 100000 in
theorem xo_47 (L : Nat) (xs : Nat → Int32) : (∀ (pc : Nat) (i : Instr) (n : Nat), xr_fetch (xr_cd xm_47) pc = some (i, n) → xr_ok (xt_T L xs) xt_GW xt_ST xt_AO xm_47 pc i n) ∧ xr_hok xt_GW xt_NC xm_47 := ⟨xr_cdb_s (T := xt_T L xs) (ST := xt_ST) (AO := xt_AO) (GW := xt_GW) (cp := xt_cp5) (ini := false) (M := xm_47) (xt_cp5_ok L xs) (fun h => Bool.noConfusion h) xt_arr xk_47, (fun _ h => absurd h List.not_mem_nil)⟩
theorem xl_47 : xr_cal xt_GW xm_47 := ⟨plainFor_of_name (by decide +kernel), (xt_in 8 rfl (List.mem_of_getElem? (i := 29) rfl)), (xt_in 1 rfl (List.mem_of_getElem? (i := 16) rfl)), ⟨by decide +kernel, by decide +kernel⟩, by decide +kernel, by decide⟩
theorem xk_48 : xr_cdb xt_cp5 false xm_48 = true := by decide +kernel
set_option maxRecDepth 100000 in
theorem xo_48 (L : Nat) (xs : Nat → Int32) : (∀ (pc : Nat) (i : Instr) (n : Nat), xr_fetch (xr_cd xm_48) pc = some (i, n) → xr_ok (xt_T L xs) xt_GW xt_ST xt_AO xm_48 pc i n) ∧ xr_hok xt_GW xt_NC xm_48 := ⟨xr_cdb_s (T := xt_T L xs) (ST := xt_ST) (AO := xt_AO) (GW := xt_GW) (cp := xt_cp5) (ini := false) (M := xm_48) (xt_cp5_ok L xs) (fun h => Bool.noConfusion h) xt_arr xk_48, (fun _ h => absurd h List.not_mem_nil)⟩
theorem xl_48 : xr_cal xt_GW xm_48 := ⟨plainFor_of_name (by decide +kernel), (xt_in 8 rfl (List.mem_of_getElem? (i := 35) rfl)), (xt_in 1 rfl (List.mem_of_getElem? (i := 16) rfl)), ⟨by decide +kernel, by decide +kernel⟩, by decide +kernel, by decide⟩
theorem xk_49 : xr_cdb xt_cp5 false xm_49 = true := by decide +kernel
set_option maxRecDepth 100000 in
theorem xo_49 (L : Nat) (xs : Nat → Int32) : (∀ (pc : Nat) (i : Instr) (n : Nat), xr_fetch (xr_cd xm_49) pc = some (i, n) → xr_ok (xt_T L xs) xt_GW xt_ST xt_AO xm_49 pc i n) ∧ xr_hok xt_GW xt_NC xm_49 := ⟨xr_cdb_s (T := xt_T L xs) (ST := xt_ST) (AO := xt_AO) (GW := xt_GW) (cp := xt_cp5) (ini := false) (M := xm_49) (xt_cp5_ok L xs) (fun h => Bool.noConfusion h) xt_arr xk_49, (fun _ h => absurd h List.not_mem_nil)⟩
theorem xl_49 : xr_cal xt_GW xm_49 := ⟨plainFor_of_name (by decide +kernel), (xt_in 9 rfl (List.mem_of_getElem? (i := 29) rfl)), (xt_in 1 rfl (List.mem_of_getElem? (i := 16) rfl)), ⟨by decide +kernel, by decide +kernel⟩, by decide +kernel, by decide⟩
theorem xk_50 : xr_cdb xt_cp5 false xm_50 = true := by decide +kernel
set_option maxRecDepth 100000 in
theorem xo_50 (L : Nat) (xs : Nat → Int32) : (∀ (pc : Nat) (i : Instr) (n : Nat), xr_fetch (xr_cd xm_50) pc = some (i, n) → xr_ok (xt_T L xs) xt_GW xt_ST xt_AO xm_50 pc i n) ∧ xr_hok xt_GW xt_NC xm_50 := ⟨xr_cdb_s (T := xt_T L xs) (ST := xt_ST) (AO := xt_AO) (GW := xt_GW) (cp := xt_cp5) (ini := false) (M := xm_50) (xt_cp5_ok L xs) (fun h => Bool.noConfusion h) xt_arr xk_50, (fun _ h => absurd h List.not_mem_nil)⟩
theorem xl_50 : xr_cal xt_GW xm_50 := ⟨plainFor_of_name (by decide +kernel), (xt_in 8 rfl (List.mem_of_getElem? (i := 32) rfl)), (xt_in 1 rfl (List.mem_of_getElem? (i := 16) rfl)), ⟨by decide +kernel, by decide +kernel⟩, by decide +kernel, by decide⟩
theorem xk_51_0 : ((xc_51.drop 0).take 40).all (fun q => xr_okb xt_cp5 false xm_51 q.1 q.2.1 q.2.2) = true := by decide +kernel
theorem xk_51_40 : ((xc_51.drop 40).take 40).all (fun q => xr_okb xt_cp5 false xm_51 q.1 q.2.1 q.2.2) = true := by decide +kernel
theorem xk_51_80 : ((xc_51.drop 80).take 40).all (fun q => xr_okb xt_cp5 false xm_51 q.1 q.2.1 q.2.2) = true := by decide +kernel
theorem xk_51 : xr_cdb xt_cp5 false xm_51 = true := (xr_chk _ 40 0 _ xk_51_0 (xr_chk _ 40 40 _ xk_51_40 (xr_chk _ 40 80 _ xk_51_80 (by decide +kernel))))
set_option maxRecDepth 100000 in
theorem xo_51 (L : Nat) (xs : Nat → Int32) : (∀ (pc : Nat) (i : Instr) (n : Nat), xr_fetch (xr_cd xm_51) pc = some (i, n) → xr_ok (xt_T L xs) xt_GW xt_ST xt_AO xm_51 pc i n) ∧ xr_hok xt_GW xt_NC xm_51 := ⟨xr_cdb_s (T := xt_T L xs) (ST := xt_ST) (AO := xt_AO) (GW := xt_GW) (cp := xt_cp5) (ini := false) (M := xm_51) (xt_cp5_ok L xs) (fun h => Bool.noConfusion h) xt_arr xk_51, (fun _ h => absurd h List.not_mem_nil)⟩
theorem xl_51 : xr_cal xt_GW xm_51 := ⟨plainFor_of_name (by decide +kernel), (xt_in 9 rfl (List.mem_of_getElem? (i := 2) rfl)), (xt_in 1 rfl (List.mem_of_getElem? (i := 16) rfl)), ⟨by decide +kernel, by decide +kernel⟩, by decide +kernel, by decide⟩
theorem xk_52_0 : ((xc_52.drop 0).take 40).all (fun q => xr_okb xt_cp5 false xm_52 q.1 q.2.1 q.2.2) = true := by decide +kernel
