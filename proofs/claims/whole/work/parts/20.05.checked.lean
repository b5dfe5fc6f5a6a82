/-! methods that are checked -/
theorem xk_42 : xr_cdb xt_cp5 false xm_42 = true := by decide +kernel
set_option maxRecDepth 100000 in
theorem xo_42 (L : Nat) (xs : Nat → Int32) : (∀ (pc : Nat) (i : Instr) (n : Nat), xr_fetch (xr_cd xm_42) pc = some (i, n) → xr_ok (xt_T L xs) xt_GW xt_ST xt_AO xm_42 pc i n) ∧ xr_hok xt_GW xt_NC xm_42 := ⟨xr_cdb_s (T := xt_T L xs) (ST := xt_ST) (AO := xt_AO) (GW := xt_GW) (cp := xt_cp5) (ini := false) (M := xm_42) (xt_cp5_ok L xs) (fun h => Bool.noConfusion h) xt_arr xk_42, (fun _ h => absurd h List.not_mem_nil)⟩
theorem xl_42 : xr_cal xt_GW xm_42 := ⟨plainFor_of_name (by decide +kernel), (xt_in 13 rfl (List.mem_of_getElem? (i := 19) rfl)), (xt_in 2 rfl (List.mem_of_getElem? (i := 31) rfl)), ⟨by decide +kernel, by decide +kernel⟩, by decide +kernel, by decide⟩
theorem xk_43 : xr_cdb xt_cp5 false xm_43 = true := by decide +kernel
set_option maxRecDepth 100000 in
theorem xo_43 (L : Nat) (xs : Nat → Int32) : (∀ (pc : Nat) (i : Instr) (n : Nat), xr_fetch (xr_cd xm_43) pc = some (i, n) → xr_ok (xt_T L xs) xt_GW xt_ST xt_AO xm_43 pc i n) ∧ xr_hok xt_GW xt_NC xm_43 := ⟨xr_cdb_s (T := xt_T L xs) (ST := xt_ST) (AO := xt_AO) (GW := xt_GW) (cp := xt_cp5) (ini := false) (M := xm_43) (xt_cp5_ok L xs) (fun h => Bool.noConfusion h) xt_arr xk_43, (fun _ h => absurd h List.not_mem_nil)⟩
theorem xl_43 : xr_cal xt_GW xm_43 := ⟨plainFor_of_name (by decide +kernel), (xt_in 15 rfl (List.mem_of_getElem? (i := 6) rfl)), (xt_in 2 rfl (List.mem_of_getElem? (i := 31) rfl)), ⟨by decide +kernel, by decide +kernel⟩, by decide +kernel, by decide⟩
theorem xk_44 : xr_cdb xt_cp5 false xm_44 = true := by decide +kernel
set_option maxRecDepth 100000 in
theorem xo_44 (L : Nat) (xs : Nat → Int32) : (∀ (pc : Nat) (i : Instr) (n : Nat), xr_fetch (xr_cd xm_44) pc = some (i, n) → xr_ok (xt_T L xs) xt_GW xt_ST xt_AO xm_44 pc i n) ∧ xr_hok xt_GW xt_NC xm_44 := ⟨xr_cdb_s (T := xt_T L xs) (ST := xt_ST) (AO := xt_AO) (GW := xt_GW) (cp := xt_cp5) (ini := false) (M := xm_44) (xt_cp5_ok L xs) (fun h => Bool.noConfusion h) xt_arr xk_44, (fun _ h => absurd h List.not_mem_nil)⟩
theorem xl_44 : xr_cal xt_GW xm_44 := ⟨plainFor_of_name (by decide +kernel), (xt_in 15 rfl (List.mem_of_getElem? (i := 12) rfl)), (xt_in 2 rfl (List.mem_of_getElem? (i := 31) rfl)), ⟨by decide +kernel, by decide +kernel⟩, by decide +kernel, by decide⟩
theorem xk_45_0 : ((xc_45.drop 0).take 40).all (fun q => xr_okb xt_cp5 false xm_45 q.1 q.2.1 q.2.2) = true := by decide +kernel
theorem xk_45_40 : ((xc_45.drop 40).take 40).all (fun q => xr_okb xt_cp5 false xm_45 q.1 q.2.1 q.2.2) = true := by decide +kernel
theorem xk_45 : xr_cdb xt_cp5 false xm_45 = true := (xr_chk _ 40 0 _ xk_45_0 (xr_chk _ 40 40 _ xk_45_40 (by decide +kernel)))
set_option maxRecDepth 100000 in
theorem xo_45 (L : Nat) (xs : Nat → Int32) : (∀ (pc : Nat) (i : Instr) (n : Nat), xr_fetch (xr_cd xm_45) pc = some (i, n) → xr_ok (xt_T L xs) xt_GW xt_ST xt_AO xm_45 pc i n) ∧ xr_hok xt_GW xt_NC xm_45 := ⟨xr_cdb_s (T := xt_T L xs) (ST := xt_ST) (AO := xt_AO) (GW := xt_GW) (cp := xt_cp5) (ini := false) (M := xm_45) (xt_cp5_ok L xs) (fun h => Bool.noConfusion h) xt_arr xk_45, (fun _ h => absurd h List.not_mem_nil)⟩
theorem xl_45 : xr_cal xt_GW xm_45 := ⟨plainFor_of_name (by decide +kernel), (xt_in 15 rfl (List.mem_of_getElem? (i := 9) rfl)), (xt_in 2 rfl (List.mem_of_getElem? (i := 31) rfl)), ⟨by decide +kernel, by decide +kernel⟩, by decide +kernel, by decide⟩
theorem xk_46_0 : ((xc_46.drop 0).take 40).all (fun q => xr_okb xt_cp5 false xm_46 q.1 q.2.1 q.2.2) = true := by decide +kernel
theorem xk_46_40 : ((xc_46.drop 40).take 40).all (fun q => xr_okb xt_cp5 false xm_46 q.1 q.2.1 q.2.2) = true := by decide +kernel
theorem xk_46 : xr_cdb xt_cp5 false xm_46 = true := (xr_chk _ 40 0 _ xk_46_0 (xr_chk _ 40 40 _ xk_46_40 (by decide +kernel)))
set_option maxRecDepth 100000 in
theorem xo_46 (L : Nat) (xs : Nat → Int32) : (∀ (pc : Nat) (i : Instr) (n : Nat), xr_fetch (xr_cd xm_46) pc = some (i, n) → xr_ok (xt_T L xs) xt_GW xt_ST xt_AO xm_46 pc i n) ∧ xr_hok xt_GW xt_NC xm_46 := ⟨xr_cdb_s (T := xt_T L xs) (ST := xt_ST) (AO := xt_AO) (GW := xt_GW) (cp := xt_cp5) (ini := false) (M := xm_46) (xt_cp5_ok L xs) (fun h => Bool.noConfusion h) xt_arr xk_46, (fun _ h => absurd h List.not_mem_nil)⟩
theorem xl_46 : xr_cal xt_GW xm_46 := ⟨plainFor_of_name (by decide +kernel), (xt_in 13 rfl (List.mem_of_getElem? (i := 32) rfl)), (xt_in 2 rfl (List.mem_of_getElem? (i := 31) rfl)), ⟨by decide +kernel, by decide +kernel⟩, by decide +kernel, by decide⟩
theorem xk_47_0 : ((xc_47.drop 0).take 40).all (fun q => xr_okb xt_cp5 false xm_47 q.1 q.2.1 q.2.2) = true := by decide +kernel
theorem xk_47_40 : ((xc_47.drop 40).take 40).all (fun q => xr_okb xt_cp5 false xm_47 q.1 q.2.1 q.2.2) = true := by decide +kernel
theorem xk_47_80 : ((xc_47.drop 80).take 40).all (fun q => xr_okb xt_cp5 false xm_47 q.1 q.2.1 q.2.2) = true := by decide +kernel
theorem xk_47 : xr_cdb xt_cp5 false xm_47 = true := (xr_chk _ 40 0 _ xk_47_0 (xr_chk _ 40 40 _ xk_47_40 (xr_chk _ 40 80 _ xk_47_80 (by decide +kernel))))
set_option maxRecDepth 100000 in
theorem xo_47 (L : Nat) (xs : Nat → Int32) : (∀ (pc : Nat) (i : Instr) (n : Nat), xr_fetch (xr_cd xm_47) pc = some (i, n) → xr_ok (xt_T L xs) xt_GW xt_ST xt_AO xm_47 pc i n) ∧ xr_hok xt_GW xt_NC xm_47 := ⟨xr_cdb_s (T := xt_T L xs) (ST := xt_ST) (AO := xt_AO) (GW := xt_GW) (cp := xt_cp5) (ini := false) (M := xm_47) (xt_cp5_ok L xs) (fun h => Bool.noConfusion h) xt_arr xk_47, (fun _ h => absurd h List.not_mem_nil)⟩
theorem xl_47 : xr_cal xt_GW xm_47 := ⟨plainFor_of_name (by decide +kernel), (xt_in 13 rfl (List.mem_of_getElem? (i := 39) rfl)), (xt_in 2 rfl (List.mem_of_getElem? (i := 31) rfl)), ⟨by decide +kernel, by decide +kernel⟩, by decide +kernel, by decide⟩
theorem xk_48 : xr_cdb xt_cp5 false xm_48 = true := by decide +kernel
set_option maxRecDepth 100000 in
theorem xo_48 (L : Nat) (xs : Nat → Int32) : (∀ (pc : Nat) (i : Instr) (n : Nat), xr_fetch (xr_cd xm_48) pc = some (i, n) → xr_ok (xt_T L xs) xt_GW xt_ST xt_AO xm_48 pc i n) ∧ xr_hok xt_GW xt_NC xm_48 := ⟨xr_cdb_s (T := xt_T L xs) (ST := xt_ST) (AO := xt_AO) (GW := xt_GW) (cp := xt_cp5) (ini := false) (M := xm_48) (xt_cp5_ok L xs) (fun h => Bool.noConfusion h) xt_arr xk_48, (fun _ h => absurd h List.not_mem_nil)⟩
theorem xl_48 : xr_cal xt_GW xm_48 := ⟨plainFor_of_name (by decide +kernel), (xt_in 14 rfl (List.mem_of_getElem? (i := 5) rfl)), (xt_in 2 rfl (List.mem_of_getElem? (i := 31) rfl)), ⟨by decide +kernel, by decide +kernel⟩, by decide +kernel, by decide⟩
theorem xk_49 : xr_cdb xt_cp5 false xm_49 = true := by decide +kernel
set_option maxRecDepth 100000 in
theorem xo_49 (L : Nat) (xs : Nat → Int32) : (∀ (pc : Nat) (i : Instr) (n : Nat), xr_fetch (xr_cd xm_49) pc = some (i, n) → xr_ok (xt_T L xs) xt_GW xt_ST xt_AO xm_49 pc i n) ∧ xr_hok xt_GW xt_NC xm_49 := ⟨xr_cdb_s (T := xt_T L xs) (ST := xt_ST) (AO := xt_AO) (GW := xt_GW) (cp := xt_cp5) (ini := false) (M := xm_49) (xt_cp5_ok L xs) (fun h => Bool.noConfusion h) xt_arr xk_49, (fun _ h => absurd h List.not_mem_nil)⟩
theorem xl_49 : xr_cal xt_GW xm_49 := ⟨plainFor_of_name (by decide +kernel), (xt_in 14 rfl (List.mem_of_getElem? (i := 39) rfl)), (xt_in 2 rfl (List.mem_of_getElem? (i := 31) rfl)), ⟨by decide +kernel, by decide +kernel⟩, by decide +kernel, by decide⟩
