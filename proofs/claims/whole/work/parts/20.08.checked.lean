/-! methods that are checked -/
theorem xk_65 : xr_cdb xt_cp6 false xm_65 = true := by decide +kernel
set_option maxRecDepth 100000 in
theorem xo_65 (L : Nat) (xs : Nat → Int32) : (∀ (pc : Nat) (i : Instr) (n : Nat), xr_fetch (xr_cd xm_65) pc = some (i, n) → xr_ok (xt_T L xs) xt_GW xt_ST xt_AO xm_65 pc i n) ∧ xr_hok xt_GW xt_NC xm_65 := ⟨xr_cdb_s (T := xt_T L xs) (ST := xt_ST) (AO := xt_AO) (GW := xt_GW) (cp := xt_cp6) (ini := false) (M := xm_65) (xt_cp6_ok L xs) (fun h => Bool.noConfusion h) xt_arr xk_65, (fun _ h => absurd h List.not_mem_nil)⟩
theorem xl_65 : xr_cal xt_GW xm_65 := ⟨plainFor_of_name (by decide +kernel), (xt_in 8 rfl (List.mem_of_getElem? (i := 34) rfl)), (xt_in 2 rfl (List.mem_of_getElem? (i := 33) rfl)), ⟨by decide +kernel, by decide +kernel⟩, by decide +kernel, by decide⟩
theorem xk_66 : xr_cdb xt_cp6 false xm_66 = true := by decide +kernel
set_option maxRecDepth 100000 in
theorem xo_66 (L : Nat) (xs : Nat → Int32) : (∀ (pc : Nat) (i : Instr) (n : Nat), xr_fetch (xr_cd xm_66) pc = some (i, n) → xr_ok (xt_T L xs) xt_GW xt_ST xt_AO xm_66 pc i n) ∧ xr_hok xt_GW xt_NC xm_66 := ⟨xr_cdb_s (T := xt_T L xs) (ST := xt_ST) (AO := xt_AO) (GW := xt_GW) (cp := xt_cp6) (ini := false) (M := xm_66) (xt_cp6_ok L xs) (fun h => Bool.noConfusion h) xt_arr xk_66, (fun _ h => absurd h List.not_mem_nil)⟩
theorem xl_66 : xr_cal xt_GW xm_66 := ⟨plainFor_of_name (by decide +kernel), (xt_in 7 rfl (List.mem_of_getElem? (i := 23) rfl)), (xt_in 2 rfl (List.mem_of_getElem? (i := 33) rfl)), ⟨by decide +kernel, by decide +kernel⟩, by decide +kernel, by decide⟩
theorem xk_67 : xr_cdb xt_cp6 false xm_67 = true := by decide +kernel
set_option maxRecDepth 100000 in
theorem xo_67 (L : Nat) (xs : Nat → Int32) : (∀ (pc : Nat) (i : Instr) (n : Nat), xr_fetch (xr_cd xm_67) pc = some (i, n) → xr_ok (xt_T L xs) xt_GW xt_ST xt_AO xm_67 pc i n) ∧ xr_hok xt_GW xt_NC xm_67 := ⟨xr_cdb_s (T := xt_T L xs) (ST := xt_ST) (AO := xt_AO) (GW := xt_GW) (cp := xt_cp6) (ini := false) (M := xm_67) (xt_cp6_ok L xs) (fun h => Bool.noConfusion h) xt_arr xk_67, (fun _ h => absurd h List.not_mem_nil)⟩
theorem xl_67 : xr_cal xt_GW xm_67 := ⟨plainFor_of_name (by decide +kernel), (xt_in 7 rfl (List.mem_of_getElem? (i := 26) rfl)), (xt_in 2 rfl (List.mem_of_getElem? (i := 33) rfl)), ⟨by decide +kernel, by decide +kernel⟩, by decide +kernel, by decide⟩
theorem xk_68_0 : ((xc_68.drop 0).take 40).all (fun q => xr_okb xt_cp6 false xm_68 q.1 q.2.1 q.2.2) = true := by decide +kernel
theorem xk_68_40 : ((xc_68.drop 40).take 40).all (fun q => xr_okb xt_cp6 false xm_68 q.1 q.2.1 q.2.2) = true := by decide +kernel
theorem xk_68_80 : ((xc_68.drop 80).take 40).all (fun q => xr_okb xt_cp6 false xm_68 q.1 q.2.1 q.2.2) = true := by decide +kernel
theorem xk_68 : xr_cdb xt_cp6 false xm_68 = true := (xr_chk _ 40 0 _ xk_68_0 (xr_chk _ 40 40 _ xk_68_40 (xr_chk _ 40 80 _ xk_68_80 (by decide +kernel))))
set_option maxRecDepth 100000 in
theorem xo_68 (L : Nat) (xs : Nat → Int32) : (∀ (pc : Nat) (i : Instr) (n : Nat), xr_fetch (xr_cd xm_68) pc = some (i, n) → xr_ok (xt_T L xs) xt_GW xt_ST xt_AO xm_68 pc i n) ∧ xr_hok xt_GW xt_NC xm_68 := ⟨xr_cdb_s (T := xt_T L xs) (ST := xt_ST) (AO := xt_AO) (GW := xt_GW) (cp := xt_cp6) (ini := false) (M := xm_68) (xt_cp6_ok L xs) (fun h => Bool.noConfusion h) xt_arr xk_68, (fun _ h => absurd h List.not_mem_nil)⟩
theorem xl_68 : xr_cal xt_GW xm_68 := ⟨plainFor_of_name (by decide +kernel), (xt_in 7 rfl (List.mem_of_getElem? (i := 29) rfl)), (xt_in 2 rfl (List.mem_of_getElem? (i := 33) rfl)), ⟨by decide +kernel, by decide +kernel⟩, by decide +kernel, by decide⟩
theorem xk_69 : xr_cdb xt_cp6 false xm_69 = true := by decide +kernel
set_option maxRecDepth 100000 in
theorem xo_69 (L : Nat) (xs : Nat → Int32) : (∀ (pc : Nat) (i : Instr) (n : Nat), xr_fetch (xr_cd xm_69) pc = some (i, n) → xr_ok (xt_T L xs) xt_GW xt_ST xt_AO xm_69 pc i n) ∧ xr_hok xt_GW xt_NC xm_69 := ⟨xr_cdb_s (T := xt_T L xs) (ST := xt_ST) (AO := xt_AO) (GW := xt_GW) (cp := xt_cp6) (ini := false) (M := xm_69) (xt_cp6_ok L xs) (fun h => Bool.noConfusion h) xt_arr xk_69, (fun _ h => absurd h List.not_mem_nil)⟩
theorem xl_69 : xr_cal xt_GW xm_69 := ⟨plainFor_of_name (by decide +kernel), (xt_in 8 rfl (List.mem_of_getElem? (i := 13) rfl)), (xt_in 2 rfl (List.mem_of_getElem? (i := 33) rfl)), ⟨by decide +kernel, by decide +kernel⟩, by decide +kernel, by decide⟩
theorem xk_70 : xr_cdb xt_cp6 false xm_70 = true := by decide +kernel
set_option maxRecDepth 100000 in
theorem xo_70 (L : Nat) (xs : Nat → Int32) : (∀ (pc : Nat) (i : Instr) (n : Nat), xr_fetch (xr_cd xm_70) pc = some (i, n) → xr_ok (xt_T L xs) xt_GW xt_ST xt_AO xm_70 pc i n) ∧ xr_hok xt_GW xt_NC xm_70 := ⟨xr_cdb_s (T := xt_T L xs) (ST := xt_ST) (AO := xt_AO) (GW := xt_GW) (cp := xt_cp6) (ini := false) (M := xm_70) (xt_cp6_ok L xs) (fun h => Bool.noConfusion h) xt_arr xk_70, (fun _ h => absurd h List.not_mem_nil)⟩
theorem xl_70 : xr_cal xt_GW xm_70 := ⟨plainFor_of_name (by decide +kernel), (xt_in 8 rfl (List.mem_of_getElem? (i := 3) rfl)), (xt_in 2 rfl (List.mem_of_getElem? (i := 33) rfl)), ⟨by decide +kernel, by decide +kernel⟩, by decide +kernel, by decide⟩
theorem xk_71_0 : ((xc_71.drop 0).take 40).all (fun q => xr_okb xt_cp6 false xm_71 q.1 q.2.1 q.2.2) = true := by decide +kernel
theorem xk_71_40 : ((xc_71.drop 40).take 40).all (fun q => xr_okb xt_cp6 false xm_71 q.1 q.2.1 q.2.2) = true := by decide +kernel
theorem xk_71 : xr_cdb xt_cp6 false xm_71 = true := (xr_chk _ 40 0 _ xk_71_0 (xr_chk _ 40 40 _ xk_71_40 (by decide +kernel)))
set_option maxRecDepth 100000 in
theorem xo_71 (L : Nat) (xs : Nat → Int32) : (∀ (pc : Nat) (i : Instr) (n : Nat), xr_fetch (xr_cd xm_71) pc = some (i, n) → xr_ok (xt_T L xs) xt_GW xt_ST xt_AO xm_71 pc i n) ∧ xr_hok xt_GW xt_NC xm_71 := ⟨xr_cdb_s (T := xt_T L xs) (ST := xt_ST) (AO := xt_AO) (GW := xt_GW) (cp := xt_cp6) (ini := false) (M := xm_71) (xt_cp6_ok L xs) (fun h => Bool.noConfusion h) xt_arr xk_71, (fun _ h => absurd h List.not_mem_nil)⟩
theorem xl_71 : xr_cal xt_GW xm_71 := ⟨plainFor_of_name (by decide +kernel), (xt_in 8 rfl (List.mem_of_getElem? (i := 6) rfl)), (xt_in 2 rfl (List.mem_of_getElem? (i := 33) rfl)), ⟨by decide +kernel, by decide +kernel⟩, by decide +kernel, by decide⟩
theorem xk_72_0 : ((xc_72.drop 0).take 40).all (fun q => xr_okb xt_cp6 false xm_72 q.1 q.2.1 q.2.2) = true := by decide +kernel
theorem xk_72_40 : ((xc_72.drop 40).take 40).all (fun q => xr_okb xt_cp6 false xm_72 q.1 q.2.1 q.2.2) = true := by decide +kernel
theorem xk_72 : xr_cdb xt_cp6 false xm_72 = true := (xr_chk _ 40 0 _ xk_72_0 (xr_chk _ 40 40 _ xk_72_40 (by decide +kernel)))
set_option maxRecDepth 100000 in
theorem xo_72 (L : Nat) (xs : Nat → Int32) : (∀ (pc : Nat) (i : Instr) (n : Nat), xr_fetch (xr_cd xm_72) pc = some (i, n) → xr_ok (xt_T L xs) xt_GW xt_ST xt_AO xm_72 pc i n) ∧ xr_hok xt_GW xt_NC xm_72 := ⟨xr_cdb_s (T := xt_T L xs) (ST := xt_ST) (AO := xt_AO) (GW := xt_GW) (cp := xt_cp6) (ini := false) (M := xm_72) (xt_cp6_ok L xs) (fun h => Bool.noConfusion h) xt_arr xk_72, (fun _ h => absurd h List.not_mem_nil)⟩
theorem xl_72 : xr_cal xt_GW xm_72 := ⟨plainFor_of_name (by decide +kernel), (xt_in 7 rfl (List.mem_of_getElem? (i := 32) rfl)), (xt_in 2 rfl (List.mem_of_getElem? (i := 33) rfl)), ⟨by decide +kernel, by decide +kernel⟩, by decide +kernel, by decide⟩
