/-! methods that are checked -/
theorem xk_61_0 : ((xc_61.drop 0).take 40).all (fun q => xr_okb xt_cp6 false xm_61 q.1 q.2.1 q.2.2) = true := by decide +kernel
theorem xk_61_40 : ((xc_61.drop 40).take 40).all (fun q => xr_okb xt_cp6 false xm_61 q.1 q.2.1 q.2.2) = true := by decide +kernel
theorem xk_61_80 : ((xc_61.drop 80).take 40).all (fun q => xr_okb xt_cp6 false xm_61 q.1 q.2.1 q.2.2) = true := by decide +kernel
theorem xk_61 : xr_cdb xt_cp6 false xm_61 = true := (xr_chk _ 40 0 _ xk_61_0 (xr_chk _ 40 40 _ xk_61_40 (xr_chk _ 40 80 _ xk_61_80 (by decide +kernel))))
set_option maxRecDepth 100000 in
theorem xo_61 (L : Nat) (xs : Nat → Int32) : (∀ (pc : Nat) (i : Instr) (n : Nat), xr_fetch (xr_cd xm_61) pc = some (i, n) → xr_ok (xt_T L xs) xt_GW xt_ST xt_AO xm_61 pc i n) ∧ xr_hok xt_GW xt_NC xm_61 := ⟨xr_cdb_s (T := xt_T L xs) (ST := xt_ST) (AO := xt_AO) (GW := xt_GW) (cp := xt_cp6) (ini := false) (M := xm_61) (xt_cp6_ok L xs) (fun h => Bool.noConfusion h) xt_arr xk_61, (fun _ h => absurd h List.not_mem_nil)⟩
theorem xl_61 : xr_cal xt_GW xm_61 := ⟨plainFor_of_name (by decide +kernel), (xt_in 12 rfl (List.mem_of_getElem? (i := 7) rfl)), (xt_in 1 rfl (List.mem_of_getElem? (i := 18) rfl)), ⟨by decide +kernel, by decide +kernel⟩, by decide +kernel, by decide⟩
theorem xk_62_0 : ((xc_62.drop 0).take 40).all (fun q => xr_okb xt_cp6 false xm_62 q.1 q.2.1 q.2.2) = true := by decide +kernel
theorem xk_62_40 : ((xc_62.drop 40).take 40).all (fun q => xr_okb xt_cp6 false xm_62 q.1 q.2.1 q.2.2) = true := by decide +kernel
theorem xk_62_80 : ((xc_62.drop 80).take 40).all (fun q => xr_okb xt_cp6 false xm_62 q.1 q.2.1 q.2.2) = true := by decide +kernel
theorem xk_62 : xr_cdb xt_cp6 false xm_62 = true := (xr_chk _ 40 0 _ xk_62_0 (xr_chk _ 40 40 _ xk_62_40 (xr_chk _ 40 80 _ xk_62_80 (by decide +kernel))))
set_option maxRecDepth 100000 in
theorem xo_62 (L : Nat) (xs : Nat → Int32) : (∀ (pc : Nat) (i : Instr) (n : Nat), xr_fetch (xr_cd xm_62) pc = some (i, n) → xr_ok (xt_T L xs) xt_GW xt_ST xt_AO xm_62 pc i n) ∧ xr_hok xt_GW xt_NC xm_62 := ⟨xr_cdb_s (T := xt_T L xs) (ST := xt_ST) (AO := xt_AO) (GW := xt_GW) (cp := xt_cp6) (ini := false) (M := xm_62) (xt_cp6_ok L xs) (fun h => Bool.noConfusion h) xt_arr xk_62, (fun _ h => absurd h List.not_mem_nil)⟩
theorem xl_62 : xr_cal xt_GW xm_62 := ⟨plainFor_of_name (by decide +kernel), (xt_in 12 rfl (List.mem_of_getElem? (i := 26) rfl)), (xt_in 1 rfl (List.mem_of_getElem? (i := 18) rfl)), ⟨by decide +kernel, by decide +kernel⟩, by decide +kernel, by decide⟩
theorem xk_63 : xr_cdb xt_cp6 false xm_63 = true := by decide +kernel
set_option maxRecDepth 100000 in
theorem xo_63 (L : Nat) (xs : Nat → Int32) : (∀ (pc : Nat) (i : Instr) (n : Nat), xr_fetch (xr_cd xm_63) pc = some (i, n) → xr_ok (xt_T L xs) xt_GW xt_ST xt_AO xm_63 pc i n) ∧ xr_hok xt_GW xt_NC xm_63 := ⟨xr_cdb_s (T := xt_T L xs) (ST := xt_ST) (AO := xt_AO) (GW := xt_GW) (cp := xt_cp6) (ini := false) (M := xm_63) (xt_cp6_ok L xs) (fun h => Bool.noConfusion h) xt_arr xk_63, (fun _ h => absurd h List.not_mem_nil)⟩
theorem xl_63 : xr_cal xt_GW xm_63 := ⟨plainFor_of_name (by decide +kernel), (xt_in 12 rfl (List.mem_of_getElem? (i := 20) rfl)), (xt_in 1 rfl (List.mem_of_getElem? (i := 18) rfl)), ⟨by decide +kernel, by decide +kernel⟩, by decide +kernel, by decide⟩
theorem xk_64 : xr_cdb xt_cp6 false xm_64 = true := by decide +kernel
set_option maxRecDepth 100000 in
theorem xo_64 (L : Nat) (xs : Nat → Int32) : (∀ (pc : Nat) (i : Instr) (n : Nat), xr_fetch (xr_cd xm_64) pc = some (i, n) → xr_ok (xt_T L xs) xt_GW xt_ST xt_AO xm_64 pc i n) ∧ xr_hok xt_GW xt_NC xm_64 := ⟨xr_cdb_s (T := xt_T L xs) (ST := xt_ST) (AO := xt_AO) (GW := xt_GW) (cp := xt_cp6) (ini := false) (M := xm_64) (xt_cp6_ok L xs) (fun h => Bool.noConfusion h) xt_arr xk_64, (fun _ h => absurd h List.not_mem_nil)⟩
theorem xl_64 : xr_cal xt_GW xm_64 := ⟨plainFor_of_name (by decide +kernel), (xt_in 12 rfl (List.mem_of_getElem? (i := 14) rfl)), (xt_in 1 rfl (List.mem_of_getElem? (i := 18) rfl)), ⟨by decide +kernel, by decide +kernel⟩, by decide +kernel, by decide⟩
theorem xk_65 : xr_cdb xt_cp6 false xm_65 = true := by decide +kernel
set_option maxRecDepth 100000 in
theorem xo_65 (L : Nat) (xs : Nat → Int32) : (∀ (pc : Nat) (i : Instr) (n : Nat), xr_fetch (xr_cd xm_65) pc = some (i, n) → xr_ok (xt_T L xs) xt_GW xt_ST xt_AO xm_65 pc i n) ∧ xr_hok xt_GW xt_NC xm_65 := ⟨xr_cdb_s (T := xt_T L xs) (ST := xt_ST) (AO := xt_AO) (GW := xt_GW) (cp := xt_cp6) (ini := false) (M := xm_65) (xt_cp6_ok L xs) (fun h => Bool.noConfusion h) xt_arr xk_65, (fun _ h => absurd h List.not_mem_nil)⟩
theorem xl_65 : xr_cal xt_GW xm_65 := ⟨plainFor_of_name (by decide +kernel), (xt_in 12 rfl (List.mem_of_getElem? (i := 17) rfl)), (xt_in 1 rfl (List.mem_of_getElem? (i := 18) rfl)), ⟨by decide +kernel, by decide +kernel⟩, by decide +kernel, by decide⟩
theorem xk_66 : xr_cdb xt_cp6 false xm_66 = true := by decide +kernel
set_option maxRecDepth 100000 in
theorem xo_66 (L : Nat) (xs : Nat → Int32) : (∀ (pc : Nat) (i : Instr) (n : Nat), xr_fetch (xr_cd xm_66) pc = some (i, n) → xr_ok (xt_T L xs) xt_GW xt_ST xt_AO xm_66 pc i n) ∧ xr_hok xt_GW xt_NC xm_66 := ⟨xr_cdb_s (T := xt_T L xs) (ST := xt_ST) (AO := xt_AO) (GW := xt_GW) (cp := xt_cp6) (ini := false) (M := xm_66) (xt_cp6_ok L xs) (fun h => Bool.noConfusion h) xt_arr xk_66, (fun _ h => absurd h List.not_mem_nil)⟩
theorem xl_66 : xr_cal xt_GW xm_66 := ⟨plainFor_of_name (by decide +kernel), (xt_in 11 rfl (List.mem_of_getElem? (i := 9) rfl)), (xt_in 1 rfl (List.mem_of_getElem? (i := 18) rfl)), ⟨by decide +kernel, by decide +kernel⟩, by decide +kernel, by decide⟩
theorem xk_67 : xr_cdb xt_cp6 false xm_67 = true := by decide +kernel
set_option maxRecDepth 100000 in
theorem xo_67 (L : Nat) (xs : Nat → Int32) : (∀ (pc : Nat) (i : Instr) (n : Nat), xr_fetch (xr_cd xm_67) pc = some (i, n) → xr_ok (xt_T L xs) xt_GW xt_ST xt_AO xm_67 pc i n) ∧ xr_hok xt_GW xt_NC xm_67 := ⟨xr_cdb_s (T := xt_T L xs) (ST := xt_ST) (AO := xt_AO) (GW := xt_GW) (cp := xt_cp6) (ini := false) (M := xm_67) (xt_cp6_ok L xs) (fun h => Bool.noConfusion h) xt_arr xk_67, (fun _ h => absurd h List.not_mem_nil)⟩
theorem xl_67 : xr_cal xt_GW xm_67 := ⟨plainFor_of_name (by decide +kernel), (xt_in 11 rfl (List.mem_of_getElem? (i := 12) rfl)), (xt_in 1 rfl (List.mem_of_getElem? (i := 18) rfl)), ⟨by decide +kernel, by decide +kernel⟩, by decide +kernel, by decide⟩
theorem xk_68_0 : ((xc_68.drop 0).take 40).all (fun q => xr_okb xt_cp6 false xm_68 q.1 q.2.1 q.2.2) = true := by decide +kernel
