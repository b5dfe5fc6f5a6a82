/-! methods that are checked -/
theorem xk_68_40 : ((xc_68.drop 40).take 40).all (fun q => xr_okb xt_cp6 false xm_68 q.1 q.2.1 q.2.2) = true := by decide +kernel
theorem xk_68_80 : ((xc_68.drop 80).take 40).all (fun q => xr_okb xt_cp6 false xm_68 q.1 q.2.1 q.2.2) = true := by decide +kernel
theorem xk_68 : xr_cdb xt_cp6 false xm_68 = true := (xr_chk _ 40 0 _ xk_68_0 (xr_chk _ 40 40 _ xk_68_40 (xr_chk _ 40 80 _ xk_68_80 (by decide +kernel))))
set_option maxRecDepth 100000 in
theorem xo_68 (L : Nat) (xs : Nat → Int32) : (∀ (pc : Nat) (i : Instr) (n : Nat), xr_fetch (xr_cd xm_68) pc = some (i, n) → xr_ok (xt_T L xs) xt_GW xt_ST xt_AO xm_68 pc i n) ∧ xr_hok xt_GW xt_NC xm_68 := ⟨xr_cdb_s (T := xt_T L xs) (ST := xt_ST) (AO := xt_AO) (GW := xt_GW) (cp := xt_cp6) (ini := false) (M := xm_68) (xt_cp6_ok L xs) (fun h => Bool.noConfusion h) xt_arr xk_68, (fun _ h => absurd h List.not_mem_nil)⟩
theorem xl_68 : xr_cal xt_GW xm_68 := ⟨plainFor_of_name (by decide +kernel), (xt_in 11 rfl (List.mem_of_getElem? (i := 15) rfl)), (xt_in 1 rfl (List.mem_of_getElem? (i := 18) rfl)), ⟨by decide +kernel, by decide +kernel⟩, by decide +kernel, by decide⟩
theorem xk_69 : xr_cdb xt_cp6 false xm_69 = true := by decide +kernel
set_option maxRecDepth 100000 in
theorem xo_69 (L : Nat) (xs : Nat → Int32) : (∀ (pc : Nat) (i : Instr) (n : Nat), xr_fetch (xr_cd xm_69) pc = some (i, n) → xr_ok (xt_T L xs) xt_GW xt_ST xt_AO xm_69 pc i n) ∧ xr_hok xt_GW xt_NC xm_69 := ⟨xr_cdb_s (T := xt_T L xs) (ST := xt_ST) (AO := xt_AO) (GW := xt_GW) (cp := xt_cp6) (ini := false) (M := xm_69) (xt_cp6_ok L xs) (fun h => Bool.noConfusion h) xt_arr xk_69, (fun _ h => absurd h List.not_mem_nil)⟩
theorem xl_69 : xr_cal xt_GW xm_69 := ⟨plainFor_of_name (by decide +kernel), (xt_in 11 rfl (List.mem_of_getElem? (i := 36) rfl)), (xt_in 1 rfl (List.mem_of_getElem? (i := 18) rfl)), ⟨by decide +kernel, by decide +kernel⟩, by decide +kernel, by decide⟩
theorem xk_70 : xr_cdb xt_cp6 false xm_70 = true := by decide +kernel
set_option maxRecDepth 100000 in
theorem xo_70 (L : Nat) (xs : Nat → Int32) : (∀ (pc : Nat) (i : Instr) (n : Nat), xr_fetch (xr_cd xm_70) pc = some (i, n) → xr_ok (xt_T L xs) xt_GW xt_ST xt_AO xm_70 pc i n) ∧ xr_hok xt_GW xt_NC xm_70 := ⟨xr_cdb_s (T := xt_T L xs) (ST := xt_ST) (AO := xt_AO) (GW := xt_GW) (cp := xt_cp6) (ini := false) (M := xm_70) (xt_cp6_ok L xs) (fun h => Bool.noConfusion h) xt_arr xk_70, (fun _ h => absurd h List.not_mem_nil)⟩
theorem xl_70 : xr_cal xt_GW xm_70 := ⟨plainFor_of_name (by decide +kernel), (xt_in 11 rfl (List.mem_of_getElem? (i := 29) rfl)), (xt_in 1 rfl (List.mem_of_getElem? (i := 18) rfl)), ⟨by decide +kernel, by decide +kernel⟩, by decide +kernel, by decide⟩
theorem xk_71_0 : ((xc_71.drop 0).take 40).all (fun q => xr_okb xt_cp6 false xm_71 q.1 q.2.1 q.2.2) = true := by decide +kernel
theorem xk_71_40 : ((xc_71.drop 40).take 40).all (fun q => xr_okb xt_cp6 false xm_71 q.1 q.2.1 q.2.2) = true := by decide +kernel
theorem xk_71 : xr_cdb xt_cp6 false xm_71 = true := (xr_chk _ 40 0 _ xk_71_0 (xr_chk _ 40 40 _ xk_71_40 (by decide +kernel)))
set_option maxRecDepth 100000 in
theorem xo_71 (L : Nat) (xs : Nat → Int32) : (∀ (pc : Nat) (i : Instr) (n : Nat), xr_fetch (xr_cd xm_71) pc = some (i, n) → xr_ok (xt_T L xs) xt_GW xt_ST xt_AO xm_71 pc i n) ∧ xr_hok xt_GW xt_NC xm_71 := ⟨xr_cdb_s (T := xt_T L xs) (ST := xt_ST) (AO := xt_AO) (GW := xt_GW) (cp := xt_cp6) (ini := false) (M := xm_71) (xt_cp6_ok L xs) (fun h => Bool.noConfusion h) xt_arr xk_71, (fun _ h => absurd h List.not_mem_nil)⟩
theorem xl_71 : xr_cal xt_GW xm_71 := ⟨plainFor_of_name (by decide +kernel), (xt_in 11 rfl (List.mem_of_getElem? (i := 32) rfl)), (xt_in 1 rfl (List.mem_of_getElem? (i := 18) rfl)), ⟨by decide +kernel, by decide +kernel⟩, by decide +kernel, by decide⟩
theorem xk_72_0 : ((xc_72.drop 0).take 40).all (fun q => xr_okb xt_cp6 false xm_72 q.1 q.2.1 q.2.2) = true := by decide +kernel
theorem xk_72_40 : ((xc_72.drop 40).take 40).all (fun q => xr_okb xt_cp6 false xm_72 q.1 q.2.1 q.2.2) = true := by decide +kernel
theorem xk_72 : xr_cdb xt_cp6 false xm_72 = true := (xr_chk _ 40 0 _ xk_72_0 (xr_chk _ 40 40 _ xk_72_40 (by decide +kernel)))
set_option maxRecDepth 100000 in
theorem xo_72 (L : Nat) (xs : Nat → Int32) : (∀ (pc : Nat) (i : Instr) (n : Nat), xr_fetch (xr_cd xm_72) pc = some (i, n) → xr_ok (xt_T L xs) xt_GW xt_ST xt_AO xm_72 pc i n) ∧ xr_hok xt_GW xt_NC xm_72 := ⟨xr_cdb_s (T := xt_T L xs) (ST := xt_ST) (AO := xt_AO) (GW := xt_GW) (cp := xt_cp6) (ini := false) (M := xm_72) (xt_cp6_ok L xs) (fun h => Bool.noConfusion h) xt_arr xk_72, (fun _ h => absurd h List.not_mem_nil)⟩
theorem xl_72 : xr_cal xt_GW xm_72 := ⟨plainFor_of_name (by decide +kernel), (xt_in 11 rfl (List.mem_of_getElem? (i := 18) rfl)), (xt_in 1 rfl (List.mem_of_getElem? (i := 18) rfl)), ⟨by decide +kernel, by decide +kernel⟩, by decide +kernel, by decide⟩
theorem xk_73_0 : ((xc_73.drop 0).take 40).all (fun q => xr_okb xt_cp6 false xm_73 q.1 q.2.1 q.2.2) = true := by decide +kernel
theorem xk_73_40 : ((xc_73.drop 40).take 40).all (fun q => xr_okb xt_cp6 false xm_73 q.1 q.2.1 q.2.2) = true := by decide +kernel
theorem xk_73 : xr_cdb xt_cp6 false xm_73 = true := (xr_chk _ 40 0 _ xk_73_0 (xr_chk _ 40 40 _ xk_73_40 (by decide +kernel)))
set_option maxRecDepth 100000 in
theorem xo_73 (L : Nat) (xs : Nat → Int32) : (∀ (pc : Nat) (i : Instr) (n : Nat), xr_fetch (xr_cd xm_73) pc = some (i, n) → xr_ok (xt_T L xs) xt_GW xt_ST xt_AO xm_73 pc i n) ∧ xr_hok xt_GW xt_NC xm_73 := ⟨xr_cdb_s (T := xt_T L xs) (ST := xt_ST) (AO := xt_AO) (GW := xt_GW) (cp := xt_cp6) (ini := false) (M := xm_73) (xt_cp6_ok L xs) (fun h => Bool.noConfusion h) xt_arr xk_73, (fun _ h => absurd h List.not_mem_nil)⟩
theorem xl_73 : xr_cal xt_GW xm_73 := ⟨plainFor_of_name (by decide +kernel), (xt_in 12 rfl (List.mem_of_getElem? (i := 29) rfl)), (xt_in 1 rfl (List.mem_of_getElem? (i := 18) rfl)), ⟨by decide +kernel, by decide +kernel⟩, by decide +kernel, by decide⟩
theorem xk_74 : xr_cdb xt_cp6 false xm_74 = true := by decide +kernel
set_option maxRecDepth 100000 in
theorem xo_74 (L : Nat) (xs : Nat → Int32) : (∀ (pc : Nat) (i : Instr) (n : Nat), xr_fetch (xr_cd xm_74) pc = some (i, n) → xr_ok (xt_T L xs) xt_GW xt_ST xt_AO xm_74 pc i n) ∧ xr_hok xt_GW xt_NC xm_74 := ⟨xr_cdb_s (T := xt_T L xs) (ST := xt_ST) (AO := xt_AO) (GW := xt_GW) (cp := xt_cp6) (ini := false) (M := xm_74) (xt_cp6_ok L xs) (fun h => Bool.noConfusion h) xt_arr xk_74, (fun _ h => absurd h List.not_mem_nil)⟩
theorem xl_74 : xr_cal xt_GW xm_74 := ⟨plainFor_of_name (by decide +kernel), (xt_in 12 rfl (List.mem_of_getElem? (i := 32) rfl)), (xt_in 1 rfl (List.mem_of_getElem? (i := 18) rfl)), ⟨by decide +kernel, by decide +kernel⟩, by decide +kernel, by decide⟩
theorem xk_75 : xr_cdb xt_cp6 false xm_75 = true := by decide +kernel
set_option maxRecDepth 100000 in
theorem xo_75 (L : Nat) (xs : Nat → Int32) : (∀ (pc : Nat) (i : Instr) (n : Nat), xr_fetch (xr_cd xm_75) pc = some (i, n) → xr_ok (xt_T L xs) xt_GW xt_ST xt_AO xm_75 pc i n) ∧ xr_hok xt_GW xt_NC xm_75 := ⟨xr_cdb_s (T := xt_T L xs) (ST := xt_ST) (AO := xt_AO) (GW := xt_GW) (cp := xt_cp6) (ini := false) (M := xm_75) (xt_cp6_ok L xs) (fun h => Bool.noConfusion h) xt_arr xk_75, (fun _ h => absurd h List.not_mem_nil)⟩
theorem xl_75 : xr_cal xt_GW xm_75 := ⟨plainFor_of_name (by decide +kernel), (xt_in 12 rfl (List.mem_of_getElem? (i := 23) rfl)), (xt_in 1 rfl (List.mem_of_getElem? (i := 18) rfl)), ⟨by decide +kernel, by decide +kernel⟩, by decide +kernel, by decide⟩
theorem xk_76 : xr_cdb xt_cp6 false xm_76 = true := by decide +kernel
set_option maxRecDepth 100000 in
theorem xo_76 (L : Nat) (xs : Nat → Int32) : (∀ (pc : Nat) (i : Instr) (n : Nat), xr_fetch (xr_cd xm_76) pc = some (i, n) → xr_ok (xt_T L xs) xt_GW xt_ST xt_AO xm_76 pc i n) ∧ xr_hok xt_GW xt_NC xm_76 := ⟨xr_cdb_s (T := xt_T L xs) (ST := xt_ST) (AO := xt_AO) (GW := xt_GW) (cp := xt_cp6) (ini := false) (M := xm_76) (xt_cp6_ok L xs) (fun h => Bool.noConfusion h) xt_arr xk_76, (fun _ h => absurd h List.not_mem_nil)⟩
theorem xl_76 : xr_cal xt_GW xm_76 := ⟨plainFor_of_name (by decide +kernel), (xt_in 14 rfl (List.mem_of_getElem? (i := 9) rfl)), (xt_in 1 rfl (List.mem_of_getElem? (i := 18) rfl)), ⟨by decide +kernel, by decide +kernel⟩, by decide +kernel, by decide⟩
