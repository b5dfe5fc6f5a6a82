/-! methods that are checked -/
theorem xk_217_0 : ((xc_217.drop 0).take 40).all (fun q => xr_okb xt_cp10 false xm_217 q.1 q.2.1 q.2.2) = true := by decide +kernel
theorem xk_217_40 : ((xc_217.drop 40).take 40).all (fun q => xr_okb xt_cp10 false xm_217 q.1 q.2.1 q.2.2) = true := by decide +kernel
theorem xk_217_80 : ((xc_217.drop 80).take 40).all (fun q => xr_okb xt_cp10 false xm_217 q.1 q.2.1 q.2.2) = true := by decide +kernel
theorem xk_217 : xr_cdb xt_cp10 false xm_217 = true := (xr_chk _ 40 0 _ xk_217_0 (xr_chk _ 40 40 _ xk_217_40 (xr_chk _ 40 80 _ xk_217_80 (by decide +kernel))))
set_option maxRecDepth 100000 in
theorem xo_217 (L : Nat) (xs : Nat → Int32) : (∀ (pc : Nat) (i : Instr) (n : Nat), xr_fetch (xr_cd xm_217) pc = some (i, n) → xr_ok (xt_T L xs) xt_GW xt_ST xt_AO xm_217 pc i n) ∧ xr_hok xt_GW xt_NC xm_217 := ⟨xr_cdb_s (T := xt_T L xs) (ST := xt_ST) (AO := xt_AO) (GW := xt_GW) (cp := xt_cp10) (ini := false) (M := xm_217) (xt_cp10_ok L xs) (fun h => Bool.noConfusion h) xt_arr xk_217, (fun _ h => absurd h List.not_mem_nil)⟩
theorem xl_217 : xr_cal xt_GW xm_217 := ⟨plainFor_of_name (by decide +kernel), (xt_in 30 rfl (List.mem_of_getElem? (i := 28) rfl)), (xt_in 2 rfl (List.mem_of_getElem? (i := 37) rfl)), ⟨by decide +kernel, by decide +kernel⟩, by decide +kernel, by decide⟩
theorem xk_218 : xr_cdb xt_cp10 false xm_218 = true := by decide +kernel
set_option maxRecDepth 100000 in
theorem xo_218 (L : Nat) (xs : Nat → Int32) : (∀ (pc : Nat) (i : Instr) (n : Nat), xr_fetch (xr_cd xm_218) pc = some (i, n) → xr_ok (xt_T L xs) xt_GW xt_ST xt_AO xm_218 pc i n) ∧ xr_hok xt_GW xt_NC xm_218 := ⟨xr_cdb_s (T := xt_T L xs) (ST := xt_ST) (AO := xt_AO) (GW := xt_GW) (cp := xt_cp10) (ini := false) (M := xm_218) (xt_cp10_ok L xs) (fun h => Bool.noConfusion h) xt_arr xk_218, (fun _ h => absurd h List.not_mem_nil)⟩
theorem xl_218 : xr_cal xt_GW xm_218 := ⟨plainFor_of_name (by decide +kernel), (xt_in 30 rfl (List.mem_of_getElem? (i := 38) rfl)), (xt_in 2 rfl (List.mem_of_getElem? (i := 37) rfl)), ⟨by decide +kernel, by decide +kernel⟩, by decide +kernel, by decide⟩
theorem xk_219_0 : ((xc_219.drop 0).take 40).all (fun q => xr_okb xt_cp10 false xm_219 q.1 q.2.1 q.2.2) = true := by decide +kernel
theorem xk_219_40 : ((xc_219.drop 40).take 40).all (fun q => xr_okb xt_cp10 false xm_219 q.1 q.2.1 q.2.2) = true := by decide +kernel
theorem xk_219_80 : ((xc_219.drop 80).take 40).all (fun q => xr_okb xt_cp10 false xm_219 q.1 q.2.1 q.2.2) = true := by decide +kernel
theorem xk_219 : xr_cdb xt_cp10 false xm_219 = true := (xr_chk _ 40 0 _ xk_219_0 (xr_chk _ 40 40 _ xk_219_40 (xr_chk _ 40 80 _ xk_219_80 (by decide +kernel))))
set_option maxRecDepth 100000 in
theorem xo_219 (L : Nat) (xs : Nat → Int32) : (∀ (pc : Nat) (i : Instr) (n : Nat), xr_fetch (xr_cd xm_219) pc = some (i, n) → xr_ok (xt_T L xs) xt_GW xt_ST xt_AO xm_219 pc i n) ∧ xr_hok xt_GW xt_NC xm_219 := ⟨xr_cdb_s (T := xt_T L xs) (ST := xt_ST) (AO := xt_AO) (GW := xt_GW) (cp := xt_cp10) (ini := false) (M := xm_219) (xt_cp10_ok L xs) (fun h => Bool.noConfusion h) xt_arr xk_219, (fun _ h => absurd h List.not_mem_nil)⟩
theorem xl_219 : xr_cal xt_GW xm_219 := ⟨plainFor_of_name (by decide +kernel), (xt_in 30 rfl (List.mem_of_getElem? (i := 35) rfl)), (xt_in 2 rfl (List.mem_of_getElem? (i := 37) rfl)), ⟨by decide +kernel, by decide +kernel⟩, by decide +kernel, by decide⟩
theorem xk_220 : xr_cdb xt_cp10 false xm_220 = true := by decide +kernel
set_option maxRecDepth 100000 in
theorem xo_220 (L : Nat) (xs : Nat → Int32) : (∀ (pc : Nat) (i : Instr) (n : Nat), xr_fetch (xr_cd xm_220) pc = some (i, n) → xr_ok (xt_T L xs) xt_GW xt_ST xt_AO xm_220 pc i n) ∧ xr_hok xt_GW xt_NC xm_220 := ⟨xr_cdb_s (T := xt_T L xs) (ST := xt_ST) (AO := xt_AO) (GW := xt_GW) (cp := xt_cp10) (ini := false) (M := xm_220) (xt_cp10_ok L xs) (fun h => Bool.noConfusion h) xt_arr xk_220, (fun _ h => absurd h List.not_mem_nil)⟩
theorem xl_220 : xr_cal xt_GW xm_220 := ⟨plainFor_of_name (by decide +kernel), (xt_in 31 rfl (List.mem_of_getElem? (i := 2) rfl)), (xt_in 2 rfl (List.mem_of_getElem? (i := 37) rfl)), ⟨by decide +kernel, by decide +kernel⟩, by decide +kernel, by decide⟩
theorem xk_221 : xr_cdb xt_cp10 false xm_221 = true := by decide +kernel
set_option maxRecDepth 100000 in
theorem xo_221 (L : Nat) (xs : Nat → Int32) : (∀ (pc : Nat) (i : Instr) (n : Nat), xr_fetch (xr_cd xm_221) pc = some (i, n) → xr_ok (xt_T L xs) xt_GW xt_ST xt_AO xm_221 pc i n) ∧ xr_hok xt_GW xt_NC xm_221 := ⟨xr_cdb_s (T := xt_T L xs) (ST := xt_ST) (AO := xt_AO) (GW := xt_GW) (cp := xt_cp10) (ini := false) (M := xm_221) (xt_cp10_ok L xs) (fun h => Bool.noConfusion h) xt_arr xk_221, (fun _ h => absurd h List.not_mem_nil)⟩
theorem xl_221 : xr_cal xt_GW xm_221 := ⟨plainFor_of_name (by decide +kernel), (xt_in 31 rfl (List.mem_of_getElem? (i := 12) rfl)), (xt_in 2 rfl (List.mem_of_getElem? (i := 37) rfl)), ⟨by decide +kernel, by decide +kernel⟩, by decide +kernel, by decide⟩
theorem xk_222 : xr_cdb xt_cp10 false xm_222 = true := by decide +kernel
set_option maxRecDepth 100000 in
theorem xo_222 (L : Nat) (xs : Nat → Int32) : (∀ (pc : Nat) (i : Instr) (n : Nat), xr_fetch (xr_cd xm_222) pc = some (i, n) → xr_ok (xt_T L xs) xt_GW xt_ST xt_AO xm_222 pc i n) ∧ xr_hok xt_GW xt_NC xm_222 := ⟨xr_cdb_s (T := xt_T L xs) (ST := xt_ST) (AO := xt_AO) (GW := xt_GW) (cp := xt_cp10) (ini := false) (M := xm_222) (xt_cp10_ok L xs) (fun h => Bool.noConfusion h) xt_arr xk_222, (fun _ h => absurd h List.not_mem_nil)⟩
theorem xl_222 : xr_cal xt_GW xm_222 := ⟨plainFor_of_name (by decide +kernel), (xt_in 31 rfl (List.mem_of_getElem? (i := 9) rfl)), (xt_in 2 rfl (List.mem_of_getElem? (i := 37) rfl)), ⟨by decide +kernel, by decide +kernel⟩, by decide +kernel, by decide⟩
theorem xk_223 : xr_cdb xt_cp10 false xm_223 = true := by decide +kernel
set_option maxRecDepth 100000 in
theorem xo_223 (L : Nat) (xs : Nat → Int32) : (∀ (pc : Nat) (i : Instr) (n : Nat), xr_fetch (xr_cd xm_223) pc = some (i, n) → xr_ok (xt_T L xs) xt_GW xt_ST xt_AO xm_223 pc i n) ∧ xr_hok xt_GW xt_NC xm_223 := ⟨xr_cdb_s (T := xt_T L xs) (ST := xt_ST) (AO := xt_AO) (GW := xt_GW) (cp := xt_cp10) (ini := false) (M := xm_223) (xt_cp10_ok L xs) (fun h => Bool.noConfusion h) xt_arr xk_223, (fun _ h => absurd h List.not_mem_nil)⟩
theorem xl_223 : xr_cal xt_GW xm_223 := ⟨plainFor_of_name (by decide +kernel), (xt_in 31 rfl (List.mem_of_getElem? (i := 15) rfl)), (xt_in 2 rfl (List.mem_of_getElem? (i := 37) rfl)), ⟨by decide +kernel, by decide +kernel⟩, by decide +kernel, by decide⟩
theorem xk_224 : xr_cdb xt_cp10 false xm_224 = true := by decide +kernel
set_option maxRecDepth 100000 in
theorem xo_224 (L : Nat) (xs : Nat → Int32) : (∀ (pc : Nat) (i : Instr) (n : Nat), xr_fetch (xr_cd xm_224) pc = some (i, n) → xr_ok (xt_T L xs) xt_GW xt_ST xt_AO xm_224 pc i n) ∧ xr_hok xt_GW xt_NC xm_224 := ⟨xr_cdb_s (T := xt_T L xs) (ST := xt_ST) (AO := xt_AO) (GW := xt_GW) (cp := xt_cp10) (ini := false) (M := xm_224) (xt_cp10_ok L xs) (fun h => Bool.noConfusion h) xt_arr xk_224, (fun _ h => absurd h List.not_mem_nil)⟩
theorem xl_224 : xr_cal xt_GW xm_224 := ⟨plainFor_of_name (by decide +kernel), (xt_in 31 rfl (List.mem_of_getElem? (i := 6) rfl)), (xt_in 2 rfl (List.mem_of_getElem? (i := 37) rfl)), ⟨by decide +kernel, by decide +kernel⟩, by decide +kernel, by decide⟩
theorem xk_225 : xr_cdb xt_cp10 false xm_225 = true := by decide +kernel
set_option maxRecDepth 100000 in
theorem xo_225 (L : Nat) (xs : Nat → Int32) : (∀ (pc : Nat) (i : Instr) (n : Nat), xr_fetch (xr_cd xm_225) pc = some (i, n) → xr_ok (xt_T L xs) xt_GW xt_ST xt_AO xm_225 pc i n) ∧ xr_hok xt_GW xt_NC xm_225 := ⟨xr_cdb_s (T := xt_T L xs) (ST := xt_ST) (AO := xt_AO) (GW := xt_GW) (cp := xt_cp10) (ini := false) (M := xm_225) (xt_cp10_ok L xs) (fun h => Bool.noConfusion h) xt_arr xk_225, (fun _ h => absurd h List.not_mem_nil)⟩
theorem xl_225 : xr_cal xt_GW xm_225 := ⟨plainFor_of_name (by decide +kernel), (xt_in 31 rfl (List.mem_of_getElem? (i := 22) rfl)), (xt_in 2 rfl (List.mem_of_getElem? (i := 37) rfl)), ⟨by decide +kernel, by decide +kernel⟩, by decide +kernel, by decide⟩
