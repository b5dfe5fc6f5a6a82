/-! methods that are checked -/
theorem xk_121 : xr_cdb xt_cp0 false xm_121 = true := by decide +kernel
set_option maxRecDepth 100000 in
theorem xo_121 (L : Nat) (xs : Nat → Int32) : (∀ (pc : Nat) (i : Instr) (n : Nat), xr_fetch (xr_cd xm_121) pc = some (i, n) → xr_ok (xt_T L xs) xt_GW xt_ST xt_AO xm_121 pc i n) ∧ xr_hok xt_GW xt_NC xm_121 := ⟨xr_cdb_s (T := xt_T L xs) (ST := xt_ST) (AO := xt_AO) (GW := xt_GW) (cp := xt_cp0) (ini := false) (M := xm_121) (xt_cp0_ok L xs) (fun h => Bool.noConfusion h) xt_arr xk_121, (fun _ h => absurd h List.not_mem_nil)⟩
theorem xl_121 : xr_cal xt_GW xm_121 := ⟨plainFor_of_name (by decide +kernel), (xt_in 18 rfl (List.mem_of_getElem? (i := 39) rfl)), (xt_in 1 rfl (List.mem_of_getElem? (i := 14) rfl)), ⟨by decide +kernel, by decide +kernel⟩, by decide +kernel, by decide⟩
theorem xk_122 : xr_cdb xt_cp0 false xm_122 = true := by decide +kernel
set_option maxRecDepth 100000 in
theorem xo_122 (L : Nat) (xs : Nat → Int32) : (∀ (pc : Nat) (i : Instr) (n : Nat), xr_fetch (xr_cd xm_122) pc = some (i, n) → xr_ok (xt_T L xs) xt_GW xt_ST xt_AO xm_122 pc i n) ∧ xr_hok xt_GW xt_NC xm_122 := ⟨xr_cdb_s (T := xt_T L xs) (ST := xt_ST) (AO := xt_AO) (GW := xt_GW) (cp := xt_cp0) (ini := false) (M := xm_122) (xt_cp0_ok L xs) (fun h => Bool.noConfusion h) xt_arr xk_122, (fun _ h => absurd h List.not_mem_nil)⟩
theorem xl_122 : xr_cal xt_GW xm_122 := ⟨plainFor_of_name (by decide +kernel), (xt_in 19 rfl (List.mem_of_getElem? (i := 3) rfl)), (xt_in 1 rfl (List.mem_of_getElem? (i := 14) rfl)), ⟨by decide +kernel, by decide +kernel⟩, by decide +kernel, by decide⟩
theorem xk_123 : xr_cdb xt_cp0 false xm_123 = true := by decide +kernel
set_option maxRecDepth 100000 in
theorem xo_123 (L : Nat) (xs : Nat → Int32) : (∀ (pc : Nat) (i : Instr) (n : Nat), xr_fetch (xr_cd xm_123) pc = some (i, n) → xr_ok (xt_T L xs) xt_GW xt_ST xt_AO xm_123 pc i n) ∧ xr_hok xt_GW xt_NC xm_123 := ⟨xr_cdb_s (T := xt_T L xs) (ST := xt_ST) (AO := xt_AO) (GW := xt_GW) (cp := xt_cp0) (ini := false) (M := xm_123) (xt_cp0_ok L xs) (fun h => Bool.noConfusion h) xt_arr xk_123, (fun _ h => absurd h List.not_mem_nil)⟩
theorem xl_123 : xr_cal xt_GW xm_123 := ⟨plainFor_of_name (by decide +kernel), (xt_in 16 rfl (List.mem_of_getElem? (i := 17) rfl)), (xt_in 1 rfl (List.mem_of_getElem? (i := 14) rfl)), ⟨by decide +kernel, by decide +kernel⟩, by decide +kernel, by decide⟩
theorem xk_124 : xr_cdb xt_cp0 false xm_124 = true := by decide +kernel
set_option maxRecDepth 100000 in
theorem xo_124 (L : Nat) (xs : Nat → Int32) : (∀ (pc : Nat) (i : Instr) (n : Nat), xr_fetch (xr_cd xm_124) pc = some (i, n) → xr_ok (xt_T L xs) xt_GW xt_ST xt_AO xm_124 pc i n) ∧ xr_hok xt_GW xt_NC xm_124 := ⟨xr_cdb_s (T := xt_T L xs) (ST := xt_ST) (AO := xt_AO) (GW := xt_GW) (cp := xt_cp0) (ini := false) (M := xm_124) (xt_cp0_ok L xs) (fun h => Bool.noConfusion h) xt_arr xk_124, (fun _ h => absurd h List.not_mem_nil)⟩
theorem xl_124 : xr_cal xt_GW xm_124 := ⟨plainFor_of_name (by decide +kernel), (xt_in 10 rfl (List.mem_of_getElem? (i := 20) rfl)), (xt_in 1 rfl (List.mem_of_getElem? (i := 14) rfl)), ⟨by decide +kernel, by decide +kernel⟩, by decide +kernel, by decide⟩
theorem xk_125 : xr_cdb xt_cp0 false xm_125 = true := by decide +kernel
set_option maxRecDepth 100000 in
theorem xo_125 (L : Nat) (xs : Nat → Int32) : (∀ (pc : Nat) (i : Instr) (n : Nat), xr_fetch (xr_cd xm_125) pc = some (i, n) → xr_ok (xt_T L xs) xt_GW xt_ST xt_AO xm_125 pc i n) ∧ xr_hok xt_GW xt_NC xm_125 := ⟨xr_cdb_s (T := xt_T L xs) (ST := xt_ST) (AO := xt_AO) (GW := xt_GW) (cp := xt_cp0) (ini := false) (M := xm_125) (xt_cp0_ok L xs) (fun h => Bool.noConfusion h) xt_arr xk_125, (fun _ h => absurd h List.not_mem_nil)⟩
theorem xl_125 : xr_cal xt_GW xm_125 := ⟨plainFor_of_name (by decide +kernel), (xt_in 15 rfl (List.mem_of_getElem? (i := 30) rfl)), (xt_in 1 rfl (List.mem_of_getElem? (i := 14) rfl)), ⟨by decide +kernel, by decide +kernel⟩, by decide +kernel, by decide⟩
theorem xk_126_0 : ((xc_126.drop 0).take 40).all (fun q => xr_okb xt_cp0 false xm_126 q.1 q.2.1 q.2.2) = true := by decide +kernel
theorem xk_126_40 : ((xc_126.drop 40).take 40).all (fun q => xr_okb xt_cp0 false xm_126 q.1 q.2.1 q.2.2) = true := by decide +kernel
theorem xk_126 : xr_cdb xt_cp0 false xm_126 = true := (xr_chk _ 40 0 _ xk_126_0 (xr_chk _ 40 40 _ xk_126_40 (by decide +kernel)))
set_option maxRecDepth 100000 in
theorem xo_126 (L : Nat) (xs : Nat → Int32) : (∀ (pc : Nat) (i : Instr) (n : Nat), xr_fetch (xr_cd xm_126) pc = some (i, n) → xr_ok (xt_T L xs) xt_GW xt_ST xt_AO xm_126 pc i n) ∧ xr_hok xt_GW xt_NC xm_126 := ⟨xr_cdb_s (T := xt_T L xs) (ST := xt_ST) (AO := xt_AO) (GW := xt_GW) (cp := xt_cp0) (ini := false) (M := xm_126) (xt_cp0_ok L xs) (fun h => Bool.noConfusion h) xt_arr xk_126, (fun _ h => absurd h List.not_mem_nil)⟩
theorem xl_126 : xr_cal xt_GW xm_126 := ⟨plainFor_of_name (by decide +kernel), (xt_in 16 rfl (List.mem_of_getElem? (i := 3) rfl)), (xt_in 1 rfl (List.mem_of_getElem? (i := 14) rfl)), ⟨by decide +kernel, by decide +kernel⟩, by decide +kernel, by decide⟩
theorem xk_127 : xr_cdb xt_cp0 false xm_127 = true := by decide +kernel
set_option maxRecDepth 100000 in
theorem xo_127 (L : Nat) (xs : Nat → Int32) : (∀ (pc : Nat) (i : Instr) (n : Nat), xr_fetch (xr_cd xm_127) pc = some (i, n) → xr_ok (xt_T L xs) xt_GW xt_ST xt_AO xm_127 pc i n) ∧ xr_hok xt_GW xt_NC xm_127 := ⟨xr_cdb_s (T := xt_T L xs) (ST := xt_ST) (AO := xt_AO) (GW := xt_GW) (cp := xt_cp0) (ini := false) (M := xm_127) (xt_cp0_ok L xs) (fun h => Bool.noConfusion h) xt_arr xk_127, (fun _ h => absurd h List.not_mem_nil)⟩
theorem xl_127 : xr_cal xt_GW xm_127 := ⟨plainFor_of_name (by decide +kernel), (xt_in 16 rfl (List.mem_of_getElem? (i := 31) rfl)), (xt_in 1 rfl (List.mem_of_getElem? (i := 14) rfl)), ⟨by decide +kernel, by decide +kernel⟩, by decide +kernel, by decide⟩
theorem xk_128 : xr_cdb xt_cp9 false xm_128 = true := by decide +kernel
set_option maxRecDepth 100000 in
theorem xo_128 (L : Nat) (xs : Nat → Int32) : (∀ (pc : Nat) (i : Instr) (n : Nat), xr_fetch (xr_cd xm_128) pc = some (i, n) → xr_ok (xt_T L xs) xt_GW xt_ST xt_AO xm_128 pc i n) ∧ xr_hok xt_GW xt_NC xm_128 := ⟨xr_cdb_s (T := xt_T L xs) (ST := xt_ST) (AO := xt_AO) (GW := xt_GW) (cp := xt_cp9) (ini := false) (M := xm_128) (xt_cp9_ok L xs) (fun h => Bool.noConfusion h) xt_arr xk_128, (fun _ h => absurd h List.not_mem_nil)⟩
theorem xl_128 : xr_cal xt_GW xm_128 := ⟨plainFor_of_name (by decide +kernel), (xt_in 18 rfl (List.mem_of_getElem? (i := 2) rfl)), (xt_in 1 rfl (List.mem_of_getElem? (i := 13) rfl)), ⟨by decide +kernel, by decide +kernel⟩, by decide +kernel, by decide⟩
theorem xk_129_0 : ((xc_129.drop 0).take 40).all (fun q => xr_okb xt_cp9 false xm_129 q.1 q.2.1 q.2.2) = true := by decide +kernel
theorem xk_129_40 : ((xc_129.drop 40).take 40).all (fun q => xr_okb xt_cp9 false xm_129 q.1 q.2.1 q.2.2) = true := by decide +kernel
