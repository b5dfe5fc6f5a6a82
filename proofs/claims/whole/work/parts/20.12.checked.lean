/-! methods that are checked -/
theorem xk_122 : xr_cdb xt_cp0 false xm_122 = true := by decide +kernel
set_option maxRecDepth 100000 in
theorem xo_122 (L : Nat) (xs : Nat → Int32) : (∀ (pc : Nat) (i : Instr) (n : Nat), xr_fetch (xr_cd xm_122) pc = some (i, n) → xr_ok (xt_T L xs) xt_GW xt_ST xt_AO xm_122 pc i n) ∧ xr_hok xt_GW xt_NC xm_122 := ⟨xr_cdb_s (T := xt_T L xs) (ST := xt_ST) (AO := xt_AO) (GW := xt_GW) (cp := xt_cp0) (ini := false) (M := xm_122) (xt_cp0_ok L xs) (fun h => Bool.noConfusion h) xt_arr xk_122, (fun _ h => absurd h List.not_mem_nil)⟩
theorem xl_122 : xr_cal xt_GW xm_122 := ⟨plainFor_of_name (by decide +kernel), (xt_in 18 rfl (List.mem_of_getElem? (i := 7) rfl)), (xt_in 2 rfl (List.mem_of_getElem? (i := 29) rfl)), ⟨by decide +kernel, by decide +kernel⟩, by decide +kernel, by decide⟩
theorem xk_123 : xr_cdb xt_cp0 false xm_123 = true := by decide +kernel
set_option maxRecDepth 100000 in
theorem xo_123 (L : Nat) (xs : Nat → Int32) : (∀ (pc : Nat) (i : Instr) (n : Nat), xr_fetch (xr_cd xm_123) pc = some (i, n) → xr_ok (xt_T L xs) xt_GW xt_ST xt_AO xm_123 pc i n) ∧ xr_hok xt_GW xt_NC xm_123 := ⟨xr_cdb_s (T := xt_T L xs) (ST := xt_ST) (AO := xt_AO) (GW := xt_GW) (cp := xt_cp0) (ini := false) (M := xm_123) (xt_cp0_ok L xs) (fun h => Bool.noConfusion h) xt_arr xk_123, (fun _ h => absurd h List.not_mem_nil)⟩
theorem xl_123 : xr_cal xt_GW xm_123 := ⟨plainFor_of_name (by decide +kernel), (xt_in 18 rfl (List.mem_of_getElem? (i := 19) rfl)), (xt_in 2 rfl (List.mem_of_getElem? (i := 29) rfl)), ⟨by decide +kernel, by decide +kernel⟩, by decide +kernel, by decide⟩
theorem xk_124 : xr_cdb xt_cp0 false xm_124 = true := by decide +kernel
set_option maxRecDepth 100000 in
theorem xo_124 (L : Nat) (xs : Nat → Int32) : (∀ (pc : Nat) (i : Instr) (n : Nat), xr_fetch (xr_cd xm_124) pc = some (i, n) → xr_ok (xt_T L xs) xt_GW xt_ST xt_AO xm_124 pc i n) ∧ xr_hok xt_GW xt_NC xm_124 := ⟨xr_cdb_s (T := xt_T L xs) (ST := xt_ST) (AO := xt_AO) (GW := xt_GW) (cp := xt_cp0) (ini := false) (M := xm_124) (xt_cp0_ok L xs) (fun h => Bool.noConfusion h) xt_arr xk_124, (fun _ h => absurd h List.not_mem_nil)⟩
theorem xl_124 : xr_cal xt_GW xm_124 := ⟨plainFor_of_name (by decide +kernel), (xt_in 20 rfl (List.mem_of_getElem? (i := 9) rfl)), (xt_in 2 rfl (List.mem_of_getElem? (i := 29) rfl)), ⟨by decide +kernel, by decide +kernel⟩, by decide +kernel, by decide⟩
theorem xk_125 : xr_cdb xt_cp0 false xm_125 = true := by decide +kernel
set_option maxRecDepth 100000 in
theorem xo_125 (L : Nat) (xs : Nat → Int32) : (∀ (pc : Nat) (i : Instr) (n : Nat), xr_fetch (xr_cd xm_125) pc = some (i, n) → xr_ok (xt_T L xs) xt_GW xt_ST xt_AO xm_125 pc i n) ∧ xr_hok xt_GW xt_NC xm_125 := ⟨xr_cdb_s (T := xt_T L xs) (ST := xt_ST) (AO := xt_AO) (GW := xt_GW) (cp := xt_cp0) (ini := false) (M := xm_125) (xt_cp0_ok L xs) (fun h => Bool.noConfusion h) xt_arr xk_125, (fun _ h => absurd h List.not_mem_nil)⟩
theorem xl_125 : xr_cal xt_GW xm_125 := ⟨plainFor_of_name (by decide +kernel), (xt_in 21 rfl (List.mem_of_getElem? (i := 7) rfl)), (xt_in 2 rfl (List.mem_of_getElem? (i := 29) rfl)), ⟨by decide +kernel, by decide +kernel⟩, by decide +kernel, by decide⟩
theorem xk_126_0 : ((xc_126.drop 0).take 40).all (fun q => xr_okb xt_cp0 false xm_126 q.1 q.2.1 q.2.2) = true := by decide +kernel
theorem xk_126_40 : ((xc_126.drop 40).take 40).all (fun q => xr_okb xt_cp0 false xm_126 q.1 q.2.1 q.2.2) = true := by decide +kernel
theorem xk_126 : xr_cdb xt_cp0 false xm_126 = true := (xr_chk _ 40 0 _ xk_126_0 (xr_chk _ 40 40 _ xk_126_40 (by decide +kernel)))
set_option maxRecDepth 100000 in
theorem xo_126 (L : Nat) (xs : Nat → Int32) : (∀ (pc : Nat) (i : Instr) (n : Nat), xr_fetch (xr_cd xm_126) pc = some (i, n) → xr_ok (xt_T L xs) xt_GW xt_ST xt_AO xm_126 pc i n) ∧ xr_hok xt_GW xt_NC xm_126 := ⟨xr_cdb_s (T := xt_T L xs) (ST := xt_ST) (AO := xt_AO) (GW := xt_GW) (cp := xt_cp0) (ini := false) (M := xm_126) (xt_cp0_ok L xs) (fun h => Bool.noConfusion h) xt_arr xk_126, (fun _ h => absurd h List.not_mem_nil)⟩
theorem xl_126 : xr_cal xt_GW xm_126 := ⟨plainFor_of_name (by decide +kernel), (xt_in 21 rfl (List.mem_of_getElem? (i := 23) rfl)), (xt_in 2 rfl (List.mem_of_getElem? (i := 29) rfl)), ⟨by decide +kernel, by decide +kernel⟩, by decide +kernel, by decide⟩
theorem xk_127 : xr_cdb xt_cp0 false xm_127 = true := by decide +kernel
set_option maxRecDepth 100000 in
theorem xo_127 (L : Nat) (xs : Nat → Int32) : (∀ (pc : Nat) (i : Instr) (n : Nat), xr_fetch (xr_cd xm_127) pc = some (i, n) → xr_ok (xt_T L xs) xt_GW xt_ST xt_AO xm_127 pc i n) ∧ xr_hok xt_GW xt_NC xm_127 := ⟨xr_cdb_s (T := xt_T L xs) (ST := xt_ST) (AO := xt_AO) (GW := xt_GW) (cp := xt_cp0) (ini := false) (M := xm_127) (xt_cp0_ok L xs) (fun h => Bool.noConfusion h) xt_arr xk_127, (fun _ h => absurd h List.not_mem_nil)⟩
theorem xl_127 : xr_cal xt_GW xm_127 := ⟨plainFor_of_name (by decide +kernel), (xt_in 22 rfl (List.mem_of_getElem? (i := 0) rfl)), (xt_in 2 rfl (List.mem_of_getElem? (i := 29) rfl)), ⟨by decide +kernel, by decide +kernel⟩, by decide +kernel, by decide⟩
theorem xk_128 : xr_cdb xt_cp0 false xm_128 = true := by decide +kernel
set_option maxRecDepth 100000 in
theorem xo_128 (L : Nat) (xs : Nat → Int32) : (∀ (pc : Nat) (i : Instr) (n : Nat), xr_fetch (xr_cd xm_128) pc = some (i, n) → xr_ok (xt_T L xs) xt_GW xt_ST xt_AO xm_128 pc i n) ∧ xr_hok xt_GW xt_NC xm_128 := ⟨xr_cdb_s (T := xt_T L xs) (ST := xt_ST) (AO := xt_AO) (GW := xt_GW) (cp := xt_cp0) (ini := false) (M := xm_128) (xt_cp0_ok L xs) (fun h => Bool.noConfusion h) xt_arr xk_128, (fun _ h => absurd h List.not_mem_nil)⟩
theorem xl_128 : xr_cal xt_GW xm_128 := ⟨plainFor_of_name (by decide +kernel), (xt_in 22 rfl (List.mem_of_getElem? (i := 7) rfl)), (xt_in 2 rfl (List.mem_of_getElem? (i := 29) rfl)), ⟨by decide +kernel, by decide +kernel⟩, by decide +kernel, by decide⟩
theorem xk_129 : xr_cdb xt_cp0 false xm_129 = true := by decide +kernel
set_option maxRecDepth 100000 in
theorem xo_129 (L : Nat) (xs : Nat → Int32) : (∀ (pc : Nat) (i : Instr) (n : Nat), xr_fetch (xr_cd xm_129) pc = some (i, n) → xr_ok (xt_T L xs) xt_GW xt_ST xt_AO xm_129 pc i n) ∧ xr_hok xt_GW xt_NC xm_129 := ⟨xr_cdb_s (T := xt_T L xs) (ST := xt_ST) (AO := xt_AO) (GW := xt_GW) (cp := xt_cp0) (ini := false) (M := xm_129) (xt_cp0_ok L xs) (fun h => Bool.noConfusion h) xt_arr xk_129, (fun _ h => absurd h List.not_mem_nil)⟩
theorem xl_129 : xr_cal xt_GW xm_129 := ⟨plainFor_of_name (by decide +kernel), (xt_in 22 rfl (List.mem_of_getElem? (i := 21) rfl)), (xt_in 2 rfl (List.mem_of_getElem? (i := 29) rfl)), ⟨by decide +kernel, by decide +kernel⟩, by decide +kernel, by decide⟩
theorem xk_130 : xr_cdb xt_cp0 false xm_130 = true := by decide +kernel
set_option maxRecDepth 100000 in
theorem xo_130 (L : Nat) (xs : Nat → Int32) : (∀ (pc : Nat) (i : Instr) (n : Nat), xr_fetch (xr_cd xm_130) pc = some (i, n) → xr_ok (xt_T L xs) xt_GW xt_ST xt_AO xm_130 pc i n) ∧ xr_hok xt_GW xt_NC xm_130 := ⟨xr_cdb_s (T := xt_T L xs) (ST := xt_ST) (AO := xt_AO) (GW := xt_GW) (cp := xt_cp0) (ini := false) (M := xm_130) (xt_cp0_ok L xs) (fun h => Bool.noConfusion h) xt_arr xk_130, (fun _ h => absurd h List.not_mem_nil)⟩
theorem xl_130 : xr_cal xt_GW xm_130 := ⟨plainFor_of_name (by decide +kernel), (xt_in 11 rfl (List.mem_of_getElem? (i := 19) rfl)), (xt_in 2 rfl (List.mem_of_getElem? (i := 29) rfl)), ⟨by decide +kernel, by decide +kernel⟩, by decide +kernel, by decide⟩
theorem xk_131 : xr_cdb xt_cp0 false xm_131 = true := by decide +kernel
set_option maxRecDepth 100000 in
theorem xo_131 (L : Nat) (xs : Nat → Int32) : (∀ (pc : Nat) (i : Instr) (n : Nat), xr_fetch (xr_cd xm_131) pc = some (i, n) → xr_ok (xt_T L xs) xt_GW xt_ST xt_AO xm_131 pc i n) ∧ xr_hok xt_GW xt_NC xm_131 := ⟨xr_cdb_s (T := xt_T L xs) (ST := xt_ST) (AO := xt_AO) (GW := xt_GW) (cp := xt_cp0) (ini := false) (M := xm_131) (xt_cp0_ok L xs) (fun h => Bool.noConfusion h) xt_arr xk_131, (fun _ h => absurd h List.not_mem_nil)⟩
theorem xl_131 : xr_cal xt_GW xm_131 := ⟨plainFor_of_name (by decide +kernel), (xt_in 11 rfl (List.mem_of_getElem? (i := 3) rfl)), (xt_in 2 rfl (List.mem_of_getElem? (i := 29) rfl)), ⟨by decide +kernel, by decide +kernel⟩, by decide +kernel, by decide⟩
theorem xk_132 : xr_cdb xt_cp0 false xm_132 = true := by decide +kernel
set_option maxRecDepth 100000 in
theorem xo_132 (L : Nat) (xs : Nat → Int32) : (∀ (pc : Nat) (i : Instr) (n : Nat), xr_fetch (xr_cd xm_132) pc = some (i, n) → xr_ok (xt_T L xs) xt_GW xt_ST xt_AO xm_132 pc i n) ∧ xr_hok xt_GW xt_NC xm_132 := ⟨xr_cdb_s (T := xt_T L xs) (ST := xt_ST) (AO := xt_AO) (GW := xt_GW) (cp := xt_cp0) (ini := false) (M := xm_132) (xt_cp0_ok L xs) (fun h => Bool.noConfusion h) xt_arr xk_132, (fun _ h => absurd h List.not_mem_nil)⟩
theorem xl_132 : xr_cal xt_GW xm_132 := ⟨plainFor_of_name (by decide +kernel), (xt_in 9 rfl (List.mem_of_getElem? (i := 12) rfl)), (xt_in 2 rfl (List.mem_of_getElem? (i := 29) rfl)), ⟨by decide +kernel, by decide +kernel⟩, by decide +kernel, by decide⟩
