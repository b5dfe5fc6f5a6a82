/-! methods that are checked -/
theorem xk_133 : xr_cdb xt_cp0 false xm_133 = true := by decide +kernel
set_option maxRecDepth 100000 in
theorem xo_133 (L : Nat) (xs : Nat → Int32) : (∀ (pc : Nat) (i : Instr) (n : Nat), xr_fetch (xr_cd xm_133) pc = some (i, n) → xr_ok (xt_T L xs) xt_GW xt_ST xt_AO xm_133 pc i n) ∧ xr_hok xt_GW xt_NC xm_133 := ⟨xr_cdb_s (T := xt_T L xs) (ST := xt_ST) (AO := xt_AO) (GW := xt_GW) (cp := xt_cp0) (ini := false) (M := xm_133) (xt_cp0_ok L xs) (fun h => Bool.noConfusion h) xt_arr xk_133, (fun _ h => absurd h List.not_mem_nil)⟩
theorem xl_133 : xr_cal xt_GW xm_133 := ⟨plainFor_of_name (by decide +kernel), (xt_in 10 rfl (List.mem_of_getElem? (i := 26) rfl)), (xt_in 1 rfl (List.mem_of_getElem? (i := 14) rfl)), ⟨by decide +kernel, by decide +kernel⟩, by decide +kernel, by decide⟩
theorem xk_134 : xr_cdb xt_cp9 false xm_134 = true := by decide +kernel
set_option maxRecDepth 100000 in
theorem xo_134 (L : Nat) (xs : Nat → Int32) : (∀ (pc : Nat) (i : Instr) (n : Nat), xr_fetch (xr_cd xm_134) pc = some (i, n) → xr_ok (xt_T L xs) xt_GW xt_ST xt_AO xm_134 pc i n) ∧ xr_hok xt_GW xt_NC xm_134 := ⟨xr_cdb_s (T := xt_T L xs) (ST := xt_ST) (AO := xt_AO) (GW := xt_GW) (cp := xt_cp9) (ini := false) (M := xm_134) (xt_cp9_ok L xs) (fun h => Bool.noConfusion h) xt_arr xk_134, (fun _ h => absurd h List.not_mem_nil)⟩
theorem xl_134 : xr_cal xt_GW xm_134 := ⟨plainFor_of_name (by decide +kernel), (xt_in 19 rfl (List.mem_of_getElem? (i := 9) rfl)), (xt_in 1 rfl (List.mem_of_getElem? (i := 13) rfl)), ⟨by decide +kernel, by decide +kernel⟩, by decide +kernel, by decide⟩
theorem xk_135 : xr_cdb xt_cp0 false xm_135 = true := by decide +kernel
set_option maxRecDepth 100000 in
theorem xo_135 (L : Nat) (xs : Nat → Int32) : (∀ (pc : Nat) (i : Instr) (n : Nat), xr_fetch (xr_cd xm_135) pc = some (i, n) → xr_ok (xt_T L xs) xt_GW xt_ST xt_AO xm_135 pc i n) ∧ xr_hok xt_GW xt_NC xm_135 := ⟨xr_cdb_s (T := xt_T L xs) (ST := xt_ST) (AO := xt_AO) (GW := xt_GW) (cp := xt_cp0) (ini := false) (M := xm_135) (xt_cp0_ok L xs) (fun h => Bool.noConfusion h) xt_arr xk_135, (fun _ h => absurd h List.not_mem_nil)⟩
theorem xl_135 : xr_cal xt_GW xm_135 := ⟨plainFor_of_name (by decide +kernel), (xt_in 10 rfl (List.mem_of_getElem? (i := 23) rfl)), (xt_in 1 rfl (List.mem_of_getElem? (i := 14) rfl)), ⟨by decide +kernel, by decide +kernel⟩, by decide +kernel, by decide⟩
theorem xk_136 : xr_cdb xt_cp0 false xm_136 = true := by decide +kernel
set_option maxRecDepth 100000 in
theorem xo_136 (L : Nat) (xs : Nat → Int32) : (∀ (pc : Nat) (i : Instr) (n : Nat), xr_fetch (xr_cd xm_136) pc = some (i, n) → xr_ok (xt_T L xs) xt_GW xt_ST xt_AO xm_136 pc i n) ∧ xr_hok xt_GW xt_NC xm_136 := ⟨xr_cdb_s (T := xt_T L xs) (ST := xt_ST) (AO := xt_AO) (GW := xt_GW) (cp := xt_cp0) (ini := false) (M := xm_136) (xt_cp0_ok L xs) (fun h => Bool.noConfusion h) xt_arr xk_136, (fun _ h => absurd h List.not_mem_nil)⟩
theorem xl_136 : xr_cal xt_GW xm_136 := ⟨plainFor_of_name (by decide +kernel), (xt_in 18 rfl (List.mem_of_getElem? (i := 17) rfl)), (xt_in 1 rfl (List.mem_of_getElem? (i := 14) rfl)), ⟨by decide +kernel, by decide +kernel⟩, by decide +kernel, by decide⟩
theorem xk_137 : xr_cdb xt_cp0 false xm_137 = true := by decide +kernel
set_option maxRecDepth 100000 in
theorem xo_137 (L : Nat) (xs : Nat → Int32) : (∀ (pc : Nat) (i : Instr) (n : Nat), xr_fetch (xr_cd xm_137) pc = some (i, n) → xr_ok (xt_T L xs) xt_GW xt_ST xt_AO xm_137 pc i n) ∧ xr_hok xt_GW xt_NC xm_137 := ⟨xr_cdb_s (T := xt_T L xs) (ST := xt_ST) (AO := xt_AO) (GW := xt_GW) (cp := xt_cp0) (ini := false) (M := xm_137) (xt_cp0_ok L xs) (fun h => Bool.noConfusion h) xt_arr xk_137, (fun _ h => absurd h List.not_mem_nil)⟩
theorem xl_137 : xr_cal xt_GW xm_137 := ⟨plainFor_of_name (by decide +kernel), (xt_in 13 rfl (List.mem_of_getElem? (i := 14) rfl)), (xt_in 1 rfl (List.mem_of_getElem? (i := 14) rfl)), ⟨by decide +kernel, by decide +kernel⟩, by decide +kernel, by decide⟩
theorem xk_138 : xr_cdb xt_cp0 false xm_138 = true := by decide +kernel
set_option maxRecDepth 100000 in
theorem xo_138 (L : Nat) (xs : Nat → Int32) : (∀ (pc : Nat) (i : Instr) (n : Nat), xr_fetch (xr_cd xm_138) pc = some (i, n) → xr_ok (xt_T L xs) xt_GW xt_ST xt_AO xm_138 pc i n) ∧ xr_hok xt_GW xt_NC xm_138 := ⟨xr_cdb_s (T := xt_T L xs) (ST := xt_ST) (AO := xt_AO) (GW := xt_GW) (cp := xt_cp0) (ini := false) (M := xm_138) (xt_cp0_ok L xs) (fun h => Bool.noConfusion h) xt_arr xk_138, (fun _ h => absurd h List.not_mem_nil)⟩
theorem xl_138 : xr_cal xt_GW xm_138 := ⟨plainFor_of_name (by decide +kernel), (xt_in 14 rfl (List.mem_of_getElem? (i := 30) rfl)), (xt_in 1 rfl (List.mem_of_getElem? (i := 14) rfl)), ⟨by decide +kernel, by decide +kernel⟩, by decide +kernel, by decide⟩
theorem xk_139 : xr_cdb xt_cp0 false xm_139 = true := by decide +kernel
set_option maxRecDepth 100000 in
theorem xo_139 (L : Nat) (xs : Nat → Int32) : (∀ (pc : Nat) (i : Instr) (n : Nat), xr_fetch (xr_cd xm_139) pc = some (i, n) → xr_ok (xt_T L xs) xt_GW xt_ST xt_AO xm_139 pc i n) ∧ xr_hok xt_GW xt_NC xm_139 := ⟨xr_cdb_s (T := xt_T L xs) (ST := xt_ST) (AO := xt_AO) (GW := xt_GW) (cp := xt_cp0) (ini := false) (M := xm_139) (xt_cp0_ok L xs) (fun h => Bool.noConfusion h) xt_arr xk_139, (fun _ h => absurd h List.not_mem_nil)⟩
theorem xl_139 : xr_cal xt_GW xm_139 := ⟨plainFor_of_name (by decide +kernel), (xt_in 16 rfl (List.mem_of_getElem? (i := 20) rfl)), (xt_in 1 rfl (List.mem_of_getElem? (i := 14) rfl)), ⟨by decide +kernel, by decide +kernel⟩, by decide +kernel, by decide⟩
theorem xk_140 : xr_cdb xt_cp0 false xm_140 = true := by decide +kernel
set_option maxRecDepth 100000 in
theorem xo_140 (L : Nat) (xs : Nat → Int32) : (∀ (pc : Nat) (i : Instr) (n : Nat), xr_fetch (xr_cd xm_140) pc = some (i, n) → xr_ok (xt_T L xs) xt_GW xt_ST xt_AO xm_140 pc i n) ∧ xr_hok xt_GW xt_NC xm_140 := ⟨xr_cdb_s (T := xt_T L xs) (ST := xt_ST) (AO := xt_AO) (GW := xt_GW) (cp := xt_cp0) (ini := false) (M := xm_140) (xt_cp0_ok L xs) (fun h => Bool.noConfusion h) xt_arr xk_140, (fun _ h => absurd h List.not_mem_nil)⟩
theorem xl_140 : xr_cal xt_GW xm_140 := ⟨plainFor_of_name (by decide +kernel), (xt_in 14 rfl (List.mem_of_getElem? (i := 33) rfl)), (xt_in 1 rfl (List.mem_of_getElem? (i := 14) rfl)), ⟨by decide +kernel, by decide +kernel⟩, by decide +kernel, by decide⟩
theorem xk_141 : xr_cdb xt_cp0 false xm_141 = true := by decide +kernel
set_option maxRecDepth 100000 in
theorem xo_141 (L : Nat) (xs : Nat → Int32) : (∀ (pc : Nat) (i : Instr) (n : Nat), xr_fetch (xr_cd xm_141) pc = some (i, n) → xr_ok (xt_T L xs) xt_GW xt_ST xt_AO xm_141 pc i n) ∧ xr_hok xt_GW xt_NC xm_141 := ⟨xr_cdb_s (T := xt_T L xs) (ST := xt_ST) (AO := xt_AO) (GW := xt_GW) (cp := xt_cp0) (ini := false) (M := xm_141) (xt_cp0_ok L xs) (fun h => Bool.noConfusion h) xt_arr xk_141, (fun _ h => absurd h List.not_mem_nil)⟩
theorem xl_141 : xr_cal xt_GW xm_141 := ⟨plainFor_of_name (by decide +kernel), (xt_in 18 rfl (List.mem_of_getElem? (i := 28) rfl)), (xt_in 1 rfl (List.mem_of_getElem? (i := 14) rfl)), ⟨by decide +kernel, by decide +kernel⟩, by decide +kernel, by decide⟩
theorem xk_142 : xr_cdb xt_cp0 false xm_142 = true := by decide +kernel
set_option maxRecDepth 100000 in
theorem xo_142 (L : Nat) (xs : Nat → Int32) : (∀ (pc : Nat) (i : Instr) (n : Nat), xr_fetch (xr_cd xm_142) pc = some (i, n) → xr_ok (xt_T L xs) xt_GW xt_ST xt_AO xm_142 pc i n) ∧ xr_hok xt_GW xt_NC xm_142 := ⟨xr_cdb_s (T := xt_T L xs) (ST := xt_ST) (AO := xt_AO) (GW := xt_GW) (cp := xt_cp0) (ini := false) (M := xm_142) (xt_cp0_ok L xs) (fun h => Bool.noConfusion h) xt_arr xk_142, (fun _ h => absurd h List.not_mem_nil)⟩
theorem xl_142 : xr_cal xt_GW xm_142 := ⟨plainFor_of_name (by decide +kernel), (xt_in 18 rfl (List.mem_of_getElem? (i := 31) rfl)), (xt_in 1 rfl (List.mem_of_getElem? (i := 14) rfl)), ⟨by decide +kernel, by decide +kernel⟩, by decide +kernel, by decide⟩
theorem xk_143_0 : ((xc_143.drop 0).take 40).all (fun q => xr_okb xt_cp9 false xm_143 q.1 q.2.1 q.2.2) = true := by decide +kernel
theorem xk_143_40 : ((xc_143.drop 40).take 40).all (fun q => xr_okb xt_cp9 false xm_143 q.1 q.2.1 q.2.2) = true := by decide +kernel
theorem xk_143_80 : ((xc_143.drop 80).take 40).all (fun q => xr_okb xt_cp9 false xm_143 q.1 q.2.1 q.2.2) = true := by decide +kernel
theorem xk_143_120 : ((xc_143.drop 120).take 40).all (fun q => xr_okb xt_cp9 false xm_143 q.1 q.2.1 q.2.2) = true := by decide +kernel
theorem xk_143_160 : ((xc_143.drop 160).take 40).all (fun q => xr_okb xt_cp9 false xm_143 q.1 q.2.1 q.2.2) = true := by decide +kernel
