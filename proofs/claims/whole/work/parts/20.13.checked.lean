/-! methods that are checked -/
theorem xk_133 : xr_cdb xt_cp0 false xm_133 = true := by decide +kernel
set_option maxRecDepth 100000 in
theorem xo_133 (L : Nat) (xs : Nat → Int32) : (∀ (pc : Nat) (i : Instr) (n : Nat), xr_fetch (xr_cd xm_133) pc = some (i, n) → xr_ok (xt_T L xs) xt_GW xt_ST xt_AO xm_133 pc i n) ∧ xr_hok xt_GW xt_NC xm_133 := ⟨xr_cdb_s (T := xt_T L xs) (ST := xt_ST) (AO := xt_AO) (GW := xt_GW) (cp := xt_cp0) (ini := false) (M := xm_133) (xt_cp0_ok L xs) (fun h => Bool.noConfusion h) xt_arr xk_133, (fun _ h => absurd h List.not_mem_nil)⟩
theorem xl_133 : xr_cal xt_GW xm_133 := ⟨plainFor_of_name (by decide +kernel), (xt_in 7 rfl (List.mem_of_getElem? (i := 0) rfl)), (xt_in 2 rfl (List.mem_of_getElem? (i := 29) rfl)), ⟨by decide +kernel, by decide +kernel⟩, by decide +kernel, by decide⟩
theorem xk_134 : xr_cdb xt_cp0 false xm_134 = true := by decide +kernel
set_option maxRecDepth 100000 in
theorem xo_134 (L : Nat) (xs : Nat → Int32) : (∀ (pc : Nat) (i : Instr) (n : Nat), xr_fetch (xr_cd xm_134) pc = some (i, n) → xr_ok (xt_T L xs) xt_GW xt_ST xt_AO xm_134 pc i n) ∧ xr_hok xt_GW xt_NC xm_134 := ⟨xr_cdb_s (T := xt_T L xs) (ST := xt_ST) (AO := xt_AO) (GW := xt_GW) (cp := xt_cp0) (ini := false) (M := xm_134) (xt_cp0_ok L xs) (fun h => Bool.noConfusion h) xt_arr xk_134, (fun _ h => absurd h List.not_mem_nil)⟩
theorem xl_134 : xr_cal xt_GW xm_134 := ⟨plainFor_of_name (by decide +kernel), (xt_in 15 rfl (List.mem_of_getElem? (i := 33) rfl)), (xt_in 2 rfl (List.mem_of_getElem? (i := 29) rfl)), ⟨by decide +kernel, by decide +kernel⟩, by decide +kernel, by decide⟩
theorem xk_135 : xr_cdb xt_cp0 false xm_135 = true := by decide +kernel
set_option maxRecDepth 100000 in
theorem xo_135 (L : Nat) (xs : Nat → Int32) : (∀ (pc : Nat) (i : Instr) (n : Nat), xr_fetch (xr_cd xm_135) pc = some (i, n) → xr_ok (xt_T L xs) xt_GW xt_ST xt_AO xm_135 pc i n) ∧ xr_hok xt_GW xt_NC xm_135 := ⟨xr_cdb_s (T := xt_T L xs) (ST := xt_ST) (AO := xt_AO) (GW := xt_GW) (cp := xt_cp0) (ini := false) (M := xm_135) (xt_cp0_ok L xs) (fun h => Bool.noConfusion h) xt_arr xk_135, (fun _ h => absurd h List.not_mem_nil)⟩
theorem xl_135 : xr_cal xt_GW xm_135 := ⟨plainFor_of_name (by decide +kernel), (xt_in 16 rfl (List.mem_of_getElem? (i := 37) rfl)), (xt_in 2 rfl (List.mem_of_getElem? (i := 29) rfl)), ⟨by decide +kernel, by decide +kernel⟩, by decide +kernel, by decide⟩
theorem xk_136 : xr_cdb xt_cp0 false xm_136 = true := by decide +kernel
set_option maxRecDepth 100000 in
theorem xo_136 (L : Nat) (xs : Nat → Int32) : (∀ (pc : Nat) (i : Instr) (n : Nat), xr_fetch (xr_cd xm_136) pc = some (i, n) → xr_ok (xt_T L xs) xt_GW xt_ST xt_AO xm_136 pc i n) ∧ xr_hok xt_GW xt_NC xm_136 := ⟨xr_cdb_s (T := xt_T L xs) (ST := xt_ST) (AO := xt_AO) (GW := xt_GW) (cp := xt_cp0) (ini := false) (M := xm_136) (xt_cp0_ok L xs) (fun h => Bool.noConfusion h) xt_arr xk_136, (fun _ h => absurd h List.not_mem_nil)⟩
theorem xl_136 : xr_cal xt_GW xm_136 := ⟨plainFor_of_name (by decide +kernel), (xt_in 17 rfl (List.mem_of_getElem? (i := 12) rfl)), (xt_in 2 rfl (List.mem_of_getElem? (i := 29) rfl)), ⟨by decide +kernel, by decide +kernel⟩, by decide +kernel, by decide⟩
theorem xk_137 : xr_cdb xt_cp0 false xm_137 = true := by decide +kernel
set_option maxRecDepth 100000 in
theorem xo_137 (L : Nat) (xs : Nat → Int32) : (∀ (pc : Nat) (i : Instr) (n : Nat), xr_fetch (xr_cd xm_137) pc = some (i, n) → xr_ok (xt_T L xs) xt_GW xt_ST xt_AO xm_137 pc i n) ∧ xr_hok xt_GW xt_NC xm_137 := ⟨xr_cdb_s (T := xt_T L xs) (ST := xt_ST) (AO := xt_AO) (GW := xt_GW) (cp := xt_cp0) (ini := false) (M := xm_137) (xt_cp0_ok L xs) (fun h => Bool.noConfusion h) xt_arr xk_137, (fun _ h => absurd h List.not_mem_nil)⟩
theorem xl_137 : xr_cal xt_GW xm_137 := ⟨plainFor_of_name (by decide +kernel), (xt_in 20 rfl (List.mem_of_getElem? (i := 20) rfl)), (xt_in 2 rfl (List.mem_of_getElem? (i := 29) rfl)), ⟨by decide +kernel, by decide +kernel⟩, by decide +kernel, by decide⟩
theorem xk_138 : xr_cdb xt_cp0 false xm_138 = true := by decide +kernel
set_option maxRecDepth 100000 in
theorem xo_138 (L : Nat) (xs : Nat → Int32) : (∀ (pc : Nat) (i : Instr) (n : Nat), xr_fetch (xr_cd xm_138) pc = some (i, n) → xr_ok (xt_T L xs) xt_GW xt_ST xt_AO xm_138 pc i n) ∧ xr_hok xt_GW xt_NC xm_138 := ⟨xr_cdb_s (T := xt_T L xs) (ST := xt_ST) (AO := xt_AO) (GW := xt_GW) (cp := xt_cp0) (ini := false) (M := xm_138) (xt_cp0_ok L xs) (fun h => Bool.noConfusion h) xt_arr xk_138, (fun _ h => absurd h List.not_mem_nil)⟩
theorem xl_138 : xr_cal xt_GW xm_138 := ⟨plainFor_of_name (by decide +kernel), (xt_in 21 rfl (List.mem_of_getElem? (i := 0) rfl)), (xt_in 2 rfl (List.mem_of_getElem? (i := 29) rfl)), ⟨by decide +kernel, by decide +kernel⟩, by decide +kernel, by decide⟩
theorem xk_139 : xr_cdb xt_cp0 false xm_139 = true := by decide +kernel
set_option maxRecDepth 100000 in
theorem xo_139 (L : Nat) (xs : Nat → Int32) : (∀ (pc : Nat) (i : Instr) (n : Nat), xr_fetch (xr_cd xm_139) pc = some (i, n) → xr_ok (xt_T L xs) xt_GW xt_ST xt_AO xm_139 pc i n) ∧ xr_hok xt_GW xt_NC xm_139 := ⟨xr_cdb_s (T := xt_T L xs) (ST := xt_ST) (AO := xt_AO) (GW := xt_GW) (cp := xt_cp0) (ini := false) (M := xm_139) (xt_cp0_ok L xs) (fun h => Bool.noConfusion h) xt_arr xk_139, (fun _ h => absurd h List.not_mem_nil)⟩
theorem xl_139 : xr_cal xt_GW xm_139 := ⟨plainFor_of_name (by decide +kernel), (xt_in 18 rfl (List.mem_of_getElem? (i := 22) rfl)), (xt_in 2 rfl (List.mem_of_getElem? (i := 29) rfl)), ⟨by decide +kernel, by decide +kernel⟩, by decide +kernel, by decide⟩
theorem xk_140 : xr_cdb xt_cp0 false xm_140 = true := by decide +kernel
set_option maxRecDepth 100000 in
theorem xo_140 (L : Nat) (xs : Nat → Int32) : (∀ (pc : Nat) (i : Instr) (n : Nat), xr_fetch (xr_cd xm_140) pc = some (i, n) → xr_ok (xt_T L xs) xt_GW xt_ST xt_AO xm_140 pc i n) ∧ xr_hok xt_GW xt_NC xm_140 := ⟨xr_cdb_s (T := xt_T L xs) (ST := xt_ST) (AO := xt_AO) (GW := xt_GW) (cp := xt_cp0) (ini := false) (M := xm_140) (xt_cp0_ok L xs) (fun h => Bool.noConfusion h) xt_arr xk_140, (fun _ h => absurd h List.not_mem_nil)⟩
theorem xl_140 : xr_cal xt_GW xm_140 := ⟨plainFor_of_name (by decide +kernel), (xt_in 19 rfl (List.mem_of_getElem? (i := 14) rfl)), (xt_in 2 rfl (List.mem_of_getElem? (i := 29) rfl)), ⟨by decide +kernel, by decide +kernel⟩, by decide +kernel, by decide⟩
theorem xk_141 : xr_cdb xt_cp0 false xm_141 = true := by decide +kernel
set_option maxRecDepth 100000 in
theorem xo_141 (L : Nat) (xs : Nat → Int32) : (∀ (pc : Nat) (i : Instr) (n : Nat), xr_fetch (xr_cd xm_141) pc = some (i, n) → xr_ok (xt_T L xs) xt_GW xt_ST xt_AO xm_141 pc i n) ∧ xr_hok xt_GW xt_NC xm_141 := ⟨xr_cdb_s (T := xt_T L xs) (ST := xt_ST) (AO := xt_AO) (GW := xt_GW) (cp := xt_cp0) (ini := false) (M := xm_141) (xt_cp0_ok L xs) (fun h => Bool.noConfusion h) xt_arr xk_141, (fun _ h => absurd h List.not_mem_nil)⟩
theorem xl_141 : xr_cal xt_GW xm_141 := ⟨plainFor_of_name (by decide +kernel), (xt_in 17 rfl (List.mem_of_getElem? (i := 26) rfl)), (xt_in 2 rfl (List.mem_of_getElem? (i := 29) rfl)), ⟨by decide +kernel, by decide +kernel⟩, by decide +kernel, by decide⟩
theorem xk_142 : xr_cdb xt_cp0 false xm_142 = true := by decide +kernel
set_option maxRecDepth 100000 in
theorem xo_142 (L : Nat) (xs : Nat → Int32) : (∀ (pc : Nat) (i : Instr) (n : Nat), xr_fetch (xr_cd xm_142) pc = some (i, n) → xr_ok (xt_T L xs) xt_GW xt_ST xt_AO xm_142 pc i n) ∧ xr_hok xt_GW xt_NC xm_142 := ⟨xr_cdb_s (T := xt_T L xs) (ST := xt_ST) (AO := xt_AO) (GW := xt_GW) (cp := xt_cp0) (ini := false) (M := xm_142) (xt_cp0_ok L xs) (fun h => Bool.noConfusion h) xt_arr xk_142, (fun _ h => absurd h List.not_mem_nil)⟩
theorem xl_142 : xr_cal xt_GW xm_142 := ⟨plainFor_of_name (by decide +kernel), (xt_in 17 rfl (List.mem_of_getElem? (i := 29) rfl)), (xt_in 2 rfl (List.mem_of_getElem? (i := 29) rfl)), ⟨by decide +kernel, by decide +kernel⟩, by decide +kernel, by decide⟩
theorem xk_143_0 : ((xc_143.drop 0).take 40).all (fun q => xr_okb xt_cp10 true xm_143 q.1 q.2.1 q.2.2) = true := by decide +kernel
theorem xk_143_40 : ((xc_143.drop 40).take 40).all (fun q => xr_okb xt_cp10 true xm_143 q.1 q.2.1 q.2.2) = true := by decide +kernel
theorem xk_143_80 : ((xc_143.drop 80).take 40).all (fun q => xr_okb xt_cp10 true xm_143 q.1 q.2.1 q.2.2) = true := by decide +kernel
theorem xk_143_120 : ((xc_143.drop 120).take 40).all (fun q => xr_okb xt_cp10 true xm_143 q.1 q.2.1 q.2.2) = true := by decide +kernel
theorem xk_143_160 : ((xc_143.drop 160).take 40).all (fun q => xr_okb xt_cp10 true xm_143 q.1 q.2.1 q.2.2) = true := by decide +kernel
theorem xk_143 : xr_cdb xt_cp10 true xm_143 = true := (xr_chk _ 40 0 _ xk_143_0 (xr_chk _ 40 40 _ xk_143_40 (xr_chk _ 40 80 _ xk_143_80 (xr_chk _ 40 120 _ xk_143_120 (xr_chk _ 40 160 _ xk_143_160 (by decide +kernel))))))
set_option maxRecDepth 100000 in
theorem xo_143 (L : Nat) (xs : Nat → Int32) : (∀ (pc : Nat) (i : Instr) (n : Nat), xr_fetch (xr_cd xm_143) pc = some (i, n) → xr_ok (xt_T L xs) xt_GW xt_ST xt_AO xm_143 pc i n) ∧ xr_hok xt_GW xt_NC xm_143 := ⟨xr_cdb_s (T := xt_T L xs) (ST := xt_ST) (AO := xt_AO) (GW := xt_GW) (cp := xt_cp10) (ini := true) (M := xm_143) (xt_cp10_ok L xs) (fun _ => rfl) xt_arr xk_143, (fun _ h => absurd h List.not_mem_nil)⟩
theorem xl_143 : xr_cal xt_GW xm_143 := ⟨plainFor_of_name (by decide +kernel), (xt_in 23 rfl (List.mem_of_getElem? (i := 1) rfl)), (xt_in 2 rfl (List.mem_of_getElem? (i := 37) rfl)), ⟨by decide +kernel, by decide +kernel⟩, by decide +kernel, by decide⟩
theorem xk_144 : xr_cdb xt_cp10 false xm_144 = true := by decide +kernel
set_option maxRecDepth 100000 in
theorem xo_144 (L : Nat) (xs : Nat → Int32) : (∀ (pc : Nat) (i : Instr) (n : Nat), xr_fetch (xr_cd xm_144) pc = some (i, n) → xr_ok (xt_T L xs) xt_GW xt_ST xt_AO xm_144 pc i n) ∧ xr_hok xt_GW xt_NC xm_144 := ⟨xr_cdb_s (T := xt_T L xs) (ST := xt_ST) (AO := xt_AO) (GW := xt_GW) (cp := xt_cp10) (ini := false) (M := xm_144) (xt_cp10_ok L xs) (fun h => Bool.noConfusion h) xt_arr xk_144, (fun _ h => absurd h List.not_mem_nil)⟩
theorem xl_144 : xr_cal xt_GW xm_144 := ⟨plainFor_of_name (by decide +kernel), (xt_in 24 rfl (List.mem_of_getElem? (i := 24) rfl)), (xt_in 2 rfl (List.mem_of_getElem? (i := 37) rfl)), ⟨by decide +kernel, by decide +kernel⟩, by decide +kernel, by decide⟩
theorem xk_145 : xr_cdb xt_cp10 false xm_145 = true := by decide +kernel
set_option maxRecDepth 100000 in
theorem xo_145 (L : Nat) (xs : Nat → Int32) : (∀ (pc : Nat) (i : Instr) (n : Nat), xr_fetch (xr_cd xm_145) pc = some (i, n) → xr_ok (xt_T L xs) xt_GW xt_ST xt_AO xm_145 pc i n) ∧ xr_hok xt_GW xt_NC xm_145 := ⟨xr_cdb_s (T := xt_T L xs) (ST := xt_ST) (AO := xt_AO) (GW := xt_GW) (cp := xt_cp10) (ini := false) (M := xm_145) (xt_cp10_ok L xs) (fun h => Bool.noConfusion h) xt_arr xk_145, (fun _ h => absurd h List.not_mem_nil)⟩
theorem xl_145 : xr_cal xt_GW xm_145 := ⟨plainFor_of_name (by decide +kernel), (xt_in 25 rfl (List.mem_of_getElem? (i := 29) rfl)), (xt_in 2 rfl (List.mem_of_getElem? (i := 37) rfl)), ⟨by decide +kernel, by decide +kernel⟩, by decide +kernel, by decide⟩
theorem xk_146 : xr_cdb xt_cp10 false xm_146 = true := by decide +kernel
set_option maxRecDepth 100000 in
theorem xo_146 (L : Nat) (xs : Nat → Int32) : (∀ (pc : Nat) (i : Instr) (n : Nat), xr_fetch (xr_cd xm_146) pc = some (i, n) → xr_ok (xt_T L xs) xt_GW xt_ST xt_AO xm_146 pc i n) ∧ xr_hok xt_GW xt_NC xm_146 := ⟨xr_cdb_s (T := xt_T L xs) (ST := xt_ST) (AO := xt_AO) (GW := xt_GW) (cp := xt_cp10) (ini := false) (M := xm_146) (xt_cp10_ok L xs) (fun h => Bool.noConfusion h) xt_arr xk_146, (fun _ h => absurd h List.not_mem_nil)⟩
theorem xl_146 : xr_cal xt_GW xm_146 := ⟨plainFor_of_name (by decide +kernel), (xt_in 24 rfl (List.mem_of_getElem? (i := 31) rfl)), (xt_in 2 rfl (List.mem_of_getElem? (i := 37) rfl)), ⟨by decide +kernel, by decide +kernel⟩, by decide +kernel, by decide⟩
theorem xk_147 : xr_cdb xt_cp10 false xm_147 = true := by decide +kernel
set_option maxRecDepth 100000 in
theorem xo_147 (L : Nat) (xs : Nat → Int32) : (∀ (pc : Nat) (i : Instr) (n : Nat), xr_fetch (xr_cd xm_147) pc = some (i, n) → xr_ok (xt_T L xs) xt_GW xt_ST xt_AO xm_147 pc i n) ∧ xr_hok xt_GW xt_NC xm_147 := ⟨xr_cdb_s (T := xt_T L xs) (ST := xt_ST) (AO := xt_AO) (GW := xt_GW) (cp := xt_cp10) (ini := false) (M := xm_147) (xt_cp10_ok L xs) (fun h => Bool.noConfusion h) xt_arr xk_147, (fun _ h => absurd h List.not_mem_nil)⟩
theorem xl_147 : xr_cal xt_GW xm_147 := ⟨plainFor_of_name (by decide +kernel), (xt_in 24 rfl (List.mem_of_getElem? (i := 28) rfl)), (xt_in 2 rfl (List.mem_of_getElem? (i := 37) rfl)), ⟨by decide +kernel, by decide +kernel⟩, by decide +kernel, by decide⟩
