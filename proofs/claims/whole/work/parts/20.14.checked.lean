/-! methods that are checked -/
theorem xk_148 : xr_cdb xt_cp10 false xm_148 = true := by decide +kernel
set_option maxRecDepth 100000 in
theorem xo_148 (L : Nat) (xs : Nat → Int32) : (∀ (pc : Nat) (i : Instr) (n : Nat), xr_fetch (xr_cd xm_148) pc = some (i, n) → xr_ok (xt_T L xs) xt_GW xt_ST xt_AO xm_148 pc i n) ∧ xr_hok xt_GW xt_NC xm_148 := ⟨xr_cdb_s (T := xt_T L xs) (ST := xt_ST) (AO := xt_AO) (GW := xt_GW) (cp := xt_cp10) (ini := false) (M := xm_148) (xt_cp10_ok L xs) (fun h => Bool.noConfusion h) xt_arr xk_148, (fun _ h => absurd h List.not_mem_nil)⟩
theorem xl_148 : xr_cal xt_GW xm_148 := ⟨plainFor_of_name (by decide +kernel), (xt_in 24 rfl (List.mem_of_getElem? (i := 39) rfl)), (xt_in 2 rfl (List.mem_of_getElem? (i := 37) rfl)), ⟨by decide +kernel, by decide +kernel⟩, by decide +kernel, by decide⟩
theorem xk_149 : xr_cdb xt_cp10 false xm_149 = true := by decide +kernel
set_option maxRecDepth 100000 in
theorem xo_149 (L : Nat) (xs : Nat → Int32) : (∀ (pc : Nat) (i : Instr) (n : Nat), xr_fetch (xr_cd xm_149) pc = some (i, n) → xr_ok (xt_T L xs) xt_GW xt_ST xt_AO xm_149 pc i n) ∧ xr_hok xt_GW xt_NC xm_149 := ⟨xr_cdb_s (T := xt_T L xs) (ST := xt_ST) (AO := xt_AO) (GW := xt_GW) (cp := xt_cp10) (ini := false) (M := xm_149) (xt_cp10_ok L xs) (fun h => Bool.noConfusion h) xt_arr xk_149, (fun _ h => absurd h List.not_mem_nil)⟩
theorem xl_149 : xr_cal xt_GW xm_149 := ⟨plainFor_of_name (by decide +kernel), (xt_in 24 rfl (List.mem_of_getElem? (i := 36) rfl)), (xt_in 2 rfl (List.mem_of_getElem? (i := 37) rfl)), ⟨by decide +kernel, by decide +kernel⟩, by decide +kernel, by decide⟩
theorem xk_150 : xr_cdb xt_cp10 false xm_150 = true := by decide +kernel
set_option maxRecDepth 100000 in
theorem xo_150 (L : Nat) (xs : Nat → Int32) : (∀ (pc : Nat) (i : Instr) (n : Nat), xr_fetch (xr_cd xm_150) pc = some (i, n) → xr_ok (xt_T L xs) xt_GW xt_ST xt_AO xm_150 pc i n) ∧ xr_hok xt_GW xt_NC xm_150 := ⟨xr_cdb_s (T := xt_T L xs) (ST := xt_ST) (AO := xt_AO) (GW := xt_GW) (cp := xt_cp10) (ini := false) (M := xm_150) (xt_cp10_ok L xs) (fun h => Bool.noConfusion h) xt_arr xk_150, (fun _ h => absurd h List.not_mem_nil)⟩
theorem xl_150 : xr_cal xt_GW xm_150 := ⟨plainFor_of_name (by decide +kernel), (xt_in 25 rfl (List.mem_of_getElem? (i := 3) rfl)), (xt_in 2 rfl (List.mem_of_getElem? (i := 37) rfl)), ⟨by decide +kernel, by decide +kernel⟩, by decide +kernel, by decide⟩
theorem xk_151 : xr_cdb xt_cp10 false xm_151 = true := by decide +kernel
set_option maxRecDepth 100000 in
theorem xo_151 (L : Nat) (xs : Nat → Int32) : (∀ (pc : Nat) (i : Instr) (n : Nat), xr_fetch (xr_cd xm_151) pc = some (i, n) → xr_ok (xt_T L xs) xt_GW xt_ST xt_AO xm_151 pc i n) ∧ xr_hok xt_GW xt_NC xm_151 := ⟨xr_cdb_s (T := xt_T L xs) (ST := xt_ST) (AO := xt_AO) (GW := xt_GW) (cp := xt_cp10) (ini := false) (M := xm_151) (xt_cp10_ok L xs) (fun h => Bool.noConfusion h) xt_arr xk_151, (fun _ h => absurd h List.not_mem_nil)⟩
theorem xl_151 : xr_cal xt_GW xm_151 := ⟨plainFor_of_name (by decide +kernel), (xt_in 25 rfl (List.mem_of_getElem? (i := 7) rfl)), (xt_in 2 rfl (List.mem_of_getElem? (i := 37) rfl)), ⟨by decide +kernel, by decide +kernel⟩, by decide +kernel, by decide⟩
theorem xk_152 : xr_cdb xt_cp10 false xm_152 = true := by decide +kernel
set_option maxRecDepth 100000 in
theorem xo_152 (L : Nat) (xs : Nat → Int32) : (∀ (pc : Nat) (i : Instr) (n : Nat), xr_fetch (xr_cd xm_152) pc = some (i, n) → xr_ok (xt_T L xs) xt_GW xt_ST xt_AO xm_152 pc i n) ∧ xr_hok xt_GW xt_NC xm_152 := ⟨xr_cdb_s (T := xt_T L xs) (ST := xt_ST) (AO := xt_AO) (GW := xt_GW) (cp := xt_cp10) (ini := false) (M := xm_152) (xt_cp10_ok L xs) (fun h => Bool.noConfusion h) xt_arr xk_152, (fun _ h => absurd h List.not_mem_nil)⟩
theorem xl_152 : xr_cal xt_GW xm_152 := ⟨plainFor_of_name (by decide +kernel), (xt_in 25 rfl (List.mem_of_getElem? (i := 11) rfl)), (xt_in 2 rfl (List.mem_of_getElem? (i := 37) rfl)), ⟨by decide +kernel, by decide +kernel⟩, by decide +kernel, by decide⟩
theorem xk_153 : xr_cdb xt_cp10 false xm_153 = true := by decide +kernel
set_option maxRecDepth 100000 in
theorem xo_153 (L : Nat) (xs : Nat → Int32) : (∀ (pc : Nat) (i : Instr) (n : Nat), xr_fetch (xr_cd xm_153) pc = some (i, n) → xr_ok (xt_T L xs) xt_GW xt_ST xt_AO xm_153 pc i n) ∧ xr_hok xt_GW xt_NC xm_153 := ⟨xr_cdb_s (T := xt_T L xs) (ST := xt_ST) (AO := xt_AO) (GW := xt_GW) (cp := xt_cp10) (ini := false) (M := xm_153) (xt_cp10_ok L xs) (fun h => Bool.noConfusion h) xt_arr xk_153, (fun _ h => absurd h List.not_mem_nil)⟩
theorem xl_153 : xr_cal xt_GW xm_153 := ⟨plainFor_of_name (by decide +kernel), (xt_in 25 rfl (List.mem_of_getElem? (i := 18) rfl)), (xt_in 2 rfl (List.mem_of_getElem? (i := 37) rfl)), ⟨by decide +kernel, by decide +kernel⟩, by decide +kernel, by decide⟩
theorem xk_154 : xr_cdb xt_cp10 false xm_154 = true := by decide +kernel
set_option maxRecDepth 100000 in
theorem xo_154 (L : Nat) (xs : Nat → Int32) : (∀ (pc : Nat) (i : Instr) (n : Nat), xr_fetch (xr_cd xm_154) pc = some (i, n) → xr_ok (xt_T L xs) xt_GW xt_ST xt_AO xm_154 pc i n) ∧ xr_hok xt_GW xt_NC xm_154 := ⟨xr_cdb_s (T := xt_T L xs) (ST := xt_ST) (AO := xt_AO) (GW := xt_GW) (cp := xt_cp10) (ini := false) (M := xm_154) (xt_cp10_ok L xs) (fun h => Bool.noConfusion h) xt_arr xk_154, (fun _ h => absurd h List.not_mem_nil)⟩
theorem xl_154 : xr_cal xt_GW xm_154 := ⟨plainFor_of_name (by decide +kernel), (xt_in 25 rfl (List.mem_of_getElem? (i := 15) rfl)), (xt_in 2 rfl (List.mem_of_getElem? (i := 37) rfl)), ⟨by decide +kernel, by decide +kernel⟩, by decide +kernel, by decide⟩
theorem xk_155 : xr_cdb xt_cp10 false xm_155 = true := by decide +kernel
set_option maxRecDepth 100000 in
theorem xo_155 (L : Nat) (xs : Nat → Int32) : (∀ (pc : Nat) (i : Instr) (n : Nat), xr_fetch (xr_cd xm_155) pc = some (i, n) → xr_ok (xt_T L xs) xt_GW xt_ST xt_AO xm_155 pc i n) ∧ xr_hok xt_GW xt_NC xm_155 := ⟨xr_cdb_s (T := xt_T L xs) (ST := xt_ST) (AO := xt_AO) (GW := xt_GW) (cp := xt_cp10) (ini := false) (M := xm_155) (xt_cp10_ok L xs) (fun h => Bool.noConfusion h) xt_arr xk_155, (fun _ h => absurd h List.not_mem_nil)⟩
theorem xl_155 : xr_cal xt_GW xm_155 := ⟨plainFor_of_name (by decide +kernel), (xt_in 25 rfl (List.mem_of_getElem? (i := 22) rfl)), (xt_in 2 rfl (List.mem_of_getElem? (i := 37) rfl)), ⟨by decide +kernel, by decide +kernel⟩, by decide +kernel, by decide⟩
theorem xk_156 : xr_cdb xt_cp10 false xm_156 = true := by decide +kernel
set_option maxRecDepth 100000 in
theorem xo_156 (L : Nat) (xs : Nat → Int32) : (∀ (pc : Nat) (i : Instr) (n : Nat), xr_fetch (xr_cd xm_156) pc = some (i, n) → xr_ok (xt_T L xs) xt_GW xt_ST xt_AO xm_156 pc i n) ∧ xr_hok xt_GW xt_NC xm_156 := ⟨xr_cdb_s (T := xt_T L xs) (ST := xt_ST) (AO := xt_AO) (GW := xt_GW) (cp := xt_cp10) (ini := false) (M := xm_156) (xt_cp10_ok L xs) (fun h => Bool.noConfusion h) xt_arr xk_156, (fun _ h => absurd h List.not_mem_nil)⟩
theorem xl_156 : xr_cal xt_GW xm_156 := ⟨plainFor_of_name (by decide +kernel), (xt_in 25 rfl (List.mem_of_getElem? (i := 35) rfl)), (xt_in 2 rfl (List.mem_of_getElem? (i := 37) rfl)), ⟨by decide +kernel, by decide +kernel⟩, by decide +kernel, by decide⟩
theorem xk_157 : xr_cdb xt_cp10 false xm_157 = true := by decide +kernel
set_option maxRecDepth 100000 in
theorem xo_157 (L : Nat) (xs : Nat → Int32) : (∀ (pc : Nat) (i : Instr) (n : Nat), xr_fetch (xr_cd xm_157) pc = some (i, n) → xr_ok (xt_T L xs) xt_GW xt_ST xt_AO xm_157 pc i n) ∧ xr_hok xt_GW xt_NC xm_157 := ⟨xr_cdb_s (T := xt_T L xs) (ST := xt_ST) (AO := xt_AO) (GW := xt_GW) (cp := xt_cp10) (ini := false) (M := xm_157) (xt_cp10_ok L xs) (fun h => Bool.noConfusion h) xt_arr xk_157, (fun _ h => absurd h List.not_mem_nil)⟩
theorem xl_157 : xr_cal xt_GW xm_157 := ⟨plainFor_of_name (by decide +kernel), (xt_in 26 rfl (List.mem_of_getElem? (i := 1) rfl)), (xt_in 2 rfl (List.mem_of_getElem? (i := 37) rfl)), ⟨by decide +kernel, by decide +kernel⟩, by decide +kernel, by decide⟩
theorem xk_158 : xr_cdb xt_cp10 false xm_158 = true := by decide +kernel
set_option maxRecDepth 100000 in
theorem xo_158 (L : Nat) (xs : Nat → Int32) : (∀ (pc : Nat) (i : Instr) (n : Nat), xr_fetch (xr_cd xm_158) pc = some (i, n) → xr_ok (xt_T L xs) xt_GW xt_ST xt_AO xm_158 pc i n) ∧ xr_hok xt_GW xt_NC xm_158 := ⟨xr_cdb_s (T := xt_T L xs) (ST := xt_ST) (AO := xt_AO) (GW := xt_GW) (cp := xt_cp10) (ini := false) (M := xm_158) (xt_cp10_ok L xs) (fun h => Bool.noConfusion h) xt_arr xk_158, (fun _ h => absurd h List.not_mem_nil)⟩
theorem xl_158 : xr_cal xt_GW xm_158 := ⟨plainFor_of_name (by decide +kernel), (xt_in 26 rfl (List.mem_of_getElem? (i := 4) rfl)), (xt_in 2 rfl (List.mem_of_getElem? (i := 37) rfl)), ⟨by decide +kernel, by decide +kernel⟩, by decide +kernel, by decide⟩
theorem xk_159 : xr_cdb xt_cp10 false xm_159 = true := by decide +kernel
set_option maxRecDepth 100000 in
theorem xo_159 (L : Nat) (xs : Nat → Int32) : (∀ (pc : Nat) (i : Instr) (n : Nat), xr_fetch (xr_cd xm_159) pc = some (i, n) → xr_ok (xt_T L xs) xt_GW xt_ST xt_AO xm_159 pc i n) ∧ xr_hok xt_GW xt_NC xm_159 := ⟨xr_cdb_s (T := xt_T L xs) (ST := xt_ST) (AO := xt_AO) (GW := xt_GW) (cp := xt_cp10) (ini := false) (M := xm_159) (xt_cp10_ok L xs) (fun h => Bool.noConfusion h) xt_arr xk_159, (fun _ h => absurd h List.not_mem_nil)⟩
theorem xl_159 : xr_cal xt_GW xm_159 := ⟨plainFor_of_name (by decide +kernel), (xt_in 25 rfl (List.mem_of_getElem? (i := 38) rfl)), (xt_in 2 rfl (List.mem_of_getElem? (i := 37) rfl)), ⟨by decide +kernel, by decide +kernel⟩, by decide +kernel, by decide⟩
theorem xk_160 : xr_cdb xt_cp10 false xm_160 = true := by decide +kernel
set_option maxRecDepth 100000 in
theorem xo_160 (L : Nat) (xs : Nat → Int32) : (∀ (pc : Nat) (i : Instr) (n : Nat), xr_fetch (xr_cd xm_160) pc = some (i, n) → xr_ok (xt_T L xs) xt_GW xt_ST xt_AO xm_160 pc i n) ∧ xr_hok xt_GW xt_NC xm_160 := ⟨xr_cdb_s (T := xt_T L xs) (ST := xt_ST) (AO := xt_AO) (GW := xt_GW) (cp := xt_cp10) (ini := false) (M := xm_160) (xt_cp10_ok L xs) (fun h => Bool.noConfusion h) xt_arr xk_160, (fun _ h => absurd h List.not_mem_nil)⟩
theorem xl_160 : xr_cal xt_GW xm_160 := ⟨plainFor_of_name (by decide +kernel), (xt_in 26 rfl (List.mem_of_getElem? (i := 19) rfl)), (xt_in 2 rfl (List.mem_of_getElem? (i := 37) rfl)), ⟨by decide +kernel, by decide +kernel⟩, by decide +kernel, by decide⟩
theorem xk_161 : xr_cdb xt_cp10 false xm_161 = true := by decide +kernel
set_option maxRecDepth 100000 in
theorem xo_161 (L : Nat) (xs : Nat → Int32) : (∀ (pc : Nat) (i : Instr) (n : Nat), xr_fetch (xr_cd xm_161) pc = some (i, n) → xr_ok (xt_T L xs) xt_GW xt_ST xt_AO xm_161 pc i n) ∧ xr_hok xt_GW xt_NC xm_161 := ⟨xr_cdb_s (T := xt_T L xs) (ST := xt_ST) (AO := xt_AO) (GW := xt_GW) (cp := xt_cp10) (ini := false) (M := xm_161) (xt_cp10_ok L xs) (fun h => Bool.noConfusion h) xt_arr xk_161, (fun _ h => absurd h List.not_mem_nil)⟩
theorem xl_161 : xr_cal xt_GW xm_161 := ⟨plainFor_of_name (by decide +kernel), (xt_in 26 rfl (List.mem_of_getElem? (i := 22) rfl)), (xt_in 2 rfl (List.mem_of_getElem? (i := 37) rfl)), ⟨by decide +kernel, by decide +kernel⟩, by decide +kernel, by decide⟩
theorem xk_162 : xr_cdb xt_cp10 false xm_162 = true := by decide +kernel
set_option maxRecDepth 100000 in
theorem xo_162 (L : Nat) (xs : Nat → Int32) : (∀ (pc : Nat) (i : Instr) (n : Nat), xr_fetch (xr_cd xm_162) pc = some (i, n) → xr_ok (xt_T L xs) xt_GW xt_ST xt_AO xm_162 pc i n) ∧ xr_hok xt_GW xt_NC xm_162 := ⟨xr_cdb_s (T := xt_T L xs) (ST := xt_ST) (AO := xt_AO) (GW := xt_GW) (cp := xt_cp10) (ini := false) (M := xm_162) (xt_cp10_ok L xs) (fun h => Bool.noConfusion h) xt_arr xk_162, (fun _ h => absurd h List.not_mem_nil)⟩
theorem xl_162 : xr_cal xt_GW xm_162 := ⟨plainFor_of_name (by decide +kernel), (xt_in 26 rfl (List.mem_of_getElem? (i := 7) rfl)), (xt_in 2 rfl (List.mem_of_getElem? (i := 37) rfl)), ⟨by decide +kernel, by decide +kernel⟩, by decide +kernel, by decide⟩
theorem xk_163_0 : ((xc_163.drop 0).take 40).all (fun q => xr_okb xt_cp10 false xm_163 q.1 q.2.1 q.2.2) = true := by decide +kernel
theorem xk_163_40 : ((xc_163.drop 40).take 40).all (fun q => xr_okb xt_cp10 false xm_163 q.1 q.2.1 q.2.2) = true := by decide +kernel
theorem xk_163 : xr_cdb xt_cp10 false xm_163 = true := (xr_chk _ 40 0 _ xk_163_0 (xr_chk _ 40 40 _ xk_163_40 (by decide +kernel)))
set_option maxRecDepth 100000 in
theorem xo_163 (L : Nat) (xs : Nat → Int32) : (∀ (pc : Nat) (i : Instr) (n : Nat), xr_fetch (xr_cd xm_163) pc = some (i, n) → xr_ok (xt_T L xs) xt_GW xt_ST xt_AO xm_163 pc i n) ∧ xr_hok xt_GW xt_NC xm_163 := ⟨xr_cdb_s (T := xt_T L xs) (ST := xt_ST) (AO := xt_AO) (GW := xt_GW) (cp := xt_cp10) (ini := false) (M := xm_163) (xt_cp10_ok L xs) (fun h => Bool.noConfusion h) xt_arr xk_163, (fun _ h => absurd h List.not_mem_nil)⟩
theorem xl_163 : xr_cal xt_GW xm_163 := ⟨plainFor_of_name (by decide +kernel), (xt_in 26 rfl (List.mem_of_getElem? (i := 16) rfl)), (xt_in 2 rfl (List.mem_of_getElem? (i := 37) rfl)), ⟨by decide +kernel, by decide +kernel⟩, by decide +kernel, by decide⟩
theorem xk_164 : xr_cdb xt_cp10 false xm_164 = true := by decide +kernel
set_option maxRecDepth 100000 in
theorem xo_164 (L : Nat) (xs : Nat → Int32) : (∀ (pc : Nat) (i : Instr) (n : Nat), xr_fetch (xr_cd xm_164) pc = some (i, n) → xr_ok (xt_T L xs) xt_GW xt_ST xt_AO xm_164 pc i n) ∧ xr_hok xt_GW xt_NC xm_164 := ⟨xr_cdb_s (T := xt_T L xs) (ST := xt_ST) (AO := xt_AO) (GW := xt_GW) (cp := xt_cp10) (ini := false) (M := xm_164) (xt_cp10_ok L xs) (fun h => Bool.noConfusion h) xt_arr xk_164, (fun _ h => absurd h List.not_mem_nil)⟩
theorem xl_164 : xr_cal xt_GW xm_164 := ⟨plainFor_of_name (by decide +kernel), (xt_in 26 rfl (List.mem_of_getElem? (i := 25) rfl)), (xt_in 2 rfl (List.mem_of_getElem? (i := 37) rfl)), ⟨by decide +kernel, by decide +kernel⟩, by decide +kernel, by decide⟩
theorem xk_165 : xr_cdb xt_cp10 false xm_165 = true := by decide +kernel
set_option maxRecDepth 100000 in
theorem xo_165 (L : Nat) (xs : Nat → Int32) : (∀ (pc : Nat) (i : Instr) (n : Nat), xr_fetch (xr_cd xm_165) pc = some (i, n) → xr_ok (xt_T L xs) xt_GW xt_ST xt_AO xm_165 pc i n) ∧ xr_hok xt_GW xt_NC xm_165 := ⟨xr_cdb_s (T := xt_T L xs) (ST := xt_ST) (AO := xt_AO) (GW := xt_GW) (cp := xt_cp10) (ini := false) (M := xm_165) (xt_cp10_ok L xs) (fun h => Bool.noConfusion h) xt_arr xk_165, (fun _ h => absurd h List.not_mem_nil)⟩
theorem xl_165 : xr_cal xt_GW xm_165 := ⟨plainFor_of_name (by decide +kernel), (xt_in 26 rfl (List.mem_of_getElem? (i := 13) rfl)), (xt_in 2 rfl (List.mem_of_getElem? (i := 37) rfl)), ⟨by decide +kernel, by decide +kernel⟩, by decide +kernel, by decide⟩
