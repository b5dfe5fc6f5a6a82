/-! methods that are checked -/
theorem xk_205_0 : ((xc_205.drop 0).take 40).all (fun q => xr_okb xt_cp10 false xm_205 q.1 q.2.1 q.2.2) = true := by decide +kernel
theorem xk_205_40 : ((xc_205.drop 40).take 40).all (fun q => xr_okb xt_cp10 false xm_205 q.1 q.2.1 q.2.2) = true := by decide +kernel
theorem xk_205_80 : ((xc_205.drop 80).take 40).all (fun q => xr_okb xt_cp10 false xm_205 q.1 q.2.1 q.2.2) = true := by decide +kernel
theorem xk_205 : xr_cdb xt_cp10 false xm_205 = true := (xr_chk _ 40 0 _ xk_205_0 (xr_chk _ 40 40 _ xk_205_40 (xr_chk _ 40 80 _ xk_205_80 (by decide +kernel))))
set_option maxRecDepth 100000 in
theorem xo_205 (L : Nat) (xs : Nat → Int32) : (∀ (pc : Nat) (i : Instr) (n : Nat), xr_fetch (xr_cd xm_205) pc = some (i, n) → xr_ok (xt_T L xs) xt_GW xt_ST xt_AO xm_205 pc i n) ∧ xr_hok xt_GW xt_NC xm_205 := ⟨xr_cdb_s (T := xt_T L xs) (ST := xt_ST) (AO := xt_AO) (GW := xt_GW) (cp := xt_cp10) (ini := false) (M := xm_205) (xt_cp10_ok L xs) (fun h => Bool.noConfusion h) xt_arr xk_205, (fun _ h => absurd h List.not_mem_nil)⟩
theorem xl_205 : xr_cal xt_GW xm_205 := ⟨plainFor_of_name (by decide +kernel), (xt_in 29 rfl (List.mem_of_getElem? (i := 33) rfl)), (xt_in 2 rfl (List.mem_of_getElem? (i := 37) rfl)), ⟨by decide +kernel, by decide +kernel⟩, by decide +kernel, by decide⟩
theorem xk_206 : xr_cdb xt_cp10 false xm_206 = true := by decide +kernel
set_option maxRecDepth 100000 in
theorem xo_206 (L : Nat) (xs : Nat → Int32) : (∀ (pc : Nat) (i : Instr) (n : Nat), xr_fetch (xr_cd xm_206) pc = some (i, n) → xr_ok (xt_T L xs) xt_GW xt_ST xt_AO xm_206 pc i n) ∧ xr_hok xt_GW xt_NC xm_206 := ⟨xr_cdb_s (T := xt_T L xs) (ST := xt_ST) (AO := xt_AO) (GW := xt_GW) (cp := xt_cp10) (ini := false) (M := xm_206) (xt_cp10_ok L xs) (fun h => Bool.noConfusion h) xt_arr xk_206, (fun _ h => absurd h List.not_mem_nil)⟩
theorem xl_206 : xr_cal xt_GW xm_206 := ⟨plainFor_of_name (by decide +kernel), (xt_in 30 rfl (List.mem_of_getElem? (i := 8) rfl)), (xt_in 2 rfl (List.mem_of_getElem? (i := 37) rfl)), ⟨by decide +kernel, by decide +kernel⟩, by decide +kernel, by decide⟩
theorem xk_207_0 : ((xc_207.drop 0).take 40).all (fun q => xr_okb xt_cp10 false xm_207 q.1 q.2.1 q.2.2) = true := by decide +kernel
theorem xk_207_40 : ((xc_207.drop 40).take 40).all (fun q => xr_okb xt_cp10 false xm_207 q.1 q.2.1 q.2.2) = true := by decide +kernel
theorem xk_207_80 : ((xc_207.drop 80).take 40).all (fun q => xr_okb xt_cp10 false xm_207 q.1 q.2.1 q.2.2) = true := by decide +kernel
theorem xk_207_120 : ((xc_207.drop 120).take 40).all (fun q => xr_okb xt_cp10 false xm_207 q.1 q.2.1 q.2.2) = true := by decide +kernel
theorem xk_207_160 : ((xc_207.drop 160).take 40).all (fun q => xr_okb xt_cp10 false xm_207 q.1 q.2.1 q.2.2) = true := by decide +kernel
theorem xk_207 : xr_cdb xt_cp10 false xm_207 = true := (xr_chk _ 40 0 _ xk_207_0 (xr_chk _ 40 40 _ xk_207_40 (xr_chk _ 40 80 _ xk_207_80 (xr_chk _ 40 120 _ xk_207_120 (xr_chk _ 40 160 _ xk_207_160 (by decide +kernel))))))
set_option maxRecDepth 100000 in
theorem xo_207 (L : Nat) (xs : Nat → Int32) : (∀ (pc : Nat) (i : Instr) (n : Nat), xr_fetch (xr_cd xm_207) pc = some (i, n) → xr_ok (xt_T L xs) xt_GW xt_ST xt_AO xm_207 pc i n) ∧ xr_hok xt_GW xt_NC xm_207 := ⟨xr_cdb_s (T := xt_T L xs) (ST := xt_ST) (AO := xt_AO) (GW := xt_GW) (cp := xt_cp10) (ini := false) (M := xm_207) (xt_cp10_ok L xs) (fun h => Bool.noConfusion h) xt_arr xk_207, (fun _ h => absurd h List.not_mem_nil)⟩
theorem xl_207 : xr_cal xt_GW xm_207 := ⟨plainFor_of_name (by decide +kernel), (xt_in 30 rfl (List.mem_of_getElem? (i := 21) rfl)), (xt_in 2 rfl (List.mem_of_getElem? (i := 37) rfl)), ⟨by decide +kernel, by decide +kernel⟩, by decide +kernel, by decide⟩
theorem xk_208 : xr_cdb xt_cp10 false xm_208 = true := by decide +kernel
set_option maxRecDepth 100000 in
theorem xo_208 (L : Nat) (xs : Nat → Int32) : (∀ (pc : Nat) (i : Instr) (n : Nat), xr_fetch (xr_cd xm_208) pc = some (i, n) → xr_ok (xt_T L xs) xt_GW xt_ST xt_AO xm_208 pc i n) ∧ xr_hok xt_GW xt_NC xm_208 := ⟨xr_cdb_s (T := xt_T L xs) (ST := xt_ST) (AO := xt_AO) (GW := xt_GW) (cp := xt_cp10) (ini := false) (M := xm_208) (xt_cp10_ok L xs) (fun h => Bool.noConfusion h) xt_arr xk_208, (fun _ h => absurd h List.not_mem_nil)⟩
theorem xl_208 : xr_cal xt_GW xm_208 := ⟨plainFor_of_name (by decide +kernel), (xt_in 30 rfl (List.mem_of_getElem? (i := 24) rfl)), (xt_in 2 rfl (List.mem_of_getElem? (i := 37) rfl)), ⟨by decide +kernel, by decide +kernel⟩, by decide +kernel, by decide⟩
theorem xk_209 : xr_cdb xt_cp10 false xm_209 = true := by decide +kernel
set_option maxRecDepth 100000 in
theorem xo_209 (L : Nat) (xs : Nat → Int32) : (∀ (pc : Nat) (i : Instr) (n : Nat), xr_fetch (xr_cd xm_209) pc = some (i, n) → xr_ok (xt_T L xs) xt_GW xt_ST xt_AO xm_209 pc i n) ∧ xr_hok xt_GW xt_NC xm_209 := ⟨xr_cdb_s (T := xt_T L xs) (ST := xt_ST) (AO := xt_AO) (GW := xt_GW) (cp := xt_cp10) (ini := false) (M := xm_209) (xt_cp10_ok L xs) (fun h => Bool.noConfusion h) xt_arr xk_209, (fun _ h => absurd h List.not_mem_nil)⟩
theorem xl_209 : xr_cal xt_GW xm_209 := ⟨plainFor_of_name (by decide +kernel), (xt_in 30 rfl (List.mem_of_getElem? (i := 31) rfl)), (xt_in 2 rfl (List.mem_of_getElem? (i := 37) rfl)), ⟨by decide +kernel, by decide +kernel⟩, by decide +kernel, by decide⟩
theorem xk_210 : xr_cdb xt_cp10 false xm_210 = true := by decide +kernel
set_option maxRecDepth 100000 in
theorem xo_210 (L : Nat) (xs : Nat → Int32) : (∀ (pc : Nat) (i : Instr) (n : Nat), xr_fetch (xr_cd xm_210) pc = some (i, n) → xr_ok (xt_T L xs) xt_GW xt_ST xt_AO xm_210 pc i n) ∧ xr_hok xt_GW xt_NC xm_210 := ⟨xr_cdb_s (T := xt_T L xs) (ST := xt_ST) (AO := xt_AO) (GW := xt_GW) (cp := xt_cp10) (ini := false) (M := xm_210) (xt_cp10_ok L xs) (fun h => Bool.noConfusion h) xt_arr xk_210, (fun _ h => absurd h List.not_mem_nil)⟩
theorem xl_210 : xr_cal xt_GW xm_210 := ⟨plainFor_of_name (by decide +kernel), (xt_in 30 rfl (List.mem_of_getElem? (i := 2) rfl)), (xt_in 2 rfl (List.mem_of_getElem? (i := 37) rfl)), ⟨by decide +kernel, by decide +kernel⟩, by decide +kernel, by decide⟩
theorem xk_211_0 : ((xc_211.drop 0).take 40).all (fun q => xr_okb xt_cp10 false xm_211 q.1 q.2.1 q.2.2) = true := by decide +kernel
