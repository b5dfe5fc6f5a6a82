/-! methods that are checked -/
theorem xk_196_0 : ((xc_196.drop 0).take 40).all (fun q => xr_okb xt_cp10 false xm_196 q.1 q.2.1 q.2.2) = true := by decide +kernel
theorem xk_196_40 : ((xc_196.drop 40).take 40).all (fun q => xr_okb xt_cp10 false xm_196 q.1 q.2.1 q.2.2) = true := by decide +kernel
theorem xk_196 : xr_cdb xt_cp10 false xm_196 = true := (xr_chk _ 40 0 _ xk_196_0 (xr_chk _ 40 40 _ xk_196_40 (by decide +kernel)))
set_option maxRecDepth 100000 in
theorem xo_196 (L : Nat) (xs : Nat → Int32) : (∀ (pc : Nat) (i : Instr) (n : Nat), xr_fetch (xr_cd xm_196) pc = some (i, n) → xr_ok (xt_T L xs) xt_GW xt_ST xt_AO xm_196 pc i n) ∧ xr_hok xt_GW xt_NC xm_196 := ⟨xr_cdb_s (T := xt_T L xs) (ST := xt_ST) (AO := xt_AO) (GW := xt_GW) (cp := xt_cp10) (ini := false) (M := xm_196) (xt_cp10_ok L xs) (fun h => Bool.noConfusion h) xt_arr xk_196, (fun _ h => absurd h List.not_mem_nil)⟩
theorem xl_196 : xr_cal xt_GW xm_196 := ⟨plainFor_of_name (by decide +kernel), (xt_in 28 rfl (List.mem_of_getElem? (i := 22) rfl)), (xt_in 2 rfl (List.mem_of_getElem? (i := 37) rfl)), ⟨by decide +kernel, by decide +kernel⟩, by decide +kernel, by decide⟩
theorem xk_197 : xr_cdb xt_cp10 false xm_197 = true := by decide +kernel
set_option maxRecDepth 100000 in
theorem xo_197 (L : Nat) (xs : Nat → Int32) : (∀ (pc : Nat) (i : Instr) (n : Nat), xr_fetch (xr_cd xm_197) pc = some (i, n) → xr_ok (xt_T L xs) xt_GW xt_ST xt_AO xm_197 pc i n) ∧ xr_hok xt_GW xt_NC xm_197 := ⟨xr_cdb_s (T := xt_T L xs) (ST := xt_ST) (AO := xt_AO) (GW := xt_GW) (cp := xt_cp10) (ini := false) (M := xm_197) (xt_cp10_ok L xs) (fun h => Bool.noConfusion h) xt_arr xk_197, (fun _ h => absurd h List.not_mem_nil)⟩
theorem xl_197 : xr_cal xt_GW xm_197 := ⟨plainFor_of_name (by decide +kernel), (xt_in 28 rfl (List.mem_of_getElem? (i := 39) rfl)), (xt_in 2 rfl (List.mem_of_getElem? (i := 37) rfl)), ⟨by decide +kernel, by decide +kernel⟩, by decide +kernel, by decide⟩
theorem xk_198 : xr_cdb xt_cp10 false xm_198 = true := by decide +kernel
set_option maxRecDepth 100000 in
theorem xo_198 (L : Nat) (xs : Nat → Int32) : (∀ (pc : Nat) (i : Instr) (n : Nat), xr_fetch (xr_cd xm_198) pc = some (i, n) → xr_ok (xt_T L xs) xt_GW xt_ST xt_AO xm_198 pc i n) ∧ xr_hok xt_GW xt_NC xm_198 := ⟨xr_cdb_s (T := xt_T L xs) (ST := xt_ST) (AO := xt_AO) (GW := xt_GW) (cp := xt_cp10) (ini := false) (M := xm_198) (xt_cp10_ok L xs) (fun h => Bool.noConfusion h) xt_arr xk_198, (fun _ h => absurd h List.not_mem_nil)⟩
theorem xl_198 : xr_cal xt_GW xm_198 := ⟨plainFor_of_name (by decide +kernel), (xt_in 29 rfl (List.mem_of_getElem? (i := 6) rfl)), (xt_in 2 rfl (List.mem_of_getElem? (i := 37) rfl)), ⟨by decide +kernel, by decide +kernel⟩, by decide +kernel, by decide⟩
theorem xk_199_0 : ((xc_199.drop 0).take 40).all (fun q => xr_okb xt_cp10 false xm_199 q.1 q.2.1 q.2.2) = true := by decide +kernel
theorem xk_199_40 : ((xc_199.drop 40).take 40).all (fun q => xr_okb xt_cp10 false xm_199 q.1 q.2.1 q.2.2) = true := by decide +kernel
theorem xk_199 : xr_cdb xt_cp10 false xm_199 = true := (xr_chk _ 40 0 _ xk_199_0 (xr_chk _ 40 40 _ xk_199_40 (by decide +kernel)))
set_option maxRecDepth 100000 in
theorem xo_199 (L : Nat) (xs : Nat → Int32) : (∀ (pc : Nat) (i : Instr) (n : Nat), xr_fetch (xr_cd xm_199) pc = some (i, n) → xr_ok (xt_T L xs) xt_GW xt_ST xt_AO xm_199 pc i n) ∧ xr_hok xt_GW xt_NC xm_199 := ⟨xr_cdb_s (T := xt_T L xs) (ST := xt_ST) (AO := xt_AO) (GW := xt_GW) (cp := xt_cp10) (ini := false) (M := xm_199) (xt_cp10_ok L xs) (fun h => Bool.noConfusion h) xt_arr xk_199, (fun _ h => absurd h List.not_mem_nil)⟩
theorem xl_199 : xr_cal xt_GW xm_199 := ⟨plainFor_of_name (by decide +kernel), (xt_in 29 rfl (List.mem_of_getElem? (i := 11) rfl)), (xt_in 2 rfl (List.mem_of_getElem? (i := 37) rfl)), ⟨by decide +kernel, by decide +kernel⟩, by decide +kernel, by decide⟩
theorem xk_200_0 : ((xc_200.drop 0).take 40).all (fun q => xr_okb xt_cp10 false xm_200 q.1 q.2.1 q.2.2) = true := by decide +kernel
theorem xk_200_40 : ((xc_200.drop 40).take 40).all (fun q => xr_okb xt_cp10 false xm_200 q.1 q.2.1 q.2.2) = true := by decide +kernel
theorem xk_200_80 : ((xc_200.drop 80).take 40).all (fun q => xr_okb xt_cp10 false xm_200 q.1 q.2.1 q.2.2) = true := by decide +kernel
theorem xk_200_120 : ((xc_200.drop 120).take 40).all (fun q => xr_okb xt_cp10 false xm_200 q.1 q.2.1 q.2.2) = true := by decide +kernel
theorem xk_200 : xr_cdb xt_cp10 false xm_200 = true := (xr_chk _ 40 0 _ xk_200_0 (xr_chk _ 40 40 _ xk_200_40 (xr_chk _ 40 80 _ xk_200_80 (xr_chk _ 40 120 _ xk_200_120 (by decide +kernel)))))
set_option maxRecDepth 100000 in
theorem xo_200 (L : Nat) (xs : Nat → Int32) : (∀ (pc : Nat) (i : Instr) (n : Nat), xr_fetch (xr_cd xm_200) pc = some (i, n) → xr_ok (xt_T L xs) xt_GW xt_ST xt_AO xm_200 pc i n) ∧ xr_hok xt_GW xt_NC xm_200 := ⟨xr_cdb_s (T := xt_T L xs) (ST := xt_ST) (AO := xt_AO) (GW := xt_GW) (cp := xt_cp10) (ini := false) (M := xm_200) (xt_cp10_ok L xs) (fun h => Bool.noConfusion h) xt_arr xk_200, (fun _ h => absurd h List.not_mem_nil)⟩
theorem xl_200 : xr_cal xt_GW xm_200 := ⟨plainFor_of_name (by decide +kernel), (xt_in 29 rfl (List.mem_of_getElem? (i := 15) rfl)), (xt_in 2 rfl (List.mem_of_getElem? (i := 37) rfl)), ⟨by decide +kernel, by decide +kernel⟩, by decide +kernel, by decide⟩
theorem xk_201 : xr_cdb xt_cp10 false xm_201 = true := by decide +kernel
set_option maxRecDepth 100000 in
theorem xo_201 (L : Nat) (xs : Nat → Int32) : (∀ (pc : Nat) (i : Instr) (n : Nat), xr_fetch (xr_cd xm_201) pc = some (i, n) → xr_ok (xt_T L xs) xt_GW xt_ST xt_AO xm_201 pc i n) ∧ xr_hok xt_GW xt_NC xm_201 := ⟨xr_cdb_s (T := xt_T L xs) (ST := xt_ST) (AO := xt_AO) (GW := xt_GW) (cp := xt_cp10) (ini := false) (M := xm_201) (xt_cp10_ok L xs) (fun h => Bool.noConfusion h) xt_arr xk_201, (fun _ h => absurd h List.not_mem_nil)⟩
theorem xl_201 : xr_cal xt_GW xm_201 := ⟨plainFor_of_name (by decide +kernel), (xt_in 29 rfl (List.mem_of_getElem? (i := 19) rfl)), (xt_in 2 rfl (List.mem_of_getElem? (i := 37) rfl)), ⟨by decide +kernel, by decide +kernel⟩, by decide +kernel, by decide⟩
theorem xk_202 : xr_cdb xt_cp10 false xm_202 = true := by decide +kernel
set_option maxRecDepth 100000 in
theorem xo_202 (L : Nat) (xs : Nat → Int32) : (∀ (pc : Nat) (i : Instr) (n : Nat), xr_fetch (xr_cd xm_202) pc = some (i, n) → xr_ok (xt_T L xs) xt_GW xt_ST xt_AO xm_202 pc i n) ∧ xr_hok xt_GW xt_NC xm_202 := ⟨xr_cdb_s (T := xt_T L xs) (ST := xt_ST) (AO := xt_AO) (GW := xt_GW) (cp := xt_cp10) (ini := false) (M := xm_202) (xt_cp10_ok L xs) (fun h => Bool.noConfusion h) xt_arr xk_202, (fun _ h => absurd h List.not_mem_nil)⟩
theorem xl_202 : xr_cal xt_GW xm_202 := ⟨plainFor_of_name (by decide +kernel), (xt_in 29 rfl (List.mem_of_getElem? (i := 23) rfl)), (xt_in 2 rfl (List.mem_of_getElem? (i := 37) rfl)), ⟨by decide +kernel, by decide +kernel⟩, by decide +kernel, by decide⟩
theorem xk_203 : xr_cdb xt_cp10 false xm_203 = true := by decide +kernel
set_option maxRecDepth 100000 in
theorem xo_203 (L : Nat) (xs : Nat → Int32) : (∀ (pc : Nat) (i : Instr) (n : Nat), xr_fetch (xr_cd xm_203) pc = some (i, n) → xr_ok (xt_T L xs) xt_GW xt_ST xt_AO xm_203 pc i n) ∧ xr_hok xt_GW xt_NC xm_203 := ⟨xr_cdb_s (T := xt_T L xs) (ST := xt_ST) (AO := xt_AO) (GW := xt_GW) (cp := xt_cp10) (ini := false) (M := xm_203) (xt_cp10_ok L xs) (fun h => Bool.noConfusion h) xt_arr xk_203, (fun _ h => absurd h List.not_mem_nil)⟩
theorem xl_203 : xr_cal xt_GW xm_203 := ⟨plainFor_of_name (by decide +kernel), (xt_in 29 rfl (List.mem_of_getElem? (i := 30) rfl)), (xt_in 2 rfl (List.mem_of_getElem? (i := 37) rfl)), ⟨by decide +kernel, by decide +kernel⟩, by decide +kernel, by decide⟩
theorem xk_204 : xr_cdb xt_cp10 false xm_204 = true := by decide +kernel
set_option maxRecDepth 100000 in
theorem xo_204 (L : Nat) (xs : Nat → Int32) : (∀ (pc : Nat) (i : Instr) (n : Nat), xr_fetch (xr_cd xm_204) pc = some (i, n) → xr_ok (xt_T L xs) xt_GW xt_ST xt_AO xm_204 pc i n) ∧ xr_hok xt_GW xt_NC xm_204 := ⟨xr_cdb_s (T := xt_T L xs) (ST := xt_ST) (AO := xt_AO) (GW := xt_GW) (cp := xt_cp10) (ini := false) (M := xm_204) (xt_cp10_ok L xs) (fun h => Bool.noConfusion h) xt_arr xk_204, (fun _ h => absurd h List.not_mem_nil)⟩
theorem xl_204 : xr_cal xt_GW xm_204 := ⟨plainFor_of_name (by decide +kernel), (xt_in 30 rfl (List.mem_of_getElem? (i := 11) rfl)), (xt_in 2 rfl (List.mem_of_getElem? (i := 37) rfl)), ⟨by decide +kernel, by decide +kernel⟩, by decide +kernel, by decide⟩
