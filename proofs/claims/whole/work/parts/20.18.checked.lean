/-! methods that are checked -/
theorem xk_178 : xr_cdb xt_cp10 false xm_178 = true := by decide +kernel
set_option maxRecDepth 100000 in
theorem xo_178 (L : Nat) (xs : Nat → Int32) : (∀ (pc : Nat) (i : Instr) (n : Nat), xr_fetch (xr_cd xm_178) pc = some (i, n) → xr_ok (xt_T L xs) xt_GW xt_ST xt_AO xm_178 pc i n) ∧ xr_hok xt_GW xt_NC xm_178 := ⟨xr_cdb_s (T := xt_T L xs) (ST := xt_ST) (AO := xt_AO) (GW := xt_GW) (cp := xt_cp10) (ini := false) (M := xm_178) (xt_cp10_ok L xs) (fun h => Bool.noConfusion h) xt_arr xk_178, (fun _ h => absurd h List.not_mem_nil)⟩
theorem xl_178 : xr_cal xt_GW xm_178 := ⟨plainFor_of_name (by decide +kernel), (xt_in 27 rfl (List.mem_of_getElem? (i := 25) rfl)), (xt_in 2 rfl (List.mem_of_getElem? (i := 37) rfl)), ⟨by decide +kernel, by decide +kernel⟩, by decide +kernel, by decide⟩
theorem xk_179_0 : ((xc_179.drop 0).take 40).all (fun q => xr_okb xt_cp10 false xm_179 q.1 q.2.1 q.2.2) = true := by decide +kernel
theorem xk_179_40 : ((xc_179.drop 40).take 40).all (fun q => xr_okb xt_cp10 false xm_179 q.1 q.2.1 q.2.2) = true := by decide +kernel
theorem xk_179_80 : ((xc_179.drop 80).take 40).all (fun q => xr_okb xt_cp10 false xm_179 q.1 q.2.1 q.2.2) = true := by decide +kernel
theorem xk_179_120 : ((xc_179.drop 120).take 40).all (fun q => xr_okb xt_cp10 false xm_179 q.1 q.2.1 q.2.2) = true := by decide +kernel
theorem xk_179 : xr_cdb xt_cp10 false xm_179 = true := (xr_chk _ 40 0 _ xk_179_0 (xr_chk _ 40 40 _ xk_179_40 (xr_chk _ 40 80 _ xk_179_80 (xr_chk _ 40 120 _ xk_179_120 (by decide +kernel)))))
set_option maxRecDepth 100000 in
theorem xo_179 (L : Nat) (xs : Nat → Int32) : (∀ (pc : Nat) (i : Instr) (n : Nat), xr_fetch (xr_cd xm_179) pc = some (i, n) → xr_ok (xt_T L xs) xt_GW xt_ST xt_AO xm_179 pc i n) ∧ xr_hok xt_GW xt_NC xm_179 := ⟨xr_cdb_s (T := xt_T L xs) (ST := xt_ST) (AO := xt_AO) (GW := xt_GW) (cp := xt_cp10) (ini := false) (M := xm_179) (xt_cp10_ok L xs) (fun h => Bool.noConfusion h) xt_arr xk_179, (fun _ h => absurd h List.not_mem_nil)⟩
theorem xl_179 : xr_cal xt_GW xm_179 := ⟨plainFor_of_name (by decide +kernel), (xt_in 28 rfl (List.mem_of_getElem? (i := 7) rfl)), (xt_in 2 rfl (List.mem_of_getElem? (i := 37) rfl)), ⟨by decide +kernel, by decide +kernel⟩, by decide +kernel, by decide⟩
theorem xk_180_0 : ((xc_180.drop 0).take 40).all (fun q => xr_okb xt_cp10 false xm_180 q.1 q.2.1 q.2.2) = true := by decide +kernel
theorem xk_180_40 : ((xc_180.drop 40).take 40).all (fun q => xr_okb xt_cp10 false xm_180 q.1 q.2.1 q.2.2) = true := by decide +kernel
theorem xk_180_80 : ((xc_180.drop 80).take 40).all (fun q => xr_okb xt_cp10 false xm_180 q.1 q.2.1 q.2.2) = true := by decide +kernel
theorem xk_180 : xr_cdb xt_cp10 false xm_180 = true := (xr_chk _ 40 0 _ xk_180_0 (xr_chk _ 40 40 _ xk_180_40 (xr_chk _ 40 80 _ xk_180_80 (by decide +kernel))))
set_option maxRecDepth 100000 in
theorem xo_180 (L : Nat) (xs : Nat → Int32) : (∀ (pc : Nat) (i : Instr) (n : Nat), xr_fetch (xr_cd xm_180) pc = some (i, n) → xr_ok (xt_T L xs) xt_GW xt_ST xt_AO xm_180 pc i n) ∧ xr_hok xt_GW xt_NC xm_180 := ⟨xr_cdb_s (T := xt_T L xs) (ST := xt_ST) (AO := xt_AO) (GW := xt_GW) (cp := xt_cp10) (ini := false) (M := xm_180) (xt_cp10_ok L xs) (fun h => Bool.noConfusion h) xt_arr xk_180, (fun _ h => absurd h List.not_mem_nil)⟩
theorem xl_180 : xr_cal xt_GW xm_180 := ⟨plainFor_of_name (by decide +kernel), (xt_in 28 rfl (List.mem_of_getElem? (i := 10) rfl)), (xt_in 2 rfl (List.mem_of_getElem? (i := 37) rfl)), ⟨by decide +kernel, by decide +kernel⟩, by decide +kernel, by decide⟩
theorem xk_181_0 : ((xc_181.drop 0).take 40).all (fun q => xr_okb xt_cp10 false xm_181 q.1 q.2.1 q.2.2) = true := by decide +kernel
theorem xk_181_40 : ((xc_181.drop 40).take 40).all (fun q => xr_okb xt_cp10 false xm_181 q.1 q.2.1 q.2.2) = true := by decide +kernel
theorem xk_181_80 : ((xc_181.drop 80).take 40).all (fun q => xr_okb xt_cp10 false xm_181 q.1 q.2.1 q.2.2) = true := by decide +kernel
theorem xk_181_120 : ((xc_181.drop 120).take 40).all (fun q => xr_okb xt_cp10 false xm_181 q.1 q.2.1 q.2.2) = true := by decide +kernel
theorem xk_181 : xr_cdb xt_cp10 false xm_181 = true := (xr_chk _ 40 0 _ xk_181_0 (xr_chk _ 40 40 _ xk_181_40 (xr_chk _ 40 80 _ xk_181_80 (xr_chk _ 40 120 _ xk_181_120 (by decide +kernel)))))
set_option maxRecDepth 100000 in
theorem xo_181 (L : Nat) (xs : Nat → Int32) : (∀ (pc : Nat) (i : Instr) (n : Nat), xr_fetch (xr_cd xm_181) pc = some (i, n) → xr_ok (xt_T L xs) xt_GW xt_ST xt_AO xm_181 pc i n) ∧ xr_hok xt_GW xt_NC xm_181 := ⟨xr_cdb_s (T := xt_T L xs) (ST := xt_ST) (AO := xt_AO) (GW := xt_GW) (cp := xt_cp10) (ini := false) (M := xm_181) (xt_cp10_ok L xs) (fun h => Bool.noConfusion h) xt_arr xk_181, (fun _ h => absurd h List.not_mem_nil)⟩
theorem xl_181 : xr_cal xt_GW xm_181 := ⟨plainFor_of_name (by decide +kernel), (xt_in 27 rfl (List.mem_of_getElem? (i := 16) rfl)), (xt_in 2 rfl (List.mem_of_getElem? (i := 37) rfl)), ⟨by decide +kernel, by decide +kernel⟩, by decide +kernel, by decide⟩
theorem xk_182_0 : ((xc_182.drop 0).take 40).all (fun q => xr_okb xt_cp10 false xm_182 q.1 q.2.1 q.2.2) = true := by decide +kernel
