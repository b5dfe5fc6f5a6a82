/-! methods that are checked -/
theorem xk_143_200 : ((xc_143.drop 200).take 40).all (fun q => xr_okb xt_cp9 false xm_143 q.1 q.2.1 q.2.2) = true := by decide +kernel
theorem xk_143_240 : ((xc_143.drop 240).take 40).all (fun q => xr_okb xt_cp9 false xm_143 q.1 q.2.1 q.2.2) = true := by decide +kernel
theorem xk_143 : xr_cdb xt_cp9 false xm_143 = true := (xr_chk _ 40 0 _ xk_143_0 (xr_chk _ 40 40 _ xk_143_40 (xr_chk _ 40 80 _ xk_143_80 (xr_chk _ 40 120 _ xk_143_120 (xr_chk _ 40 160 _ xk_143_160 (xr_chk _ 40 200 _ xk_143_200 (xr_chk _ 40 240 _ xk_143_240 (by decide +kernel))))))))
set_option maxRecDepth 100000 in
theorem xo_143 (L : Nat) (xs : Nat → Int32) : (∀ (pc : Nat) (i : Instr) (n : Nat), xr_fetch (xr_cd xm_143) pc = some (i, n) → xr_ok (xt_T L xs) xt_GW xt_ST xt_AO xm_143 pc i n) ∧ xr_hok xt_GW xt_NC xm_143 := ⟨xr_cdb_s (T := xt_T L xs) (ST := xt_ST) (AO := xt_AO) (GW := xt_GW) (cp := xt_cp9) (ini := false) (M := xm_143) (xt_cp9_ok L xs) (fun h => Bool.noConfusion h) xt_arr xk_143, (fun _ h => absurd h List.not_mem_nil)⟩
theorem xl_143 : xr_cal xt_GW xm_143 := ⟨plainFor_of_name (by decide +kernel), (xt_in 21 rfl (List.mem_of_getElem? (i := 0) rfl)), (xt_in 1 rfl (List.mem_of_getElem? (i := 13) rfl)), ⟨by decide +kernel, by decide +kernel⟩, by decide +kernel, by decide⟩
theorem xk_144_0 : ((xc_144.drop 0).take 40).all (fun q => xr_okb xt_cp9 false xm_144 q.1 q.2.1 q.2.2) = true := by decide +kernel
theorem xk_144_40 : ((xc_144.drop 40).take 40).all (fun q => xr_okb xt_cp9 false xm_144 q.1 q.2.1 q.2.2) = true := by decide +kernel
theorem xk_144_80 : ((xc_144.drop 80).take 40).all (fun q => xr_okb xt_cp9 false xm_144 q.1 q.2.1 q.2.2) = true := by decide +kernel
theorem xk_144_120 : ((xc_144.drop 120).take 40).all (fun q => xr_okb xt_cp9 false xm_144 q.1 q.2.1 q.2.2) = true := by decide +kernel
theorem xk_144 : xr_cdb xt_cp9 false xm_144 = true := (xr_chk _ 40 0 _ xk_144_0 (xr_chk _ 40 40 _ xk_144_40 (xr_chk _ 40 80 _ xk_144_80 (xr_chk _ 40 120 _ xk_144_120 (by decide +kernel)))))
set_option maxRecDepth 100000 in
theorem xo_144 (L : Nat) (xs : Nat → Int32) : (∀ (pc : Nat) (i : Instr) (n : Nat), xr_fetch (xr_cd xm_144) pc = some (i, n) → xr_ok (xt_T L xs) xt_GW xt_ST xt_AO xm_144 pc i n) ∧ xr_hok xt_GW xt_NC xm_144 := ⟨xr_cdb_s (T := xt_T L xs) (ST := xt_ST) (AO := xt_AO) (GW := xt_GW) (cp := xt_cp9) (ini := false) (M := xm_144) (xt_cp9_ok L xs) (fun h => Bool.noConfusion h) xt_arr xk_144, (fun _ h => absurd h List.not_mem_nil)⟩
theorem xl_144 : xr_cal xt_GW xm_144 := ⟨plainFor_of_name (by decide +kernel), (xt_in 19 rfl (List.mem_of_getElem? (i := 12) rfl)), (xt_in 1 rfl (List.mem_of_getElem? (i := 13) rfl)), ⟨by decide +kernel, by decide +kernel⟩, by decide +kernel, by decide⟩
theorem xk_145 : xr_cdb xt_cp9 false xm_145 = true := by decide +kernel
set_option maxRecDepth 100000 in
theorem xo_145 (L : Nat) (xs : Nat → Int32) : (∀ (pc : Nat) (i : Instr) (n : Nat), xr_fetch (xr_cd xm_145) pc = some (i, n) → xr_ok (xt_T L xs) xt_GW xt_ST xt_AO xm_145 pc i n) ∧ xr_hok xt_GW xt_NC xm_145 := ⟨xr_cdb_s (T := xt_T L xs) (ST := xt_ST) (AO := xt_AO) (GW := xt_GW) (cp := xt_cp9) (ini := false) (M := xm_145) (xt_cp9_ok L xs) (fun h => Bool.noConfusion h) xt_arr xk_145, (fun _ h => absurd h List.not_mem_nil)⟩
theorem xl_145 : xr_cal xt_GW xm_145 := ⟨plainFor_of_name (by decide +kernel), (xt_in 19 rfl (List.mem_of_getElem? (i := 15) rfl)), (xt_in 1 rfl (List.mem_of_getElem? (i := 13) rfl)), ⟨by decide +kernel, by decide +kernel⟩, by decide +kernel, by decide⟩
