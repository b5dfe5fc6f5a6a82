/-! methods that are checked -/
theorem xk_129_80 : ((xc_129.drop 80).take 40).all (fun q => xr_okb xt_cp9 false xm_129 q.1 q.2.1 q.2.2) = true := by decide +kernel
theorem xk_129_120 : ((xc_129.drop 120).take 40).all (fun q => xr_okb xt_cp9 false xm_129 q.1 q.2.1 q.2.2) = true := by decide +kernel
theorem xk_129_160 : ((xc_129.drop 160).take 40).all (fun q => xr_okb xt_cp9 false xm_129 q.1 q.2.1 q.2.2) = true := by decide +kernel
theorem xk_129_200 : ((xc_129.drop 200).take 40).all (fun q => xr_okb xt_cp9 false xm_129 q.1 q.2.1 q.2.2) = true := by decide +kernel
theorem xk_129_240 : ((xc_129.drop 240).take 40).all (fun q => xr_okb xt_cp9 false xm_129 q.1 q.2.1 q.2.2) = true := by decide +kernel
theorem xk_129_280 : ((xc_129.drop 280).take 40).all (fun q => xr_okb xt_cp9 false xm_129 q.1 q.2.1 q.2.2) = true := by decide +kernel
theorem xk_129_320 : ((xc_129.drop 320).take 40).all (fun q => xr_okb xt_cp9 false xm_129 q.1 q.2.1 q.2.2) = true := by decide +kernel
theorem xk_129_360 : ((xc_129.drop 360).take 40).all (fun q => xr_okb xt_cp9 false xm_129 q.1 q.2.1 q.2.2) = true := by decide +kernel
theorem xk_129_400 : ((xc_129.drop 400).take 40).all (fun q => xr_okb xt_cp9 false xm_129 q.1 q.2.1 q.2.2) = true := by decide +kernel
theorem xk_129_440 : ((xc_129.drop 440).take 40).all (fun q => xr_okb xt_cp9 false xm_129 q.1 q.2.1 q.2.2) = true := by decide +kernel
theorem xk_129 : xr_cdb xt_cp9 false xm_129 = true := (xr_chk _ 40 0 _ xk_129_0 (xr_chk _ 40 40 _ xk_129_40 (xr_chk _ 40 80 _ xk_129_80 (xr_chk _ 40 120 _ xk_129_120 (xr_chk _ 40 160 _ xk_129_160 (xr_chk _ 40 200 _ xk_129_200 (xr_chk _ 40 240 _ xk_129_240 (xr_chk _ 40 280 _ xk_129_280 (xr_chk _ 40 320 _ xk_129_320 (xr_chk _ 40 360 _ xk_129_360 (xr_chk _ 40 400 _ xk_129_400 (xr_chk _ 40 440 _ xk_129_440 (by decide +kernel)))))))))))))
set_option maxRecDepth 100000 in
theorem xo_129 (L : Nat) (xs : Nat → Int32) : (∀ (pc : Nat) (i : Instr) (n : Nat), xr_fetch (xr_cd xm_129) pc = some (i, n) → xr_ok (xt_T L xs) xt_GW xt_ST xt_AO xm_129 pc i n) ∧ xr_hok xt_GW xt_NC xm_129 := ⟨xr_cdb_s (T := xt_T L xs) (ST := xt_ST) (AO := xt_AO) (GW := xt_GW) (cp := xt_cp9) (ini := false) (M := xm_129) (xt_cp9_ok L xs) (fun h => Bool.noConfusion h) xt_arr xk_129, (fun _ h => absurd h List.not_mem_nil)⟩
theorem xl_129 : xr_cal xt_GW xm_129 := ⟨plainFor_of_name (by decide +kernel), (xt_in 20 rfl (List.mem_of_getElem? (i := 0) rfl)), (xt_in 1 rfl (List.mem_of_getElem? (i := 13) rfl)), ⟨by decide +kernel, by decide +kernel⟩, by decide +kernel, by decide⟩
theorem xk_130 : xr_cdb xt_cp0 false xm_130 = true := by decide +kernel
set_option maxRecDepth 100000 in
theorem xo_130 (L : Nat) (xs : Nat → Int32) : (∀ (pc : Nat) (i : Instr) (n : Nat), xr_fetch (xr_cd xm_130) pc = some (i, n) → xr_ok (xt_T L xs) xt_GW xt_ST xt_AO xm_130 pc i n) ∧ xr_hok xt_GW xt_NC xm_130 := ⟨xr_cdb_s (T := xt_T L xs) (ST := xt_ST) (AO := xt_AO) (GW := xt_GW) (cp := xt_cp0) (ini := false) (M := xm_130) (xt_cp0_ok L xs) (fun h => Bool.noConfusion h) xt_arr xk_130, (fun _ h => absurd h List.not_mem_nil)⟩
theorem xl_130 : xr_cal xt_GW xm_130 := ⟨plainFor_of_name (by decide +kernel), (xt_in 6 rfl (List.mem_of_getElem? (i := 9) rfl)), (xt_in 1 rfl (List.mem_of_getElem? (i := 14) rfl)), ⟨by decide +kernel, by decide +kernel⟩, by decide +kernel, by decide⟩
theorem xk_131 : xr_cdb xt_cp0 false xm_131 = true := by decide +kernel
set_option maxRecDepth 100000 in
theorem xo_131 (L : Nat) (xs : Nat → Int32) : (∀ (pc : Nat) (i : Instr) (n : Nat), xr_fetch (xr_cd xm_131) pc = some (i, n) → xr_ok (xt_T L xs) xt_GW xt_ST xt_AO xm_131 pc i n) ∧ xr_hok xt_GW xt_NC xm_131 := ⟨xr_cdb_s (T := xt_T L xs) (ST := xt_ST) (AO := xt_AO) (GW := xt_GW) (cp := xt_cp0) (ini := false) (M := xm_131) (xt_cp0_ok L xs) (fun h => Bool.noConfusion h) xt_arr xk_131, (fun _ h => absurd h List.not_mem_nil)⟩
theorem xl_131 : xr_cal xt_GW xm_131 := ⟨plainFor_of_name (by decide +kernel), (xt_in 5 rfl (List.mem_of_getElem? (i := 33) rfl)), (xt_in 1 rfl (List.mem_of_getElem? (i := 14) rfl)), ⟨by decide +kernel, by decide +kernel⟩, by decide +kernel, by decide⟩
theorem xk_132 : xr_cdb xt_cp0 false xm_132 = true := by decide +kernel
set_option maxRecDepth 100000 in
theorem xo_132 (L : Nat) (xs : Nat → Int32) : (∀ (pc : Nat) (i : Instr) (n : Nat), xr_fetch (xr_cd xm_132) pc = some (i, n) → xr_ok (xt_T L xs) xt_GW xt_ST xt_AO xm_132 pc i n) ∧ xr_hok xt_GW xt_NC xm_132 := ⟨xr_cdb_s (T := xt_T L xs) (ST := xt_ST) (AO := xt_AO) (GW := xt_GW) (cp := xt_cp0) (ini := false) (M := xm_132) (xt_cp0_ok L xs) (fun h => Bool.noConfusion h) xt_arr xk_132, (fun _ h => absurd h List.not_mem_nil)⟩
theorem xl_132 : xr_cal xt_GW xm_132 := ⟨plainFor_of_name (by decide +kernel), (xt_in 12 rfl (List.mem_of_getElem? (i := 35) rfl)), (xt_in 1 rfl (List.mem_of_getElem? (i := 14) rfl)), ⟨by decide +kernel, by decide +kernel⟩, by decide +kernel, by decide⟩
