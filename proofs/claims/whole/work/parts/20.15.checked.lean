/-! methods that are checked -/
theorem xk_166_0 : ((xc_166.drop 0).take 40).all (fun q => xr_okb xt_cp10 false xm_166 q.1 q.2.1 q.2.2) = true := by decide +kernel
theorem xk_166_40 : ((xc_166.drop 40).take 40).all (fun q => xr_okb xt_cp10 false xm_166 q.1 q.2.1 q.2.2) = true := by decide +kernel
theorem xk_166_80 : ((xc_166.drop 80).take 40).all (fun q => xr_okb xt_cp10 false xm_166 q.1 q.2.1 q.2.2) = true := by decide +kernel
theorem xk_166_120 : ((xc_166.drop 120).take 40).all (fun q => xr_okb xt_cp10 false xm_166 q.1 q.2.1 q.2.2) = true := by decide +kernel
theorem xk_166_160 : ((xc_166.drop 160).take 40).all (fun q => xr_okb xt_cp10 false xm_166 q.1 q.2.1 q.2.2) = true := by decide +kernel
theorem xk_166 : xr_cdb xt_cp10 false xm_166 = true := (xr_chk _ 40 0 _ xk_166_0 (xr_chk _ 40 40 _ xk_166_40 (xr_chk _ 40 80 _ xk_166_80 (xr_chk _ 40 120 _ xk_166_120 (xr_chk _ 40 160 _ xk_166_160 (by decide +kernel))))))
set_option maxRecDepth 100000 in
theorem xo_166 (L : Nat) (xs : Nat → Int32) : (∀ (pc : Nat) (i : Instr) (n : Nat), xr_fetch (xr_cd xm_166) pc = some (i, n) → xr_ok (xt_T L xs) xt_GW xt_ST xt_AO xm_166 pc i n) ∧ xr_hok xt_GW xt_NC xm_166 := ⟨xr_cdb_s (T := xt_T L xs) (ST := xt_ST) (AO := xt_AO) (GW := xt_GW) (cp := xt_cp10) (ini := false) (M := xm_166) (xt_cp10_ok L xs) (fun h => Bool.noConfusion h) xt_arr xk_166, (fun _ h => absurd h List.not_mem_nil)⟩
theorem xl_166 : xr_cal xt_GW xm_166 := ⟨plainFor_of_name (by decide +kernel), (xt_in 26 rfl (List.mem_of_getElem? (i := 10) rfl)), (xt_in 2 rfl (List.mem_of_getElem? (i := 37) rfl)), ⟨by decide +kernel, by decide +kernel⟩, by decide +kernel, by decide⟩
theorem xk_167 : xr_cdb xt_cp10 false xm_167 = true := by decide +kernel
set_option maxRecDepth 100000 in
theorem xo_167 (L : Nat) (xs : Nat → Int32) : (∀ (pc : Nat) (i : Instr) (n : Nat), xr_fetch (xr_cd xm_167) pc = some (i, n) → xr_ok (xt_T L xs) xt_GW xt_ST xt_AO xm_167 pc i n) ∧ xr_hok xt_GW xt_NC xm_167 := ⟨xr_cdb_s (T := xt_T L xs) (ST := xt_ST) (AO := xt_AO) (GW := xt_GW) (cp := xt_cp10) (ini := false) (M := xm_167) (xt_cp10_ok L xs) (fun h => Bool.noConfusion h) xt_arr xk_167, (fun _ h => absurd h List.not_mem_nil)⟩
theorem xl_167 : xr_cal xt_GW xm_167 := ⟨plainFor_of_name (by decide +kernel), (xt_in 26 rfl (List.mem_of_getElem? (i := 28) rfl)), (xt_in 2 rfl (List.mem_of_getElem? (i := 37) rfl)), ⟨by decide +kernel, by decide +kernel⟩, by decide +kernel, by decide⟩
theorem xk_168_0 : ((xc_168.drop 0).take 40).all (fun q => xr_okb xt_cp10 false xm_168 q.1 q.2.1 q.2.2) = true := by decide +kernel
theorem xk_168_40 : ((xc_168.drop 40).take 40).all (fun q => xr_okb xt_cp10 false xm_168 q.1 q.2.1 q.2.2) = true := by decide +kernel
theorem xk_168_80 : ((xc_168.drop 80).take 40).all (fun q => xr_okb xt_cp10 false xm_168 q.1 q.2.1 q.2.2) = true := by decide +kernel
theorem xk_168 : xr_cdb xt_cp10 false xm_168 = true := (xr_chk _ 40 0 _ xk_168_0 (xr_chk _ 40 40 _ xk_168_40 (xr_chk _ 40 80 _ xk_168_80 (by decide +kernel))))
set_option maxRecDepth 100000 in
theorem xo_168 (L : Nat) (xs : Nat → Int32) : (∀ (pc : Nat) (i : Instr) (n : Nat), xr_fetch (xr_cd xm_168) pc = some (i, n) → xr_ok (xt_T L xs) xt_GW xt_ST xt_AO xm_168 pc i n) ∧ xr_hok xt_GW xt_NC xm_168 := ⟨xr_cdb_s (T := xt_T L xs) (ST := xt_ST) (AO := xt_AO) (GW := xt_GW) (cp := xt_cp10) (ini := false) (M := xm_168) (xt_cp10_ok L xs) (fun h => Bool.noConfusion h) xt_arr xk_168, (fun _ h => absurd h List.not_mem_nil)⟩
theorem xl_168 : xr_cal xt_GW xm_168 := ⟨plainFor_of_name (by decide +kernel), (xt_in 26 rfl (List.mem_of_getElem? (i := 31) rfl)), (xt_in 2 rfl (List.mem_of_getElem? (i := 37) rfl)), ⟨by decide +kernel, by decide +kernel⟩, by decide +kernel, by decide⟩
theorem xk_169_0 : ((xc_169.drop 0).take 40).all (fun q => xr_okb xt_cp10 false xm_169 q.1 q.2.1 q.2.2) = true := by decide +kernel
theorem xk_169_40 : ((xc_169.drop 40).take 40).all (fun q => xr_okb xt_cp10 false xm_169 q.1 q.2.1 q.2.2) = true := by decide +kernel
