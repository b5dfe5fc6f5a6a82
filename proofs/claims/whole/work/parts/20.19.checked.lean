/-! methods that are checked -/
theorem xk_182_40 : ((xc_182.drop 40).take 40).all (fun q => xr_okb xt_cp10 false xm_182 q.1 q.2.1 q.2.2) = true := by decide +kernel
theorem xk_182_80 : ((xc_182.drop 80).take 40).all (fun q => xr_okb xt_cp10 false xm_182 q.1 q.2.1 q.2.2) = true := by decide +kernel
theorem xk_182_120 : ((xc_182.drop 120).take 40).all (fun q => xr_okb xt_cp10 false xm_182 q.1 q.2.1 q.2.2) = true := by decide +kernel
theorem xk_182 : xr_cdb xt_cp10 false xm_182 = true := (xr_chk _ 40 0 _ xk_182_0 (xr_chk _ 40 40 _ xk_182_40 (xr_chk _ 40 80 _ xk_182_80 (xr_chk _ 40 120 _ xk_182_120 (by decide +kernel)))))
set_option maxRecDepth 100000 in
theorem xo_182 (L : Nat) (xs : Nat → Int32) : (∀ (pc : Nat) (i : Instr) (n : Nat), xr_fetch (xr_cd xm_182) pc = some (i, n) → xr_ok (xt_T L xs) xt_GW xt_ST xt_AO xm_182 pc i n) ∧ xr_hok xt_GW xt_NC xm_182 := ⟨xr_cdb_s (T := xt_T L xs) (ST := xt_ST) (AO := xt_AO) (GW := xt_GW) (cp := xt_cp10) (ini := false) (M := xm_182) (xt_cp10_ok L xs) (fun h => Bool.noConfusion h) xt_arr xk_182, (fun _ h => absurd h List.not_mem_nil)⟩
theorem xl_182 : xr_cal xt_GW xm_182 := ⟨plainFor_of_name (by decide +kernel), (xt_in 27 rfl (List.mem_of_getElem? (i := 13) rfl)), (xt_in 2 rfl (List.mem_of_getElem? (i := 37) rfl)), ⟨by decide +kernel, by decide +kernel⟩, by decide +kernel, by decide⟩
theorem xk_183_0 : ((xc_183.drop 0).take 40).all (fun q => xr_okb xt_cp10 false xm_183 q.1 q.2.1 q.2.2) = true := by decide +kernel
theorem xk_183_40 : ((xc_183.drop 40).take 40).all (fun q => xr_okb xt_cp10 false xm_183 q.1 q.2.1 q.2.2) = true := by decide +kernel
theorem xk_183_80 : ((xc_183.drop 80).take 40).all (fun q => xr_okb xt_cp10 false xm_183 q.1 q.2.1 q.2.2) = true := by decide +kernel
theorem xk_183 : xr_cdb xt_cp10 false xm_183 = true := (xr_chk _ 40 0 _ xk_183_0 (xr_chk _ 40 40 _ xk_183_40 (xr_chk _ 40 80 _ xk_183_80 (by decide +kernel))))
set_option maxRecDepth 100000 in
theorem xo_183 (L : Nat) (xs : Nat → Int32) : (∀ (pc : Nat) (i : Instr) (n : Nat), xr_fetch (xr_cd xm_183) pc = some (i, n) → xr_ok (xt_T L xs) xt_GW xt_ST xt_AO xm_183 pc i n) ∧ xr_hok xt_GW xt_NC xm_183 := ⟨xr_cdb_s (T := xt_T L xs) (ST := xt_ST) (AO := xt_AO) (GW := xt_GW) (cp := xt_cp10) (ini := false) (M := xm_183) (xt_cp10_ok L xs) (fun h => Bool.noConfusion h) xt_arr xk_183, (fun _ h => absurd h List.not_mem_nil)⟩
theorem xl_183 : xr_cal xt_GW xm_183 := ⟨plainFor_of_name (by decide +kernel), (xt_in 27 rfl (List.mem_of_getElem? (i := 28) rfl)), (xt_in 2 rfl (List.mem_of_getElem? (i := 37) rfl)), ⟨by decide +kernel, by decide +kernel⟩, by decide +kernel, by decide⟩
theorem xk_184_0 : ((xc_184.drop 0).take 40).all (fun q => xr_okb xt_cp10 false xm_184 q.1 q.2.1 q.2.2) = true := by decide +kernel
theorem xk_184_40 : ((xc_184.drop 40).take 40).all (fun q => xr_okb xt_cp10 false xm_184 q.1 q.2.1 q.2.2) = true := by decide +kernel
theorem xk_184_80 : ((xc_184.drop 80).take 40).all (fun q => xr_okb xt_cp10 false xm_184 q.1 q.2.1 q.2.2) = true := by decide +kernel
theorem xk_184 : xr_cdb xt_cp10 false xm_184 = true := (xr_chk _ 40 0 _ xk_184_0 (xr_chk _ 40 40 _ xk_184_40 (xr_chk _ 40 80 _ xk_184_80 (by decide +kernel))))
set_option maxRecDepth 100000 in
theorem xo_184 (L : Nat) (xs : Nat → Int32) : (∀ (pc : Nat) (i : Instr) (n : Nat), xr_fetch (xr_cd xm_184) pc = some (i, n) → xr_ok (xt_T L xs) xt_GW xt_ST xt_AO xm_184 pc i n) ∧ xr_hok xt_GW xt_NC xm_184 := ⟨xr_cdb_s (T := xt_T L xs) (ST := xt_ST) (AO := xt_AO) (GW := xt_GW) (cp := xt_cp10) (ini := false) (M := xm_184) (xt_cp10_ok L xs) (fun h => Bool.noConfusion h) xt_arr xk_184, (fun _ h => absurd h List.not_mem_nil)⟩
theorem xl_184 : xr_cal xt_GW xm_184 := ⟨plainFor_of_name (by decide +kernel), (xt_in 28 rfl (List.mem_of_getElem? (i := 1) rfl)), (xt_in 2 rfl (List.mem_of_getElem? (i := 37) rfl)), ⟨by decide +kernel, by decide +kernel⟩, by decide +kernel, by decide⟩
theorem xk_185_0 : ((xc_185.drop 0).take 40).all (fun q => xr_okb xt_cp10 false xm_185 q.1 q.2.1 q.2.2) = true := by decide +kernel
theorem xk_185_40 : ((xc_185.drop 40).take 40).all (fun q => xr_okb xt_cp10 false xm_185 q.1 q.2.1 q.2.2) = true := by decide +kernel
theorem xk_185_80 : ((xc_185.drop 80).take 40).all (fun q => xr_okb xt_cp10 false xm_185 q.1 q.2.1 q.2.2) = true := by decide +kernel
theorem xk_185_120 : ((xc_185.drop 120).take 40).all (fun q => xr_okb xt_cp10 false xm_185 q.1 q.2.1 q.2.2) = true := by decide +kernel
