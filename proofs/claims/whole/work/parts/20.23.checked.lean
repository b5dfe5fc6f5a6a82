/-! methods that are checked -/
theorem xk_211_40 : ((xc_211.drop 40).take 40).all (fun q => xr_okb xt_cp10 false xm_211 q.1 q.2.1 q.2.2) = true := by decide +kernel
theorem xk_211_80 : ((xc_211.drop 80).take 40).all (fun q => xr_okb xt_cp10 false xm_211 q.1 q.2.1 q.2.2) = true := by decide +kernel
theorem xk_211 : xr_cdb xt_cp10 false xm_211 = true := (xr_chk _ 40 0 _ xk_211_0 (xr_chk _ 40 40 _ xk_211_40 (xr_chk _ 40 80 _ xk_211_80 (by decide +kernel))))
set_option maxRecDepth 100000 in
theorem xo_211 (L : Nat) (xs : Nat → Int32) : (∀ (pc : Nat) (i : Instr) (n : Nat), xr_fetch (xr_cd xm_211) pc = some (i, n) → xr_ok (xt_T L xs) xt_GW xt_ST xt_AO xm_211 pc i n) ∧ xr_hok xt_GW xt_NC xm_211 := ⟨xr_cdb_s (T := xt_T L xs) (ST := xt_ST) (AO := xt_AO) (GW := xt_GW) (cp := xt_cp10) (ini := false) (M := xm_211) (xt_cp10_ok L xs) (fun h => Bool.noConfusion h) xt_arr xk_211, (fun _ h => absurd h List.not_mem_nil)⟩
theorem xl_211 : xr_cal xt_GW xm_211 := ⟨plainFor_of_name (by decide +kernel), (xt_in 29 rfl (List.mem_of_getElem? (i := 36) rfl)), (xt_in 2 rfl (List.mem_of_getElem? (i := 37) rfl)), ⟨by decide +kernel, by decide +kernel⟩, by decide +kernel, by decide⟩
theorem xk_212_0 : ((xc_212.drop 0).take 40).all (fun q => xr_okb xt_cp10 false xm_212 q.1 q.2.1 q.2.2) = true := by decide +kernel
theorem xk_212_40 : ((xc_212.drop 40).take 40).all (fun q => xr_okb xt_cp10 false xm_212 q.1 q.2.1 q.2.2) = true := by decide +kernel
theorem xk_212 : xr_cdb xt_cp10 false xm_212 = true := (xr_chk _ 40 0 _ xk_212_0 (xr_chk _ 40 40 _ xk_212_40 (by decide +kernel)))
set_option maxRecDepth 100000 in
theorem xo_212 (L : Nat) (xs : Nat → Int32) : (∀ (pc : Nat) (i : Instr) (n : Nat), xr_fetch (xr_cd xm_212) pc = some (i, n) → xr_ok (xt_T L xs) xt_GW xt_ST xt_AO xm_212 pc i n) ∧ xr_hok xt_GW xt_NC xm_212 := ⟨xr_cdb_s (T := xt_T L xs) (ST := xt_ST) (AO := xt_AO) (GW := xt_GW) (cp := xt_cp10) (ini := false) (M := xm_212) (xt_cp10_ok L xs) (fun h => Bool.noConfusion h) xt_arr xk_212, (fun _ h => absurd h List.not_mem_nil)⟩
theorem xl_212 : xr_cal xt_GW xm_212 := ⟨plainFor_of_name (by decide +kernel), (xt_in 29 rfl (List.mem_of_getElem? (i := 39) rfl)), (xt_in 2 rfl (List.mem_of_getElem? (i := 37) rfl)), ⟨by decide +kernel, by decide +kernel⟩, by decide +kernel, by decide⟩
theorem xk_213_0 : ((xc_213.drop 0).take 40).all (fun q => xr_okb xt_cp10 false xm_213 q.1 q.2.1 q.2.2) = true := by decide +kernel
theorem xk_213_40 : ((xc_213.drop 40).take 40).all (fun q => xr_okb xt_cp10 false xm_213 q.1 q.2.1 q.2.2) = true := by decide +kernel
theorem xk_213 : xr_cdb xt_cp10 false xm_213 = true := (xr_chk _ 40 0 _ xk_213_0 (xr_chk _ 40 40 _ xk_213_40 (by decide +kernel)))
set_option maxRecDepth 100000 in
theorem xo_213 (L : Nat) (xs : Nat → Int32) : (∀ (pc : Nat) (i : Instr) (n : Nat), xr_fetch (xr_cd xm_213) pc = some (i, n) → xr_ok (xt_T L xs) xt_GW xt_ST xt_AO xm_213 pc i n) ∧ xr_hok xt_GW xt_NC xm_213 := ⟨xr_cdb_s (T := xt_T L xs) (ST := xt_ST) (AO := xt_AO) (GW := xt_GW) (cp := xt_cp10) (ini := false) (M := xm_213) (xt_cp10_ok L xs) (fun h => Bool.noConfusion h) xt_arr xk_213, (fun _ h => absurd h List.not_mem_nil)⟩
theorem xl_213 : xr_cal xt_GW xm_213 := ⟨plainFor_of_name (by decide +kernel), (xt_in 30 rfl (List.mem_of_getElem? (i := 5) rfl)), (xt_in 2 rfl (List.mem_of_getElem? (i := 37) rfl)), ⟨by decide +kernel, by decide +kernel⟩, by decide +kernel, by decide⟩
theorem xk_214_0 : ((xc_214.drop 0).take 40).all (fun q => xr_okb xt_cp10 false xm_214 q.1 q.2.1 q.2.2) = true := by decide +kernel
theorem xk_214_40 : ((xc_214.drop 40).take 40).all (fun q => xr_okb xt_cp10 false xm_214 q.1 q.2.1 q.2.2) = true := by decide +kernel
theorem xk_214_80 : ((xc_214.drop 80).take 40).all (fun q => xr_okb xt_cp10 false xm_214 q.1 q.2.1 q.2.2) = true := by decide +kernel
theorem xk_214 : xr_cdb xt_cp10 false xm_214 = true := (xr_chk _ 40 0 _ xk_214_0 (xr_chk _ 40 40 _ xk_214_40 (xr_chk _ 40 80 _ xk_214_80 (by decide +kernel))))
set_option maxRecDepth 100000 in
theorem xo_214 (L : Nat) (xs : Nat → Int32) : (∀ (pc : Nat) (i : Instr) (n : Nat), xr_fetch (xr_cd xm_214) pc = some (i, n) → xr_ok (xt_T L xs) xt_GW xt_ST xt_AO xm_214 pc i n) ∧ xr_hok xt_GW xt_NC xm_214 := ⟨xr_cdb_s (T := xt_T L xs) (ST := xt_ST) (AO := xt_AO) (GW := xt_GW) (cp := xt_cp10) (ini := false) (M := xm_214) (xt_cp10_ok L xs) (fun h => Bool.noConfusion h) xt_arr xk_214, (fun _ h => absurd h List.not_mem_nil)⟩
theorem xl_214 : xr_cal xt_GW xm_214 := ⟨plainFor_of_name (by decide +kernel), (xt_in 29 rfl (List.mem_of_getElem? (i := 27) rfl)), (xt_in 2 rfl (List.mem_of_getElem? (i := 37) rfl)), ⟨by decide +kernel, by decide +kernel⟩, by decide +kernel, by decide⟩
theorem xk_215 : xr_cdb xt_cp10 false xm_215 = true := by decide +kernel
set_option maxRecDepth 100000 in
theorem xo_215 (L : Nat) (xs : Nat → Int32) : (∀ (pc : Nat) (i : Instr) (n : Nat), xr_fetch (xr_cd xm_215) pc = some (i, n) → xr_ok (xt_T L xs) xt_GW xt_ST xt_AO xm_215 pc i n) ∧ xr_hok xt_GW xt_NC xm_215 := ⟨xr_cdb_s (T := xt_T L xs) (ST := xt_ST) (AO := xt_AO) (GW := xt_GW) (cp := xt_cp10) (ini := false) (M := xm_215) (xt_cp10_ok L xs) (fun h => Bool.noConfusion h) xt_arr xk_215, (fun _ h => absurd h List.not_mem_nil)⟩
theorem xl_215 : xr_cal xt_GW xm_215 := ⟨plainFor_of_name (by decide +kernel), (xt_in 30 rfl (List.mem_of_getElem? (i := 18) rfl)), (xt_in 2 rfl (List.mem_of_getElem? (i := 37) rfl)), ⟨by decide +kernel, by decide +kernel⟩, by decide +kernel, by decide⟩
theorem xk_216_0 : ((xc_216.drop 0).take 40).all (fun q => xr_okb xt_cp10 false xm_216 q.1 q.2.1 q.2.2) = true := by decide +kernel
theorem xk_216_40 : ((xc_216.drop 40).take 40).all (fun q => xr_okb xt_cp10 false xm_216 q.1 q.2.1 q.2.2) = true := by decide +kernel
theorem xk_216_80 : ((xc_216.drop 80).take 40).all (fun q => xr_okb xt_cp10 false xm_216 q.1 q.2.1 q.2.2) = true := by decide +kernel
theorem xk_216 : xr_cdb xt_cp10 false xm_216 = true := (xr_chk _ 40 0 _ xk_216_0 (xr_chk _ 40 40 _ xk_216_40 (xr_chk _ 40 80 _ xk_216_80 (by decide +kernel))))
set_option maxRecDepth 100000 in
theorem xo_216 (L : Nat) (xs : Nat → Int32) : (∀ (pc : Nat) (i : Instr) (n : Nat), xr_fetch (xr_cd xm_216) pc = some (i, n) → xr_ok (xt_T L xs) xt_GW xt_ST xt_AO xm_216 pc i n) ∧ xr_hok xt_GW xt_NC xm_216 := ⟨xr_cdb_s (T := xt_T L xs) (ST := xt_ST) (AO := xt_AO) (GW := xt_GW) (cp := xt_cp10) (ini := false) (M := xm_216) (xt_cp10_ok L xs) (fun h => Bool.noConfusion h) xt_arr xk_216, (fun _ h => absurd h List.not_mem_nil)⟩
theorem xl_216 : xr_cal xt_GW xm_216 := ⟨plainFor_of_name (by decide +kernel), (xt_in 30 rfl (List.mem_of_getElem? (i := 15) rfl)), (xt_in 2 rfl (List.mem_of_getElem? (i := 37) rfl)), ⟨by decide +kernel, by decide +kernel⟩, by decide +kernel, by decide⟩
