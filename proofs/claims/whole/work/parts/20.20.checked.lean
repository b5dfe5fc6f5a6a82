/-! methods that are checked -/
theorem xk_185_160 : ((xc_185.drop 160).take 40).all (fun q => xr_okb xt_cp10 false xm_185 q.1 q.2.1 q.2.2) = true := by decide +kernel
theorem xk_185_200 : ((xc_185.drop 200).take 40).all (fun q => xr_okb xt_cp10 false xm_185 q.1 q.2.1 q.2.2) = true := by decide +kernel
theorem xk_185 : xr_cdb xt_cp10 false xm_185 = true := (xr_chk _ 40 0 _ xk_185_0 (xr_chk _ 40 40 _ xk_185_40 (xr_chk _ 40 80 _ xk_185_80 (xr_chk _ 40 120 _ xk_185_120 (xr_chk _ 40 160 _ xk_185_160 (xr_chk _ 40 200 _ xk_185_200 (by decide +kernel)))))))
set_option maxRecDepth 100000 in
theorem xo_185 (L : Nat) (xs : Nat → Int32) : (∀ (pc : Nat) (i : Instr) (n : Nat), xr_fetch (xr_cd xm_185) pc = some (i, n) → xr_ok (xt_T L xs) xt_GW xt_ST xt_AO xm_185 pc i n) ∧ xr_hok xt_GW xt_NC xm_185 := ⟨xr_cdb_s (T := xt_T L xs) (ST := xt_ST) (AO := xt_AO) (GW := xt_GW) (cp := xt_cp10) (ini := false) (M := xm_185) (xt_cp10_ok L xs) (fun h => Bool.noConfusion h) xt_arr xk_185, (fun _ h => absurd h List.not_mem_nil)⟩
theorem xl_185 : xr_cal xt_GW xm_185 := ⟨plainFor_of_name (by decide +kernel), (xt_in 28 rfl (List.mem_of_getElem? (i := 4) rfl)), (xt_in 2 rfl (List.mem_of_getElem? (i := 37) rfl)), ⟨by decide +kernel, by decide +kernel⟩, by decide +kernel, by decide⟩
theorem xk_186_0 : ((xc_186.drop 0).take 40).all (fun q => xr_okb xt_cp10 false xm_186 q.1 q.2.1 q.2.2) = true := by decide +kernel
theorem xk_186_40 : ((xc_186.drop 40).take 40).all (fun q => xr_okb xt_cp10 false xm_186 q.1 q.2.1 q.2.2) = true := by decide +kernel
theorem xk_186_80 : ((xc_186.drop 80).take 40).all (fun q => xr_okb xt_cp10 false xm_186 q.1 q.2.1 q.2.2) = true := by decide +kernel
theorem xk_186 : xr_cdb xt_cp10 false xm_186 = true := (xr_chk _ 40 0 _ xk_186_0 (xr_chk _ 40 40 _ xk_186_40 (xr_chk _ 40 80 _ xk_186_80 (by decide +kernel))))
set_option maxRecDepth 100000 in
theorem xo_186 (L : Nat) (xs : Nat → Int32) : (∀ (pc : Nat) (i : Instr) (n : Nat), xr_fetch (xr_cd xm_186) pc = some (i, n) → xr_ok (xt_T L xs) xt_GW xt_ST xt_AO xm_186 pc i n) ∧ xr_hok xt_GW xt_NC xm_186 := ⟨xr_cdb_s (T := xt_T L xs) (ST := xt_ST) (AO := xt_AO) (GW := xt_GW) (cp := xt_cp10) (ini := false) (M := xm_186) (xt_cp10_ok L xs) (fun h => Bool.noConfusion h) xt_arr xk_186, (fun _ h => absurd h List.not_mem_nil)⟩
theorem xl_186 : xr_cal xt_GW xm_186 := ⟨plainFor_of_name (by decide +kernel), (xt_in 27 rfl (List.mem_of_getElem? (i := 4) rfl)), (xt_in 2 rfl (List.mem_of_getElem? (i := 37) rfl)), ⟨by decide +kernel, by decide +kernel⟩, by decide +kernel, by decide⟩
theorem xk_187 : xr_cdb xt_cp10 false xm_187 = true := by decide +kernel
set_option maxRecDepth 100000 in
theorem xo_187 (L : Nat) (xs : Nat → Int32) : (∀ (pc : Nat) (i : Instr) (n : Nat), xr_fetch (xr_cd xm_187) pc = some (i, n) → xr_ok (xt_T L xs) xt_GW xt_ST xt_AO xm_187 pc i n) ∧ xr_hok xt_GW xt_NC xm_187 := ⟨xr_cdb_s (T := xt_T L xs) (ST := xt_ST) (AO := xt_AO) (GW := xt_GW) (cp := xt_cp10) (ini := false) (M := xm_187) (xt_cp10_ok L xs) (fun h => Bool.noConfusion h) xt_arr xk_187, (fun _ h => absurd h List.not_mem_nil)⟩
theorem xl_187 : xr_cal xt_GW xm_187 := ⟨plainFor_of_name (by decide +kernel), (xt_in 27 rfl (List.mem_of_getElem? (i := 1) rfl)), (xt_in 2 rfl (List.mem_of_getElem? (i := 37) rfl)), ⟨by decide +kernel, by decide +kernel⟩, by decide +kernel, by decide⟩
theorem xk_188 : xr_cdb xt_cp10 false xm_188 = true := by decide +kernel
set_option maxRecDepth 100000 in
theorem xo_188 (L : Nat) (xs : Nat → Int32) : (∀ (pc : Nat) (i : Instr) (n : Nat), xr_fetch (xr_cd xm_188) pc = some (i, n) → xr_ok (xt_T L xs) xt_GW xt_ST xt_AO xm_188 pc i n) ∧ xr_hok xt_GW xt_NC xm_188 := ⟨xr_cdb_s (T := xt_T L xs) (ST := xt_ST) (AO := xt_AO) (GW := xt_GW) (cp := xt_cp10) (ini := false) (M := xm_188) (xt_cp10_ok L xs) (fun h => Bool.noConfusion h) xt_arr xk_188, (fun _ h => absurd h List.not_mem_nil)⟩
theorem xl_188 : xr_cal xt_GW xm_188 := ⟨plainFor_of_name (by decide +kernel), (xt_in 26 rfl (List.mem_of_getElem? (i := 38) rfl)), (xt_in 2 rfl (List.mem_of_getElem? (i := 37) rfl)), ⟨by decide +kernel, by decide +kernel⟩, by decide +kernel, by decide⟩
theorem xk_189 : xr_cdb xt_cp10 false xm_189 = true := by decide +kernel
set_option maxRecDepth 100000 in
theorem xo_189 (L : Nat) (xs : Nat → Int32) : (∀ (pc : Nat) (i : Instr) (n : Nat), xr_fetch (xr_cd xm_189) pc = some (i, n) → xr_ok (xt_T L xs) xt_GW xt_ST xt_AO xm_189 pc i n) ∧ xr_hok xt_GW xt_NC xm_189 := ⟨xr_cdb_s (T := xt_T L xs) (ST := xt_ST) (AO := xt_AO) (GW := xt_GW) (cp := xt_cp10) (ini := false) (M := xm_189) (xt_cp10_ok L xs) (fun h => Bool.noConfusion h) xt_arr xk_189, (fun _ h => absurd h List.not_mem_nil)⟩
theorem xl_189 : xr_cal xt_GW xm_189 := ⟨plainFor_of_name (by decide +kernel), (xt_in 28 rfl (List.mem_of_getElem? (i := 14) rfl)), (xt_in 2 rfl (List.mem_of_getElem? (i := 37) rfl)), ⟨by decide +kernel, by decide +kernel⟩, by decide +kernel, by decide⟩
theorem xk_190 : xr_cdb xt_cp10 false xm_190 = true := by decide +kernel
set_option maxRecDepth 100000 in
theorem xo_190 (L : Nat) (xs : Nat → Int32) : (∀ (pc : Nat) (i : Instr) (n : Nat), xr_fetch (xr_cd xm_190) pc = some (i, n) → xr_ok (xt_T L xs) xt_GW xt_ST xt_AO xm_190 pc i n) ∧ xr_hok xt_GW xt_NC xm_190 := ⟨xr_cdb_s (T := xt_T L xs) (ST := xt_ST) (AO := xt_AO) (GW := xt_GW) (cp := xt_cp10) (ini := false) (M := xm_190) (xt_cp10_ok L xs) (fun h => Bool.noConfusion h) xt_arr xk_190, (fun _ h => absurd h List.not_mem_nil)⟩
theorem xl_190 : xr_cal xt_GW xm_190 := ⟨plainFor_of_name (by decide +kernel), (xt_in 28 rfl (List.mem_of_getElem? (i := 18) rfl)), (xt_in 2 rfl (List.mem_of_getElem? (i := 37) rfl)), ⟨by decide +kernel, by decide +kernel⟩, by decide +kernel, by decide⟩
theorem xk_191 : xr_cdb xt_cp10 false xm_191 = true := by decide +kernel
set_option maxRecDepth 100000 in
theorem xo_191 (L : Nat) (xs : Nat → Int32) : (∀ (pc : Nat) (i : Instr) (n : Nat), xr_fetch (xr_cd xm_191) pc = some (i, n) → xr_ok (xt_T L xs) xt_GW xt_ST xt_AO xm_191 pc i n) ∧ xr_hok xt_GW xt_NC xm_191 := ⟨xr_cdb_s (T := xt_T L xs) (ST := xt_ST) (AO := xt_AO) (GW := xt_GW) (cp := xt_cp10) (ini := false) (M := xm_191) (xt_cp10_ok L xs) (fun h => Bool.noConfusion h) xt_arr xk_191, (fun _ h => absurd h List.not_mem_nil)⟩
theorem xl_191 : xr_cal xt_GW xm_191 := ⟨plainFor_of_name (by decide +kernel), (xt_in 28 rfl (List.mem_of_getElem? (i := 25) rfl)), (xt_in 2 rfl (List.mem_of_getElem? (i := 37) rfl)), ⟨by decide +kernel, by decide +kernel⟩, by decide +kernel, by decide⟩
theorem xk_192 : xr_cdb xt_cp10 false xm_192 = true := by decide +kernel
set_option maxRecDepth 100000 in
theorem xo_192 (L : Nat) (xs : Nat → Int32) : (∀ (pc : Nat) (i : Instr) (n : Nat), xr_fetch (xr_cd xm_192) pc = some (i, n) → xr_ok (xt_T L xs) xt_GW xt_ST xt_AO xm_192 pc i n) ∧ xr_hok xt_GW xt_NC xm_192 := ⟨xr_cdb_s (T := xt_T L xs) (ST := xt_ST) (AO := xt_AO) (GW := xt_GW) (cp := xt_cp10) (ini := false) (M := xm_192) (xt_cp10_ok L xs) (fun h => Bool.noConfusion h) xt_arr xk_192, (fun _ h => absurd h List.not_mem_nil)⟩
theorem xl_192 : xr_cal xt_GW xm_192 := ⟨plainFor_of_name (by decide +kernel), (xt_in 28 rfl (List.mem_of_getElem? (i := 28) rfl)), (xt_in 2 rfl (List.mem_of_getElem? (i := 37) rfl)), ⟨by decide +kernel, by decide +kernel⟩, by decide +kernel, by decide⟩
theorem xk_193 : xr_cdb xt_cp10 false xm_193 = true := by decide +kernel
set_option maxRecDepth 100000 in
theorem xo_193 (L : Nat) (xs : Nat → Int32) : (∀ (pc : Nat) (i : Instr) (n : Nat), xr_fetch (xr_cd xm_193) pc = some (i, n) → xr_ok (xt_T L xs) xt_GW xt_ST xt_AO xm_193 pc i n) ∧ xr_hok xt_GW xt_NC xm_193 := ⟨xr_cdb_s (T := xt_T L xs) (ST := xt_ST) (AO := xt_AO) (GW := xt_GW) (cp := xt_cp10) (ini := false) (M := xm_193) (xt_cp10_ok L xs) (fun h => Bool.noConfusion h) xt_arr xk_193, (fun _ h => absurd h List.not_mem_nil)⟩
theorem xl_193 : xr_cal xt_GW xm_193 := ⟨plainFor_of_name (by decide +kernel), (xt_in 28 rfl (List.mem_of_getElem? (i := 34) rfl)), (xt_in 2 rfl (List.mem_of_getElem? (i := 37) rfl)), ⟨by decide +kernel, by decide +kernel⟩, by decide +kernel, by decide⟩
theorem xk_194_0 : ((xc_194.drop 0).take 40).all (fun q => xr_okb xt_cp10 false xm_194 q.1 q.2.1 q.2.2) = true := by decide +kernel
theorem xk_194_40 : ((xc_194.drop 40).take 40).all (fun q => xr_okb xt_cp10 false xm_194 q.1 q.2.1 q.2.2) = true := by decide +kernel
theorem xk_194_80 : ((xc_194.drop 80).take 40).all (fun q => xr_okb xt_cp10 false xm_194 q.1 q.2.1 q.2.2) = true := by decide +kernel
theorem xk_194 : xr_cdb xt_cp10 false xm_194 = true := (xr_chk _ 40 0 _ xk_194_0 (xr_chk _ 40 40 _ xk_194_40 (xr_chk _ 40 80 _ xk_194_80 (by decide +kernel))))
set_option maxRecDepth 100000 in
theorem xo_194 (L : Nat) (xs : Nat → Int32) : (∀ (pc : Nat) (i : Instr) (n : Nat), xr_fetch (xr_cd xm_194) pc = some (i, n) → xr_ok (xt_T L xs) xt_GW xt_ST xt_AO xm_194 pc i n) ∧ xr_hok xt_GW xt_NC xm_194 := ⟨xr_cdb_s (T := xt_T L xs) (ST := xt_ST) (AO := xt_AO) (GW := xt_GW) (cp := xt_cp10) (ini := false) (M := xm_194) (xt_cp10_ok L xs) (fun h => Bool.noConfusion h) xt_arr xk_194, (fun _ h => absurd h List.not_mem_nil)⟩
theorem xl_194 : xr_cal xt_GW xm_194 := ⟨plainFor_of_name (by decide +kernel), (xt_in 28 rfl (List.mem_of_getElem? (i := 31) rfl)), (xt_in 2 rfl (List.mem_of_getElem? (i := 37) rfl)), ⟨by decide +kernel, by decide +kernel⟩, by decide +kernel, by decide⟩
theorem xk_195 : xr_cdb xt_cp10 false xm_195 = true := by decide +kernel
set_option maxRecDepth 100000 in
theorem xo_195 (L : Nat) (xs : Nat → Int32) : (∀ (pc : Nat) (i : Instr) (n : Nat), xr_fetch (xr_cd xm_195) pc = some (i, n) → xr_ok (xt_T L xs) xt_GW xt_ST xt_AO xm_195 pc i n) ∧ xr_hok xt_GW xt_NC xm_195 := ⟨xr_cdb_s (T := xt_T L xs) (ST := xt_ST) (AO := xt_AO) (GW := xt_GW) (cp := xt_cp10) (ini := false) (M := xm_195) (xt_cp10_ok L xs) (fun h => Bool.noConfusion h) xt_arr xk_195, (fun _ h => absurd h List.not_mem_nil)⟩
theorem xl_195 : xr_cal xt_GW xm_195 := ⟨plainFor_of_name (by decide +kernel), (xt_in 29 rfl (List.mem_of_getElem? (i := 2) rfl)), (xt_in 2 rfl (List.mem_of_getElem? (i := 37) rfl)), ⟨by decide +kernel, by decide +kernel⟩, by decide +kernel, by decide⟩
