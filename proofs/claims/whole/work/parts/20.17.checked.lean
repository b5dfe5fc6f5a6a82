/-! methods that are checked -/
theorem xk_171_80 : ((xc_171.drop 80).take 40).all (fun q => xr_okb xt_cp10 false xm_171 q.1 q.2.1 q.2.2) = true := by decide +kernel
theorem xk_171_120 : ((xc_171.drop 120).take 40).all (fun q => xr_okb xt_cp10 false xm_171 q.1 q.2.1 q.2.2) = true := by decide +kernel
theorem xk_171 : xr_cdb xt_cp10 false xm_171 = true := (xr_chk _ 40 0 _ xk_171_0 (xr_chk _ 40 40 _ xk_171_40 (xr_chk _ 40 80 _ xk_171_80 (xr_chk _ 40 120 _ xk_171_120 (by decide +kernel)))))
set_option maxRecDepth 100000 in
theorem xo_171 (L : Nat) (xs : Nat → Int32) : (∀ (pc : Nat) (i : Instr) (n : Nat), xr_fetch (xr_cd xm_171) pc = some (i, n) → xr_ok (xt_T L xs) xt_GW xt_ST xt_AO xm_171 pc i n) ∧ xr_hok xt_GW xt_NC xm_171 := ⟨xr_cdb_s (T := xt_T L xs) (ST := xt_ST) (AO := xt_AO) (GW := xt_GW) (cp := xt_cp10) (ini := false) (M := xm_171) (xt_cp10_ok L xs) (fun h => Bool.noConfusion h) xt_arr xk_171, (fun _ h => absurd h List.not_mem_nil)⟩
theorem xl_171 : xr_cal xt_GW xm_171 := ⟨plainFor_of_name (by decide +kernel), (xt_in 25 rfl (List.mem_of_getElem? (i := 26) rfl)), (xt_in 2 rfl (List.mem_of_getElem? (i := 37) rfl)), ⟨by decide +kernel, by decide +kernel⟩, by decide +kernel, by decide⟩
theorem xk_172 : xr_cdb xt_cp10 false xm_172 = true := by decide +kernel
set_option maxRecDepth 100000 in
theorem xo_172 (L : Nat) (xs : Nat → Int32) : (∀ (pc : Nat) (i : Instr) (n : Nat), xr_fetch (xr_cd xm_172) pc = some (i, n) → xr_ok (xt_T L xs) xt_GW xt_ST xt_AO xm_172 pc i n) ∧ xr_hok xt_GW xt_NC xm_172 := ⟨xr_cdb_s (T := xt_T L xs) (ST := xt_ST) (AO := xt_AO) (GW := xt_GW) (cp := xt_cp10) (ini := false) (M := xm_172) (xt_cp10_ok L xs) (fun h => Bool.noConfusion h) xt_arr xk_172, (fun _ h => absurd h List.not_mem_nil)⟩
theorem xl_172 : xr_cal xt_GW xm_172 := ⟨plainFor_of_name (by decide +kernel), (xt_in 27 rfl (List.mem_of_getElem? (i := 34) rfl)), (xt_in 2 rfl (List.mem_of_getElem? (i := 37) rfl)), ⟨by decide +kernel, by decide +kernel⟩, by decide +kernel, by decide⟩
theorem xk_173_0 : ((xc_173.drop 0).take 40).all (fun q => xr_okb xt_cp10 false xm_173 q.1 q.2.1 q.2.2) = true := by decide +kernel
theorem xk_173_40 : ((xc_173.drop 40).take 40).all (fun q => xr_okb xt_cp10 false xm_173 q.1 q.2.1 q.2.2) = true := by decide +kernel
theorem xk_173 : xr_cdb xt_cp10 false xm_173 = true := (xr_chk _ 40 0 _ xk_173_0 (xr_chk _ 40 40 _ xk_173_40 (by decide +kernel)))
set_option maxRecDepth 100000 in
theorem xo_173 (L : Nat) (xs : Nat → Int32) : (∀ (pc : Nat) (i : Instr) (n : Nat), xr_fetch (xr_cd xm_173) pc = some (i, n) → xr_ok (xt_T L xs) xt_GW xt_ST xt_AO xm_173 pc i n) ∧ xr_hok xt_GW xt_NC xm_173 := ⟨xr_cdb_s (T := xt_T L xs) (ST := xt_ST) (AO := xt_AO) (GW := xt_GW) (cp := xt_cp10) (ini := false) (M := xm_173) (xt_cp10_ok L xs) (fun h => Bool.noConfusion h) xt_arr xk_173, (fun _ h => absurd h List.not_mem_nil)⟩
theorem xl_173 : xr_cal xt_GW xm_173 := ⟨plainFor_of_name (by decide +kernel), (xt_in 27 rfl (List.mem_of_getElem? (i := 31) rfl)), (xt_in 2 rfl (List.mem_of_getElem? (i := 37) rfl)), ⟨by decide +kernel, by decide +kernel⟩, by decide +kernel, by decide⟩
theorem xk_174_0 : ((xc_174.drop 0).take 40).all (fun q => xr_okb xt_cp10 false xm_174 q.1 q.2.1 q.2.2) = true := by decide +kernel
theorem xk_174_40 : ((xc_174.drop 40).take 40).all (fun q => xr_okb xt_cp10 false xm_174 q.1 q.2.1 q.2.2) = true := by decide +kernel
theorem xk_174 : xr_cdb xt_cp10 false xm_174 = true := (xr_chk _ 40 0 _ xk_174_0 (xr_chk _ 40 40 _ xk_174_40 (by decide +kernel)))
set_option maxRecDepth 100000 in
theorem xo_174 (L : Nat) (xs : Nat → Int32) : (∀ (pc : Nat) (i : Instr) (n : Nat), xr_fetch (xr_cd xm_174) pc = some (i, n) → xr_ok (xt_T L xs) xt_GW xt_ST xt_AO xm_174 pc i n) ∧ xr_hok xt_GW xt_NC xm_174 := ⟨xr_cdb_s (T := xt_T L xs) (ST := xt_ST) (AO := xt_AO) (GW := xt_GW) (cp := xt_cp10) (ini := false) (M := xm_174) (xt_cp10_ok L xs) (fun h => Bool.noConfusion h) xt_arr xk_174, (fun _ h => absurd h List.not_mem_nil)⟩
theorem xl_174 : xr_cal xt_GW xm_174 := ⟨plainFor_of_name (by decide +kernel), (xt_in 27 rfl (List.mem_of_getElem? (i := 7) rfl)), (xt_in 2 rfl (List.mem_of_getElem? (i := 37) rfl)), ⟨by decide +kernel, by decide +kernel⟩, by decide +kernel, by decide⟩
theorem xk_175 : xr_cdb xt_cp10 false xm_175 = true := by decide +kernel
set_option maxRecDepth 100000 in
theorem xo_175 (L : Nat) (xs : Nat → Int32) : (∀ (pc : Nat) (i : Instr) (n : Nat), xr_fetch (xr_cd xm_175) pc = some (i, n) → xr_ok (xt_T L xs) xt_GW xt_ST xt_AO xm_175 pc i n) ∧ xr_hok xt_GW xt_NC xm_175 := ⟨xr_cdb_s (T := xt_T L xs) (ST := xt_ST) (AO := xt_AO) (GW := xt_GW) (cp := xt_cp10) (ini := false) (M := xm_175) (xt_cp10_ok L xs) (fun h => Bool.noConfusion h) xt_arr xk_175, (fun _ h => absurd h List.not_mem_nil)⟩
theorem xl_175 : xr_cal xt_GW xm_175 := ⟨plainFor_of_name (by decide +kernel), (xt_in 27 rfl (List.mem_of_getElem? (i := 10) rfl)), (xt_in 2 rfl (List.mem_of_getElem? (i := 37) rfl)), ⟨by decide +kernel, by decide +kernel⟩, by decide +kernel, by decide⟩
theorem xk_176 : xr_cdb xt_cp10 false xm_176 = true := by decide +kernel
set_option maxRecDepth 100000 in
theorem xo_176 (L : Nat) (xs : Nat → Int32) : (∀ (pc : Nat) (i : Instr) (n : Nat), xr_fetch (xr_cd xm_176) pc = some (i, n) → xr_ok (xt_T L xs) xt_GW xt_ST xt_AO xm_176 pc i n) ∧ xr_hok xt_GW xt_NC xm_176 := ⟨xr_cdb_s (T := xt_T L xs) (ST := xt_ST) (AO := xt_AO) (GW := xt_GW) (cp := xt_cp10) (ini := false) (M := xm_176) (xt_cp10_ok L xs) (fun h => Bool.noConfusion h) xt_arr xk_176, (fun _ h => absurd h List.not_mem_nil)⟩
theorem xl_176 : xr_cal xt_GW xm_176 := ⟨plainFor_of_name (by decide +kernel), (xt_in 27 rfl (List.mem_of_getElem? (i := 19) rfl)), (xt_in 2 rfl (List.mem_of_getElem? (i := 37) rfl)), ⟨by decide +kernel, by decide +kernel⟩, by decide +kernel, by decide⟩
theorem xk_177_0 : ((xc_177.drop 0).take 40).all (fun q => xr_okb xt_cp10 false xm_177 q.1 q.2.1 q.2.2) = true := by decide +kernel
theorem xk_177_40 : ((xc_177.drop 40).take 40).all (fun q => xr_okb xt_cp10 false xm_177 q.1 q.2.1 q.2.2) = true := by decide +kernel
theorem xk_177_80 : ((xc_177.drop 80).take 40).all (fun q => xr_okb xt_cp10 false xm_177 q.1 q.2.1 q.2.2) = true := by decide +kernel
theorem xk_177 : xr_cdb xt_cp10 false xm_177 = true := (xr_chk _ 40 0 _ xk_177_0 (xr_chk _ 40 40 _ xk_177_40 (xr_chk _ 40 80 _ xk_177_80 (by decide +kernel))))
set_option maxRecDepth 100000 in
theorem xo_177 (L : Nat) (xs : Nat → Int32) : (∀ (pc : Nat) (i : Instr) (n : Nat), xr_fetch (xr_cd xm_177) pc = some (i, n) → xr_ok (xt_T L xs) xt_GW xt_ST xt_AO xm_177 pc i n) ∧ xr_hok xt_GW xt_NC xm_177 := ⟨xr_cdb_s (T := xt_T L xs) (ST := xt_ST) (AO := xt_AO) (GW := xt_GW) (cp := xt_cp10) (ini := false) (M := xm_177) (xt_cp10_ok L xs) (fun h => Bool.noConfusion h) xt_arr xk_177, (fun _ h => absurd h List.not_mem_nil)⟩
theorem xl_177 : xr_cal xt_GW xm_177 := ⟨plainFor_of_name (by decide +kernel), (xt_in 27 rfl (List.mem_of_getElem? (i := 22) rfl)), (xt_in 2 rfl (List.mem_of_getElem? (i := 37) rfl)), ⟨by decide +kernel, by decide +kernel⟩, by decide +kernel, by decide⟩
