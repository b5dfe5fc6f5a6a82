/-! methods that are checked -/
theorem xk_31 : xr_cdb xt_cp4 false xm_31 = true := by decide +kernel
set_option maxRecDepth 100000 in
theorem xo_31 (L : Nat) (xs : Nat → Int32) : (∀ (pc : Nat) (i : Instr) (n : Nat), xr_fetch (xr_cd xm_31) pc = some (i, n) → xr_ok (xt_T L xs) xt_GW xt_ST xt_AO xm_31 pc i n) ∧ xr_hok xt_GW xt_NC xm_31 := ⟨xr_cdb_s (T := xt_T L xs) (ST := xt_ST) (AO := xt_AO) (GW := xt_GW) (cp := xt_cp4) (ini := false) (M := xm_31) (xt_cp4_ok L xs) (fun h => Bool.noConfusion h) xt_arr xk_31, (fun _ h => absurd h List.not_mem_nil)⟩
theorem xl_31 : xr_cal xt_GW xm_31 := ⟨plainFor_of_name (by decide +kernel), (xt_in 14 rfl (List.mem_of_getElem? (i := 18) rfl)), (xt_in 1 rfl (List.mem_of_getElem? (i := 19) rfl)), ⟨by decide +kernel, by decide +kernel⟩, by decide +kernel, by decide⟩
theorem xk_32 : xr_cdb xt_cp4 false xm_32 = true := by decide +kernel
set_option maxRecDepth 100000 in
theorem xo_32 (L : Nat) (xs : Nat → Int32) : (∀ (pc : Nat) (i : Instr) (n : Nat), xr_fetch (xr_cd xm_32) pc = some (i, n) → xr_ok (xt_T L xs) xt_GW xt_ST xt_AO xm_32 pc i n) ∧ xr_hok xt_GW xt_NC xm_32 := ⟨xr_cdb_s (T := xt_T L xs) (ST := xt_ST) (AO := xt_AO) (GW := xt_GW) (cp := xt_cp4) (ini := false) (M := xm_32) (xt_cp4_ok L xs) (fun h => Bool.noConfusion h) xt_arr xk_32, (fun _ h => absurd h List.not_mem_nil)⟩
theorem xl_32 : xr_cal xt_GW xm_32 := ⟨plainFor_of_name (by decide +kernel), (xt_in 18 rfl (List.mem_of_getElem? (i := 35) rfl)), (xt_in 1 rfl (List.mem_of_getElem? (i := 19) rfl)), ⟨by decide +kernel, by decide +kernel⟩, by decide +kernel, by decide⟩
theorem xk_33 : xr_cdb xt_cp4 false xm_33 = true := by decide +kernel
set_option maxRecDepth 100000 in
theorem xo_33 (L : Nat) (xs : Nat → Int32) : (∀ (pc : Nat) (i : Instr) (n : Nat), xr_fetch (xr_cd xm_33) pc = some (i, n) → xr_ok (xt_T L xs) xt_GW xt_ST xt_AO xm_33 pc i n) ∧ xr_hok xt_GW xt_NC xm_33 := ⟨xr_cdb_s (T := xt_T L xs) (ST := xt_ST) (AO := xt_AO) (GW := xt_GW) (cp := xt_cp4) (ini := false) (M := xm_33) (xt_cp4_ok L xs) (fun h => Bool.noConfusion h) xt_arr xk_33, (fun _ h => absurd h List.not_mem_nil)⟩
theorem xl_33 : xr_cal xt_GW xm_33 := ⟨plainFor_of_name (by decide +kernel), (xt_in 16 rfl (List.mem_of_getElem? (i := 7) rfl)), (xt_in 1 rfl (List.mem_of_getElem? (i := 19) rfl)), ⟨by decide +kernel, by decide +kernel⟩, by decide +kernel, by decide⟩
theorem xk_34 : xr_cdb xt_cp4 false xm_34 = true := by decide +kernel
set_option maxRecDepth 100000 in
theorem xo_34 (L : Nat) (xs : Nat → Int32) : (∀ (pc : Nat) (i : Instr) (n : Nat), xr_fetch (xr_cd xm_34) pc = some (i, n) → xr_ok (xt_T L xs) xt_GW xt_ST xt_AO xm_34 pc i n) ∧ xr_hok xt_GW xt_NC xm_34 := ⟨xr_cdb_s (T := xt_T L xs) (ST := xt_ST) (AO := xt_AO) (GW := xt_GW) (cp := xt_cp4) (ini := false) (M := xm_34) (xt_cp4_ok L xs) (fun h => Bool.noConfusion h) xt_arr xk_34, (fun _ h => absurd h List.not_mem_nil)⟩
theorem xl_34 : xr_cal xt_GW xm_34 := ⟨plainFor_of_name (by decide +kernel), (xt_in 14 rfl (List.mem_of_getElem? (i := 22) rfl)), (xt_in 1 rfl (List.mem_of_getElem? (i := 19) rfl)), ⟨by decide +kernel, by decide +kernel⟩, by decide +kernel, by decide⟩
theorem xk_35 : xr_cdb xt_cp5 true xm_35 = true := by decide +kernel
set_option maxRecDepth 100000 in
theorem xo_35 (L : Nat) (xs : Nat → Int32) : (∀ (pc : Nat) (i : Instr) (n : Nat), xr_fetch (xr_cd xm_35) pc = some (i, n) → xr_ok (xt_T L xs) xt_GW xt_ST xt_AO xm_35 pc i n) ∧ xr_hok xt_GW xt_NC xm_35 := ⟨xr_cdb_s (T := xt_T L xs) (ST := xt_ST) (AO := xt_AO) (GW := xt_GW) (cp := xt_cp5) (ini := true) (M := xm_35) (xt_cp5_ok L xs) (fun _ => rfl) xt_arr xk_35, (fun _ h => absurd h List.not_mem_nil)⟩
theorem xl_35 : xr_cal xt_GW xm_35 := ⟨plainFor_of_name (by decide +kernel), (xt_in 2 rfl (List.mem_of_getElem? (i := 14) rfl)), (xt_in 1 rfl (List.mem_of_getElem? (i := 16) rfl)), ⟨by decide +kernel, by decide +kernel⟩, by decide +kernel, by decide⟩
theorem xk_36_0 : ((xc_36.drop 0).take 40).all (fun q => xr_okb xt_cp5 false xm_36 q.1 q.2.1 q.2.2) = true := by decide +kernel
theorem xk_36_40 : ((xc_36.drop 40).take 40).all (fun q => xr_okb xt_cp5 false xm_36 q.1 q.2.1 q.2.2) = true := by decide +kernel
theorem xk_36 : xr_cdb xt_cp5 false xm_36 = true := (xr_chk _ 40 0 _ xk_36_0 (xr_chk _ 40 40 _ xk_36_40 (by decide +kernel)))
set_option maxRecDepth 100000 in
theorem xo_36 (L : Nat) (xs : Nat → Int32) : (∀ (pc : Nat) (i : Instr) (n : Nat), xr_fetch (xr_cd xm_36) pc = some (i, n) → xr_ok (xt_T L xs) xt_GW xt_ST xt_AO xm_36 pc i n) ∧ xr_hok xt_GW xt_NC xm_36 := ⟨xr_cdb_s (T := xt_T L xs) (ST := xt_ST) (AO := xt_AO) (GW := xt_GW) (cp := xt_cp5) (ini := false) (M := xm_36) (xt_cp5_ok L xs) (fun h => Bool.noConfusion h) xt_arr xk_36, (fun _ h => absurd h List.not_mem_nil)⟩
theorem xl_36 : xr_cal xt_GW xm_36 := ⟨plainFor_of_name (by decide +kernel), (xt_in 7 rfl (List.mem_of_getElem? (i := 36) rfl)), (xt_in 1 rfl (List.mem_of_getElem? (i := 16) rfl)), ⟨by decide +kernel, by decide +kernel⟩, by decide +kernel, by decide⟩
theorem xk_37 : xr_cdb xt_cp5 false xm_37 = true := by decide +kernel
set_option maxRecDepth 100000 in
theorem xo_37 (L : Nat) (xs : Nat → Int32) : (∀ (pc : Nat) (i : Instr) (n : Nat), xr_fetch (xr_cd xm_37) pc = some (i, n) → xr_ok (xt_T L xs) xt_GW xt_ST xt_AO xm_37 pc i n) ∧ xr_hok xt_GW xt_NC xm_37 := ⟨xr_cdb_s (T := xt_T L xs) (ST := xt_ST) (AO := xt_AO) (GW := xt_GW) (cp := xt_cp5) (ini := false) (M := xm_37) (xt_cp5_ok L xs) (fun h => Bool.noConfusion h) xt_arr xk_37, (fun _ h => absurd h List.not_mem_nil)⟩
theorem xl_37 : xr_cal xt_GW xm_37 := ⟨plainFor_of_name (by decide +kernel), (xt_in 7 rfl (List.mem_of_getElem? (i := 39) rfl)), (xt_in 1 rfl (List.mem_of_getElem? (i := 16) rfl)), ⟨by decide +kernel, by decide +kernel⟩, by decide +kernel, by decide⟩
theorem xk_38 : xr_cdb xt_cp5 false xm_38 = true := by decide +kernel
set_option maxRecDepth 100000 in
theorem xo_38 (L : Nat) (xs : Nat → Int32) : (∀ (pc : Nat) (i : Instr) (n : Nat), xr_fetch (xr_cd xm_38) pc = some (i, n) → xr_ok (xt_T L xs) xt_GW xt_ST xt_AO xm_38 pc i n) ∧ xr_hok xt_GW xt_NC xm_38 := ⟨xr_cdb_s (T := xt_T L xs) (ST := xt_ST) (AO := xt_AO) (GW := xt_GW) (cp := xt_cp5) (ini := false) (M := xm_38) (xt_cp5_ok L xs) (fun h => Bool.noConfusion h) xt_arr xk_38, (fun _ h => absurd h List.not_mem_nil)⟩
theorem xl_38 : xr_cal xt_GW xm_38 := ⟨plainFor_of_name (by decide +kernel), (xt_in 8 rfl (List.mem_of_getElem? (i := 6) rfl)), (xt_in 1 rfl (List.mem_of_getElem? (i := 16) rfl)), ⟨by decide +kernel, by decide +kernel⟩, by decide +kernel, by decide⟩
theorem xk_39 : xr_cdb xt_cp5 false xm_39 = true := by decide +kernel
set_option maxRecDepth 100000 in
theorem xo_39 (L : Nat) (xs : Nat → Int32) : (∀ (pc : Nat) (i : Instr) (n : Nat), xr_fetch (xr_cd xm_39) pc = some (i, n) → xr_ok (xt_T L xs) xt_GW xt_ST xt_AO xm_39 pc i n) ∧ xr_hok xt_GW xt_NC xm_39 := ⟨xr_cdb_s (T := xt_T L xs) (ST := xt_ST) (AO := xt_AO) (GW := xt_GW) (cp := xt_cp5) (ini := false) (M := xm_39) (xt_cp5_ok L xs) (fun h => Bool.noConfusion h) xt_arr xk_39, (fun _ h => absurd h List.not_mem_nil)⟩
theorem xl_39 : xr_cal xt_GW xm_39 := ⟨plainFor_of_name (by decide +kernel), (xt_in 8 rfl (List.mem_of_getElem? (i := 19) rfl)), (xt_in 1 rfl (List.mem_of_getElem? (i := 16) rfl)), ⟨by decide +kernel, by decide +kernel⟩, by decide +kernel, by decide⟩
theorem xk_40 : xr_cdb xt_cp5 false xm_40 = true := by decide +kernel
set_option maxRecDepth 100000 in
theorem xo_40 (L : Nat) (xs : Nat → Int32) : (∀ (pc : Nat) (i : Instr) (n : Nat), xr_fetch (xr_cd xm_40) pc = some (i, n) → xr_ok (xt_T L xs) xt_GW xt_ST xt_AO xm_40 pc i n) ∧ xr_hok xt_GW xt_NC xm_40 := ⟨xr_cdb_s (T := xt_T L xs) (ST := xt_ST) (AO := xt_AO) (GW := xt_GW) (cp := xt_cp5) (ini := false) (M := xm_40) (xt_cp5_ok L xs) (fun h => Bool.noConfusion h) xt_arr xk_40, (fun _ h => absurd h List.not_mem_nil)⟩
theorem xl_40 : xr_cal xt_GW xm_40 := ⟨plainFor_of_name (by decide +kernel), (xt_in 8 rfl (List.mem_of_getElem? (i := 12) rfl)), (xt_in 1 rfl (List.mem_of_getElem? (i := 16) rfl)), ⟨by decide +kernel, by decide +kernel⟩, by decide +kernel, by decide⟩
theorem xk_41 : xr_cdb xt_cp5 false xm_41 = true := by decide +kernel
set_option maxRecDepth 100000 in
theorem xo_41 (L : Nat) (xs : Nat → Int32) : (∀ (pc : Nat) (i : Instr) (n : Nat), xr_fetch (xr_cd xm_41) pc = some (i, n) → xr_ok (xt_T L xs) xt_GW xt_ST xt_AO xm_41 pc i n) ∧ xr_hok xt_GW xt_NC xm_41 := ⟨xr_cdb_s (T := xt_T L xs) (ST := xt_ST) (AO := xt_AO) (GW := xt_GW) (cp := xt_cp5) (ini := false) (M := xm_41) (xt_cp5_ok L xs) (fun h => Bool.noConfusion h) xt_arr xk_41, (fun _ h => absurd h List.not_mem_nil)⟩
theorem xl_41 : xr_cal xt_GW xm_41 := ⟨plainFor_of_name (by decide +kernel), (xt_in 9 rfl (List.mem_of_getElem? (i := 8) rfl)), (xt_in 1 rfl (List.mem_of_getElem? (i := 16) rfl)), ⟨by decide +kernel, by decide +kernel⟩, by decide +kernel, by decide⟩
theorem xk_42 : xr_cdb xt_cp5 false xm_42 = true := by decide +kernel
set_option maxRecDepth 100000 in
theorem xo_42 (L : Nat) (xs : Nat → Int32) : (∀ (pc : Nat) (i : Instr) (n : Nat), xr_fetch (xr_cd xm_42) pc = some (i, n) → xr_ok (xt_T L xs) xt_GW xt_ST xt_AO xm_42 pc i n) ∧ xr_hok xt_GW xt_NC xm_42 := ⟨xr_cdb_s (T := xt_T L xs) (ST := xt_ST) (AO := xt_AO) (GW := xt_GW) (cp := xt_cp5) (ini := false) (M := xm_42) (xt_cp5_ok L xs) (fun h => Bool.noConfusion h) xt_arr xk_42, (fun _ h => absurd h List.not_mem_nil)⟩
theorem xl_42 : xr_cal xt_GW xm_42 := ⟨plainFor_of_name (by decide +kernel), (xt_in 8 rfl (List.mem_of_getElem? (i := 9) rfl)), (xt_in 1 rfl (List.mem_of_getElem? (i := 16) rfl)), ⟨by decide +kernel, by decide +kernel⟩, by decide +kernel, by decide⟩
theorem xk_43 : xr_cdb xt_cp5 false xm_43 = true := by decide +kernel
set_option maxRecDepth 100000 in
theorem xo_43 (L : Nat) (xs : Nat → Int32) : (∀ (pc : Nat) (i : Instr) (n : Nat), xr_fetch (xr_cd xm_43) pc = some (i, n) → xr_ok (xt_T L xs) xt_GW xt_ST xt_AO xm_43 pc i n) ∧ xr_hok xt_GW xt_NC xm_43 := ⟨xr_cdb_s (T := xt_T L xs) (ST := xt_ST) (AO := xt_AO) (GW := xt_GW) (cp := xt_cp5) (ini := false) (M := xm_43) (xt_cp5_ok L xs) (fun h => Bool.noConfusion h) xt_arr xk_43, (fun _ h => absurd h List.not_mem_nil)⟩
theorem xl_43 : xr_cal xt_GW xm_43 := ⟨plainFor_of_name (by decide +kernel), (xt_in 9 rfl (List.mem_of_getElem? (i := 36) rfl)), (xt_in 1 rfl (List.mem_of_getElem? (i := 16) rfl)), ⟨by decide +kernel, by decide +kernel⟩, by decide +kernel, by decide⟩
theorem xk_44 : xr_cdb xt_cp5 false xm_44 = true := by decide +kernel
set_option maxRecDepth 100000 in
theorem xo_44 (L : Nat) (xs : Nat → Int32) : (∀ (pc : Nat) (i : Instr) (n : Nat), xr_fetch (xr_cd xm_44) pc = some (i, n) → xr_ok (xt_T L xs) xt_GW xt_ST xt_AO xm_44 pc i n) ∧ xr_hok xt_GW xt_NC xm_44 := ⟨xr_cdb_s (T := xt_T L xs) (ST := xt_ST) (AO := xt_AO) (GW := xt_GW) (cp := xt_cp5) (ini := false) (M := xm_44) (xt_cp5_ok L xs) (fun h => Bool.noConfusion h) xt_arr xk_44, (fun _ h => absurd h List.not_mem_nil)⟩
theorem xl_44 : xr_cal xt_GW xm_44 := ⟨plainFor_of_name (by decide +kernel), (xt_in 10 rfl (List.mem_of_getElem? (i := 2) rfl)), (xt_in 1 rfl (List.mem_of_getElem? (i := 16) rfl)), ⟨by decide +kernel, by decide +kernel⟩, by decide +kernel, by decide⟩
theorem xk_45_0 : ((xc_45.drop 0).take 40).all (fun q => xr_okb xt_cp5 false xm_45 q.1 q.2.1 q.2.2) = true := by decide +kernel
