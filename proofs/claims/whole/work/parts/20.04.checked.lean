/-! methods that are checked -/
theorem xk_25 : xr_cdb xt_cp3 false xm_25 = true := by decide +kernel
set_option maxRecDepth 100000 in
theorem xo_25 (L : Nat) (xs : Nat → Int32) : (∀ (pc : Nat) (i : Instr) (n : Nat), xr_fetch (xr_cd xm_25) pc = some (i, n) → xr_ok (xt_T L xs) xt_GW xt_ST xt_AO xm_25 pc i n) ∧ xr_hok xt_GW xt_NC xm_25 := ⟨xr_cdb_s (T := xt_T L xs) (ST := xt_ST) (AO := xt_AO) (GW := xt_GW) (cp := xt_cp3) (ini := false) (M := xm_25) (xt_cp3_ok L xs) (fun h => Bool.noConfusion h) xt_arr xk_25, (fun _ h => absurd h List.not_mem_nil)⟩
theorem xl_25 : xr_cal xt_GW xm_25 := ⟨plainFor_of_name (by decide +kernel), (xt_in 22 rfl (List.mem_of_getElem? (i := 33) rfl)), (xt_in 2 rfl (List.mem_of_getElem? (i := 36) rfl)), ⟨by decide +kernel, by decide +kernel⟩, by decide +kernel, by decide⟩
theorem xk_26 : xr_cdb xt_cp4 true xm_26 = true := by decide +kernel
set_option maxRecDepth 100000 in
theorem xo_26 (L : Nat) (xs : Nat → Int32) : (∀ (pc : Nat) (i : Instr) (n : Nat), xr_fetch (xr_cd xm_26) pc = some (i, n) → xr_ok (xt_T L xs) xt_GW xt_ST xt_AO xm_26 pc i n) ∧ xr_hok xt_GW xt_NC xm_26 := ⟨xr_cdb_s (T := xt_T L xs) (ST := xt_ST) (AO := xt_AO) (GW := xt_GW) (cp := xt_cp4) (ini := true) (M := xm_26) (xt_cp4_ok L xs) (fun _ => rfl) xt_arr xk_26, (fun _ h => absurd h List.not_mem_nil)⟩
theorem xl_26 : xr_cal xt_GW xm_26 := ⟨plainFor_of_name (by decide +kernel), (xt_in 4 rfl (List.mem_of_getElem? (i := 23) rfl)), (xt_in 2 rfl (List.mem_of_getElem? (i := 34) rfl)), ⟨by decide +kernel, by decide +kernel⟩, by decide +kernel, by decide⟩
theorem xk_27 : xr_cdb xt_cp4 false xm_27 = true := by decide +kernel
set_option maxRecDepth 100000 in
theorem xo_27 (L : Nat) (xs : Nat → Int32) : (∀ (pc : Nat) (i : Instr) (n : Nat), xr_fetch (xr_cd xm_27) pc = some (i, n) → xr_ok (xt_T L xs) xt_GW xt_ST xt_AO xm_27 pc i n) ∧ xr_hok xt_GW xt_NC xm_27 := ⟨xr_cdb_s (T := xt_T L xs) (ST := xt_ST) (AO := xt_AO) (GW := xt_GW) (cp := xt_cp4) (ini := false) (M := xm_27) (xt_cp4_ok L xs) (fun h => Bool.noConfusion h) xt_arr xk_27, (fun _ h => absurd h List.not_mem_nil)⟩
theorem xl_27 : xr_cal xt_GW xm_27 := ⟨plainFor_of_name (by decide +kernel), (xt_in 8 rfl (List.mem_of_getElem? (i := 21) rfl)), (xt_in 2 rfl (List.mem_of_getElem? (i := 34) rfl)), ⟨by decide +kernel, by decide +kernel⟩, by decide +kernel, by decide⟩
theorem xk_28 : xr_cdb xt_cp4 false xm_28 = true := by decide +kernel
set_option maxRecDepth 100000 in
theorem xo_28 (L : Nat) (xs : Nat → Int32) : (∀ (pc : Nat) (i : Instr) (n : Nat), xr_fetch (xr_cd xm_28) pc = some (i, n) → xr_ok (xt_T L xs) xt_GW xt_ST xt_AO xm_28 pc i n) ∧ xr_hok xt_GW xt_NC xm_28 := ⟨xr_cdb_s (T := xt_T L xs) (ST := xt_ST) (AO := xt_AO) (GW := xt_GW) (cp := xt_cp4) (ini := false) (M := xm_28) (xt_cp4_ok L xs) (fun h => Bool.noConfusion h) xt_arr xk_28, (fun _ h => absurd h List.not_mem_nil)⟩
theorem xl_28 : xr_cal xt_GW xm_28 := ⟨plainFor_of_name (by decide +kernel), (xt_in 7 rfl (List.mem_of_getElem? (i := 17) rfl)), (xt_in 2 rfl (List.mem_of_getElem? (i := 34) rfl)), ⟨by decide +kernel, by decide +kernel⟩, by decide +kernel, by decide⟩
theorem xk_29 : xr_cdb xt_cp4 false xm_29 = true := by decide +kernel
set_option maxRecDepth 100000 in
theorem xo_29 (L : Nat) (xs : Nat → Int32) : (∀ (pc : Nat) (i : Instr) (n : Nat), xr_fetch (xr_cd xm_29) pc = some (i, n) → xr_ok (xt_T L xs) xt_GW xt_ST xt_AO xm_29 pc i n) ∧ xr_hok xt_GW xt_NC xm_29 := ⟨xr_cdb_s (T := xt_T L xs) (ST := xt_ST) (AO := xt_AO) (GW := xt_GW) (cp := xt_cp4) (ini := false) (M := xm_29) (xt_cp4_ok L xs) (fun h => Bool.noConfusion h) xt_arr xk_29, (fun _ h => absurd h List.not_mem_nil)⟩
theorem xl_29 : xr_cal xt_GW xm_29 := ⟨plainFor_of_name (by decide +kernel), (xt_in 8 rfl (List.mem_of_getElem? (i := 17) rfl)), (xt_in 2 rfl (List.mem_of_getElem? (i := 34) rfl)), ⟨by decide +kernel, by decide +kernel⟩, by decide +kernel, by decide⟩
theorem xk_30 : xr_cdb xt_cp4 false xm_30 = true := by decide +kernel
set_option maxRecDepth 100000 in
theorem xo_30 (L : Nat) (xs : Nat → Int32) : (∀ (pc : Nat) (i : Instr) (n : Nat), xr_fetch (xr_cd xm_30) pc = some (i, n) → xr_ok (xt_T L xs) xt_GW xt_ST xt_AO xm_30 pc i n) ∧ xr_hok xt_GW xt_NC xm_30 := ⟨xr_cdb_s (T := xt_T L xs) (ST := xt_ST) (AO := xt_AO) (GW := xt_GW) (cp := xt_cp4) (ini := false) (M := xm_30) (xt_cp4_ok L xs) (fun h => Bool.noConfusion h) xt_arr xk_30, (fun _ h => absurd h List.not_mem_nil)⟩
theorem xl_30 : xr_cal xt_GW xm_30 := ⟨plainFor_of_name (by decide +kernel), (xt_in 18 rfl (List.mem_of_getElem? (i := 12) rfl)), (xt_in 2 rfl (List.mem_of_getElem? (i := 34) rfl)), ⟨by decide +kernel, by decide +kernel⟩, by decide +kernel, by decide⟩
theorem xk_31 : xr_cdb xt_cp4 false xm_31 = true := by decide +kernel
set_option maxRecDepth 100000 in
theorem xo_31 (L : Nat) (xs : Nat → Int32) : (∀ (pc : Nat) (i : Instr) (n : Nat), xr_fetch (xr_cd xm_31) pc = some (i, n) → xr_ok (xt_T L xs) xt_GW xt_ST xt_AO xm_31 pc i n) ∧ xr_hok xt_GW xt_NC xm_31 := ⟨xr_cdb_s (T := xt_T L xs) (ST := xt_ST) (AO := xt_AO) (GW := xt_GW) (cp := xt_cp4) (ini := false) (M := xm_31) (xt_cp4_ok L xs) (fun h => Bool.noConfusion h) xt_arr xk_31, (fun _ h => absurd h List.not_mem_nil)⟩
theorem xl_31 : xr_cal xt_GW xm_31 := ⟨plainFor_of_name (by decide +kernel), (xt_in 10 rfl (List.mem_of_getElem? (i := 1) rfl)), (xt_in 2 rfl (List.mem_of_getElem? (i := 34) rfl)), ⟨by decide +kernel, by decide +kernel⟩, by decide +kernel, by decide⟩
theorem xk_32 : xr_cdb xt_cp4 false xm_32 = true := by decide +kernel
set_option maxRecDepth 100000 in
theorem xo_32 (L : Nat) (xs : Nat → Int32) : (∀ (pc : Nat) (i : Instr) (n : Nat), xr_fetch (xr_cd xm_32) pc = some (i, n) → xr_ok (xt_T L xs) xt_GW xt_ST xt_AO xm_32 pc i n) ∧ xr_hok xt_GW xt_NC xm_32 := ⟨xr_cdb_s (T := xt_T L xs) (ST := xt_ST) (AO := xt_AO) (GW := xt_GW) (cp := xt_cp4) (ini := false) (M := xm_32) (xt_cp4_ok L xs) (fun h => Bool.noConfusion h) xt_arr xk_32, (fun _ h => absurd h List.not_mem_nil)⟩
theorem xl_32 : xr_cal xt_GW xm_32 := ⟨plainFor_of_name (by decide +kernel), (xt_in 17 rfl (List.mem_of_getElem? (i := 33) rfl)), (xt_in 2 rfl (List.mem_of_getElem? (i := 34) rfl)), ⟨by decide +kernel, by decide +kernel⟩, by decide +kernel, by decide⟩
theorem xk_33 : xr_cdb xt_cp4 false xm_33 = true := by decide +kernel
set_option maxRecDepth 100000 in
theorem xo_33 (L : Nat) (xs : Nat → Int32) : (∀ (pc : Nat) (i : Instr) (n : Nat), xr_fetch (xr_cd xm_33) pc = some (i, n) → xr_ok (xt_T L xs) xt_GW xt_ST xt_AO xm_33 pc i n) ∧ xr_hok xt_GW xt_NC xm_33 := ⟨xr_cdb_s (T := xt_T L xs) (ST := xt_ST) (AO := xt_AO) (GW := xt_GW) (cp := xt_cp4) (ini := false) (M := xm_33) (xt_cp4_ok L xs) (fun h => Bool.noConfusion h) xt_arr xk_33, (fun _ h => absurd h List.not_mem_nil)⟩
theorem xl_33 : xr_cal xt_GW xm_33 := ⟨plainFor_of_name (by decide +kernel), (xt_in 21 rfl (List.mem_of_getElem? (i := 27) rfl)), (xt_in 2 rfl (List.mem_of_getElem? (i := 34) rfl)), ⟨by decide +kernel, by decide +kernel⟩, by decide +kernel, by decide⟩
theorem xk_34 : xr_cdb xt_cp4 false xm_34 = true := by decide +kernel
set_option maxRecDepth 100000 in
theorem xo_34 (L : Nat) (xs : Nat → Int32) : (∀ (pc : Nat) (i : Instr) (n : Nat), xr_fetch (xr_cd xm_34) pc = some (i, n) → xr_ok (xt_T L xs) xt_GW xt_ST xt_AO xm_34 pc i n) ∧ xr_hok xt_GW xt_NC xm_34 := ⟨xr_cdb_s (T := xt_T L xs) (ST := xt_ST) (AO := xt_AO) (GW := xt_GW) (cp := xt_cp4) (ini := false) (M := xm_34) (xt_cp4_ok L xs) (fun h => Bool.noConfusion h) xt_arr xk_34, (fun _ h => absurd h List.not_mem_nil)⟩
theorem xl_34 : xr_cal xt_GW xm_34 := ⟨plainFor_of_name (by decide +kernel), (xt_in 20 rfl (List.mem_of_getElem? (i := 32) rfl)), (xt_in 2 rfl (List.mem_of_getElem? (i := 34) rfl)), ⟨by decide +kernel, by decide +kernel⟩, by decide +kernel, by decide⟩
theorem xk_35 : xr_cdb xt_cp5 true xm_35 = true := by decide +kernel
set_option maxRecDepth 100000 in
theorem xo_35 (L : Nat) (xs : Nat → Int32) : (∀ (pc : Nat) (i : Instr) (n : Nat), xr_fetch (xr_cd xm_35) pc = some (i, n) → xr_ok (xt_T L xs) xt_GW xt_ST xt_AO xm_35 pc i n) ∧ xr_hok xt_GW xt_NC xm_35 := ⟨xr_cdb_s (T := xt_T L xs) (ST := xt_ST) (AO := xt_AO) (GW := xt_GW) (cp := xt_cp5) (ini := true) (M := xm_35) (xt_cp5_ok L xs) (fun _ => rfl) xt_arr xk_35, (fun _ h => absurd h List.not_mem_nil)⟩
theorem xl_35 : xr_cal xt_GW xm_35 := ⟨plainFor_of_name (by decide +kernel), (xt_in 3 rfl (List.mem_of_getElem? (i := 31) rfl)), (xt_in 2 rfl (List.mem_of_getElem? (i := 31) rfl)), ⟨by decide +kernel, by decide +kernel⟩, by decide +kernel, by decide⟩
theorem xk_36_0 : ((xc_36.drop 0).take 40).all (fun q => xr_okb xt_cp5 false xm_36 q.1 q.2.1 q.2.2) = true := by decide +kernel
theorem xk_36_40 : ((xc_36.drop 40).take 40).all (fun q => xr_okb xt_cp5 false xm_36 q.1 q.2.1 q.2.2) = true := by decide +kernel
theorem xk_36 : xr_cdb xt_cp5 false xm_36 = true := (xr_chk _ 40 0 _ xk_36_0 (xr_chk _ 40 40 _ xk_36_40 (by decide +kernel)))
set_option maxRecDepth 100000 in
theorem xo_36 (L : Nat) (xs : Nat → Int32) : (∀ (pc : Nat) (i : Instr) (n : Nat), xr_fetch (xr_cd xm_36) pc = some (i, n) → xr_ok (xt_T L xs) xt_GW xt_ST xt_AO xm_36 pc i n) ∧ xr_hok xt_GW xt_NC xm_36 := ⟨xr_cdb_s (T := xt_T L xs) (ST := xt_ST) (AO := xt_AO) (GW := xt_GW) (cp := xt_cp5) (ini := false) (M := xm_36) (xt_cp5_ok L xs) (fun h => Bool.noConfusion h) xt_arr xk_36, (fun _ h => absurd h List.not_mem_nil)⟩
theorem xl_36 : xr_cal xt_GW xm_36 := ⟨plainFor_of_name (by decide +kernel), (xt_in 13 rfl (List.mem_of_getElem? (i := 6) rfl)), (xt_in 2 rfl (List.mem_of_getElem? (i := 31) rfl)), ⟨by decide +kernel, by decide +kernel⟩, by decide +kernel, by decide⟩
theorem xk_37 : xr_cdb xt_cp5 false xm_37 = true := by decide +kernel
set_option maxRecDepth 100000 in
theorem xo_37 (L : Nat) (xs : Nat → Int32) : (∀ (pc : Nat) (i : Instr) (n : Nat), xr_fetch (xr_cd xm_37) pc = some (i, n) → xr_ok (xt_T L xs) xt_GW xt_ST xt_AO xm_37 pc i n) ∧ xr_hok xt_GW xt_NC xm_37 := ⟨xr_cdb_s (T := xt_T L xs) (ST := xt_ST) (AO := xt_AO) (GW := xt_GW) (cp := xt_cp5) (ini := false) (M := xm_37) (xt_cp5_ok L xs) (fun h => Bool.noConfusion h) xt_arr xk_37, (fun _ h => absurd h List.not_mem_nil)⟩
theorem xl_37 : xr_cal xt_GW xm_37 := ⟨plainFor_of_name (by decide +kernel), (xt_in 13 rfl (List.mem_of_getElem? (i := 9) rfl)), (xt_in 2 rfl (List.mem_of_getElem? (i := 31) rfl)), ⟨by decide +kernel, by decide +kernel⟩, by decide +kernel, by decide⟩
theorem xk_38 : xr_cdb xt_cp5 false xm_38 = true := by decide +kernel
set_option maxRecDepth 100000 in
theorem xo_38 (L : Nat) (xs : Nat → Int32) : (∀ (pc : Nat) (i : Instr) (n : Nat), xr_fetch (xr_cd xm_38) pc = some (i, n) → xr_ok (xt_T L xs) xt_GW xt_ST xt_AO xm_38 pc i n) ∧ xr_hok xt_GW xt_NC xm_38 := ⟨xr_cdb_s (T := xt_T L xs) (ST := xt_ST) (AO := xt_AO) (GW := xt_GW) (cp := xt_cp5) (ini := false) (M := xm_38) (xt_cp5_ok L xs) (fun h => Bool.noConfusion h) xt_arr xk_38, (fun _ h => absurd h List.not_mem_nil)⟩
theorem xl_38 : xr_cal xt_GW xm_38 := ⟨plainFor_of_name (by decide +kernel), (xt_in 13 rfl (List.mem_of_getElem? (i := 16) rfl)), (xt_in 2 rfl (List.mem_of_getElem? (i := 31) rfl)), ⟨by decide +kernel, by decide +kernel⟩, by decide +kernel, by decide⟩
theorem xk_39 : xr_cdb xt_cp5 false xm_39 = true := by decide +kernel
set_option maxRecDepth 100000 in
theorem xo_39 (L : Nat) (xs : Nat → Int32) : (∀ (pc : Nat) (i : Instr) (n : Nat), xr_fetch (xr_cd xm_39) pc = some (i, n) → xr_ok (xt_T L xs) xt_GW xt_ST xt_AO xm_39 pc i n) ∧ xr_hok xt_GW xt_NC xm_39 := ⟨xr_cdb_s (T := xt_T L xs) (ST := xt_ST) (AO := xt_AO) (GW := xt_GW) (cp := xt_cp5) (ini := false) (M := xm_39) (xt_cp5_ok L xs) (fun h => Bool.noConfusion h) xt_arr xk_39, (fun _ h => absurd h List.not_mem_nil)⟩
theorem xl_39 : xr_cal xt_GW xm_39 := ⟨plainFor_of_name (by decide +kernel), (xt_in 13 rfl (List.mem_of_getElem? (i := 29) rfl)), (xt_in 2 rfl (List.mem_of_getElem? (i := 31) rfl)), ⟨by decide +kernel, by decide +kernel⟩, by decide +kernel, by decide⟩
theorem xk_40 : xr_cdb xt_cp5 false xm_40 = true := by decide +kernel
set_option maxRecDepth 100000 in
theorem xo_40 (L : Nat) (xs : Nat → Int32) : (∀ (pc : Nat) (i : Instr) (n : Nat), xr_fetch (xr_cd xm_40) pc = some (i, n) → xr_ok (xt_T L xs) xt_GW xt_ST xt_AO xm_40 pc i n) ∧ xr_hok xt_GW xt_NC xm_40 := ⟨xr_cdb_s (T := xt_T L xs) (ST := xt_ST) (AO := xt_AO) (GW := xt_GW) (cp := xt_cp5) (ini := false) (M := xm_40) (xt_cp5_ok L xs) (fun h => Bool.noConfusion h) xt_arr xk_40, (fun _ h => absurd h List.not_mem_nil)⟩
theorem xl_40 : xr_cal xt_GW xm_40 := ⟨plainFor_of_name (by decide +kernel), (xt_in 13 rfl (List.mem_of_getElem? (i := 22) rfl)), (xt_in 2 rfl (List.mem_of_getElem? (i := 31) rfl)), ⟨by decide +kernel, by decide +kernel⟩, by decide +kernel, by decide⟩
theorem xk_41 : xr_cdb xt_cp5 false xm_41 = true := by decide +kernel
set_option maxRecDepth 100000 in
theorem xo_41 (L : Nat) (xs : Nat → Int32) : (∀ (pc : Nat) (i : Instr) (n : Nat), xr_fetch (xr_cd xm_41) pc = some (i, n) → xr_ok (xt_T L xs) xt_GW xt_ST xt_AO xm_41 pc i n) ∧ xr_hok xt_GW xt_NC xm_41 := ⟨xr_cdb_s (T := xt_T L xs) (ST := xt_ST) (AO := xt_AO) (GW := xt_GW) (cp := xt_cp5) (ini := false) (M := xm_41) (xt_cp5_ok L xs) (fun h => Bool.noConfusion h) xt_arr xk_41, (fun _ h => absurd h List.not_mem_nil)⟩
theorem xl_41 : xr_cal xt_GW xm_41 := ⟨plainFor_of_name (by decide +kernel), (xt_in 14 rfl (List.mem_of_getElem? (i := 18) rfl)), (xt_in 2 rfl (List.mem_of_getElem? (i := 31) rfl)), ⟨by decide +kernel, by decide +kernel⟩, by decide +kernel, by decide⟩
