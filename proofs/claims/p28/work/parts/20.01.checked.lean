/-! methods that are checked -/
theorem xk_0_440 : ((xc_0.drop 440).take 40).all (fun q => xr_okb xt_cp9 false xm_0 q.1 q.2.1 q.2.2) = true := by decide +kernel
theorem xk_0_480 : ((xc_0.drop 480).take 40).all (fun q => xr_okb xt_cp9 false xm_0 q.1 q.2.1 q.2.2) = true := by decide +kernel
theorem xk_0 : xr_cdb xt_cp9 false xm_0 = true := (xr_chk _ 40 0 _ xk_0_0 (xr_chk _ 40 40 _ xk_0_40 (xr_chk _ 40 80 _ xk_0_80 (xr_chk _ 40 120 _ xk_0_120 (xr_chk _ 40 160 _ xk_0_160 (xr_chk _ 40 200 _ xk_0_200 (xr_chk _ 40 240 _ xk_0_240 (xr_chk _ 40 280 _ xk_0_280 (xr_chk _ 40 320 _ xk_0_320 (xr_chk _ 40 360 _ xk_0_360 (xr_chk _ 40 400 _ xk_0_400 (xr_chk _ 40 440 _ xk_0_440 (xr_chk _ 40 480 _ xk_0_480 (by decide +kernel))))))))))))))
set_option maxRecDepth 100000 in
theorem xo_0 (L : Nat) (xs : Nat → Int32) : (∀ (pc : Nat) (i : Instr) (n : Nat), xr_fetch (xr_cd xm_0) pc = some (i, n) → xr_ok (xt_T L xs) xt_GW xt_ST xt_AO xm_0 pc i n) ∧ xr_hok xt_GW xt_NC xm_0 := ⟨xr_cdb_s (T := xt_T L xs) (ST := xt_ST) (AO := xt_AO) (GW := xt_GW) (cp := xt_cp9) (ini := false) (M := xm_0) (xt_cp9_ok L xs) (fun h => Bool.noConfusion h) xt_arr xk_0, (fun _ h => absurd h List.not_mem_nil)⟩
theorem xk_1 : xr_cdb xt_cp1 true xm_1 = true := by decide +kernel
set_option maxRecDepth 100000 in
theorem xo_1 (L : Nat) (xs : Nat → Int32) : (∀ (pc : Nat) (i : Instr) (n : Nat), xr_fetch (xr_cd xm_1) pc = some (i, n) → xr_ok (xt_T L xs) xt_GW xt_ST xt_AO xm_1 pc i n) ∧ xr_hok xt_GW xt_NC xm_1 := ⟨xr_cdb_s (T := xt_T L xs) (ST := xt_ST) (AO := xt_AO) (GW := xt_GW) (cp := xt_cp1) (ini := true) (M := xm_1) (xt_cp1_ok L xs) (fun _ => rfl) xt_arr xk_1, (fun _ h => absurd h List.not_mem_nil)⟩
theorem xl_1 : xr_cal xt_GW xm_1 := ⟨plainFor_of_name (by decide +kernel), (xt_in 1 rfl (List.mem_of_getElem? (i := 39) rfl)), (xt_in 1 rfl (List.mem_of_getElem? (i := 15) rfl)), ⟨by decide +kernel, by decide +kernel⟩, by decide +kernel, by decide⟩
theorem xk_2 : xr_cdb xt_cp1 false xm_2 = true := by decide +kernel
set_option maxRecDepth 100000 in
theorem xo_2 (L : Nat) (xs : Nat → Int32) : (∀ (pc : Nat) (i : Instr) (n : Nat), xr_fetch (xr_cd xm_2) pc = some (i, n) → xr_ok (xt_T L xs) xt_GW xt_ST xt_AO xm_2 pc i n) ∧ xr_hok xt_GW xt_NC xm_2 := ⟨xr_cdb_s (T := xt_T L xs) (ST := xt_ST) (AO := xt_AO) (GW := xt_GW) (cp := xt_cp1) (ini := false) (M := xm_2) (xt_cp1_ok L xs) (fun h => Bool.noConfusion h) xt_arr xk_2, (fun _ h => absurd h List.not_mem_nil)⟩
theorem xl_2 : xr_cal xt_GW xm_2 := ⟨plainFor_of_name (by decide +kernel), (xt_in 6 rfl (List.mem_of_getElem? (i := 2) rfl)), (xt_in 1 rfl (List.mem_of_getElem? (i := 15) rfl)), ⟨by decide +kernel, by decide +kernel⟩, by decide +kernel, by decide⟩
theorem xk_3 : xr_cdb xt_cp1 false xm_3 = true := by decide +kernel
set_option maxRecDepth 100000 in
theorem xo_3 (L : Nat) (xs : Nat → Int32) : (∀ (pc : Nat) (i : Instr) (n : Nat), xr_fetch (xr_cd xm_3) pc = some (i, n) → xr_ok (xt_T L xs) xt_GW xt_ST xt_AO xm_3 pc i n) ∧ xr_hok xt_GW xt_NC xm_3 := ⟨xr_cdb_s (T := xt_T L xs) (ST := xt_ST) (AO := xt_AO) (GW := xt_GW) (cp := xt_cp1) (ini := false) (M := xm_3) (xt_cp1_ok L xs) (fun h => Bool.noConfusion h) xt_arr xk_3, (fun _ h => absurd h List.not_mem_nil)⟩
theorem xl_3 : xr_cal xt_GW xm_3 := ⟨plainFor_of_name (by decide +kernel), (xt_in 13 rfl (List.mem_of_getElem? (i := 33) rfl)), (xt_in 1 rfl (List.mem_of_getElem? (i := 15) rfl)), ⟨by decide +kernel, by decide +kernel⟩, by decide +kernel, by decide⟩
theorem xk_4 : xr_cdb xt_cp1 false xm_4 = true := by decide +kernel
set_option maxRecDepth 100000 in
theorem xo_4 (L : Nat) (xs : Nat → Int32) : (∀ (pc : Nat) (i : Instr) (n : Nat), xr_fetch (xr_cd xm_4) pc = some (i, n) → xr_ok (xt_T L xs) xt_GW xt_ST xt_AO xm_4 pc i n) ∧ xr_hok xt_GW xt_NC xm_4 := ⟨xr_cdb_s (T := xt_T L xs) (ST := xt_ST) (AO := xt_AO) (GW := xt_GW) (cp := xt_cp1) (ini := false) (M := xm_4) (xt_cp1_ok L xs) (fun h => Bool.noConfusion h) xt_arr xk_4, (fun _ h => absurd h List.not_mem_nil)⟩
theorem xl_4 : xr_cal xt_GW xm_4 := ⟨plainFor_of_name (by decide +kernel), (xt_in 5 rfl (List.mem_of_getElem? (i := 15) rfl)), (xt_in 1 rfl (List.mem_of_getElem? (i := 15) rfl)), ⟨by decide +kernel, by decide +kernel⟩, by decide +kernel, by decide⟩
theorem xk_5 : xr_cdb xt_cp1 false xm_5 = true := by decide +kernel
set_option maxRecDepth 100000 in
theorem xo_5 (L : Nat) (xs : Nat → Int32) : (∀ (pc : Nat) (i : Instr) (n : Nat), xr_fetch (xr_cd xm_5) pc = some (i, n) → xr_ok (xt_T L xs) xt_GW xt_ST xt_AO xm_5 pc i n) ∧ xr_hok xt_GW xt_NC xm_5 := ⟨xr_cdb_s (T := xt_T L xs) (ST := xt_ST) (AO := xt_AO) (GW := xt_GW) (cp := xt_cp1) (ini := false) (M := xm_5) (xt_cp1_ok L xs) (fun h => Bool.noConfusion h) xt_arr xk_5, (fun _ h => absurd h List.not_mem_nil)⟩
theorem xl_5 : xr_cal xt_GW xm_5 := ⟨plainFor_of_name (by decide +kernel), (xt_in 5 rfl (List.mem_of_getElem? (i := 27) rfl)), (xt_in 1 rfl (List.mem_of_getElem? (i := 15) rfl)), ⟨by decide +kernel, by decide +kernel⟩, by decide +kernel, by decide⟩
theorem xk_6 : xr_cdb xt_cp1 false xm_6 = true := by decide +kernel
set_option maxRecDepth 100000 in
theorem xo_6 (L : Nat) (xs : Nat → Int32) : (∀ (pc : Nat) (i : Instr) (n : Nat), xr_fetch (xr_cd xm_6) pc = some (i, n) → xr_ok (xt_T L xs) xt_GW xt_ST xt_AO xm_6 pc i n) ∧ xr_hok xt_GW xt_NC xm_6 := ⟨xr_cdb_s (T := xt_T L xs) (ST := xt_ST) (AO := xt_AO) (GW := xt_GW) (cp := xt_cp1) (ini := false) (M := xm_6) (xt_cp1_ok L xs) (fun h => Bool.noConfusion h) xt_arr xk_6, (fun _ h => absurd h List.not_mem_nil)⟩
theorem xl_6 : xr_cal xt_GW xm_6 := ⟨plainFor_of_name (by decide +kernel), (xt_in 14 rfl (List.mem_of_getElem? (i := 26) rfl)), (xt_in 1 rfl (List.mem_of_getElem? (i := 15) rfl)), ⟨by decide +kernel, by decide +kernel⟩, by decide +kernel, by decide⟩
theorem xk_7 : xr_cdb xt_cp1 false xm_7 = true := by decide +kernel
set_option maxRecDepth 100000 in
theorem xo_7 (L : Nat) (xs : Nat → Int32) : (∀ (pc : Nat) (i : Instr) (n : Nat), xr_fetch (xr_cd xm_7) pc = some (i, n) → xr_ok (xt_T L xs) xt_GW xt_ST xt_AO xm_7 pc i n) ∧ xr_hok xt_GW xt_NC xm_7 := ⟨xr_cdb_s (T := xt_T L xs) (ST := xt_ST) (AO := xt_AO) (GW := xt_GW) (cp := xt_cp1) (ini := false) (M := xm_7) (xt_cp1_ok L xs) (fun h => Bool.noConfusion h) xt_arr xk_7, (fun _ h => absurd h List.not_mem_nil)⟩
theorem xl_7 : xr_cal xt_GW xm_7 := ⟨plainFor_of_name (by decide +kernel), (xt_in 15 rfl (List.mem_of_getElem? (i := 39) rfl)), (xt_in 1 rfl (List.mem_of_getElem? (i := 15) rfl)), ⟨by decide +kernel, by decide +kernel⟩, by decide +kernel, by decide⟩
theorem xk_8 : xr_cdb xt_cp1 false xm_8 = true := by decide +kernel
set_option maxRecDepth 100000 in
theorem xo_8 (L : Nat) (xs : Nat → Int32) : (∀ (pc : Nat) (i : Instr) (n : Nat), xr_fetch (xr_cd xm_8) pc = some (i, n) → xr_ok (xt_T L xs) xt_GW xt_ST xt_AO xm_8 pc i n) ∧ xr_hok xt_GW xt_NC xm_8 := ⟨xr_cdb_s (T := xt_T L xs) (ST := xt_ST) (AO := xt_AO) (GW := xt_GW) (cp := xt_cp1) (ini := false) (M := xm_8) (xt_cp1_ok L xs) (fun h => Bool.noConfusion h) xt_arr xk_8, (fun _ h => absurd h List.not_mem_nil)⟩
theorem xl_8 : xr_cal xt_GW xm_8 := ⟨plainFor_of_name (by decide +kernel), (xt_in 16 rfl (List.mem_of_getElem? (i := 11) rfl)), (xt_in 1 rfl (List.mem_of_getElem? (i := 15) rfl)), ⟨by decide +kernel, by decide +kernel⟩, by decide +kernel, by decide⟩
theorem xk_9 : xr_cdb xt_cp2 true xm_9 = true := by decide +kernel
set_option maxRecDepth 100000 in
theorem xo_9 (L : Nat) (xs : Nat → Int32) : (∀ (pc : Nat) (i : Instr) (n : Nat), xr_fetch (xr_cd xm_9) pc = some (i, n) → xr_ok (xt_T L xs) xt_GW xt_ST xt_AO xm_9 pc i n) ∧ xr_hok xt_GW xt_NC xm_9 := ⟨xr_cdb_s (T := xt_T L xs) (ST := xt_ST) (AO := xt_AO) (GW := xt_GW) (cp := xt_cp2) (ini := true) (M := xm_9) (xt_cp2_ok L xs) (fun _ => rfl) xt_arr xk_9, (fun _ h => absurd h List.not_mem_nil)⟩
theorem xl_9 : xr_cal xt_GW xm_9 := ⟨plainFor_of_name (by decide +kernel), (xt_in 4 rfl (List.mem_of_getElem? (i := 16) rfl)), (xt_in 1 rfl (List.mem_of_getElem? (i := 20) rfl)), ⟨by decide +kernel, by decide +kernel⟩, by decide +kernel, by decide⟩
theorem xk_10 : xr_cdb xt_cp2 false xm_10 = true := by decide +kernel
set_option maxRecDepth 100000 in
theorem xo_10 (L : Nat) (xs : Nat → Int32) : (∀ (pc : Nat) (i : Instr) (n : Nat), xr_fetch (xr_cd xm_10) pc = some (i, n) → xr_ok (xt_T L xs) xt_GW xt_ST xt_AO xm_10 pc i n) ∧ xr_hok xt_GW xt_NC xm_10 := ⟨xr_cdb_s (T := xt_T L xs) (ST := xt_ST) (AO := xt_AO) (GW := xt_GW) (cp := xt_cp2) (ini := false) (M := xm_10) (xt_cp2_ok L xs) (fun h => Bool.noConfusion h) xt_arr xk_10, (fun _ h => absurd h List.not_mem_nil)⟩
theorem xl_10 : xr_cal xt_GW xm_10 := ⟨plainFor_of_name (by decide +kernel), (xt_in 13 rfl (List.mem_of_getElem? (i := 19) rfl)), (xt_in 1 rfl (List.mem_of_getElem? (i := 20) rfl)), ⟨by decide +kernel, by decide +kernel⟩, by decide +kernel, by decide⟩
theorem xk_11_0 : ((xc_11.drop 0).take 40).all (fun q => xr_okb xt_cp2 false xm_11 q.1 q.2.1 q.2.2) = true := by decide +kernel
theorem xk_11_40 : ((xc_11.drop 40).take 40).all (fun q => xr_okb xt_cp2 false xm_11 q.1 q.2.1 q.2.2) = true := by decide +kernel
theorem xk_11 : xr_cdb xt_cp2 false xm_11 = true := (xr_chk _ 40 0 _ xk_11_0 (xr_chk _ 40 40 _ xk_11_40 (by decide +kernel)))
set_option maxRecDepth 100000 in
theorem xo_11 (L : Nat) (xs : Nat → Int32) : (∀ (pc : Nat) (i : Instr) (n : Nat), xr_fetch (xr_cd xm_11) pc = some (i, n) → xr_ok (xt_T L xs) xt_GW xt_ST xt_AO xm_11 pc i n) ∧ xr_hok xt_GW xt_NC xm_11 := ⟨xr_cdb_s (T := xt_T L xs) (ST := xt_ST) (AO := xt_AO) (GW := xt_GW) (cp := xt_cp2) (ini := false) (M := xm_11) (xt_cp2_ok L xs) (fun h => Bool.noConfusion h) xt_arr xk_11, (fun _ h => absurd h List.not_mem_nil)⟩
theorem xl_11 : xr_cal xt_GW xm_11 := ⟨plainFor_of_name (by decide +kernel), (xt_in 13 rfl (List.mem_of_getElem? (i := 28) rfl)), (xt_in 1 rfl (List.mem_of_getElem? (i := 20) rfl)), ⟨by decide +kernel, by decide +kernel⟩, by decide +kernel, by decide⟩
theorem xk_12_0 : ((xc_12.drop 0).take 40).all (fun q => xr_okb xt_cp2 false xm_12 q.1 q.2.1 q.2.2) = true := by decide +kernel
theorem xk_12_40 : ((xc_12.drop 40).take 40).all (fun q => xr_okb xt_cp2 false xm_12 q.1 q.2.1 q.2.2) = true := by decide +kernel
theorem xk_12 : xr_cdb xt_cp2 false xm_12 = true := (xr_chk _ 40 0 _ xk_12_0 (xr_chk _ 40 40 _ xk_12_40 (by decide +kernel)))
set_option maxRecDepth 100000 in
theorem xo_12 (L : Nat) (xs : Nat → Int32) : (∀ (pc : Nat) (i : Instr) (n : Nat), xr_fetch (xr_cd xm_12) pc = some (i, n) → xr_ok (xt_T L xs) xt_GW xt_ST xt_AO xm_12 pc i n) ∧ xr_hok xt_GW xt_NC xm_12 := ⟨xr_cdb_s (T := xt_T L xs) (ST := xt_ST) (AO := xt_AO) (GW := xt_GW) (cp := xt_cp2) (ini := false) (M := xm_12) (xt_cp2_ok L xs) (fun h => Bool.noConfusion h) xt_arr xk_12, (fun _ h => absurd h List.not_mem_nil)⟩
theorem xl_12 : xr_cal xt_GW xm_12 := ⟨plainFor_of_name (by decide +kernel), (xt_in 13 rfl (List.mem_of_getElem? (i := 24) rfl)), (xt_in 1 rfl (List.mem_of_getElem? (i := 20) rfl)), ⟨by decide +kernel, by decide +kernel⟩, by decide +kernel, by decide⟩
theorem xk_13 : xr_cdb xt_cp2 false xm_13 = true := by decide +kernel
set_option maxRecDepth 100000 in
theorem xo_13 (L : Nat) (xs : Nat → Int32) : (∀ (pc : Nat) (i : Instr) (n : Nat), xr_fetch (xr_cd xm_13) pc = some (i, n) → xr_ok (xt_T L xs) xt_GW xt_ST xt_AO xm_13 pc i n) ∧ xr_hok xt_GW xt_NC xm_13 := ⟨xr_cdb_s (T := xt_T L xs) (ST := xt_ST) (AO := xt_AO) (GW := xt_GW) (cp := xt_cp2) (ini := false) (M := xm_13) (xt_cp2_ok L xs) (fun h => Bool.noConfusion h) xt_arr xk_13, (fun _ h => absurd h List.not_mem_nil)⟩
theorem xl_13 : xr_cal xt_GW xm_13 := ⟨plainFor_of_name (by decide +kernel), (xt_in 15 rfl (List.mem_of_getElem? (i := 34) rfl)), (xt_in 1 rfl (List.mem_of_getElem? (i := 20) rfl)), ⟨by decide +kernel, by decide +kernel⟩, by decide +kernel, by decide⟩
