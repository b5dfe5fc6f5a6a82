/-! methods that are checked -/
theorem xk_14 : xr_cdb xt_cp2 false xm_14 = true := by decide +kernel
set_option maxRecDepth 100000 in
theorem xo_14 (L : Nat) (xs : Nat → Int32) : (∀ (pc : Nat) (i : Instr) (n : Nat), xr_fetch (xr_cd xm_14) pc = some (i, n) → xr_ok (xt_T L xs) xt_GW xt_ST xt_AO xm_14 pc i n) ∧ xr_hok xt_GW xt_NC xm_14 := ⟨xr_cdb_s (T := xt_T L xs) (ST := xt_ST) (AO := xt_AO) (GW := xt_GW) (cp := xt_cp2) (ini := false) (M := xm_14) (xt_cp2_ok L xs) (fun h => Bool.noConfusion h) xt_arr xk_14, (fun _ h => absurd h List.not_mem_nil)⟩
theorem xl_14 : xr_cal xt_GW xm_14 := ⟨plainFor_of_name (by decide +kernel), (xt_in 14 rfl (List.mem_of_getElem? (i := 5) rfl)), (xt_in 1 rfl (List.mem_of_getElem? (i := 20) rfl)), ⟨by decide +kernel, by decide +kernel⟩, by decide +kernel, by decide⟩
theorem xk_15 : xr_cdb xt_cp2 false xm_15 = true := by decide +kernel
set_option maxRecDepth 100000 in
theorem xo_15 (L : Nat) (xs : Nat → Int32) : (∀ (pc : Nat) (i : Instr) (n : Nat), xr_fetch (xr_cd xm_15) pc = some (i, n) → xr_ok (xt_T L xs) xt_GW xt_ST xt_AO xm_15 pc i n) ∧ xr_hok xt_GW xt_NC xm_15 := ⟨xr_cdb_s (T := xt_T L xs) (ST := xt_ST) (AO := xt_AO) (GW := xt_GW) (cp := xt_cp2) (ini := false) (M := xm_15) (xt_cp2_ok L xs) (fun h => Bool.noConfusion h) xt_arr xk_15, (fun _ h => absurd h List.not_mem_nil)⟩
theorem xl_15 : xr_cal xt_GW xm_15 := ⟨plainFor_of_name (by decide +kernel), (xt_in 14 rfl (List.mem_of_getElem? (i := 37) rfl)), (xt_in 1 rfl (List.mem_of_getElem? (i := 20) rfl)), ⟨by decide +kernel, by decide +kernel⟩, by decide +kernel, by decide⟩
theorem xk_16 : xr_cdb xt_cp2 false xm_16 = true := by decide +kernel
set_option maxRecDepth 100000 in
theorem xo_16 (L : Nat) (xs : Nat → Int32) : (∀ (pc : Nat) (i : Instr) (n : Nat), xr_fetch (xr_cd xm_16) pc = some (i, n) → xr_ok (xt_T L xs) xt_GW xt_ST xt_AO xm_16 pc i n) ∧ xr_hok xt_GW xt_NC xm_16 := ⟨xr_cdb_s (T := xt_T L xs) (ST := xt_ST) (AO := xt_AO) (GW := xt_GW) (cp := xt_cp2) (ini := false) (M := xm_16) (xt_cp2_ok L xs) (fun h => Bool.noConfusion h) xt_arr xk_16, (fun _ h => absurd h List.not_mem_nil)⟩
theorem xl_16 : xr_cal xt_GW xm_16 := ⟨plainFor_of_name (by decide +kernel), (xt_in 15 rfl (List.mem_of_getElem? (i := 1) rfl)), (xt_in 1 rfl (List.mem_of_getElem? (i := 20) rfl)), ⟨by decide +kernel, by decide +kernel⟩, by decide +kernel, by decide⟩
theorem xk_17_0 : ((xc_17.drop 0).take 40).all (fun q => xr_okb xt_cp2 false xm_17 q.1 q.2.1 q.2.2) = true := by decide +kernel
theorem xk_17_40 : ((xc_17.drop 40).take 40).all (fun q => xr_okb xt_cp2 false xm_17 q.1 q.2.1 q.2.2) = true := by decide +kernel
theorem xk_17 : xr_cdb xt_cp2 false xm_17 = true := (xr_chk _ 40 0 _ xk_17_0 (xr_chk _ 40 40 _ xk_17_40 (by decide +kernel)))
set_option maxRecDepth 100000 in
theorem xo_17 (L : Nat) (xs : Nat → Int32) : (∀ (pc : Nat) (i : Instr) (n : Nat), xr_fetch (xr_cd xm_17) pc = some (i, n) → xr_ok (xt_T L xs) xt_GW xt_ST xt_AO xm_17 pc i n) ∧ xr_hok xt_GW xt_NC xm_17 := ⟨xr_cdb_s (T := xt_T L xs) (ST := xt_ST) (AO := xt_AO) (GW := xt_GW) (cp := xt_cp2) (ini := false) (M := xm_17) (xt_cp2_ok L xs) (fun h => Bool.noConfusion h) xt_arr xk_17, (fun _ h => absurd h List.not_mem_nil)⟩
theorem xl_17 : xr_cal xt_GW xm_17 := ⟨plainFor_of_name (by decide +kernel), (xt_in 15 rfl (List.mem_of_getElem? (i := 10) rfl)), (xt_in 1 rfl (List.mem_of_getElem? (i := 20) rfl)), ⟨by decide +kernel, by decide +kernel⟩, by decide +kernel, by decide⟩
theorem xk_18 : xr_cdb xt_cp2 false xm_18 = true := by decide +kernel
set_option maxRecDepth 100000 in
theorem xo_18 (L : Nat) (xs : Nat → Int32) : (∀ (pc : Nat) (i : Instr) (n : Nat), xr_fetch (xr_cd xm_18) pc = some (i, n) → xr_ok (xt_T L xs) xt_GW xt_ST xt_AO xm_18 pc i n) ∧ xr_hok xt_GW xt_NC xm_18 := ⟨xr_cdb_s (T := xt_T L xs) (ST := xt_ST) (AO := xt_AO) (GW := xt_GW) (cp := xt_cp2) (ini := false) (M := xm_18) (xt_cp2_ok L xs) (fun h => Bool.noConfusion h) xt_arr xk_18, (fun _ h => absurd h List.not_mem_nil)⟩
theorem xl_18 : xr_cal xt_GW xm_18 := ⟨plainFor_of_name (by decide +kernel), (xt_in 15 rfl (List.mem_of_getElem? (i := 13) rfl)), (xt_in 1 rfl (List.mem_of_getElem? (i := 20) rfl)), ⟨by decide +kernel, by decide +kernel⟩, by decide +kernel, by decide⟩
theorem xk_19 : xr_cdb xt_cp2 false xm_19 = true := by decide +kernel
set_option maxRecDepth 100000 in
theorem xo_19 (L : Nat) (xs : Nat → Int32) : (∀ (pc : Nat) (i : Instr) (n : Nat), xr_fetch (xr_cd xm_19) pc = some (i, n) → xr_ok (xt_T L xs) xt_GW xt_ST xt_AO xm_19 pc i n) ∧ xr_hok xt_GW xt_NC xm_19 := ⟨xr_cdb_s (T := xt_T L xs) (ST := xt_ST) (AO := xt_AO) (GW := xt_GW) (cp := xt_cp2) (ini := false) (M := xm_19) (xt_cp2_ok L xs) (fun h => Bool.noConfusion h) xt_arr xk_19, (fun _ h => absurd h List.not_mem_nil)⟩
theorem xl_19 : xr_cal xt_GW xm_19 := ⟨plainFor_of_name (by decide +kernel), (xt_in 15 rfl (List.mem_of_getElem? (i := 16) rfl)), (xt_in 1 rfl (List.mem_of_getElem? (i := 20) rfl)), ⟨by decide +kernel, by decide +kernel⟩, by decide +kernel, by decide⟩
theorem xk_20 : xr_cdb xt_cp2 false xm_20 = true := by decide +kernel
set_option maxRecDepth 100000 in
theorem xo_20 (L : Nat) (xs : Nat → Int32) : (∀ (pc : Nat) (i : Instr) (n : Nat), xr_fetch (xr_cd xm_20) pc = some (i, n) → xr_ok (xt_T L xs) xt_GW xt_ST xt_AO xm_20 pc i n) ∧ xr_hok xt_GW xt_NC xm_20 := ⟨xr_cdb_s (T := xt_T L xs) (ST := xt_ST) (AO := xt_AO) (GW := xt_GW) (cp := xt_cp2) (ini := false) (M := xm_20) (xt_cp2_ok L xs) (fun h => Bool.noConfusion h) xt_arr xk_20, (fun _ h => absurd h List.not_mem_nil)⟩
theorem xl_20 : xr_cal xt_GW xm_20 := ⟨plainFor_of_name (by decide +kernel), (xt_in 15 rfl (List.mem_of_getElem? (i := 21) rfl)), (xt_in 1 rfl (List.mem_of_getElem? (i := 20) rfl)), ⟨by decide +kernel, by decide +kernel⟩, by decide +kernel, by decide⟩
theorem xk_21 : xr_cdb xt_cp3 true xm_21 = true := by decide +kernel
set_option maxRecDepth 100000 in
theorem xo_21 (L : Nat) (xs : Nat → Int32) : (∀ (pc : Nat) (i : Instr) (n : Nat), xr_fetch (xr_cd xm_21) pc = some (i, n) → xr_ok (xt_T L xs) xt_GW xt_ST xt_AO xm_21 pc i n) ∧ xr_hok xt_GW xt_NC xm_21 := ⟨xr_cdb_s (T := xt_T L xs) (ST := xt_ST) (AO := xt_AO) (GW := xt_GW) (cp := xt_cp3) (ini := true) (M := xm_21) (xt_cp3_ok L xs) (fun _ => rfl) xt_arr xk_21, (fun _ h => absurd h List.not_mem_nil)⟩
theorem xl_21 : xr_cal xt_GW xm_21 := ⟨plainFor_of_name (by decide +kernel), (xt_in 4 rfl (List.mem_of_getElem? (i := 28) rfl)), (xt_in 1 rfl (List.mem_of_getElem? (i := 21) rfl)), ⟨by decide +kernel, by decide +kernel⟩, by decide +kernel, by decide⟩
theorem xk_22 : xr_cdb ([] : List (Nat × Nat × Int)) false xm_22 = true := by decide +kernel
set_option maxRecDepth 100000 in
theorem xo_22 (L : Nat) (xs : Nat → Int32) : (∀ (pc : Nat) (i : Instr) (n : Nat), xr_fetch (xr_cd xm_22) pc = some (i, n) → xr_ok (xt_T L xs) xt_GW xt_ST xt_AO xm_22 pc i n) ∧ xr_hok xt_GW xt_NC xm_22 := ⟨xr_cdb_s (T := xt_T L xs) (ST := xt_ST) (AO := xt_AO) (GW := xt_GW) (cp := ([] : List (Nat × Nat × Int))) (ini := false) (M := xm_22) (fun _ h => absurd h List.not_mem_nil) (fun h => Bool.noConfusion h) xt_arr xk_22, (fun _ h => absurd h List.not_mem_nil)⟩
theorem xl_22 : xr_cal xt_GW xm_22 := ⟨by decide +kernel, (xt_in 9 rfl (List.mem_of_getElem? (i := 11) rfl)), (xt_in 1 rfl (List.mem_of_getElem? (i := 25) rfl)), ⟨by decide +kernel, by decide +kernel⟩, by decide +kernel, by decide⟩
theorem xk_23 : xr_cdb ([] : List (Nat × Nat × Int)) false xm_23 = true := by decide +kernel
set_option maxRecDepth 100000 in
theorem xo_23 (L : Nat) (xs : Nat → Int32) : (∀ (pc : Nat) (i : Instr) (n : Nat), xr_fetch (xr_cd xm_23) pc = some (i, n) → xr_ok (xt_T L xs) xt_GW xt_ST xt_AO xm_23 pc i n) ∧ xr_hok xt_GW xt_NC xm_23 := ⟨xr_cdb_s (T := xt_T L xs) (ST := xt_ST) (AO := xt_AO) (GW := xt_GW) (cp := ([] : List (Nat × Nat × Int))) (ini := false) (M := xm_23) (fun _ h => absurd h List.not_mem_nil) (fun h => Bool.noConfusion h) xt_arr xk_23, (fun _ h => absurd h List.not_mem_nil)⟩
theorem xl_23 : xr_cal xt_GW xm_23 := ⟨by decide +kernel, (xt_in 11 rfl (List.mem_of_getElem? (i := 26) rfl)), (xt_in 1 rfl (List.mem_of_getElem? (i := 25) rfl)), ⟨by decide +kernel, by decide +kernel⟩, by decide +kernel, by decide⟩
theorem xk_24 : xr_cdb ([] : List (Nat × Nat × Int)) false xm_24 = true := by decide +kernel
set_option maxRecDepth 100000 in
theorem xo_24 (L : Nat) (xs : Nat → Int32) : (∀ (pc : Nat) (i : Instr) (n : Nat), xr_fetch (xr_cd xm_24) pc = some (i, n) → xr_ok (xt_T L xs) xt_GW xt_ST xt_AO xm_24 pc i n) ∧ xr_hok xt_GW xt_NC xm_24 := ⟨xr_cdb_s (T := xt_T L xs) (ST := xt_ST) (AO := xt_AO) (GW := xt_GW) (cp := ([] : List (Nat × Nat × Int))) (ini := false) (M := xm_24) (fun _ h => absurd h List.not_mem_nil) (fun h => Bool.noConfusion h) xt_arr xk_24, (fun _ h => absurd h List.not_mem_nil)⟩
theorem xl_24 : xr_cal xt_GW xm_24 := ⟨by decide +kernel, (xt_in 5 rfl (List.mem_of_getElem? (i := 30) rfl)), (xt_in 1 rfl (List.mem_of_getElem? (i := 25) rfl)), ⟨by decide +kernel, by decide +kernel⟩, by decide +kernel, by decide⟩
theorem xk_25 : xr_cdb ([] : List (Nat × Nat × Int)) false xm_25 = true := by decide +kernel
set_option maxRecDepth 100000 in
theorem xo_25 (L : Nat) (xs : Nat → Int32) : (∀ (pc : Nat) (i : Instr) (n : Nat), xr_fetch (xr_cd xm_25) pc = some (i, n) → xr_ok (xt_T L xs) xt_GW xt_ST xt_AO xm_25 pc i n) ∧ xr_hok xt_GW xt_NC xm_25 := ⟨xr_cdb_s (T := xt_T L xs) (ST := xt_ST) (AO := xt_AO) (GW := xt_GW) (cp := ([] : List (Nat × Nat × Int))) (ini := false) (M := xm_25) (fun _ h => absurd h List.not_mem_nil) (fun h => Bool.noConfusion h) xt_arr xk_25, (fun _ h => absurd h List.not_mem_nil)⟩
theorem xl_25 : xr_cal xt_GW xm_25 := ⟨by decide +kernel, (xt_in 11 rfl (List.mem_of_getElem? (i := 23) rfl)), (xt_in 1 rfl (List.mem_of_getElem? (i := 25) rfl)), ⟨by decide +kernel, by decide +kernel⟩, by decide +kernel, by decide⟩
theorem xk_26 : xr_cdb xt_cp4 true xm_26 = true := by decide +kernel
set_option maxRecDepth 100000 in
theorem xo_26 (L : Nat) (xs : Nat → Int32) : (∀ (pc : Nat) (i : Instr) (n : Nat), xr_fetch (xr_cd xm_26) pc = some (i, n) → xr_ok (xt_T L xs) xt_GW xt_ST xt_AO xm_26 pc i n) ∧ xr_hok xt_GW xt_NC xm_26 := ⟨xr_cdb_s (T := xt_T L xs) (ST := xt_ST) (AO := xt_AO) (GW := xt_GW) (cp := xt_cp4) (ini := true) (M := xm_26) (xt_cp4_ok L xs) (fun _ => rfl) xt_arr xk_26, (fun _ h => absurd h List.not_mem_nil)⟩
theorem xl_26 : xr_cal xt_GW xm_26 := ⟨plainFor_of_name (by decide +kernel), (xt_in 3 rfl (List.mem_of_getElem? (i := 5) rfl)), (xt_in 1 rfl (List.mem_of_getElem? (i := 19) rfl)), ⟨by decide +kernel, by decide +kernel⟩, by decide +kernel, by decide⟩
theorem xk_27 : xr_cdb xt_cp4 false xm_27 = true := by decide +kernel
set_option maxRecDepth 100000 in
theorem xo_27 (L : Nat) (xs : Nat → Int32) : (∀ (pc : Nat) (i : Instr) (n : Nat), xr_fetch (xr_cd xm_27) pc = some (i, n) → xr_ok (xt_T L xs) xt_GW xt_ST xt_AO xm_27 pc i n) ∧ xr_hok xt_GW xt_NC xm_27 := ⟨xr_cdb_s (T := xt_T L xs) (ST := xt_ST) (AO := xt_AO) (GW := xt_GW) (cp := xt_cp4) (ini := false) (M := xm_27) (xt_cp4_ok L xs) (fun h => Bool.noConfusion h) xt_arr xk_27, (fun _ h => absurd h List.not_mem_nil)⟩
theorem xl_27 : xr_cal xt_GW xm_27 := ⟨plainFor_of_name (by decide +kernel), (xt_in 12 rfl (List.mem_of_getElem? (i := 4) rfl)), (xt_in 1 rfl (List.mem_of_getElem? (i := 19) rfl)), ⟨by decide +kernel, by decide +kernel⟩, by decide +kernel, by decide⟩
theorem xk_28 : xr_cdb xt_cp4 false xm_28 = true := by decide +kernel
set_option maxRecDepth 100000 in
theorem xo_28 (L : Nat) (xs : Nat → Int32) : (∀ (pc : Nat) (i : Instr) (n : Nat), xr_fetch (xr_cd xm_28) pc = some (i, n) → xr_ok (xt_T L xs) xt_GW xt_ST xt_AO xm_28 pc i n) ∧ xr_hok xt_GW xt_NC xm_28 := ⟨xr_cdb_s (T := xt_T L xs) (ST := xt_ST) (AO := xt_AO) (GW := xt_GW) (cp := xt_cp4) (ini := false) (M := xm_28) (xt_cp4_ok L xs) (fun h => Bool.noConfusion h) xt_arr xk_28, (fun _ h => absurd h List.not_mem_nil)⟩
theorem xl_28 : xr_cal xt_GW xm_28 := ⟨plainFor_of_name (by decide +kernel), (xt_in 11 rfl (List.mem_of_getElem? (i := 3) rfl)), (xt_in 1 rfl (List.mem_of_getElem? (i := 19) rfl)), ⟨by decide +kernel, by decide +kernel⟩, by decide +kernel, by decide⟩
theorem xk_29 : xr_cdb xt_cp4 false xm_29 = true := by decide +kernel
set_option maxRecDepth 100000 in
theorem xo_29 (L : Nat) (xs : Nat → Int32) : (∀ (pc : Nat) (i : Instr) (n : Nat), xr_fetch (xr_cd xm_29) pc = some (i, n) → xr_ok (xt_T L xs) xt_GW xt_ST xt_AO xm_29 pc i n) ∧ xr_hok xt_GW xt_NC xm_29 := ⟨xr_cdb_s (T := xt_T L xs) (ST := xt_ST) (AO := xt_AO) (GW := xt_GW) (cp := xt_cp4) (ini := false) (M := xm_29) (xt_cp4_ok L xs) (fun h => Bool.noConfusion h) xt_arr xk_29, (fun _ h => absurd h List.not_mem_nil)⟩
theorem xl_29 : xr_cal xt_GW xm_29 := ⟨plainFor_of_name (by decide +kernel), (xt_in 12 rfl (List.mem_of_getElem? (i := 0) rfl)), (xt_in 1 rfl (List.mem_of_getElem? (i := 19) rfl)), ⟨by decide +kernel, by decide +kernel⟩, by decide +kernel, by decide⟩
theorem xk_30 : xr_cdb xt_cp4 false xm_30 = true := by decide +kernel
set_option maxRecDepth 100000 in
theorem xo_30 (L : Nat) (xs : Nat → Int32) : (∀ (pc : Nat) (i : Instr) (n : Nat), xr_fetch (xr_cd xm_30) pc = some (i, n) → xr_ok (xt_T L xs) xt_GW xt_ST xt_AO xm_30 pc i n) ∧ xr_hok xt_GW xt_NC xm_30 := ⟨xr_cdb_s (T := xt_T L xs) (ST := xt_ST) (AO := xt_AO) (GW := xt_GW) (cp := xt_cp4) (ini := false) (M := xm_30) (xt_cp4_ok L xs) (fun h => Bool.noConfusion h) xt_arr xk_30, (fun _ h => absurd h List.not_mem_nil)⟩
theorem xl_30 : xr_cal xt_GW xm_30 := ⟨plainFor_of_name (by decide +kernel), (xt_in 16 rfl (List.mem_of_getElem? (i := 24) rfl)), (xt_in 1 rfl (List.mem_of_getElem? (i := 19) rfl)), ⟨by decide +kernel, by decide +kernel⟩, by decide +kernel, by decide⟩
