/-! methods that are checked -/
theorem xk_52_40 : ((xc_52.drop 40).take 40).all (fun q => xr_okb xt_cp5 false xm_52 q.1 q.2.1 q.2.2) = true := by decide +kernel
theorem xk_52_80 : ((xc_52.drop 80).take 40).all (fun q => xr_okb xt_cp5 false xm_52 q.1 q.2.1 q.2.2) = true := by decide +kernel
theorem xk_52 : xr_cdb xt_cp5 false xm_52 = true := (xr_chk _ 40 0 _ xk_52_0 (xr_chk _ 40 40 _ xk_52_40 (xr_chk _ 40 80 _ xk_52_80 (by decide +kernel))))
set_option maxRecDepth 100000 in
theorem xo_52 (L : Nat) (xs : Nat → Int32) : (∀ (pc : Nat) (i : Instr) (n : Nat), xr_fetch (xr_cd xm_52) pc = some (i, n) → xr_ok (xt_T L xs) xt_GW xt_ST xt_AO xm_52 pc i n) ∧ xr_hok xt_GW xt_NC xm_52 := ⟨xr_cdb_s (T := xt_T L xs) (ST := xt_ST) (AO := xt_AO) (GW := xt_GW) (cp := xt_cp5) (ini := false) (M := xm_52) (xt_cp5_ok L xs) (fun h => Bool.noConfusion h) xt_arr xk_52, (fun _ h => absurd h List.not_mem_nil)⟩
theorem xl_52 : xr_cal xt_GW xm_52 := ⟨plainFor_of_name (by decide +kernel), (xt_in 9 rfl (List.mem_of_getElem? (i := 14) rfl)), (xt_in 1 rfl (List.mem_of_getElem? (i := 16) rfl)), ⟨by decide +kernel, by decide +kernel⟩, by decide +kernel, by decide⟩
theorem xk_53 : xr_cdb xt_cp5 false xm_53 = true := by decide +kernel
set_option maxRecDepth 100000 in
theorem xo_53 (L : Nat) (xs : Nat → Int32) : (∀ (pc : Nat) (i : Instr) (n : Nat), xr_fetch (xr_cd xm_53) pc = some (i, n) → xr_ok (xt_T L xs) xt_GW xt_ST xt_AO xm_53 pc i n) ∧ xr_hok xt_GW xt_NC xm_53 := ⟨xr_cdb_s (T := xt_T L xs) (ST := xt_ST) (AO := xt_AO) (GW := xt_GW) (cp := xt_cp5) (ini := false) (M := xm_53) (xt_cp5_ok L xs) (fun h => Bool.noConfusion h) xt_arr xk_53, (fun _ h => absurd h List.not_mem_nil)⟩
theorem xl_53 : xr_cal xt_GW xm_53 := ⟨plainFor_of_name (by decide +kernel), (xt_in 9 rfl (List.mem_of_getElem? (i := 5) rfl)), (xt_in 1 rfl (List.mem_of_getElem? (i := 16) rfl)), ⟨by decide +kernel, by decide +kernel⟩, by decide +kernel, by decide⟩
theorem xk_54_0 : ((xc_54.drop 0).take 40).all (fun q => xr_okb xt_cp5 false xm_54 q.1 q.2.1 q.2.2) = true := by decide +kernel
theorem xk_54_40 : ((xc_54.drop 40).take 40).all (fun q => xr_okb xt_cp5 false xm_54 q.1 q.2.1 q.2.2) = true := by decide +kernel
theorem xk_54 : xr_cdb xt_cp5 false xm_54 = true := (xr_chk _ 40 0 _ xk_54_0 (xr_chk _ 40 40 _ xk_54_40 (by decide +kernel)))
set_option maxRecDepth 100000 in
theorem xo_54 (L : Nat) (xs : Nat → Int32) : (∀ (pc : Nat) (i : Instr) (n : Nat), xr_fetch (xr_cd xm_54) pc = some (i, n) → xr_ok (xt_T L xs) xt_GW xt_ST xt_AO xm_54 pc i n) ∧ xr_hok xt_GW xt_NC xm_54 := ⟨xr_cdb_s (T := xt_T L xs) (ST := xt_ST) (AO := xt_AO) (GW := xt_GW) (cp := xt_cp5) (ini := false) (M := xm_54) (xt_cp5_ok L xs) (fun h => Bool.noConfusion h) xt_arr xk_54, (fun _ h => absurd h List.not_mem_nil)⟩
theorem xl_54 : xr_cal xt_GW xm_54 := ⟨plainFor_of_name (by decide +kernel), (xt_in 9 rfl (List.mem_of_getElem? (i := 32) rfl)), (xt_in 1 rfl (List.mem_of_getElem? (i := 16) rfl)), ⟨by decide +kernel, by decide +kernel⟩, by decide +kernel, by decide⟩
theorem xk_55 : xr_cdb xt_cp6 true xm_55 = true := by decide +kernel
set_option maxRecDepth 100000 in
theorem xo_55 (L : Nat) (xs : Nat → Int32) : (∀ (pc : Nat) (i : Instr) (n : Nat), xr_fetch (xr_cd xm_55) pc = some (i, n) → xr_ok (xt_T L xs) xt_GW xt_ST xt_AO xm_55 pc i n) ∧ xr_hok xt_GW xt_NC xm_55 := ⟨xr_cdb_s (T := xt_T L xs) (ST := xt_ST) (AO := xt_AO) (GW := xt_GW) (cp := xt_cp6) (ini := true) (M := xm_55) (xt_cp6_ok L xs) (fun _ => rfl) xt_arr xk_55, (fun _ h => absurd h List.not_mem_nil)⟩
theorem xl_55 : xr_cal xt_GW xm_55 := ⟨plainFor_of_name (by decide +kernel), (xt_in 2 rfl (List.mem_of_getElem? (i := 39) rfl)), (xt_in 1 rfl (List.mem_of_getElem? (i := 18) rfl)), ⟨by decide +kernel, by decide +kernel⟩, by decide +kernel, by decide⟩
theorem xk_56 : xr_cdb xt_cp6 false xm_56 = true := by decide +kernel
set_option maxRecDepth 100000 in
theorem xo_56 (L : Nat) (xs : Nat → Int32) : (∀ (pc : Nat) (i : Instr) (n : Nat), xr_fetch (xr_cd xm_56) pc = some (i, n) → xr_ok (xt_T L xs) xt_GW xt_ST xt_AO xm_56 pc i n) ∧ xr_hok xt_GW xt_NC xm_56 := ⟨xr_cdb_s (T := xt_T L xs) (ST := xt_ST) (AO := xt_AO) (GW := xt_GW) (cp := xt_cp6) (ini := false) (M := xm_56) (xt_cp6_ok L xs) (fun h => Bool.noConfusion h) xt_arr xk_56, (fun _ h => absurd h List.not_mem_nil)⟩
theorem xl_56 : xr_cal xt_GW xm_56 := ⟨plainFor_of_name (by decide +kernel), (xt_in 10 rfl (List.mem_of_getElem? (i := 30) rfl)), (xt_in 1 rfl (List.mem_of_getElem? (i := 18) rfl)), ⟨by decide +kernel, by decide +kernel⟩, by decide +kernel, by decide⟩
theorem xk_57 : xr_cdb xt_cp6 false xm_57 = true := by decide +kernel
set_option maxRecDepth 100000 in
theorem xo_57 (L : Nat) (xs : Nat → Int32) : (∀ (pc : Nat) (i : Instr) (n : Nat), xr_fetch (xr_cd xm_57) pc = some (i, n) → xr_ok (xt_T L xs) xt_GW xt_ST xt_AO xm_57 pc i n) ∧ xr_hok xt_GW xt_NC xm_57 := ⟨xr_cdb_s (T := xt_T L xs) (ST := xt_ST) (AO := xt_AO) (GW := xt_GW) (cp := xt_cp6) (ini := false) (M := xm_57) (xt_cp6_ok L xs) (fun h => Bool.noConfusion h) xt_arr xk_57, (fun _ h => absurd h List.not_mem_nil)⟩
theorem xl_57 : xr_cal xt_GW xm_57 := ⟨plainFor_of_name (by decide +kernel), (xt_in 10 rfl (List.mem_of_getElem? (i := 36) rfl)), (xt_in 1 rfl (List.mem_of_getElem? (i := 18) rfl)), ⟨by decide +kernel, by decide +kernel⟩, by decide +kernel, by decide⟩
theorem xk_58 : xr_cdb xt_cp6 false xm_58 = true := by decide +kernel
set_option maxRecDepth 100000 in
theorem xo_58 (L : Nat) (xs : Nat → Int32) : (∀ (pc : Nat) (i : Instr) (n : Nat), xr_fetch (xr_cd xm_58) pc = some (i, n) → xr_ok (xt_T L xs) xt_GW xt_ST xt_AO xm_58 pc i n) ∧ xr_hok xt_GW xt_NC xm_58 := ⟨xr_cdb_s (T := xt_T L xs) (ST := xt_ST) (AO := xt_AO) (GW := xt_GW) (cp := xt_cp6) (ini := false) (M := xm_58) (xt_cp6_ok L xs) (fun h => Bool.noConfusion h) xt_arr xk_58, (fun _ h => absurd h List.not_mem_nil)⟩
theorem xl_58 : xr_cal xt_GW xm_58 := ⟨plainFor_of_name (by decide +kernel), (xt_in 10 rfl (List.mem_of_getElem? (i := 39) rfl)), (xt_in 1 rfl (List.mem_of_getElem? (i := 18) rfl)), ⟨by decide +kernel, by decide +kernel⟩, by decide +kernel, by decide⟩
theorem xk_59_0 : ((xc_59.drop 0).take 40).all (fun q => xr_okb xt_cp6 false xm_59 q.1 q.2.1 q.2.2) = true := by decide +kernel
theorem xk_59_40 : ((xc_59.drop 40).take 40).all (fun q => xr_okb xt_cp6 false xm_59 q.1 q.2.1 q.2.2) = true := by decide +kernel
theorem xk_59 : xr_cdb xt_cp6 false xm_59 = true := (xr_chk _ 40 0 _ xk_59_0 (xr_chk _ 40 40 _ xk_59_40 (by decide +kernel)))
set_option maxRecDepth 100000 in
theorem xo_59 (L : Nat) (xs : Nat → Int32) : (∀ (pc : Nat) (i : Instr) (n : Nat), xr_fetch (xr_cd xm_59) pc = some (i, n) → xr_ok (xt_T L xs) xt_GW xt_ST xt_AO xm_59 pc i n) ∧ xr_hok xt_GW xt_NC xm_59 := ⟨xr_cdb_s (T := xt_T L xs) (ST := xt_ST) (AO := xt_AO) (GW := xt_GW) (cp := xt_cp6) (ini := false) (M := xm_59) (xt_cp6_ok L xs) (fun h => Bool.noConfusion h) xt_arr xk_59, (fun _ h => absurd h List.not_mem_nil)⟩
theorem xl_59 : xr_cal xt_GW xm_59 := ⟨plainFor_of_name (by decide +kernel), (xt_in 10 rfl (List.mem_of_getElem? (i := 33) rfl)), (xt_in 1 rfl (List.mem_of_getElem? (i := 18) rfl)), ⟨by decide +kernel, by decide +kernel⟩, by decide +kernel, by decide⟩
theorem xk_60 : xr_cdb xt_cp6 false xm_60 = true := by decide +kernel
set_option maxRecDepth 100000 in
theorem xo_60 (L : Nat) (xs : Nat → Int32) : (∀ (pc : Nat) (i : Instr) (n : Nat), xr_fetch (xr_cd xm_60) pc = some (i, n) → xr_ok (xt_T L xs) xt_GW xt_ST xt_AO xm_60 pc i n) ∧ xr_hok xt_GW xt_NC xm_60 := ⟨xr_cdb_s (T := xt_T L xs) (ST := xt_ST) (AO := xt_AO) (GW := xt_GW) (cp := xt_cp6) (ini := false) (M := xm_60) (xt_cp6_ok L xs) (fun h => Bool.noConfusion h) xt_arr xk_60, (fun _ h => absurd h List.not_mem_nil)⟩
theorem xl_60 : xr_cal xt_GW xm_60 := ⟨plainFor_of_name (by decide +kernel), (xt_in 11 rfl (List.mem_of_getElem? (i := 6) rfl)), (xt_in 1 rfl (List.mem_of_getElem? (i := 18) rfl)), ⟨by decide +kernel, by decide +kernel⟩, by decide +kernel, by decide⟩
