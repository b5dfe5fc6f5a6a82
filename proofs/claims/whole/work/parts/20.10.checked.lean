/-! methods that are checked -/
theorem xk_91 : xr_cdb xt_cp7 false xm_91 = true := by decide +kernel
set_option maxRecDepth 100000 in
theorem xo_91 (L : Nat) (xs : Nat → Int32) : (∀ (pc : Nat) (i : Instr) (n : Nat), xr_fetch (xr_cd xm_91) pc = some (i, n) → xr_ok (xt_T L xs) xt_GW xt_ST xt_AO xm_91 pc i n) ∧ xr_hok xt_GW xt_NC xm_91 := ⟨xr_cdb_s (T := xt_T L xs) (ST := xt_ST) (AO := xt_AO) (GW := xt_GW) (cp := xt_cp7) (ini := false) (M := xm_91) (xt_cp7_ok L xs) (fun h => Bool.noConfusion h) xt_arr xk_91, (fun _ h => absurd h List.not_mem_nil)⟩
theorem xl_91 : xr_cal xt_GW xm_91 := ⟨plainFor_of_name (by decide +kernel), (xt_in 16 rfl (List.mem_of_getElem? (i := 15) rfl)), (xt_in 2 rfl (List.mem_of_getElem? (i := 32) rfl)), ⟨by decide +kernel, by decide +kernel⟩, by decide +kernel, by decide⟩
theorem xk_92 : xr_cdb xt_cp7 false xm_92 = true := by decide +kernel
set_option maxRecDepth 100000 in
theorem xo_92 (L : Nat) (xs : Nat → Int32) : (∀ (pc : Nat) (i : Instr) (n : Nat), xr_fetch (xr_cd xm_92) pc = some (i, n) → xr_ok (xt_T L xs) xt_GW xt_ST xt_AO xm_92 pc i n) ∧ xr_hok xt_GW xt_NC xm_92 := ⟨xr_cdb_s (T := xt_T L xs) (ST := xt_ST) (AO := xt_AO) (GW := xt_GW) (cp := xt_cp7) (ini := false) (M := xm_92) (xt_cp7_ok L xs) (fun h => Bool.noConfusion h) xt_arr xk_92, (fun _ h => absurd h List.not_mem_nil)⟩
theorem xl_92 : xr_cal xt_GW xm_92 := ⟨plainFor_of_name (by decide +kernel), (xt_in 16 rfl (List.mem_of_getElem? (i := 19) rfl)), (xt_in 2 rfl (List.mem_of_getElem? (i := 32) rfl)), ⟨by decide +kernel, by decide +kernel⟩, by decide +kernel, by decide⟩
theorem xk_93 : xr_cdb xt_cp7 false xm_93 = true := by decide +kernel
set_option maxRecDepth 100000 in
theorem xo_93 (L : Nat) (xs : Nat → Int32) : (∀ (pc : Nat) (i : Instr) (n : Nat), xr_fetch (xr_cd xm_93) pc = some (i, n) → xr_ok (xt_T L xs) xt_GW xt_ST xt_AO xm_93 pc i n) ∧ xr_hok xt_GW xt_NC xm_93 := ⟨xr_cdb_s (T := xt_T L xs) (ST := xt_ST) (AO := xt_AO) (GW := xt_GW) (cp := xt_cp7) (ini := false) (M := xm_93) (xt_cp7_ok L xs) (fun h => Bool.noConfusion h) xt_arr xk_93, (fun _ h => absurd h List.not_mem_nil)⟩
theorem xl_93 : xr_cal xt_GW xm_93 := ⟨plainFor_of_name (by decide +kernel), (xt_in 11 rfl (List.mem_of_getElem? (i := 7) rfl)), (xt_in 2 rfl (List.mem_of_getElem? (i := 32) rfl)), ⟨by decide +kernel, by decide +kernel⟩, by decide +kernel, by decide⟩
theorem xk_94 : xr_cdb xt_cp7 false xm_94 = true := by decide +kernel
set_option maxRecDepth 100000 in
theorem xo_94 (L : Nat) (xs : Nat → Int32) : (∀ (pc : Nat) (i : Instr) (n : Nat), xr_fetch (xr_cd xm_94) pc = some (i, n) → xr_ok (xt_T L xs) xt_GW xt_ST xt_AO xm_94 pc i n) ∧ xr_hok xt_GW xt_NC xm_94 := ⟨xr_cdb_s (T := xt_T L xs) (ST := xt_ST) (AO := xt_AO) (GW := xt_GW) (cp := xt_cp7) (ini := false) (M := xm_94) (xt_cp7_ok L xs) (fun h => Bool.noConfusion h) xt_arr xk_94, (fun _ h => absurd h List.not_mem_nil)⟩
theorem xl_94 : xr_cal xt_GW xm_94 := ⟨plainFor_of_name (by decide +kernel), (xt_in 16 rfl (List.mem_of_getElem? (i := 11) rfl)), (xt_in 2 rfl (List.mem_of_getElem? (i := 32) rfl)), ⟨by decide +kernel, by decide +kernel⟩, by decide +kernel, by decide⟩
theorem xk_95_0 : ((xc_95.drop 0).take 40).all (fun q => xr_okb xt_cp8 true xm_95 q.1 q.2.1 q.2.2) = true := by decide +kernel
theorem xk_95_40 : ((xc_95.drop 40).take 40).all (fun q => xr_okb xt_cp8 true xm_95 q.1 q.2.1 q.2.2) = true := by decide +kernel
theorem xk_95_80 : ((xc_95.drop 80).take 40).all (fun q => xr_okb xt_cp8 true xm_95 q.1 q.2.1 q.2.2) = true := by decide +kernel
theorem xk_95 : xr_cdb xt_cp8 true xm_95 = true := (xr_chk _ 40 0 _ xk_95_0 (xr_chk _ 40 40 _ xk_95_40 (xr_chk _ 40 80 _ xk_95_80 (by decide +kernel))))
set_option maxRecDepth 100000 in
theorem xo_95 (L : Nat) (xs : Nat → Int32) : (∀ (pc : Nat) (i : Instr) (n : Nat), xr_fetch (xr_cd xm_95) pc = some (i, n) → xr_ok (xt_T L xs) xt_GW xt_ST xt_AO xm_95 pc i n) ∧ xr_hok xt_GW xt_NC xm_95 := ⟨xr_cdb_s (T := xt_T L xs) (ST := xt_ST) (AO := xt_AO) (GW := xt_GW) (cp := xt_cp8) (ini := true) (M := xm_95) (xt_cp8_ok L xs) (fun _ => rfl) xt_arr xk_95, (fun _ h => absurd h List.not_mem_nil)⟩
theorem xl_95 : xr_cal xt_GW xm_95 := ⟨plainFor_of_name (by decide +kernel), (xt_in 11 rfl (List.mem_of_getElem? (i := 23) rfl)), (xt_in 3 rfl (List.mem_of_getElem? (i := 1) rfl)), ⟨by decide +kernel, by decide +kernel⟩, by decide +kernel, by decide⟩
theorem xk_96 : xr_cdb xt_cp8 false xm_96 = true := by decide +kernel
set_option maxRecDepth 100000 in
theorem xo_96 (L : Nat) (xs : Nat → Int32) : (∀ (pc : Nat) (i : Instr) (n : Nat), xr_fetch (xr_cd xm_96) pc = some (i, n) → xr_ok (xt_T L xs) xt_GW xt_ST xt_AO xm_96 pc i n) ∧ xr_hok xt_GW xt_NC xm_96 := ⟨xr_cdb_s (T := xt_T L xs) (ST := xt_ST) (AO := xt_AO) (GW := xt_GW) (cp := xt_cp8) (ini := false) (M := xm_96) (xt_cp8_ok L xs) (fun h => Bool.noConfusion h) xt_arr xk_96, (fun _ h => absurd h List.not_mem_nil)⟩
theorem xl_96 : xr_cal xt_GW xm_96 := ⟨plainFor_of_name (by decide +kernel), (xt_in 13 rfl (List.mem_of_getElem? (i := 13) rfl)), (xt_in 3 rfl (List.mem_of_getElem? (i := 1) rfl)), ⟨by decide +kernel, by decide +kernel⟩, by decide +kernel, by decide⟩
theorem xk_97 : xr_cdb xt_cp8 false xm_97 = true := by decide +kernel
set_option maxRecDepth 100000 in
theorem xo_97 (L : Nat) (xs : Nat → Int32) : (∀ (pc : Nat) (i : Instr) (n : Nat), xr_fetch (xr_cd xm_97) pc = some (i, n) → xr_ok (xt_T L xs) xt_GW xt_ST xt_AO xm_97 pc i n) ∧ xr_hok xt_GW xt_NC xm_97 := ⟨xr_cdb_s (T := xt_T L xs) (ST := xt_ST) (AO := xt_AO) (GW := xt_GW) (cp := xt_cp8) (ini := false) (M := xm_97) (xt_cp8_ok L xs) (fun h => Bool.noConfusion h) xt_arr xk_97, (fun _ h => absurd h List.not_mem_nil)⟩
theorem xl_97 : xr_cal xt_GW xm_97 := ⟨plainFor_of_name (by decide +kernel), (xt_in 13 rfl (List.mem_of_getElem? (i := 26) rfl)), (xt_in 3 rfl (List.mem_of_getElem? (i := 1) rfl)), ⟨by decide +kernel, by decide +kernel⟩, by decide +kernel, by decide⟩
theorem xk_98 : xr_cdb xt_cp8 false xm_98 = true := by decide +kernel
set_option maxRecDepth 100000 in
theorem xo_98 (L : Nat) (xs : Nat → Int32) : (∀ (pc : Nat) (i : Instr) (n : Nat), xr_fetch (xr_cd xm_98) pc = some (i, n) → xr_ok (xt_T L xs) xt_GW xt_ST xt_AO xm_98 pc i n) ∧ xr_hok xt_GW xt_NC xm_98 := ⟨xr_cdb_s (T := xt_T L xs) (ST := xt_ST) (AO := xt_AO) (GW := xt_GW) (cp := xt_cp8) (ini := false) (M := xm_98) (xt_cp8_ok L xs) (fun h => Bool.noConfusion h) xt_arr xk_98, (fun _ h => absurd h List.not_mem_nil)⟩
theorem xl_98 : xr_cal xt_GW xm_98 := ⟨plainFor_of_name (by decide +kernel), (xt_in 13 rfl (List.mem_of_getElem? (i := 36) rfl)), (xt_in 3 rfl (List.mem_of_getElem? (i := 1) rfl)), ⟨by decide +kernel, by decide +kernel⟩, by decide +kernel, by decide⟩
theorem xk_99 : xr_cdb xt_cp8 false xm_99 = true := by decide +kernel
set_option maxRecDepth 100000 in
theorem xo_99 (L : Nat) (xs : Nat → Int32) : (∀ (pc : Nat) (i : Instr) (n : Nat), xr_fetch (xr_cd xm_99) pc = some (i, n) → xr_ok (xt_T L xs) xt_GW xt_ST xt_AO xm_99 pc i n) ∧ xr_hok xt_GW xt_NC xm_99 := ⟨xr_cdb_s (T := xt_T L xs) (ST := xt_ST) (AO := xt_AO) (GW := xt_GW) (cp := xt_cp8) (ini := false) (M := xm_99) (xt_cp8_ok L xs) (fun h => Bool.noConfusion h) xt_arr xk_99, (fun _ h => absurd h List.not_mem_nil)⟩
theorem xl_99 : xr_cal xt_GW xm_99 := ⟨plainFor_of_name (by decide +kernel), (xt_in 14 rfl (List.mem_of_getElem? (i := 28) rfl)), (xt_in 3 rfl (List.mem_of_getElem? (i := 1) rfl)), ⟨by decide +kernel, by decide +kernel⟩, by decide +kernel, by decide⟩
theorem xk_100 : xr_cdb xt_cp8 false xm_100 = true := by decide +kernel
set_option maxRecDepth 100000 in
theorem xo_100 (L : Nat) (xs : Nat → Int32) : (∀ (pc : Nat) (i : Instr) (n : Nat), xr_fetch (xr_cd xm_100) pc = some (i, n) → xr_ok (xt_T L xs) xt_GW xt_ST xt_AO xm_100 pc i n) ∧ xr_hok xt_GW xt_NC xm_100 := ⟨xr_cdb_s (T := xt_T L xs) (ST := xt_ST) (AO := xt_AO) (GW := xt_GW) (cp := xt_cp8) (ini := false) (M := xm_100) (xt_cp8_ok L xs) (fun h => Bool.noConfusion h) xt_arr xk_100, (fun _ h => absurd h List.not_mem_nil)⟩
theorem xl_100 : xr_cal xt_GW xm_100 := ⟨plainFor_of_name (by decide +kernel), (xt_in 8 rfl (List.mem_of_getElem? (i := 28) rfl)), (xt_in 3 rfl (List.mem_of_getElem? (i := 1) rfl)), ⟨by decide +kernel, by decide +kernel⟩, by decide +kernel, by decide⟩
theorem xk_101 : xr_cdb xt_cp8 false xm_101 = true := by decide +kernel
set_option maxRecDepth 100000 in
theorem xo_101 (L : Nat) (xs : Nat → Int32) : (∀ (pc : Nat) (i : Instr) (n : Nat), xr_fetch (xr_cd xm_101) pc = some (i, n) → xr_ok (xt_T L xs) xt_GW xt_ST xt_AO xm_101 pc i n) ∧ xr_hok xt_GW xt_NC xm_101 := ⟨xr_cdb_s (T := xt_T L xs) (ST := xt_ST) (AO := xt_AO) (GW := xt_GW) (cp := xt_cp8) (ini := false) (M := xm_101) (xt_cp8_ok L xs) (fun h => Bool.noConfusion h) xt_arr xk_101, (fun _ h => absurd h List.not_mem_nil)⟩
theorem xl_101 : xr_cal xt_GW xm_101 := ⟨plainFor_of_name (by decide +kernel), (xt_in 14 rfl (List.mem_of_getElem? (i := 32) rfl)), (xt_in 3 rfl (List.mem_of_getElem? (i := 1) rfl)), ⟨by decide +kernel, by decide +kernel⟩, by decide +kernel, by decide⟩
theorem xk_102 : xr_cdb xt_cp8 false xm_102 = true := by decide +kernel
set_option maxRecDepth 100000 in
theorem xo_102 (L : Nat) (xs : Nat → Int32) : (∀ (pc : Nat) (i : Instr) (n : Nat), xr_fetch (xr_cd xm_102) pc = some (i, n) → xr_ok (xt_T L xs) xt_GW xt_ST xt_AO xm_102 pc i n) ∧ xr_hok xt_GW xt_NC xm_102 := ⟨xr_cdb_s (T := xt_T L xs) (ST := xt_ST) (AO := xt_AO) (GW := xt_GW) (cp := xt_cp8) (ini := false) (M := xm_102) (xt_cp8_ok L xs) (fun h => Bool.noConfusion h) xt_arr xk_102, (fun _ h => absurd h List.not_mem_nil)⟩
theorem xl_102 : xr_cal xt_GW xm_102 := ⟨plainFor_of_name (by decide +kernel), (xt_in 14 rfl (List.mem_of_getElem? (i := 36) rfl)), (xt_in 3 rfl (List.mem_of_getElem? (i := 1) rfl)), ⟨by decide +kernel, by decide +kernel⟩, by decide +kernel, by decide⟩
theorem xk_103 : xr_cdb xt_cp8 false xm_103 = true := by decide +kernel
set_option maxRecDepth 100000 in
theorem xo_103 (L : Nat) (xs : Nat → Int32) : (∀ (pc : Nat) (i : Instr) (n : Nat), xr_fetch (xr_cd xm_103) pc = some (i, n) → xr_ok (xt_T L xs) xt_GW xt_ST xt_AO xm_103 pc i n) ∧ xr_hok xt_GW xt_NC xm_103 := ⟨xr_cdb_s (T := xt_T L xs) (ST := xt_ST) (AO := xt_AO) (GW := xt_GW) (cp := xt_cp8) (ini := false) (M := xm_103) (xt_cp8_ok L xs) (fun h => Bool.noConfusion h) xt_arr xk_103, (fun _ h => absurd h List.not_mem_nil)⟩
theorem xl_103 : xr_cal xt_GW xm_103 := ⟨plainFor_of_name (by decide +kernel), (xt_in 14 rfl (List.mem_of_getElem? (i := 9) rfl)), (xt_in 3 rfl (List.mem_of_getElem? (i := 1) rfl)), ⟨by decide +kernel, by decide +kernel⟩, by decide +kernel, by decide⟩
theorem xk_104 : xr_cdb xt_cp0 true xm_104 = true := by decide +kernel
set_option maxRecDepth 100000 in
theorem xo_104 (L : Nat) (xs : Nat → Int32) : (∀ (pc : Nat) (i : Instr) (n : Nat), xr_fetch (xr_cd xm_104) pc = some (i, n) → xr_ok (xt_T L xs) xt_GW xt_ST xt_AO xm_104 pc i n) ∧ xr_hok xt_GW xt_NC xm_104 := ⟨xr_cdb_s (T := xt_T L xs) (ST := xt_ST) (AO := xt_AO) (GW := xt_GW) (cp := xt_cp0) (ini := true) (M := xm_104) (xt_cp0_ok L xs) (fun _ => rfl) xt_arr xk_104, (fun _ h => absurd h List.not_mem_nil)⟩
theorem xl_104 : xr_cal xt_GW xm_104 := ⟨plainFor_of_name (by decide +kernel), (xt_in 3 rfl (List.mem_of_getElem? (i := 7) rfl)), (xt_in 2 rfl (List.mem_of_getElem? (i := 29) rfl)), ⟨by decide +kernel, by decide +kernel⟩, by decide +kernel, by decide⟩
theorem xk_105 : xr_cdb xt_cp0 false xm_105 = true := by decide +kernel
set_option maxRecDepth 100000 in
theorem xo_105 (L : Nat) (xs : Nat → Int32) : (∀ (pc : Nat) (i : Instr) (n : Nat), xr_fetch (xr_cd xm_105) pc = some (i, n) → xr_ok (xt_T L xs) xt_GW xt_ST xt_AO xm_105 pc i n) ∧ xr_hok xt_GW xt_NC xm_105 := ⟨xr_cdb_s (T := xt_T L xs) (ST := xt_ST) (AO := xt_AO) (GW := xt_GW) (cp := xt_cp0) (ini := false) (M := xm_105) (xt_cp0_ok L xs) (fun h => Bool.noConfusion h) xt_arr xk_105, (fun _ h => absurd h List.not_mem_nil)⟩
theorem xl_105 : xr_cal xt_GW xm_105 := ⟨plainFor_of_name (by decide +kernel), (xt_in 10 rfl (List.mem_of_getElem? (i := 14) rfl)), (xt_in 2 rfl (List.mem_of_getElem? (i := 29) rfl)), ⟨by decide +kernel, by decide +kernel⟩, by decide +kernel, by decide⟩
