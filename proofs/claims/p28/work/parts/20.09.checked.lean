/-! methods that are checked -/
theorem xk_94 : xr_cdb xt_cp9 false xm_94 = true := by decide +kernel
set_option maxRecDepth 100000 in
theorem xo_94 (L : Nat) (xs : Nat → Int32) : (∀ (pc : Nat) (i : Instr) (n : Nat), xr_fetch (xr_cd xm_94) pc = some (i, n) → xr_ok (xt_T L xs) xt_GW xt_ST xt_AO xm_94 pc i n) ∧ xr_hok xt_GW xt_NC xm_94 := ⟨xr_cdb_s (T := xt_T L xs) (ST := xt_ST) (AO := xt_AO) (GW := xt_GW) (cp := xt_cp9) (ini := false) (M := xm_94) (xt_cp9_ok L xs) (fun h => Bool.noConfusion h) xt_arr xk_94, (fun _ h => absurd h List.not_mem_nil)⟩
theorem xl_94 : xr_cal xt_GW xm_94 := ⟨plainFor_of_name (by decide +kernel), (xt_in 17 rfl (List.mem_of_getElem? (i := 0) rfl)), (xt_in 1 rfl (List.mem_of_getElem? (i := 13) rfl)), ⟨by decide +kernel, by decide +kernel⟩, by decide +kernel, by decide⟩
theorem xk_95_0 : ((xc_95.drop 0).take 40).all (fun q => xr_okb xt_cp8 true xm_95 q.1 q.2.1 q.2.2) = true := by decide +kernel
theorem xk_95_40 : ((xc_95.drop 40).take 40).all (fun q => xr_okb xt_cp8 true xm_95 q.1 q.2.1 q.2.2) = true := by decide +kernel
theorem xk_95_80 : ((xc_95.drop 80).take 40).all (fun q => xr_okb xt_cp8 true xm_95 q.1 q.2.1 q.2.2) = true := by decide +kernel
theorem xk_95 : xr_cdb xt_cp8 true xm_95 = true := (xr_chk _ 40 0 _ xk_95_0 (xr_chk _ 40 40 _ xk_95_40 (xr_chk _ 40 80 _ xk_95_80 (by decide +kernel))))
set_option maxRecDepth 100000 in
theorem xo_95 (L : Nat) (xs : Nat → Int32) : (∀ (pc : Nat) (i : Instr) (n : Nat), xr_fetch (xr_cd xm_95) pc = some (i, n) → xr_ok (xt_T L xs) xt_GW xt_ST xt_AO xm_95 pc i n) ∧ xr_hok xt_GW xt_NC xm_95 := ⟨xr_cdb_s (T := xt_T L xs) (ST := xt_ST) (AO := xt_AO) (GW := xt_GW) (cp := xt_cp8) (ini := true) (M := xm_95) (xt_cp8_ok L xs) (fun _ => rfl) xt_arr xk_95, (fun _ h => absurd h List.not_mem_nil)⟩
theorem xl_95 : xr_cal xt_GW xm_95 := ⟨plainFor_of_name (by decide +kernel), (xt_in 6 rfl (List.mem_of_getElem? (i := 13) rfl)), (xt_in 1 rfl (List.mem_of_getElem? (i := 24) rfl)), ⟨by decide +kernel, by decide +kernel⟩, by decide +kernel, by decide⟩
theorem xk_96 : xr_cdb xt_cp8 false xm_96 = true := by decide +kernel
set_option maxRecDepth 100000 in
theorem xo_96 (L : Nat) (xs : Nat → Int32) : (∀ (pc : Nat) (i : Instr) (n : Nat), xr_fetch (xr_cd xm_96) pc = some (i, n) → xr_ok (xt_T L xs) xt_GW xt_ST xt_AO xm_96 pc i n) ∧ xr_hok xt_GW xt_NC xm_96 := ⟨xr_cdb_s (T := xt_T L xs) (ST := xt_ST) (AO := xt_AO) (GW := xt_GW) (cp := xt_cp8) (ini := false) (M := xm_96) (xt_cp8_ok L xs) (fun h => Bool.noConfusion h) xt_arr xk_96, (fun _ h => absurd h List.not_mem_nil)⟩
theorem xl_96 : xr_cal xt_GW xm_96 := ⟨plainFor_of_name (by decide +kernel), (xt_in 8 rfl (List.mem_of_getElem? (i := 3) rfl)), (xt_in 1 rfl (List.mem_of_getElem? (i := 24) rfl)), ⟨by decide +kernel, by decide +kernel⟩, by decide +kernel, by decide⟩
theorem xk_97 : xr_cdb xt_cp8 false xm_97 = true := by decide +kernel
set_option maxRecDepth 100000 in
theorem xo_97 (L : Nat) (xs : Nat → Int32) : (∀ (pc : Nat) (i : Instr) (n : Nat), xr_fetch (xr_cd xm_97) pc = some (i, n) → xr_ok (xt_T L xs) xt_GW xt_ST xt_AO xm_97 pc i n) ∧ xr_hok xt_GW xt_NC xm_97 := ⟨xr_cdb_s (T := xt_T L xs) (ST := xt_ST) (AO := xt_AO) (GW := xt_GW) (cp := xt_cp8) (ini := false) (M := xm_97) (xt_cp8_ok L xs) (fun h => Bool.noConfusion h) xt_arr xk_97, (fun _ h => absurd h List.not_mem_nil)⟩
theorem xl_97 : xr_cal xt_GW xm_97 := ⟨plainFor_of_name (by decide +kernel), (xt_in 8 rfl (List.mem_of_getElem? (i := 16) rfl)), (xt_in 1 rfl (List.mem_of_getElem? (i := 24) rfl)), ⟨by decide +kernel, by decide +kernel⟩, by decide +kernel, by decide⟩
theorem xk_98 : xr_cdb xt_cp8 false xm_98 = true := by decide +kernel
set_option maxRecDepth 100000 in
theorem xo_98 (L : Nat) (xs : Nat → Int32) : (∀ (pc : Nat) (i : Instr) (n : Nat), xr_fetch (xr_cd xm_98) pc = some (i, n) → xr_ok (xt_T L xs) xt_GW xt_ST xt_AO xm_98 pc i n) ∧ xr_hok xt_GW xt_NC xm_98 := ⟨xr_cdb_s (T := xt_T L xs) (ST := xt_ST) (AO := xt_AO) (GW := xt_GW) (cp := xt_cp8) (ini := false) (M := xm_98) (xt_cp8_ok L xs) (fun h => Bool.noConfusion h) xt_arr xk_98, (fun _ h => absurd h List.not_mem_nil)⟩
theorem xl_98 : xr_cal xt_GW xm_98 := ⟨plainFor_of_name (by decide +kernel), (xt_in 8 rfl (List.mem_of_getElem? (i := 26) rfl)), (xt_in 1 rfl (List.mem_of_getElem? (i := 24) rfl)), ⟨by decide +kernel, by decide +kernel⟩, by decide +kernel, by decide⟩
theorem xk_99 : xr_cdb xt_cp8 false xm_99 = true := by decide +kernel
set_option maxRecDepth 100000 in
theorem xo_99 (L : Nat) (xs : Nat → Int32) : (∀ (pc : Nat) (i : Instr) (n : Nat), xr_fetch (xr_cd xm_99) pc = some (i, n) → xr_ok (xt_T L xs) xt_GW xt_ST xt_AO xm_99 pc i n) ∧ xr_hok xt_GW xt_NC xm_99 := ⟨xr_cdb_s (T := xt_T L xs) (ST := xt_ST) (AO := xt_AO) (GW := xt_GW) (cp := xt_cp8) (ini := false) (M := xm_99) (xt_cp8_ok L xs) (fun h => Bool.noConfusion h) xt_arr xk_99, (fun _ h => absurd h List.not_mem_nil)⟩
theorem xl_99 : xr_cal xt_GW xm_99 := ⟨plainFor_of_name (by decide +kernel), (xt_in 9 rfl (List.mem_of_getElem? (i := 18) rfl)), (xt_in 1 rfl (List.mem_of_getElem? (i := 24) rfl)), ⟨by decide +kernel, by decide +kernel⟩, by decide +kernel, by decide⟩
theorem xk_100 : xr_cdb xt_cp8 false xm_100 = true := by decide +kernel
set_option maxRecDepth 100000 in
theorem xo_100 (L : Nat) (xs : Nat → Int32) : (∀ (pc : Nat) (i : Instr) (n : Nat), xr_fetch (xr_cd xm_100) pc = some (i, n) → xr_ok (xt_T L xs) xt_GW xt_ST xt_AO xm_100 pc i n) ∧ xr_hok xt_GW xt_NC xm_100 := ⟨xr_cdb_s (T := xt_T L xs) (ST := xt_ST) (AO := xt_AO) (GW := xt_GW) (cp := xt_cp8) (ini := false) (M := xm_100) (xt_cp8_ok L xs) (fun h => Bool.noConfusion h) xt_arr xk_100, (fun _ h => absurd h List.not_mem_nil)⟩
theorem xl_100 : xr_cal xt_GW xm_100 := ⟨plainFor_of_name (by decide +kernel), (xt_in 12 rfl (List.mem_of_getElem? (i := 11) rfl)), (xt_in 1 rfl (List.mem_of_getElem? (i := 24) rfl)), ⟨by decide +kernel, by decide +kernel⟩, by decide +kernel, by decide⟩
theorem xk_101 : xr_cdb xt_cp8 false xm_101 = true := by decide +kernel
set_option maxRecDepth 100000 in
theorem xo_101 (L : Nat) (xs : Nat → Int32) : (∀ (pc : Nat) (i : Instr) (n : Nat), xr_fetch (xr_cd xm_101) pc = some (i, n) → xr_ok (xt_T L xs) xt_GW xt_ST xt_AO xm_101 pc i n) ∧ xr_hok xt_GW xt_NC xm_101 := ⟨xr_cdb_s (T := xt_T L xs) (ST := xt_ST) (AO := xt_AO) (GW := xt_GW) (cp := xt_cp8) (ini := false) (M := xm_101) (xt_cp8_ok L xs) (fun h => Bool.noConfusion h) xt_arr xk_101, (fun _ h => absurd h List.not_mem_nil)⟩
theorem xl_101 : xr_cal xt_GW xm_101 := ⟨plainFor_of_name (by decide +kernel), (xt_in 9 rfl (List.mem_of_getElem? (i := 22) rfl)), (xt_in 1 rfl (List.mem_of_getElem? (i := 24) rfl)), ⟨by decide +kernel, by decide +kernel⟩, by decide +kernel, by decide⟩
theorem xk_102 : xr_cdb xt_cp8 false xm_102 = true := by decide +kernel
set_option maxRecDepth 100000 in
theorem xo_102 (L : Nat) (xs : Nat → Int32) : (∀ (pc : Nat) (i : Instr) (n : Nat), xr_fetch (xr_cd xm_102) pc = some (i, n) → xr_ok (xt_T L xs) xt_GW xt_ST xt_AO xm_102 pc i n) ∧ xr_hok xt_GW xt_NC xm_102 := ⟨xr_cdb_s (T := xt_T L xs) (ST := xt_ST) (AO := xt_AO) (GW := xt_GW) (cp := xt_cp8) (ini := false) (M := xm_102) (xt_cp8_ok L xs) (fun h => Bool.noConfusion h) xt_arr xk_102, (fun _ h => absurd h List.not_mem_nil)⟩
theorem xl_102 : xr_cal xt_GW xm_102 := ⟨plainFor_of_name (by decide +kernel), (xt_in 9 rfl (List.mem_of_getElem? (i := 26) rfl)), (xt_in 1 rfl (List.mem_of_getElem? (i := 24) rfl)), ⟨by decide +kernel, by decide +kernel⟩, by decide +kernel, by decide⟩
theorem xk_103 : xr_cdb xt_cp8 false xm_103 = true := by decide +kernel
set_option maxRecDepth 100000 in
theorem xo_103 (L : Nat) (xs : Nat → Int32) : (∀ (pc : Nat) (i : Instr) (n : Nat), xr_fetch (xr_cd xm_103) pc = some (i, n) → xr_ok (xt_T L xs) xt_GW xt_ST xt_AO xm_103 pc i n) ∧ xr_hok xt_GW xt_NC xm_103 := ⟨xr_cdb_s (T := xt_T L xs) (ST := xt_ST) (AO := xt_AO) (GW := xt_GW) (cp := xt_cp8) (ini := false) (M := xm_103) (xt_cp8_ok L xs) (fun h => Bool.noConfusion h) xt_arr xk_103, (fun _ h => absurd h List.not_mem_nil)⟩
theorem xl_103 : xr_cal xt_GW xm_103 := ⟨plainFor_of_name (by decide +kernel), (xt_in 8 rfl (List.mem_of_getElem? (i := 39) rfl)), (xt_in 1 rfl (List.mem_of_getElem? (i := 24) rfl)), ⟨by decide +kernel, by decide +kernel⟩, by decide +kernel, by decide⟩
theorem xk_104 : xr_cdb xt_cp0 true xm_104 = true := by decide +kernel
set_option maxRecDepth 100000 in
theorem xo_104 (L : Nat) (xs : Nat → Int32) : (∀ (pc : Nat) (i : Instr) (n : Nat), xr_fetch (xr_cd xm_104) pc = some (i, n) → xr_ok (xt_T L xs) xt_GW xt_ST xt_AO xm_104 pc i n) ∧ xr_hok xt_GW xt_NC xm_104 := ⟨xr_cdb_s (T := xt_T L xs) (ST := xt_ST) (AO := xt_AO) (GW := xt_GW) (cp := xt_cp0) (ini := true) (M := xm_104) (xt_cp0_ok L xs) (fun _ => rfl) xt_arr xk_104, (fun _ h => absurd h List.not_mem_nil)⟩
theorem xl_104 : xr_cal xt_GW xm_104 := ⟨plainFor_of_name (by decide +kernel), (xt_in 1 rfl (List.mem_of_getElem? (i := 31) rfl)), (xt_in 1 rfl (List.mem_of_getElem? (i := 14) rfl)), ⟨by decide +kernel, by decide +kernel⟩, by decide +kernel, by decide⟩
theorem xk_105 : xr_cdb xt_cp0 false xm_105 = true := by decide +kernel
set_option maxRecDepth 100000 in
theorem xo_105 (L : Nat) (xs : Nat → Int32) : (∀ (pc : Nat) (i : Instr) (n : Nat), xr_fetch (xr_cd xm_105) pc = some (i, n) → xr_ok (xt_T L xs) xt_GW xt_ST xt_AO xm_105 pc i n) ∧ xr_hok xt_GW xt_NC xm_105 := ⟨xr_cdb_s (T := xt_T L xs) (ST := xt_ST) (AO := xt_AO) (GW := xt_GW) (cp := xt_cp0) (ini := false) (M := xm_105) (xt_cp0_ok L xs) (fun h => Bool.noConfusion h) xt_arr xk_105, (fun _ h => absurd h List.not_mem_nil)⟩
theorem xl_105 : xr_cal xt_GW xm_105 := ⟨plainFor_of_name (by decide +kernel), (xt_in 5 rfl (List.mem_of_getElem? (i := 8) rfl)), (xt_in 1 rfl (List.mem_of_getElem? (i := 14) rfl)), ⟨by decide +kernel, by decide +kernel⟩, by decide +kernel, by decide⟩
theorem xk_106 : xr_cdb xt_cp0 false xm_106 = true := by decide +kernel
set_option maxRecDepth 100000 in
theorem xo_106 (L : Nat) (xs : Nat → Int32) : (∀ (pc : Nat) (i : Instr) (n : Nat), xr_fetch (xr_cd xm_106) pc = some (i, n) → xr_ok (xt_T L xs) xt_GW xt_ST xt_AO xm_106 pc i n) ∧ xr_hok xt_GW xt_NC xm_106 := ⟨xr_cdb_s (T := xt_T L xs) (ST := xt_ST) (AO := xt_AO) (GW := xt_GW) (cp := xt_cp0) (ini := false) (M := xm_106) (xt_cp0_ok L xs) (fun h => Bool.noConfusion h) xt_arr xk_106, (fun _ h => absurd h List.not_mem_nil)⟩
theorem xl_106 : xr_cal xt_GW xm_106 := ⟨plainFor_of_name (by decide +kernel), (xt_in 5 rfl (List.mem_of_getElem? (i := 19) rfl)), (xt_in 1 rfl (List.mem_of_getElem? (i := 14) rfl)), ⟨by decide +kernel, by decide +kernel⟩, by decide +kernel, by decide⟩
theorem xk_107 : xr_cdb xt_cp0 false xm_107 = true := by decide +kernel
set_option maxRecDepth 100000 in
theorem xo_107 (L : Nat) (xs : Nat → Int32) : (∀ (pc : Nat) (i : Instr) (n : Nat), xr_fetch (xr_cd xm_107) pc = some (i, n) → xr_ok (xt_T L xs) xt_GW xt_ST xt_AO xm_107 pc i n) ∧ xr_hok xt_GW xt_NC xm_107 := ⟨xr_cdb_s (T := xt_T L xs) (ST := xt_ST) (AO := xt_AO) (GW := xt_GW) (cp := xt_cp0) (ini := false) (M := xm_107) (xt_cp0_ok L xs) (fun h => Bool.noConfusion h) xt_arr xk_107, (fun _ h => absurd h List.not_mem_nil)⟩
theorem xl_107 : xr_cal xt_GW xm_107 := ⟨plainFor_of_name (by decide +kernel), (xt_in 6 rfl (List.mem_of_getElem? (i := 6) rfl)), (xt_in 1 rfl (List.mem_of_getElem? (i := 14) rfl)), ⟨by decide +kernel, by decide +kernel⟩, by decide +kernel, by decide⟩
theorem xk_108 : xr_cdb xt_cp0 false xm_108 = true := by decide +kernel
set_option maxRecDepth 100000 in
theorem xo_108 (L : Nat) (xs : Nat → Int32) : (∀ (pc : Nat) (i : Instr) (n : Nat), xr_fetch (xr_cd xm_108) pc = some (i, n) → xr_ok (xt_T L xs) xt_GW xt_ST xt_AO xm_108 pc i n) ∧ xr_hok xt_GW xt_NC xm_108 := ⟨xr_cdb_s (T := xt_T L xs) (ST := xt_ST) (AO := xt_AO) (GW := xt_GW) (cp := xt_cp0) (ini := false) (M := xm_108) (xt_cp0_ok L xs) (fun h => Bool.noConfusion h) xt_arr xk_108, (fun _ h => absurd h List.not_mem_nil)⟩
theorem xl_108 : xr_cal xt_GW xm_108 := ⟨plainFor_of_name (by decide +kernel), (xt_in 17 rfl (List.mem_of_getElem? (i := 9) rfl)), (xt_in 1 rfl (List.mem_of_getElem? (i := 14) rfl)), ⟨by decide +kernel, by decide +kernel⟩, by decide +kernel, by decide⟩
theorem xk_109 : xr_cdb xt_cp0 false xm_109 = true := by decide +kernel
set_option maxRecDepth 100000 in
theorem xo_109 (L : Nat) (xs : Nat → Int32) : (∀ (pc : Nat) (i : Instr) (n : Nat), xr_fetch (xr_cd xm_109) pc = some (i, n) → xr_ok (xt_T L xs) xt_GW xt_ST xt_AO xm_109 pc i n) ∧ xr_hok xt_GW xt_NC xm_109 := ⟨xr_cdb_s (T := xt_T L xs) (ST := xt_ST) (AO := xt_AO) (GW := xt_GW) (cp := xt_cp0) (ini := false) (M := xm_109) (xt_cp0_ok L xs) (fun h => Bool.noConfusion h) xt_arr xk_109, (fun _ h => absurd h List.not_mem_nil)⟩
theorem xl_109 : xr_cal xt_GW xm_109 := ⟨plainFor_of_name (by decide +kernel), (xt_in 17 rfl (List.mem_of_getElem? (i := 38) rfl)), (xt_in 1 rfl (List.mem_of_getElem? (i := 14) rfl)), ⟨by decide +kernel, by decide +kernel⟩, by decide +kernel, by decide⟩
theorem xk_110 : xr_cdb xt_cp0 false xm_110 = true := by decide +kernel
set_option maxRecDepth 100000 in
theorem xo_110 (L : Nat) (xs : Nat → Int32) : (∀ (pc : Nat) (i : Instr) (n : Nat), xr_fetch (xr_cd xm_110) pc = some (i, n) → xr_ok (xt_T L xs) xt_GW xt_ST xt_AO xm_110 pc i n) ∧ xr_hok xt_GW xt_NC xm_110 := ⟨xr_cdb_s (T := xt_T L xs) (ST := xt_ST) (AO := xt_AO) (GW := xt_GW) (cp := xt_cp0) (ini := false) (M := xm_110) (xt_cp0_ok L xs) (fun h => Bool.noConfusion h) xt_arr xk_110, (fun _ h => absurd h List.not_mem_nil)⟩
theorem xl_110 : xr_cal xt_GW xm_110 := ⟨plainFor_of_name (by decide +kernel), (xt_in 17 rfl (List.mem_of_getElem? (i := 13) rfl)), (xt_in 1 rfl (List.mem_of_getElem? (i := 14) rfl)), ⟨by decide +kernel, by decide +kernel⟩, by decide +kernel, by decide⟩
