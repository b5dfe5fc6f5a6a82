/-! methods that are checked -/
theorem xk_111 : xr_cdb xt_cp9 false xm_111 = true := by decide +kernel
set_option maxRecDepth 100000 in
theorem xo_111 (L : Nat) (xs : Nat → Int32) : (∀ (pc : Nat) (i : Instr) (n : Nat), xr_fetch (xr_cd xm_111) pc = some (i, n) → xr_ok (xt_T L xs) xt_GW xt_ST xt_AO xm_111 pc i n) ∧ xr_hok xt_GW xt_NC xm_111 := ⟨xr_cdb_s (T := xt_T L xs) (ST := xt_ST) (AO := xt_AO) (GW := xt_GW) (cp := xt_cp9) (ini := false) (M := xm_111) (xt_cp9_ok L xs) (fun h => Bool.noConfusion h) xt_arr xk_111, (fun _ h => absurd h List.not_mem_nil)⟩
theorem xl_111 : xr_cal xt_GW xm_111 := ⟨plainFor_of_name (by decide +kernel), (xt_in 16 rfl (List.mem_of_getElem? (i := 37) rfl)), (xt_in 1 rfl (List.mem_of_getElem? (i := 13) rfl)), ⟨by decide +kernel, by decide +kernel⟩, by decide +kernel, by decide⟩
theorem xk_112_0 : ((xc_112.drop 0).take 40).all (fun q => xr_okb xt_cp9 false xm_112 q.1 q.2.1 q.2.2) = true := by decide +kernel
theorem xk_112_40 : ((xc_112.drop 40).take 40).all (fun q => xr_okb xt_cp9 false xm_112 q.1 q.2.1 q.2.2) = true := by decide +kernel
theorem xk_112_80 : ((xc_112.drop 80).take 40).all (fun q => xr_okb xt_cp9 false xm_112 q.1 q.2.1 q.2.2) = true := by decide +kernel
theorem xk_112_120 : ((xc_112.drop 120).take 40).all (fun q => xr_okb xt_cp9 false xm_112 q.1 q.2.1 q.2.2) = true := by decide +kernel
theorem xk_112_160 : ((xc_112.drop 160).take 40).all (fun q => xr_okb xt_cp9 false xm_112 q.1 q.2.1 q.2.2) = true := by decide +kernel
theorem xk_112 : xr_cdb xt_cp9 false xm_112 = true := (xr_chk _ 40 0 _ xk_112_0 (xr_chk _ 40 40 _ xk_112_40 (xr_chk _ 40 80 _ xk_112_80 (xr_chk _ 40 120 _ xk_112_120 (xr_chk _ 40 160 _ xk_112_160 (by decide +kernel))))))
set_option maxRecDepth 100000 in
theorem xo_112 (L : Nat) (xs : Nat → Int32) : (∀ (pc : Nat) (i : Instr) (n : Nat), xr_fetch (xr_cd xm_112) pc = some (i, n) → xr_ok (xt_T L xs) xt_GW xt_ST xt_AO xm_112 pc i n) ∧ xr_hok xt_GW xt_NC xm_112 := ⟨xr_cdb_s (T := xt_T L xs) (ST := xt_ST) (AO := xt_AO) (GW := xt_GW) (cp := xt_cp9) (ini := false) (M := xm_112) (xt_cp9_ok L xs) (fun h => Bool.noConfusion h) xt_arr xk_112, (fun _ h => absurd h List.not_mem_nil)⟩
theorem xl_112 : xr_cal xt_GW xm_112 := ⟨plainFor_of_name (by decide +kernel), (xt_in 17 rfl (List.mem_of_getElem? (i := 3) rfl)), (xt_in 1 rfl (List.mem_of_getElem? (i := 13) rfl)), ⟨by decide +kernel, by decide +kernel⟩, by decide +kernel, by decide⟩
theorem xk_113 : xr_cdb xt_cp0 false xm_113 = true := by decide +kernel
set_option maxRecDepth 100000 in
theorem xo_113 (L : Nat) (xs : Nat → Int32) : (∀ (pc : Nat) (i : Instr) (n : Nat), xr_fetch (xr_cd xm_113) pc = some (i, n) → xr_ok (xt_T L xs) xt_GW xt_ST xt_AO xm_113 pc i n) ∧ xr_hok xt_GW xt_NC xm_113 := ⟨xr_cdb_s (T := xt_T L xs) (ST := xt_ST) (AO := xt_AO) (GW := xt_GW) (cp := xt_cp0) (ini := false) (M := xm_113) (xt_cp0_ok L xs) (fun h => Bool.noConfusion h) xt_arr xk_113, (fun _ h => absurd h List.not_mem_nil)⟩
theorem xl_113 : xr_cal xt_GW xm_113 := ⟨plainFor_of_name (by decide +kernel), (xt_in 17 rfl (List.mem_of_getElem? (i := 17) rfl)), (xt_in 1 rfl (List.mem_of_getElem? (i := 14) rfl)), ⟨by decide +kernel, by decide +kernel⟩, by decide +kernel, by decide⟩
theorem xk_114 : xr_cdb xt_cp0 false xm_114 = true := by decide +kernel
set_option maxRecDepth 100000 in
theorem xo_114 (L : Nat) (xs : Nat → Int32) : (∀ (pc : Nat) (i : Instr) (n : Nat), xr_fetch (xr_cd xm_114) pc = some (i, n) → xr_ok (xt_T L xs) xt_GW xt_ST xt_AO xm_114 pc i n) ∧ xr_hok xt_GW xt_NC xm_114 := ⟨xr_cdb_s (T := xt_T L xs) (ST := xt_ST) (AO := xt_AO) (GW := xt_GW) (cp := xt_cp0) (ini := false) (M := xm_114) (xt_cp0_ok L xs) (fun h => Bool.noConfusion h) xt_arr xk_114, (fun _ h => absurd h List.not_mem_nil)⟩
theorem xl_114 : xr_cal xt_GW xm_114 := ⟨plainFor_of_name (by decide +kernel), (xt_in 17 rfl (List.mem_of_getElem? (i := 21) rfl)), (xt_in 1 rfl (List.mem_of_getElem? (i := 14) rfl)), ⟨by decide +kernel, by decide +kernel⟩, by decide +kernel, by decide⟩
theorem xk_115 : xr_cdb xt_cp0 false xm_115 = true := by decide +kernel
set_option maxRecDepth 100000 in
theorem xo_115 (L : Nat) (xs : Nat → Int32) : (∀ (pc : Nat) (i : Instr) (n : Nat), xr_fetch (xr_cd xm_115) pc = some (i, n) → xr_ok (xt_T L xs) xt_GW xt_ST xt_AO xm_115 pc i n) ∧ xr_hok xt_GW xt_NC xm_115 := ⟨xr_cdb_s (T := xt_T L xs) (ST := xt_ST) (AO := xt_AO) (GW := xt_GW) (cp := xt_cp0) (ini := false) (M := xm_115) (xt_cp0_ok L xs) (fun h => Bool.noConfusion h) xt_arr xk_115, (fun _ h => absurd h List.not_mem_nil)⟩
theorem xl_115 : xr_cal xt_GW xm_115 := ⟨plainFor_of_name (by decide +kernel), (xt_in 17 rfl (List.mem_of_getElem? (i := 34) rfl)), (xt_in 1 rfl (List.mem_of_getElem? (i := 14) rfl)), ⟨by decide +kernel, by decide +kernel⟩, by decide +kernel, by decide⟩
theorem xk_116 : xr_cdb xt_cp0 false xm_116 = true := by decide +kernel
set_option maxRecDepth 100000 in
theorem xo_116 (L : Nat) (xs : Nat → Int32) : (∀ (pc : Nat) (i : Instr) (n : Nat), xr_fetch (xr_cd xm_116) pc = some (i, n) → xr_ok (xt_T L xs) xt_GW xt_ST xt_AO xm_116 pc i n) ∧ xr_hok xt_GW xt_NC xm_116 := ⟨xr_cdb_s (T := xt_T L xs) (ST := xt_ST) (AO := xt_AO) (GW := xt_GW) (cp := xt_cp0) (ini := false) (M := xm_116) (xt_cp0_ok L xs) (fun h => Bool.noConfusion h) xt_arr xk_116, (fun _ h => absurd h List.not_mem_nil)⟩
theorem xl_116 : xr_cal xt_GW xm_116 := ⟨plainFor_of_name (by decide +kernel), (xt_in 18 rfl (List.mem_of_getElem? (i := 6) rfl)), (xt_in 1 rfl (List.mem_of_getElem? (i := 14) rfl)), ⟨by decide +kernel, by decide +kernel⟩, by decide +kernel, by decide⟩
theorem xk_117 : xr_cdb xt_cp0 false xm_117 = true := by decide +kernel
set_option maxRecDepth 100000 in
theorem xo_117 (L : Nat) (xs : Nat → Int32) : (∀ (pc : Nat) (i : Instr) (n : Nat), xr_fetch (xr_cd xm_117) pc = some (i, n) → xr_ok (xt_T L xs) xt_GW xt_ST xt_AO xm_117 pc i n) ∧ xr_hok xt_GW xt_NC xm_117 := ⟨xr_cdb_s (T := xt_T L xs) (ST := xt_ST) (AO := xt_AO) (GW := xt_GW) (cp := xt_cp0) (ini := false) (M := xm_117) (xt_cp0_ok L xs) (fun h => Bool.noConfusion h) xt_arr xk_117, (fun _ h => absurd h List.not_mem_nil)⟩
theorem xl_117 : xr_cal xt_GW xm_117 := ⟨plainFor_of_name (by decide +kernel), (xt_in 17 rfl (List.mem_of_getElem? (i := 25) rfl)), (xt_in 1 rfl (List.mem_of_getElem? (i := 14) rfl)), ⟨by decide +kernel, by decide +kernel⟩, by decide +kernel, by decide⟩
theorem xk_118 : xr_cdb xt_cp0 false xm_118 = true := by decide +kernel
set_option maxRecDepth 100000 in
theorem xo_118 (L : Nat) (xs : Nat → Int32) : (∀ (pc : Nat) (i : Instr) (n : Nat), xr_fetch (xr_cd xm_118) pc = some (i, n) → xr_ok (xt_T L xs) xt_GW xt_ST xt_AO xm_118 pc i n) ∧ xr_hok xt_GW xt_NC xm_118 := ⟨xr_cdb_s (T := xt_T L xs) (ST := xt_ST) (AO := xt_AO) (GW := xt_GW) (cp := xt_cp0) (ini := false) (M := xm_118) (xt_cp0_ok L xs) (fun h => Bool.noConfusion h) xt_arr xk_118, (fun _ h => absurd h List.not_mem_nil)⟩
theorem xl_118 : xr_cal xt_GW xm_118 := ⟨plainFor_of_name (by decide +kernel), (xt_in 17 rfl (List.mem_of_getElem? (i := 30) rfl)), (xt_in 1 rfl (List.mem_of_getElem? (i := 14) rfl)), ⟨by decide +kernel, by decide +kernel⟩, by decide +kernel, by decide⟩
theorem xk_119 : xr_cdb xt_cp0 false xm_119 = true := by decide +kernel
set_option maxRecDepth 100000 in
theorem xo_119 (L : Nat) (xs : Nat → Int32) : (∀ (pc : Nat) (i : Instr) (n : Nat), xr_fetch (xr_cd xm_119) pc = some (i, n) → xr_ok (xt_T L xs) xt_GW xt_ST xt_AO xm_119 pc i n) ∧ xr_hok xt_GW xt_NC xm_119 := ⟨xr_cdb_s (T := xt_T L xs) (ST := xt_ST) (AO := xt_AO) (GW := xt_GW) (cp := xt_cp0) (ini := false) (M := xm_119) (xt_cp0_ok L xs) (fun h => Bool.noConfusion h) xt_arr xk_119, (fun _ h => absurd h List.not_mem_nil)⟩
theorem xl_119 : xr_cal xt_GW xm_119 := ⟨plainFor_of_name (by decide +kernel), (xt_in 18 rfl (List.mem_of_getElem? (i := 14) rfl)), (xt_in 1 rfl (List.mem_of_getElem? (i := 14) rfl)), ⟨by decide +kernel, by decide +kernel⟩, by decide +kernel, by decide⟩
theorem xk_120_0 : ((xc_120.drop 0).take 40).all (fun q => xr_okb xt_cp0 false xm_120 q.1 q.2.1 q.2.2) = true := by decide +kernel
theorem xk_120_40 : ((xc_120.drop 40).take 40).all (fun q => xr_okb xt_cp0 false xm_120 q.1 q.2.1 q.2.2) = true := by decide +kernel
theorem xk_120_80 : ((xc_120.drop 80).take 40).all (fun q => xr_okb xt_cp0 false xm_120 q.1 q.2.1 q.2.2) = true := by decide +kernel
theorem xk_120 : xr_cdb xt_cp0 false xm_120 = true := (xr_chk _ 40 0 _ xk_120_0 (xr_chk _ 40 40 _ xk_120_40 (xr_chk _ 40 80 _ xk_120_80 (by decide +kernel))))
set_option maxRecDepth 100000 in
theorem xo_120 (L : Nat) (xs : Nat → Int32) : (∀ (pc : Nat) (i : Instr) (n : Nat), xr_fetch (xr_cd xm_120) pc = some (i, n) → xr_ok (xt_T L xs) xt_GW xt_ST xt_AO xm_120 pc i n) ∧ xr_hok xt_GW xt_NC xm_120 := ⟨xr_cdb_s (T := xt_T L xs) (ST := xt_ST) (AO := xt_AO) (GW := xt_GW) (cp := xt_cp0) (ini := false) (M := xm_120) (xt_cp0_ok L xs) (fun h => Bool.noConfusion h) xt_arr xk_120, (fun _ h => absurd h List.not_mem_nil)⟩
theorem xl_120 : xr_cal xt_GW xm_120 := ⟨plainFor_of_name (by decide +kernel), (xt_in 18 rfl (List.mem_of_getElem? (i := 25) rfl)), (xt_in 1 rfl (List.mem_of_getElem? (i := 14) rfl)), ⟨by decide +kernel, by decide +kernel⟩, by decide +kernel, by decide⟩
