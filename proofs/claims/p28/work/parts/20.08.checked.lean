/-! methods that are checked -/
theorem xk_77 : xr_cdb xt_cp6 false xm_77 = true := by decide +kernel
set_option maxRecDepth 100000 in
theorem xo_77 (L : Nat) (xs : Nat → Int32) : (∀ (pc : Nat) (i : Instr) (n : Nat), xr_fetch (xr_cd xm_77) pc = some (i, n) → xr_ok (xt_T L xs) xt_GW xt_ST xt_AO xm_77 pc i n) ∧ xr_hok xt_GW xt_NC xm_77 := ⟨xr_cdb_s (T := xt_T L xs) (ST := xt_ST) (AO := xt_AO) (GW := xt_GW) (cp := xt_cp6) (ini := false) (M := xm_77) (xt_cp6_ok L xs) (fun h => Bool.noConfusion h) xt_arr xk_77, (fun _ h => absurd h List.not_mem_nil)⟩
theorem xl_77 : xr_cal xt_GW xm_77 := ⟨plainFor_of_name (by decide +kernel), (xt_in 14 rfl (List.mem_of_getElem? (i := 13) rfl)), (xt_in 1 rfl (List.mem_of_getElem? (i := 18) rfl)), ⟨by decide +kernel, by decide +kernel⟩, by decide +kernel, by decide⟩
theorem xk_78 : xr_cdb xt_cp6 false xm_78 = true := by decide +kernel
set_option maxRecDepth 100000 in
theorem xo_78 (L : Nat) (xs : Nat → Int32) : (∀ (pc : Nat) (i : Instr) (n : Nat), xr_fetch (xr_cd xm_78) pc = some (i, n) → xr_ok (xt_T L xs) xt_GW xt_ST xt_AO xm_78 pc i n) ∧ xr_hok xt_GW xt_NC xm_78 := ⟨xr_cdb_s (T := xt_T L xs) (ST := xt_ST) (AO := xt_AO) (GW := xt_GW) (cp := xt_cp6) (ini := false) (M := xm_78) (xt_cp6_ok L xs) (fun h => Bool.noConfusion h) xt_arr xk_78, (fun _ h => absurd h List.not_mem_nil)⟩
theorem xl_78 : xr_cal xt_GW xm_78 := ⟨plainFor_of_name (by decide +kernel), (xt_in 15 rfl (List.mem_of_getElem? (i := 5) rfl)), (xt_in 1 rfl (List.mem_of_getElem? (i := 18) rfl)), ⟨by decide +kernel, by decide +kernel⟩, by decide +kernel, by decide⟩
theorem xk_79 : xr_cdb xt_cp6 false xm_79 = true := by decide +kernel
set_option maxRecDepth 100000 in
theorem xo_79 (L : Nat) (xs : Nat → Int32) : (∀ (pc : Nat) (i : Instr) (n : Nat), xr_fetch (xr_cd xm_79) pc = some (i, n) → xr_ok (xt_T L xs) xt_GW xt_ST xt_AO xm_79 pc i n) ∧ xr_hok xt_GW xt_NC xm_79 := ⟨xr_cdb_s (T := xt_T L xs) (ST := xt_ST) (AO := xt_AO) (GW := xt_GW) (cp := xt_cp6) (ini := false) (M := xm_79) (xt_cp6_ok L xs) (fun h => Bool.noConfusion h) xt_arr xk_79, (fun _ h => absurd h List.not_mem_nil)⟩
theorem xl_79 : xr_cal xt_GW xm_79 := ⟨plainFor_of_name (by decide +kernel), (xt_in 18 rfl (List.mem_of_getElem? (i := 10) rfl)), (xt_in 1 rfl (List.mem_of_getElem? (i := 18) rfl)), ⟨by decide +kernel, by decide +kernel⟩, by decide +kernel, by decide⟩
theorem xk_80 : xr_cdb xt_cp6 false xm_80 = true := by decide +kernel
set_option maxRecDepth 100000 in
theorem xo_80 (L : Nat) (xs : Nat → Int32) : (∀ (pc : Nat) (i : Instr) (n : Nat), xr_fetch (xr_cd xm_80) pc = some (i, n) → xr_ok (xt_T L xs) xt_GW xt_ST xt_AO xm_80 pc i n) ∧ xr_hok xt_GW xt_NC xm_80 := ⟨xr_cdb_s (T := xt_T L xs) (ST := xt_ST) (AO := xt_AO) (GW := xt_GW) (cp := xt_cp6) (ini := false) (M := xm_80) (xt_cp6_ok L xs) (fun h => Bool.noConfusion h) xt_arr xk_80, (fun _ h => absurd h List.not_mem_nil)⟩
theorem xl_80 : xr_cal xt_GW xm_80 := ⟨plainFor_of_name (by decide +kernel), (xt_in 15 rfl (List.mem_of_getElem? (i := 25) rfl)), (xt_in 1 rfl (List.mem_of_getElem? (i := 18) rfl)), ⟨by decide +kernel, by decide +kernel⟩, by decide +kernel, by decide⟩
theorem xk_81 : xr_cdb xt_cp6 false xm_81 = true := by decide +kernel
set_option maxRecDepth 100000 in
theorem xo_81 (L : Nat) (xs : Nat → Int32) : (∀ (pc : Nat) (i : Instr) (n : Nat), xr_fetch (xr_cd xm_81) pc = some (i, n) → xr_ok (xt_T L xs) xt_GW xt_ST xt_AO xm_81 pc i n) ∧ xr_hok xt_GW xt_NC xm_81 := ⟨xr_cdb_s (T := xt_T L xs) (ST := xt_ST) (AO := xt_AO) (GW := xt_GW) (cp := xt_cp6) (ini := false) (M := xm_81) (xt_cp6_ok L xs) (fun h => Bool.noConfusion h) xt_arr xk_81, (fun _ h => absurd h List.not_mem_nil)⟩
theorem xl_81 : xr_cal xt_GW xm_81 := ⟨plainFor_of_name (by decide +kernel), (xt_in 13 rfl (List.mem_of_getElem? (i := 11) rfl)), (xt_in 1 rfl (List.mem_of_getElem? (i := 18) rfl)), ⟨by decide +kernel, by decide +kernel⟩, by decide +kernel, by decide⟩
theorem xk_82 : xr_cdb xt_cp6 false xm_82 = true := by decide +kernel
set_option maxRecDepth 100000 in
theorem xo_82 (L : Nat) (xs : Nat → Int32) : (∀ (pc : Nat) (i : Instr) (n : Nat), xr_fetch (xr_cd xm_82) pc = some (i, n) → xr_ok (xt_T L xs) xt_GW xt_ST xt_AO xm_82 pc i n) ∧ xr_hok xt_GW xt_NC xm_82 := ⟨xr_cdb_s (T := xt_T L xs) (ST := xt_ST) (AO := xt_AO) (GW := xt_GW) (cp := xt_cp6) (ini := false) (M := xm_82) (xt_cp6_ok L xs) (fun h => Bool.noConfusion h) xt_arr xk_82, (fun _ h => absurd h List.not_mem_nil)⟩
theorem xl_82 : xr_cal xt_GW xm_82 := ⟨plainFor_of_name (by decide +kernel), (xt_in 18 rfl (List.mem_of_getElem? (i := 21) rfl)), (xt_in 1 rfl (List.mem_of_getElem? (i := 18) rfl)), ⟨by decide +kernel, by decide +kernel⟩, by decide +kernel, by decide⟩
theorem xk_83 : xr_cdb xt_cp6 false xm_83 = true := by decide +kernel
set_option maxRecDepth 100000 in
theorem xo_83 (L : Nat) (xs : Nat → Int32) : (∀ (pc : Nat) (i : Instr) (n : Nat), xr_fetch (xr_cd xm_83) pc = some (i, n) → xr_ok (xt_T L xs) xt_GW xt_ST xt_AO xm_83 pc i n) ∧ xr_hok xt_GW xt_NC xm_83 := ⟨xr_cdb_s (T := xt_T L xs) (ST := xt_ST) (AO := xt_AO) (GW := xt_GW) (cp := xt_cp6) (ini := false) (M := xm_83) (xt_cp6_ok L xs) (fun h => Bool.noConfusion h) xt_arr xk_83, (fun _ h => absurd h List.not_mem_nil)⟩
theorem xl_83 : xr_cal xt_GW xm_83 := ⟨plainFor_of_name (by decide +kernel), (xt_in 14 rfl (List.mem_of_getElem? (i := 2) rfl)), (xt_in 1 rfl (List.mem_of_getElem? (i := 18) rfl)), ⟨by decide +kernel, by decide +kernel⟩, by decide +kernel, by decide⟩
theorem xk_84 : xr_cdb xt_cp6 false xm_84 = true := by decide +kernel
set_option maxRecDepth 100000 in
theorem xo_84 (L : Nat) (xs : Nat → Int32) : (∀ (pc : Nat) (i : Instr) (n : Nat), xr_fetch (xr_cd xm_84) pc = some (i, n) → xr_ok (xt_T L xs) xt_GW xt_ST xt_AO xm_84 pc i n) ∧ xr_hok xt_GW xt_NC xm_84 := ⟨xr_cdb_s (T := xt_T L xs) (ST := xt_ST) (AO := xt_AO) (GW := xt_GW) (cp := xt_cp6) (ini := false) (M := xm_84) (xt_cp6_ok L xs) (fun h => Bool.noConfusion h) xt_arr xk_84, (fun _ h => absurd h List.not_mem_nil)⟩
theorem xl_84 : xr_cal xt_GW xm_84 := ⟨plainFor_of_name (by decide +kernel), (xt_in 13 rfl (List.mem_of_getElem? (i := 37) rfl)), (xt_in 1 rfl (List.mem_of_getElem? (i := 18) rfl)), ⟨by decide +kernel, by decide +kernel⟩, by decide +kernel, by decide⟩
theorem xk_85 : xr_cdb xt_cp6 false xm_85 = true := by decide +kernel
set_option maxRecDepth 100000 in
theorem xo_85 (L : Nat) (xs : Nat → Int32) : (∀ (pc : Nat) (i : Instr) (n : Nat), xr_fetch (xr_cd xm_85) pc = some (i, n) → xr_ok (xt_T L xs) xt_GW xt_ST xt_AO xm_85 pc i n) ∧ xr_hok xt_GW xt_NC xm_85 := ⟨xr_cdb_s (T := xt_T L xs) (ST := xt_ST) (AO := xt_AO) (GW := xt_GW) (cp := xt_cp6) (ini := false) (M := xm_85) (xt_cp6_ok L xs) (fun h => Bool.noConfusion h) xt_arr xk_85, (fun _ h => absurd h List.not_mem_nil)⟩
theorem xl_85 : xr_cal xt_GW xm_85 := ⟨plainFor_of_name (by decide +kernel), (xt_in 13 rfl (List.mem_of_getElem? (i := 7) rfl)), (xt_in 1 rfl (List.mem_of_getElem? (i := 18) rfl)), ⟨by decide +kernel, by decide +kernel⟩, by decide +kernel, by decide⟩
theorem xk_86 : xr_cdb xt_cp6 false xm_86 = true := by decide +kernel
set_option maxRecDepth 100000 in
theorem xo_86 (L : Nat) (xs : Nat → Int32) : (∀ (pc : Nat) (i : Instr) (n : Nat), xr_fetch (xr_cd xm_86) pc = some (i, n) → xr_ok (xt_T L xs) xt_GW xt_ST xt_AO xm_86 pc i n) ∧ xr_hok xt_GW xt_NC xm_86 := ⟨xr_cdb_s (T := xt_T L xs) (ST := xt_ST) (AO := xt_AO) (GW := xt_GW) (cp := xt_cp6) (ini := false) (M := xm_86) (xt_cp6_ok L xs) (fun h => Bool.noConfusion h) xt_arr xk_86, (fun _ h => absurd h List.not_mem_nil)⟩
theorem xl_86 : xr_cal xt_GW xm_86 := ⟨plainFor_of_name (by decide +kernel), (xt_in 13 rfl (List.mem_of_getElem? (i := 2) rfl)), (xt_in 1 rfl (List.mem_of_getElem? (i := 18) rfl)), ⟨by decide +kernel, by decide +kernel⟩, by decide +kernel, by decide⟩
theorem xk_87 : xr_cdb xt_cp7 true xm_87 = true := by decide +kernel
set_option maxRecDepth 100000 in
theorem xo_87 (L : Nat) (xs : Nat → Int32) : (∀ (pc : Nat) (i : Instr) (n : Nat), xr_fetch (xr_cd xm_87) pc = some (i, n) → xr_ok (xt_T L xs) xt_GW xt_ST xt_AO xm_87 pc i n) ∧ xr_hok xt_GW xt_NC xm_87 := ⟨xr_cdb_s (T := xt_T L xs) (ST := xt_ST) (AO := xt_AO) (GW := xt_GW) (cp := xt_cp7) (ini := true) (M := xm_87) (xt_cp7_ok L xs) (fun _ => rfl) xt_arr xk_87, (fun _ h => absurd h List.not_mem_nil)⟩
theorem xl_87 : xr_cal xt_GW xm_87 := ⟨plainFor_of_name (by decide +kernel), (xt_in 2 rfl (List.mem_of_getElem? (i := 27) rfl)), (xt_in 1 rfl (List.mem_of_getElem? (i := 17) rfl)), ⟨by decide +kernel, by decide +kernel⟩, by decide +kernel, by decide⟩
theorem xk_88 : xr_cdb xt_cp7 false xm_88 = true := by decide +kernel
set_option maxRecDepth 100000 in
theorem xo_88 (L : Nat) (xs : Nat → Int32) : (∀ (pc : Nat) (i : Instr) (n : Nat), xr_fetch (xr_cd xm_88) pc = some (i, n) → xr_ok (xt_T L xs) xt_GW xt_ST xt_AO xm_88 pc i n) ∧ xr_hok xt_GW xt_NC xm_88 := ⟨xr_cdb_s (T := xt_T L xs) (ST := xt_ST) (AO := xt_AO) (GW := xt_GW) (cp := xt_cp7) (ini := false) (M := xm_88) (xt_cp7_ok L xs) (fun h => Bool.noConfusion h) xt_arr xk_88, (fun _ h => absurd h List.not_mem_nil)⟩
theorem xl_88 : xr_cal xt_GW xm_88 := ⟨plainFor_of_name (by decide +kernel), (xt_in 5 rfl (List.mem_of_getElem? (i := 23) rfl)), (xt_in 1 rfl (List.mem_of_getElem? (i := 17) rfl)), ⟨by decide +kernel, by decide +kernel⟩, by decide +kernel, by decide⟩
theorem xk_89 : xr_cdb xt_cp9 false xm_89 = true := by decide +kernel
set_option maxRecDepth 100000 in
theorem xo_89 (L : Nat) (xs : Nat → Int32) : (∀ (pc : Nat) (i : Instr) (n : Nat), xr_fetch (xr_cd xm_89) pc = some (i, n) → xr_ok (xt_T L xs) xt_GW xt_ST xt_AO xm_89 pc i n) ∧ xr_hok xt_GW xt_NC xm_89 := ⟨xr_cdb_s (T := xt_T L xs) (ST := xt_ST) (AO := xt_AO) (GW := xt_GW) (cp := xt_cp9) (ini := false) (M := xm_89) (xt_cp9_ok L xs) (fun h => Bool.noConfusion h) xt_arr xk_89, (fun _ h => absurd h List.not_mem_nil)⟩
theorem xl_89 : xr_cal xt_GW xm_89 := ⟨plainFor_of_name (by decide +kernel), (xt_in 10 rfl (List.mem_of_getElem? (i := 5) rfl)), (xt_in 1 rfl (List.mem_of_getElem? (i := 13) rfl)), ⟨by decide +kernel, by decide +kernel⟩, by decide +kernel, by decide⟩
theorem xk_90 : xr_cdb xt_cp9 false xm_90 = true := by decide +kernel
set_option maxRecDepth 100000 in
theorem xo_90 (L : Nat) (xs : Nat → Int32) : (∀ (pc : Nat) (i : Instr) (n : Nat), xr_fetch (xr_cd xm_90) pc = some (i, n) → xr_ok (xt_T L xs) xt_GW xt_ST xt_AO xm_90 pc i n) ∧ xr_hok xt_GW xt_NC xm_90 := ⟨xr_cdb_s (T := xt_T L xs) (ST := xt_ST) (AO := xt_AO) (GW := xt_GW) (cp := xt_cp9) (ini := false) (M := xm_90) (xt_cp9_ok L xs) (fun h => Bool.noConfusion h) xt_arr xk_90, (fun _ h => absurd h List.not_mem_nil)⟩
theorem xl_90 : xr_cal xt_GW xm_90 := ⟨plainFor_of_name (by decide +kernel), (xt_in 10 rfl (List.mem_of_getElem? (i := 10) rfl)), (xt_in 1 rfl (List.mem_of_getElem? (i := 13) rfl)), ⟨by decide +kernel, by decide +kernel⟩, by decide +kernel, by decide⟩
theorem xk_91 : xr_cdb xt_cp9 false xm_91 = true := by decide +kernel
set_option maxRecDepth 100000 in
theorem xo_91 (L : Nat) (xs : Nat → Int32) : (∀ (pc : Nat) (i : Instr) (n : Nat), xr_fetch (xr_cd xm_91) pc = some (i, n) → xr_ok (xt_T L xs) xt_GW xt_ST xt_AO xm_91 pc i n) ∧ xr_hok xt_GW xt_NC xm_91 := ⟨xr_cdb_s (T := xt_T L xs) (ST := xt_ST) (AO := xt_AO) (GW := xt_GW) (cp := xt_cp9) (ini := false) (M := xm_91) (xt_cp9_ok L xs) (fun h => Bool.noConfusion h) xt_arr xk_91, List.forall_mem_cons.mpr ⟨⟨by decide, (xt_in 10 rfl (List.mem_of_getElem? (i := 15) rfl)), (xt_in 12 rfl (List.mem_of_getElem? (i := 38) rfl)), by decide +kernel⟩,
  List.forall_mem_cons.mpr ⟨⟨by decide, (xt_in 10 rfl (List.mem_of_getElem? (i := 16) rfl)), (xt_in 5 rfl (List.mem_of_getElem? (i := 11) rfl)), by decide +kernel⟩,
  fun _ h => absurd h List.not_mem_nil⟩⟩⟩
theorem xl_91 : xr_cal xt_GW xm_91 := ⟨plainFor_of_name (by decide +kernel), (xt_in 10 rfl (List.mem_of_getElem? (i := 14) rfl)), (xt_in 1 rfl (List.mem_of_getElem? (i := 13) rfl)), ⟨by decide +kernel, by decide +kernel⟩, by decide +kernel, by decide⟩
theorem xk_92 : xr_cdb xt_cp9 false xm_92 = true := by decide +kernel
set_option maxRecDepth 100000 in
theorem xo_92 (L : Nat) (xs : Nat → Int32) : (∀ (pc : Nat) (i : Instr) (n : Nat), xr_fetch (xr_cd xm_92) pc = some (i, n) → xr_ok (xt_T L xs) xt_GW xt_ST xt_AO xm_92 pc i n) ∧ xr_hok xt_GW xt_NC xm_92 := ⟨xr_cdb_s (T := xt_T L xs) (ST := xt_ST) (AO := xt_AO) (GW := xt_GW) (cp := xt_cp9) (ini := false) (M := xm_92) (xt_cp9_ok L xs) (fun h => Bool.noConfusion h) xt_arr xk_92, (fun _ h => absurd h List.not_mem_nil)⟩
theorem xl_92 : xr_cal xt_GW xm_92 := ⟨plainFor_of_name (by decide +kernel), (xt_in 16 rfl (List.mem_of_getElem? (i := 34) rfl)), (xt_in 1 rfl (List.mem_of_getElem? (i := 13) rfl)), ⟨by decide +kernel, by decide +kernel⟩, by decide +kernel, by decide⟩
theorem xk_93 : xr_cdb xt_cp7 false xm_93 = true := by decide +kernel
set_option maxRecDepth 100000 in
theorem xo_93 (L : Nat) (xs : Nat → Int32) : (∀ (pc : Nat) (i : Instr) (n : Nat), xr_fetch (xr_cd xm_93) pc = some (i, n) → xr_ok (xt_T L xs) xt_GW xt_ST xt_AO xm_93 pc i n) ∧ xr_hok xt_GW xt_NC xm_93 := ⟨xr_cdb_s (T := xt_T L xs) (ST := xt_ST) (AO := xt_AO) (GW := xt_GW) (cp := xt_cp7) (ini := false) (M := xm_93) (xt_cp7_ok L xs) (fun h => Bool.noConfusion h) xt_arr xk_93, (fun _ h => absurd h List.not_mem_nil)⟩
theorem xl_93 : xr_cal xt_GW xm_93 := ⟨plainFor_of_name (by decide +kernel), (xt_in 5 rfl (List.mem_of_getElem? (i := 37) rfl)), (xt_in 1 rfl (List.mem_of_getElem? (i := 17) rfl)), ⟨by decide +kernel, by decide +kernel⟩, by decide +kernel, by decide⟩
