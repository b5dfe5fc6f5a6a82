/-! methods that are checked -/
theorem xk_226_0 : ((xc_226.drop 0).take 40).all (fun q => xr_okb xt_cp10 false xm_226 q.1 q.2.1 q.2.2) = true := by decide +kernel
theorem xk_226_40 : ((xc_226.drop 40).take 40).all (fun q => xr_okb xt_cp10 false xm_226 q.1 q.2.1 q.2.2) = true := by decide +kernel
theorem xk_226_80 : ((xc_226.drop 80).take 40).all (fun q => xr_okb xt_cp10 false xm_226 q.1 q.2.1 q.2.2) = true := by decide +kernel
theorem xk_226_120 : ((xc_226.drop 120).take 40).all (fun q => xr_okb xt_cp10 false xm_226 q.1 q.2.1 q.2.2) = true := by decide +kernel
theorem xk_226_160 : ((xc_226.drop 160).take 40).all (fun q => xr_okb xt_cp10 false xm_226 q.1 q.2.1 q.2.2) = true := by decide +kernel
theorem xk_226 : xr_cdb xt_cp10 false xm_226 = true := (xr_chk _ 40 0 _ xk_226_0 (xr_chk _ 40 40 _ xk_226_40 (xr_chk _ 40 80 _ xk_226_80 (xr_chk _ 40 120 _ xk_226_120 (xr_chk _ 40 160 _ xk_226_160 (by decide +kernel))))))
set_option maxRecDepth 100000 in
theorem xo_226 (L : Nat) (xs : Nat → Int32) : (∀ (pc : Nat) (i : Instr) (n : Nat), xr_fetch (xr_cd xm_226) pc = some (i, n) → xr_ok (xt_T L xs) xt_GW xt_ST xt_AO xm_226 pc i n) ∧ xr_hok xt_GW xt_NC xm_226 := ⟨xr_cdb_s (T := xt_T L xs) (ST := xt_ST) (AO := xt_AO) (GW := xt_GW) (cp := xt_cp10) (ini := false) (M := xm_226) (xt_cp10_ok L xs) (fun h => Bool.noConfusion h) xt_arr xk_226, (fun _ h => absurd h List.not_mem_nil)⟩
theorem xl_226 : xr_cal xt_GW xm_226 := ⟨plainFor_of_name (by decide +kernel), (xt_in 31 rfl (List.mem_of_getElem? (i := 19) rfl)), (xt_in 2 rfl (List.mem_of_getElem? (i := 37) rfl)), ⟨by decide +kernel, by decide +kernel⟩, by decide +kernel, by decide⟩
theorem xk_227 : xr_cdb ([] : List (Nat × Nat × Int)) false xm_227 = true := by decide +kernel
set_option maxRecDepth 100000 in
theorem xo_227 (L : Nat) (xs : Nat → Int32) : (∀ (pc : Nat) (i : Instr) (n : Nat), xr_fetch (xr_cd xm_227) pc = some (i, n) → xr_ok (xt_T L xs) xt_GW xt_ST xt_AO xm_227 pc i n) ∧ xr_hok xt_GW xt_NC xm_227 := ⟨xr_cdb_s (T := xt_T L xs) (ST := xt_ST) (AO := xt_AO) (GW := xt_GW) (cp := ([] : List (Nat × Nat × Int))) (ini := false) (M := xm_227) (fun _ h => absurd h List.not_mem_nil) (fun h => Bool.noConfusion h) xt_arr xk_227, (fun _ h => absurd h List.not_mem_nil)⟩
theorem xl_227 : xr_cal xt_GW xm_227 := ⟨by decide +kernel, (xt_in 14 rfl (List.mem_of_getElem? (i := 21) rfl)), (xt_in 3 rfl (List.mem_of_getElem? (i := 0) rfl)), ⟨by decide +kernel, by decide +kernel⟩, by decide +kernel, by decide⟩
theorem xk_228 : xr_cdb ([] : List (Nat × Nat × Int)) false xm_228 = true := by decide +kernel
set_option maxRecDepth 100000 in
theorem xo_228 (L : Nat) (xs : Nat → Int32) : (∀ (pc : Nat) (i : Instr) (n : Nat), xr_fetch (xr_cd xm_228) pc = some (i, n) → xr_ok (xt_T L xs) xt_GW xt_ST xt_AO xm_228 pc i n) ∧ xr_hok xt_GW xt_NC xm_228 := ⟨xr_cdb_s (T := xt_T L xs) (ST := xt_ST) (AO := xt_AO) (GW := xt_GW) (cp := ([] : List (Nat × Nat × Int))) (ini := false) (M := xm_228) (fun _ h => absurd h List.not_mem_nil) (fun h => Bool.noConfusion h) xt_arr xk_228, (fun _ h => absurd h List.not_mem_nil)⟩
theorem xl_228 : xr_cal xt_GW xm_228 := ⟨by decide +kernel, (xt_in 8 rfl (List.mem_of_getElem? (i := 0) rfl)), (xt_in 3 rfl (List.mem_of_getElem? (i := 0) rfl)), ⟨by decide +kernel, by decide +kernel⟩, by decide +kernel, by decide⟩
theorem xk_229 : xr_cdb ([] : List (Nat × Nat × Int)) false xm_229 = true := by decide +kernel
set_option maxRecDepth 100000 in
theorem xo_229 (L : Nat) (xs : Nat → Int32) : (∀ (pc : Nat) (i : Instr) (n : Nat), xr_fetch (xr_cd xm_229) pc = some (i, n) → xr_ok (xt_T L xs) xt_GW xt_ST xt_AO xm_229 pc i n) ∧ xr_hok xt_GW xt_NC xm_229 := ⟨xr_cdb_s (T := xt_T L xs) (ST := xt_ST) (AO := xt_AO) (GW := xt_GW) (cp := ([] : List (Nat × Nat × Int))) (ini := false) (M := xm_229) (fun _ h => absurd h List.not_mem_nil) (fun h => Bool.noConfusion h) xt_arr xk_229, (fun _ h => absurd h List.not_mem_nil)⟩
theorem xl_229 : xr_cal xt_GW xm_229 := ⟨by decide +kernel, (xt_in 11 rfl (List.mem_of_getElem? (i := 0) rfl)), (xt_in 3 rfl (List.mem_of_getElem? (i := 0) rfl)), ⟨by decide +kernel, by decide +kernel⟩, by decide +kernel, by decide⟩
theorem xk_230 : xr_cdb ([] : List (Nat × Nat × Int)) false xm_230 = true := by decide +kernel
set_option maxRecDepth 100000 in
theorem xo_230 (L : Nat) (xs : Nat → Int32) : (∀ (pc : Nat) (i : Instr) (n : Nat), xr_fetch (xr_cd xm_230) pc = some (i, n) → xr_ok (xt_T L xs) xt_GW xt_ST xt_AO xm_230 pc i n) ∧ xr_hok xt_GW xt_NC xm_230 := ⟨xr_cdb_s (T := xt_T L xs) (ST := xt_ST) (AO := xt_AO) (GW := xt_GW) (cp := ([] : List (Nat × Nat × Int))) (ini := false) (M := xm_230) (fun _ h => absurd h List.not_mem_nil) (fun h => Bool.noConfusion h) xt_arr xk_230, (fun _ h => absurd h List.not_mem_nil)⟩
theorem xl_230 : xr_cal xt_GW xm_230 := ⟨by decide +kernel, (xt_in 7 rfl (List.mem_of_getElem? (i := 37) rfl)), (xt_in 3 rfl (List.mem_of_getElem? (i := 0) rfl)), ⟨by decide +kernel, by decide +kernel⟩, by decide +kernel, by decide⟩
theorem xk_231 : xr_cdb xt_cp9 false xm_231 = true := by decide +kernel
set_option maxRecDepth 100000 in
theorem xo_231 (L : Nat) (xs : Nat → Int32) : (∀ (pc : Nat) (i : Instr) (n : Nat), xr_fetch (xr_cd xm_231) pc = some (i, n) → xr_ok (xt_T L xs) xt_GW xt_ST xt_AO xm_231 pc i n) ∧ xr_hok xt_GW xt_NC xm_231 := ⟨xr_cdb_s (T := xt_T L xs) (ST := xt_ST) (AO := xt_AO) (GW := xt_GW) (cp := xt_cp9) (ini := false) (M := xm_231) (xt_cp9_ok L xs) (fun h => Bool.noConfusion h) xt_arr xk_231, List.forall_mem_cons.mpr ⟨⟨by decide, (xt_in 10 rfl (List.mem_of_getElem? (i := 9) rfl)), (xt_in 10 rfl (List.mem_of_getElem? (i := 16) rfl)), by decide +kernel⟩,
  List.forall_mem_cons.mpr ⟨⟨by decide, (xt_in 10 rfl (List.mem_of_getElem? (i := 10) rfl)), (xt_in 10 rfl (List.mem_of_getElem? (i := 18) rfl)), by decide +kernel⟩,
  fun _ h => absurd h List.not_mem_nil⟩⟩⟩
theorem xl_231 : xr_cal xt_GW xm_231 := ⟨plainFor_of_name (by decide +kernel), (xt_in 10 rfl (List.mem_of_getElem? (i := 8) rfl)), (xt_in 2 rfl (List.mem_of_getElem? (i := 28) rfl)), ⟨by decide +kernel, by decide +kernel⟩, by decide +kernel, by decide⟩
theorem xk_232 : xr_cdb xt_cp9 false xm_232 = true := by decide +kernel
set_option maxRecDepth 100000 in
theorem xo_232 (L : Nat) (xs : Nat → Int32) : (∀ (pc : Nat) (i : Instr) (n : Nat), xr_fetch (xr_cd xm_232) pc = some (i, n) → xr_ok (xt_T L xs) xt_GW xt_ST xt_AO xm_232 pc i n) ∧ xr_hok xt_GW xt_NC xm_232 := ⟨xr_cdb_s (T := xt_T L xs) (ST := xt_ST) (AO := xt_AO) (GW := xt_GW) (cp := xt_cp9) (ini := false) (M := xm_232) (xt_cp9_ok L xs) (fun h => Bool.noConfusion h) xt_arr xk_232, List.forall_mem_cons.mpr ⟨⟨by decide, (xt_in 10 rfl (List.mem_of_getElem? (i := 10) rfl)), (xt_in 10 rfl (List.mem_of_getElem? (i := 18) rfl)), by decide +kernel⟩,
  fun _ h => absurd h List.not_mem_nil⟩⟩
theorem xl_232 : xr_cal xt_GW xm_232 := ⟨plainFor_of_name (by decide +kernel), (xt_in 10 rfl (List.mem_of_getElem? (i := 25) rfl)), (xt_in 2 rfl (List.mem_of_getElem? (i := 28) rfl)), ⟨by decide +kernel, by decide +kernel⟩, by decide +kernel, by decide⟩
theorem xk_233 : xr_cdb xt_cp9 false xm_233 = true := by decide +kernel
set_option maxRecDepth 100000 in
theorem xo_233 (L : Nat) (xs : Nat → Int32) : (∀ (pc : Nat) (i : Instr) (n : Nat), xr_fetch (xr_cd xm_233) pc = some (i, n) → xr_ok (xt_T L xs) xt_GW xt_ST xt_AO xm_233 pc i n) ∧ xr_hok xt_GW xt_NC xm_233 := ⟨xr_cdb_s (T := xt_T L xs) (ST := xt_ST) (AO := xt_AO) (GW := xt_GW) (cp := xt_cp9) (ini := false) (M := xm_233) (xt_cp9_ok L xs) (fun h => Bool.noConfusion h) xt_arr xk_233, List.forall_mem_cons.mpr ⟨⟨by decide, (xt_in 10 rfl (List.mem_of_getElem? (i := 9) rfl)), (xt_in 10 rfl (List.mem_of_getElem? (i := 16) rfl)), by decide +kernel⟩,
  List.forall_mem_cons.mpr ⟨⟨by decide, (xt_in 10 rfl (List.mem_of_getElem? (i := 10) rfl)), (xt_in 10 rfl (List.mem_of_getElem? (i := 18) rfl)), by decide +kernel⟩,
  fun _ h => absurd h List.not_mem_nil⟩⟩⟩
theorem xl_233 : xr_cal xt_GW xm_233 := ⟨plainFor_of_name (by decide +kernel), (xt_in 11 rfl (List.mem_of_getElem? (i := 12) rfl)), (xt_in 2 rfl (List.mem_of_getElem? (i := 28) rfl)), ⟨by decide +kernel, by decide +kernel⟩, by decide +kernel, by decide⟩
theorem xk_234 : xr_cdb xt_cp9 false xm_234 = true := by decide +kernel
set_option maxRecDepth 100000 in
theorem xo_234 (L : Nat) (xs : Nat → Int32) : (∀ (pc : Nat) (i : Instr) (n : Nat), xr_fetch (xr_cd xm_234) pc = some (i, n) → xr_ok (xt_T L xs) xt_GW xt_ST xt_AO xm_234 pc i n) ∧ xr_hok xt_GW xt_NC xm_234 := ⟨xr_cdb_s (T := xt_T L xs) (ST := xt_ST) (AO := xt_AO) (GW := xt_GW) (cp := xt_cp9) (ini := false) (M := xm_234) (xt_cp9_ok L xs) (fun h => Bool.noConfusion h) xt_arr xk_234, List.forall_mem_cons.mpr ⟨⟨by decide, (xt_in 15 rfl (List.mem_of_getElem? (i := 16) rfl)), (xt_in 15 rfl (List.mem_of_getElem? (i := 22) rfl)), by decide +kernel⟩,
  fun _ h => absurd h List.not_mem_nil⟩⟩
theorem xl_234 : xr_cal xt_GW xm_234 := ⟨plainFor_of_name (by decide +kernel), (xt_in 15 rfl (List.mem_of_getElem? (i := 15) rfl)), (xt_in 2 rfl (List.mem_of_getElem? (i := 28) rfl)), ⟨by decide +kernel, by decide +kernel⟩, by decide +kernel, by decide⟩
theorem xk_235 : xr_cdb xt_cp9 false xm_235 = true := by decide +kernel
set_option maxRecDepth 100000 in
theorem xo_235 (L : Nat) (xs : Nat → Int32) : (∀ (pc : Nat) (i : Instr) (n : Nat), xr_fetch (xr_cd xm_235) pc = some (i, n) → xr_ok (xt_T L xs) xt_GW xt_ST xt_AO xm_235 pc i n) ∧ xr_hok xt_GW xt_NC xm_235 := ⟨xr_cdb_s (T := xt_T L xs) (ST := xt_ST) (AO := xt_AO) (GW := xt_GW) (cp := xt_cp9) (ini := false) (M := xm_235) (xt_cp9_ok L xs) (fun h => Bool.noConfusion h) xt_arr xk_235, List.forall_mem_cons.mpr ⟨⟨by decide, (xt_in 15 rfl (List.mem_of_getElem? (i := 16) rfl)), (xt_in 15 rfl (List.mem_of_getElem? (i := 22) rfl)), by decide +kernel⟩,
  fun _ h => absurd h List.not_mem_nil⟩⟩
theorem xl_235 : xr_cal xt_GW xm_235 := ⟨plainFor_of_name (by decide +kernel), (xt_in 15 rfl (List.mem_of_getElem? (i := 26) rfl)), (xt_in 2 rfl (List.mem_of_getElem? (i := 28) rfl)), ⟨by decide +kernel, by decide +kernel⟩, by decide +kernel, by decide⟩
theorem xk_236 : xr_cdb xt_cp9 false xm_236 = true := by decide +kernel
set_option maxRecDepth 100000 in
theorem xo_236 (L : Nat) (xs : Nat → Int32) : (∀ (pc : Nat) (i : Instr) (n : Nat), xr_fetch (xr_cd xm_236) pc = some (i, n) → xr_ok (xt_T L xs) xt_GW xt_ST xt_AO xm_236 pc i n) ∧ xr_hok xt_GW xt_NC xm_236 := ⟨xr_cdb_s (T := xt_T L xs) (ST := xt_ST) (AO := xt_AO) (GW := xt_GW) (cp := xt_cp9) (ini := false) (M := xm_236) (xt_cp9_ok L xs) (fun h => Bool.noConfusion h) xt_arr xk_236, List.forall_mem_cons.mpr ⟨⟨by decide, (xt_in 15 rfl (List.mem_of_getElem? (i := 16) rfl)), (xt_in 15 rfl (List.mem_of_getElem? (i := 22) rfl)), by decide +kernel⟩,
  fun _ h => absurd h List.not_mem_nil⟩⟩
theorem xl_236 : xr_cal xt_GW xm_236 := ⟨plainFor_of_name (by decide +kernel), (xt_in 16 rfl (List.mem_of_getElem? (i := 3) rfl)), (xt_in 2 rfl (List.mem_of_getElem? (i := 28) rfl)), ⟨by decide +kernel, by decide +kernel⟩, by decide +kernel, by decide⟩
theorem xk_237 : xr_cdb xt_cp9 false xm_237 = true := by decide +kernel
set_option maxRecDepth 100000 in
theorem xo_237 (L : Nat) (xs : Nat → Int32) : (∀ (pc : Nat) (i : Instr) (n : Nat), xr_fetch (xr_cd xm_237) pc = some (i, n) → xr_ok (xt_T L xs) xt_GW xt_ST xt_AO xm_237 pc i n) ∧ xr_hok xt_GW xt_NC xm_237 := ⟨xr_cdb_s (T := xt_T L xs) (ST := xt_ST) (AO := xt_AO) (GW := xt_GW) (cp := xt_cp9) (ini := false) (M := xm_237) (xt_cp9_ok L xs) (fun h => Bool.noConfusion h) xt_arr xk_237, List.forall_mem_cons.mpr ⟨⟨by decide, (xt_in 15 rfl (List.mem_of_getElem? (i := 16) rfl)), (xt_in 15 rfl (List.mem_of_getElem? (i := 22) rfl)), by decide +kernel⟩,
  fun _ h => absurd h List.not_mem_nil⟩⟩
theorem xl_237 : xr_cal xt_GW xm_237 := ⟨plainFor_of_name (by decide +kernel), (xt_in 16 rfl (List.mem_of_getElem? (i := 23) rfl)), (xt_in 2 rfl (List.mem_of_getElem? (i := 28) rfl)), ⟨by decide +kernel, by decide +kernel⟩, by decide +kernel, by decide⟩
theorem xk_238 : xr_cdb xt_cp9 false xm_238 = true := by decide +kernel
set_option maxRecDepth 100000 in
theorem xo_238 (L : Nat) (xs : Nat → Int32) : (∀ (pc : Nat) (i : Instr) (n : Nat), xr_fetch (xr_cd xm_238) pc = some (i, n) → xr_ok (xt_T L xs) xt_GW xt_ST xt_AO xm_238 pc i n) ∧ xr_hok xt_GW xt_NC xm_238 := ⟨xr_cdb_s (T := xt_T L xs) (ST := xt_ST) (AO := xt_AO) (GW := xt_GW) (cp := xt_cp9) (ini := false) (M := xm_238) (xt_cp9_ok L xs) (fun h => Bool.noConfusion h) xt_arr xk_238, List.forall_mem_cons.mpr ⟨⟨by decide, (xt_in 15 rfl (List.mem_of_getElem? (i := 16) rfl)), (xt_in 15 rfl (List.mem_of_getElem? (i := 22) rfl)), by decide +kernel⟩,
  List.forall_mem_cons.mpr ⟨⟨by decide, (xt_in 10 rfl (List.mem_of_getElem? (i := 9) rfl)), (xt_in 10 rfl (List.mem_of_getElem? (i := 16) rfl)), by decide +kernel⟩,
  fun _ h => absurd h List.not_mem_nil⟩⟩⟩
theorem xl_238 : xr_cal xt_GW xm_238 := ⟨plainFor_of_name (by decide +kernel), (xt_in 16 rfl (List.mem_of_getElem? (i := 30) rfl)), (xt_in 2 rfl (List.mem_of_getElem? (i := 28) rfl)), ⟨by decide +kernel, by decide +kernel⟩, by decide +kernel, by decide⟩
theorem xk_239 : xr_cdb xt_cp9 false xm_239 = true := by decide +kernel
set_option maxRecDepth 100000 in
theorem xo_239 (L : Nat) (xs : Nat → Int32) : (∀ (pc : Nat) (i : Instr) (n : Nat), xr_fetch (xr_cd xm_239) pc = some (i, n) → xr_ok (xt_T L xs) xt_GW xt_ST xt_AO xm_239 pc i n) ∧ xr_hok xt_GW xt_NC xm_239 := ⟨xr_cdb_s (T := xt_T L xs) (ST := xt_ST) (AO := xt_AO) (GW := xt_GW) (cp := xt_cp9) (ini := false) (M := xm_239) (xt_cp9_ok L xs) (fun h => Bool.noConfusion h) xt_arr xk_239, List.forall_mem_cons.mpr ⟨⟨by decide, (xt_in 15 rfl (List.mem_of_getElem? (i := 16) rfl)), (xt_in 15 rfl (List.mem_of_getElem? (i := 22) rfl)), by decide +kernel⟩,
  List.forall_mem_cons.mpr ⟨⟨by decide, (xt_in 10 rfl (List.mem_of_getElem? (i := 10) rfl)), (xt_in 10 rfl (List.mem_of_getElem? (i := 18) rfl)), by decide +kernel⟩,
  fun _ h => absurd h List.not_mem_nil⟩⟩⟩
theorem xl_239 : xr_cal xt_GW xm_239 := ⟨plainFor_of_name (by decide +kernel), (xt_in 17 rfl (List.mem_of_getElem? (i := 5) rfl)), (xt_in 2 rfl (List.mem_of_getElem? (i := 28) rfl)), ⟨by decide +kernel, by decide +kernel⟩, by decide +kernel, by decide⟩
theorem xk_240 : xr_cdb xt_cp9 false xm_240 = true := by decide +kernel
set_option maxRecDepth 100000 in
theorem xo_240 (L : Nat) (xs : Nat → Int32) : (∀ (pc : Nat) (i : Instr) (n : Nat), xr_fetch (xr_cd xm_240) pc = some (i, n) → xr_ok (xt_T L xs) xt_GW xt_ST xt_AO xm_240 pc i n) ∧ xr_hok xt_GW xt_NC xm_240 := ⟨xr_cdb_s (T := xt_T L xs) (ST := xt_ST) (AO := xt_AO) (GW := xt_GW) (cp := xt_cp9) (ini := false) (M := xm_240) (xt_cp9_ok L xs) (fun h => Bool.noConfusion h) xt_arr xk_240, List.forall_mem_cons.mpr ⟨⟨by decide, (xt_in 15 rfl (List.mem_of_getElem? (i := 16) rfl)), (xt_in 15 rfl (List.mem_of_getElem? (i := 22) rfl)), by decide +kernel⟩,
  List.forall_mem_cons.mpr ⟨⟨by decide, (xt_in 10 rfl (List.mem_of_getElem? (i := 10) rfl)), (xt_in 10 rfl (List.mem_of_getElem? (i := 18) rfl)), by decide +kernel⟩,
  fun _ h => absurd h List.not_mem_nil⟩⟩⟩
theorem xl_240 : xr_cal xt_GW xm_240 := ⟨plainFor_of_name (by decide +kernel), (xt_in 17 rfl (List.mem_of_getElem? (i := 19) rfl)), (xt_in 2 rfl (List.mem_of_getElem? (i := 28) rfl)), ⟨by decide +kernel, by decide +kernel⟩, by decide +kernel, by decide⟩
theorem xk_241 : xr_cdb xt_cp9 false xm_241 = true := by decide +kernel
set_option maxRecDepth 100000 in
theorem xo_241 (L : Nat) (xs : Nat → Int32) : (∀ (pc : Nat) (i : Instr) (n : Nat), xr_fetch (xr_cd xm_241) pc = some (i, n) → xr_ok (xt_T L xs) xt_GW xt_ST xt_AO xm_241 pc i n) ∧ xr_hok xt_GW xt_NC xm_241 := ⟨xr_cdb_s (T := xt_T L xs) (ST := xt_ST) (AO := xt_AO) (GW := xt_GW) (cp := xt_cp9) (ini := false) (M := xm_241) (xt_cp9_ok L xs) (fun h => Bool.noConfusion h) xt_arr xk_241, List.forall_mem_cons.mpr ⟨⟨by decide, (xt_in 10 rfl (List.mem_of_getElem? (i := 9) rfl)), (xt_in 10 rfl (List.mem_of_getElem? (i := 16) rfl)), by decide +kernel⟩,
  fun _ h => absurd h List.not_mem_nil⟩⟩
theorem xl_241 : xr_cal xt_GW xm_241 := ⟨plainFor_of_name (by decide +kernel), (xt_in 17 rfl (List.mem_of_getElem? (i := 36) rfl)), (xt_in 2 rfl (List.mem_of_getElem? (i := 28) rfl)), ⟨by decide +kernel, by decide +kernel⟩, by decide +kernel, by decide⟩
theorem xk_242 : xr_cdb xt_cp9 false xm_242 = true := by decide +kernel
set_option maxRecDepth 100000 in
theorem xo_242 (L : Nat) (xs : Nat → Int32) : (∀ (pc : Nat) (i : Instr) (n : Nat), xr_fetch (xr_cd xm_242) pc = some (i, n) → xr_ok (xt_T L xs) xt_GW xt_ST xt_AO xm_242 pc i n) ∧ xr_hok xt_GW xt_NC xm_242 := ⟨xr_cdb_s (T := xt_T L xs) (ST := xt_ST) (AO := xt_AO) (GW := xt_GW) (cp := xt_cp9) (ini := false) (M := xm_242) (xt_cp9_ok L xs) (fun h => Bool.noConfusion h) xt_arr xk_242, List.forall_mem_cons.mpr ⟨⟨by decide, (xt_in 10 rfl (List.mem_of_getElem? (i := 9) rfl)), (xt_in 10 rfl (List.mem_of_getElem? (i := 16) rfl)), by decide +kernel⟩,
  fun _ h => absurd h List.not_mem_nil⟩⟩
theorem xl_242 : xr_cal xt_GW xm_242 := ⟨plainFor_of_name (by decide +kernel), (xt_in 18 rfl (List.mem_of_getElem? (i := 3) rfl)), (xt_in 2 rfl (List.mem_of_getElem? (i := 28) rfl)), ⟨by decide +kernel, by decide +kernel⟩, by decide +kernel, by decide⟩
theorem xk_243 : xr_cdb xt_cp9 false xm_243 = true := by decide +kernel
set_option maxRecDepth 100000 in
theorem xo_243 (L : Nat) (xs : Nat → Int32) : (∀ (pc : Nat) (i : Instr) (n : Nat), xr_fetch (xr_cd xm_243) pc = some (i, n) → xr_ok (xt_T L xs) xt_GW xt_ST xt_AO xm_243 pc i n) ∧ xr_hok xt_GW xt_NC xm_243 := ⟨xr_cdb_s (T := xt_T L xs) (ST := xt_ST) (AO := xt_AO) (GW := xt_GW) (cp := xt_cp9) (ini := false) (M := xm_243) (xt_cp9_ok L xs) (fun h => Bool.noConfusion h) xt_arr xk_243, List.forall_mem_cons.mpr ⟨⟨by decide, (xt_in 15 rfl (List.mem_of_getElem? (i := 16) rfl)), (xt_in 15 rfl (List.mem_of_getElem? (i := 22) rfl)), by decide +kernel⟩,
  List.forall_mem_cons.mpr ⟨⟨by decide, (xt_in 10 rfl (List.mem_of_getElem? (i := 10) rfl)), (xt_in 10 rfl (List.mem_of_getElem? (i := 18) rfl)), by decide +kernel⟩,
  fun _ h => absurd h List.not_mem_nil⟩⟩⟩
theorem xl_243 : xr_cal xt_GW xm_243 := ⟨plainFor_of_name (by decide +kernel), (xt_in 18 rfl (List.mem_of_getElem? (i := 15) rfl)), (xt_in 2 rfl (List.mem_of_getElem? (i := 28) rfl)), ⟨by decide +kernel, by decide +kernel⟩, by decide +kernel, by decide⟩
theorem xk_244 : xr_cdb xt_cp9 false xm_244 = true := by decide +kernel
set_option maxRecDepth 100000 in
theorem xo_244 (L : Nat) (xs : Nat → Int32) : (∀ (pc : Nat) (i : Instr) (n : Nat), xr_fetch (xr_cd xm_244) pc = some (i, n) → xr_ok (xt_T L xs) xt_GW xt_ST xt_AO xm_244 pc i n) ∧ xr_hok xt_GW xt_NC xm_244 := ⟨xr_cdb_s (T := xt_T L xs) (ST := xt_ST) (AO := xt_AO) (GW := xt_GW) (cp := xt_cp9) (ini := false) (M := xm_244) (xt_cp9_ok L xs) (fun h => Bool.noConfusion h) xt_arr xk_244, List.forall_mem_cons.mpr ⟨⟨by decide, (xt_in 15 rfl (List.mem_of_getElem? (i := 16) rfl)), (xt_in 15 rfl (List.mem_of_getElem? (i := 22) rfl)), by decide +kernel⟩,
  List.forall_mem_cons.mpr ⟨⟨by decide, (xt_in 10 rfl (List.mem_of_getElem? (i := 9) rfl)), (xt_in 10 rfl (List.mem_of_getElem? (i := 16) rfl)), by decide +kernel⟩,
  List.forall_mem_cons.mpr ⟨⟨by decide, (xt_in 10 rfl (List.mem_of_getElem? (i := 10) rfl)), (xt_in 10 rfl (List.mem_of_getElem? (i := 18) rfl)), by decide +kernel⟩,
  fun _ h => absurd h List.not_mem_nil⟩⟩⟩⟩
theorem xl_244 : xr_cal xt_GW xm_244 := ⟨plainFor_of_name (by decide +kernel), (xt_in 20 rfl (List.mem_of_getElem? (i := 5) rfl)), (xt_in 2 rfl (List.mem_of_getElem? (i := 28) rfl)), ⟨by decide +kernel, by decide +kernel⟩, by decide +kernel, by decide⟩
theorem xk_245 : xr_cdb xt_cp9 false xm_245 = true := by decide +kernel
set_option maxRecDepth 100000 in
theorem xo_245 (L : Nat) (xs : Nat → Int32) : (∀ (pc : Nat) (i : Instr) (n : Nat), xr_fetch (xr_cd xm_245) pc = some (i, n) → xr_ok (xt_T L xs) xt_GW xt_ST xt_AO xm_245 pc i n) ∧ xr_hok xt_GW xt_NC xm_245 := ⟨xr_cdb_s (T := xt_T L xs) (ST := xt_ST) (AO := xt_AO) (GW := xt_GW) (cp := xt_cp9) (ini := false) (M := xm_245) (xt_cp9_ok L xs) (fun h => Bool.noConfusion h) xt_arr xk_245, List.forall_mem_cons.mpr ⟨⟨by decide, (xt_in 15 rfl (List.mem_of_getElem? (i := 16) rfl)), (xt_in 15 rfl (List.mem_of_getElem? (i := 22) rfl)), by decide +kernel⟩,
  List.forall_mem_cons.mpr ⟨⟨by decide, (xt_in 10 rfl (List.mem_of_getElem? (i := 10) rfl)), (xt_in 10 rfl (List.mem_of_getElem? (i := 18) rfl)), by decide +kernel⟩,
  fun _ h => absurd h List.not_mem_nil⟩⟩⟩
theorem xl_245 : xr_cal xt_GW xm_245 := ⟨plainFor_of_name (by decide +kernel), (xt_in 21 rfl (List.mem_of_getElem? (i := 3) rfl)), (xt_in 2 rfl (List.mem_of_getElem? (i := 28) rfl)), ⟨by decide +kernel, by decide +kernel⟩, by decide +kernel, by decide⟩
theorem xk_246 : xr_cdb xt_cp9 false xm_246 = true := by decide +kernel
set_option maxRecDepth 100000 in
theorem xo_246 (L : Nat) (xs : Nat → Int32) : (∀ (pc : Nat) (i : Instr) (n : Nat), xr_fetch (xr_cd xm_246) pc = some (i, n) → xr_ok (xt_T L xs) xt_GW xt_ST xt_AO xm_246 pc i n) ∧ xr_hok xt_GW xt_NC xm_246 := ⟨xr_cdb_s (T := xt_T L xs) (ST := xt_ST) (AO := xt_AO) (GW := xt_GW) (cp := xt_cp9) (ini := false) (M := xm_246) (xt_cp9_ok L xs) (fun h => Bool.noConfusion h) xt_arr xk_246, List.forall_mem_cons.mpr ⟨⟨by decide, (xt_in 15 rfl (List.mem_of_getElem? (i := 16) rfl)), (xt_in 15 rfl (List.mem_of_getElem? (i := 22) rfl)), by decide +kernel⟩,
  List.forall_mem_cons.mpr ⟨⟨by decide, (xt_in 10 rfl (List.mem_of_getElem? (i := 10) rfl)), (xt_in 10 rfl (List.mem_of_getElem? (i := 18) rfl)), by decide +kernel⟩,
  fun _ h => absurd h List.not_mem_nil⟩⟩⟩
theorem xl_246 : xr_cal xt_GW xm_246 := ⟨plainFor_of_name (by decide +kernel), (xt_in 21 rfl (List.mem_of_getElem? (i := 19) rfl)), (xt_in 2 rfl (List.mem_of_getElem? (i := 28) rfl)), ⟨by decide +kernel, by decide +kernel⟩, by decide +kernel, by decide⟩
