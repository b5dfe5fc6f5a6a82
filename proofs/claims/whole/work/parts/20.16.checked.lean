/-! methods that are checked -/
theorem xk_169_80 : ((xc_169.drop 80).take 40).all (fun q => xr_okb xt_cp10 false xm_169 q.1 q.2.1 q.2.2) = true := by decide +kernel
theorem xk_169_120 : ((xc_169.drop 120).take 40).all (fun q => xr_okb xt_cp10 false xm_169 q.1 q.2.1 q.2.2) = true := by decide +kernel
theorem xk_169_160 : ((xc_169.drop 160).take 40).all (fun q => xr_okb xt_cp10 false xm_169 q.1 q.2.1 q.2.2) = true := by decide +kernel
theorem xk_169_200 : ((xc_169.drop 200).take 40).all (fun q => xr_okb xt_cp10 false xm_169 q.1 q.2.1 q.2.2) = true := by decide +kernel
theorem xk_169_240 : ((xc_169.drop 240).take 40).all (fun q => xr_okb xt_cp10 false xm_169 q.1 q.2.1 q.2.2) = true := by decide +kernel
theorem xk_169_280 : ((xc_169.drop 280).take 40).all (fun q => xr_okb xt_cp10 false xm_169 q.1 q.2.1 q.2.2) = true := by decide +kernel
theorem xk_169 : xr_cdb xt_cp10 false xm_169 = true := (xr_chk _ 40 0 _ xk_169_0 (xr_chk _ 40 40 _ xk_169_40 (xr_chk _ 40 80 _ xk_169_80 (xr_chk _ 40 120 _ xk_169_120 (xr_chk _ 40 160 _ xk_169_160 (xr_chk _ 40 200 _ xk_169_200 (xr_chk _ 40 240 _ xk_169_240 (xr_chk _ 40 280 _ xk_169_280 (by decide +kernel)))))))))
set_option maxRecDepth 100000 in
theorem xo_169 (L : Nat) (xs : Nat → Int32) : (∀ (pc : Nat) (i : Instr) (n : Nat), xr_fetch (xr_cd xm_169) pc = some (i, n) → xr_ok (xt_T L xs) xt_GW xt_ST xt_AO xm_169 pc i n) ∧ xr_hok xt_GW xt_NC xm_169 := ⟨xr_cdb_s (T := xt_T L xs) (ST := xt_ST) (AO := xt_AO) (GW := xt_GW) (cp := xt_cp10) (ini := false) (M := xm_169) (xt_cp10_ok L xs) (fun h => Bool.noConfusion h) xt_arr xk_169, (fun _ h => absurd h List.not_mem_nil)⟩
theorem xl_169 : xr_cal xt_GW xm_169 := ⟨plainFor_of_name (by decide +kernel), (xt_in 25 rfl (List.mem_of_getElem? (i := 32) rfl)), (xt_in 2 rfl (List.mem_of_getElem? (i := 37) rfl)), ⟨by decide +kernel, by decide +kernel⟩, by decide +kernel, by decide⟩
theorem xk_170_0 : ((xc_170.drop 0).take 40).all (fun q => xr_okb xt_cp10 false xm_170 q.1 q.2.1 q.2.2) = true := by decide +kernel
theorem xk_170_40 : ((xc_170.drop 40).take 40).all (fun q => xr_okb xt_cp10 false xm_170 q.1 q.2.1 q.2.2) = true := by decide +kernel
theorem xk_170_80 : ((xc_170.drop 80).take 40).all (fun q => xr_okb xt_cp10 false xm_170 q.1 q.2.1 q.2.2) = true := by decide +kernel
theorem xk_170 : xr_cdb xt_cp10 false xm_170 = true := (xr_chk _ 40 0 _ xk_170_0 (xr_chk _ 40 40 _ xk_170_40 (xr_chk _ 40 80 _ xk_170_80 (by decide +kernel))))
set_option maxRecDepth 100000 in
theorem xo_170 (L : Nat) (xs : Nat → Int32) : (∀ (pc : Nat) (i : Instr) (n : Nat), xr_fetch (xr_cd xm_170) pc = some (i, n) → xr_ok (xt_T L xs) xt_GW xt_ST xt_AO xm_170 pc i n) ∧ xr_hok xt_GW xt_NC xm_170 := ⟨xr_cdb_s (T := xt_T L xs) (ST := xt_ST) (AO := xt_AO) (GW := xt_GW) (cp := xt_cp10) (ini := false) (M := xm_170) (xt_cp10_ok L xs) (fun h => Bool.noConfusion h) xt_arr xk_170, (fun _ h => absurd h List.not_mem_nil)⟩
theorem xl_170 : xr_cal xt_GW xm_170 := ⟨plainFor_of_name (by decide +kernel), (xt_in 26 rfl (List.mem_of_getElem? (i := 34) rfl)), (xt_in 2 rfl (List.mem_of_getElem? (i := 37) rfl)), ⟨by decide +kernel, by decide +kernel⟩, by decide +kernel, by decide⟩
theorem xk_171_0 : ((xc_171.drop 0).take 40).all (fun q => xr_okb xt_cp10 false xm_171 q.1 q.2.1 q.2.2) = true := by decide +kernel
theorem xk_171_40 : ((xc_171.drop 40).take 40).all (fun q => xr_okb xt_cp10 false xm_171 q.1 q.2.1 q.2.2) = true := by decide +kernel
