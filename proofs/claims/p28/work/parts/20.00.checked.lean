/-! every method is checked -/
theorem xt_arr : Cond.arrayClass .int ∈ xt_GW ∧ Cond.arrayClass .boolean ∈ xt_GW := ⟨(xt_in 2 rfl (List.mem_of_getElem? (i := 9) rfl)), (xt_in 4 rfl (List.mem_of_getElem? (i := 23) rfl))⟩
theorem xr_chk {α : Type} (p : α → Bool) (n s : Nat) (l : List α) (h1 : ((l.drop s).take n).all p = true) (h2 : (l.drop (s + n)).all p = true) : (l.drop s).all p = true := by
  rw [← List.take_append_drop n (l.drop s), List.all_append, h1, List.drop_drop, h2]
  rfl
theorem xk_0_0 : ((xc_0.drop 0).take 40).all (fun q => xr_okb xt_cp9 false xm_0 q.1 q.2.1 q.2.2) = true := by decide +kernel
theorem xk_0_40 : ((xc_0.drop 40).take 40).all (fun q => xr_okb xt_cp9 false xm_0 q.1 q.2.1 q.2.2) = true := by decide +kernel
theorem xk_0_80 : ((xc_0.drop 80).take 40).all (fun q => xr_okb xt_cp9 false xm_0 q.1 q.2.1 q.2.2) = true := by decide +kernel
theorem xk_0_120 : ((xc_0.drop 120).take 40).all (fun q => xr_okb xt_cp9 false xm_0 q.1 q.2.1 q.2.2) = true := by decide +kernel
theorem xk_0_160 : ((xc_0.drop 160).take 40).all (fun q => xr_okb xt_cp9 false xm_0 q.1 q.2.1 q.2.2) = true := by decide +kernel
theorem xk_0_200 : ((xc_0.drop 200).take 40).all (fun q => xr_okb xt_cp9 false xm_0 q.1 q.2.1 q.2.2) = true := by decide +kernel
theorem xk_0_240 : ((xc_0.drop 240).take 40).all (fun q => xr_okb xt_cp9 false xm_0 q.1 q.2.1 q.2.2) = true := by decide +kernel
theorem xk_0_280 : ((xc_0.drop 280).take 40).all (fun q => xr_okb xt_cp9 false xm_0 q.1 q.2.1 q.2.2) = true := by decide +kernel
theorem xk_0_320 : ((xc_0.drop 320).take 40).all (fun q => xr_okb xt_cp9 false xm_0 q.1 q.2.1 q.2.2) = true := by decide +kernel
theorem xk_0_360 : ((xc_0.drop 360).take 40).all (fun q => xr_okb xt_cp9 false xm_0 q.1 q.2.1 q.2.2) = true := by decide +kernel
theorem xk_0_400 : ((xc_0.drop 400).take 40).all (fun q => xr_okb xt_cp9 false xm_0 q.1 q.2.1 q.2.2) = true := by decide +kernel
