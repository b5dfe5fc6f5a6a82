/-! methods that are checked -/
theorem xk_0_440 : ((xc_0.drop 440).take 40).all (fun q => xr_okb xt_cp9 false xm_0 q.1 q.2.1 q.2.2) = true := by decide +kernel
theorem xk_0_480 : ((xc_0.drop 480).take 40).all (fun q => xr_okb xt_cp9 false xm_0 q.1 q.2.1 q.2.2) = true := by decide +kernel
theorem xk_0_520 : ((xc_0.drop 520).take 40).all (fun q => xr_okb xt_cp9 false xm_0 q.1 q.2.1 q.2.2) = true := by decide +kernel
theorem xk_0_560 : ((xc_0.drop 560).take 40).all (fun q => xr_okb xt_cp9 false xm_0 q.1 q.2.1 q.2.2) = true := by decide +kernel
theorem xk_0_600 : ((xc_0.drop 600).take 40).all (fun q => xr_okb xt_cp9 false xm_0 q.1 q.2.1 q.2.2) = true := by decide +kernel
theorem xk_0_640 : ((xc_0.drop 640).take 40).all (fun q => xr_okb xt_cp9 false xm_0 q.1 q.2.1 q.2.2) = true := by decide +kernel
theorem xk_0_680 : ((xc_0.drop 680).take 40).all (fun q => xr_okb xt_cp9 false xm_0 q.1 q.2.1 q.2.2) = true := by decide +kernel
theorem xk_0_720 : ((xc_0.drop 720).take 40).all (fun q => xr_okb xt_cp9 false xm_0 q.1 q.2.1 q.2.2) = true := by decide +kernel
theorem xk_0_760 : ((xc_0.drop 760).take 40).all (fun q => xr_okb xt_cp9 false xm_0 q.1 q.2.1 q.2.2) = true := by decide +kernel
theorem xk_0_800 : ((xc_0.drop 800).take 40).all (fun q => xr_okb xt_cp9 false xm_0 q.1 q.2.1 q.2.2) = true := by decide +kernel
theorem xk_0_840 : ((xc_0.drop 840).take 40).all (fun q => xr_okb xt_cp9 false xm_0 q.1 q.2.1 q.2.2) = true := by decide +kernel
