/-! the methods do what their functions over the store do -/
theorem zg_89 (L : Nat) (xs : Nat → Int32) (hL : L ≤ 2147483647) {A : Nat} {h : xrH} {s : zS} {Xx1 : Int32} {x1 : Int} (H : zH A h s) (ax1 : zx Xx1 x1) : zq 0 A (xf_89 L xs Xx1 h) (zf_89 L xs x1 s) := by
  unfold xf_89 zf_89
  exact (zq_ge ax1 (zx_L hL) (zq_g fun g1 => (zq_g fun g2 => (zq_g fun g3 => (zq_i H (zadd_x (zmul_x zc32_51797 (zadd_x ax1 zc8_41 g1) g2) zc32_2957131 g3))))) (zq_x ax1 (zq_i H zx_t)))
theorem zg_90 {A : Nat} {h : xrH} {s : zS} {Xx0 : Int32} {x0 : Int} {Xx1 : Int32} {x1 : Int} (H : zH A h s) (ax0 : zx Xx0 x0) (ax1 : zx Xx1 x1) : zq 0 A (xf_90 Xx0 Xx1 h) (zf_90 x0 x1 s) := by
  unfold xf_90 zf_90
  exact (zq_dv ax1 (zq_i H (zrem_x (zand_x ax0 zc32_2147483647) ax1)))
theorem zg_24 {A : Nat} {h : xrH} {s : zS} {Xx0 : Int32} {x0 : Int} {Xx1 : Int32} {x1 : Int} (H : zH A h s) (ax0 : zx Xx0 x0) (ax1 : zx Xx1 x1) : zq 0 A (xf_24 Xx0 Xx1 h) (zf_24 x0 x1 s) := by
  unfold xf_24 zf_24
  exact (zq_gt ax0 ax1 (zq_i H ax1) (zq_i H ax0))
theorem zg_5_18 : ∀ (n : Nat) {A : Nat} {h : xrH} {s : zS} {x0 : Nat} {x1 : Nat} {Xx2 : Int32} {x2 : Int} (H : zH A h s) (ax0 : x0 < 3) (ax1 : x1 < 3) (ax2 : zx Xx2 x2), zq 1 A (xf_5_18 n (za_0 x0) (za_0 x1) Xx2 h) (zf_5_18 n x0 x1 x2 s) := by
  intro n
  induction n with
  | zero =>
    intros
    exact zq_none
  | succ n ih =>
    intro A h s x0 x1 Xx2 x2 H ax0 ax1 ax2
    rw [xf_5_18, zf_5_18]
    exact (zq_b (zi_1 H ax0) (zq_ge ax2 (zx_s H 1 x0 0) (zq_v H) (zq_b (zr_0 H ax0) (zq_b (zr_0 H ax1) (zq_a (zw_0 H ax1) ax2 (zq_W (fun hl => zwp_0 H ax0 ax2 (zx_s H 0 x1 x2) hl) fun h105 s2 H1 => (zq_g fun g3 => (ih H1 ax0 ax1 (zadd_x ax2 zc32_1 g3)))))))))
theorem zg_5 {A : Nat} {h : xrH} {s : zS} {x0 : Nat} {x1 : Nat} (H : zH A h s) (ax0 : x0 < 3) (ax1 : x1 < 3) : zq 1 A (xf_5 (za_0 x0) (za_0 x1) h) (zf_5 x0 x1 s) := by
  unfold xf_5 zf_5
  exact (zq_b (zi_1 H ax1) (zq_b (zr_0 H ax0) (zq_b (zn_eq (zw_0 H ax0)) (zq_c_i (zg_24 H (zx_s H 1 x1 0) (zx_nB)) fun v3 h104 s2 hv3 H1 => (zq_P (zpi_1 H1 ax0 (zx_r hv3)) fun h106 s5 H4 => (zg_5_18 xfu H4 ax0 ax1 zc32_0))))))
theorem zg_10 {A : Nat} {h : xrH} {s : zS} {x0 : Nat} {x1 : Nat} (H : zH A h s) (ax0 : x0 < 1) (ax1 : x1 < 3) : zq 1 A (xf_10 (za_1 x0) (za_0 x1) h) (zf_10 x0 x1 s) := by
  unfold xf_10 zf_10
  exact (zq_b (zr_64 H ax0) (zq_c (zc_0 H (by decide)) (zq_c_v (zg_5 H (by decide) ax1) fun _ h102 s2 _ H1 => (zq_v H1))))
theorem zg_2 {A : Nat} {h : xrH} {s : zS} {x0 : Nat} {Xx1 : Int32} {x1 : Int} (H : zH A h s) (ax0 : x0 < 3) (ax1 : zx Xx1 x1) : zq 0 A (xf_2 (za_0 x0) Xx1 h) (zf_2 x0 x1 s) := by
  unfold xf_2 zf_2
  exact (zq_lt ax1 zcn_0 (zq_i H zc32_0) (zq_b (zi_1 H ax0) (zq_ge ax1 (zx_s H 1 x0 0) (zq_i H zc32_0) (zq_b (zr_0 H ax0) (zq_a (zw_0 H ax0) ax1 (zq_i H (zx_s H 0 x0 x1)))))))
theorem zg_3 {A : Nat} {h : xrH} {s : zS} {x0 : Nat} {Xx1 : Int32} {x1 : Int} {Xx2 : Int32} {x2 : Int} (H : zH A h s) (ax0 : x0 < 3) (ax1 : zx Xx1 x1) (ax2 : zx Xx2 x2) : zq 1 A (xf_3 (za_0 x0) Xx1 Xx2 h) (zf_3 x0 x1 x2 s) := by
  unfold xf_3 zf_3
  exact (zq_lt ax1 zcn_0 (zq_v H) (zq_b (zi_1 H ax0) (zq_ge ax1 (zx_s H 1 x0 0) (zq_v H) (zq_b (zr_0 H ax0) (zq_W (fun hl => zwp_0 H ax0 ax1 ax2 hl) fun h103 s2 H1 => (zq_v H1))))))
theorem zg_27 {A : Nat} {h : xrH} {s : zS} {x0 : Nat} {Xx1 : Int32} {x1 : Int} (H : zH A h s) (ax0 : x0 < 2) (ax1 : zx Xx1 x1) : zq 0 A (xf_27 (za_3 x0) Xx1 h) (zf_27 x0 x1 s) := by
  unfold xf_27 zf_27
  exact (zq_lt ax1 zcn_0 (zq_z H zc32_0) (zq_b (zi_199 H ax0) (zq_ge ax1 (zx_s H 199 x0 0) (zq_z H zc32_0) (zq_z H zc32_1))))
theorem zg_81_24 {A : Nat} {h : xrH} {s : zS} {x0 : Nat} {Xs0 : Int32} {s0 : Int} (H : zH A h s) (ax0 : x0 < 2) (as0 : zx Xs0 s0) : zq 0 A (xf_81_24 (za_5 x0) Xs0 h) (zf_81_24 x0 s0 s) := by
  unfold xf_81_24 zf_81_24
  exact (zq_ne as0 zc32_m1 (zq_b (zo_321 H ax0) (zq_O H (zo_s H 321 x0 0) fun q1 hq2 hA3 H4 => (zq_b (zr_458 H4 hq2) (zq_a (zw_458 H4 hq2) as0 (zq_i H4 (zx_s H4 458 q1 s0)))))) (zq_i H zc8_65))
theorem zg_81 {A : Nat} {h : xrH} {s : zS} {x0 : Nat} {Xx1 : Int32} {x1 : Int} (H : zH A h s) (ax0 : x0 < 2) (ax1 : zx Xx1 x1) : zq 0 A (xf_81 (za_5 x0) Xx1 h) (zf_81 x0 x1 s) := by
  unfold xf_81 zf_81
  exact (zq_b (zr_320 H ax0) (zq_c (zc_3 H ax0) (zq_c_i (zg_27 H ax0 ax1) fun v3 h102 s2 hv3 H1 => (zq_eq (zx_r hv3) zcn_0 (zg_81_24 H1 ax0 zc32_m1) (zq_b (zr_320 H1 ax0) (zq_b (zr_198 H1 ax0) (zq_a (zw_198 H1 ax0) ax1 (zg_81_24 H1 ax0 (zx_s H1 198 x0 x1)))))))))
theorem zg_83_24 {A : Nat} {h : xrH} {s : zS} {x0 : Nat} {Xs0 : Int32} {s0 : Int} (H : zH A h s) (ax0 : x0 < 2) (as0 : zx Xs0 s0) : zq 0 A (xf_83_24 (za_5 x0) Xs0 h) (zf_83_24 x0 s0 s) := by
  unfold xf_83_24 zf_83_24
  exact (zq_ne as0 zc32_m1 (zq_b (zo_321 H ax0) (zq_O H (zo_s H 321 x0 0) fun q1 hq2 hA3 H4 => (zq_b (zr_459 H4 hq2) (zq_a (zw_459 H4 hq2) as0 (zq_g fun g5 => (zq_i H4 (zsub_x (zshl_x zc32_1 (zx_s H4 459 q1 s0)) zc32_1 g5))))))) (zq_i H zc32_m1))
theorem zg_83 {A : Nat} {h : xrH} {s : zS} {x0 : Nat} {Xx1 : Int32} {x1 : Int} (H : zH A h s) (ax0 : x0 < 2) (ax1 : zx Xx1 x1) : zq 0 A (xf_83 (za_5 x0) Xx1 h) (zf_83 x0 x1 s) := by
  unfold xf_83 zf_83
  exact (zq_b (zr_320 H ax0) (zq_c (zc_3 H ax0) (zq_c_i (zg_27 H ax0 ax1) fun v3 h102 s2 hv3 H1 => (zq_eq (zx_r hv3) zcn_0 (zg_83_24 H1 ax0 zc32_m1) (zq_b (zr_320 H1 ax0) (zq_b (zr_198 H1 ax0) (zq_a (zw_198 H1 ax0) ax1 (zg_83_24 H1 ax0 (zx_s H1 198 x0 x1)))))))))
theorem zg_84 {A : Nat} {h : xrH} {s : zS} {x0 : Nat} {Xx1 : Int32} {x1 : Int} (H : zH A h s) (ax0 : x0 < 2) (ax1 : zx Xx1 x1) : zq 0 A (xf_84 (za_5 x0) Xx1 h) (zf_84 x0 x1 s) := by
  unfold xf_84 zf_84
  exact (zq_c (zc_5 H ax0) (zq_c_i (zg_81 H ax0 ax1) fun v3 h101 s2 hv3 H1 => (zq_ne (zx_r hv3) zc8_110 (zq_i H1 zc32_0) (zq_b (zo_321 H1 ax0) (zq_O H1 (zo_s H1 321 x0 0) fun q4 hq5 hA6 H7 => (zq_b (zr_460 H7 hq5) (zq_b (zr_320 H7 ax0) (zq_b (zr_198 H7 ax0) (zq_a (zw_198 H7 ax0) ax1 (zq_a (zw_460 H7 hq5) (zx_s H7 198 x0 x1) (zq_i H7 (zx_s H7 460 q4 (s2.1 198 x0 x1)))))))))))))
theorem zg_11 {A : Nat} {h : xrH} {s : zS} {x0 : Nat} {x1 : Nat} {Xx2 : Int32} {x2 : Int} {Xx3 : Int32} {x3 : Int} (H : zH A h s) (ax0 : x0 < 1) (ax1 : x1 < 2) (ax2 : zx Xx2 x2) (ax3 : zx Xx3 x3) : zq 1 A (xf_11 (za_1 x0) (za_5 x1) Xx2 Xx3 h) (zf_11 x0 x1 x2 x3 s) := by
  unfold xf_11 zf_11
  exact (zq_b (zr_320 H ax1) (zq_b (zr_194 H ax1) (zq_a (zw_194 H ax1) ax2 (zq_c (zc_5 H ax1) (zq_c_i (zg_81 H ax1 ax2) fun v3 h104 s2 hv3 H1 => (zq_sw (zx_r hv3) zcn_87 (zq_b (zr_64 H1 ax0) (zq_c (zc_0 H1 (by decide)) (zq_c_v (zg_3 H1 (by decide) (zx_s H 194 x1 x2) (zshr_x ax3 zc8_8)) fun _ h109 s23 _ H22 => (zq_b (zr_64 H22 ax0) (zq_c (zc_0 H22 (by decide)) (zq_g fun g24 => (zq_c_v (zg_3 H22 (by decide) (zadd_x (zx_s H 194 x1 x2) zc32_1 g24) (zand_x ax3 zc16_255)) fun _ h111 s26 _ H25 => (zq_v H25)))))))) (zq_sw (zx_r hv3) zcn_110 (zq_c (zc_5 H1 ax1) (zq_c_i (zg_84 H1 ax1 ax2) fun v13 h112 s12 hv13 H11 => (zq_b (zr_64 H11 ax0) (zq_c (zc_0 H11 (by decide)) (zq_c_i (zg_2 H11 (by decide) (zx_s H 194 x1 x2)) fun v16 h115 s15 hv16 H14 => (zq_c (zc_5 H14 ax1) (zq_c_i (zg_83 H14 ax1 ax2) fun v19 h117 s18 hv19 H17 => (zq_b (zr_64 H17 ax0) (zq_c (zc_0 H17 (by decide)) (zq_c_v (zg_3 H17 (by decide) (zx_s H 194 x1 x2) (zor_x (zand_x (zx_r hv16) (zxor_x (zshl_x (zx_r hv19) (zx_r hv13)) zc32_m1)) (zshl_x ax3 (zx_r hv13)))) fun _ h120 s21 _ H20 => (zq_v H20))))))))))) (zq_sw (zx_r hv3) zcn_119 (zq_b (zr_64 H1 ax0) (zq_c (zc_0 H1 (by decide)) (zq_c_v (zg_3 H1 (by decide) (zx_s H 194 x1 x2) (zand_x ax3 zc16_255)) fun _ h122 s7 _ H6 => (zq_b (zr_64 H6 ax0) (zq_c (zc_0 H6 (by decide)) (zq_g fun g8 => (zq_c_v (zg_3 H6 (by decide) (zadd_x (zx_s H 194 x1 x2) zc32_1 g8) (zshr_x ax3 zc8_8)) fun _ h124 s10 _ H9 => (zq_v H9)))))))) (zq_b (zr_64 H1 ax0) (zq_c (zc_0 H1 (by decide)) (zq_c_v (zg_3 H1 (by decide) (zx_s H 194 x1 x2) ax3) fun _ h107 s5 _ H4 => (zq_v H4))))))))))))
theorem zg_29 {A : Nat} {h : xrH} {s : zS} {x0 : Nat} {Xx1 : Int32} {x1 : Int} {Xx2 : Int32} {x2 : Int} {Xx3 : Int32} {x3 : Int} {Xx4 : Int32} {x4 : Int} (H : zH A h s) (ax0 : x0 < 2) (ax1 : zx Xx1 x1) (ax2 : zx Xx2 x2) (ax3 : zx Xx3 x3) (ax4 : zx Xx4 x4) : zq 1 A (xf_29 (za_3 x0) Xx1 Xx2 Xx3 Xx4 h) (zf_29 x0 x1 x2 x3 x4 s) := by
  unfold xf_29 zf_29
  exact (zq_c (zc_3 H ax0) (zq_c_i (zg_27 H ax0 ax1) fun v3 h101 s2 hv3 H1 => (zq_eq (zx_r hv3) zcn_0 (zq_v H1) (zq_b (zr_193 H1 ax0) (zq_W (fun hl => zwp_193 H1 ax0 ax1 ax2 hl) fun h104 s5 H4 => (zq_b (zr_195 H4 ax0) (zq_W (fun hl => zwp_195 H4 ax0 ax1 ax3 hl) fun h106 s7 H6 => (zq_b (zr_196 H6 ax0) (zq_W (fun hl => zwp_196 H6 ax0 ax1 ax4 hl) fun h108 s9 H8 => (zq_v H8))))))))))
theorem zg_57 {A : Nat} {h : xrH} {s : zS} {x0 : Nat} {Xx1 : Int32} {x1 : Int} {Xx2 : Int32} {x2 : Int} (H : zH A h s) (ax0 : x0 < 2) (ax1 : zx Xx1 x1) (ax2 : zx Xx2 x2) : zq 0 A (xf_57 (za_5 x0) Xx1 Xx2 h) (zf_57 x0 x1 x2 s) := by
  unfold xf_57 zf_57
  exact (zq_P (zpi_325 H ax0 ax1) fun h101 s2 H1 => (zq_P (zpi_326 H1 ax0 ax2) fun h102 s4 H3 => (zq_z H3 zc32_0)))
theorem zg_28 {A : Nat} {h : xrH} {s : zS} {x0 : Nat} {Xx1 : Int32} {x1 : Int} {Xx2 : Int32} {x2 : Int} {Xx3 : Int32} {x3 : Int} {Xx4 : Int32} {x4 : Int} (H : zH A h s) (ax0 : x0 < 2) (ax1 : zx Xx1 x1) (ax2 : zx Xx2 x2) (ax3 : zx Xx3 x3) (ax4 : zx Xx4 x4) : zq 0 A (xf_28 (za_3 x0) Xx1 Xx2 Xx3 Xx4 h) (zf_28 x0 x1 x2 x3 x4 s) := by
  unfold xf_28 zf_28
  exact (zq_b (zi_199 H ax0) (zq_lt (zx_s H 199 x0 0) zc16_200 (zq_b (zr_192 H ax0) (zq_b (zi_199 H ax0) (zq_W (fun hl => zwp_192 H ax0 (zx_s H 199 x0 0) ax1 hl) fun h104 s2 H1 => (zq_b (zr_198 H1 ax0) (zq_b (zi_199 H1 ax0) (zq_W (fun hl => zwp_198 H1 ax0 (zx_s H1 199 x0 0) ax2 hl) fun h107 s4 H3 => (zq_b (zr_194 H3 ax0) (zq_b (zi_199 H3 ax0) (zq_W (fun hl => zwp_194 H3 ax0 (zx_s H3 199 x0 0) ax3 hl) fun h110 s6 H5 => (zq_b (zr_197 H5 ax0) (zq_b (zi_199 H5 ax0) (zq_W (fun hl => zwp_197 H5 ax0 (zx_s H5 199 x0 0) ax4 hl) fun h113 s8 H7 => (zq_b (zi_199 H7 ax0) (zq_g fun g11 => (zq_P (zpi_199 H7 ax0 (zadd_x (zx_s H7 199 x0 0) zc32_1 g11)) fun h115 s10 H9 => (zq_b (zi_199 H9 ax0) (zq_g fun g12 => (zq_i H9 (zsub_x (zx_s H9 199 x0 0) zc32_1 g12))))))))))))))))))) (zq_i H zc32_m1)))
theorem zg_58 {A : Nat} {h : xrH} {s : zS} {x0 : Nat} {Xx1 : Int32} {x1 : Int} {Xx2 : Int32} {x2 : Int} {Xx3 : Int32} {x3 : Int} (H : zH A h s) (ax0 : x0 < 2) (ax1 : zx Xx1 x1) (ax2 : zx Xx2 x2) (ax3 : zx Xx3 x3) : zq 0 A (xf_58 (za_5 x0) Xx1 Xx2 Xx3 h) (zf_58 x0 x1 x2 x3 s) := by
  unfold xf_58 zf_58
  exact (zq_b (zi_324 H ax0) (zq_lt (zx_s H 324 x0 0) zc16_200 (zq_b (zi_324 H ax0) (zq_g fun g3 => (zq_P (zpi_324 H ax0 (zadd_x (zx_s H 324 x0 0) zc32_1 g3)) fun h103 s2 H1 => (zq_b (zr_320 H1 ax0) (zq_b (zi_323 H1 ax0) (zq_c (zc_3 H1 ax0) (zq_c_i (zg_28 H1 ax0 ax1 ax2 (zx_s H1 323 x0 0) ax3) fun v6 h106 s5 hv6 H4 => (zq_i H4 (zx_r hv6))))))))) (zq_P (zpi_325 H ax0 zc32_5) fun h108 s8 H7 => (zq_b (zi_323 H7 ax0) (zq_P (zpi_326 H7 ax0 (zx_s H7 323 x0 0)) fun h110 s10 H9 => (zq_i H9 zc32_m1))))))
theorem zg_62_145 {A : Nat} {h : xrH} {s : zS} {x0 : Nat} {Xx2 : Int32} {x2 : Int} {Xx3 : Int32} {x3 : Int} {Xx4 : Int32} {x4 : Int} (H : zH A h s) (ax0 : x0 < 2) (ax2 : zx Xx2 x2) (ax3 : zx Xx3 x3) (ax4 : zx Xx4 x4) : zq 0 A (xf_62_145 (za_5 x0) Xx2 Xx3 Xx4 h) (zf_62_145 x0 x2 x3 x4 s) := by
  unfold xf_62_145 zf_62_145
  exact (zq_b (zr_329 H ax0) (zq_W (fun hl => zwp_329 H ax0 ax2 ax3 hl) fun h102 s2 H1 => (zq_b (zr_330 H1 ax0) (zq_W (fun hl => zwp_330 H1 ax0 ax2 ax4 hl) fun h104 s4 H3 => (zq_z H3 zc32_1)))))
theorem zg_62_107 {A : Nat} {h : xrH} {s : zS} {x0 : Nat} {Xx1 : Int32} {x1 : Int} {Xx2 : Int32} {x2 : Int} {Xx3 : Int32} {x3 : Int} {Xx4 : Int32} {x4 : Int} (H : zH A h s) (ax0 : x0 < 2) (ax1 : zx Xx1 x1) (ax2 : zx Xx2 x2) (ax3 : zx Xx3 x3) (ax4 : zx Xx4 x4) : zq 0 A (xf_62_107 (za_5 x0) Xx1 Xx2 Xx3 Xx4 h) (zf_62_107 x0 x1 x2 x3 x4 s) := by
  unfold xf_62_107 zf_62_107
  exact (zq_b (zo_321 H ax0) (zq_O H (zo_s H 321 x0 0) fun q1 hq2 hA3 H4 => (zq_b (zr_467 H4 hq2) (zq_a (zw_467 H4 hq2) ax1 (zq_ne (zx_s H4 467 q1 x1) zc8_61 (zg_62_145 H4 ax0 ax2 ax3 ax4) (zq_b (zo_321 H4 ax0) (zq_O H4 (zo_s H4 321 x0 0) fun q5 hq6 hA7 H8 => (zq_b (zr_468 H8 hq6) (zq_a (zw_468 H8 hq6) ax1 (zq_eq ax4 (zx_s H8 468 q5 x1) (zg_62_145 H8 ax0 ax2 ax3 ax4) (zq_b (zi_323 H8 ax0) (zq_c (zc_5 H8 ax0) (zq_c_i (zg_57 H8 ax0 zc32_2 (zx_s H8 323 x0 0)) fun v11 h110 s10 hv11 H9 => (zq_z H9 (zx_r hv11)))))))))))))))
theorem zg_62 {A : Nat} {h : xrH} {s : zS} {x0 : Nat} {Xx1 : Int32} {x1 : Int} {Xx2 : Int32} {x2 : Int} (H : zH A h s) (ax0 : x0 < 2) (ax1 : zx Xx1 x1) (ax2 : zx Xx2 x2) : zq 0 A (xf_62 (za_5 x0) Xx1 Xx2 h) (zf_62 x0 x1 x2 s) := by
  unfold xf_62 zf_62
  exact (zq_b (zo_321 H ax0) (zq_O H (zo_s H 321 x0 0) fun q1 hq2 hA3 H4 => (zq_b (zr_459 H4 hq2) (zq_a (zw_459 H4 hq2) ax1 (zq_b (zd_eq (by decide)) (zq_b (zi_323 H4 ax0) (zq_B (fun h1 => zr_322 H4 ax0 h1) fun b5 hb6 => (zq_b (zi_1 H4 hb6) (zq_g fun g7 => (zq_le (zadd_x (zx_s H4 323 x0 0) (zdiv_x (zx_s H4 459 q1 x1) zc8_8) g7) (zx_s H4 1 b5 0) (zq_B (fun h1 => zr_322 H4 ax0 h1) fun b8 hb9 => (zq_b (zi_323 H4 ax0) (zq_c (zc_0 H4 hb9) (zq_c_i (zg_2 H4 hb9 (zx_s H4 323 x0 0)) fun v12 h111 s11 hv12 H10 => (zq_ne (zdiv_x (zx_s H4 459 q1 x1) zc8_8) zc32_2 (zg_62_107 H10 ax0 ax1 ax2 (zdiv_x (zx_s H4 459 q1 x1) zc8_8) (zx_r hv12)) (zq_B (fun h1 => zr_322 H10 ax0 h1) fun b13 hb14 => (zq_b (zi_323 H10 ax0) (zq_c (zc_0 H10 hb14) (zq_g fun g15 => (zq_c_i (zg_2 H10 hb14 (zadd_x (zx_s H10 323 x0 0) zc32_1 g15)) fun v18 h115 s17 hv18 H16 => (zq_b (zo_321 H16 ax0) (zq_O H16 (zo_s H16 321 x0 0) fun q19 hq20 hA21 H22 => (zq_b (zr_458 H22 hq20) (zq_a (zw_458 H22 hq20) ax1 (zq_ne (zx_s H22 458 q19 x1) zc8_87 (zg_62_107 H22 ax0 ax1 ax2 (zdiv_x (zx_s H4 459 q1 x1) zc8_8) (zor_x (zshl_x (zx_r hv18) zc8_8) (zx_r hv12))) (zg_62_107 H22 ax0 ax1 ax2 (zdiv_x (zx_s H4 459 q1 x1) zc8_8) (zor_x (zshl_x (zx_r hv12) zc8_8) (zx_r hv18)))))))))))))))))) (zq_b (zi_323 H4 ax0) (zq_c (zc_5 H4 ax0) (zq_c_i (zg_57 H4 ax0 zc32_1 (zx_s H4 323 x0 0)) fun v25 h122 s24 hv25 H23 => (zq_z H23 (zx_r hv25)))))))))))))))
theorem zg_75 {A : Nat} {h : xrH} {s : zS} {x0 : Nat} {Xx1 : Int32} {x1 : Int} {Xx2 : Int32} {x2 : Int} (H : zH A h s) (ax0 : x0 < 2) (ax1 : zx Xx1 x1) (ax2 : zx Xx2 x2) : zq 0 A (xf_75 (za_5 x0) Xx1 Xx2 h) (zf_75 x0 x1 x2 s) := by
  unfold xf_75 zf_75
  exact (zq_g fun g1 => (zq_i H (zand_x ax1 (zsub_x (zshl_x zc32_1 ax2) zc32_1 g1))))
theorem zg_63 {A : Nat} {h : xrH} {s : zS} {x0 : Nat} {Xx1 : Int32} {x1 : Int} {Xx2 : Int32} {x2 : Int} (H : zH A h s) (ax0 : x0 < 2) (ax1 : zx Xx1 x1) (ax2 : zx Xx2 x2) : zq 0 A (xf_63 (za_5 x0) Xx1 Xx2 h) (zf_63 x0 x1 x2 s) := by
  unfold xf_63 zf_63
  exact (zq_b (zi_323 H ax0) (zq_B (fun h1 => zr_322 H ax0 h1) fun b1 hb2 => (zq_b (zi_1 H hb2) (zq_lt (zx_s H 323 x0 0) (zx_s H 1 b1 0) (zq_b (zr_329 H ax0) (zq_W (fun hl => zwp_329 H ax0 ax2 zc32_1 hl) fun h105 s4 H3 => (zq_b (zr_330 H3 ax0) (zq_B (fun h1 => zr_322 H3 ax0 h1) fun b5 hb6 => (zq_b (zi_323 H3 ax0) (zq_c (zc_0 H3 hb6) (zq_c_i (zg_2 H3 hb6 (zx_s H3 323 x0 0)) fun v9 h109 s8 hv9 H7 => (zq_b (zo_321 H7 ax0) (zq_O H7 (zo_s H7 321 x0 0) fun q10 hq11 hA12 H13 => (zq_b (zr_460 H13 hq11) (zq_a (zw_460 H13 hq11) ax1 (zq_b (zo_321 H13 ax0) (zq_O H13 (zo_s H13 321 x0 0) fun q14 hq15 hA16 H17 => (zq_b (zr_459 H17 hq15) (zq_a (zw_459 H17 hq15) ax1 (zq_c (zc_5 H17 ax0) (zq_c_i (zg_75 H17 ax0 (zshr_x (zx_r hv9) (zx_s H13 460 q10 x1)) (zx_s H17 459 q14 x1)) fun v20 h119 s19 hv20 H18 => (zq_W (fun hl => zwp_330 H18 ax0 ax2 (zx_r hv20) hl) fun h121 s22 H21 => (zq_z H21 zc32_1))))))))))))))))))) (zq_b (zi_323 H ax0) (zq_c (zc_5 H ax0) (zq_c_i (zg_57 H ax0 zc32_1 (zx_s H 323 x0 0)) fun v25 h123 s24 hv25 H23 => (zq_z H23 (zx_r hv25)))))))))
theorem zg_72_111 (k13 : Nat → Int32 → Int32 → Int32 → Int32 → xrH → xrR) (zk13 : Nat → Int → Int → Int → Int → zS → zR) (hk13 : ∀ {A : Nat} {h : xrH} {s : zS} {y0 : Nat} {Xy1 : Int32} {y1 : Int} {Xy2 : Int32} {y2 : Int} {Xy3 : Int32} {y3 : Int} {Xy4 : Int32} {y4 : Int} (H : zH A h s) (ay0 : y0 < 2) (ay1 : zx Xy1 y1) (ay2 : zx Xy2 y2) (ay3 : zx Xy3 y3) (ay4 : zx Xy4 y4), zq 0 A (k13 (za_5 y0) Xy1 Xy2 Xy3 Xy4 h) (zk13 y0 y1 y2 y3 y4 s)) {A : Nat} {h : xrH} {s : zS} {x0 : Nat} {Xx1 : Int32} {x1 : Int} {Xx2 : Int32} {x2 : Int} {Xx4 : Int32} {x4 : Int} {Xs0 s0 : Int64} (H : zH A h s) (ax0 : x0 < 2) (ax1 : zx Xx1 x1) (ax2 : zx Xx2 x2) (ax4 : zx Xx4 x4) (as0 : Xs0 = s0) : zq 0 A (xf_72_111 k13 (za_5 x0) Xx1 Xx2 Xx4 Xs0 h) (zf_72_111 zk13 x0 x1 x2 x4 s0 s) := by
  unfold xf_72_111 zf_72_111
  exact (zq_cl xf_25_eq (zq_cl xf_23_eq (zq_g fun g1 => (hk13 H ax0 ax1 ax2 (zx_l2i (zmax64_y rfl (zmin64_y rfl as0))) (zadd_x ax4 zc32_1 g1)))))
theorem zg_72_62 (k13 : Nat → Int32 → Int32 → Int32 → Int32 → xrH → xrR) (zk13 : Nat → Int → Int → Int → Int → zS → zR) (hk13 : ∀ {A : Nat} {h : xrH} {s : zS} {y0 : Nat} {Xy1 : Int32} {y1 : Int} {Xy2 : Int32} {y2 : Int} {Xy3 : Int32} {y3 : Int} {Xy4 : Int32} {y4 : Int} (H : zH A h s) (ay0 : y0 < 2) (ay1 : zx Xy1 y1) (ay2 : zx Xy2 y2) (ay3 : zx Xy3 y3) (ay4 : zx Xy4 y4), zq 0 A (k13 (za_5 y0) Xy1 Xy2 Xy3 Xy4 h) (zk13 y0 y1 y2 y3 y4 s)) {A : Nat} {h : xrH} {s : zS} {x0 : Nat} {Xx1 : Int32} {x1 : Int} {Xx2 : Int32} {x2 : Int} {Xx3 : Int32} {x3 : Int} {Xx4 : Int32} {x4 : Int} {Xs0 s0 : Int64} (H : zH A h s) (ax0 : x0 < 2) (ax1 : zx Xx1 x1) (ax2 : zx Xx2 x2) (ax3 : zx Xx3 x3) (ax4 : zx Xx4 x4) (as0 : Xs0 = s0) : zq 0 A (xf_72_62 k13 (za_5 x0) Xx1 Xx2 Xx3 Xx4 Xs0 h) (zf_72_62 zk13 x0 x1 x2 x3 x4 s0 s) := by
  unfold xf_72_62 zf_72_62
  exact (zq_b (zo_321 H ax0) (zq_O H (zo_s H 321 x0 0) fun q1 hq2 hA3 H4 => (zq_b (zr_455 H4 hq2) (zq_a (zw_455 H4 hq2) ax4 (zq_ne (zx_s H4 455 q1 x4) zc8_43 (zq_ne (zx_s H4 455 q1 x4) zc8_45 (zg_72_111 k13 zk13 hk13 H4 ax0 ax1 ax2 ax4 (ly_mul (ly_i ax3) as0)) (zg_72_111 k13 zk13 hk13 H4 ax0 ax1 ax2 ax4 (ly_sub (ly_i ax3) as0))) (zg_72_111 k13 zk13 hk13 H4 ax0 ax1 ax2 ax4 (ly_add (ly_i ax3) as0)))))))
theorem zg_72_13 : ∀ (n : Nat) {A : Nat} {h : xrH} {s : zS} {x0 : Nat} {Xx1 : Int32} {x1 : Int} {Xx2 : Int32} {x2 : Int} {Xx3 : Int32} {x3 : Int} {Xx4 : Int32} {x4 : Int} (H : zH A h s) (ax0 : x0 < 2) (ax1 : zx Xx1 x1) (ax2 : zx Xx2 x2) (ax3 : zx Xx3 x3) (ax4 : zx Xx4 x4), zq 0 A (xf_72_13 n (za_5 x0) Xx1 Xx2 Xx3 Xx4 h) (zf_72_13 n x0 x1 x2 x3 x4 s) := by
  intro n
  induction n with
  | zero =>
    intros
    exact zq_none
  | succ n ih =>
    intro A h s x0 Xx1 x1 Xx2 x2 Xx3 x3 Xx4 x4 H ax0 ax1 ax2 ax3 ax4
    rw [xf_72_13, zf_72_13]
    exact (zq_b (zo_321 H ax0) (zq_O H (zo_s H 321 x0 0) fun q1 hq2 hA3 H4 => (zq_b (zr_462 H4 hq2) (zq_a (zw_462 H4 hq2) ax1 (zq_ge ax4 (zx_s H4 462 q1 x1) (zq_i H4 ax3) (zq_b (zo_321 H4 ax0) (zq_O H4 (zo_s H4 321 x0 0) fun q5 hq6 hA7 H8 => (zq_b (zr_454 H8 hq6) (zq_a (zw_454 H8 hq6) ax4 (zq_lt (zx_s H8 454 q5 x4) zcn_0 (zq_b (zr_330 H8 ax0) (zq_g fun g9 => (zq_g fun g10 => (zq_a (zw_330 H8 ax0) (zsub_x (zsub_x ax2 zc32_1 g9) (zx_s H8 454 q5 x4) g10) (zg_72_62 (fun y0 y1 y2 y3 y4 y => (xf_72_13 n y0 y1 y2 y3 y4 y)) (fun y0 y1 y2 y3 y4 y => (zf_72_13 n y0 y1 y2 y3 y4 y)) (fun H ay0 ay1 ay2 ay3 ay4 => (ih H ay0 ay1 ay2 ay3 ay4)) H8 ax0 ax1 ax2 ax3 ax4 (ly_i (zx_s H8 330 x0 ((x2 - 1) - (s.1 454 q5 x4))))))))) (zg_72_62 (fun y0 y1 y2 y3 y4 y => (xf_72_13 n y0 y1 y2 y3 y4 y)) (fun y0 y1 y2 y3 y4 y => (zf_72_13 n y0 y1 y2 y3 y4 y)) (fun H ay0 ay1 ay2 ay3 ay4 => (ih H ay0 ay1 ay2 ay3 ay4)) H8 ax0 ax1 ax2 ax3 ax4 (ly_i (zx_s H8 454 q5 x4)))))))))))))
theorem zg_72 {A : Nat} {h : xrH} {s : zS} {x0 : Nat} {Xx1 : Int32} {x1 : Int} {Xx2 : Int32} {x2 : Int} (H : zH A h s) (ax0 : x0 < 2) (ax1 : zx Xx1 x1) (ax2 : zx Xx2 x2) : zq 0 A (xf_72 (za_5 x0) Xx1 Xx2 h) (zf_72 x0 x1 x2 s) := by
  unfold xf_72 zf_72
  exact (zq_b (zo_321 H ax0) (zq_O H (zo_s H 321 x0 0) fun q1 hq2 hA3 H4 => (zq_b (zr_461 H4 hq2) (zq_a (zw_461 H4 hq2) ax1 (zg_72_13 xfu H4 ax0 ax1 ax2 zc32_0 (zx_s H4 461 q1 x1))))))
theorem zg_64_22 {A : Nat} {h : xrH} {s : zS} {x0 : Nat} (H : zH A h s) (ax0 : x0 < 2) : zq 0 A (xf_64_22 (za_5 x0) h) (zf_64_22 x0 s) := by
  unfold xf_64_22 zf_64_22
  exact (zq_b (zi_323 H ax0) (zq_c (zc_5 H ax0) (zq_c_i (zg_57 H ax0 zc32_3 (zx_s H 323 x0 0)) fun v3 h102 s2 hv3 H1 => (zq_z H1 (zx_r hv3)))))
theorem zg_64_62 {A : Nat} {h : xrH} {s : zS} {x0 : Nat} {Xx2 : Int32} {x2 : Int} {Xx3 : Int32} {x3 : Int} (H : zH A h s) (ax0 : x0 < 2) (ax2 : zx Xx2 x2) (ax3 : zx Xx3 x3) : zq 0 A (xf_64_62 (za_5 x0) Xx2 Xx3 h) (zf_64_62 x0 x2 x3 s) := by
  unfold xf_64_62 zf_64_62
  exact (zq_b (zr_329 H ax0) (zq_W (fun hl => zwp_329 H ax0 ax2 ax3 hl) fun h102 s2 H1 => (zq_b (zr_330 H1 ax0) (zq_ne ax3 zcn_0 (zq_B (fun h1 => zr_322 H1 ax0 h1) fun b3 hb4 => (zq_b (zi_323 H1 ax0) (zq_c (zc_0 H1 hb4) (zq_c_i (zg_2 H1 hb4 (zx_s H1 323 x0 0)) fun v7 h106 s6 hv7 H5 => (zq_W (fun hl => zwp_330 H5 ax0 ax2 (zx_r hv7) hl) fun h108 s9 H8 => (zq_z H8 zc32_1)))))) (zq_W (fun hl => zwp_330 H1 ax0 ax2 zc32_m1 hl) fun h109 s11 H10 => (zq_z H10 zc32_1))))))
theorem zg_64 {A : Nat} {h : xrH} {s : zS} {x0 : Nat} {Xx1 : Int32} {x1 : Int} {Xx2 : Int32} {x2 : Int} (H : zH A h s) (ax0 : x0 < 2) (ax1 : zx Xx1 x1) (ax2 : zx Xx2 x2) : zq 0 A (xf_64 (za_5 x0) Xx1 Xx2 h) (zf_64 x0 x1 x2 s) := by
  unfold xf_64 zf_64
  exact (zq_b (zd_eq (by decide)) (zq_c (zc_5 H ax0) (zq_g fun g1 => (zq_c_i (zg_72 H ax0 ax1 (zsub_x ax2 (zrem_x ax2 zc8_8) g1)) fun v4 h102 s3 hv4 H2 => (zq_lt (zx_r hv4) zcn_0 (zg_64_22 H2 ax0) (zq_le (zx_r hv4) zc8_100 (zq_le (zx_r hv4) zcn_0 (zg_64_62 H2 ax0 ax2 (zx_r hv4)) (zq_b (zi_323 H2 ax0) (zq_B (fun h1 => zr_322 H2 ax0 h1) fun b5 hb6 => (zq_b (zi_1 H2 hb6) (zq_g fun g7 => (zq_le (zadd_x (zx_s H2 323 x0 0) (zx_r hv4) g7) (zx_s H2 1 b5 0) (zg_64_62 H2 ax0 ax2 (zx_r hv4)) (zq_b (zi_323 H2 ax0) (zq_c (zc_5 H2 ax0) (zq_c_i (zg_57 H2 ax0 zc32_1 (zx_s H2 323 x0 0)) fun v10 h108 s9 hv10 H8 => (zq_z H8 (zx_r hv10))))))))))) (zg_64_22 H2 ax0)))))))
theorem zg_65_5 : ∀ (n : Nat) {A : Nat} {h : xrH} {s : zS} {x0 : Nat} {Xx1 : Int32} {x1 : Int} {Xx2 : Int32} {x2 : Int} (H : zH A h s) (ax0 : x0 < 2) (ax1 : zx Xx1 x1) (ax2 : zx Xx2 x2), zq 0 A (xf_65_5 n (za_5 x0) Xx1 Xx2 h) (zf_65_5 n x0 x1 x2 s) := by
  intro n
  induction n with
  | zero =>
    intros
    exact zq_none
  | succ n ih =>
    intro A h s x0 Xx1 x1 Xx2 x2 H ax0 ax1 ax2
    rw [xf_65_5, zf_65_5]
    exact (zq_B (fun h1 => zr_322 H ax0 h1) fun b1 hb2 => (zq_b (zi_1 H hb2) (zq_ge ax2 (zx_s H 1 b1 0) (zq_b (zi_323 H ax0) (zq_c (zc_5 H ax0) (zq_c_i (zg_57 H ax0 zc32_1 (zx_s H 323 x0 0)) fun v5 h104 s4 hv5 H3 => (zq_z H3 (zx_r hv5))))) (zq_B (fun h1 => zr_322 H ax0 h1) fun b6 hb7 => (zq_c (zc_0 H hb7) (zq_c_i (zg_2 H hb7 ax2) fun v10 h107 s9 hv10 H8 => (zq_ne (zx_r hv10) zcn_0 (zq_g fun g11 => (ih H8 ax0 ax1 (zadd_x ax2 zc32_1 g11))) (zq_b (zr_329 H8 ax0) (zq_b (zi_323 H8 ax0) (zq_g fun g12 => (zq_g fun g13 => (zq_W (fun hl => zwp_329 H8 ax0 ax1 (zsub_x (zadd_x ax2 zc32_1 g12) (zx_s H8 323 x0 0) g13) hl) fun h111 s15 H14 => (zq_b (zr_330 H14 ax0) (zq_B (fun h1 => zr_322 H14 ax0 h1) fun b16 hb17 => (zq_b (zi_323 H14 ax0) (zq_c (zc_0 H14 hb17) (zq_c_i (zg_2 H14 hb17 (zx_s H14 323 x0 0)) fun v20 h115 s19 hv20 H18 => (zq_W (fun hl => zwp_330 H18 ax0 ax1 (zx_r hv20) hl) fun h117 s22 H21 => (zq_z H21 zc32_1)))))))))))))))))))
theorem zg_65 {A : Nat} {h : xrH} {s : zS} {x0 : Nat} {Xx1 : Int32} {x1 : Int} (H : zH A h s) (ax0 : x0 < 2) (ax1 : zx Xx1 x1) : zq 0 A (xf_65 (za_5 x0) Xx1 h) (zf_65 x0 x1 s) := by
  unfold xf_65 zf_65
  exact (zq_b (zi_323 H ax0) (zg_65_5 xfu H ax0 ax1 (zx_s H 323 x0 0)))
theorem zg_100 {A : Nat} {h : xrH} {s : zS} {x0 : Nat} {Xx1 : Int32} {x1 : Int} (H : zH A h s) (ax0 : x0 < A) (ax1 : zx Xx1 x1) : zq 0 A (xf_100 (za_7 x0) Xx1 h) (zf_100 x0 x1 s) := by
  unfold xf_100 zf_100
  exact (zq_b (zr_458 H ax0) (zq_a (zw_458 H ax0) ax1 (zq_sw (zx_s H 458 x0 x1) zcn_110 (zq_i H zc32_4) (zq_sw (zx_s H 458 x0 x1) zcn_114 (zq_i H zc32_3) (zq_sw (zx_s H 458 x0 x1) zcn_115 (zq_i H zc32_5) (zq_sw (zx_s H 458 x0 x1) zcn_122 (zq_i H zc32_5) (zq_i H zc32_2)))))))
theorem zg_61_112 {A : Nat} {h : xrH} {s : zS} {x0 : Nat} {Xx1 : Int32} {x1 : Int} {Xx3 : Int32} {x3 : Int} {Xx4 : Int32} {x4 : Int} {Xx5 : Int32} {x5 : Int} {Xx6 : Int32} {x6 : Int} (H : zH A h s) (ax0 : x0 < 2) (ax1 : zx Xx1 x1) (ax3 : zx Xx3 x3) (ax4 : zx Xx4 x4) (ax5 : zx Xx5 x5) (ax6 : zx Xx6 x6) : zq 0 A (xf_61_112 (za_5 x0) Xx1 Xx3 Xx4 Xx5 Xx6 h) (zf_61_112 x0 x1 x3 x4 x5 x6 s) := by
  unfold xf_61_112 zf_61_112
  exact (zq_ne ax6 zcn_0 (zq_b (zr_320 H ax0) (zq_b (zo_321 H ax0) (zq_O H (zo_s H 321 x0 0) fun q1 hq2 hA3 H4 => (zq_b (zr_457 H4 hq2) (zq_a (zw_457 H4 hq2) ax1 (zq_b (zr_329 H4 ax0) (zq_a (zw_329 H4 ax0) ax3 (zq_b (zr_330 H4 ax0) (zq_a (zw_330 H4 ax0) ax3 (zq_c (zc_3 H4 ax0) (zq_c_v (zg_29 H4 ax0 ax5 (zx_s H4 457 q1 x1) (zx_s H4 329 x0 x3) (zx_s H4 330 x0 x3)) fun _ h110 s6 _ H5 => (zq_b (zi_323 H5 ax0) (zq_ne ax4 zc32_4 (zq_b (zr_329 H5 ax0) (zq_a (zw_329 H5 ax0) ax3 (zq_g fun g9 => (zq_P (zpi_323 H5 ax0 (zadd_x (zx_s H5 323 x0 0) (zx_s H5 329 x0 x3) g9)) fun h114 s8 H7 => (zq_z H7 zc32_1))))) (zq_b (zo_321 H5 ax0) (zq_O H5 (zo_s H5 321 x0 0) fun q10 hq11 hA12 H13 => (zq_b (zr_460 H13 hq11) (zq_a (zw_460 H13 hq11) ax1 (zq_eq (zx_s H13 460 q10 x1) zcn_0 (zq_b (zr_329 H13 ax0) (zq_a (zw_329 H13 ax0) ax3 (zq_g fun g16 => (zq_P (zpi_323 H13 ax0 (zadd_x (zx_s H5 323 x0 0) (zx_s H13 329 x0 x3) g16)) fun h121 s15 H14 => (zq_z H14 zc32_1))))) (zq_g fun g19 => (zq_P (zpi_323 H13 ax0 (zadd_x (zx_s H5 323 x0 0) zc32_0 g19)) fun h122 s18 H17 => (zq_z H17 zc32_1))))))))))))))))))))) (zq_z H zc32_0))
theorem zg_61 {A : Nat} {h : xrH} {s : zS} {x0 : Nat} {Xx1 : Int32} {x1 : Int} {Xx2 : Int32} {x2 : Int} {Xx3 : Int32} {x3 : Int} (H : zH A h s) (ax0 : x0 < 2) (ax1 : zx Xx1 x1) (ax2 : zx Xx2 x2) (ax3 : zx Xx3 x3) : zq 0 A (xf_61 (za_5 x0) Xx1 Xx2 Xx3 h) (zf_61 x0 x1 x2 x3 s) := by
  unfold xf_61 zf_61
  exact (zq_b (zo_321 H ax0) (zq_O H (zo_s H 321 x0 0) fun q1 hq2 hA3 H4 => (zq_c (zc_7 H4 hq2) (zq_c_i (zg_100 H4 hq2 ax1) fun v7 h103 s6 hv7 H5 => (zq_c (zc_5 H5 ax0) (zq_c_i (zg_58 H5 ax0 (zx_r hv7) ax1 ax2) fun v10 h105 s9 hv10 H8 => (zq_ne (zx_r hv10) zc32_m1 (zq_b (zo_321 H8 ax0) (zq_O H8 (zo_s H8 321 x0 0) fun q11 hq12 hA13 H14 => (zq_b (zr_458 H14 hq12) (zq_a (zw_458 H14 hq12) ax1 (zq_sw (zx_s H14 458 q11 x1) zcn_110 (zq_c (zc_5 H14 ax0) (zq_c_i (zg_63 H14 ax0 ax1 ax3) fun v26 h113 s25 hv26 H24 => (zg_61_112 H24 ax0 ax1 ax3 (zx_r hv7) (zx_r hv10) (zx_r hv26)))) (zq_sw (zx_s H14 458 q11 x1) zcn_115 (zq_c (zc_5 H14 ax0) (zq_c_i (zg_64 H14 ax0 ax1 ax3) fun v23 h115 s22 hv23 H21 => (zg_61_112 H21 ax0 ax1 ax3 (zx_r hv7) (zx_r hv10) (zx_r hv23)))) (zq_sw (zx_s H14 458 q11 x1) zcn_122 (zq_c (zc_5 H14 ax0) (zq_c_i (zg_65 H14 ax0 ax3) fun v20 h117 s19 hv20 H18 => (zg_61_112 H18 ax0 ax1 ax3 (zx_r hv7) (zx_r hv10) (zx_r hv20)))) (zq_c (zc_5 H14 ax0) (zq_c_i (zg_62 H14 ax0 ax1 ax3) fun v17 h111 s16 hv17 H15 => (zg_61_112 H15 ax0 ax1 ax3 (zx_r hv7) (zx_r hv10) (zx_r hv17))))))))))) (zq_z H8 zc32_0))))))))
theorem zg_67 {A : Nat} {h : xrH} {s : zS} {x0 : Nat} {Xx1 : Int32} {x1 : Int} {Xx2 : Int32} {x2 : Int} {Xx3 : Int32} {x3 : Int} (H : zH A h s) (ax0 : x0 < 2) (ax1 : zx Xx1 x1) (ax2 : zx Xx2 x2) (ax3 : zx Xx3 x3) : zq 1 A (xf_67 (za_5 x0) Xx1 Xx2 Xx3 h) (zf_67 x0 x1 x2 x3 s) := by
  unfold xf_67 zf_67
  exact (zq_P (zpi_323 H ax0 ax1) fun h101 s2 H1 => (zq_b (zr_320 H1 ax0) (zq_P (zpi_199 H1 ax0 ax2) fun h103 s4 H3 => (zq_P (zpi_327 H3 ax0 ax3) fun h104 s6 H5 => (zq_v H5)))))
theorem zg_66_32 (rs : Nat → Int32 → Int32 → Int32 → Int32 → xrH → xrR) (zrs : Nat → Int → Int → Int → Int → zS → zR) (hrs : ∀ {A : Nat} {h : xrH} {s : zS} {y0 : Nat} {Xy1 : Int32} {y1 : Int} {Xy2 : Int32} {y2 : Int} {Xy3 : Int32} {y3 : Int} {Xy4 : Int32} {y4 : Int} (H : zH A h s) (ay0 : y0 < 2) (ay1 : zx Xy1 y1) (ay2 : zx Xy2 y2) (ay3 : zx Xy3 y3) (ay4 : zx Xy4 y4), zq 0 A (rs (za_5 y0) Xy1 Xy2 Xy3 Xy4 h) (zrs y0 y1 y2 y3 y4 s)) : ∀ (n : Nat) {A : Nat} {h : xrH} {s : zS} {x0 : Nat} {Xx1 : Int32} {x1 : Int} {Xx2 : Int32} {x2 : Int} {Xx3 : Int32} {x3 : Int} {Xx4 : Int32} {x4 : Int} {Xx5 : Int32} {x5 : Int} {Xx6 : Int32} {x6 : Int} {Xx7 : Int32} {x7 : Int} {Xx8 : Int32} {x8 : Int} (H : zH A h s) (ax0 : x0 < 2) (ax1 : zx Xx1 x1) (ax2 : zx Xx2 x2) (ax3 : zx Xx3 x3) (ax4 : zx Xx4 x4) (ax5 : zx Xx5 x5) (ax6 : zx Xx6 x6) (ax7 : zx Xx7 x7) (ax8 : zx Xx8 x8), zq 0 A (xf_66_32 rs n (za_5 x0) Xx1 Xx2 Xx3 Xx4 Xx5 Xx6 Xx7 Xx8 h) (zf_66_32 zrs n x0 x1 x2 x3 x4 x5 x6 x7 x8 s) := by
  intro n
  induction n with
  | zero =>
    intros
    exact zq_none
  | succ n ih =>
    intro A h s x0 Xx1 x1 Xx2 x2 Xx3 x3 Xx4 x4 Xx5 x5 Xx6 x6 Xx7 x7 Xx8 x8 H ax0 ax1 ax2 ax3 ax4 ax5 ax6 ax7 ax8
    rw [xf_66_32, zf_66_32]
    exact (zq_b (zo_321 H ax0) (zq_O H (zo_s H 321 x0 0) fun q1 hq2 hA3 H4 => (zq_b (zr_464 H4 hq2) (zq_a (zw_464 H4 hq2) ax1 (zq_ge ax8 (zx_s H4 464 q1 x1) (zq_z H4 zc32_0) (zq_c (zc_5 H4 ax0) (zq_c_v (zg_67 H4 ax0 ax5 ax6 ax7) fun _ h105 s6 _ H5 => (zq_b (zo_321 H5 ax0) (zq_O H5 (zo_s H5 321 x0 0) fun q7 hq8 hA9 H10 => (zq_b (zr_456 H10 hq8) (zq_a (zw_456 H10 hq8) ax8 (zq_c (zc_5 H10 ax0) (zq_c_i (hrs H10 ax0 (zx_s H10 456 q7 x8) ax2 ax3 ax4) fun v13 h110 s12 hv13 H11 => (zq_eq (zx_r hv13) zcn_0 (zq_b (zi_325 H11 ax0) (zq_ne (zx_s H11 325 x0 0) zc32_5 (zq_g fun g14 => (ih H11 ax0 ax1 ax2 ax3 ax4 ax5 ax6 ax7 (zadd_x ax8 zc32_1 g14))) (zq_z H11 zc32_0))) (zq_z H11 zc32_1)))))))))))))))
theorem zg_66 (rs : Nat → Int32 → Int32 → Int32 → Int32 → xrH → xrR) (zrs : Nat → Int → Int → Int → Int → zS → zR) (hrs : ∀ {A : Nat} {h : xrH} {s : zS} {y0 : Nat} {Xy1 : Int32} {y1 : Int} {Xy2 : Int32} {y2 : Int} {Xy3 : Int32} {y3 : Int} {Xy4 : Int32} {y4 : Int} (H : zH A h s) (ay0 : y0 < 2) (ay1 : zx Xy1 y1) (ay2 : zx Xy2 y2) (ay3 : zx Xy3 y3) (ay4 : zx Xy4 y4), zq 0 A (rs (za_5 y0) Xy1 Xy2 Xy3 Xy4 h) (zrs y0 y1 y2 y3 y4 s)) {A : Nat} {h : xrH} {s : zS} {x0 : Nat} {Xx1 : Int32} {x1 : Int} {Xx2 : Int32} {x2 : Int} {Xx3 : Int32} {x3 : Int} {Xx4 : Int32} {x4 : Int} (H : zH A h s) (ax0 : x0 < 2) (ax1 : zx Xx1 x1) (ax2 : zx Xx2 x2) (ax3 : zx Xx3 x3) (ax4 : zx Xx4 x4) : zq 0 A (xf_66 rs (za_5 x0) Xx1 Xx2 Xx3 Xx4 h) (zf_66 zrs x0 x1 x2 x3 x4 s) := by
  unfold xf_66 zf_66
  exact (zq_b (zi_323 H ax0) (zq_b (zr_320 H ax0) (zq_b (zi_199 H ax0) (zq_b (zi_327 H ax0) (zq_b (zo_321 H ax0) (zq_O H (zo_s H 321 x0 0) fun q1 hq2 hA3 H4 => (zq_b (zr_463 H4 hq2) (zq_a (zw_463 H4 hq2) ax1 (zg_66_32 rs zrs hrs xfu H4 ax0 ax1 ax2 ax3 ax4 (zx_s H 323 x0 0) (zx_s H 199 x0 0) (zx_s H 327 x0 0) (zx_s H4 463 q1 x1))))))))))
theorem zg_69_3 (rs : Nat → Int32 → Int32 → Int32 → Int32 → xrH → xrR) (zrs : Nat → Int → Int → Int → Int → zS → zR) (hrs : ∀ {A : Nat} {h : xrH} {s : zS} {y0 : Nat} {Xy1 : Int32} {y1 : Int} {Xy2 : Int32} {y2 : Int} {Xy3 : Int32} {y3 : Int} {Xy4 : Int32} {y4 : Int} (H : zH A h s) (ay0 : y0 < 2) (ay1 : zx Xy1 y1) (ay2 : zx Xy2 y2) (ay3 : zx Xy3 y3) (ay4 : zx Xy4 y4), zq 0 A (rs (za_5 y0) Xy1 Xy2 Xy3 Xy4 h) (zrs y0 y1 y2 y3 y4 s)) : ∀ (n : Nat) {A : Nat} {h : xrH} {s : zS} {x0 : Nat} {Xx1 : Int32} {x1 : Int} {Xx2 : Int32} {x2 : Int} {Xx3 : Int32} {x3 : Int} {Xx4 : Int32} {x4 : Int} {Xx5 : Int32} {x5 : Int} (H : zH A h s) (ax0 : x0 < 2) (ax1 : zx Xx1 x1) (ax2 : zx Xx2 x2) (ax3 : zx Xx3 x3) (ax4 : zx Xx4 x4) (ax5 : zx Xx5 x5), zq 0 A (xf_69_3 rs n (za_5 x0) Xx1 Xx2 Xx3 Xx4 Xx5 h) (zf_69_3 zrs n x0 x1 x2 x3 x4 x5 s) := by
  intro n
  induction n with
  | zero =>
    intros
    exact zq_none
  | succ n ih =>
    intro A h s x0 Xx1 x1 Xx2 x2 Xx3 x3 Xx4 x4 Xx5 x5 H ax0 ax1 ax2 ax3 ax4 ax5
    rw [xf_69_3, zf_69_3]
    exact (zq_ge ax5 ax4 (zq_z H zc32_1) (zq_c (zc_5 H ax0) (zq_g fun g1 => (zq_c_i (zg_66 rs zrs hrs H ax0 ax1 zc32_m1 ax2 (zadd_x ax3 zc32_1 g1)) fun v4 h101 s3 hv4 H2 => (zq_ne (zx_r hv4) zcn_0 (zq_g fun g5 => (ih H2 ax0 ax1 ax2 ax3 ax4 (zadd_x ax5 zc32_1 g5))) (zq_z H2 zc32_0))))))
theorem zg_69 (rs : Nat → Int32 → Int32 → Int32 → Int32 → xrH → xrR) (zrs : Nat → Int → Int → Int → Int → zS → zR) (hrs : ∀ {A : Nat} {h : xrH} {s : zS} {y0 : Nat} {Xy1 : Int32} {y1 : Int} {Xy2 : Int32} {y2 : Int} {Xy3 : Int32} {y3 : Int} {Xy4 : Int32} {y4 : Int} (H : zH A h s) (ay0 : y0 < 2) (ay1 : zx Xy1 y1) (ay2 : zx Xy2 y2) (ay3 : zx Xy3 y3) (ay4 : zx Xy4 y4), zq 0 A (rs (za_5 y0) Xy1 Xy2 Xy3 Xy4 h) (zrs y0 y1 y2 y3 y4 s)) {A : Nat} {h : xrH} {s : zS} {x0 : Nat} {Xx1 : Int32} {x1 : Int} {Xx2 : Int32} {x2 : Int} {Xx3 : Int32} {x3 : Int} {Xx4 : Int32} {x4 : Int} (H : zH A h s) (ax0 : x0 < 2) (ax1 : zx Xx1 x1) (ax2 : zx Xx2 x2) (ax3 : zx Xx3 x3) (ax4 : zx Xx4 x4) : zq 0 A (xf_69 rs (za_5 x0) Xx1 Xx2 Xx3 Xx4 h) (zf_69 zrs x0 x1 x2 x3 x4 s) := by
  unfold xf_69 zf_69
  exact (zg_69_3 rs zrs hrs xfu H ax0 ax1 ax2 ax3 ax4 zc32_0)
theorem zg_70_73 (rs : Nat → Int32 → Int32 → Int32 → Int32 → xrH → xrR) (zrs : Nat → Int → Int → Int → Int → zS → zR) (hrs : ∀ {A : Nat} {h : xrH} {s : zS} {y0 : Nat} {Xy1 : Int32} {y1 : Int} {Xy2 : Int32} {y2 : Int} {Xy3 : Int32} {y3 : Int} {Xy4 : Int32} {y4 : Int} (H : zH A h s) (ay0 : y0 < 2) (ay1 : zx Xy1 y1) (ay2 : zx Xy2 y2) (ay3 : zx Xy3 y3) (ay4 : zx Xy4 y4), zq 0 A (rs (za_5 y0) Xy1 Xy2 Xy3 Xy4 h) (zrs y0 y1 y2 y3 y4 s)) {A : Nat} {h : xrH} {s : zS} {x0 : Nat} {Xx4 : Int32} {x4 : Int} {Xx5 : Int32} {x5 : Int} {Xx6 : Int32} {x6 : Int} {Xx7 : Int32} {x7 : Int} (H : zH A h s) (ax0 : x0 < 2) (ax4 : zx Xx4 x4) (ax5 : zx Xx5 x5) (ax6 : zx Xx6 x6) (ax7 : zx Xx7 x7) : zq 0 A (xf_70_73 rs (za_5 x0) Xx4 Xx5 Xx6 Xx7 h) (zf_70_73 zrs x0 x4 x5 x6 x7 s) := by
  unfold xf_70_73 zf_70_73
  exact (zq_c (zc_5 H ax0) (zq_c_v (zg_67 H ax0 ax5 ax6 ax7) fun _ h101 s2 _ H1 => (zq_i H1 ax4)))
theorem zg_70_59 (rs : Nat → Int32 → Int32 → Int32 → Int32 → xrH → xrR) (zrs : Nat → Int → Int → Int → Int → zS → zR) (hrs : ∀ {A : Nat} {h : xrH} {s : zS} {y0 : Nat} {Xy1 : Int32} {y1 : Int} {Xy2 : Int32} {y2 : Int} {Xy3 : Int32} {y3 : Int} {Xy4 : Int32} {y4 : Int} (H : zH A h s) (ay0 : y0 < 2) (ay1 : zx Xy1 y1) (ay2 : zx Xy2 y2) (ay3 : zx Xy3 y3) (ay4 : zx Xy4 y4), zq 0 A (rs (za_5 y0) Xy1 Xy2 Xy3 Xy4 h) (zrs y0 y1 y2 y3 y4 s)) (k3 : Nat → Int32 → Int32 → Int32 → Int32 → xrH → xrR) (zk3 : Nat → Int → Int → Int → Int → zS → zR) (hk3 : ∀ {A : Nat} {h : xrH} {s : zS} {y0 : Nat} {Xy1 : Int32} {y1 : Int} {Xy2 : Int32} {y2 : Int} {Xy3 : Int32} {y3 : Int} {Xy4 : Int32} {y4 : Int} (H : zH A h s) (ay0 : y0 < 2) (ay1 : zx Xy1 y1) (ay2 : zx Xy2 y2) (ay3 : zx Xy3 y3) (ay4 : zx Xy4 y4), zq 0 A (k3 (za_5 y0) Xy1 Xy2 Xy3 Xy4 h) (zk3 y0 y1 y2 y3 y4 s)) {A : Nat} {h : xrH} {s : zS} {x0 : Nat} {Xx1 : Int32} {x1 : Int} {Xx2 : Int32} {x2 : Int} {Xx3 : Int32} {x3 : Int} {Xx4 : Int32} {x4 : Int} {Xx5 : Int32} {x5 : Int} {Xx6 : Int32} {x6 : Int} {Xx7 : Int32} {x7 : Int} {Xx8 : Int32} {x8 : Int} (H : zH A h s) (ax0 : x0 < 2) (ax1 : zx Xx1 x1) (ax2 : zx Xx2 x2) (ax3 : zx Xx3 x3) (ax4 : zx Xx4 x4) (ax5 : zx Xx5 x5) (ax6 : zx Xx6 x6) (ax7 : zx Xx7 x7) (ax8 : zx Xx8 x8) : zq 0 A (xf_70_59 rs k3 (za_5 x0) Xx1 Xx2 Xx3 Xx4 Xx5 Xx6 Xx7 Xx8 h) (zf_70_59 zrs zk3 x0 x1 x2 x3 x4 x5 x6 x7 x8 s) := by
  unfold xf_70_59 zf_70_59
  exact (zq_eq ax8 zcn_0 (zg_70_73 rs zrs hrs H ax0 ax4 ax5 ax6 ax7) (zq_b (zi_323 H ax0) (zq_ne (zx_s H 323 x0 0) ax5 (zq_g fun g1 => (hk3 H ax0 ax1 ax2 ax3 (zadd_x ax4 zc32_1 g1))) (zg_70_73 rs zrs hrs H ax0 ax4 ax5 ax6 ax7))))
theorem zg_70_3 (rs : Nat → Int32 → Int32 → Int32 → Int32 → xrH → xrR) (zrs : Nat → Int → Int → Int → Int → zS → zR) (hrs : ∀ {A : Nat} {h : xrH} {s : zS} {y0 : Nat} {Xy1 : Int32} {y1 : Int} {Xy2 : Int32} {y2 : Int} {Xy3 : Int32} {y3 : Int} {Xy4 : Int32} {y4 : Int} (H : zH A h s) (ay0 : y0 < 2) (ay1 : zx Xy1 y1) (ay2 : zx Xy2 y2) (ay3 : zx Xy3 y3) (ay4 : zx Xy4 y4), zq 0 A (rs (za_5 y0) Xy1 Xy2 Xy3 Xy4 h) (zrs y0 y1 y2 y3 y4 s)) : ∀ (n : Nat) {A : Nat} {h : xrH} {s : zS} {x0 : Nat} {Xx1 : Int32} {x1 : Int} {Xx2 : Int32} {x2 : Int} {Xx3 : Int32} {x3 : Int} {Xx4 : Int32} {x4 : Int} (H : zH A h s) (ax0 : x0 < 2) (ax1 : zx Xx1 x1) (ax2 : zx Xx2 x2) (ax3 : zx Xx3 x3) (ax4 : zx Xx4 x4), zq 0 A (xf_70_3 rs n (za_5 x0) Xx1 Xx2 Xx3 Xx4 h) (zf_70_3 zrs n x0 x1 x2 x3 x4 s) := by
  intro n
  induction n with
  | zero =>
    intros
    exact zq_none
  | succ n ih =>
    intro A h s x0 Xx1 x1 Xx2 x2 Xx3 x3 Xx4 x4 H ax0 ax1 ax2 ax3 ax4
    rw [xf_70_3, zf_70_3]
    exact (zq_gt ax4 zc16_200 (zq_i H zc32_m1) (zq_b (zi_323 H ax0) (zq_b (zr_320 H ax0) (zq_b (zi_199 H ax0) (zq_b (zi_327 H ax0) (zq_c (zc_5 H ax0) (zq_g fun g1 => (zq_c_i (zg_66 rs zrs hrs H ax0 ax1 zc32_m1 ax2 (zadd_x ax3 zc32_1 g1)) fun v4 h105 s3 hv4 H2 => (zq_ne (zx_r hv4) zcn_0 (zg_70_59 rs zrs hrs (fun y0 y1 y2 y3 y4 y => (xf_70_3 rs n y0 y1 y2 y3 y4 y)) (fun y0 y1 y2 y3 y4 y => (zf_70_3 zrs n y0 y1 y2 y3 y4 y)) (fun H ay0 ay1 ay2 ay3 ay4 => (ih H ay0 ay1 ay2 ay3 ay4)) H2 ax0 ax1 ax2 ax3 ax4 (zx_s H 323 x0 0) (zx_s H 199 x0 0) (zx_s H 327 x0 0) (zx_r hv4)) (zq_b (zi_325 H2 ax0) (zq_ne (zx_s H2 325 x0 0) zc32_5 (zg_70_59 rs zrs hrs (fun y0 y1 y2 y3 y4 y => (xf_70_3 rs n y0 y1 y2 y3 y4 y)) (fun y0 y1 y2 y3 y4 y => (zf_70_3 zrs n y0 y1 y2 y3 y4 y)) (fun H ay0 ay1 ay2 ay3 ay4 => (ih H ay0 ay1 ay2 ay3 ay4)) H2 ax0 ax1 ax2 ax3 ax4 (zx_s H 323 x0 0) (zx_s H 199 x0 0) (zx_s H 327 x0 0) (zx_r hv4)) (zq_i H2 zc32_m1))))))))))))
theorem zg_70 (rs : Nat → Int32 → Int32 → Int32 → Int32 → xrH → xrR) (zrs : Nat → Int → Int → Int → Int → zS → zR) (hrs : ∀ {A : Nat} {h : xrH} {s : zS} {y0 : Nat} {Xy1 : Int32} {y1 : Int} {Xy2 : Int32} {y2 : Int} {Xy3 : Int32} {y3 : Int} {Xy4 : Int32} {y4 : Int} (H : zH A h s) (ay0 : y0 < 2) (ay1 : zx Xy1 y1) (ay2 : zx Xy2 y2) (ay3 : zx Xy3 y3) (ay4 : zx Xy4 y4), zq 0 A (rs (za_5 y0) Xy1 Xy2 Xy3 Xy4 h) (zrs y0 y1 y2 y3 y4 s)) {A : Nat} {h : xrH} {s : zS} {x0 : Nat} {Xx1 : Int32} {x1 : Int} {Xx2 : Int32} {x2 : Int} {Xx3 : Int32} {x3 : Int} (H : zH A h s) (ax0 : x0 < 2) (ax1 : zx Xx1 x1) (ax2 : zx Xx2 x2) (ax3 : zx Xx3 x3) : zq 0 A (xf_70 rs (za_5 x0) Xx1 Xx2 Xx3 h) (zf_70 zrs x0 x1 x2 x3 s) := by
  unfold xf_70 zf_70
  exact (zg_70_3 rs zrs hrs xfu H ax0 ax1 ax2 ax3 zc32_0)
theorem zg_71_118 (rs : Nat → Int32 → Int32 → Int32 → Int32 → xrH → xrR) (zrs : Nat → Int → Int → Int → Int → zS → zR) (hrs : ∀ {A : Nat} {h : xrH} {s : zS} {y0 : Nat} {Xy1 : Int32} {y1 : Int} {Xy2 : Int32} {y2 : Int} {Xy3 : Int32} {y3 : Int} {Xy4 : Int32} {y4 : Int} (H : zH A h s) (ay0 : y0 < 2) (ay1 : zx Xy1 y1) (ay2 : zx Xy2 y2) (ay3 : zx Xy3 y3) (ay4 : zx Xy4 y4), zq 0 A (rs (za_5 y0) Xy1 Xy2 Xy3 Xy4 h) (zrs y0 y1 y2 y3 y4 s)) {A : Nat} {h : xrH} {s : zS} {x0 : Nat} {Xx4 : Int32} {x4 : Int} (H : zH A h s) (ax0 : x0 < 2) (ax4 : zx Xx4 x4) : zq 0 A (xf_71_118 rs (za_5 x0) Xx4 h) (zf_71_118 zrs x0 x4 s) := by
  unfold xf_71_118 zf_71_118
  exact (zq_c (zc_5 H ax0) (zq_c_i (zg_57 H ax0 zc32_1 ax4) fun v3 h101 s2 hv3 H1 => (zq_i H1 zc32_m1)))
theorem zg_71_104 (rs : Nat → Int32 → Int32 → Int32 → Int32 → xrH → xrR) (zrs : Nat → Int → Int → Int → Int → zS → zR) (hrs : ∀ {A : Nat} {h : xrH} {s : zS} {y0 : Nat} {Xy1 : Int32} {y1 : Int} {Xy2 : Int32} {y2 : Int} {Xy3 : Int32} {y3 : Int} {Xy4 : Int32} {y4 : Int} (H : zH A h s) (ay0 : y0 < 2) (ay1 : zx Xy1 y1) (ay2 : zx Xy2 y2) (ay3 : zx Xy3 y3) (ay4 : zx Xy4 y4), zq 0 A (rs (za_5 y0) Xy1 Xy2 Xy3 Xy4 h) (zrs y0 y1 y2 y3 y4 s)) (k9 : Nat → Int32 → Int32 → Int32 → Int32 → Int32 → xrH → xrR) (zk9 : Nat → Int → Int → Int → Int → Int → zS → zR) (hk9 : ∀ {A : Nat} {h : xrH} {s : zS} {y0 : Nat} {Xy1 : Int32} {y1 : Int} {Xy2 : Int32} {y2 : Int} {Xy3 : Int32} {y3 : Int} {Xy4 : Int32} {y4 : Int} {Xy5 : Int32} {y5 : Int} (H : zH A h s) (ay0 : y0 < 2) (ay1 : zx Xy1 y1) (ay2 : zx Xy2 y2) (ay3 : zx Xy3 y3) (ay4 : zx Xy4 y4) (ay5 : zx Xy5 y5), zq 0 A (k9 (za_5 y0) Xy1 Xy2 Xy3 Xy4 Xy5 h) (zk9 y0 y1 y2 y3 y4 y5 s)) {A : Nat} {h : xrH} {s : zS} {x0 : Nat} {Xx1 : Int32} {x1 : Int} {Xx2 : Int32} {x2 : Int} {Xx3 : Int32} {x3 : Int} {Xx4 : Int32} {x4 : Int} {Xx5 : Int32} {x5 : Int} {Xx6 : Int32} {x6 : Int} {Xx7 : Int32} {x7 : Int} (H : zH A h s) (ax0 : x0 < 2) (ax1 : zx Xx1 x1) (ax2 : zx Xx2 x2) (ax3 : zx Xx3 x3) (ax4 : zx Xx4 x4) (ax5 : zx Xx5 x5) (ax6 : zx Xx6 x6) (ax7 : zx Xx7 x7) : zq 0 A (xf_71_104 rs k9 (za_5 x0) Xx1 Xx2 Xx3 Xx4 Xx5 Xx6 Xx7 h) (zf_71_104 zrs zk9 x0 x1 x2 x3 x4 x5 x6 x7 s) := by
  unfold xf_71_104 zf_71_104
  exact (zq_eq ax7 zcn_0 (zg_71_118 rs zrs hrs H ax0 ax4) (zq_b (zi_323 H ax0) (zq_ne (zx_s H 323 x0 0) ax6 (zq_g fun g1 => (hk9 H ax0 ax1 ax2 ax3 ax4 (zadd_x ax5 zc32_1 g1))) (zg_71_118 rs zrs hrs H ax0 ax4))))
theorem zg_71_82 (rs : Nat → Int32 → Int32 → Int32 → Int32 → xrH → xrR) (zrs : Nat → Int → Int → Int → Int → zS → zR) (hrs : ∀ {A : Nat} {h : xrH} {s : zS} {y0 : Nat} {Xy1 : Int32} {y1 : Int} {Xy2 : Int32} {y2 : Int} {Xy3 : Int32} {y3 : Int} {Xy4 : Int32} {y4 : Int} (H : zH A h s) (ay0 : y0 < 2) (ay1 : zx Xy1 y1) (ay2 : zx Xy2 y2) (ay3 : zx Xy3 y3) (ay4 : zx Xy4 y4), zq 0 A (rs (za_5 y0) Xy1 Xy2 Xy3 Xy4 h) (zrs y0 y1 y2 y3 y4 s)) (k9 : Nat → Int32 → Int32 → Int32 → Int32 → Int32 → xrH → xrR) (zk9 : Nat → Int → Int → Int → Int → Int → zS → zR) (hk9 : ∀ {A : Nat} {h : xrH} {s : zS} {y0 : Nat} {Xy1 : Int32} {y1 : Int} {Xy2 : Int32} {y2 : Int} {Xy3 : Int32} {y3 : Int} {Xy4 : Int32} {y4 : Int} {Xy5 : Int32} {y5 : Int} (H : zH A h s) (ay0 : y0 < 2) (ay1 : zx Xy1 y1) (ay2 : zx Xy2 y2) (ay3 : zx Xy3 y3) (ay4 : zx Xy4 y4) (ay5 : zx Xy5 y5), zq 0 A (k9 (za_5 y0) Xy1 Xy2 Xy3 Xy4 Xy5 h) (zk9 y0 y1 y2 y3 y4 y5 s)) {A : Nat} {h : xrH} {s : zS} {x0 : Nat} {Xx1 : Int32} {x1 : Int} {Xx2 : Int32} {x2 : Int} {Xx3 : Int32} {x3 : Int} {Xx4 : Int32} {x4 : Int} {Xx5 : Int32} {x5 : Int} {Xx6 : Int32} {x6 : Int} {Xs0 : Int32} {s0 : Int} (H : zH A h s) (ax0 : x0 < 2) (ax1 : zx Xx1 x1) (ax2 : zx Xx2 x2) (ax3 : zx Xx3 x3) (ax4 : zx Xx4 x4) (ax5 : zx Xx5 x5) (ax6 : zx Xx6 x6) (as0 : zx Xs0 s0) : zq 0 A (xf_71_82 rs k9 (za_5 x0) Xx1 Xx2 Xx3 Xx4 Xx5 Xx6 Xs0 h) (zf_71_82 zrs zk9 x0 x1 x2 x3 x4 x5 x6 s0 s) := by
  unfold xf_71_82 zf_71_82
  exact (zq_eq as0 zcn_0 (zg_71_104 rs zrs hrs k9 zk9 hk9 H ax0 ax1 ax2 ax3 ax4 ax5 ax6 as0) (zq_c (zc_5 H ax0) (zq_g fun g1 => (zq_c_i (zg_66 rs zrs hrs H ax0 ax1 zc32_m1 ax2 (zadd_x ax3 zc32_1 g1)) fun v4 h101 s3 hv4 H2 => (zq_ne (zx_r hv4) zcn_0 (zg_71_104 rs zrs hrs k9 zk9 hk9 H2 ax0 ax1 ax2 ax3 ax4 ax5 ax6 as0) (zq_i H2 zc32_m1))))))
theorem zg_71_57 (rs : Nat → Int32 → Int32 → Int32 → Int32 → xrH → xrR) (zrs : Nat → Int → Int → Int → Int → zS → zR) (hrs : ∀ {A : Nat} {h : xrH} {s : zS} {y0 : Nat} {Xy1 : Int32} {y1 : Int} {Xy2 : Int32} {y2 : Int} {Xy3 : Int32} {y3 : Int} {Xy4 : Int32} {y4 : Int} (H : zH A h s) (ay0 : y0 < 2) (ay1 : zx Xy1 y1) (ay2 : zx Xy2 y2) (ay3 : zx Xy3 y3) (ay4 : zx Xy4 y4), zq 0 A (rs (za_5 y0) Xy1 Xy2 Xy3 Xy4 h) (zrs y0 y1 y2 y3 y4 s)) (k9 : Nat → Int32 → Int32 → Int32 → Int32 → Int32 → xrH → xrR) (zk9 : Nat → Int → Int → Int → Int → Int → zS → zR) (hk9 : ∀ {A : Nat} {h : xrH} {s : zS} {y0 : Nat} {Xy1 : Int32} {y1 : Int} {Xy2 : Int32} {y2 : Int} {Xy3 : Int32} {y3 : Int} {Xy4 : Int32} {y4 : Int} {Xy5 : Int32} {y5 : Int} (H : zH A h s) (ay0 : y0 < 2) (ay1 : zx Xy1 y1) (ay2 : zx Xy2 y2) (ay3 : zx Xy3 y3) (ay4 : zx Xy4 y4) (ay5 : zx Xy5 y5), zq 0 A (k9 (za_5 y0) Xy1 Xy2 Xy3 Xy4 Xy5 h) (zk9 y0 y1 y2 y3 y4 y5 s)) {A : Nat} {h : xrH} {s : zS} {x0 : Nat} {Xx1 : Int32} {x1 : Int} {Xx2 : Int32} {x2 : Int} {Xx3 : Int32} {x3 : Int} {Xx4 : Int32} {x4 : Int} {Xx5 : Int32} {x5 : Int} (H : zH A h s) (ax0 : x0 < 2) (ax1 : zx Xx1 x1) (ax2 : zx Xx2 x2) (ax3 : zx Xx3 x3) (ax4 : zx Xx4 x4) (ax5 : zx Xx5 x5) : zq 0 A (xf_71_57 rs k9 (za_5 x0) Xx1 Xx2 Xx3 Xx4 Xx5 h) (zf_71_57 zrs zk9 x0 x1 x2 x3 x4 x5 s) := by
  unfold xf_71_57 zf_71_57
  exact (zq_b (zi_323 H ax0) (zq_b (zi_323 H ax0) (zq_B (fun h1 => zr_322 H ax0 h1) fun b1 hb2 => (zq_b (zi_1 H hb2) (zq_ge (zx_s H 323 x0 0) (zx_s H 1 b1 0) (zg_71_82 rs zrs hrs k9 zk9 hk9 H ax0 ax1 ax2 ax3 ax4 ax5 (zx_s H 323 x0 0) zc32_0) (zg_71_82 rs zrs hrs k9 zk9 hk9 H ax0 ax1 ax2 ax3 ax4 ax5 (zx_s H 323 x0 0) zc32_1))))))
theorem zg_71_9 (rs : Nat → Int32 → Int32 → Int32 → Int32 → xrH → xrR) (zrs : Nat → Int → Int → Int → Int → zS → zR) (hrs : ∀ {A : Nat} {h : xrH} {s : zS} {y0 : Nat} {Xy1 : Int32} {y1 : Int} {Xy2 : Int32} {y2 : Int} {Xy3 : Int32} {y3 : Int} {Xy4 : Int32} {y4 : Int} (H : zH A h s) (ay0 : y0 < 2) (ay1 : zx Xy1 y1) (ay2 : zx Xy2 y2) (ay3 : zx Xy3 y3) (ay4 : zx Xy4 y4), zq 0 A (rs (za_5 y0) Xy1 Xy2 Xy3 Xy4 h) (zrs y0 y1 y2 y3 y4 s)) : ∀ (n : Nat) {A : Nat} {h : xrH} {s : zS} {x0 : Nat} {Xx1 : Int32} {x1 : Int} {Xx2 : Int32} {x2 : Int} {Xx3 : Int32} {x3 : Int} {Xx4 : Int32} {x4 : Int} {Xx5 : Int32} {x5 : Int} (H : zH A h s) (ax0 : x0 < 2) (ax1 : zx Xx1 x1) (ax2 : zx Xx2 x2) (ax3 : zx Xx3 x3) (ax4 : zx Xx4 x4) (ax5 : zx Xx5 x5), zq 0 A (xf_71_9 rs n (za_5 x0) Xx1 Xx2 Xx3 Xx4 Xx5 h) (zf_71_9 zrs n x0 x1 x2 x3 x4 x5 s) := by
  intro n
  induction n with
  | zero =>
    intros
    exact zq_none
  | succ n ih =>
    intro A h s x0 Xx1 x1 Xx2 x2 Xx3 x3 Xx4 x4 Xx5 x5 H ax0 ax1 ax2 ax3 ax4 ax5
    rw [xf_71_9, zf_71_9]
    exact (zq_gt ax5 zc16_200 (zq_i H zc32_m1) (zq_b (zi_323 H ax0) (zq_B (fun h1 => zr_322 H ax0 h1) fun b1 hb2 => (zq_b (zi_1 H hb2) (zq_ge (zx_s H 323 x0 0) (zx_s H 1 b1 0) (zg_71_57 rs zrs hrs (fun y0 y1 y2 y3 y4 y5 y => (xf_71_9 rs n y0 y1 y2 y3 y4 y5 y)) (fun y0 y1 y2 y3 y4 y5 y => (zf_71_9 zrs n y0 y1 y2 y3 y4 y5 y)) (fun H ay0 ay1 ay2 ay3 ay4 ay5 => (ih H ay0 ay1 ay2 ay3 ay4 ay5)) H ax0 ax1 ax2 ax3 ax4 ax5) (zq_B (fun h1 => zr_322 H ax0 h1) fun b3 hb4 => (zq_b (zi_323 H ax0) (zq_c (zc_0 H hb4) (zq_c_i (zg_2 H hb4 (zx_s H 323 x0 0)) fun v7 h106 s6 hv7 H5 => (zq_b (zo_321 H5 ax0) (zq_O H5 (zo_s H5 321 x0 0) fun q8 hq9 hA10 H11 => (zq_b (zr_466 H11 hq9) (zq_a (zw_466 H11 hq9) ax1 (zq_ne (zx_r hv7) (zx_s H11 466 q8 x1) (zg_71_57 rs zrs hrs (fun y0 y1 y2 y3 y4 y5 y => (xf_71_9 rs n y0 y1 y2 y3 y4 y5 y)) (fun y0 y1 y2 y3 y4 y5 y => (zf_71_9 zrs n y0 y1 y2 y3 y4 y5 y)) (fun H ay0 ay1 ay2 ay3 ay4 ay5 => (ih H ay0 ay1 ay2 ay3 ay4 ay5)) H11 ax0 ax1 ax2 ax3 ax4 ax5) (zq_i H11 ax5)))))))))))))))
theorem zg_71 (rs : Nat → Int32 → Int32 → Int32 → Int32 → xrH → xrR) (zrs : Nat → Int → Int → Int → Int → zS → zR) (hrs : ∀ {A : Nat} {h : xrH} {s : zS} {y0 : Nat} {Xy1 : Int32} {y1 : Int} {Xy2 : Int32} {y2 : Int} {Xy3 : Int32} {y3 : Int} {Xy4 : Int32} {y4 : Int} (H : zH A h s) (ay0 : y0 < 2) (ay1 : zx Xy1 y1) (ay2 : zx Xy2 y2) (ay3 : zx Xy3 y3) (ay4 : zx Xy4 y4), zq 0 A (rs (za_5 y0) Xy1 Xy2 Xy3 Xy4 h) (zrs y0 y1 y2 y3 y4 s)) {A : Nat} {h : xrH} {s : zS} {x0 : Nat} {Xx1 : Int32} {x1 : Int} {Xx2 : Int32} {x2 : Int} {Xx3 : Int32} {x3 : Int} (H : zH A h s) (ax0 : x0 < 2) (ax1 : zx Xx1 x1) (ax2 : zx Xx2 x2) (ax3 : zx Xx3 x3) : zq 0 A (xf_71 rs (za_5 x0) Xx1 Xx2 Xx3 h) (zf_71 zrs x0 x1 x2 x3 s) := by
  unfold xf_71 zf_71
  exact (zq_b (zi_323 H ax0) (zg_71_9 rs zrs hrs xfu H ax0 ax1 ax2 ax3 (zx_s H 323 x0 0) zc32_0))
theorem zg_68_85 (rs : Nat → Int32 → Int32 → Int32 → Int32 → xrH → xrR) (zrs : Nat → Int → Int → Int → Int → zS → zR) (hrs : ∀ {A : Nat} {h : xrH} {s : zS} {y0 : Nat} {Xy1 : Int32} {y1 : Int} {Xy2 : Int32} {y2 : Int} {Xy3 : Int32} {y3 : Int} {Xy4 : Int32} {y4 : Int} (H : zH A h s) (ay0 : y0 < 2) (ay1 : zx Xy1 y1) (ay2 : zx Xy2 y2) (ay3 : zx Xy3 y3) (ay4 : zx Xy4 y4), zq 0 A (rs (za_5 y0) Xy1 Xy2 Xy3 Xy4 h) (zrs y0 y1 y2 y3 y4 s)) {A : Nat} {h : xrH} {s : zS} {x0 : Nat} (H : zH A h s) (ax0 : x0 < 2) : zq 0 A (xf_68_85 rs (za_5 x0) h) (zf_68_85 zrs x0 s) := by
  unfold xf_68_85 zf_68_85
  exact (zq_b (zi_323 H ax0) (zq_c (zc_5 H ax0) (zq_c_i (zg_57 H ax0 zc32_3 (zx_s H 323 x0 0)) fun v3 h102 s2 hv3 H1 => (zq_z H1 (zx_r hv3)))))
theorem zg_68_166 (rs : Nat → Int32 → Int32 → Int32 → Int32 → xrH → xrR) (zrs : Nat → Int → Int → Int → Int → zS → zR) (hrs : ∀ {A : Nat} {h : xrH} {s : zS} {y0 : Nat} {Xy1 : Int32} {y1 : Int} {Xy2 : Int32} {y2 : Int} {Xy3 : Int32} {y3 : Int} {Xy4 : Int32} {y4 : Int} (H : zH A h s) (ay0 : y0 < 2) (ay1 : zx Xy1 y1) (ay2 : zx Xy2 y2) (ay3 : zx Xy3 y3) (ay4 : zx Xy4 y4), zq 0 A (rs (za_5 y0) Xy1 Xy2 Xy3 Xy4 h) (zrs y0 y1 y2 y3 y4 s)) {A : Nat} {h : xrH} {s : zS} {x0 : Nat} {Xx1 : Int32} {x1 : Int} {Xx4 : Int32} {x4 : Int} {Xx5 : Int32} {x5 : Int} {Xx7 : Int32} {x7 : Int} {Xx8 : Int32} {x8 : Int} (H : zH A h s) (ax0 : x0 < 2) (ax1 : zx Xx1 x1) (ax4 : zx Xx4 x4) (ax5 : zx Xx5 x5) (ax7 : zx Xx7 x7) (ax8 : zx Xx8 x8) : zq 0 A (xf_68_166 rs (za_5 x0) Xx1 Xx4 Xx5 Xx7 Xx8 h) (zf_68_166 zrs x0 x1 x4 x5 x7 x8 s) := by
  unfold xf_68_166 zf_68_166
  exact (zq_b (zr_320 H ax0) (zq_b (zo_321 H ax0) (zq_O H (zo_s H 321 x0 0) fun q1 hq2 hA3 H4 => (zq_b (zr_457 H4 hq2) (zq_a (zw_457 H4 hq2) ax1 (zq_b (zi_323 H4 ax0) (zq_c (zc_3 H4 ax0) (zq_g fun g5 => (zq_c_v (zg_29 H4 ax0 ax7 (zx_s H4 457 q1 x1) (zsub_x (zx_s H4 323 x0 0) ax4 g5) ax8) fun _ h107 s7 _ H6 => (zq_b (zr_330 H6 ax0) (zq_b (zd_eq (by decide)) (zq_g fun g8 => (zq_W (fun hl => zwp_330 H6 ax0 (zadd_x ax5 (zrem_x ax1 zc8_8) g8) ax8 hl) fun h110 s10 H9 => (zq_eq ax8 zc32_m1 (zq_z H9 zc32_0) (zq_z H9 zc32_1)))))))))))))))
theorem zg_68_110 (rs : Nat → Int32 → Int32 → Int32 → Int32 → xrH → xrR) (zrs : Nat → Int → Int → Int → Int → zS → zR) (hrs : ∀ {A : Nat} {h : xrH} {s : zS} {y0 : Nat} {Xy1 : Int32} {y1 : Int} {Xy2 : Int32} {y2 : Int} {Xy3 : Int32} {y3 : Int} {Xy4 : Int32} {y4 : Int} (H : zH A h s) (ay0 : y0 < 2) (ay1 : zx Xy1 y1) (ay2 : zx Xy2 y2) (ay3 : zx Xy3 y3) (ay4 : zx Xy4 y4), zq 0 A (rs (za_5 y0) Xy1 Xy2 Xy3 Xy4 h) (zrs y0 y1 y2 y3 y4 s)) {A : Nat} {h : xrH} {s : zS} {x0 : Nat} {Xx1 : Int32} {x1 : Int} {Xx3 : Int32} {x3 : Int} {Xx4 : Int32} {x4 : Int} {Xx5 : Int32} {x5 : Int} {Xx6 : Int32} {x6 : Int} {Xx7 : Int32} {x7 : Int} {Xx8 : Int32} {x8 : Int} (H : zH A h s) (ax0 : x0 < 2) (ax1 : zx Xx1 x1) (ax3 : zx Xx3 x3) (ax4 : zx Xx4 x4) (ax5 : zx Xx5 x5) (ax6 : zx Xx6 x6) (ax7 : zx Xx7 x7) (ax8 : zx Xx8 x8) : zq 0 A (xf_68_110 rs (za_5 x0) Xx1 Xx3 Xx4 Xx5 Xx6 Xx7 Xx8 h) (zf_68_110 zrs x0 x1 x3 x4 x5 x6 x7 x8 s) := by
  unfold xf_68_110 zf_68_110
  exact (zq_ne ax6 zc8_42 (zq_ne ax6 zc8_33 (zq_c (zc_5 H ax0) (zq_c_i (zg_69 rs zrs hrs H ax0 ax1 ax7 ax3 ax8) fun v3 h101 s2 hv3 H1 => (zq_ne (zx_r hv3) zcn_0 (zg_68_166 rs zrs hrs H1 ax0 ax1 ax4 ax5 ax7 ax8) (zg_68_166 rs zrs hrs H1 ax0 ax1 ax4 ax5 ax7 zc32_m1)))) (zq_c (zc_5 H ax0) (zq_c_i (zg_71 rs zrs hrs H ax0 ax1 ax7 ax3) fun v6 h103 s5 hv6 H4 => (zg_68_166 rs zrs hrs H4 ax0 ax1 ax4 ax5 ax7 (zx_r hv6))))) (zq_c (zc_5 H ax0) (zq_c_i (zg_70 rs zrs hrs H ax0 ax1 ax7 ax3) fun v9 h105 s8 hv9 H7 => (zg_68_166 rs zrs hrs H7 ax0 ax1 ax4 ax5 ax7 (zx_r hv9)))))
theorem zg_68_95 (rs : Nat → Int32 → Int32 → Int32 → Int32 → xrH → xrR) (zrs : Nat → Int → Int → Int → Int → zS → zR) (hrs : ∀ {A : Nat} {h : xrH} {s : zS} {y0 : Nat} {Xy1 : Int32} {y1 : Int} {Xy2 : Int32} {y2 : Int} {Xy3 : Int32} {y3 : Int} {Xy4 : Int32} {y4 : Int} (H : zH A h s) (ay0 : y0 < 2) (ay1 : zx Xy1 y1) (ay2 : zx Xy2 y2) (ay3 : zx Xy3 y3) (ay4 : zx Xy4 y4), zq 0 A (rs (za_5 y0) Xy1 Xy2 Xy3 Xy4 h) (zrs y0 y1 y2 y3 y4 s)) {A : Nat} {h : xrH} {s : zS} {x0 : Nat} {Xx1 : Int32} {x1 : Int} {Xx3 : Int32} {x3 : Int} {Xx4 : Int32} {x4 : Int} {Xx5 : Int32} {x5 : Int} {Xx6 : Int32} {x6 : Int} {Xx7 : Int32} {x7 : Int} {Xx8 : Int32} {x8 : Int} (H : zH A h s) (ax0 : x0 < 2) (ax1 : zx Xx1 x1) (ax3 : zx Xx3 x3) (ax4 : zx Xx4 x4) (ax5 : zx Xx5 x5) (ax6 : zx Xx6 x6) (ax7 : zx Xx7 x7) (ax8 : zx Xx8 x8) : zq 0 A (xf_68_95 rs (za_5 x0) Xx1 Xx3 Xx4 Xx5 Xx6 Xx7 Xx8 h) (zf_68_95 zrs x0 x1 x3 x4 x5 x6 x7 x8 s) := by
  unfold xf_68_95 zf_68_95
  exact (zq_ne ax6 zc8_63 (zg_68_110 rs zrs hrs H ax0 ax1 ax3 ax4 ax5 ax6 ax7 ax8) (zq_eq ax8 zcn_0 (zg_68_110 rs zrs hrs H ax0 ax1 ax3 ax4 ax5 ax6 ax7 ax8) (zg_68_110 rs zrs hrs H ax0 ax1 ax3 ax4 ax5 ax6 ax7 zc32_1)))
theorem zg_68_66 (rs : Nat → Int32 → Int32 → Int32 → Int32 → xrH → xrR) (zrs : Nat → Int → Int → Int → Int → zS → zR) (hrs : ∀ {A : Nat} {h : xrH} {s : zS} {y0 : Nat} {Xy1 : Int32} {y1 : Int} {Xy2 : Int32} {y2 : Int} {Xy3 : Int32} {y3 : Int} {Xy4 : Int32} {y4 : Int} (H : zH A h s) (ay0 : y0 < 2) (ay1 : zx Xy1 y1) (ay2 : zx Xy2 y2) (ay3 : zx Xy3 y3) (ay4 : zx Xy4 y4), zq 0 A (rs (za_5 y0) Xy1 Xy2 Xy3 Xy4 h) (zrs y0 y1 y2 y3 y4 s)) {A : Nat} {h : xrH} {s : zS} {x0 : Nat} {Xx1 : Int32} {x1 : Int} {Xx3 : Int32} {x3 : Int} {Xx4 : Int32} {x4 : Int} {Xx5 : Int32} {x5 : Int} {Xx6 : Int32} {x6 : Int} {Xx7 : Int32} {x7 : Int} {Xx8 : Int32} {x8 : Int} (H : zH A h s) (ax0 : x0 < 2) (ax1 : zx Xx1 x1) (ax3 : zx Xx3 x3) (ax4 : zx Xx4 x4) (ax5 : zx Xx5 x5) (ax6 : zx Xx6 x6) (ax7 : zx Xx7 x7) (ax8 : zx Xx8 x8) : zq 0 A (xf_68_66 rs (za_5 x0) Xx1 Xx3 Xx4 Xx5 Xx6 Xx7 Xx8 h) (zf_68_66 zrs x0 x1 x3 x4 x5 x6 x7 x8 s) := by
  unfold xf_68_66 zf_68_66
  exact (zq_ne ax6 zc8_43 (zg_68_95 rs zrs hrs H ax0 ax1 ax3 ax4 ax5 ax6 ax7 ax8) (zq_lt ax8 zcn_0 (zg_68_85 rs zrs hrs H ax0) (zq_le ax8 zc8_20 (zg_68_95 rs zrs hrs H ax0 ax1 ax3 ax4 ax5 ax6 ax7 ax8) (zg_68_85 rs zrs hrs H ax0))))
theorem zg_68_57 (rs : Nat → Int32 → Int32 → Int32 → Int32 → xrH → xrR) (zrs : Nat → Int → Int → Int → Int → zS → zR) (hrs : ∀ {A : Nat} {h : xrH} {s : zS} {y0 : Nat} {Xy1 : Int32} {y1 : Int} {Xy2 : Int32} {y2 : Int} {Xy3 : Int32} {y3 : Int} {Xy4 : Int32} {y4 : Int} (H : zH A h s) (ay0 : y0 < 2) (ay1 : zx Xy1 y1) (ay2 : zx Xy2 y2) (ay3 : zx Xy3 y3) (ay4 : zx Xy4 y4), zq 0 A (rs (za_5 y0) Xy1 Xy2 Xy3 Xy4 h) (zrs y0 y1 y2 y3 y4 s)) {A : Nat} {h : xrH} {s : zS} {x0 : Nat} {Xx1 : Int32} {x1 : Int} {Xx3 : Int32} {x3 : Int} {Xx4 : Int32} {x4 : Int} {Xx5 : Int32} {x5 : Int} {Xx6 : Int32} {x6 : Int} {Xx7 : Int32} {x7 : Int} (H : zH A h s) (ax0 : x0 < 2) (ax1 : zx Xx1 x1) (ax3 : zx Xx3 x3) (ax4 : zx Xx4 x4) (ax5 : zx Xx5 x5) (ax6 : zx Xx6 x6) (ax7 : zx Xx7 x7) : zq 0 A (xf_68_57 rs (za_5 x0) Xx1 Xx3 Xx4 Xx5 Xx6 Xx7 h) (zf_68_57 zrs x0 x1 x3 x4 x5 x6 x7 s) := by
  unfold xf_68_57 zf_68_57
  exact (zq_c (zc_5 H ax0) (zq_c_i (zg_72 H ax0 ax1 ax5) fun v3 h101 s2 hv3 H1 => (zg_68_66 rs zrs hrs H1 ax0 ax1 ax3 ax4 ax5 ax6 ax7 (zx_r hv3))))
theorem zg_68 (rs : Nat → Int32 → Int32 → Int32 → Int32 → xrH → xrR) (zrs : Nat → Int → Int → Int → Int → zS → zR) (hrs : ∀ {A : Nat} {h : xrH} {s : zS} {y0 : Nat} {Xy1 : Int32} {y1 : Int} {Xy2 : Int32} {y2 : Int} {Xy3 : Int32} {y3 : Int} {Xy4 : Int32} {y4 : Int} (H : zH A h s) (ay0 : y0 < 2) (ay1 : zx Xy1 y1) (ay2 : zx Xy2 y2) (ay3 : zx Xy3 y3) (ay4 : zx Xy4 y4), zq 0 A (rs (za_5 y0) Xy1 Xy2 Xy3 Xy4 h) (zrs y0 y1 y2 y3 y4 s)) {A : Nat} {h : xrH} {s : zS} {x0 : Nat} {Xx1 : Int32} {x1 : Int} {Xx2 : Int32} {x2 : Int} {Xx3 : Int32} {x3 : Int} (H : zH A h s) (ax0 : x0 < 2) (ax1 : zx Xx1 x1) (ax2 : zx Xx2 x2) (ax3 : zx Xx3 x3) : zq 0 A (xf_68 rs (za_5 x0) Xx1 Xx2 Xx3 h) (zf_68 zrs x0 x1 x2 x3 s) := by
  unfold xf_68 zf_68
  exact (zq_b (zi_323 H ax0) (zq_b (zo_321 H ax0) (zq_O H (zo_s H 321 x0 0) fun q1 hq2 hA3 H4 => (zq_b (zr_465 H4 hq2) (zq_a (zw_465 H4 hq2) ax1 (zq_c (zc_5 H4 ax0) (zq_c_i (zg_58 H4 ax0 zc32_1 ax1 ax2) fun v7 h106 s6 hv7 H5 => (zq_ne (zx_r hv7) zc32_m1 (zq_eq (zx_s H4 465 q1 x1) zc8_43 (zq_g fun g8 => (zg_68_57 rs zrs hrs H5 ax0 ax1 ax3 (zx_s H 323 x0 0) (zmul_x ax3 zc8_8 g8) (zx_s H4 465 q1 x1) (zx_r hv7))) (zq_ne (zx_s H4 465 q1 x1) zc8_63 (zq_g fun g9 => (zg_68_66 rs zrs hrs H5 ax0 ax1 ax3 (zx_s H 323 x0 0) (zmul_x ax3 zc8_8 g9) (zx_s H4 465 q1 x1) (zx_r hv7) zc32_0)) (zq_g fun g10 => (zg_68_57 rs zrs hrs H5 ax0 ax1 ax3 (zx_s H 323 x0 0) (zmul_x ax3 zc8_8 g10) (zx_s H4 465 q1 x1) (zx_r hv7))))) (zq_z H5 zc32_0)))))))))
theorem zg_60_92 (rs : Nat → Int32 → Int32 → Int32 → Int32 → xrH → xrR) (zrs : Nat → Int → Int → Int → Int → zS → zR) (hrs : ∀ {A : Nat} {h : xrH} {s : zS} {y0 : Nat} {Xy1 : Int32} {y1 : Int} {Xy2 : Int32} {y2 : Int} {Xy3 : Int32} {y3 : Int} {Xy4 : Int32} {y4 : Int} (H : zH A h s) (ay0 : y0 < 2) (ay1 : zx Xy1 y1) (ay2 : zx Xy2 y2) (ay3 : zx Xy3 y3) (ay4 : zx Xy4 y4), zq 0 A (rs (za_5 y0) Xy1 Xy2 Xy3 Xy4 h) (zrs y0 y1 y2 y3 y4 s)) {A : Nat} {h : xrH} {s : zS} {x0 : Nat} {Xx4 : Int32} {x4 : Int} {Xx5 : Int32} {x5 : Int} (H : zH A h s) (ax0 : x0 < 2) (ax4 : zx Xx4 x4) (ax5 : zx Xx5 x5) : zq 0 A (xf_60_92 rs (za_5 x0) Xx4 Xx5 h) (zf_60_92 zrs x0 x4 x5 s) := by
  unfold xf_60_92 zf_60_92
  exact (zq_b (zr_329 H ax0) (zq_b (zi_323 H ax0) (zq_b (zr_328 H ax0) (zq_a (zw_328 H ax0) ax4 (zq_g fun g1 => (zq_W (fun hl => zwp_329 H ax0 ax4 (zsub_x (zx_s H 323 x0 0) (zx_s H 328 x0 x4) g1) hl) fun h105 s3 H2 => (zq_z H2 ax5)))))))
theorem zg_60 (rs : Nat → Int32 → Int32 → Int32 → Int32 → xrH → xrR) (zrs : Nat → Int → Int → Int → Int → zS → zR) (hrs : ∀ {A : Nat} {h : xrH} {s : zS} {y0 : Nat} {Xy1 : Int32} {y1 : Int} {Xy2 : Int32} {y2 : Int} {Xy3 : Int32} {y3 : Int} {Xy4 : Int32} {y4 : Int} (H : zH A h s) (ay0 : y0 < 2) (ay1 : zx Xy1 y1) (ay2 : zx Xy2 y2) (ay3 : zx Xy3 y3) (ay4 : zx Xy4 y4), zq 0 A (rs (za_5 y0) Xy1 Xy2 Xy3 Xy4 h) (zrs y0 y1 y2 y3 y4 s)) {A : Nat} {h : xrH} {s : zS} {x0 : Nat} {Xx1 : Int32} {x1 : Int} {Xx2 : Int32} {x2 : Int} {Xx3 : Int32} {x3 : Int} (H : zH A h s) (ax0 : x0 < 2) (ax1 : zx Xx1 x1) (ax2 : zx Xx2 x2) (ax3 : zx Xx3 x3) : zq 0 A (xf_60 rs (za_5 x0) Xx1 Xx2 Xx3 h) (zf_60 zrs x0 x1 x2 x3 s) := by
  unfold xf_60 zf_60
  exact (zq_b (zd_eq (by decide)) (zq_b (zr_328 H ax0) (zq_b (zi_323 H ax0) (zq_g fun g1 => (zq_g fun g2 => (zq_W (fun hl => zwp_328 H ax0 (zadd_x (zmul_x ax3 zc8_8 g1) (zrem_x ax1 zc8_8) g2) (zx_s H 323 x0 0) hl) fun h104 s4 H3 => (zq_b (zo_321 H3 ax0) (zq_O H3 (zo_s H3 321 x0 0) fun q5 hq6 hA7 H8 => (zq_b (zr_458 H8 hq6) (zq_a (zw_458 H8 hq6) ax1 (zq_sw (zx_s H8 458 q5 x1) zcn_65 (zq_c (zc_5 H8 ax0) (zq_g fun g15 => (zq_c_i (zg_66 rs zrs hrs H8 ax0 ax1 ax1 ax2 (zadd_x ax3 zc32_1 g15)) fun v18 h111 s17 hv18 H16 => (zg_60_92 rs zrs hrs H16 ax0 (zadd_x (zmul_x ax3 zc8_8 g1) (zrem_x ax1 zc8_8) g2) (zx_r hv18))))) (zq_sw (zx_s H8 458 q5 x1) zcn_91 (zq_c (zc_5 H8 ax0) (zq_c_i (zg_68 rs zrs hrs H8 ax0 ax1 ax2 ax3) fun v14 h113 s13 hv14 H12 => (zg_60_92 rs zrs hrs H12 ax0 (zadd_x (zmul_x ax3 zc8_8 g1) (zrem_x ax1 zc8_8) g2) (zx_r hv14)))) (zq_c (zc_5 H8 ax0) (zq_c_i (zg_61 H8 ax0 ax1 ax2 (zadd_x (zmul_x ax3 zc8_8 g1) (zrem_x ax1 zc8_8) g2)) fun v11 h109 s10 hv11 H9 => (zq_z H9 (zx_r hv11))))))))))))))))
theorem zg_74_23 : ∀ (n : Nat) {A : Nat} {h : xrH} {s : zS} {x0 : Nat} {Xx1 : Int32} {x1 : Int} {Xx2 : Int32} {x2 : Int} {Xx3 : Int32} {x3 : Int} {Xx5 : Int32} {x5 : Int} {Xx6 : Int32} {x6 : Int} (H : zH A h s) (ax0 : x0 < 2) (ax1 : zx Xx1 x1) (ax2 : zx Xx2 x2) (ax3 : zx Xx3 x3) (ax5 : zx Xx5 x5) (ax6 : zx Xx6 x6), zq 0 A (xf_74_23 n (za_5 x0) Xx1 Xx2 Xx3 Xx5 Xx6 h) (zf_74_23 n x0 x1 x2 x3 x5 x6 s) := by
  intro n
  induction n with
  | zero =>
    intros
    exact zq_none
  | succ n ih =>
    intro A h s x0 Xx1 x1 Xx2 x2 Xx3 x3 Xx5 x5 Xx6 x6 H ax0 ax1 ax2 ax3 ax5 ax6
    rw [xf_74_23, zf_74_23]
    exact (zq_g fun g1 => (zq_ge ax6 (zadd_x ax2 ax3 g1) (zq_i H ax5) (zq_ne ax1 zc8_43 (zq_B (fun h1 => zr_322 H ax0 h1) fun b2 hb3 => (zq_c (zc_0 H hb3) (zq_c_i (zg_2 H hb3 ax6) fun v6 h102 s5 hv6 H4 => (zq_g fun g7 => (ih H4 ax0 ax1 ax2 ax3 (zxor_x ax5 (zx_r hv6)) (zadd_x ax6 zc32_1 g7)))))) (zq_B (fun h1 => zr_322 H ax0 h1) fun b8 hb9 => (zq_c (zc_0 H hb9) (zq_c_i (zg_2 H hb9 ax6) fun v12 h105 s11 hv12 H10 => (zq_g fun g13 => (zq_g fun g14 => (ih H10 ax0 ax1 ax2 ax3 (zadd_x ax5 (zx_r hv12) g13) (zadd_x ax6 zc32_1 g14))))))))))
theorem zg_74 {A : Nat} {h : xrH} {s : zS} {x0 : Nat} {Xx1 : Int32} {x1 : Int} {Xx2 : Int32} {x2 : Int} {Xx3 : Int32} {x3 : Int} {Xx4 : Int32} {x4 : Int} (H : zH A h s) (ax0 : x0 < 2) (ax1 : zx Xx1 x1) (ax2 : zx Xx2 x2) (ax3 : zx Xx3 x3) (ax4 : zx Xx4 x4) : zq 0 A (xf_74 (za_5 x0) Xx1 Xx2 Xx3 Xx4 h) (zf_74 x0 x1 x2 x3 x4 s) := by
  unfold xf_74 zf_74
  exact (zq_ne ax1 zc8_35 (zq_ne ax1 zc8_37 (zg_74_23 xfu H ax0 ax1 ax2 ax3 zc32_0 ax2) (zq_i H ax4)) (zq_i H ax3))
theorem zg_73_2 : ∀ (n : Nat) {A : Nat} {h : xrH} {s : zS} {x0 : Nat} {Xx1 : Int32} {x1 : Int} {Xx2 : Int32} {x2 : Int} {Xx3 : Int32} {x3 : Int} (H : zH A h s) (ax0 : x0 < 2) (ax1 : zx Xx1 x1) (ax2 : zx Xx2 x2) (ax3 : zx Xx3 x3), zq 1 A (xf_73_2 n (za_5 x0) Xx1 Xx2 Xx3 h) (zf_73_2 n x0 x1 x2 x3 s) := by
  intro n
  induction n with
  | zero =>
    intros
    exact zq_none
  | succ n ih =>
    intro A h s x0 Xx1 x1 Xx2 x2 Xx3 x3 H ax0 ax1 ax2 ax3
    rw [xf_73_2, zf_73_2]
    exact (zq_b (zo_321 H ax0) (zq_O H (zo_s H 321 x0 0) fun q1 hq2 hA3 H4 => (zq_b (zr_453 H4 hq2) (zq_a (zw_453 H4 hq2) ax1 (zq_ge ax3 (zx_s H4 453 q1 x1) (zq_v H4) (zq_b (zo_321 H4 ax0) (zq_O H4 (zo_s H4 321 x0 0) fun q5 hq6 hA7 H8 => (zq_b (zr_467 H8 hq6) (zq_g fun g9 => (zq_g fun g10 => (zq_a (zw_467 H8 hq6) (zadd_x (zmul_x ax1 zc8_8 g9) ax3 g10) (zq_eq (zx_s H8 467 q5 ((x1 * 8) + x3)) zcn_0 (zq_g fun g11 => (ih H8 ax0 ax1 ax2 (zadd_x ax3 zc32_1 g11))) (zq_eq (zx_s H8 467 q5 ((x1 * 8) + x3)) zc8_61 (zq_g fun g12 => (ih H8 ax0 ax1 ax2 (zadd_x ax3 zc32_1 g12))) (zq_b (zo_321 H8 ax0) (zq_O H8 (zo_s H8 321 x0 0) fun q13 hq14 hA15 H16 => (zq_b (zr_468 H16 hq14) (zq_a (zw_468 H16 hq14) (zadd_x (zmul_x ax1 zc8_8 g9) ax3 g10) (zq_b (zd_eq (by decide)) (zq_b (zr_328 H16 ax0) (zq_g fun g17 => (zq_g fun g18 => (zq_a (zw_328 H16 ax0) (zadd_x (zmul_x ax2 zc8_8 g17) (zrem_x (zx_s H16 468 q13 ((x1 * 8) + x3)) zc8_8) g18) (zq_b (zr_329 H16 ax0) (zq_a (zw_329 H16 ax0) (zadd_x (zmul_x ax2 zc8_8 g17) (zrem_x (zx_s H16 468 q13 ((x1 * 8) + x3)) zc8_8) g18) (zq_b (zr_330 H16 ax0) (zq_a (zw_330 H16 ax0) (zadd_x (zmul_x ax2 zc8_8 g17) (zrem_x (zx_s H16 468 q13 ((x1 * 8) + x3)) zc8_8) g18) (zq_c (zc_5 H16 ax0) (zq_c_i (zg_74 H16 ax0 (zx_s H8 467 q5 ((x1 * 8) + x3)) (zx_s H16 328 x0 ((x2 * 8) + (zrem (s.1 468 q13 ((x1 * 8) + x3)) 8))) (zx_s H16 329 x0 ((x2 * 8) + (zrem (s.1 468 q13 ((x1 * 8) + x3)) 8))) (zx_s H16 330 x0 ((x2 * 8) + (zrem (s.1 468 q13 ((x1 * 8) + x3)) 8)))) fun v21 h120 s20 hv21 H19 => (zq_b (zr_330 H19 ax0) (zq_g fun g22 => (zq_a (zw_330 H19 ax0) (zadd_x (zmul_x ax2 zc8_8 g17) ax3 g22) (zq_b (zo_321 H19 ax0) (zq_O H19 (zo_s H19 321 x0 0) fun q23 hq24 hA25 H26 => (zq_b (zr_459 H26 hq24) (zq_a (zw_459 H26 hq24) (zadd_x (zmul_x ax1 zc8_8 g9) ax3 g10) (zq_c (zc_5 H26 ax0) (zq_c_i (zg_75 H26 ax0 (zx_r hv21) (zx_s H26 459 q23 ((x1 * 8) + x3))) fun v29 h128 s28 hv29 H27 => (zq_eq (zx_s H19 330 x0 ((x2 * 8) + x3)) (zx_r hv29) (zq_g fun g30 => (ih H27 ax0 ax1 ax2 (zadd_x ax3 zc32_1 g30))) (zq_b (zi_327 H27 ax0) (zq_g fun g33 => (zq_P (zpi_327 H27 ax0 (zadd_x (zx_s H27 327 x0 0) zc32_1 g33)) fun h131 s32 H31 => (zq_g fun g34 => (ih H31 ax0 ax1 ax2 (zadd_x ax3 zc32_1 g34))))))))))))))))))))))))))))))))))))))))))))
theorem zg_73 {A : Nat} {h : xrH} {s : zS} {x0 : Nat} {Xx1 : Int32} {x1 : Int} {Xx2 : Int32} {x2 : Int} (H : zH A h s) (ax0 : x0 < 2) (ax1 : zx Xx1 x1) (ax2 : zx Xx2 x2) : zq 1 A (xf_73 (za_5 x0) Xx1 Xx2 h) (zf_73 x0 x1 x2 s) := by
  unfold xf_73 zf_73
  exact (zg_73_2 xfu H ax0 ax1 ax2 zc32_0)
theorem zg_59_125 (rs : Nat → Int32 → Int32 → Int32 → Int32 → xrH → xrR) (zrs : Nat → Int → Int → Int → Int → zS → zR) (hrs : ∀ {A : Nat} {h : xrH} {s : zS} {y0 : Nat} {Xy1 : Int32} {y1 : Int} {Xy2 : Int32} {y2 : Int} {Xy3 : Int32} {y3 : Int} {Xy4 : Int32} {y4 : Int} (H : zH A h s) (ay0 : y0 < 2) (ay1 : zx Xy1 y1) (ay2 : zx Xy2 y2) (ay3 : zx Xy3 y3) (ay4 : zx Xy4 y4), zq 0 A (rs (za_5 y0) Xy1 Xy2 Xy3 Xy4 h) (zrs y0 y1 y2 y3 y4 s)) {A : Nat} {h : xrH} {s : zS} {x0 : Nat} {Xx5 : Int32} {x5 : Int} {Xx7 : Int32} {x7 : Int} {s0 : Nat} {Xs1 : Int32} {s1 : Int} {Xs2 : Int32} {s2 : Int} (H : zH A h s) (ax0 : x0 < 2) (ax5 : zx Xx5 x5) (ax7 : zx Xx7 x7) (as0 : s0 < 2) (as1 : zx Xs1 s1) (as2 : zx Xs2 s2) : zq 0 A (xf_59_125 rs (za_5 x0) Xx5 Xx7 (za_3 s0) Xs1 Xs2 h) (zf_59_125 zrs x0 x5 x7 s0 s1 s2 s) := by
  unfold xf_59_125 zf_59_125
  exact (zq_b (zi_323 H ax0) (zq_c (zc_3 H as0) (zq_g fun g1 => (zq_c_v (zg_29 H as0 as1 as2 (zsub_x (zx_s H 323 x0 0) ax5 g1) ax7) fun _ h102 s3 _ H2 => (zq_z H2 zc32_1)))))
theorem zg_59_42 (rs : Nat → Int32 → Int32 → Int32 → Int32 → xrH → xrR) (zrs : Nat → Int → Int → Int → Int → zS → zR) (hrs : ∀ {A : Nat} {h : xrH} {s : zS} {y0 : Nat} {Xy1 : Int32} {y1 : Int} {Xy2 : Int32} {y2 : Int} {Xy3 : Int32} {y3 : Int} {Xy4 : Int32} {y4 : Int} (H : zH A h s) (ay0 : y0 < 2) (ay1 : zx Xy1 y1) (ay2 : zx Xy2 y2) (ay3 : zx Xy3 y3) (ay4 : zx Xy4 y4), zq 0 A (rs (za_5 y0) Xy1 Xy2 Xy3 Xy4 h) (zrs y0 y1 y2 y3 y4 s)) : ∀ (n : Nat) {A : Nat} {h : xrH} {s : zS} {x0 : Nat} {Xx1 : Int32} {x1 : Int} {Xx2 : Int32} {x2 : Int} {Xx4 : Int32} {x4 : Int} {Xx5 : Int32} {x5 : Int} {Xx6 : Int32} {x6 : Int} {Xx7 : Int32} {x7 : Int} (H : zH A h s) (ax0 : x0 < 2) (ax1 : zx Xx1 x1) (ax2 : zx Xx2 x2) (ax4 : zx Xx4 x4) (ax5 : zx Xx5 x5) (ax6 : zx Xx6 x6) (ax7 : zx Xx7 x7), zq 0 A (xf_59_42 rs n (za_5 x0) Xx1 Xx2 Xx4 Xx5 Xx6 Xx7 h) (zf_59_42 zrs n x0 x1 x2 x4 x5 x6 x7 s) := by
  intro n
  induction n with
  | zero =>
    intros
    exact zq_none
  | succ n ih =>
    intro A h s x0 Xx1 x1 Xx2 x2 Xx4 x4 Xx5 x5 Xx6 x6 Xx7 x7 H ax0 ax1 ax2 ax4 ax5 ax6 ax7
    rw [xf_59_42, zf_59_42]
    exact (zq_b (zo_321 H ax0) (zq_O H (zo_s H 321 x0 0) fun q1 hq2 hA3 H4 => (zq_b (zr_453 H4 hq2) (zq_a (zw_453 H4 hq2) ax1 (zq_ge ax7 (zx_s H4 453 q1 x1) (zq_c (zc_5 H4 ax0) (zq_c_v (zg_73 H4 ax0 ax1 ax4) fun _ h105 s6 _ H5 => (zq_b (zo_321 H5 ax0) (zq_O H5 (zo_s H5 321 x0 0) fun q7 hq8 hA9 H10 => (zq_b (zr_452 H10 hq8) (zq_a (zw_452 H10 hq8) ax1 (zq_b (zr_320 H10 ax0) (zq_ne ax2 zc32_m1 (zq_b (zo_321 H10 ax0) (zq_O H10 (zo_s H10 321 x0 0) fun q11 hq12 hA13 H14 => (zq_b (zr_457 H14 hq12) (zq_a (zw_457 H14 hq12) ax2 (zg_59_125 rs zrs hrs H14 ax0 ax5 (zx_s H10 452 q7 x1) ax0 ax6 (zx_s H14 457 q11 x2)))))) (zg_59_125 rs zrs hrs H10 ax0 ax5 (zx_s H10 452 q7 x1) ax0 ax6 (zx_s H10 452 q7 x1)))))))))) (zq_c (zc_5 H4 ax0) (zq_g fun g15 => (zq_g fun g16 => (zq_c_i (zg_60 rs zrs hrs H4 ax0 (zadd_x (zmul_x ax1 zc8_8 g15) ax7 g16) ax6 ax4) fun v19 h115 s18 hv19 H17 => (zq_ne (zx_r hv19) zcn_0 (zq_g fun g20 => (ih H17 ax0 ax1 ax2 ax4 ax5 ax6 (zadd_x ax7 zc32_1 g20))) (zq_z H17 zc32_0)))))))))))
theorem zg_59_b (rs : Nat → Int32 → Int32 → Int32 → Int32 → xrH → xrR) (zrs : Nat → Int → Int → Int → Int → zS → zR) (hrs : ∀ {A : Nat} {h : xrH} {s : zS} {y0 : Nat} {Xy1 : Int32} {y1 : Int} {Xy2 : Int32} {y2 : Int} {Xy3 : Int32} {y3 : Int} {Xy4 : Int32} {y4 : Int} (H : zH A h s) (ay0 : y0 < 2) (ay1 : zx Xy1 y1) (ay2 : zx Xy2 y2) (ay3 : zx Xy3 y3) (ay4 : zx Xy4 y4), zq 0 A (rs (za_5 y0) Xy1 Xy2 Xy3 Xy4 h) (zrs y0 y1 y2 y3 y4 s)) {A : Nat} {h : xrH} {s : zS} {x0 : Nat} {Xx1 : Int32} {x1 : Int} {Xx2 : Int32} {x2 : Int} {Xx3 : Int32} {x3 : Int} {Xx4 : Int32} {x4 : Int} (H : zH A h s) (ax0 : x0 < 2) (ax1 : zx Xx1 x1) (ax2 : zx Xx2 x2) (ax3 : zx Xx3 x3) (ax4 : zx Xx4 x4) : zq 0 A (xf_59_b rs (za_5 x0) Xx1 Xx2 Xx3 Xx4 h) (zf_59_b zrs x0 x1 x2 x3 x4 s) := by
  unfold xf_59_b zf_59_b
  exact (zq_le ax4 zc32_5 (zq_b (zi_323 H ax0) (zq_c (zc_5 H ax0) (zq_c_i (zg_58 H ax0 zc32_0 ax2 ax3) fun v3 h102 s2 hv3 H1 => (zq_ne (zx_r hv3) zc32_m1 (zg_59_42 rs zrs hrs xfu H1 ax0 ax1 ax2 ax4 (zx_s H 323 x0 0) (zx_r hv3) zc32_0) (zq_z H1 zc32_0))))) (zq_b (zi_323 H ax0) (zq_c (zc_5 H ax0) (zq_c_i (zg_57 H ax0 zc32_4 (zx_s H 323 x0 0)) fun v6 h105 s5 hv6 H4 => (zq_z H4 (zx_r hv6))))))
theorem zg_59 : ∀ (n : Nat) {A : Nat} {h : xrH} {s : zS} {x0 : Nat} {Xx1 : Int32} {x1 : Int} {Xx2 : Int32} {x2 : Int} {Xx3 : Int32} {x3 : Int} {Xx4 : Int32} {x4 : Int} (H : zH A h s) (ax0 : x0 < 2) (ax1 : zx Xx1 x1) (ax2 : zx Xx2 x2) (ax3 : zx Xx3 x3) (ax4 : zx Xx4 x4), zq 0 A (xf_59 n (za_5 x0) Xx1 Xx2 Xx3 Xx4 h) (zf_59 n x0 x1 x2 x3 x4 s) := by
  intro n
  induction n with
  | zero =>
    intros
    exact zq_none
  | succ n ih =>
    intro A h s x0 Xx1 x1 Xx2 x2 Xx3 x3 Xx4 x4 H ax0 ax1 ax2 ax3 ax4
    rw [xf_59, zf_59]
    exact zg_59_b (xf_59 n) (zf_59 n) (fun H a0 a1 a2 a3 a4 => ih H a0 a1 a2 a3 a4) H ax0 ax1 ax2 ax3 ax4
theorem zg_56 {A : Nat} {h : xrH} {s : zS} {x0 : Nat} {Xx1 : Option Nat} {x1 : Int} {x2 : Nat} {Xx3 : Int32} {x3 : Int} {Xx4 : Int32} {x4 : Int} (H : zH A h s) (ax0 : x0 < 2) (ax1 : zo Xx1 x1) (ax2 : x2 < 3) (ax3 : zx Xx3 x3) (ax4 : zx Xx4 x4) : zq 0 A (xf_56 (za_5 x0) Xx1 (za_0 x2) Xx3 Xx4 h) (zf_56 x0 x1 x2 x3 x4 s) := by
  unfold xf_56 zf_56
  exact (zq_P (zpt_321 H ax0 ax1) fun h101 s2 H1 => (zq_P (zpb_322 H1 ax0 ax2) fun h102 s4 H3 => (zq_P (zpi_323 H3 ax0 ax4) fun h103 s6 H5 => (zq_P (zpi_324 H5 ax0 zc32_0) fun h104 s8 H7 => (zq_P (zpi_327 H7 ax0 zc32_0) fun h105 s10 H9 => (zq_b (zr_320 H9 ax0) (zq_P (zpi_199 H9 ax0 zc32_0) fun h107 s12 H11 => (zq_P (zpi_325 H11 ax0 zc32_0) fun h108 s14 H13 => (zq_P (zpi_326 H13 ax0 zc32_m1) fun h109 s16 H15 => (zq_If H15 ax1 (zq_z H15 zc32_0) fun q17 hq18 hA19 H20 => (zq_lt ax3 zcn_0 (zq_z H20 zc32_0) (zq_b (zi_449 H20 hq18) (zq_lt ax3 (zx_s H20 449 q17 0) (zq_c (zc_5 H20 ax0) (zq_c_i (zg_59 8 H20 ax0 ax3 zc32_m1 zc32_m1 zc32_0) fun v23 h112 s22 hv23 H21 => (zq_eq (zx_r hv23) zcn_0 (zq_z H21 (zx_r hv23)) (zq_P (zpi_325 H21 ax0 zc32_0) fun h114 s25 H24 => (zq_P (zpi_326 H24 ax0 zc32_m1) fun h115 s27 H26 => (zq_z H26 (zx_r hv23))))))) (zq_z H20 zc32_0))))))))))))))
theorem zg_132 {A : Nat} {h : xrH} {s : zS} {x0 : Nat} (H : zH A h s) (ax0 : x0 < 1) : zq 2 A (xf_132 (za_8 x0) h) (zf_132 x0 s) := by
  unfold xf_132 zf_132
  exact (zq_b (zi_523 H ax0) (zq_lt (zx_s H 523 x0 0) zcn_0 (zq_o H zo_0) (zq_b (zi_523 H ax0) (zq_b (zi_522 H ax0) (zq_ge (zx_s H 523 x0 0) (zx_s H 522 x0 0) (zq_o H zo_0) (zq_b (zr_515 H ax0) (zq_b (zi_523 H ax0) (zq_q (zw_515 H ax0) (zx_s H 523 x0 0) (zq_o H (zo_s H 515 x0 (s.1 523 x0 0)))))))))))
theorem zg_133_19 : ∀ (n : Nat) {A : Nat} {h : xrH} {s : zS} {x0 : Nat} {Xx1 : Int32} {x1 : Int} {Xx2 : Int32} {x2 : Int} (H : zH A h s) (ax0 : x0 < 1) (ax1 : zx Xx1 x1) (ax2 : zx Xx2 x2), zq 1 A (xf_133_19 n (za_8 x0) Xx1 Xx2 h) (zf_133_19 n x0 x1 x2 s) := by
  intro n
  induction n with
  | zero =>
    intros
    exact zq_none
  | succ n ih =>
    intro A h s x0 Xx1 x1 Xx2 x2 H ax0 ax1 ax2
    rw [xf_133_19, zf_133_19]
    exact (zq_b (zi_522 H ax0) (zq_ge ax2 (zx_s H 522 x0 0) (zq_b (zr_517 H ax0) (zq_c (zc_8 H ax0) (zq_c_o (zg_132 H ax0) fun v3 h103 s2 hv3 H1 => (zq_b (zr_513 H1 ax0) (zq_c (zc_5 H1 (by decide)) (zq_c_i (zg_56 H1 (by decide) (zo_r hv3) (by decide) zc32_0 zc32_0) fun v6 h106 s5 hv6 H4 => (zq_v H4))))))) (zq_b (zr_515 H ax0) (zq_q (zw_515 H ax0) ax2 (zq_If H (zo_s H 515 x0 x2) (zq_g fun g7 => (ih H ax0 ax1 (zadd_x ax2 zc32_1 g7))) fun q8 hq9 hA10 H11 => (zq_b (zi_448 H11 hq9) (zq_le (zx_s H11 448 q8 0) ax1 (zq_g fun g12 => (ih H11 ax0 ax1 (zadd_x ax2 zc32_1 g12))) (zq_b (zr_517 H11 ax0) (zq_b (zr_513 H11 ax0) (zq_c (zc_5 H11 (by decide)) (zq_c_i (zg_56 H11 (by decide) (zo_q (Nat.lt_of_lt_of_le hq9 H11.le4)) (by decide) zc32_0 zc32_0) fun v15 h114 s14 hv15 H13 => (zq_eq (zx_r hv15) zcn_0 (zq_g fun g16 => (ih H13 ax0 ax1 (zadd_x ax2 zc32_1 g16))) (zq_P (zpi_523 H13 ax0 ax2) fun h116 s18 H17 => (zq_b (zi_448 H17 hq9) (zq_g fun g19 => (ih H17 ax0 (zx_s H17 448 q8 0) (zadd_x ax2 zc32_1 g19)))))))))))))))))
theorem zg_133 {A : Nat} {h : xrH} {s : zS} {x0 : Nat} (H : zH A h s) (ax0 : x0 < 1) : zq 1 A (xf_133 (za_8 x0) h) (zf_133 x0 s) := by
  unfold xf_133 zf_133
  exact (zq_b (zi_523 H ax0) (zq_eq (zx_s H 523 x0 0) zc8_m3 (zq_P (zpi_523 H ax0 zc32_m1) fun h102 s2 H1 => (zg_133_19 xfu H1 ax0 zc32_m1 zc32_0)) (zq_v H)))
theorem zg_135 {A : Nat} {h : xrH} {s : zS} {x0 : Nat} {Xx1 : Int32} {x1 : Int} (H : zH A h s) (ax0 : x0 < 1) (ax1 : zx Xx1 x1) : zq 1 A (xf_135 (za_8 x0) Xx1 h) (zf_135 x0 x1 s) := by
  unfold xf_135 zf_135
  exact (zq_c (zc_8 H ax0) (zq_c_v (zg_133 H ax0) fun _ h101 s2 _ H1 => (zq_b (zr_517 H1 ax0) (zq_b (zr_320 H1 (by decide)) (zq_c (zc_3 H1 (by decide)) (zq_c_i (zg_27 H1 (by decide) ax1) fun v5 h104 s4 hv5 H3 => (zq_ne (zx_r hv5) zcn_0 (zq_v H3) (zq_t H3))))))))
theorem zg_30 {A : Nat} {h : xrH} {s : zS} {x0 : Nat} {Xx1 : Int32} {x1 : Int} (H : zH A h s) (ax0 : x0 < 2) (ax1 : zx Xx1 x1) : zq 0 A (xf_30 (za_3 x0) Xx1 h) (zf_30 x0 x1 s) := by
  unfold xf_30 zf_30
  exact (zq_c (zc_3 H ax0) (zq_c_i (zg_27 H ax0 ax1) fun v3 h101 s2 hv3 H1 => (zq_eq (zx_r hv3) zcn_0 (zq_z H1 zc32_0) (zq_b (zr_192 H1 ax0) (zq_a (zw_192 H1 ax0) ax1 (zq_eq (zx_s H1 192 x0 x1) zc32_2 (zq_z H1 zc32_1) (zq_b (zr_192 H1 ax0) (zq_a (zw_192 H1 ax0) ax1 (zq_eq (zx_s H1 192 x0 x1) zc32_3 (zq_z H1 zc32_1) (zq_b (zr_192 H1 ax0) (zq_a (zw_192 H1 ax0) ax1 (zq_ne (zx_s H1 192 x0 x1) zc32_4 (zq_z H1 zc32_0) (zq_z H1 zc32_1)))))))))))))
theorem zg_76_24 {A : Nat} {h : xrH} {s : zS} {x0 : Nat} {Xs0 : Int32} {s0 : Int} (H : zH A h s) (ax0 : x0 < 2) (as0 : zx Xs0 s0) : zq 0 A (xf_76_24 (za_5 x0) Xs0 h) (zf_76_24 x0 s0 s) := by
  unfold xf_76_24 zf_76_24
  exact (zq_ne as0 zc32_m1 (zq_b (zo_321 H ax0) (zq_O H (zo_s H 321 x0 0) fun q1 hq2 hA3 H4 => (zq_b (zr_467 H4 hq2) (zq_a (zw_467 H4 hq2) as0 (zq_i H4 (zx_s H4 467 q1 s0)))))) (zq_i H zc32_0))
theorem zg_76 {A : Nat} {h : xrH} {s : zS} {x0 : Nat} {Xx1 : Int32} {x1 : Int} (H : zH A h s) (ax0 : x0 < 2) (ax1 : zx Xx1 x1) : zq 0 A (xf_76 (za_5 x0) Xx1 h) (zf_76 x0 x1 s) := by
  unfold xf_76 zf_76
  exact (zq_b (zr_320 H ax0) (zq_c (zc_3 H ax0) (zq_c_i (zg_27 H ax0 ax1) fun v3 h102 s2 hv3 H1 => (zq_eq (zx_r hv3) zcn_0 (zg_76_24 H1 ax0 zc32_m1) (zq_b (zr_320 H1 ax0) (zq_b (zr_198 H1 ax0) (zq_a (zw_198 H1 ax0) ax1 (zg_76_24 H1 ax0 (zx_s H1 198 x0 x1)))))))))
theorem zg_139 {A : Nat} {h : xrH} {s : zS} {x0 : Nat} {Xx1 : Int32} {x1 : Int} (H : zH A h s) (ax0 : x0 < 1) (ax1 : zx Xx1 x1) : zq 0 A (xf_139 (za_8 x0) Xx1 h) (zf_139 x0 x1 s) := by
  unfold xf_139 zf_139
  exact (zq_b (zr_517 H ax0) (zq_b (zr_320 H (by decide)) (zq_c (zc_3 H (by decide)) (zq_c_i (zg_30 H (by decide) ax1) fun v3 h103 s2 hv3 H1 => (zq_eq (zx_r hv3) zcn_0 (zq_z H1 zc32_0) (zq_b (zr_517 H1 ax0) (zq_c (zc_5 H1 (by decide)) (zq_c_i (zg_76 H1 (by decide) ax1) fun v6 h106 s5 hv6 H4 => (zq_ne (zx_r hv6) zcn_0 (zq_z H4 zc32_0) (zq_z H4 zc32_1))))))))))
theorem zg_31_4 : ∀ (n : Nat) {A : Nat} {h : xrH} {s : zS} {x0 : Nat} {Xx1 : Int32} {x1 : Int} {Xx2 : Int32} {x2 : Int} {Xx3 : Int32} {x3 : Int} (H : zH A h s) (ax0 : x0 < 2) (ax1 : zx Xx1 x1) (ax2 : zx Xx2 x2) (ax3 : zx Xx3 x3), zq 0 A (xf_31_4 n (za_3 x0) Xx1 Xx2 Xx3 h) (zf_31_4 n x0 x1 x2 x3 s) := by
  intro n
  induction n with
  | zero =>
    intros
    exact zq_none
  | succ n ih =>
    intro A h s x0 Xx1 x1 Xx2 x2 Xx3 x3 H ax0 ax1 ax2 ax3
    rw [xf_31_4, zf_31_4]
    exact (zq_b (zi_199 H ax0) (zq_ge ax3 (zx_s H 199 x0 0) (zq_i H zc32_m1) (zq_b (zr_197 H ax0) (zq_a (zw_197 H ax0) ax3 (zq_ne (zx_s H 197 x0 x3) ax1 (zq_g fun g1 => (ih H ax0 ax1 ax2 (zadd_x ax3 zc32_1 g1))) (zq_b (zr_198 H ax0) (zq_a (zw_198 H ax0) ax3 (zq_ne (zx_s H 198 x0 x3) ax2 (zq_g fun g2 => (ih H ax0 ax1 ax2 (zadd_x ax3 zc32_1 g2))) (zq_i H ax3)))))))))
theorem zg_31 {A : Nat} {h : xrH} {s : zS} {x0 : Nat} {Xx1 : Int32} {x1 : Int} {Xx2 : Int32} {x2 : Int} (H : zH A h s) (ax0 : x0 < 2) (ax1 : zx Xx1 x1) (ax2 : zx Xx2 x2) : zq 0 A (xf_31 (za_3 x0) Xx1 Xx2 h) (zf_31 x0 x1 x2 s) := by
  unfold xf_31 zf_31
  exact (zq_g fun g1 => (zg_31_4 xfu H ax0 ax1 ax2 (zadd_x ax1 zc32_1 g1)))
theorem zg_77 {A : Nat} {h : xrH} {s : zS} {x0 : Nat} {Xx1 : Int32} {x1 : Int} (H : zH A h s) (ax0 : x0 < 2) (ax1 : zx Xx1 x1) : zq 0 A (xf_77 (za_5 x0) Xx1 h) (zf_77 x0 x1 s) := by
  unfold xf_77 zf_77
  exact (zq_c (zc_5 H ax0) (zq_c_i (zg_76 H ax0 ax1) fun v3 h101 s2 hv3 H1 => (zq_eq (zx_r hv3) zcn_0 (zq_i H1 zc32_m1) (zq_ne (zx_r hv3) zc8_61 (zq_b (zr_320 H1 ax0) (zq_b (zr_320 H1 ax0) (zq_b (zr_197 H1 ax0) (zq_a (zw_197 H1 ax0) ax1 (zq_b (zo_321 H1 ax0) (zq_O H1 (zo_s H1 321 x0 0) fun q4 hq5 hA6 H7 => (zq_b (zr_468 H7 hq5) (zq_b (zr_320 H7 ax0) (zq_b (zr_198 H7 ax0) (zq_a (zw_198 H7 ax0) ax1 (zq_a (zw_468 H7 hq5) (zx_s H7 198 x0 x1) (zq_c (zc_3 H7 ax0) (zq_c_i (zg_31 H7 ax0 (zx_s H1 197 x0 x1) (zx_s H7 468 q4 (s2.1 198 x0 x1))) fun v10 h114 s9 hv10 H8 => (zq_i H8 (zx_r hv10))))))))))))))) (zq_i H1 zc32_m1)))))
theorem zg_78 {A : Nat} {h : xrH} {s : zS} {x0 : Nat} {Xx1 : Int32} {x1 : Int} (H : zH A h s) (ax0 : x0 < 2) (ax1 : zx Xx1 x1) : zq 0 A (xf_78 (za_5 x0) Xx1 h) (zf_78 x0 x1 s) := by
  unfold xf_78 zf_78
  exact (zq_c (zc_5 H ax0) (zq_c_i (zg_77 H ax0 ax1) fun v3 h101 s2 hv3 H1 => (zq_ne (zx_r hv3) zc32_m1 (zq_c (zc_5 H1 ax0) (zq_c_i (zg_76 H1 ax0 ax1) fun v6 h103 s5 hv6 H4 => (zq_b (zr_320 H4 ax0) (zq_b (zr_194 H4 ax0) (zq_a (zw_194 H4 ax0) (zx_r hv3) (zq_b (zr_320 H4 ax0) (zq_b (zr_195 H4 ax0) (zq_a (zw_195 H4 ax0) (zx_r hv3) (zq_b (zr_320 H4 ax0) (zq_b (zr_196 H4 ax0) (zq_a (zw_196 H4 ax0) (zx_r hv3) (zq_c (zc_5 H4 ax0) (zq_c_i (zg_74 H4 ax0 (zx_r hv6) (zx_s H4 194 x0 v3) (zx_s H4 195 x0 v3) (zx_s H4 196 x0 v3)) fun v9 h114 s8 hv9 H7 => (zq_b (zo_321 H7 ax0) (zq_O H7 (zo_s H7 321 x0 0) fun q10 hq11 hA12 H13 => (zq_b (zr_459 H13 hq11) (zq_b (zr_320 H13 ax0) (zq_b (zr_198 H13 ax0) (zq_a (zw_198 H13 ax0) ax1 (zq_a (zw_459 H13 hq11) (zx_s H13 198 x0 x1) (zq_c (zc_5 H13 ax0) (zq_c_i (zg_75 H13 ax0 (zx_r hv9) (zx_s H13 459 q10 (s8.1 198 x0 x1))) fun v16 h123 s15 hv16 H14 => (zq_i H14 (zx_r hv16)))))))))))))))))))))))) (zq_b (zr_320 H1 ax0) (zq_b (zr_196 H1 ax0) (zq_a (zw_196 H1 ax0) ax1 (zq_i H1 (zx_s H1 196 x0 x1))))))))
theorem zg_16_43 (k4 : Nat → Nat → Int32 → Int32 → xrH → xrR) (zk4 : Nat → Nat → Int → Int → zS → zR) (hk4 : ∀ {A : Nat} {h : xrH} {s : zS} {y0 : Nat} {y1 : Nat} {Xy2 : Int32} {y2 : Int} {Xy3 : Int32} {y3 : Int} (H : zH A h s) (ay0 : y0 < 1) (ay1 : y1 < 2) (ay2 : zx Xy2 y2) (ay3 : zx Xy3 y3), zq 0 A (k4 (za_1 y0) (za_5 y1) Xy2 Xy3 h) (zk4 y0 y1 y2 y3 s)) {A : Nat} {h : xrH} {s : zS} {x0 : Nat} {x1 : Nat} {Xx2 : Int32} {x2 : Int} {Xx3 : Int32} {x3 : Int} {Xx5 : Int32} {x5 : Int} (H : zH A h s) (ax0 : x0 < 1) (ax1 : x1 < 2) (ax2 : zx Xx2 x2) (ax3 : zx Xx3 x3) (ax5 : zx Xx5 x5) : zq 0 A (xf_16_43 k4 (za_1 x0) (za_5 x1) Xx2 Xx3 Xx5 h) (zf_16_43 zk4 x0 x1 x2 x3 x5 s) := by
  unfold xf_16_43 zf_16_43
  exact (zq_b (zr_320 H ax1) (zq_b (zr_196 H ax1) (zq_a (zw_196 H ax1) ax3 (zq_eq (zx_s H 196 x1 x3) ax5 (zq_g fun g1 => (hk4 H ax0 ax1 ax2 (zadd_x ax3 zc32_1 g1))) (zq_c (zc_1 H ax0) (zq_c_v (zg_11 H ax0 ax1 ax3 ax5) fun _ h104 s3 _ H2 => (zq_g fun g4 => (zq_g fun g5 => (hk4 H2 ax0 ax1 (zadd_x ax2 zc32_1 g4) (zadd_x ax3 zc32_1 g5))))))))))
theorem zg_16_4 : ∀ (n : Nat) {A : Nat} {h : xrH} {s : zS} {x0 : Nat} {x1 : Nat} {Xx2 : Int32} {x2 : Int} {Xx3 : Int32} {x3 : Int} (H : zH A h s) (ax0 : x0 < 1) (ax1 : x1 < 2) (ax2 : zx Xx2 x2) (ax3 : zx Xx3 x3), zq 0 A (xf_16_4 n (za_1 x0) (za_5 x1) Xx2 Xx3 h) (zf_16_4 n x0 x1 x2 x3 s) := by
  intro n
  induction n with
  | zero =>
    intros
    exact zq_none
  | succ n ih =>
    intro A h s x0 x1 Xx2 x2 Xx3 x3 H ax0 ax1 ax2 ax3
    rw [xf_16_4, zf_16_4]
    exact (zq_b (zr_320 H ax1) (zq_b (zi_199 H ax1) (zq_ge ax3 (zx_s H 199 x1 0) (zq_i H ax2) (zq_c (zc_5 H ax1) (zq_c_i (zg_76 H ax1 ax3) fun v3 h103 s2 hv3 H1 => (zq_c (zc_5 H1 ax1) (zq_c_i (zg_78 H1 ax1 ax3) fun v6 h105 s5 hv6 H4 => (zq_eq (zx_r hv3) zc8_35 (zg_16_43 (fun y0 y1 y2 y3 y => (xf_16_4 n y0 y1 y2 y3 y)) (fun y0 y1 y2 y3 y => (zf_16_4 n y0 y1 y2 y3 y)) (fun H ay0 ay1 ay2 ay3 => (ih H ay0 ay1 ay2 ay3)) H4 ax0 ax1 ax2 ax3 (zx_r hv6)) (zq_ne (zx_r hv3) zc8_37 (zq_g fun g7 => (ih H4 ax0 ax1 ax2 (zadd_x ax3 zc32_1 g7))) (zg_16_43 (fun y0 y1 y2 y3 y => (xf_16_4 n y0 y1 y2 y3 y)) (fun y0 y1 y2 y3 y => (zf_16_4 n y0 y1 y2 y3 y)) (fun H ay0 ay1 ay2 ay3 => (ih H ay0 ay1 ay2 ay3)) H4 ax0 ax1 ax2 ax3 (zx_r hv6)))))))))))
theorem zg_16 {A : Nat} {h : xrH} {s : zS} {x0 : Nat} {x1 : Nat} (H : zH A h s) (ax0 : x0 < 1) (ax1 : x1 < 2) : zq 0 A (xf_16 (za_1 x0) (za_5 x1) h) (zf_16 x0 x1 s) := by
  unfold xf_16 zf_16
  exact (zg_16_4 xfu H ax0 ax1 zc32_0 zc32_0)
theorem zg_15_2 : ∀ (n : Nat) {A : Nat} {h : xrH} {s : zS} {x0 : Nat} {x1 : Nat} {Xx2 : Option Nat} {x2 : Int} {Xx3 : Int32} {x3 : Int} (H : zH A h s) (ax0 : x0 < 1) (ax1 : x1 < 2) (ax2 : zo Xx2 x2) (ax3 : zx Xx3 x3), zq 0 A (xf_15_2 n (za_1 x0) (za_5 x1) Xx2 Xx3 h) (zf_15_2 n x0 x1 x2 x3 s) := by
  intro n
  induction n with
  | zero =>
    intros
    exact zq_none
  | succ n ih =>
    intro A h s x0 x1 Xx2 x2 Xx3 x3 H ax0 ax1 ax2 ax3
    rw [xf_15_2, zf_15_2]
    exact (zq_gt ax3 zc32_4 (zq_z H zc32_0) (zq_b (zr_64 H ax0) (zq_c (zc_5 H ax1) (zq_c_i (zg_56 H ax1 ax2 (by decide) zc32_0 zc32_0) fun v3 h102 s2 hv3 H1 => (zq_ne (zx_r hv3) zcn_0 (zq_c (zc_1 H1 ax0) (zq_c_i (zg_16 H1 ax0 ax1) fun v6 h104 s5 hv6 H4 => (zq_ne (zx_r hv6) zcn_0 (zq_g fun g7 => (ih H4 ax0 ax1 ax2 (zadd_x ax3 zc32_1 g7))) (zq_z H4 zc32_1)))) (zq_z H1 zc32_0))))))
theorem zg_15 {A : Nat} {h : xrH} {s : zS} {x0 : Nat} {x1 : Nat} {Xx2 : Option Nat} {x2 : Int} (H : zH A h s) (ax0 : x0 < 1) (ax1 : x1 < 2) (ax2 : zo Xx2 x2) : zq 0 A (xf_15 (za_1 x0) (za_5 x1) Xx2 h) (zf_15 x0 x1 x2 s) := by
  unfold xf_15 zf_15
  exact (zg_15_2 xfu H ax0 ax1 ax2 zc32_0)
theorem zg_19_2 : ∀ (n : Nat) {A : Nat} {h : xrH} {s : zS} {x0 : Nat} {x1 : Nat} {Xx2 : Int32} {x2 : Int} {Xx3 : Int32} {x3 : Int} (H : zH A h s) (ax0 : x0 < 1) (ax1 : x1 < 2) (ax2 : zx Xx2 x2) (ax3 : zx Xx3 x3), zq 0 A (xf_19_2 n (za_1 x0) (za_3 x1) Xx2 Xx3 h) (zf_19_2 n x0 x1 x2 x3 s) := by
  intro n
  induction n with
  | zero =>
    intros
    exact zq_none
  | succ n ih =>
    intro A h s x0 x1 Xx2 x2 Xx3 x3 H ax0 ax1 ax2 ax3
    rw [xf_19_2, zf_19_2]
    exact (zq_c (zc_3 H ax1) (zq_c_i (zg_27 H ax1 ax3) fun v3 h101 s2 hv3 H1 => (zq_eq (zx_r hv3) zcn_0 (zq_z H1 zc32_0) (zq_b (zr_194 H1 ax1) (zq_a (zw_194 H1 ax1) ax3 (zq_b (zr_194 H1 ax1) (zq_a (zw_194 H1 ax1) ax2 (zq_b (zr_195 H1 ax1) (zq_a (zw_195 H1 ax1) ax2 (zq_g fun g4 => (zq_ge (zx_s H1 194 x1 x3) (zadd_x (zx_s H1 194 x1 x2) (zx_s H1 195 x1 x2) g4) (zq_z H1 zc32_0) (zq_b (zr_65 H1 ax0) (zq_a (zw_65 H1 ax0) ax3 (zq_eq (zx_s H1 65 x0 x3) zcn_0 (zq_g fun g5 => (ih H1 ax0 ax1 ax2 (zadd_x ax3 zc32_1 g5))) (zq_z H1 zc32_1)))))))))))))))
theorem zg_19 {A : Nat} {h : xrH} {s : zS} {x0 : Nat} {x1 : Nat} {Xx2 : Int32} {x2 : Int} (H : zH A h s) (ax0 : x0 < 1) (ax1 : x1 < 2) (ax2 : zx Xx2 x2) : zq 0 A (xf_19 (za_1 x0) (za_3 x1) Xx2 h) (zf_19 x0 x1 x2 s) := by
  unfold xf_19 zf_19
  exact (zg_19_2 xfu H ax0 ax1 ax2 ax2)
theorem zg_18_2 : ∀ (n : Nat) {A : Nat} {h : xrH} {s : zS} {x0 : Nat} {x1 : Nat} {Xx2 : Int32} {x2 : Int} (H : zH A h s) (ax0 : x0 < 1) (ax1 : x1 < 2) (ax2 : zx Xx2 x2), zq 0 A (xf_18_2 n (za_1 x0) (za_5 x1) Xx2 h) (zf_18_2 n x0 x1 x2 s) := by
  intro n
  induction n with
  | zero =>
    intros
    exact zq_none
  | succ n ih =>
    intro A h s x0 x1 Xx2 x2 H ax0 ax1 ax2
    rw [xf_18_2, zf_18_2]
    exact (zq_b (zr_320 H ax1) (zq_b (zi_199 H ax1) (zq_ge ax2 (zx_s H 199 x1 0) (zq_i H zc32_m1) (zq_b (zr_65 H ax0) (zq_a (zw_65 H ax0) ax2 (zq_eq (zx_s H 65 x0 x2) zcn_0 (zq_g fun g1 => (ih H ax0 ax1 (zadd_x ax2 zc32_1 g1))) (zq_b (zr_320 H ax1) (zq_c (zc_5 H ax1) (zq_c_i (zg_77 H ax1 ax2) fun v4 h106 s3 hv4 H2 => (zq_c (zc_1 H2 ax0) (zq_c_i (zg_19 H2 ax0 ax1 (zx_r hv4)) fun v7 h108 s6 hv7 H5 => (zq_ne (zx_r hv7) zcn_0 (zq_g fun g8 => (ih H5 ax0 ax1 (zadd_x ax2 zc32_1 g8))) (zq_i H5 ax2)))))))))))))
theorem zg_18 {A : Nat} {h : xrH} {s : zS} {x0 : Nat} {x1 : Nat} (H : zH A h s) (ax0 : x0 < 1) (ax1 : x1 < 2) : zq 0 A (xf_18 (za_1 x0) (za_5 x1) h) (zf_18 x0 x1 s) := by
  unfold xf_18 zf_18
  exact (zg_18_2 xfu H ax0 ax1 zc32_0)
theorem zg_17_52 (k10 : Nat → Nat → Nat → Int32 → Int32 → xrH → xrR) (zk10 : Nat → Nat → Nat → Int → Int → zS → zR) (hk10 : ∀ {A : Nat} {h : xrH} {s : zS} {y0 : Nat} {y1 : Nat} {y2 : Nat} {Xy3 : Int32} {y3 : Int} {Xy4 : Int32} {y4 : Int} (H : zH A h s) (ay0 : y0 < 1) (ay1 : y1 < 2) (ay2 : y2 < 2) (ay3 : zx Xy3 y3) (ay4 : zx Xy4 y4), zq 0 A (k10 (za_1 y0) (za_5 y1) (za_3 y2) Xy3 Xy4 h) (zk10 y0 y1 y2 y3 y4 s)) {A : Nat} {h : xrH} {s : zS} {x0 : Nat} {x1 : Nat} {x2 : Nat} {Xx3 : Int32} {x3 : Int} {Xx4 : Int32} {x4 : Int} {s0 : Nat} {Xs1 : Int32} {s1 : Int} {Xs2 : Int32} {s2 : Int} (H : zH A h s) (ax0 : x0 < 1) (ax1 : x1 < 2) (ax2 : x2 < 2) (ax3 : zx Xx3 x3) (ax4 : zx Xx4 x4) (as0 : s0 < 1) (as1 : zx Xs1 s1) (as2 : zx Xs2 s2) : zq 0 A (xf_17_52 k10 (za_1 x0) (za_5 x1) (za_3 x2) Xx3 Xx4 (zy_65 s0) Xs1 Xs2 h) (zf_17_52 zk10 x0 x1 x2 x3 x4 s0 s1 s2 s) := by
  unfold xf_17_52 zf_17_52
  exact (zq_Wz (fun hl hb => zwp_65 H as0 as1 as2 hb hl) fun h101 s2 H1 => (zq_b (zr_65 H1 ax0) (zq_a (zw_65 H1 ax0) ax4 (zq_eq (zx_s H1 65 x0 x4) zcn_0 (zq_g fun g3 => (zq_g fun g4 => (hk10 H1 ax0 ax1 ax2 (zadd_x ax3 zc32_0 g3) (zadd_x ax4 zc32_1 g4)))) (zq_g fun g5 => (zq_g fun g6 => (hk10 H1 ax0 ax1 ax2 (zadd_x ax3 zc32_1 g5) (zadd_x ax4 zc32_1 g6))))))))
theorem zg_17_80 : ∀ (n : Nat) {A : Nat} {h : xrH} {s : zS} {x0 : Nat} {x1 : Nat} {Xx4 : Int32} {x4 : Int} (H : zH A h s) (ax0 : x0 < 1) (ax1 : x1 < 2) (ax4 : zx Xx4 x4), zq 0 A (xf_17_80 n (za_1 x0) (za_5 x1) Xx4 h) (zf_17_80 n x0 x1 x4 s) := by
  intro n
  induction n with
  | zero =>
    intros
    exact zq_none
  | succ n ih =>
    intro A h s x0 x1 Xx4 x4 H ax0 ax1 ax4
    rw [xf_17_80, zf_17_80]
    exact (zq_le ax4 zcn_0 (zq_z H zc32_1) (zq_c (zc_1 H ax0) (zq_c_i (zg_18 H ax0 ax1) fun v3 h101 s2 hv3 H1 => (zq_ne (zx_r hv3) zc32_m1 (zq_c (zc_5 H1 ax1) (zq_c_i (zg_78 H1 ax1 (zx_r hv3)) fun v6 h103 s5 hv6 H4 => (zq_c (zc_1 H4 ax0) (zq_c_v (zg_11 H4 ax0 ax1 (zx_r hv3) (zx_r hv6)) fun _ h105 s8 _ H7 => (zq_b (zr_65 H7 ax0) (zq_Wz (fun hl hb => zwp_65 H7 ax0 (zx_r hv3) zc32_0 hb hl) fun h107 s10 H9 => (zq_g fun g11 => (ih H9 ax0 ax1 (zadd_x ax4 zc32_m1 g11))))))))) (zq_z H1 zc32_0)))))
theorem zg_17_10 : ∀ (n : Nat) {A : Nat} {h : xrH} {s : zS} {x0 : Nat} {x1 : Nat} {x2 : Nat} {Xx3 : Int32} {x3 : Int} {Xx4 : Int32} {x4 : Int} (H : zH A h s) (ax0 : x0 < 1) (ax1 : x1 < 2) (ax2 : x2 < 2) (ax3 : zx Xx3 x3) (ax4 : zx Xx4 x4), zq 0 A (xf_17_10 n (za_1 x0) (za_5 x1) (za_3 x2) Xx3 Xx4 h) (zf_17_10 n x0 x1 x2 x3 x4 s) := by
  intro n
  induction n with
  | zero =>
    intros
    exact zq_none
  | succ n ih =>
    intro A h s x0 x1 x2 Xx3 x3 Xx4 x4 H ax0 ax1 ax2 ax3 ax4
    rw [xf_17_10, zf_17_10]
    exact (zq_b (zi_199 H ax2) (zq_ge ax4 (zx_s H 199 x2 0) (zg_17_80 xfu H ax0 ax1 ax3) (zq_c (zc_5 H ax1) (zq_c_i (zg_76 H ax1 ax4) fun v3 h102 s2 hv3 H1 => (zq_b (zr_65 H1 ax0) (zq_eq (zx_r hv3) zc8_43 (zg_17_52 (fun y0 y1 y2 y3 y4 y => (xf_17_10 n y0 y1 y2 y3 y4 y)) (fun y0 y1 y2 y3 y4 y => (zf_17_10 n y0 y1 y2 y3 y4 y)) (fun H ay0 ay1 ay2 ay3 ay4 => (ih H ay0 ay1 ay2 ay3 ay4)) H1 ax0 ax1 ax2 ax3 ax4 ax0 ax4 zc32_1) (zq_ne (zx_r hv3) zc8_94 (zg_17_52 (fun y0 y1 y2 y3 y4 y => (xf_17_10 n y0 y1 y2 y3 y4 y)) (fun y0 y1 y2 y3 y4 y => (zf_17_10 n y0 y1 y2 y3 y4 y)) (fun H ay0 ay1 ay2 ay3 ay4 => (ih H ay0 ay1 ay2 ay3 ay4)) H1 ax0 ax1 ax2 ax3 ax4 ax0 ax4 zc32_0) (zg_17_52 (fun y0 y1 y2 y3 y4 y => (xf_17_10 n y0 y1 y2 y3 y4 y)) (fun y0 y1 y2 y3 y4 y => (zf_17_10 n y0 y1 y2 y3 y4 y)) (fun H ay0 ay1 ay2 ay3 ay4 => (ih H ay0 ay1 ay2 ay3 ay4)) H1 ax0 ax1 ax2 ax3 ax4 ax0 ax4 zc32_1))))))))
theorem zg_17 {A : Nat} {h : xrH} {s : zS} {x0 : Nat} {x1 : Nat} (H : zH A h s) (ax0 : x0 < 1) (ax1 : x1 < 2) : zq 0 A (xf_17 (za_1 x0) (za_5 x1) h) (zf_17 x0 x1 s) := by
  unfold xf_17 zf_17
  exact (zq_b (zr_320 H ax1) (zg_17_10 xfu H ax0 ax1 ax1 zc32_0 zc32_0))
theorem zg_80_4 : ∀ (n : Nat) {A : Nat} {h : xrH} {s : zS} {x0 : Nat} {Xx1 : Int32} {x1 : Int} {Xx2 : Int32} {x2 : Int} (H : zH A h s) (ax0 : x0 < 2) (ax1 : zx Xx1 x1) (ax2 : zx Xx2 x2), zq 0 A (xf_80_4 n (za_5 x0) Xx1 Xx2 h) (zf_80_4 n x0 x1 x2 s) := by
  intro n
  induction n with
  | zero =>
    intros
    exact zq_none
  | succ n ih =>
    intro A h s x0 Xx1 x1 Xx2 x2 H ax0 ax1 ax2
    rw [xf_80_4, zf_80_4]
    exact (zq_b (zr_320 H ax0) (zq_b (zi_199 H ax0) (zq_ge ax2 (zx_s H 199 x0 0) (zq_i H ax1) (zq_b (zr_320 H ax0) (zq_b (zr_196 H ax0) (zq_a (zw_196 H ax0) ax2 (zq_c (zc_5 H ax0) (zq_c_i (zg_78 H ax0 ax2) fun v3 h106 s2 hv3 H1 => (zq_ne (zx_s H 196 x0 x2) (zx_r hv3) (zq_g fun g4 => (zq_g fun g5 => (ih H1 ax0 (zadd_x ax1 zc32_1 g4) (zadd_x ax2 zc32_1 g5)))) (zq_g fun g6 => (zq_g fun g7 => (ih H1 ax0 (zadd_x ax1 zc32_0 g6) (zadd_x ax2 zc32_1 g7)))))))))))))
theorem zg_80 {A : Nat} {h : xrH} {s : zS} {x0 : Nat} (H : zH A h s) (ax0 : x0 < 2) : zq 0 A (xf_80 (za_5 x0) h) (zf_80 x0 s) := by
  unfold xf_80 zf_80
  exact (zg_80_4 xfu H ax0 zc32_0 zc32_0)
theorem zg_20 {A : Nat} {h : xrH} {s : zS} {x0 : Nat} {x1 : Nat} {Xx2 : Option Nat} {x2 : Int} (H : zH A h s) (ax0 : x0 < 1) (ax1 : x1 < 2) (ax2 : zo Xx2 x2) : zq 0 A (xf_20 (za_1 x0) (za_5 x1) Xx2 h) (zf_20 x0 x1 x2 s) := by
  unfold xf_20 zf_20
  exact (zq_b (zr_64 H ax0) (zq_c (zc_5 H ax1) (zq_c_i (zg_56 H ax1 ax2 (by decide) zc32_0 zc32_0) fun v3 h102 s2 hv3 H1 => (zq_eq (zx_r hv3) zcn_0 (zq_z H1 zc32_0) (zq_c (zc_5 H1 ax1) (zq_c_i (zg_80 H1 ax1) fun v6 h104 s5 hv6 H4 => (zq_ne (zx_r hv6) zcn_0 (zq_z H4 zc32_0) (zq_z H4 zc32_1))))))))
theorem zg_88 {A : Nat} {h : xrH} {s : zS} {x0 : Nat} (H : zH A h s) (ax0 : x0 < 1) : zq 0 A (xf_88 (za_6 x0) h) (zf_88 x0 s) := by
  unfold xf_88 zf_88
  exact (zq_b (zi_387 H ax0) (zq_lt (zx_s H 387 x0 0) zc8_30 (zq_z H zc32_0) (zq_z H zc32_1)))
theorem zg_93_47 : ∀ (n : Nat) {A : Nat} {h : xrH} {s : zS} {x0 : Nat} {x1 : Nat} {Xx2 : Int32} {x2 : Int} (H : zH A h s) (ax0 : x0 < 1) (ax1 : x1 < 3) (ax2 : zx Xx2 x2), zq 0 A (xf_93_47 n (za_6 x0) (za_0 x1) Xx2 h) (zf_93_47 n x0 x1 x2 s) := by
  intro n
  induction n with
  | zero =>
    intros
    exact zq_none
  | succ n ih =>
    intro A h s x0 x1 Xx2 x2 H ax0 ax1 ax2
    rw [xf_93_47, zf_93_47]
    exact (zq_b (zi_1 H ax1) (zq_ge ax2 (zx_s H 1 x1 0) (zq_b (zi_387 H ax0) (zq_P (zpi_388 H ax0 (zx_s H 387 x0 0)) fun h103 s2 H1 => (zq_b (zi_387 H1 ax0) (zq_g fun g5 => (zq_P (zpi_387 H1 ax0 (zadd_x (zx_s H1 387 x0 0) zc32_1 g5)) fun h105 s4 H3 => (zq_b (zi_388 H3 ax0) (zq_i H3 (zx_s H3 388 x0 0)))))))) (zq_b (zr_384 H ax0) (zq_b (zi_387 H ax0) (zq_c (zc_0 H ax1) (zq_c_i (zg_2 H ax1 ax2) fun v8 h109 s7 hv8 H6 => (zq_g fun g9 => (zq_g fun g10 => (zq_W (fun hl => zwp_384 H6 ax0 (zadd_x (zmul_x (zx_s H 387 x0 0) zc16_160 g9) ax2 g10) (zx_r hv8) hl) fun h111 s12 H11 => (zq_g fun g13 => (ih H11 ax0 ax1 (zadd_x ax2 zc32_1 g13))))))))))))
theorem zg_93 {A : Nat} {h : xrH} {s : zS} {x0 : Nat} {x1 : Nat} (H : zH A h s) (ax0 : x0 < 1) (ax1 : x1 < 3) : zq 0 A (xf_93 (za_6 x0) (za_0 x1) h) (zf_93 x0 x1 s) := by
  unfold xf_93 zf_93
  exact (zq_c (zc_6 H ax0) (zq_c_i (zg_88 H ax0) fun v3 h101 s2 hv3 H1 => (zq_ne (zx_r hv3) zcn_0 (zq_i H1 zc32_m1) (zq_b (zi_1 H1 ax1) (zq_le (zx_s H1 1 x1 0) zc16_160 (zq_b (zr_385 H1 ax0) (zq_b (zi_387 H1 ax0) (zq_b (zi_1 H1 ax1) (zq_W (fun hl => zwp_385 H1 ax0 (zx_s H1 387 x0 0) (zx_s H1 1 x1 0) hl) fun h107 s5 H4 => (zq_b (zr_386 H4 ax0) (zq_b (zi_387 H4 ax0) (zq_b (zi_388 H4 ax0) (zq_W (fun hl => zwp_386 H4 ax0 (zx_s H4 387 x0 0) (zx_s H4 388 x0 0) hl) fun h111 s7 H6 => (zg_93_47 xfu H6 ax0 ax1 zc32_0))))))))) (zq_i H1 zc32_m1))))))
theorem zg_131 {A : Nat} {h : xrH} {s : zS} {x0 : Nat} (H : zH A h s) (ax0 : x0 < 1) : zq 0 A (xf_131 (za_8 x0) h) (zf_131 x0 s) := by
  unfold xf_131 zf_131
  exact (zq_P (zpi_523 H ax0 zc8_m3) fun h101 s2 H1 => (zq_b (zr_516 H1 ax0) (zq_b (zr_513 H1 ax0) (zq_c (zc_6 H1 (by decide)) (zq_c_i (zg_93 H1 (by decide) (by decide)) fun v5 h104 s4 hv5 H3 => (zq_i H3 (zx_r hv5)))))))
