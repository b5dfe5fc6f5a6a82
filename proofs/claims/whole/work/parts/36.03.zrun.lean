/-! the methods do what their functions over the store do -/
theorem zg_226 {A : Nat} {h : xrH} {s : zS} {x0 : Nat} {Xx1 : Int32} {x1 : Int} {Xx2 : Int32} {x2 : Int} (H : zH A h s) (ax0 : x0 < 1) (ax1 : zx Xx1 x1) (ax2 : zx Xx2 x2) : zq 0 A (xf_226 (za_9 x0) Xx1 Xx2 h) (zf_226 x0 x1 x2 s) := by
  unfold xf_226 zf_226
  exact (zq_c (zc_9 H ax0) (zq_c_i (zg_153 H ax0 ax1) fun v3 h101 s2 hv3 H1 => (zq_eq (zx_r hv3) zcn_0 (zg_226_22 H1 ax0 ax1 ax2 ax0 zc32_1) (zq_c (zc_9 H1 ax0) (zq_c_i (zg_153 H1 ax0 ax2) fun v6 h103 s5 hv6 H4 => (zq_eq (zx_r hv6) zcn_0 (zg_226_22 H4 ax0 ax1 ax2 ax0 zc32_1) (zg_226_22 H4 ax0 ax1 ax2 ax0 zc32_0)))))))
theorem zg_4 {A : Nat} {h : xrH} {s : zS} {x0 : Nat} {Xx1 : Int32} {x1 : Int} (H : zH A h s) (ax0 : x0 < 3) (ax1 : zx Xx1 x1) : zq 1 A (xf_4 (za_0 x0) Xx1 h) (zf_4 x0 x1 s) := by
  unfold xf_4 zf_4
  exact (zq_b (zi_1 H ax0) (zq_b (zr_0 H ax0) (zq_b (zn_eq (zw_0 H ax0)) (zq_ge (zx_s H 1 x0 0) (zx_nB) (zq_v H) (zq_b (zr_0 H ax0) (zq_b (zi_1 H ax0) (zq_W (fun hl => zwp_0 H ax0 (zx_s H 1 x0 0) ax1 hl) fun h106 s2 H1 => (zq_b (zi_1 H1 ax0) (zq_g fun g5 => (zq_P (zpi_1 H1 ax0 (zadd_x (zx_s H1 1 x0 0) zc32_1 g5)) fun h108 s4 H3 => (zq_v H3)))))))))))
theorem zg_105_49 : ∀ (n : Nat) {A : Nat} {h : xrH} {s : zS} {x0 : Nat} {Xx1 x1 : Int64} {Xx3 : Int32} {x3 : Int} {Xx4 : Int32} {x4 : Int} (H : zH A h s) (ax0 : x0 < 1) (ax1 : Xx1 = x1) (ax3 : zx Xx3 x3) (ax4 : zx Xx4 x4), zq 0 A (xf_105_49 n (za_8 x0) Xx1 Xx3 Xx4 h) (zf_105_49 n x0 x1 x3 x4 s) := by
  intro n
  induction n with
  | zero =>
    intros
    exact zq_none
  | succ n ih =>
    intro A h s x0 Xx1 x1 Xx3 x3 Xx4 x4 H ax0 ax1 ax3 ax4
    rw [xf_105_49, zf_105_49]
    exact (zq_ge ax4 ax3 (zq_b (zr_512 H ax0) (zq_b (zi_1 H (by decide)) (zq_i H (zx_s H 1 0 0)))) (zq_b (zr_512 H ax0) (zq_c (zc_0 H (by decide)) (zq_g fun g1 => (zq_c_v (zg_4 H (by decide) (zand_x (zx_l2i (ly_ushr ax1 (zmul_x zc8_8 ax4 g1))) zc16_255)) fun _ h104 s3 _ H2 => (zq_g fun g4 => (ih H2 ax0 ax1 ax3 (zadd_x ax4 zc32_1 g4))))))))
theorem zg_105 {A : Nat} {h : xrH} {s : zS} {x0 : Nat} {Xx1 x1 : Int64} {Xx3 : Int32} {x3 : Int} (H : zH A h s) (ax0 : x0 < 1) (ax1 : Xx1 = x1) (ax3 : zx Xx3 x3) : zq 0 A (xf_105 (za_8 x0) Xx1 Xx3 h) (zf_105 x0 x1 x3 s) := by
  unfold xf_105 zf_105
  exact (zq_lt ax3 zc32_1 (zq_t H) (zq_le ax3 zc8_8 (zq_b (zr_512 H ax0) (zq_b (zi_1 H (by decide)) (zq_g fun g1 => (zq_le (zadd_x (zx_s H 1 0 0) ax3 g1) zc16_200 (zg_105_49 xfu H ax0 ax1 ax3 zc32_0) (zq_t H))))) (zq_t H)))
theorem zg_231 {A : Nat} {h : xrH} {s : zS} {x0 : Nat} {Xx1 x1 : Int64} {Xx3 : Int32} {x3 : Int} {x4 : Nat} (H : zH A h s) (ax0 : x0 < 1) (ax1 : Xx1 = x1) (ax3 : zx Xx3 x3) (ax4 : x4 < 1) : zq 0 A (xf_231 (za_8 x0) Xx1 Xx3 (zy_1000 x4) h) (zf_231 x0 x1 x3 x4 s) := by
  unfold xf_231 zf_231
  exact (zq_c (zc_8 H ax0) (zq_ch (zg_105 H ax0 ax1 ax3) (fun v3 h101 s2 hv3 H1 => (zq_W (fun hl => zwp_1000 H1 ax4 zc32_0 (zx_r hv3) hl) fun h103 s5 H4 => (zq_i H4 zc32_0))) fun e h104 s7 H6 => match e with | 0 => (zq_i H6 zc32_1) | 1 => (zq_i H6 zc32_2) | 2 => (zq_ex H6) | e + 3 => (zq_ex H6)))
theorem zg_229 {A : Nat} {h : xrH} {s : zS} {Xx0 : Int32} {x0 : Int} {Xx1 : Int32} {x1 : Int} (H : zH A h s) (ax0 : zx Xx0 x0) (ax1 : zx Xx1 x1) : zq 0 A (xf_229 Xx0 Xx1 h) (zf_229 x0 x1 s) := by
  unfold xf_229 zf_229
  exact (zq_gt ax0 ax1 (zq_i H ax1) (zq_i H ax0))
theorem zg_5_18 : ∀ (n : Nat) {A : Nat} {h : xrH} {s : zS} {x0 : Nat} {x1 : Nat} {Xx2 : Int32} {x2 : Int} (H : zH A h s) (ax0 : x0 < 3) (ax1 : x1 < 3) (ax2 : zx Xx2 x2), zq 1 A (xf_5_18 n (za_0 x0) (za_0 x1) Xx2 h) (zf_5_18 n x0 x1 x2 s) := by
  intro n
  induction n with
  | zero =>
    intros
    exact zq_none
  | succ n ih =>
    intro A h s x0 x1 Xx2 x2 H ax0 ax1 ax2
    rw [xf_5_18, zf_5_18]
    exact (zq_b (zi_1 H ax0) (zq_ge ax2 (zx_s H 1 x0 0) (zq_v H) (zq_b (zr_0 H ax0) (zq_b (zr_0 H ax1) (zq_a (zw_0 H ax1) ax2 (zq_W (fun hl => zwp_0 H ax0 ax2 (zx_s H 0 x1 x2) hl) fun h105 s2 H1 => (zq_g fun g3 => (ih H1 ax0 ax1 (zadd_x ax2 zc32_1 g3)))))))))
theorem zg_5 {A : Nat} {h : xrH} {s : zS} {x0 : Nat} {x1 : Nat} (H : zH A h s) (ax0 : x0 < 3) (ax1 : x1 < 3) : zq 1 A (xf_5 (za_0 x0) (za_0 x1) h) (zf_5 x0 x1 s) := by
  unfold xf_5 zf_5
  exact (zq_b (zi_1 H ax1) (zq_b (zr_0 H ax0) (zq_b (zn_eq (zw_0 H ax0)) (zq_c_i (zg_229 H (zx_s H 1 x1 0) (zx_nB)) fun v3 h104 s2 hv3 H1 => (zq_P (zpi_1 H1 ax0 (zx_r hv3)) fun h106 s5 H4 => (zg_5_18 xfu H4 ax0 ax1 zc32_0))))))
theorem zg_88 {A : Nat} {h : xrH} {s : zS} {x0 : Nat} (H : zH A h s) (ax0 : x0 < 1) : zq 0 A (xf_88 (za_6 x0) h) (zf_88 x0 s) := by
  unfold xf_88 zf_88
  exact (zq_b (zi_387 H ax0) (zq_lt (zx_s H 387 x0 0) zc8_30 (zq_z H zc32_0) (zq_z H zc32_1)))
theorem zg_93_47 : ∀ (n : Nat) {A : Nat} {h : xrH} {s : zS} {x0 : Nat} {x1 : Nat} {Xx2 : Int32} {x2 : Int} (H : zH A h s) (ax0 : x0 < 1) (ax1 : x1 < 3) (ax2 : zx Xx2 x2), zq 0 A (xf_93_47 n (za_6 x0) (za_0 x1) Xx2 h) (zf_93_47 n x0 x1 x2 s) := by
  intro n
  induction n with
  | zero =>
    intros
    exact zq_none
  | succ n ih =>
    intro A h s x0 x1 Xx2 x2 H ax0 ax1 ax2
    rw [xf_93_47, zf_93_47]
    exact (zq_b (zi_1 H ax1) (zq_ge ax2 (zx_s H 1 x1 0) (zq_b (zi_387 H ax0) (zq_P (zpi_388 H ax0 (zx_s H 387 x0 0)) fun h103 s2 H1 => (zq_b (zi_387 H1 ax0) (zq_g fun g5 => (zq_P (zpi_387 H1 ax0 (zadd_x (zx_s H1 387 x0 0) zc32_1 g5)) fun h105 s4 H3 => (zq_b (zi_388 H3 ax0) (zq_i H3 (zx_s H3 388 x0 0)))))))) (zq_b (zr_384 H ax0) (zq_b (zi_387 H ax0) (zq_c (zc_0 H ax1) (zq_c_i (zg_2 H ax1 ax2) fun v8 h109 s7 hv8 H6 => (zq_g fun g9 => (zq_g fun g10 => (zq_W (fun hl => zwp_384 H6 ax0 (zadd_x (zmul_x (zx_s H 387 x0 0) zc16_160 g9) ax2 g10) (zx_r hv8) hl) fun h111 s12 H11 => (zq_g fun g13 => (ih H11 ax0 ax1 (zadd_x ax2 zc32_1 g13))))))))))))
theorem zg_93 {A : Nat} {h : xrH} {s : zS} {x0 : Nat} {x1 : Nat} (H : zH A h s) (ax0 : x0 < 1) (ax1 : x1 < 3) : zq 0 A (xf_93 (za_6 x0) (za_0 x1) h) (zf_93 x0 x1 s) := by
  unfold xf_93 zf_93
  exact (zq_c (zc_6 H ax0) (zq_c_i (zg_88 H ax0) fun v3 h101 s2 hv3 H1 => (zq_ne (zx_r hv3) zcn_0 (zq_i H1 zc32_m1) (zq_b (zi_1 H1 ax1) (zq_le (zx_s H1 1 x1 0) zc16_160 (zq_b (zr_385 H1 ax0) (zq_b (zi_387 H1 ax0) (zq_b (zi_1 H1 ax1) (zq_W (fun hl => zwp_385 H1 ax0 (zx_s H1 387 x0 0) (zx_s H1 1 x1 0) hl) fun h107 s5 H4 => (zq_b (zr_386 H4 ax0) (zq_b (zi_387 H4 ax0) (zq_b (zi_388 H4 ax0) (zq_W (fun hl => zwp_386 H4 ax0 (zx_s H4 387 x0 0) (zx_s H4 388 x0 0) hl) fun h111 s7 H6 => (zg_93_47 xfu H6 ax0 ax1 zc32_0))))))))) (zq_i H1 zc32_m1))))))
theorem zg_131 {A : Nat} {h : xrH} {s : zS} {x0 : Nat} (H : zH A h s) (ax0 : x0 < 1) : zq 0 A (xf_131 (za_8 x0) h) (zf_131 x0 s) := by
  unfold xf_131 zf_131
  exact (zq_P (zpi_523 H ax0 zc8_m3) fun h101 s2 H1 => (zq_b (zr_516 H1 ax0) (zq_b (zr_513 H1 ax0) (zq_c (zc_6 H1 (by decide)) (zq_c_i (zg_93 H1 (by decide) (by decide)) fun v5 h104 s4 hv5 H3 => (zq_i H3 (zx_r hv5)))))))
theorem zg_106_44 {A : Nat} {h : xrH} {s : zS} {x0 : Nat} {Xx1 : Int32} {x1 : Int} (H : zH A h s) (ax0 : x0 < 1) (ax1 : zx Xx1 x1) : zq 0 A (xf_106_44 (za_8 x0) Xx1 h) (zf_106_44 x0 x1 s) := by
  unfold xf_106_44 zf_106_44
  exact (zq_b (zr_512 H ax0) (zq_P (zpi_1 H (by decide) zc32_0) fun h102 s2 H1 => (zq_ne ax1 zcn_0 (zq_c (zc_8 H1 ax0) (zq_c_i (zg_131 H1 ax0) fun v5 h103 s4 hv5 H3 => (zq_i H3 (zx_r hv5)))) (zq_t H1))))
theorem zg_106_28 {A : Nat} {h : xrH} {s : zS} {x0 : Nat} {Xs0 : Int32} {s0 : Int} (H : zH A h s) (ax0 : x0 < 1) (as0 : zx Xs0 s0) : zq 0 A (xf_106_28 (za_8 x0) Xs0 h) (zf_106_28 x0 s0 s) := by
  unfold xf_106_28 zf_106_28
  exact (zq_eq as0 zcn_0 (zg_106_44 H ax0 as0) (zq_b (zr_513 H ax0) (zq_b (zr_512 H ax0) (zq_c (zc_0 H (by decide)) (zq_c_v (zg_5 H (by decide) (by decide)) fun _ h103 s2 _ H1 => (zg_106_44 H1 ax0 as0))))))
theorem zg_106 {A : Nat} {h : xrH} {s : zS} {x0 : Nat} (H : zH A h s) (ax0 : x0 < 1) : zq 0 A (xf_106 (za_8 x0) h) (zf_106 x0 s) := by
  unfold xf_106 zf_106
  exact (zq_b (zr_512 H ax0) (zq_b (zi_1 H (by decide)) (zq_gt (zx_s H 1 0 0) zc16_160 (zg_106_28 H ax0 zc32_0) (zq_b (zr_516 H ax0) (zq_c (zc_6 H (by decide)) (zq_c_i (zg_88 H (by decide)) fun v3 h104 s2 hv3 H1 => (zq_ne (zx_r hv3) zcn_0 (zg_106_28 H1 ax0 zc32_0) (zg_106_28 H1 ax0 zc32_1))))))))
theorem zg_232 {A : Nat} {h : xrH} {s : zS} {x0 : Nat} {x1 : Nat} (H : zH A h s) (ax0 : x0 < 1) (ax1 : x1 < 1) : zq 0 A (xf_232 (za_8 x0) (zy_1000 x1) h) (zf_232 x0 x1 s) := by
  unfold xf_232 zf_232
  exact (zq_c (zc_8 H ax0) (zq_ch (zg_106 H ax0) (fun v3 h101 s2 hv3 H1 => (zq_W (fun hl => zwp_1000 H1 ax1 zc32_0 (zx_r hv3) hl) fun h103 s5 H4 => (zq_i H4 zc32_0))) fun e h104 s7 H6 => match e with | 0 => (zq_ex H6) | 1 => (zq_i H6 zc32_1) | 2 => (zq_ex H6) | e + 3 => (zq_ex H6)))
theorem zg_38 {A : Nat} {h : xrH} {s : zS} {x0 : Nat} (H : zH A h s) (ax0 : x0 < 1) : zq 1 A (xf_38 (za_4 x0) h) (zf_38 x0 s) := by
  unfold xf_38 zf_38
  exact (zq_b (zi_258 H ax0) (zq_g fun g3 => (zq_P (zpi_258 H ax0 (zadd_x (zx_s H 258 x0 0) zc32_1 g3)) fun h102 s2 H1 => (zq_b (zi_258 H1 ax0) (zq_lt (zx_s H1 258 x0 0) zcn_0 (zq_P (zpi_259 H1 ax0 zc32_m1) fun h104 s5 H4 => (zq_v H4)) (zq_b (zi_258 H1 ax0) (zq_B (fun h1 => zr_256 H1 ax0 h1) fun b6 hb7 => (zq_b (zi_1 H1 hb7) (zq_ge (zx_s H1 258 x0 0) (zx_s H1 1 b6 0) (zq_P (zpi_259 H1 ax0 zc32_m1) fun h108 s9 H8 => (zq_v H8)) (zq_B (fun h1 => zr_256 H1 ax0 h1) fun b10 hb11 => (zq_b (zr_0 H1 hb11) (zq_b (zi_258 H1 ax0) (zq_a (zw_0 H1 hb11) (zx_s H1 258 x0 0) (zq_P (zpi_259 H1 ax0 (zx_s H1 0 b10 (s2.1 258 x0 0))) fun h113 s13 H12 => (zq_v H12)))))))))))))))
theorem zg_96 {A : Nat} {h : xrH} {s : zS} {x0 : Nat} (H : zH A h s) (ax0 : x0 < A) : zq 1 A (xf_96 (za_7 x0) h) (zf_96 x0 s) := by
  unfold xf_96 zf_96
  exact (zq_P (zpi_449 H ax0 zc32_0) fun h101 s2 H1 => (zq_P (zpi_450 H1 ax0 zc32_0) fun h102 s4 H3 => (zq_P (zpi_451 H3 ax0 zc32_0) fun h103 s6 H5 => (zq_v H5))))
theorem zg_37 {A : Nat} {h : xrH} {s : zS} {x0 : Nat} {x1 : Nat} {Xx2 : Option Nat} {x2 : Int} (H : zH A h s) (ax0 : x0 < 1) (ax1 : x1 < 3) (ax2 : zo Xx2 x2) : zq 1 A (xf_37 (za_4 x0) (za_0 x1) Xx2 h) (zf_37 x0 x1 x2 s) := by
  unfold xf_37 zf_37
  exact (zq_P (zpb_256 H ax0 ax1) fun h101 s2 H1 => (zq_P (zpt_257 H1 ax0 ax2) fun h102 s4 H3 => (zq_b (zo_257 H3 ax0) (zq_O H3 (zo_s H3 257 x0 0) fun q5 hq6 hA7 H8 => (zq_c (zc_7 H8 hq6) (zq_c_v (zg_96 H8 hq6) fun _ h105 s10 _ H9 => (zq_P (zpi_261 H9 ax0 zc32_0) fun h106 s12 H11 => (zq_P (zpi_258 H11 ax0 zc32_m1) fun h107 s14 H13 => (zq_c (zc_4 H13 ax0) (zq_c_v (zg_38 H13 ax0) fun _ h108 s16 _ H15 => (zq_v H15)))))))))))
theorem zg_39 {A : Nat} {h : xrH} {s : zS} {x0 : Nat} {Xx1 : Int32} {x1 : Int} (H : zH A h s) (ax0 : x0 < 1) (ax1 : zx Xx1 x1) : zq 0 A (xf_39 (za_4 x0) Xx1 h) (zf_39 x0 x1 s) := by
  unfold xf_39 zf_39
  exact (zq_b (zi_259 H ax0) (zq_eq (zx_s H 259 x0 0) ax1 (zq_c (zc_4 H ax0) (zq_c_v (zg_38 H ax0) fun _ h102 s2 _ H1 => (zq_z H1 zc32_1))) (zq_z H zc32_0)))
theorem zg_40 {A : Nat} {h : xrH} {s : zS} {x0 : Nat} (H : zH A h s) (ax0 : x0 < 1) : zq 0 A (xf_40 (za_4 x0) h) (zf_40 x0 s) := by
  unfold xf_40 zf_40
  exact (zq_b (zi_259 H ax0) (zq_lt (zx_s H 259 x0 0) zc8_65 (zq_z H zc32_0) (zq_b (zi_259 H ax0) (zq_gt (zx_s H 259 x0 0) zc8_90 (zq_z H zc32_0) (zq_b (zi_259 H ax0) (zq_eq (zx_s H 259 x0 0) zc8_87 (zq_z H zc32_0) (zq_z H zc32_1)))))))
theorem zg_97_2 : ∀ (n : Nat) {A : Nat} {h : xrH} {s : zS} {x0 : Nat} {Xx1 : Int32} {x1 : Int} {Xx2 : Int32} {x2 : Int} (H : zH A h s) (ax0 : x0 < A) (ax1 : zx Xx1 x1) (ax2 : zx Xx2 x2), zq 0 A (xf_97_2 n (za_7 x0) Xx1 Xx2 h) (zf_97_2 n x0 x1 x2 s) := by
  intro n
  induction n with
  | zero =>
    intros
    exact zq_none
  | succ n ih =>
    intro A h s x0 Xx1 x1 Xx2 x2 H ax0 ax1 ax2
    rw [xf_97_2, zf_97_2]
    exact (zq_b (zi_449 H ax0) (zq_ge ax2 (zx_s H 449 x0 0) (zq_i H zc32_m1) (zq_b (zr_452 H ax0) (zq_a (zw_452 H ax0) ax2 (zq_ne (zx_s H 452 x0 x2) ax1 (zq_g fun g1 => (ih H ax0 ax1 (zadd_x ax2 zc32_1 g1))) (zq_i H ax2))))))
theorem zg_97 {A : Nat} {h : xrH} {s : zS} {x0 : Nat} {Xx1 : Int32} {x1 : Int} (H : zH A h s) (ax0 : x0 < A) (ax1 : zx Xx1 x1) : zq 0 A (xf_97 (za_7 x0) Xx1 h) (zf_97 x0 x1 s) := by
  unfold xf_97 zf_97
  exact (zg_97_2 xfu H ax0 ax1 zc32_0)
theorem zg_42 {A : Nat} {h : xrH} {s : zS} {x0 : Nat} {Xx1 : Int32} {x1 : Int} (H : zH A h s) (ax0 : x0 < 1) (ax1 : zx Xx1 x1) : zq 0 A (xf_42 (za_4 x0) Xx1 h) (zf_42 x0 x1 s) := by
  unfold xf_42 zf_42
  exact (zq_c (zc_4 H ax0) (zq_c_i (zg_40 H ax0) fun v3 h101 s2 hv3 H1 => (zq_eq (zx_r hv3) zcn_0 (zq_z H1 zc32_0) (zq_b (zo_257 H1 ax0) (zq_b (zi_259 H1 ax0) (zq_O H1 (zo_s H1 257 x0 0) fun q4 hq5 hA6 H7 => (zq_c (zc_7 H7 hq5) (zq_g fun g8 => (zq_c_i (zg_97 H7 hq5 (zsub_x (zx_s H1 259 x0 0) zc8_65 g8)) fun v11 h106 s10 hv11 H9 => (zq_eq (zx_r hv11) zc32_m1 (zq_P (zpi_260 H9 ax0 ax1) fun h108 s13 H12 => (zq_b (zo_257 H12 ax0) (zq_O H12 (zo_s H12 257 x0 0) fun q14 hq15 hA16 H17 => (zq_b (zr_452 H17 hq15) (zq_b (zi_259 H17 ax0) (zq_g fun g18 => (zq_W (fun hl => zwp_452 H17 hq15 ax1 (zsub_x (zx_s H17 259 x0 0) zc8_65 g18) hl) fun h113 s20 H19 => (zq_b (zo_257 H19 ax0) (zq_O H19 (zo_s H19 257 x0 0) fun q21 hq22 hA23 H24 => (zq_b (zr_453 H24 hq22) (zq_W (fun hl => zwp_453 H24 hq22 ax1 zc32_0 hl) fun h117 s26 H25 => (zq_b (zo_257 H25 ax0) (zq_O H25 (zo_s H25 257 x0 0) fun q27 hq28 hA29 H30 => (zq_b (zi_449 H30 hq28) (zq_g fun g33 => (zq_P (zpi_449 H30 hq28 (zadd_x (zx_s H30 449 q27 0) zc32_1 g33)) fun h121 s32 H31 => (zq_c (zc_4 H31 ax0) (zq_c_v (zg_38 H31 ax0) fun _ h122 s35 _ H34 => (zq_c (zc_4 H34 ax0) (zq_c_i (zg_39 H34 ax0 zc8_123) fun v38 h123 s37 hv38 H36 => (zq_z H36 (zx_r hv38)))))))))))))))))))))) (zq_z H9 zc32_0)))))))))))
theorem zg_98_2 : ∀ (n : Nat) {A : Nat} {h : xrH} {s : zS} {x0 : Nat} {Xx1 : Int32} {x1 : Int} {Xx2 : Int32} {x2 : Int} {Xx3 : Int32} {x3 : Int} (H : zH A h s) (ax0 : x0 < A) (ax1 : zx Xx1 x1) (ax2 : zx Xx2 x2) (ax3 : zx Xx3 x3), zq 0 A (xf_98_2 n (za_7 x0) Xx1 Xx2 Xx3 h) (zf_98_2 n x0 x1 x2 x3 s) := by
  intro n
  induction n with
  | zero =>
    intros
    exact zq_none
  | succ n ih =>
    intro A h s x0 Xx1 x1 Xx2 x2 Xx3 x3 H ax0 ax1 ax2 ax3
    rw [xf_98_2, zf_98_2]
    exact (zq_b (zr_453 H ax0) (zq_a (zw_453 H ax0) ax1 (zq_ge ax3 (zx_s H 453 x0 x1) (zq_i H zc32_m1) (zq_b (zr_457 H ax0) (zq_g fun g1 => (zq_g fun g2 => (zq_a (zw_457 H ax0) (zadd_x (zmul_x ax1 zc8_8 g1) ax3 g2) (zq_ne (zx_s H 457 x0 ((x1 * 8) + x3)) ax2 (zq_g fun g3 => (ih H ax0 ax1 ax2 (zadd_x ax3 zc32_1 g3))) (zq_i H ax3)))))))))
theorem zg_98 {A : Nat} {h : xrH} {s : zS} {x0 : Nat} {Xx1 : Int32} {x1 : Int} {Xx2 : Int32} {x2 : Int} (H : zH A h s) (ax0 : x0 < A) (ax1 : zx Xx1 x1) (ax2 : zx Xx2 x2) : zq 0 A (xf_98 (za_7 x0) Xx1 Xx2 h) (zf_98 x0 x1 x2 s) := by
  unfold xf_98 zf_98
  exact (zg_98_2 xfu H ax0 ax1 ax2 zc32_0)
theorem zg_45 {A : Nat} {h : xrH} {s : zS} {x0 : Nat} {Xx1 : Int32} {x1 : Int} (H : zH A h s) (ax0 : x0 < 1) (ax1 : zx Xx1 x1) : zq 0 A (xf_45 (za_4 x0) Xx1 h) (zf_45 x0 x1 s) := by
  unfold xf_45 zf_45
  exact (zq_b (zi_260 H ax0) (zq_b (zo_257 H ax0) (zq_O H (zo_s H 257 x0 0) fun q1 hq2 hA3 H4 => (zq_b (zr_467 H4 hq2) (zq_g fun g5 => (zq_g fun g6 => (zq_a (zw_467 H4 hq2) (zadd_x (zmul_x (zx_s H 260 x0 0) zc8_8 g5) ax1 g6) (zq_eq (zx_s H4 467 q1 (((s.1 260 x0 0) * 8) + x1)) zcn_0 (zq_z H4 zc32_1) (zq_ne (zx_s H4 467 q1 (((s.1 260 x0 0) * 8) + x1)) zc8_61 (zq_b (zo_257 H4 ax0) (zq_b (zi_260 H4 ax0) (zq_b (zo_257 H4 ax0) (zq_O H4 (zo_s H4 257 x0 0) fun q7 hq8 hA9 H10 => (zq_b (zr_468 H10 hq8) (zq_a (zw_468 H10 hq8) (zadd_x (zmul_x (zx_s H 260 x0 0) zc8_8 g5) ax1 g6) (zq_O H10 (zo_s H4 257 x0 0) fun q11 hq12 hA13 H14 => (zq_c (zc_7 H14 hq12) (zq_c_i (zg_98 H14 hq12 (zx_s H4 260 x0 0) (zx_s H10 468 q7 (((s.1 260 x0 0) * 8) + x1))) fun v17 h113 s16 hv17 H15 => (zq_eq (zx_r hv17) zc32_m1 (zq_z H15 zc32_0) (zq_ne (zx_r hv17) ax1 (zq_b (zo_257 H15 ax0) (zq_O H15 (zo_s H15 257 x0 0) fun q18 hq19 hA20 H21 => (zq_b (zr_468 H21 hq19) (zq_b (zi_260 H21 ax0) (zq_g fun g22 => (zq_g fun g23 => (zq_W (fun hl => zwp_468 H21 hq19 (zadd_x (zmul_x (zx_s H 260 x0 0) zc8_8 g5) ax1 g6) (zadd_x (zmul_x (zx_s H21 260 x0 0) zc8_8 g22) (zx_r hv17) g23) hl) fun h119 s25 H24 => (zq_ne (zx_s H4 467 q1 (((s.1 260 x0 0) * 8) + x1)) zc8_37 (zq_z H24 zc32_1) (zq_b (zo_257 H24 ax0) (zq_O H24 (zo_s H24 257 x0 0) fun q26 hq27 hA28 H29 => (zq_b (zr_458 H29 hq27) (zq_b (zi_260 H29 ax0) (zq_g fun g30 => (zq_g fun g31 => (zq_a (zw_458 H29 hq27) (zadd_x (zmul_x (zx_s H29 260 x0 0) zc8_8 g30) (zx_r hv17) g31) (zq_ne (zx_s H29 458 q26 (((s25.1 260 x0 0) * 8) + v17)) zc8_91 (zq_z H29 zc32_0) (zq_z H29 zc32_1))))))))))))))))) (zq_z H15 zc32_0)))))))))))) (zq_z H4 zc32_1))))))))))
theorem zg_43_2 : ∀ (n : Nat) {A : Nat} {h : xrH} {s : zS} {x0 : Nat} {Xx1 : Int32} {x1 : Int} (H : zH A h s) (ax0 : x0 < 1) (ax1 : zx Xx1 x1), zq 0 A (xf_43_2 n (za_4 x0) Xx1 h) (zf_43_2 n x0 x1 s) := by
  intro n
  induction n with
  | zero =>
    intros
    exact zq_none
  | succ n ih =>
    intro A h s x0 Xx1 x1 H ax0 ax1
    rw [xf_43_2, zf_43_2]
    exact (zq_b (zo_257 H ax0) (zq_O H (zo_s H 257 x0 0) fun q1 hq2 hA3 H4 => (zq_b (zr_453 H4 hq2) (zq_b (zi_260 H4 ax0) (zq_a (zw_453 H4 hq2) (zx_s H4 260 x0 0) (zq_ge ax1 (zx_s H4 453 q1 (s.1 260 x0 0)) (zq_b (zi_261 H4 ax0) (zq_ne (zx_s H4 261 x0 0) zcn_0 (zq_z H4 zc32_0) (zq_c (zc_4 H4 ax0) (zq_c_i (zg_39 H4 ax0 zc8_125) fun v7 h107 s6 hv7 H5 => (zq_eq (zx_r hv7) zcn_0 (zq_z H5 zc32_0) (zq_z H5 zc32_1)))))) (zq_c (zc_4 H4 ax0) (zq_c_i (zg_45 H4 ax0 ax1) fun v10 h109 s9 hv10 H8 => (zq_ne (zx_r hv10) zcn_0 (zq_g fun g11 => (ih H8 ax0 (zadd_x ax1 zc32_1 g11))) (zq_z H8 zc32_0))))))))))
theorem zg_43 {A : Nat} {h : xrH} {s : zS} {x0 : Nat} (H : zH A h s) (ax0 : x0 < 1) : zq 0 A (xf_43 (za_4 x0) h) (zf_43 x0 s) := by
  unfold xf_43 zf_43
  exact (zg_43_2 xfu H ax0 zc32_0)
theorem zg_44_2 : ∀ (n : Nat) {A : Nat} {h : xrH} {s : zS} {x0 : Nat} {Xx1 : Int32} {x1 : Int} (H : zH A h s) (ax0 : x0 < 1) (ax1 : zx Xx1 x1), zq 0 A (xf_44_2 n (za_4 x0) Xx1 h) (zf_44_2 n x0 x1 s) := by
  intro n
  induction n with
  | zero =>
    intros
    exact zq_none
  | succ n ih =>
    intro A h s x0 Xx1 x1 H ax0 ax1
    rw [xf_44_2, zf_44_2]
    exact (zq_b (zo_257 H ax0) (zq_O H (zo_s H 257 x0 0) fun q1 hq2 hA3 H4 => (zq_b (zi_451 H4 hq2) (zq_ge ax1 (zx_s H4 451 q1 0) (zq_z H4 zc32_1) (zq_b (zo_257 H4 ax0) (zq_O H4 (zo_s H4 257 x0 0) fun q5 hq6 hA7 H8 => (zq_b (zr_456 H8 hq6) (zq_b (zo_257 H8 ax0) (zq_b (zo_257 H8 ax0) (zq_O H8 (zo_s H8 257 x0 0) fun q9 hq10 hA11 H12 => (zq_b (zr_456 H12 hq10) (zq_a (zw_456 H12 hq10) ax1 (zq_O H12 (zo_s H8 257 x0 0) fun q13 hq14 hA15 H16 => (zq_c (zc_7 H16 hq14) (zq_c_i (zg_97 H16 hq14 (zx_s H12 456 q9 x1)) fun v19 h113 s18 hv19 H17 => (zq_W (fun hl => zwp_456 H17 (Nat.lt_of_lt_of_le (Nat.lt_of_lt_of_le hq6 hA11) hA15) ax1 (zx_r hv19) hl) fun h115 s21 H20 => (zq_b (zo_257 H20 ax0) (zq_O H20 (zo_s H20 257 x0 0) fun q22 hq23 hA24 H25 => (zq_b (zr_456 H25 hq23) (zq_a (zw_456 H25 hq23) ax1 (zq_ne (zx_s H25 456 q22 x1) zc32_m1 (zq_g fun g26 => (ih H25 ax0 (zadd_x ax1 zc32_1 g26))) (zq_z H25 zc32_0))))))))))))))))))))))
theorem zg_44 {A : Nat} {h : xrH} {s : zS} {x0 : Nat} (H : zH A h s) (ax0 : x0 < 1) : zq 0 A (xf_44 (za_4 x0) h) (zf_44 x0 s) := by
  unfold xf_44 zf_44
  exact (zg_44_2 xfu H ax0 zc32_0)
theorem zg_103 {A : Nat} {h : xrH} {s : zS} {x0 : Nat} {Xx1 : Int32} {x1 : Int} (H : zH A h s) (ax0 : x0 < A) (ax1 : zx Xx1 x1) : zq 0 A (xf_103 (za_7 x0) Xx1 h) (zf_103 x0 x1 s) := by
  unfold xf_103 zf_103
  exact (zq_b (zi_451 H ax0) (zq_lt (zx_s H 451 x0 0) zc8_100 (zq_b (zr_456 H ax0) (zq_b (zi_451 H ax0) (zq_W (fun hl => zwp_456 H ax0 (zx_s H 451 x0 0) ax1 hl) fun h104 s2 H1 => (zq_b (zi_451 H1 ax0) (zq_g fun g5 => (zq_P (zpi_451 H1 ax0 (zadd_x (zx_s H1 451 x0 0) zc32_1 g5)) fun h106 s4 H3 => (zq_z H3 zc32_1))))))) (zq_z H zc32_0)))
theorem zg_48 {A : Nat} {h : xrH} {s : zS} {x0 : Nat} (H : zH A h s) (ax0 : x0 < 1) : zq 0 A (xf_48 (za_4 x0) h) (zf_48 x0 s) := by
  unfold xf_48 zf_48
  exact (zq_c (zc_4 H ax0) (zq_c_i (zg_40 H ax0) fun v3 h101 s2 hv3 H1 => (zq_eq (zx_r hv3) zcn_0 (zq_z H1 zc32_0) (zq_b (zo_257 H1 ax0) (zq_b (zi_259 H1 ax0) (zq_O H1 (zo_s H1 257 x0 0) fun q4 hq5 hA6 H7 => (zq_c (zc_7 H7 hq5) (zq_g fun g8 => (zq_c_i (zg_103 H7 hq5 (zsub_x (zx_s H1 259 x0 0) zc8_65 g8)) fun v11 h106 s10 hv11 H9 => (zq_ne (zx_r hv11) zcn_0 (zq_c (zc_4 H9 ax0) (zq_c_v (zg_38 H9 ax0) fun _ h108 s13 _ H12 => (zq_z H12 zc32_1))) (zq_z H9 zc32_0)))))))))))
theorem zg_49_80 {A : Nat} {h : xrH} {s : zS} {x0 : Nat} {s0 : Nat} {Xs1 : Int32} {s1 : Int} (H : zH A h s) (ax0 : x0 < 1) (as0 : s0 < 1) (as1 : zx Xs1 s1) : zq 0 A (xf_49_80 (za_4 x0) (za_4 s0) Xs1 h) (zf_49_80 x0 s0 s1 s) := by
  unfold xf_49_80 zf_49_80
  exact (zq_P (zpi_261 H as0 as1) fun h101 s2 H1 => (zq_c (zc_4 H1 ax0) (zq_c_v (zg_38 H1 ax0) fun _ h102 s4 _ H3 => (zq_z H3 zc32_1))))
theorem zg_49 {A : Nat} {h : xrH} {s : zS} {x0 : Nat} {Xx1 : Int32} {x1 : Int} (H : zH A h s) (ax0 : x0 < 1) (ax1 : zx Xx1 x1) : zq 0 A (xf_49 (za_4 x0) Xx1 h) (zf_49 x0 x1 s) := by
  unfold xf_49 zf_49
  exact (zq_b (zi_259 H ax0) (zq_g fun g1 => (zq_lt (zsub_x (zx_s H 259 x0 0) zc8_48 g1) zc32_1 (zq_z H zc32_0) (zq_b (zi_261 H ax0) (zq_g fun g2 => (zq_le (zsub_x (zx_s H 259 x0 0) zc8_48 g1) (zsub_x zc8_8 (zx_s H 261 x0 0) g2) (zq_b (zi_261 H ax0) (zq_g fun g5 => (zq_P (zpi_261 H ax0 (zadd_x (zx_s H 261 x0 0) (zsub_x (zx_s H 259 x0 0) zc8_48 g1) g5)) fun h104 s4 H3 => (zq_b (zo_257 H3 ax0) (zq_O H3 (zo_s H3 257 x0 0) fun q6 hq7 hA8 H9 => (zq_b (zr_459 H9 hq7) (zq_W (fun hl => zwp_459 H9 hq7 ax1 (zsub_x (zx_s H 259 x0 0) zc8_48 g1) hl) fun h108 s11 H10 => (zq_b (zo_257 H10 ax0) (zq_O H10 (zo_s H10 257 x0 0) fun q12 hq13 hA14 H15 => (zq_b (zr_460 H15 hq13) (zq_b (zi_261 H15 ax0) (zq_g fun g16 => (zq_W (fun hl => zwp_460 H15 hq13 ax1 (zsub_x zc8_8 (zx_s H15 261 x0 0) g16) hl) fun h113 s18 H17 => (zq_b (zi_261 H17 ax0) (zq_ne (zx_s H17 261 x0 0) zc8_8 (zq_b (zi_261 H17 ax0) (zg_49_80 H17 ax0 ax0 (zx_s H17 261 x0 0))) (zg_49_80 H17 ax0 ax0 zc32_0)))))))))))))))) (zq_z H zc32_0)))))))
theorem zg_50_61 {A : Nat} {h : xrH} {s : zS} {x0 : Nat} {Xx1 : Int32} {x1 : Int} (H : zH A h s) (ax0 : x0 < 1) (ax1 : zx Xx1 x1) : zq 0 A (xf_50_61 (za_4 x0) Xx1 h) (zf_50_61 x0 x1 s) := by
  unfold xf_50_61 zf_50_61
  exact (zq_b (zo_257 H ax0) (zq_O H (zo_s H 257 x0 0) fun q1 hq2 hA3 H4 => (zq_b (zr_464 H4 hq2) (zq_b (zo_257 H4 ax0) (zq_O H4 (zo_s H4 257 x0 0) fun q5 hq6 hA7 H8 => (zq_b (zi_451 H8 hq6) (zq_W (fun hl => zwp_464 H8 (Nat.lt_of_lt_of_le hq2 hA7) ax1 (zx_s H8 451 q5 0) hl) fun h107 s10 H9 => (zq_z H9 zc32_1))))))))
theorem zg_50_27 : ∀ (n : Nat) {A : Nat} {h : xrH} {s : zS} {x0 : Nat} {Xx1 : Int32} {x1 : Int} {Xx2 : Int32} {x2 : Int} (H : zH A h s) (ax0 : x0 < 1) (ax1 : zx Xx1 x1) (ax2 : zx Xx2 x2), zq 0 A (xf_50_27 n (za_4 x0) Xx1 Xx2 h) (zf_50_27 n x0 x1 x2 s) := by
  intro n
  induction n with
  | zero =>
    intros
    exact zq_none
  | succ n ih =>
    intro A h s x0 Xx1 x1 Xx2 x2 H ax0 ax1 ax2
    rw [xf_50_27, zf_50_27]
    exact (zq_ge ax2 zc8_100 (zg_50_61 H ax0 ax1) (zq_b (zi_259 H ax0) (zq_ne (zx_s H 259 x0 0) zc8_124 (zg_50_61 H ax0 ax1) (zq_c (zc_4 H ax0) (zq_c_v (zg_38 H ax0) fun _ h102 s2 _ H1 => (zq_c (zc_4 H1 ax0) (zq_c_i (zg_48 H1 ax0) fun v5 h103 s4 hv5 H3 => (zq_ne (zx_r hv5) zcn_0 (zq_g fun g6 => (ih H3 ax0 ax1 (zadd_x ax2 zc32_1 g6))) (zq_z H3 zc32_0)))))))))
theorem zg_50 {A : Nat} {h : xrH} {s : zS} {x0 : Nat} {Xx1 : Int32} {x1 : Int} (H : zH A h s) (ax0 : x0 < 1) (ax1 : zx Xx1 x1) : zq 0 A (xf_50 (za_4 x0) Xx1 h) (zf_50 x0 x1 s) := by
  unfold xf_50 zf_50
  exact (zq_b (zo_257 H ax0) (zq_O H (zo_s H 257 x0 0) fun q1 hq2 hA3 H4 => (zq_b (zr_463 H4 hq2) (zq_b (zo_257 H4 ax0) (zq_O H4 (zo_s H4 257 x0 0) fun q5 hq6 hA7 H8 => (zq_b (zi_451 H8 hq6) (zq_W (fun hl => zwp_463 H8 (Nat.lt_of_lt_of_le hq2 hA7) ax1 (zx_s H8 451 q5 0) hl) fun h107 s10 H9 => (zq_c (zc_4 H9 ax0) (zq_c_i (zg_48 H9 ax0) fun v13 h108 s12 hv13 H11 => (zq_ne (zx_r hv13) zcn_0 (zg_50_27 xfu H11 ax0 ax1 zc32_0) (zq_z H11 zc32_0)))))))))))
theorem zg_41 {A : Nat} {h : xrH} {s : zS} {x0 : Nat} (H : zH A h s) (ax0 : x0 < 1) : zq 0 A (xf_41 (za_4 x0) h) (zf_41 x0 s) := by
  unfold xf_41 zf_41
  exact (zq_b (zi_259 H ax0) (zq_lt (zx_s H 259 x0 0) zc8_48 (zq_z H zc32_0) (zq_b (zi_259 H ax0) (zq_gt (zx_s H 259 x0 0) zc8_57 (zq_z H zc32_0) (zq_z H zc32_1)))))
theorem zg_227 {A : Nat} {h : xrH} {s : zS} {Xx0 : Int32} {x0 : Int} {Xx1 : Int32} {x1 : Int} (H : zH A h s) (ax0 : zx Xx0 x0) (ax1 : zx Xx1 x1) : zq 0 A (xf_227 Xx0 Xx1 h) (zf_227 x0 x1 s) := by
  unfold xf_227 zf_227
  exact (zq_lt ax0 ax1 (zq_i H ax1) (zq_i H ax0))
theorem zg_53_4 : ∀ (n : Nat) {A : Nat} {h : xrH} {s : zS} {x0 : Nat} {Xx1 : Int32} {x1 : Int} {Xx2 : Int32} {x2 : Int} (H : zH A h s) (ax0 : x0 < 1) (ax1 : zx Xx1 x1) (ax2 : zx Xx2 x2), zq 0 A (xf_53_4 n (za_4 x0) Xx1 Xx2 h) (zf_53_4 n x0 x1 x2 s) := by
  intro n
  induction n with
  | zero =>
    intros
    exact zq_none
  | succ n ih =>
    intro A h s x0 Xx1 x1 Xx2 x2 H ax0 ax1 ax2
    rw [xf_53_4, zf_53_4]
    exact (zq_ge ax2 zc32_3 (zq_i H ax1) (zq_c (zc_4 H ax0) (zq_c_i (zg_41 H ax0) fun v3 h101 s2 hv3 H1 => (zq_eq (zx_r hv3) zcn_0 (zq_i H1 ax1) (zq_c_i (zg_227 H1 ax1 zc32_0) fun v6 h103 s5 hv6 H4 => (zq_b (zi_259 H4 ax0) (zq_c (zc_4 H4 ax0) (zq_c_v (zg_38 H4 ax0) fun _ h106 s8 _ H7 => (zq_g fun g9 => (zq_g fun g10 => (zq_g fun g11 => (zq_g fun g12 => (ih H7 ax0 (zsub_x (zadd_x (zmul_x (zx_r hv6) zc8_10 g9) (zx_s H4 259 x0 0) g10) zc8_48 g11) (zadd_x ax2 zc32_1 g12))))))))))))))
theorem zg_53 {A : Nat} {h : xrH} {s : zS} {x0 : Nat} (H : zH A h s) (ax0 : x0 < 1) : zq 0 A (xf_53 (za_4 x0) h) (zf_53 x0 s) := by
  unfold xf_53 zf_53
  exact (zg_53_4 xfu H ax0 zc32_m1 zc32_0)
theorem zg_101 {A : Nat} {h : xrH} {s : zS} {x0 : Nat} {Xx1 : Int32} {x1 : Int} (H : zH A h s) (ax0 : x0 < A) (ax1 : zx Xx1 x1) : zq 0 A (xf_101 (za_7 x0) Xx1 h) (zf_101 x0 x1 s) := by
  unfold xf_101 zf_101
  exact (zq_b (zr_458 H ax0) (zq_a (zw_458 H ax0) ax1 (zq_eq (zx_s H 458 x0 x1) zc8_98 (zq_z H zc32_1) (zq_eq (zx_s H 458 x0 x1) zc8_119 (zq_z H zc32_1) (zq_ne (zx_s H 458 x0 x1) zc8_87 (zq_z H zc32_0) (zq_z H zc32_1))))))
theorem zg_99 {A : Nat} {h : xrH} {s : zS} {x0 : Nat} {Xx1 : Int32} {x1 : Int} (H : zH A h s) (ax0 : x0 < A) (ax1 : zx Xx1 x1) : zq 0 A (xf_99 (za_7 x0) Xx1 h) (zf_99 x0 x1 s) := by
  unfold xf_99 zf_99
  exact (zq_b (zr_458 H ax0) (zq_a (zw_458 H ax0) ax1 (zq_c (zc_7 H ax0) (zq_c_i (zg_101 H ax0 ax1) fun v3 h103 s2 hv3 H1 => (zq_ne (zx_r hv3) zcn_0 (zq_z H1 zc32_1) (zq_eq (zx_s H 458 x0 x1) zc8_114 (zq_z H1 zc32_1) (zq_ne (zx_s H 458 x0 x1) zc8_110 (zq_z H1 zc32_0) (zq_z H1 zc32_1))))))))
theorem zg_102 {A : Nat} {h : xrH} {s : zS} {x0 : Nat} {Xx1 : Int32} {x1 : Int} {Xx2 : Int32} {x2 : Int} (H : zH A h s) (ax0 : x0 < A) (ax1 : zx Xx1 x1) (ax2 : zx Xx2 x2) : zq 0 A (xf_102 (za_7 x0) Xx1 Xx2 h) (zf_102 x0 x1 x2 s) := by
  unfold xf_102 zf_102
  exact (zq_b (zi_450 H ax0) (zq_lt (zx_s H 450 x0 0) zc8_100 (zq_b (zr_455 H ax0) (zq_b (zi_450 H ax0) (zq_W (fun hl => zwp_455 H ax0 (zx_s H 450 x0 0) ax1 hl) fun h104 s2 H1 => (zq_b (zr_454 H1 ax0) (zq_b (zi_450 H1 ax0) (zq_W (fun hl => zwp_454 H1 ax0 (zx_s H1 450 x0 0) ax2 hl) fun h107 s4 H3 => (zq_b (zi_450 H3 ax0) (zq_g fun g7 => (zq_P (zpi_450 H3 ax0 (zadd_x (zx_s H3 450 x0 0) zc32_1 g7)) fun h109 s6 H5 => (zq_z H5 zc32_1)))))))))) (zq_z H zc32_0)))
theorem zg_52_179 (k21 : Nat → Int32 → Int32 → Int32 → xrH → xrR) (zk21 : Nat → Int → Int → Int → zS → zR) (hk21 : ∀ {A : Nat} {h : xrH} {s : zS} {y0 : Nat} {Xy1 : Int32} {y1 : Int} {Xy2 : Int32} {y2 : Int} {Xy3 : Int32} {y3 : Int} (H : zH A h s) (ay0 : y0 < 1) (ay1 : zx Xy1 y1) (ay2 : zx Xy2 y2) (ay3 : zx Xy3 y3), zq 0 A (k21 (za_4 y0) Xy1 Xy2 Xy3 h) (zk21 y0 y1 y2 y3 s)) {A : Nat} {h : xrH} {s : zS} {x0 : Nat} {Xx1 : Int32} {x1 : Int} {Xx3 : Int32} {x3 : Int} (H : zH A h s) (ax0 : x0 < 1) (ax1 : zx Xx1 x1) (ax3 : zx Xx3 x3) : zq 0 A (xf_52_179 k21 (za_4 x0) Xx1 Xx3 h) (zf_52_179 zk21 x0 x1 x3 s) := by
  unfold xf_52_179 zf_52_179
  exact (zq_b (zi_259 H ax0) (zq_c (zc_4 H ax0) (zq_c_v (zg_38 H ax0) fun _ h102 s2 _ H1 => (zq_g fun g3 => (hk21 H1 ax0 ax1 (zx_s H 259 x0 0) (zadd_x ax3 zc32_1 g3))))))
theorem zg_52_119 (k21 : Nat → Int32 → Int32 → Int32 → xrH → xrR) (zk21 : Nat → Int → Int → Int → zS → zR) (hk21 : ∀ {A : Nat} {h : xrH} {s : zS} {y0 : Nat} {Xy1 : Int32} {y1 : Int} {Xy2 : Int32} {y2 : Int} {Xy3 : Int32} {y3 : Int} (H : zH A h s) (ay0 : y0 < 1) (ay1 : zx Xy1 y1) (ay2 : zx Xy2 y2) (ay3 : zx Xy3 y3), zq 0 A (k21 (za_4 y0) Xy1 Xy2 Xy3 h) (zk21 y0 y1 y2 y3 s)) {A : Nat} {h : xrH} {s : zS} {x0 : Nat} {Xx1 : Int32} {x1 : Int} {Xx2 : Int32} {x2 : Int} {Xx3 : Int32} {x3 : Int} {Xx5 : Int32} {x5 : Int} (H : zH A h s) (ax0 : x0 < 1) (ax1 : zx Xx1 x1) (ax2 : zx Xx2 x2) (ax3 : zx Xx3 x3) (ax5 : zx Xx5 x5) : zq 0 A (xf_52_119 k21 (za_4 x0) Xx1 Xx2 Xx3 Xx5 h) (zf_52_119 zk21 x0 x1 x2 x3 x5 s) := by
  unfold xf_52_119 zf_52_119
  exact (zq_b (zo_257 H ax0) (zq_O H (zo_s H 257 x0 0) fun q1 hq2 hA3 H4 => (zq_c (zc_7 H4 hq2) (zq_c_i (zg_102 H4 hq2 ax2 ax5) fun v7 h103 s6 hv7 H5 => (zq_ne (zx_r hv7) zcn_0 (zq_b (zo_257 H5 ax0) (zq_O H5 (zo_s H5 257 x0 0) fun q8 hq9 hA10 H11 => (zq_b (zr_462 H11 hq9) (zq_b (zo_257 H11 ax0) (zq_O H11 (zo_s H11 257 x0 0) fun q12 hq13 hA14 H15 => (zq_b (zi_450 H15 hq13) (zq_W (fun hl => zwp_462 H15 (Nat.lt_of_lt_of_le hq9 hA14) ax1 (zx_s H15 450 q12 0) hl) fun h111 s17 H16 => (zq_b (zi_259 H16 ax0) (zq_eq (zx_s H16 259 x0 0) zc8_43 (zg_52_179 k21 zk21 hk21 H16 ax0 ax1 ax3) (zq_b (zi_259 H16 ax0) (zq_eq (zx_s H16 259 x0 0) zc8_45 (zg_52_179 k21 zk21 hk21 H16 ax0 ax1 ax3) (zq_b (zi_259 H16 ax0) (zq_eq (zx_s H16 259 x0 0) zc8_42 (zg_52_179 k21 zk21 hk21 H16 ax0 ax1 ax3) (zq_z H16 zc32_1)))))))))))))) (zq_z H5 zc32_0))))))
theorem zg_52_93 (k21 : Nat → Int32 → Int32 → Int32 → xrH → xrR) (zk21 : Nat → Int → Int → Int → zS → zR) (hk21 : ∀ {A : Nat} {h : xrH} {s : zS} {y0 : Nat} {Xy1 : Int32} {y1 : Int} {Xy2 : Int32} {y2 : Int} {Xy3 : Int32} {y3 : Int} (H : zH A h s) (ay0 : y0 < 1) (ay1 : zx Xy1 y1) (ay2 : zx Xy2 y2) (ay3 : zx Xy3 y3), zq 0 A (k21 (za_4 y0) Xy1 Xy2 Xy3 h) (zk21 y0 y1 y2 y3 s)) {A : Nat} {h : xrH} {s : zS} {x0 : Nat} {Xx1 : Int32} {x1 : Int} {Xx2 : Int32} {x2 : Int} {Xx3 : Int32} {x3 : Int} {Xx4 : Int32} {x4 : Int} (H : zH A h s) (ax0 : x0 < 1) (ax1 : zx Xx1 x1) (ax2 : zx Xx2 x2) (ax3 : zx Xx3 x3) (ax4 : zx Xx4 x4) : zq 0 A (xf_52_93 k21 (za_4 x0) Xx1 Xx2 Xx3 Xx4 h) (zf_52_93 zk21 x0 x1 x2 x3 x4 s) := by
  unfold xf_52_93 zf_52_93
  exact (zq_c (zc_4 H ax0) (zq_c_i (zg_41 H ax0) fun v3 h101 s2 hv3 H1 => (zq_eq (zx_r hv3) zcn_0 (zq_c (zc_4 H1 ax0) (zq_c_v (zg_38 H1 ax0) fun _ h103 s5 _ H4 => (zq_g fun g6 => (zg_52_119 k21 zk21 hk21 H4 ax0 ax1 ax2 ax3 (zsub_x zc32_m1 ax4 g6))))) (zq_c (zc_4 H1 ax0) (zq_c_i (zg_53 H1 ax0) fun v9 h104 s8 hv9 H7 => (zg_52_119 k21 zk21 hk21 H7 ax0 ax1 ax2 ax3 (zx_r hv9)))))))
theorem zg_52_56 (k21 : Nat → Int32 → Int32 → Int32 → xrH → xrR) (zk21 : Nat → Int → Int → Int → zS → zR) (hk21 : ∀ {A : Nat} {h : xrH} {s : zS} {y0 : Nat} {Xy1 : Int32} {y1 : Int} {Xy2 : Int32} {y2 : Int} {Xy3 : Int32} {y3 : Int} (H : zH A h s) (ay0 : y0 < 1) (ay1 : zx Xy1 y1) (ay2 : zx Xy2 y2) (ay3 : zx Xy3 y3), zq 0 A (k21 (za_4 y0) Xy1 Xy2 Xy3 h) (zk21 y0 y1 y2 y3 s)) {A : Nat} {h : xrH} {s : zS} {x0 : Nat} {Xx1 : Int32} {x1 : Int} {Xx2 : Int32} {x2 : Int} {Xx3 : Int32} {x3 : Int} {Xs0 : Int32} {s0 : Int} (H : zH A h s) (ax0 : x0 < 1) (ax1 : zx Xx1 x1) (ax2 : zx Xx2 x2) (ax3 : zx Xx3 x3) (as0 : zx Xs0 s0) : zq 0 A (xf_52_56 k21 (za_4 x0) Xx1 Xx2 Xx3 Xs0 h) (zf_52_56 zk21 x0 x1 x2 x3 s0 s) := by
  unfold xf_52_56 zf_52_56
  exact (zq_c (zc_4 H ax0) (zq_c_i (zg_41 H ax0) fun v3 h101 s2 hv3 H1 => (zq_ne (zx_r hv3) zcn_0 (zg_52_93 k21 zk21 hk21 H1 ax0 ax1 ax2 ax3 as0) (zq_eq as0 zc32_m1 (zq_z H1 zc32_0) (zq_b (zo_257 H1 ax0) (zq_b (zi_260 H1 ax0) (zq_O H1 (zo_s H1 257 x0 0) fun q4 hq5 hA6 H7 => (zq_c (zc_7 H7 hq5) (zq_g fun g8 => (zq_g fun g9 => (zq_c_i (zg_99 H7 hq5 (zadd_x (zmul_x (zx_s H1 260 x0 0) zc8_8 g8) as0 g9)) fun v12 h106 s11 hv12 H10 => (zq_ne (zx_r hv12) zcn_0 (zg_52_93 k21 zk21 hk21 H10 ax0 ax1 ax2 ax3 as0) (zq_z H10 zc32_0)))))))))))))
theorem zg_52_21 : ∀ (n : Nat) {A : Nat} {h : xrH} {s : zS} {x0 : Nat} {Xx1 : Int32} {x1 : Int} {Xx2 : Int32} {x2 : Int} {Xx3 : Int32} {x3 : Int} (H : zH A h s) (ax0 : x0 < 1) (ax1 : zx Xx1 x1) (ax2 : zx Xx2 x2) (ax3 : zx Xx3 x3), zq 0 A (xf_52_21 n (za_4 x0) Xx1 Xx2 Xx3 h) (zf_52_21 n x0 x1 x2 x3 s) := by
  intro n
  induction n with
  | zero =>
    intros
    exact zq_none
  | succ n ih =>
    intro A h s x0 Xx1 x1 Xx2 x2 Xx3 x3 H ax0 ax1 ax2 ax3
    rw [xf_52_21, zf_52_21]
    exact (zq_ge ax3 zc8_100 (zq_z H zc32_0) (zq_c (zc_4 H ax0) (zq_c_i (zg_41 H ax0) fun v3 h101 s2 hv3 H1 => (zq_eq (zx_r hv3) zcn_0 (zq_b (zo_257 H1 ax0) (zq_b (zi_260 H1 ax0) (zq_b (zi_259 H1 ax0) (zq_O H1 (zo_s H1 257 x0 0) fun q4 hq5 hA6 H7 => (zq_c (zc_7 H7 hq5) (zq_g fun g8 => (zq_c_i (zg_98 H7 hq5 (zx_s H1 260 x0 0) (zsub_x (zx_s H1 259 x0 0) zc8_97 g8)) fun v11 h107 s10 hv11 H9 => (zg_52_56 (fun y0 y1 y2 y3 y => (xf_52_21 n y0 y1 y2 y3 y)) (fun y0 y1 y2 y3 y => (zf_52_21 n y0 y1 y2 y3 y)) (fun H ay0 ay1 ay2 ay3 => (ih H ay0 ay1 ay2 ay3)) H9 ax0 ax1 ax2 ax3 (zx_r hv11))))))))) (zg_52_56 (fun y0 y1 y2 y3 y => (xf_52_21 n y0 y1 y2 y3 y)) (fun y0 y1 y2 y3 y => (zf_52_21 n y0 y1 y2 y3 y)) (fun H ay0 ay1 ay2 ay3 => (ih H ay0 ay1 ay2 ay3)) H1 ax0 ax1 ax2 ax3 zc32_m1)))))
theorem zg_52 {A : Nat} {h : xrH} {s : zS} {x0 : Nat} {Xx1 : Int32} {x1 : Int} (H : zH A h s) (ax0 : x0 < 1) (ax1 : zx Xx1 x1) : zq 0 A (xf_52 (za_4 x0) Xx1 h) (zf_52 x0 x1 s) := by
  unfold xf_52 zf_52
  exact (zq_b (zo_257 H ax0) (zq_O H (zo_s H 257 x0 0) fun q1 hq2 hA3 H4 => (zq_b (zr_461 H4 hq2) (zq_b (zo_257 H4 ax0) (zq_O H4 (zo_s H4 257 x0 0) fun q5 hq6 hA7 H8 => (zq_b (zi_450 H8 hq6) (zq_W (fun hl => zwp_461 H8 (Nat.lt_of_lt_of_le hq2 hA7) ax1 (zx_s H8 450 q5 0) hl) fun h107 s10 H9 => (zg_52_21 xfu H9 ax0 ax1 zc8_43 zc32_0))))))))
theorem zg_51_70 {A : Nat} {h : xrH} {s : zS} {x0 : Nat} {Xx1 : Int32} {x1 : Int} (H : zH A h s) (ax0 : x0 < 1) (ax1 : zx Xx1 x1) : zq 0 A (xf_51_70 (za_4 x0) Xx1 h) (zf_51_70 x0 x1 s) := by
  unfold xf_51_70 zf_51_70
  exact (zq_b (zo_257 H ax0) (zq_O H (zo_s H 257 x0 0) fun q1 hq2 hA3 H4 => (zq_b (zr_465 H4 hq2) (zq_a (zw_465 H4 hq2) ax1 (zq_ne (zx_s H4 465 q1 x1) zc8_42 (zq_b (zo_257 H4 ax0) (zq_O H4 (zo_s H4 257 x0 0) fun q5 hq6 hA7 H8 => (zq_b (zr_465 H8 hq6) (zq_a (zw_465 H8 hq6) ax1 (zq_ne (zx_s H8 465 q5 x1) zc8_33 (zq_c (zc_4 H8 ax0) (zq_c_i (zg_52 H8 ax0 ax1) fun v11 h109 s10 hv11 H9 => (zq_eq (zx_r hv11) zcn_0 (zq_z H9 zc32_0) (zq_c (zc_4 H9 ax0) (zq_c_i (zg_39 H9 ax0 zc8_93) fun v14 h111 s13 hv14 H12 => (zq_eq (zx_r hv14) zcn_0 (zq_z H12 zc32_0) (zq_z H12 zc32_1))))))) (zq_b (zo_257 H8 ax0) (zq_O H8 (zo_s H8 257 x0 0) fun q15 hq16 hA17 H18 => (zq_b (zr_466 H18 hq16) (zq_c (zc_4 H18 ax0) (zq_c_i (zg_53 H18 ax0) fun v21 h116 s20 hv21 H19 => (zq_W (fun hl => zwp_466 H19 hq16 ax1 (zx_r hv21) hl) fun h118 s23 H22 => (zq_b (zo_257 H22 ax0) (zq_O H22 (zo_s H22 257 x0 0) fun q24 hq25 hA26 H27 => (zq_b (zr_466 H27 hq25) (zq_a (zw_466 H27 hq25) ax1 (zq_eq (zx_s H27 466 q24 x1) zc32_m1 (zq_z H27 zc32_0) (zq_c (zc_4 H27 ax0) (zq_c_i (zg_39 H27 ax0 zc8_93) fun v30 h123 s29 hv30 H28 => (zq_eq (zx_r hv30) zcn_0 (zq_z H28 zc32_0) (zq_z H28 zc32_1)))))))))))))))))))) (zq_c (zc_4 H4 ax0) (zq_c_i (zg_39 H4 ax0 zc8_93) fun v33 h125 s32 hv33 H31 => (zq_z H31 (zx_r hv33)))))))))
theorem zg_51_53 {A : Nat} {h : xrH} {s : zS} {x0 : Nat} {Xx1 : Int32} {x1 : Int} (H : zH A h s) (ax0 : x0 < 1) (ax1 : zx Xx1 x1) : zq 0 A (xf_51_53 (za_4 x0) Xx1 h) (zf_51_53 x0 x1 s) := by
  unfold xf_51_53 zf_51_53
  exact (zq_b (zo_257 H ax0) (zq_O H (zo_s H 257 x0 0) fun q1 hq2 hA3 H4 => (zq_b (zr_465 H4 hq2) (zq_b (zi_259 H4 ax0) (zq_W (fun hl => zwp_465 H4 hq2 ax1 (zx_s H4 259 x0 0) hl) fun h105 s6 H5 => (zq_c (zc_4 H5 ax0) (zq_c_v (zg_38 H5 ax0) fun _ h106 s8 _ H7 => (zg_51_70 H7 ax0 ax1))))))))
theorem zg_51 {A : Nat} {h : xrH} {s : zS} {x0 : Nat} {Xx1 : Int32} {x1 : Int} (H : zH A h s) (ax0 : x0 < 1) (ax1 : zx Xx1 x1) : zq 0 A (xf_51 (za_4 x0) Xx1 h) (zf_51 x0 x1 s) := by
  unfold xf_51 zf_51
  exact (zq_b (zo_257 H ax0) (zq_O H (zo_s H 257 x0 0) fun q1 hq2 hA3 H4 => (zq_b (zr_458 H4 hq2) (zq_W (fun hl => zwp_458 H4 hq2 ax1 zc8_91 hl) fun h104 s6 H5 => (zq_b (zo_257 H5 ax0) (zq_O H5 (zo_s H5 257 x0 0) fun q7 hq8 hA9 H10 => (zq_b (zr_465 H10 hq8) (zq_W (fun hl => zwp_465 H10 hq8 ax1 zc8_43 hl) fun h108 s12 H11 => (zq_c (zc_4 H11 ax0) (zq_c_v (zg_38 H11 ax0) fun _ h109 s14 _ H13 => (zq_b (zi_259 H13 ax0) (zq_eq (zx_s H13 259 x0 0) zc8_42 (zg_51_53 H13 ax0 ax1) (zq_b (zi_259 H13 ax0) (zq_eq (zx_s H13 259 x0 0) zc8_33 (zg_51_53 H13 ax0 ax1) (zq_b (zi_259 H13 ax0) (zq_ne (zx_s H13 259 x0 0) zc8_63 (zg_51_70 H13 ax0 ax1) (zg_51_53 H13 ax0 ax1)))))))))))))))))
theorem zg_47_106 {A : Nat} {h : xrH} {s : zS} {x0 : Nat} {Xx1 : Int32} {x1 : Int} {Xx2 : Int32} {x2 : Int} {s0 : Nat} {Xs1 : Int32} {s1 : Int} {Xs2 : Int32} {s2 : Int} (H : zH A h s) (ax0 : x0 < 1) (ax1 : zx Xx1 x1) (ax2 : zx Xx2 x2) (as0 : s0 < A) (as1 : zx Xs1 s1) (as2 : zx Xs2 s2) : zq 0 A (xf_47_106 (za_4 x0) Xx1 Xx2 (zy_459 s0) Xs1 Xs2 h) (zf_47_106 x0 x1 x2 s0 s1 s2 s) := by
  unfold xf_47_106 zf_47_106
  exact (zq_W (fun hl => zwp_459 H as0 as1 as2 hl) fun h101 s2 H1 => (zq_c (zc_4 H1 ax0) (zq_c_v (zg_38 H1 ax0) fun _ h102 s4 _ H3 => (zq_sw ax2 zcn_87 (zq_z H3 zc32_1) (zq_sw ax2 zcn_98 (zq_z H3 zc32_1) (zq_sw ax2 zcn_110 (zq_c (zc_4 H3 ax0) (zq_c_i (zg_49 H3 ax0 ax1) fun v40 h103 s39 hv40 H38 => (zq_z H38 (zx_r hv40)))) (zq_sw ax2 zcn_114 (zq_b (zo_257 H3 ax0) (zq_O H3 (zo_s H3 257 x0 0) fun q14 hq15 hA16 H17 => (zq_b (zr_463 H17 hq15) (zq_b (zo_257 H17 ax0) (zq_O H17 (zo_s H17 257 x0 0) fun q18 hq19 hA20 H21 => (zq_b (zi_451 H21 hq19) (zq_W (fun hl => zwp_463 H21 (Nat.lt_of_lt_of_le hq15 hA20) ax1 (zx_s H21 451 q18 0) hl) fun h111 s23 H22 => (zq_b (zo_257 H22 ax0) (zq_O H22 (zo_s H22 257 x0 0) fun q24 hq25 hA26 H27 => (zq_b (zr_464 H27 hq25) (zq_b (zo_257 H27 ax0) (zq_O H27 (zo_s H27 257 x0 0) fun q28 hq29 hA30 H31 => (zq_b (zi_451 H31 hq29) (zq_g fun g32 => (zq_W (fun hl => zwp_464 H31 (Nat.lt_of_lt_of_le hq25 hA30) ax1 (zadd_x (zx_s H31 451 q28 0) zc32_1 g32) hl) fun h118 s34 H33 => (zq_c (zc_4 H33 ax0) (zq_c_i (zg_48 H33 ax0) fun v37 h119 s36 hv37 H35 => (zq_z H35 (zx_r hv37))))))))))))))))))) (zq_sw ax2 zcn_115 (zq_c (zc_4 H3 ax0) (zq_c_i (zg_39 H3 ax0 zc8_40) fun v7 h121 s6 hv7 H5 => (zq_eq (zx_r hv7) zcn_0 (zq_z H5 zc32_0) (zq_c (zc_4 H5 ax0) (zq_c_i (zg_52 H5 ax0 ax1) fun v10 h123 s9 hv10 H8 => (zq_eq (zx_r hv10) zcn_0 (zq_z H8 zc32_0) (zq_c (zc_4 H8 ax0) (zq_c_i (zg_39 H8 ax0 zc8_41) fun v13 h125 s12 hv13 H11 => (zq_eq (zx_r hv13) zcn_0 (zq_z H11 zc32_0) (zq_z H11 zc32_1)))))))))) (zq_sw ax2 zcn_119 (zq_z H3 zc32_1) (zq_sw ax2 zcn_122 (zq_z H3 zc32_1) (zq_z H3 zc32_0)))))))))))
theorem zg_47_20 {A : Nat} {h : xrH} {s : zS} {x0 : Nat} {Xx1 : Int32} {x1 : Int} {Xx2 : Int32} {x2 : Int} (H : zH A h s) (ax0 : x0 < 1) (ax1 : zx Xx1 x1) (ax2 : zx Xx2 x2) : zq 0 A (xf_47_20 (za_4 x0) Xx1 Xx2 h) (zf_47_20 x0 x1 x2 s) := by
  unfold xf_47_20 zf_47_20
  exact (zq_c (zc_4 H ax0) (zq_c_i (zg_40 H ax0) fun v3 h101 s2 hv3 H1 => (zq_eq (zx_r hv3) zcn_0 (zq_b (zo_257 H1 ax0) (zq_O H1 (zo_s H1 257 x0 0) fun q4 hq5 hA6 H7 => (zq_b (zr_458 H7 hq5) (zq_W (fun hl => zwp_458 H7 hq5 ax1 ax2 hl) fun h106 s9 H8 => (zq_b (zo_257 H8 ax0) (zq_O H8 (zo_s H8 257 x0 0) fun q10 hq11 hA12 H13 => (zq_b (zr_459 H13 hq11) (zq_eq ax2 zc8_119 (zg_47_106 H13 ax0 ax1 ax2 hq11 ax1 zc8_16) (zq_ne ax2 zc8_87 (zg_47_106 H13 ax0 ax1 ax2 hq11 ax1 zc8_8) (zg_47_106 H13 ax0 ax1 ax2 hq11 ax1 zc8_16)))))))))) (zq_b (zo_257 H1 ax0) (zq_O H1 (zo_s H1 257 x0 0) fun q14 hq15 hA16 H17 => (zq_b (zr_458 H17 hq15) (zq_W (fun hl => zwp_458 H17 hq15 ax1 zc8_65 hl) fun h113 s19 H18 => (zq_c (zc_4 H18 ax0) (zq_c_i (zg_50 H18 ax0 ax1) fun v22 h114 s21 hv22 H20 => (zq_eq (zx_r hv22) zcn_0 (zq_z H20 zc32_0) (zq_b (zi_259 H20 ax0) (zq_ne (zx_s H20 259 x0 0) zc8_91 (zq_z H20 zc32_1) (zq_c (zc_4 H20 ax0) (zq_c_i (zg_51 H20 ax0 ax1) fun v25 h117 s24 hv25 H23 => (zq_eq (zx_r hv25) zcn_0 (zq_z H23 zc32_0) (zq_z H23 zc32_1))))))))))))))))
theorem zg_47 {A : Nat} {h : xrH} {s : zS} {x0 : Nat} {Xx1 : Int32} {x1 : Int} (H : zH A h s) (ax0 : x0 < 1) (ax1 : zx Xx1 x1) : zq 0 A (xf_47 (za_4 x0) Xx1 h) (zf_47 x0 x1 s) := by
  unfold xf_47 zf_47
  exact (zq_b (zi_259 H ax0) (zq_eq (zx_s H 259 x0 0) zc8_110 (zg_47_20 H ax0 ax1 (zx_s H 259 x0 0)) (zq_b (zi_261 H ax0) (zq_eq (zx_s H 261 x0 0) zcn_0 (zg_47_20 H ax0 ax1 (zx_s H 259 x0 0)) (zq_z H zc32_0)))))
theorem zg_54_88 {A : Nat} {h : xrH} {s : zS} {x0 : Nat} {Xx1 : Int32} {x1 : Int} (H : zH A h s) (ax0 : x0 < 1) (ax1 : zx Xx1 x1) : zq 0 A (xf_54_88 (za_4 x0) Xx1 h) (zf_54_88 x0 x1 s) := by
  unfold xf_54_88 zf_54_88
  exact (zq_b (zo_257 H ax0) (zq_O H (zo_s H 257 x0 0) fun q1 hq2 hA3 H4 => (zq_b (zr_467 H4 hq2) (zq_b (zi_259 H4 ax0) (zq_W (fun hl => zwp_467 H4 hq2 ax1 (zx_s H4 259 x0 0) hl) fun h105 s6 H5 => (zq_c (zc_4 H5 ax0) (zq_c_v (zg_38 H5 ax0) fun _ h106 s8 _ H7 => (zq_b (zo_257 H7 ax0) (zq_O H7 (zo_s H7 257 x0 0) fun q9 hq10 hA11 H12 => (zq_b (zr_468 H12 hq10) (zq_b (zi_259 H12 ax0) (zq_g fun g13 => (zq_W (fun hl => zwp_468 H12 hq10 ax1 (zsub_x (zx_s H12 259 x0 0) zc8_97 g13) hl) fun h111 s15 H14 => (zq_c (zc_4 H14 ax0) (zq_c_v (zg_38 H14 ax0) fun _ h112 s17 _ H16 => (zq_z H16 zc32_1))))))))))))))))
theorem zg_54 {A : Nat} {h : xrH} {s : zS} {x0 : Nat} {Xx1 : Int32} {x1 : Int} (H : zH A h s) (ax0 : x0 < 1) (ax1 : zx Xx1 x1) : zq 0 A (xf_54 (za_4 x0) Xx1 h) (zf_54 x0 x1 s) := by
  unfold xf_54 zf_54
  exact (zq_b (zo_257 H ax0) (zq_O H (zo_s H 257 x0 0) fun q1 hq2 hA3 H4 => (zq_c (zc_7 H4 hq2) (zq_c_i (zg_101 H4 hq2 ax1) fun v7 h103 s6 hv7 H5 => (zq_ne (zx_r hv7) zcn_0 (zq_c (zc_4 H5 ax0) (zq_c_v (zg_38 H5 ax0) fun _ h105 s9 _ H8 => (zq_c (zc_4 H8 ax0) (zq_c_i (zg_41 H8 ax0) fun v12 h106 s11 hv12 H10 => (zq_eq (zx_r hv12) zcn_0 (zq_b (zi_259 H10 ax0) (zq_eq (zx_s H10 259 x0 0) zc8_35 (zg_54_88 H10 ax0 ax1) (zq_b (zi_259 H10 ax0) (zq_eq (zx_s H10 259 x0 0) zc8_37 (zg_54_88 H10 ax0 ax1) (zq_b (zi_259 H10 ax0) (zq_eq (zx_s H10 259 x0 0) zc8_43 (zg_54_88 H10 ax0 ax1) (zq_b (zi_259 H10 ax0) (zq_eq (zx_s H10 259 x0 0) zc8_94 (zg_54_88 H10 ax0 ax1) (zq_z H10 zc32_0))))))))) (zq_b (zo_257 H10 ax0) (zq_O H10 (zo_s H10 257 x0 0) fun q13 hq14 hA15 H16 => (zq_b (zr_467 H16 hq14) (zq_W (fun hl => zwp_467 H16 hq14 ax1 zc8_61 hl) fun h115 s18 H17 => (zq_b (zo_257 H17 ax0) (zq_O H17 (zo_s H17 257 x0 0) fun q19 hq20 hA21 H22 => (zq_b (zr_468 H22 hq20) (zq_c (zc_4 H22 ax0) (zq_c_i (zg_53 H22 ax0) fun v25 h119 s24 hv25 H23 => (zq_W (fun hl => zwp_468 H23 hq20 ax1 (zx_r hv25) hl) fun h121 s27 H26 => (zq_z H26 zc32_1)))))))))))))))) (zq_z H5 zc32_0))))))
theorem zg_46_98 {A : Nat} {h : xrH} {s : zS} {x0 : Nat} (H : zH A h s) (ax0 : x0 < 1) : zq 0 A (xf_46_98 (za_4 x0) h) (zf_46_98 x0 s) := by
  unfold xf_46_98 zf_46_98
  exact (zq_b (zo_257 H ax0) (zq_O H (zo_s H 257 x0 0) fun q1 hq2 hA3 H4 => (zq_b (zr_453 H4 hq2) (zq_b (zi_260 H4 ax0) (zq_a (zw_453 H4 hq2) (zx_s H4 260 x0 0) (zq_g fun g5 => (zq_W (fun hl => zwp_453 H4 hq2 (zx_s H4 260 x0 0) (zadd_x (zx_s H4 453 q1 (s.1 260 x0 0)) zc32_1 g5) hl) fun h106 s7 H6 => (zq_c (zc_4 H6 ax0) (zq_c_i (zg_39 H6 ax0 zc8_59) fun v10 h107 s9 hv10 H8 => (zq_z H8 (zx_r hv10)))))))))))
theorem zg_46 {A : Nat} {h : xrH} {s : zS} {x0 : Nat} {Xx1 : Int32} {x1 : Int} (H : zH A h s) (ax0 : x0 < 1) (ax1 : zx Xx1 x1) : zq 0 A (xf_46 (za_4 x0) Xx1 h) (zf_46 x0 x1 s) := by
  unfold xf_46 zf_46
  exact (zq_b (zi_259 H ax0) (zq_g fun g1 => (zq_lt (zsub_x (zx_s H 259 x0 0) zc8_97 g1) zcn_0 (zq_z H zc32_0) (zq_ge (zsub_x (zx_s H 259 x0 0) zc8_97 g1) zc8_26 (zq_z H zc32_0) (zq_b (zo_257 H ax0) (zq_b (zi_260 H ax0) (zq_O H (zo_s H 257 x0 0) fun q2 hq3 hA4 H5 => (zq_c (zc_7 H5 hq3) (zq_c_i (zg_98 H5 hq3 (zx_s H 260 x0 0) (zsub_x (zx_s H 259 x0 0) zc8_97 g1)) fun v8 h105 s7 hv8 H6 => (zq_eq (zx_r hv8) zc32_m1 (zq_c (zc_4 H6 ax0) (zq_c_v (zg_38 H6 ax0) fun _ h107 s10 _ H9 => (zq_c (zc_4 H9 ax0) (zq_c_i (zg_39 H9 ax0 zc8_58) fun v13 h108 s12 hv13 H11 => (zq_eq (zx_r hv13) zcn_0 (zq_z H11 zc32_0) (zq_c (zc_4 H11 ax0) (zq_c_i (zg_47 H11 ax0 ax1) fun v16 h110 s15 hv16 H14 => (zq_ne (zx_r hv16) zcn_0 (zq_b (zo_257 H14 ax0) (zq_O H14 (zo_s H14 257 x0 0) fun q17 hq18 hA19 H20 => (zq_b (zr_457 H20 hq18) (zq_W (fun hl => zwp_457 H20 hq18 ax1 (zsub_x (zx_s H 259 x0 0) zc8_97 g1) hl) fun h115 s22 H21 => (zq_b (zo_257 H21 ax0) (zq_O H21 (zo_s H21 257 x0 0) fun q23 hq24 hA25 H26 => (zq_b (zr_467 H26 hq24) (zq_W (fun hl => zwp_467 H26 hq24 ax1 zc32_0 hl) fun h119 s28 H27 => (zq_b (zi_259 H27 ax0) (zq_ne (zx_s H27 259 x0 0) zc8_61 (zg_46_98 H27 ax0) (zq_c (zc_4 H27 ax0) (zq_c_i (zg_54 H27 ax0 ax1) fun v31 h121 s30 hv31 H29 => (zq_ne (zx_r hv31) zcn_0 (zg_46_98 H29 ax0) (zq_z H29 zc32_0)))))))))))))) (zq_z H14 zc32_0))))))))) (zq_z H6 zc32_0)))))))))))
theorem zg_36_73 (k8 : Nat → Int32 → xrH → xrR) (zk8 : Nat → Int → zS → zR) (hk8 : ∀ {A : Nat} {h : xrH} {s : zS} {y0 : Nat} {Xy1 : Int32} {y1 : Int} (H : zH A h s) (ay0 : y0 < 1) (ay1 : zx Xy1 y1), zq 0 A (k8 (za_4 y0) Xy1 h) (zk8 y0 y1 s)) {A : Nat} {h : xrH} {s : zS} {x0 : Nat} {Xx3 : Int32} {x3 : Int} (H : zH A h s) (ax0 : x0 < 1) (ax3 : zx Xx3 x3) : zq 0 A (xf_36_73 k8 (za_4 x0) Xx3 h) (zf_36_73 zk8 x0 x3 s) := by
  unfold xf_36_73 zf_36_73
  exact (zq_c (zc_4 H ax0) (zq_c_i (zg_43 H ax0) fun v3 h101 s2 hv3 H1 => (zq_ne (zx_r hv3) zcn_0 (zq_g fun g4 => (hk8 H1 ax0 (zadd_x ax3 zc32_1 g4))) (zq_z H1 zc32_0))))
theorem zg_36_35 (k8 : Nat → Int32 → xrH → xrR) (zk8 : Nat → Int → zS → zR) (hk8 : ∀ {A : Nat} {h : xrH} {s : zS} {y0 : Nat} {Xy1 : Int32} {y1 : Int} (H : zH A h s) (ay0 : y0 < 1) (ay1 : zx Xy1 y1), zq 0 A (k8 (za_4 y0) Xy1 h) (zk8 y0 y1 s)) : ∀ (n : Nat) {A : Nat} {h : xrH} {s : zS} {x0 : Nat} {Xx3 : Int32} {x3 : Int} {Xx4 : Int32} {x4 : Int} (H : zH A h s) (ax0 : x0 < 1) (ax3 : zx Xx3 x3) (ax4 : zx Xx4 x4), zq 0 A (xf_36_35 k8 n (za_4 x0) Xx3 Xx4 h) (zf_36_35 zk8 n x0 x3 x4 s) := by
  intro n
  induction n with
  | zero =>
    intros
    exact zq_none
  | succ n ih =>
    intro A h s x0 Xx3 x3 Xx4 x4 H ax0 ax3 ax4
    rw [xf_36_35, zf_36_35]
    exact (zq_ge ax4 zc8_8 (zg_36_73 k8 zk8 hk8 H ax0 ax3) (zq_b (zi_259 H ax0) (zq_eq (zx_s H 259 x0 0) zc8_125 (zg_36_73 k8 zk8 hk8 H ax0 ax3) (zq_c (zc_4 H ax0) (zq_g fun g1 => (zq_g fun g2 => (zq_c_i (zg_46 H ax0 (zadd_x (zmul_x ax3 zc8_8 g1) ax4 g2)) fun v5 h102 s4 hv5 H3 => (zq_ne (zx_r hv5) zcn_0 (zq_g fun g6 => (ih H3 ax0 ax3 (zadd_x ax4 zc32_1 g6))) (zq_z H3 zc32_0)))))))))
theorem zg_36_88 {A : Nat} {h : xrH} {s : zS} {x0 : Nat} (H : zH A h s) (ax0 : x0 < 1) : zq 0 A (xf_36_88 (za_4 x0) h) (zf_36_88 x0 s) := by
  unfold xf_36_88 zf_36_88
  exact (zq_b (zi_259 H ax0) (zq_ne (zx_s H 259 x0 0) zc32_m1 (zq_z H zc32_0) (zq_b (zo_257 H ax0) (zq_O H (zo_s H 257 x0 0) fun q1 hq2 hA3 H4 => (zq_b (zi_449 H4 hq2) (zq_le (zx_s H4 449 q1 0) zcn_0 (zq_z H4 zc32_0) (zq_c (zc_4 H4 ax0) (zq_c_i (zg_44 H4 ax0) fun v7 h105 s6 hv7 H5 => (zq_eq (zx_r hv7) zcn_0 (zq_z H5 zc32_0) (zq_z H5 zc32_1))))))))))
theorem zg_36_8 : ∀ (n : Nat) {A : Nat} {h : xrH} {s : zS} {x0 : Nat} {Xx3 : Int32} {x3 : Int} (H : zH A h s) (ax0 : x0 < 1) (ax3 : zx Xx3 x3), zq 0 A (xf_36_8 n (za_4 x0) Xx3 h) (zf_36_8 n x0 x3 s) := by
  intro n
  induction n with
  | zero =>
    intros
    exact zq_none
  | succ n ih =>
    intro A h s x0 Xx3 x3 H ax0 ax3
    rw [xf_36_8, zf_36_8]
    exact (zq_ge ax3 zc8_6 (zg_36_88 H ax0) (zq_b (zi_259 H ax0) (zq_eq (zx_s H 259 x0 0) zc32_m1 (zg_36_88 H ax0) (zq_c (zc_4 H ax0) (zq_c_i (zg_42 H ax0 ax3) fun v3 h102 s2 hv3 H1 => (zq_ne (zx_r hv3) zcn_0 (zg_36_35 (fun y0 y1 y => (xf_36_8 n y0 y1 y)) (fun y0 y1 y => (zf_36_8 n y0 y1 y)) (fun H ay0 ay1 => (ih H ay0 ay1)) xfu H1 ax0 ax3 zc32_0) (zq_z H1 zc32_0)))))))
theorem zg_36 {A : Nat} {h : xrH} {s : zS} {x0 : Nat} {x1 : Nat} {Xx2 : Option Nat} {x2 : Int} (H : zH A h s) (ax0 : x0 < 1) (ax1 : x1 < 3) (ax2 : zo Xx2 x2) : zq 0 A (xf_36 (za_4 x0) (za_0 x1) Xx2 h) (zf_36 x0 x1 x2 s) := by
  unfold xf_36 zf_36
  exact (zq_c (zc_4 H ax0) (zq_c_v (zg_37 H ax0 ax1 ax2) fun _ h101 s2 _ H1 => (zg_36_8 xfu H1 ax0 zc32_0)))
theorem zg_130_38 {A : Nat} {h : xrH} {s : zS} {x0 : Nat} (H : zH A h s) (ax0 : x0 < 1) : zq 2 A (xf_130_38 (za_8 x0) h) (zf_130_38 x0 s) := by
  unfold xf_130_38 zf_130_38
  exact (zq_b (zr_515 H ax0) (zq_b (zi_522 H ax0) (zq_q (zw_515 H ax0) (zx_s H 522 x0 0) (zq_o H (zo_s H 515 x0 (s.1 522 x0 0))))))
theorem zg_107_49 {A : Nat} {h : xrH} {s : zS} {x0 : Nat} {Xx1 : Int32} {x1 : Int} {Xx2 : Option Nat} {x2 : Int} {Xs0 : Int32} {s0 : Int} (H : zH A h s) (ax0 : x0 < 1) (ax1 : zx Xx1 x1) (ax2 : zo Xx2 x2) (as0 : zx Xs0 s0) : zq 0 A (xf_107_49 (za_8 x0) Xx1 Xx2 Xs0 h) (zf_107_49 x0 x1 x2 s0 s) := by
  unfold xf_107_49 zf_107_49
  exact (zq_b (zr_512 H ax0) (zq_P (zpi_1 H (by decide) zc32_0) fun h102 s2 H1 => (zq_ne as0 zcn_0 (zq_O H1 ax2 fun q3 hq4 hA5 H6 => (zq_P (zpi_448 H6 hq4 ax1) fun h104 s8 H7 => (zq_P (zpi_523 H7 ax0 zc8_m3) fun h105 s10 H9 => (zq_b (zi_522 H9 ax0) (zq_g fun g13 => (zq_P (zpi_522 H9 ax0 (zadd_x (zx_s H9 522 x0 0) zc32_1 g13)) fun h107 s12 H11 => (zq_b (zi_522 H11 ax0) (zq_g fun g14 => (zq_i H11 (zsub_x (zx_s H11 522 x0 0) zc32_1 g14)))))))))) (zq_t H1))))
theorem zg_130 {A : Nat} {h : xrH} {s : zS} {x0 : Nat} (H : zH A h s) (ax0 : x0 < 1) : zq 2 A (xf_130 (za_8 x0) h) (zf_130 x0 s) := by
  sorry
theorem zg_107 {A : Nat} {h : xrH} {s : zS} {x0 : Nat} {Xx1 : Int32} {x1 : Int} (H : zH A h s) (ax0 : x0 < 1) (ax1 : zx Xx1 x1) : zq 0 A (xf_107 (za_8 x0) Xx1 h) (zf_107 x0 x1 s) := by
  unfold xf_107 zf_107
  exact (zq_lt ax1 zcn_0 (zq_t H) (zq_le ax1 zc8_9 (zq_c (zc_8 H ax0) (zq_c_o (zg_130 H ax0) fun v3 h101 s2 hv3 H1 => (zq_If H1 (zo_r hv3) (zg_107_49 H1 ax0 ax1 zo_0 zc32_0) fun q4 hq5 hA6 H7 => (zq_b (zr_514 H7 ax0) (zq_b (zr_512 H7 ax0) (zq_c (zc_4 H7 (by decide)) (zq_c_i (zg_36 H7 (by decide) (by decide) (zo_q (Nat.lt_of_lt_of_le hq5 H7.le4))) fun v10 h106 s9 hv10 H8 => (zq_eq (zx_r hv10) zcn_0 (zg_107_49 H8 ax0 ax1 (zo_q (Nat.lt_of_lt_of_le hq5 H8.le4)) zc32_0) (zg_107_49 H8 ax0 ax1 (zo_q (Nat.lt_of_lt_of_le hq5 H8.le4)) zc32_1))))))))) (zq_t H)))
theorem zg_233 {A : Nat} {h : xrH} {s : zS} {x0 : Nat} {Xx1 : Int32} {x1 : Int} {x2 : Nat} (H : zH A h s) (ax0 : x0 < 1) (ax1 : zx Xx1 x1) (ax2 : x2 < 1) : zq 0 A (xf_233 (za_8 x0) Xx1 (zy_1000 x2) h) (zf_233 x0 x1 x2 s) := by
  unfold xf_233 zf_233
  exact (zq_c (zc_8 H ax0) (zq_ch (zg_107 H ax0 ax1) (fun v3 h101 s2 hv3 H1 => (zq_W (fun hl => zwp_1000 H1 ax2 zc32_0 (zx_r hv3) hl) fun h103 s5 H4 => (zq_i H4 zc32_0))) fun e h104 s7 H6 => match e with | 0 => (zq_i H6 zc32_1) | 1 => (zq_i H6 zc32_2) | 2 => (zq_ex H6) | e + 3 => (zq_ex H6)))
theorem zg_109 {A : Nat} {h : xrH} {s : zS} {x0 : Nat} {Xx1 : Int32} {x1 : Int} (H : zH A h s) (ax0 : x0 < 1) (ax1 : zx Xx1 x1) : zq 0 A (xf_109 (za_8 x0) Xx1 h) (zf_109 x0 x1 s) := by
  unfold xf_109 zf_109
  exact (zq_lt ax1 zcn_0 (zq_t H) (zq_b (zr_513 H ax0) (zq_b (zi_1 H (by decide)) (zq_lt ax1 (zx_s H 1 1 0) (zq_b (zr_513 H ax0) (zq_c (zc_0 H (by decide)) (zq_c_i (zg_2 H (by decide) ax1) fun v3 h104 s2 hv3 H1 => (zq_i H1 (zx_r hv3))))) (zq_t H)))))
theorem zg_234 {A : Nat} {h : xrH} {s : zS} {x0 : Nat} {Xx1 : Int32} {x1 : Int} {x2 : Nat} (H : zH A h s) (ax0 : x0 < 1) (ax1 : zx Xx1 x1) (ax2 : x2 < 1) : zq 0 A (xf_234 (za_8 x0) Xx1 (zy_1000 x2) h) (zf_234 x0 x1 x2 s) := by
  unfold xf_234 zf_234
  exact (zq_c (zc_8 H ax0) (zq_ch (zg_109 H ax0 ax1) (fun v3 h101 s2 hv3 H1 => (zq_W (fun hl => zwp_1000 H1 ax2 zc32_0 (zx_r hv3) hl) fun h103 s5 H4 => (zq_i H4 zc32_0))) fun e h104 s7 H6 => match e with | 0 => (zq_ex H6) | 1 => (zq_ex H6) | 2 => (zq_i H6 zc32_1) | e + 3 => (zq_ex H6)))
theorem zg_89 {A : Nat} {h : xrH} {s : zS} {x0 : Nat} {Xx1 : Int32} {x1 : Int} (H : zH A h s) (ax0 : x0 < 1) (ax1 : zx Xx1 x1) : zq 0 A (xf_89 (za_6 x0) Xx1 h) (zf_89 x0 x1 s) := by
  unfold xf_89 zf_89
  exact (zq_lt ax1 zcn_0 (zq_z H zc32_0) (zq_b (zi_387 H ax0) (zq_ge ax1 (zx_s H 387 x0 0) (zq_z H zc32_0) (zq_z H zc32_1))))
theorem zg_90 {A : Nat} {h : xrH} {s : zS} {x0 : Nat} {Xx1 : Int32} {x1 : Int} (H : zH A h s) (ax0 : x0 < 1) (ax1 : zx Xx1 x1) : zq 0 A (xf_90 (za_6 x0) Xx1 h) (zf_90 x0 x1 s) := by
  unfold xf_90 zf_90
  exact (zq_c (zc_6 H ax0) (zq_c_i (zg_89 H ax0 ax1) fun v3 h101 s2 hv3 H1 => (zq_eq (zx_r hv3) zcn_0 (zq_i H1 zc32_m1) (zq_b (zr_386 H1 ax0) (zq_a (zw_386 H1 ax0) ax1 (zq_i H1 (zx_s H1 386 x0 x1)))))))
theorem zg_134 {A : Nat} {h : xrH} {s : zS} {x0 : Nat} {Xx1 : Int32} {x1 : Int} (H : zH A h s) (ax0 : x0 < 1) (ax1 : zx Xx1 x1) : zq 1 A (xf_134 (za_8 x0) Xx1 h) (zf_134 x0 x1 s) := by
  unfold xf_134 zf_134
  exact (zq_lt ax1 zcn_0 (zq_t H) (zq_b (zr_516 H ax0) (zq_b (zi_387 H (by decide)) (zq_lt ax1 (zx_s H 387 0 0) (zq_v H) (zq_t H)))))
theorem zg_111 {A : Nat} {h : xrH} {s : zS} {x0 : Nat} {Xx1 : Int32} {x1 : Int} (H : zH A h s) (ax0 : x0 < 1) (ax1 : zx Xx1 x1) : zq 0 A (xf_111 (za_8 x0) Xx1 h) (zf_111 x0 x1 s) := by
  unfold xf_111 zf_111
  exact (zq_c (zc_8 H ax0) (zq_c_v (zg_134 H ax0 ax1) fun _ h101 s2 _ H1 => (zq_b (zr_516 H1 ax0) (zq_c (zc_6 H1 (by decide)) (zq_c_i (zg_90 H1 (by decide) ax1) fun v5 h103 s4 hv5 H3 => (zq_i H3 (zx_r hv5)))))))
theorem zg_235 {A : Nat} {h : xrH} {s : zS} {x0 : Nat} {Xx1 : Int32} {x1 : Int} {x2 : Nat} (H : zH A h s) (ax0 : x0 < 1) (ax1 : zx Xx1 x1) (ax2 : x2 < 1) : zq 0 A (xf_235 (za_8 x0) Xx1 (zy_1000 x2) h) (zf_235 x0 x1 x2 s) := by
  unfold xf_235 zf_235
  exact (zq_c (zc_8 H ax0) (zq_ch (zg_111 H ax0 ax1) (fun v3 h101 s2 hv3 H1 => (zq_W (fun hl => zwp_1000 H1 ax2 zc32_0 (zx_r hv3) hl) fun h103 s5 H4 => (zq_i H4 zc32_0))) fun e h104 s7 H6 => match e with | 0 => (zq_ex H6) | 1 => (zq_ex H6) | 2 => (zq_i H6 zc32_1) | e + 3 => (zq_ex H6)))
theorem zg_91 {A : Nat} {h : xrH} {s : zS} {x0 : Nat} {Xx1 : Int32} {x1 : Int} (H : zH A h s) (ax0 : x0 < 1) (ax1 : zx Xx1 x1) : zq 0 A (xf_91 (za_6 x0) Xx1 h) (zf_91 x0 x1 s) := by
  unfold xf_91 zf_91
  exact (zq_c (zc_6 H ax0) (zq_c_i (zg_89 H ax0 ax1) fun v3 h101 s2 hv3 H1 => (zq_eq (zx_r hv3) zcn_0 (zq_i H1 zc32_0) (zq_b (zr_385 H1 ax0) (zq_a (zw_385 H1 ax0) ax1 (zq_i H1 (zx_s H1 385 x0 x1)))))))
theorem zg_92 {A : Nat} {h : xrH} {s : zS} {x0 : Nat} {Xx1 : Int32} {x1 : Int} {Xx2 : Int32} {x2 : Int} (H : zH A h s) (ax0 : x0 < 1) (ax1 : zx Xx1 x1) (ax2 : zx Xx2 x2) : zq 0 A (xf_92 (za_6 x0) Xx1 Xx2 h) (zf_92 x0 x1 x2 s) := by
  unfold xf_92 zf_92
  exact (zq_lt ax2 zcn_0 (zq_i H zc32_0) (zq_c (zc_6 H ax0) (zq_c_i (zg_91 H ax0 ax1) fun v3 h101 s2 hv3 H1 => (zq_ge ax2 (zx_r hv3) (zq_i H1 zc32_0) (zq_b (zr_384 H1 ax0) (zq_g fun g4 => (zq_g fun g5 => (zq_a (zw_384 H1 ax0) (zadd_x (zmul_x ax1 zc16_160 g4) ax2 g5) (zq_i H1 (zx_s H1 384 x0 ((x1 * 160) + x2)))))))))))
theorem zg_94_14 : ∀ (n : Nat) {A : Nat} {h : xrH} {s : zS} {x0 : Nat} {Xx1 : Int32} {x1 : Int} {x2 : Nat} {Xx3 : Int32} {x3 : Int} {Xx4 : Int32} {x4 : Int} (H : zH A h s) (ax0 : x0 < 1) (ax1 : zx Xx1 x1) (ax2 : x2 < 3) (ax3 : zx Xx3 x3) (ax4 : zx Xx4 x4), zq 1 A (xf_94_14 n (za_6 x0) Xx1 (za_0 x2) Xx3 Xx4 h) (zf_94_14 n x0 x1 x2 x3 x4 s) := by
  intro n
  induction n with
  | zero =>
    intros
    exact zq_none
  | succ n ih =>
    intro A h s x0 Xx1 x1 x2 Xx3 x3 Xx4 x4 H ax0 ax1 ax2 ax3 ax4
    rw [xf_94_14, zf_94_14]
    exact (zq_ge ax4 ax3 (zq_v H) (zq_c (zc_6 H ax0) (zq_c_i (zg_92 H ax0 ax1 ax4) fun v3 h101 s2 hv3 H1 => (zq_c (zc_0 H1 ax2) (zq_c_v (zg_4 H1 ax2 (zx_r hv3)) fun _ h103 s5 _ H4 => (zq_g fun g6 => (ih H4 ax0 ax1 ax2 ax3 (zadd_x ax4 zc32_1 g6))))))))
theorem zg_94 {A : Nat} {h : xrH} {s : zS} {x0 : Nat} {Xx1 : Int32} {x1 : Int} {x2 : Nat} (H : zH A h s) (ax0 : x0 < 1) (ax1 : zx Xx1 x1) (ax2 : x2 < 3) : zq 1 A (xf_94 (za_6 x0) Xx1 (za_0 x2) h) (zf_94 x0 x1 x2 s) := by
  unfold xf_94 zf_94
  exact (zq_c (zc_6 H ax0) (zq_c_i (zg_91 H ax0 ax1) fun v3 h101 s2 hv3 H1 => (zq_P (zpi_1 H1 ax2 zc32_0) fun h103 s5 H4 => (zg_94_14 xfu H4 ax0 ax1 ax2 (zx_r hv3) zc32_0))))
theorem zg_112 {A : Nat} {h : xrH} {s : zS} {x0 : Nat} {Xx1 : Int32} {x1 : Int} (H : zH A h s) (ax0 : x0 < 1) (ax1 : zx Xx1 x1) : zq 0 A (xf_112 (za_8 x0) Xx1 h) (zf_112 x0 x1 s) := by
  unfold xf_112 zf_112
  exact (zq_c (zc_8 H ax0) (zq_c_v (zg_134 H ax0 ax1) fun _ h101 s2 _ H1 => (zq_b (zr_516 H1 ax0) (zq_P (zpi_388 H1 (by decide) ax1) fun h103 s4 H3 => (zq_b (zr_516 H3 ax0) (zq_b (zr_513 H3 ax0) (zq_c (zc_6 H3 (by decide)) (zq_c_v (zg_94 H3 (by decide) ax1 (by decide)) fun _ h106 s6 _ H5 => (zq_P (zpi_523 H5 ax0 zc8_m3) fun h107 s8 H7 => (zq_b (zr_513 H7 ax0) (zq_b (zi_1 H7 (by decide)) (zq_i H7 (zx_s H7 1 1 0)))))))))))))
theorem zg_236 {A : Nat} {h : xrH} {s : zS} {x0 : Nat} {Xx1 : Int32} {x1 : Int} {x2 : Nat} (H : zH A h s) (ax0 : x0 < 1) (ax1 : zx Xx1 x1) (ax2 : x2 < 1) : zq 0 A (xf_236 (za_8 x0) Xx1 (zy_1000 x2) h) (zf_236 x0 x1 x2 s) := by
  unfold xf_236 zf_236
  exact (zq_c (zc_8 H ax0) (zq_ch (zg_112 H ax0 ax1) (fun v3 h101 s2 hv3 H1 => (zq_W (fun hl => zwp_1000 H1 ax2 zc32_0 (zx_r hv3) hl) fun h103 s5 H4 => (zq_i H4 zc32_0))) fun e h104 s7 H6 => match e with | 0 => (zq_ex H6) | 1 => (zq_ex H6) | 2 => (zq_i H6 zc32_1) | e + 3 => (zq_ex H6)))
theorem zg_114 {A : Nat} {h : xrH} {s : zS} {x0 : Nat} {Xx1 : Int32} {x1 : Int} {Xx2 : Int32} {x2 : Int} (H : zH A h s) (ax0 : x0 < 1) (ax1 : zx Xx1 x1) (ax2 : zx Xx2 x2) : zq 0 A (xf_114 (za_8 x0) Xx1 Xx2 h) (zf_114 x0 x1 x2 s) := by
  unfold xf_114 zf_114
  exact (zq_lt ax1 zcn_0 (zq_t H) (zq_b (zi_522 H ax0) (zq_lt ax1 (zx_s H 522 x0 0) (zq_b (zr_518 H ax0) (zq_b (zr_515 H ax0) (zq_q (zw_515 H ax0) ax1 (zq_b (zr_513 H ax0) (zq_c (zc_5 H (by decide)) (zq_c_i (zg_56 H (by decide) (zo_s H 515 x0 x1) (by decide) zc32_0 zc32_0) fun v3 h106 s2 hv3 H1 => (zq_eq ax2 zcn_0 (zq_b (zr_518 H1 ax0) (zq_b (zi_325 H1 (by decide)) (zq_i H1 (zx_s H1 325 1 0)))) (zq_b (zr_518 H1 ax0) (zq_b (zi_326 H1 (by decide)) (zq_i H1 (zx_s H1 326 1 0))))))))))) (zq_t H))))
theorem zg_237 {A : Nat} {h : xrH} {s : zS} {x0 : Nat} {Xx1 : Int32} {x1 : Int} {Xx2 : Int32} {x2 : Int} {x3 : Nat} (H : zH A h s) (ax0 : x0 < 1) (ax1 : zx Xx1 x1) (ax2 : zx Xx2 x2) (ax3 : x3 < 1) : zq 0 A (xf_237 (za_8 x0) Xx1 Xx2 (zy_1000 x3) h) (zf_237 x0 x1 x2 x3 s) := by
  unfold xf_237 zf_237
  exact (zq_c (zc_8 H ax0) (zq_ch (zg_114 H ax0 ax1 ax2) (fun v3 h101 s2 hv3 H1 => (zq_W (fun hl => zwp_1000 H1 ax3 zc32_0 (zx_r hv3) hl) fun h103 s5 H4 => (zq_i H4 zc32_0))) fun e h104 s7 H6 => match e with | 0 => (zq_ex H6) | 1 => (zq_ex H6) | 2 => (zq_i H6 zc32_1) | e + 3 => (zq_ex H6)))
theorem zg_79 {A : Nat} {h : xrH} {s : zS} {x0 : Nat} {Xx1 : Int32} {x1 : Int} (H : zH A h s) (ax0 : x0 < 2) (ax1 : zx Xx1 x1) : zq 0 A (xf_79 (za_5 x0) Xx1 h) (zf_79 x0 x1 s) := by
  unfold xf_79 zf_79
  exact (zq_b (zr_320 H ax0) (zq_b (zr_196 H ax0) (zq_a (zw_196 H ax0) ax1 (zq_c (zc_5 H ax0) (zq_c_i (zg_78 H ax0 ax1) fun v3 h104 s2 hv3 H1 => (zq_ne (zx_s H 196 x0 x1) (zx_r hv3) (zq_z H1 zc32_0) (zq_z H1 zc32_1)))))))
theorem zg_135 {A : Nat} {h : xrH} {s : zS} {x0 : Nat} {Xx1 : Int32} {x1 : Int} (H : zH A h s) (ax0 : x0 < 1) (ax1 : zx Xx1 x1) : zq 1 A (xf_135 (za_8 x0) Xx1 h) (zf_135 x0 x1 s) := by
  unfold xf_135 zf_135
  exact (zq_c (zc_8 H ax0) (zq_c_v (zg_133 H ax0) fun _ h101 s2 _ H1 => (zq_b (zr_517 H1 ax0) (zq_b (zr_320 H1 (by decide)) (zq_c (zc_3 H1 (by decide)) (zq_c_i (zg_27 H1 (by decide) ax1) fun v5 h104 s4 hv5 H3 => (zq_ne (zx_r hv5) zcn_0 (zq_v H3) (zq_t H3))))))))
theorem zg_116 {A : Nat} {h : xrH} {s : zS} {x0 : Nat} {Xx1 : Int32} {x1 : Int} {Xx2 : Int32} {x2 : Int} (H : zH A h s) (ax0 : x0 < 1) (ax1 : zx Xx1 x1) (ax2 : zx Xx2 x2) : zq 0 A (xf_116 (za_8 x0) Xx1 Xx2 h) (zf_116 x0 x1 x2 s) := by
  unfold xf_116 zf_116
  exact (zq_c (zc_8 H ax0) (zq_c_v (zg_135 H ax0 ax1) fun _ h101 s2 _ H1 => (zq_lt ax2 zcn_0 (zq_t H1) (zq_le ax2 zc8_6 (zq_b (zr_517 H1 ax0) (zq_b (zr_320 H1 (by decide)) (zq_sw ax2 zcn_0 (zq_b (zr_192 H1 (by decide)) (zq_a (zw_192 H1 (by decide)) ax1 (zq_i H1 (zx_s H1 192 0 x1)))) (zq_sw ax2 zcn_1 (zq_b (zr_193 H1 (by decide)) (zq_a (zw_193 H1 (by decide)) ax1 (zq_i H1 (zx_s H1 193 0 x1)))) (zq_sw ax2 zcn_2 (zq_b (zr_194 H1 (by decide)) (zq_a (zw_194 H1 (by decide)) ax1 (zq_i H1 (zx_s H1 194 0 x1)))) (zq_sw ax2 zcn_3 (zq_b (zr_195 H1 (by decide)) (zq_a (zw_195 H1 (by decide)) ax1 (zq_i H1 (zx_s H1 195 0 x1)))) (zq_sw ax2 zcn_4 (zq_b (zr_196 H1 (by decide)) (zq_a (zw_196 H1 (by decide)) ax1 (zq_i H1 (zx_s H1 196 0 x1)))) (zq_sw ax2 zcn_5 (zq_b (zr_197 H1 (by decide)) (zq_a (zw_197 H1 (by decide)) ax1 (zq_i H1 (zx_s H1 197 0 x1)))) (zq_b (zr_517 H1 ax0) (zq_c (zc_5 H1 (by decide)) (zq_c_i (zg_79 H1 (by decide) ax1) fun v5 h105 s4 hv5 H3 => (zq_eq (zx_r hv5) zcn_0 (zq_i H3 zc32_0) (zq_i H3 zc32_1))))))))))))) (zq_t H1)))))
theorem zg_238 {A : Nat} {h : xrH} {s : zS} {x0 : Nat} {Xx1 : Int32} {x1 : Int} {Xx2 : Int32} {x2 : Int} {x3 : Nat} (H : zH A h s) (ax0 : x0 < 1) (ax1 : zx Xx1 x1) (ax2 : zx Xx2 x2) (ax3 : x3 < 1) : zq 0 A (xf_238 (za_8 x0) Xx1 Xx2 (zy_1000 x3) h) (zf_238 x0 x1 x2 x3 s) := by
  unfold xf_238 zf_238
  exact (zq_c (zc_8 H ax0) (zq_ch (zg_116 H ax0 ax1 ax2) (fun v3 h101 s2 hv3 H1 => (zq_W (fun hl => zwp_1000 H1 ax3 zc32_0 (zx_r hv3) hl) fun h103 s5 H4 => (zq_i H4 zc32_0))) fun e h104 s7 H6 => match e with | 0 => (zq_i H6 zc32_2) | 1 => (zq_ex H6) | 2 => (zq_i H6 zc32_1) | e + 3 => (zq_ex H6)))
theorem zg_82 {A : Nat} {h : xrH} {s : zS} {x0 : Nat} {Xx1 : Int32} {x1 : Int} (H : zH A h s) (ax0 : x0 < 2) (ax1 : zx Xx1 x1) : zq 0 A (xf_82 (za_5 x0) Xx1 h) (zf_82 x0 x1 s) := by
  unfold xf_82 zf_82
  exact (zq_lt ax1 zcn_0 (zq_i H zc32_m1) (zq_lt ax1 zc8_48 (zq_b (zo_321 H ax0) (zq_O H (zo_s H 321 x0 0) fun q1 hq2 hA3 H4 => (zq_b (zr_456 H4 hq2) (zq_b (zo_321 H4 ax0) (zq_O H4 (zo_s H4 321 x0 0) fun q5 hq6 hA7 H8 => (zq_b (zr_463 H8 hq6) (zq_a (zw_463 H8 hq6) ax1 (zq_a (zw_456 H8 (Nat.lt_of_lt_of_le hq2 hA7)) (zx_s H8 463 q5 x1) (zq_i H8 (zx_s H8 456 q1 (s.1 463 q5 x1))))))))))) (zq_i H zc32_m1)))
theorem zg_136 {A : Nat} {h : xrH} {s : zS} {x0 : Nat} {Xx1 : Int32} {x1 : Int} (H : zH A h s) (ax0 : x0 < 1) (ax1 : zx Xx1 x1) : zq 1 A (xf_136 (za_8 x0) Xx1 h) (zf_136 x0 x1 s) := by
  unfold xf_136 zf_136
  exact (zq_b (zr_517 H ax0) (zq_b (zr_320 H (by decide)) (zq_b (zr_192 H (by decide)) (zq_a (zw_192 H (by decide)) ax1 (zq_eq (zx_s H 192 0 x1) zc32_3 (zq_v H) (zq_t H))))))
theorem zg_119 {A : Nat} {h : xrH} {s : zS} {x0 : Nat} {Xx1 : Int32} {x1 : Int} (H : zH A h s) (ax0 : x0 < 1) (ax1 : zx Xx1 x1) : zq 0 A (xf_119 (za_8 x0) Xx1 h) (zf_119 x0 x1 s) := by
  unfold xf_119 zf_119
  exact (zq_c (zc_8 H ax0) (zq_c_v (zg_135 H ax0 ax1) fun _ h101 s2 _ H1 => (zq_c (zc_8 H1 ax0) (zq_c_v (zg_136 H1 ax0 ax1) fun _ h102 s4 _ H3 => (zq_c (zc_8 H3 ax0) (zq_c_o (zg_132 H3 ax0) fun v7 h103 s6 hv7 H5 => (zq_b (zr_517 H5 ax0) (zq_b (zr_517 H5 ax0) (zq_b (zr_320 H5 (by decide)) (zq_b (zr_198 H5 (by decide)) (zq_a (zw_198 H5 (by decide)) ax1 (zq_c (zc_5 H5 (by decide)) (zq_c_i (zg_82 H5 (by decide) (zx_s H5 198 0 x1)) fun v10 h110 s9 hv10 H8 => (zq_b (zr_517 H8 ax0) (zq_b (zr_320 H8 (by decide)) (zq_b (zr_196 H8 (by decide)) (zq_a (zw_196 H8 (by decide)) ax1 (zq_b (zr_518 H8 ax0) (zq_b (zr_513 H8 ax0) (zq_c (zc_5 H8 (by decide)) (zq_c_i (zg_56 H8 (by decide) (zo_r hv7) (by decide) (zx_r hv10) (zx_s H8 196 0 x1)) fun v13 h118 s12 hv13 H11 => (zq_eq (zx_r hv13) zcn_0 (zq_i H11 zc32_m1) (zq_b (zr_518 H11 ax0) (zq_b (zi_323 H11 (by decide)) (zq_g fun g14 => (zq_i H11 (zsub_x (zx_s H11 323 1 0) (zx_s H8 196 0 x1) g14)))))))))))))))))))))))))))
theorem zg_239 {A : Nat} {h : xrH} {s : zS} {x0 : Nat} {Xx1 : Int32} {x1 : Int} {x2 : Nat} (H : zH A h s) (ax0 : x0 < 1) (ax1 : zx Xx1 x1) (ax2 : x2 < 1) : zq 0 A (xf_239 (za_8 x0) Xx1 (zy_1000 x2) h) (zf_239 x0 x1 x2 s) := by
  unfold xf_239 zf_239
  exact (zq_c (zc_8 H ax0) (zq_ch (zg_119 H ax0 ax1) (fun v3 h101 s2 hv3 H1 => (zq_W (fun hl => zwp_1000 H1 ax2 zc32_0 (zx_r hv3) hl) fun h103 s5 H4 => (zq_i H4 zc32_0))) fun e h104 s7 H6 => match e with | 0 => (zq_ex H6) | 1 => (zq_i H6 zc32_2) | 2 => (zq_i H6 zc32_1) | e + 3 => (zq_ex H6)))
theorem zg_32_4 : ∀ (n : Nat) {A : Nat} {h : xrH} {s : zS} {x0 : Nat} {Xx1 : Int32} {x1 : Int} {Xx2 : Int32} {x2 : Int} (H : zH A h s) (ax0 : x0 < 2) (ax1 : zx Xx1 x1) (ax2 : zx Xx2 x2), zq 0 A (xf_32_4 n (za_3 x0) Xx1 Xx2 h) (zf_32_4 n x0 x1 x2 s) := by
  intro n
  induction n with
  | zero =>
    intros
    exact zq_none
  | succ n ih =>
    intro A h s x0 Xx1 x1 Xx2 x2 H ax0 ax1 ax2
    rw [xf_32_4, zf_32_4]
    exact (zq_b (zi_199 H ax0) (zq_ge ax2 (zx_s H 199 x0 0) (zq_i H zc32_m1) (zq_b (zr_197 H ax0) (zq_a (zw_197 H ax0) ax2 (zq_ne (zx_s H 197 x0 x2) ax1 (zq_g fun g1 => (ih H ax0 ax1 (zadd_x ax2 zc32_1 g1))) (zq_b (zr_192 H ax0) (zq_a (zw_192 H ax0) ax2 (zq_ne (zx_s H 192 x0 x2) zc32_3 (zq_g fun g2 => (ih H ax0 ax1 (zadd_x ax2 zc32_1 g2))) (zq_i H ax2)))))))))
theorem zg_32 {A : Nat} {h : xrH} {s : zS} {x0 : Nat} {Xx1 : Int32} {x1 : Int} (H : zH A h s) (ax0 : x0 < 2) (ax1 : zx Xx1 x1) : zq 0 A (xf_32 (za_3 x0) Xx1 h) (zf_32 x0 x1 s) := by
  unfold xf_32 zf_32
  exact (zq_g fun g1 => (zg_32_4 xfu H ax0 ax1 (zadd_x ax1 zc32_1 g1)))
theorem zg_141_2 : ∀ (n : Nat) {A : Nat} {h : xrH} {s : zS} {x0 : Nat} {Xx1 : Int32} {x1 : Int} (H : zH A h s) (ax0 : x0 < 1) (ax1 : zx Xx1 x1), zq 1 A (xf_141_2 n (za_8 x0) Xx1 h) (zf_141_2 n x0 x1 s) := by
  intro n
  induction n with
  | zero =>
    intros
    exact zq_none
  | succ n ih =>
    intro A h s x0 Xx1 x1 H ax0 ax1
    rw [xf_141_2, zf_141_2]
    exact (zq_b (zr_521 H ax0) (zq_b (zn_eq (zw_521 H ax0)) (zq_ge ax1 (zx_nk (m := 1536) (c := 1536) (by decide) (by decide)) (zq_v H) (zq_b (zr_521 H ax0) (zq_Wz (fun hl hb => zwp_521 H ax0 ax1 zc32_0 hb hl) fun h104 s2 H1 => (zq_g fun g3 => (ih H1 ax0 (zadd_x ax1 zc32_1 g3))))))))
theorem zg_141 {A : Nat} {h : xrH} {s : zS} {x0 : Nat} (H : zH A h s) (ax0 : x0 < 1) : zq 1 A (xf_141 (za_8 x0) h) (zf_141 x0 s) := by
  unfold xf_141 zf_141
  exact (zg_141_2 xfu H ax0 zc32_0)
theorem zg_142 {A : Nat} {h : xrH} {s : zS} {x0 : Nat} {Xx1 : Int32} {x1 : Int} {Xx2 : Int32} {x2 : Int} (H : zH A h s) (ax0 : x0 < 1) (ax1 : zx Xx1 x1) (ax2 : zx Xx2 x2) : zq 0 A (xf_142 (za_8 x0) Xx1 Xx2 h) (zf_142 x0 x1 x2 s) := by
  unfold xf_142 zf_142
  exact (zq_g fun g1 => (zq_g fun g2 => (zq_lt (zadd_x (zmul_x ax1 zc16_256 g1) ax2 g2) zcn_0 (zq_z H zc32_0) (zq_b (zr_521 H ax0) (zq_b (zn_eq (zw_521 H ax0)) (zq_lt (zadd_x (zmul_x ax1 zc16_256 g1) ax2 g2) (zx_nk (m := 1536) (c := 1536) (by decide) (by decide)) (zq_b (zr_521 H ax0) (zq_a (zw_521 H ax0) (zadd_x (zmul_x ax1 zc16_256 g1) ax2 g2) (zq_b (zr_521 H ax0) (zq_Wz (fun hl hb => zwp_521 H ax0 (zadd_x (zmul_x ax1 zc16_256 g1) ax2 g2) zc32_1 hb hl) fun h106 s4 H3 => (zq_z H3 (zx_s H 521 x0 ((x1 * 256) + x2))))))) (zq_z H zc32_0)))))))
theorem zg_120_59 : ∀ (n : Nat) {A : Nat} {h : xrH} {s : zS} {x0 : Nat} {Xx2 : Option Nat} {x2 : Int} {Xx3 : Int32} {x3 : Int} {Xx4 : Int32} {x4 : Int} {Xx5 : Int32} {x5 : Int} {Xx6 : Int32} {x6 : Int} (H : zH A h s) (ax0 : x0 < 1) (ax2 : zo Xx2 x2) (ax3 : zx Xx3 x3) (ax4 : zx Xx4 x4) (ax5 : zx Xx5 x5) (ax6 : zx Xx6 x6), zq 0 A (xf_120_59 n (za_8 x0) Xx2 Xx3 Xx4 Xx5 Xx6 h) (zf_120_59 n x0 x2 x3 x4 x5 x6 s) := by
  intro n
  induction n with
  | zero =>
    intros
    exact zq_none
  | succ n ih =>
    intro A h s x0 Xx2 x2 Xx3 x3 Xx4 x4 Xx5 x5 Xx6 x6 H ax0 ax2 ax3 ax4 ax5 ax6
    rw [xf_120_59, zf_120_59]
    exact (zq_b (zr_521 H ax0) (zq_b (zn_eq (zw_521 H ax0)) (zq_ge ax6 (zx_nk (m := 1536) (c := 1536) (by decide) (by decide)) (zq_i H zc8_m2) (zq_c (zc_8 H ax0) (zq_c_i (zg_142 H ax0 ax3 ax4) fun v3 h103 s2 hv3 H1 => (zq_eq (zx_r hv3) zcn_0 (zq_b (zr_518 H1 ax0) (zq_b (zr_513 H1 ax0) (zq_c (zc_5 H1 (by decide)) (zq_c_i (zg_56 H1 (by decide) ax2 (by decide) ax3 ax4) fun v6 h107 s5 hv6 H4 => (zq_ne (zx_r hv6) zcn_0 (zq_b (zr_518 H4 ax0) (zq_b (zr_320 H4 (by decide)) (zq_c (zc_3 H4 (by decide)) (zq_c_i (zg_32 H4 (by decide) zc32_0) fun v9 h111 s8 hv9 H7 => (zq_ne (zx_r hv9) zc32_m1 (zq_b (zr_518 H7 ax0) (zq_b (zr_518 H7 ax0) (zq_b (zr_320 H7 (by decide)) (zq_b (zr_198 H7 (by decide)) (zq_a (zw_198 H7 (by decide)) (zx_r hv9) (zq_c (zc_5 H7 (by decide)) (zq_c_i (zg_82 H7 (by decide) (zx_s H7 198 1 v9)) fun v12 h118 s11 hv12 H10 => (zq_b (zr_518 H10 ax0) (zq_b (zr_320 H10 (by decide)) (zq_b (zr_196 H10 (by decide)) (zq_a (zw_196 H10 (by decide)) (zx_r hv9) (zq_g fun g13 => (zq_g fun g14 => (ih H10 ax0 ax2 (zx_r hv12) (zx_s H10 196 1 v9) (zadd_x ax5 zc32_1 g13) (zadd_x ax6 zc32_1 g14))))))))))))))) (zq_g fun g15 => (zq_i H7 (zadd_x ax5 zc32_1 g15)))))))) (zq_i H4 ax5)))))) (zq_i H1 zc8_m2)))))))
theorem zg_120 {A : Nat} {h : xrH} {s : zS} {x0 : Nat} {Xx1 : Int32} {x1 : Int} (H : zH A h s) (ax0 : x0 < 1) (ax1 : zx Xx1 x1) : zq 0 A (xf_120 (za_8 x0) Xx1 h) (zf_120 x0 x1 s) := by
  unfold xf_120 zf_120
  exact (zq_c (zc_8 H ax0) (zq_c_v (zg_135 H ax0 ax1) fun _ h101 s2 _ H1 => (zq_c (zc_8 H1 ax0) (zq_c_v (zg_136 H1 ax0 ax1) fun _ h102 s4 _ H3 => (zq_c (zc_8 H3 ax0) (zq_c_o (zg_132 H3 ax0) fun v7 h103 s6 hv7 H5 => (zq_b (zr_517 H5 ax0) (zq_b (zr_517 H5 ax0) (zq_b (zr_320 H5 (by decide)) (zq_b (zr_198 H5 (by decide)) (zq_a (zw_198 H5 (by decide)) ax1 (zq_c (zc_5 H5 (by decide)) (zq_c_i (zg_82 H5 (by decide) (zx_s H5 198 0 x1)) fun v10 h110 s9 hv10 H8 => (zq_b (zr_517 H8 ax0) (zq_b (zr_320 H8 (by decide)) (zq_b (zr_196 H8 (by decide)) (zq_a (zw_196 H8 (by decide)) ax1 (zq_c (zc_8 H8 ax0) (zq_c_v (zg_141 H8 ax0) fun _ h116 s12 _ H11 => (zg_120_59 xfu H11 ax0 (zo_r hv7) (zx_r hv10) (zx_s H8 196 0 x1) zc32_0 zc32_0))))))))))))))))))))
theorem zg_240 {A : Nat} {h : xrH} {s : zS} {x0 : Nat} {Xx1 : Int32} {x1 : Int} {x2 : Nat} (H : zH A h s) (ax0 : x0 < 1) (ax1 : zx Xx1 x1) (ax2 : x2 < 1) : zq 0 A (xf_240 (za_8 x0) Xx1 (zy_1000 x2) h) (zf_240 x0 x1 x2 s) := by
  unfold xf_240 zf_240
  exact (zq_c (zc_8 H ax0) (zq_ch (zg_120 H ax0 ax1) (fun v3 h101 s2 hv3 H1 => (zq_W (fun hl => zwp_1000 H1 ax2 zc32_0 (zx_r hv3) hl) fun h103 s5 H4 => (zq_i H4 zc32_0))) fun e h104 s7 H6 => match e with | 0 => (zq_ex H6) | 1 => (zq_i H6 zc32_2) | 2 => (zq_i H6 zc32_1) | e + 3 => (zq_ex H6)))
theorem zg_121_46 : ∀ (n : Nat) {A : Nat} {h : xrH} {s : zS} {x0 : Nat} {Xx1 : Int32} {x1 : Int} {Xx2 : Int32} {x2 : Int} {Xx4 : Int32} {x4 : Int} (H : zH A h s) (ax0 : x0 < 1) (ax1 : zx Xx1 x1) (ax2 : zx Xx2 x2) (ax4 : zx Xx4 x4), zq 0 A (xf_121_46 n (za_8 x0) Xx1 Xx2 Xx4 h) (zf_121_46 n x0 x1 x2 x4 s) := by
  intro n
  induction n with
  | zero =>
    intros
    exact zq_none
  | succ n ih =>
    intro A h s x0 Xx1 x1 Xx2 x2 Xx4 x4 H ax0 ax1 ax2 ax4
    rw [xf_121_46, zf_121_46]
    exact (zq_b (zr_513 H ax0) (zq_b (zi_1 H (by decide)) (zq_ge ax4 (zx_s H 1 1 0) (zq_i H zc32_m1) (zq_b (zr_513 H ax0) (zq_c (zc_0 H (by decide)) (zq_c_i (zg_2 H (by decide) ax4) fun v3 h104 s2 hv3 H1 => (zq_ne (zand_x (zx_r hv3) ax2) (zand_x ax1 ax2) (zq_g fun g4 => (ih H1 ax0 ax1 ax2 (zadd_x ax4 zc32_1 g4))) (zq_i H1 ax4))))))))
theorem zg_121 {A : Nat} {h : xrH} {s : zS} {x0 : Nat} {Xx1 : Int32} {x1 : Int} {Xx2 : Int32} {x2 : Int} {Xx3 : Int32} {x3 : Int} (H : zH A h s) (ax0 : x0 < 1) (ax1 : zx Xx1 x1) (ax2 : zx Xx2 x2) (ax3 : zx Xx3 x3) : zq 0 A (xf_121 (za_8 x0) Xx1 Xx2 Xx3 h) (zf_121 x0 x1 x2 x3 s) := by
  unfold xf_121 zf_121
  exact (zq_lt ax1 zcn_0 (zq_t H) (zq_gt ax1 zc16_255 (zq_t H) (zq_lt ax2 zcn_0 (zq_t H) (zq_gt ax2 zc16_255 (zq_t H) (zq_lt ax3 zcn_0 (zq_t H) (zq_le ax3 zc16_200 (zg_121_46 xfu H ax0 ax1 ax2 ax3) (zq_t H)))))))
theorem zg_241 {A : Nat} {h : xrH} {s : zS} {x0 : Nat} {Xx1 : Int32} {x1 : Int} {Xx2 : Int32} {x2 : Int} {Xx3 : Int32} {x3 : Int} {x4 : Nat} (H : zH A h s) (ax0 : x0 < 1) (ax1 : zx Xx1 x1) (ax2 : zx Xx2 x2) (ax3 : zx Xx3 x3) (ax4 : x4 < 1) : zq 0 A (xf_241 (za_8 x0) Xx1 Xx2 Xx3 (zy_1000 x4) h) (zf_241 x0 x1 x2 x3 x4 s) := by
  unfold xf_241 zf_241
  exact (zq_c (zc_8 H ax0) (zq_ch (zg_121 H ax0 ax1 ax2 ax3) (fun v3 h101 s2 hv3 H1 => (zq_W (fun hl => zwp_1000 H1 ax4 zc32_0 (zx_r hv3) hl) fun h103 s5 H4 => (zq_i H4 zc32_0))) fun e h104 s7 H6 => match e with | 0 => (zq_i H6 zc32_1) | 1 => (zq_ex H6) | 2 => (zq_ex H6) | e + 3 => (zq_ex H6)))
theorem zg_30 {A : Nat} {h : xrH} {s : zS} {x0 : Nat} {Xx1 : Int32} {x1 : Int} (H : zH A h s) (ax0 : x0 < 2) (ax1 : zx Xx1 x1) : zq 0 A (xf_30 (za_3 x0) Xx1 h) (zf_30 x0 x1 s) := by
  unfold xf_30 zf_30
  exact (zq_c (zc_3 H ax0) (zq_c_i (zg_27 H ax0 ax1) fun v3 h101 s2 hv3 H1 => (zq_eq (zx_r hv3) zcn_0 (zq_z H1 zc32_0) (zq_b (zr_192 H1 ax0) (zq_a (zw_192 H1 ax0) ax1 (zq_eq (zx_s H1 192 x0 x1) zc32_2 (zq_z H1 zc32_1) (zq_b (zr_192 H1 ax0) (zq_a (zw_192 H1 ax0) ax1 (zq_eq (zx_s H1 192 x0 x1) zc32_3 (zq_z H1 zc32_1) (zq_b (zr_192 H1 ax0) (zq_a (zw_192 H1 ax0) ax1 (zq_ne (zx_s H1 192 x0 x1) zc32_4 (zq_z H1 zc32_0) (zq_z H1 zc32_1)))))))))))))
theorem zg_122_57 : ∀ (n : Nat) {A : Nat} {h : xrH} {s : zS} {Xx1 : Int32} {x1 : Int} {Xx2 : Int32} {x2 : Int} {x4 : Nat} {Xx5 : Int32} {x5 : Int} (H : zH A h s) (ax1 : zx Xx1 x1) (ax2 : zx Xx2 x2) (ax4 : x4 < 2) (ax5 : zx Xx5 x5), zq 0 A (xf_122_57 n Xx1 Xx2 (za_3 x4) Xx5 h) (zf_122_57 n x1 x2 x4 x5 s) := by
  intro n
  induction n with
  | zero =>
    intros
    exact zq_none
  | succ n ih =>
    intro A h s Xx1 x1 Xx2 x2 x4 Xx5 x5 H ax1 ax2 ax4 ax5
    rw [xf_122_57, zf_122_57]
    exact (zq_b (zi_199 H ax4) (zq_ge ax5 (zx_s H 199 x4 0) (zq_i H zc32_m1) (zq_c (zc_3 H ax4) (zq_c_i (zg_30 H ax4 ax5) fun v3 h102 s2 hv3 H1 => (zq_eq (zx_r hv3) zcn_0 (zq_g fun g4 => (ih H1 ax1 ax2 ax4 (zadd_x ax5 zc32_1 g4))) (zq_b (zr_193 H1 ax4) (zq_a (zw_193 H1 ax4) ax5 (zq_ne (zx_s H1 193 x4 x5) ax1 (zq_g fun g5 => (ih H1 ax1 ax2 ax4 (zadd_x ax5 zc32_1 g5))) (zq_b (zr_196 H1 ax4) (zq_a (zw_196 H1 ax4) ax5 (zq_ne (zx_s H1 196 x4 x5) ax2 (zq_g fun g6 => (ih H1 ax1 ax2 ax4 (zadd_x ax5 zc32_1 g6))) (zq_i H1 ax5))))))))))))
theorem zg_122 {A : Nat} {h : xrH} {s : zS} {x0 : Nat} {Xx1 : Int32} {x1 : Int} {Xx2 : Int32} {x2 : Int} {Xx3 : Int32} {x3 : Int} (H : zH A h s) (ax0 : x0 < 1) (ax1 : zx Xx1 x1) (ax2 : zx Xx2 x2) (ax3 : zx Xx3 x3) : zq 0 A (xf_122 (za_8 x0) Xx1 Xx2 Xx3 h) (zf_122 x0 x1 x2 x3 s) := by
  unfold xf_122 zf_122
  exact (zq_lt ax1 zcn_0 (zq_t H) (zq_ge ax1 zc8_26 (zq_t H) (zq_lt ax2 zcn_0 (zq_t H) (zq_gt ax2 zc32_65535 (zq_t H) (zq_lt ax3 zcn_0 (zq_t H) (zq_le ax3 zc16_200 (zq_c (zc_8 H ax0) (zq_c_v (zg_133 H ax0) fun _ h101 s2 _ H1 => (zq_b (zr_517 H1 ax0) (zq_b (zr_320 H1 (by decide)) (zg_122_57 xfu H1 ax1 ax2 (by decide) ax3))))) (zq_t H)))))))
theorem zg_242 {A : Nat} {h : xrH} {s : zS} {x0 : Nat} {Xx1 : Int32} {x1 : Int} {Xx2 : Int32} {x2 : Int} {Xx3 : Int32} {x3 : Int} {x4 : Nat} (H : zH A h s) (ax0 : x0 < 1) (ax1 : zx Xx1 x1) (ax2 : zx Xx2 x2) (ax3 : zx Xx3 x3) (ax4 : x4 < 1) : zq 0 A (xf_242 (za_8 x0) Xx1 Xx2 Xx3 (zy_1000 x4) h) (zf_242 x0 x1 x2 x3 x4 s) := by
  unfold xf_242 zf_242
  exact (zq_c (zc_8 H ax0) (zq_ch (zg_122 H ax0 ax1 ax2 ax3) (fun v3 h101 s2 hv3 H1 => (zq_W (fun hl => zwp_1000 H1 ax4 zc32_0 (zx_r hv3) hl) fun h103 s5 H4 => (zq_i H4 zc32_0))) fun e h104 s7 H6 => match e with | 0 => (zq_i H6 zc32_1) | 1 => (zq_ex H6) | 2 => (zq_ex H6) | e + 3 => (zq_ex H6)))
theorem zg_10 {A : Nat} {h : xrH} {s : zS} {x0 : Nat} {x1 : Nat} (H : zH A h s) (ax0 : x0 < 1) (ax1 : x1 < 3) : zq 1 A (xf_10 (za_1 x0) (za_0 x1) h) (zf_10 x0 x1 s) := by
  unfold xf_10 zf_10
  exact (zq_b (zr_64 H ax0) (zq_c (zc_0 H (by decide)) (zq_c_v (zg_5 H (by decide) ax1) fun _ h102 s2 _ H1 => (zq_v H1))))
theorem zg_3 {A : Nat} {h : xrH} {s : zS} {x0 : Nat} {Xx1 : Int32} {x1 : Int} {Xx2 : Int32} {x2 : Int} (H : zH A h s) (ax0 : x0 < 3) (ax1 : zx Xx1 x1) (ax2 : zx Xx2 x2) : zq 1 A (xf_3 (za_0 x0) Xx1 Xx2 h) (zf_3 x0 x1 x2 s) := by
  unfold xf_3 zf_3
  exact (zq_lt ax1 zcn_0 (zq_v H) (zq_b (zi_1 H ax0) (zq_ge ax1 (zx_s H 1 x0 0) (zq_v H) (zq_b (zr_0 H ax0) (zq_W (fun hl => zwp_0 H ax0 ax1 ax2 hl) fun h103 s2 H1 => (zq_v H1))))))
theorem zg_81_24 {A : Nat} {h : xrH} {s : zS} {x0 : Nat} {Xs0 : Int32} {s0 : Int} (H : zH A h s) (ax0 : x0 < 2) (as0 : zx Xs0 s0) : zq 0 A (xf_81_24 (za_5 x0) Xs0 h) (zf_81_24 x0 s0 s) := by
  unfold xf_81_24 zf_81_24
  exact (zq_ne as0 zc32_m1 (zq_b (zo_321 H ax0) (zq_O H (zo_s H 321 x0 0) fun q1 hq2 hA3 H4 => (zq_b (zr_458 H4 hq2) (zq_a (zw_458 H4 hq2) as0 (zq_i H4 (zx_s H4 458 q1 s0)))))) (zq_i H zc8_65))
theorem zg_81 {A : Nat} {h : xrH} {s : zS} {x0 : Nat} {Xx1 : Int32} {x1 : Int} (H : zH A h s) (ax0 : x0 < 2) (ax1 : zx Xx1 x1) : zq 0 A (xf_81 (za_5 x0) Xx1 h) (zf_81 x0 x1 s) := by
  unfold xf_81 zf_81
  exact (zq_b (zr_320 H ax0) (zq_c (zc_3 H ax0) (zq_c_i (zg_27 H ax0 ax1) fun v3 h102 s2 hv3 H1 => (zq_eq (zx_r hv3) zcn_0 (zg_81_24 H1 ax0 zc32_m1) (zq_b (zr_320 H1 ax0) (zq_b (zr_198 H1 ax0) (zq_a (zw_198 H1 ax0) ax1 (zg_81_24 H1 ax0 (zx_s H1 198 x0 x1)))))))))
theorem zg_83_24 {A : Nat} {h : xrH} {s : zS} {x0 : Nat} {Xs0 : Int32} {s0 : Int} (H : zH A h s) (ax0 : x0 < 2) (as0 : zx Xs0 s0) : zq 0 A (xf_83_24 (za_5 x0) Xs0 h) (zf_83_24 x0 s0 s) := by
  unfold xf_83_24 zf_83_24
  exact (zq_ne as0 zc32_m1 (zq_b (zo_321 H ax0) (zq_O H (zo_s H 321 x0 0) fun q1 hq2 hA3 H4 => (zq_b (zr_459 H4 hq2) (zq_a (zw_459 H4 hq2) as0 (zq_g fun g5 => (zq_i H4 (zsub_x (zshl_x zc32_1 (zx_s H4 459 q1 s0)) zc32_1 g5))))))) (zq_i H zc32_m1))
theorem zg_83 {A : Nat} {h : xrH} {s : zS} {x0 : Nat} {Xx1 : Int32} {x1 : Int} (H : zH A h s) (ax0 : x0 < 2) (ax1 : zx Xx1 x1) : zq 0 A (xf_83 (za_5 x0) Xx1 h) (zf_83 x0 x1 s) := by
  unfold xf_83 zf_83
  exact (zq_b (zr_320 H ax0) (zq_c (zc_3 H ax0) (zq_c_i (zg_27 H ax0 ax1) fun v3 h102 s2 hv3 H1 => (zq_eq (zx_r hv3) zcn_0 (zg_83_24 H1 ax0 zc32_m1) (zq_b (zr_320 H1 ax0) (zq_b (zr_198 H1 ax0) (zq_a (zw_198 H1 ax0) ax1 (zg_83_24 H1 ax0 (zx_s H1 198 x0 x1)))))))))
theorem zg_84 {A : Nat} {h : xrH} {s : zS} {x0 : Nat} {Xx1 : Int32} {x1 : Int} (H : zH A h s) (ax0 : x0 < 2) (ax1 : zx Xx1 x1) : zq 0 A (xf_84 (za_5 x0) Xx1 h) (zf_84 x0 x1 s) := by
  unfold xf_84 zf_84
  exact (zq_c (zc_5 H ax0) (zq_c_i (zg_81 H ax0 ax1) fun v3 h101 s2 hv3 H1 => (zq_ne (zx_r hv3) zc8_110 (zq_i H1 zc32_0) (zq_b (zo_321 H1 ax0) (zq_O H1 (zo_s H1 321 x0 0) fun q4 hq5 hA6 H7 => (zq_b (zr_460 H7 hq5) (zq_b (zr_320 H7 ax0) (zq_b (zr_198 H7 ax0) (zq_a (zw_198 H7 ax0) ax1 (zq_a (zw_460 H7 hq5) (zx_s H7 198 x0 x1) (zq_i H7 (zx_s H7 460 q4 (s2.1 198 x0 x1)))))))))))))
theorem zg_11 {A : Nat} {h : xrH} {s : zS} {x0 : Nat} {x1 : Nat} {Xx2 : Int32} {x2 : Int} {Xx3 : Int32} {x3 : Int} (H : zH A h s) (ax0 : x0 < 1) (ax1 : x1 < 2) (ax2 : zx Xx2 x2) (ax3 : zx Xx3 x3) : zq 1 A (xf_11 (za_1 x0) (za_5 x1) Xx2 Xx3 h) (zf_11 x0 x1 x2 x3 s) := by
  unfold xf_11 zf_11
  exact (zq_b (zr_320 H ax1) (zq_b (zr_194 H ax1) (zq_a (zw_194 H ax1) ax2 (zq_c (zc_5 H ax1) (zq_c_i (zg_81 H ax1 ax2) fun v3 h104 s2 hv3 H1 => (zq_sw (zx_r hv3) zcn_87 (zq_b (zr_64 H1 ax0) (zq_c (zc_0 H1 (by decide)) (zq_c_v (zg_3 H1 (by decide) (zx_s H 194 x1 x2) (zshr_x ax3 zc8_8)) fun _ h109 s23 _ H22 => (zq_b (zr_64 H22 ax0) (zq_c (zc_0 H22 (by decide)) (zq_g fun g24 => (zq_c_v (zg_3 H22 (by decide) (zadd_x (zx_s H 194 x1 x2) zc32_1 g24) (zand_x ax3 zc16_255)) fun _ h111 s26 _ H25 => (zq_v H25)))))))) (zq_sw (zx_r hv3) zcn_110 (zq_c (zc_5 H1 ax1) (zq_c_i (zg_84 H1 ax1 ax2) fun v13 h112 s12 hv13 H11 => (zq_b (zr_64 H11 ax0) (zq_c (zc_0 H11 (by decide)) (zq_c_i (zg_2 H11 (by decide) (zx_s H 194 x1 x2)) fun v16 h115 s15 hv16 H14 => (zq_c (zc_5 H14 ax1) (zq_c_i (zg_83 H14 ax1 ax2) fun v19 h117 s18 hv19 H17 => (zq_b (zr_64 H17 ax0) (zq_c (zc_0 H17 (by decide)) (zq_c_v (zg_3 H17 (by decide) (zx_s H 194 x1 x2) (zor_x (zand_x (zx_r hv16) (zxor_x (zshl_x (zx_r hv19) (zx_r hv13)) zc32_m1)) (zshl_x ax3 (zx_r hv13)))) fun _ h120 s21 _ H20 => (zq_v H20))))))))))) (zq_sw (zx_r hv3) zcn_119 (zq_b (zr_64 H1 ax0) (zq_c (zc_0 H1 (by decide)) (zq_c_v (zg_3 H1 (by decide) (zx_s H 194 x1 x2) (zand_x ax3 zc16_255)) fun _ h122 s7 _ H6 => (zq_b (zr_64 H6 ax0) (zq_c (zc_0 H6 (by decide)) (zq_g fun g8 => (zq_c_v (zg_3 H6 (by decide) (zadd_x (zx_s H 194 x1 x2) zc32_1 g8) (zshr_x ax3 zc8_8)) fun _ h124 s10 _ H9 => (zq_v H9)))))))) (zq_b (zr_64 H1 ax0) (zq_c (zc_0 H1 (by decide)) (zq_c_v (zg_3 H1 (by decide) (zx_s H 194 x1 x2) ax3) fun _ h107 s5 _ H4 => (zq_v H4))))))))))))
theorem zg_139 {A : Nat} {h : xrH} {s : zS} {x0 : Nat} {Xx1 : Int32} {x1 : Int} (H : zH A h s) (ax0 : x0 < 1) (ax1 : zx Xx1 x1) : zq 0 A (xf_139 (za_8 x0) Xx1 h) (zf_139 x0 x1 s) := by
  unfold xf_139 zf_139
  exact (zq_b (zr_517 H ax0) (zq_b (zr_320 H (by decide)) (zq_c (zc_3 H (by decide)) (zq_c_i (zg_30 H (by decide) ax1) fun v3 h103 s2 hv3 H1 => (zq_eq (zx_r hv3) zcn_0 (zq_z H1 zc32_0) (zq_b (zr_517 H1 ax0) (zq_c (zc_5 H1 (by decide)) (zq_c_i (zg_76 H1 (by decide) ax1) fun v6 h106 s5 hv6 H4 => (zq_ne (zx_r hv6) zcn_0 (zq_z H4 zc32_0) (zq_z H4 zc32_1))))))))))
theorem zg_16_43 (k4 : Nat → Nat → Int32 → Int32 → xrH → xrR) (zk4 : Nat → Nat → Int → Int → zS → zR) (hk4 : ∀ {A : Nat} {h : xrH} {s : zS} {y0 : Nat} {y1 : Nat} {Xy2 : Int32} {y2 : Int} {Xy3 : Int32} {y3 : Int} (H : zH A h s) (ay0 : y0 < 1) (ay1 : y1 < 2) (ay2 : zx Xy2 y2) (ay3 : zx Xy3 y3), zq 0 A (k4 (za_1 y0) (za_5 y1) Xy2 Xy3 h) (zk4 y0 y1 y2 y3 s)) {A : Nat} {h : xrH} {s : zS} {x0 : Nat} {x1 : Nat} {Xx2 : Int32} {x2 : Int} {Xx3 : Int32} {x3 : Int} {Xx5 : Int32} {x5 : Int} (H : zH A h s) (ax0 : x0 < 1) (ax1 : x1 < 2) (ax2 : zx Xx2 x2) (ax3 : zx Xx3 x3) (ax5 : zx Xx5 x5) : zq 0 A (xf_16_43 k4 (za_1 x0) (za_5 x1) Xx2 Xx3 Xx5 h) (zf_16_43 zk4 x0 x1 x2 x3 x5 s) := by
  unfold xf_16_43 zf_16_43
  exact (zq_b (zr_320 H ax1) (zq_b (zr_196 H ax1) (zq_a (zw_196 H ax1) ax3 (zq_eq (zx_s H 196 x1 x3) ax5 (zq_g fun g1 => (hk4 H ax0 ax1 ax2 (zadd_x ax3 zc32_1 g1))) (zq_c (zc_1 H ax0) (zq_c_v (zg_11 H ax0 ax1 ax3 ax5) fun _ h104 s3 _ H2 => (zq_g fun g4 => (zq_g fun g5 => (hk4 H2 ax0 ax1 (zadd_x ax2 zc32_1 g4) (zadd_x ax3 zc32_1 g5))))))))))
theorem zg_16_4 : ∀ (n : Nat) {A : Nat} {h : xrH} {s : zS} {x0 : Nat} {x1 : Nat} {Xx2 : Int32} {x2 : Int} {Xx3 : Int32} {x3 : Int} (H : zH A h s) (ax0 : x0 < 1) (ax1 : x1 < 2) (ax2 : zx Xx2 x2) (ax3 : zx Xx3 x3), zq 0 A (xf_16_4 n (za_1 x0) (za_5 x1) Xx2 Xx3 h) (zf_16_4 n x0 x1 x2 x3 s) := by
  intro n
  induction n with
  | zero =>
    intros
    exact zq_none
  | succ n ih =>
    intro A h s x0 x1 Xx2 x2 Xx3 x3 H ax0 ax1 ax2 ax3
    rw [xf_16_4, zf_16_4]
    exact (zq_b (zr_320 H ax1) (zq_b (zi_199 H ax1) (zq_ge ax3 (zx_s H 199 x1 0) (zq_i H ax2) (zq_c (zc_5 H ax1) (zq_c_i (zg_76 H ax1 ax3) fun v3 h103 s2 hv3 H1 => (zq_c (zc_5 H1 ax1) (zq_c_i (zg_78 H1 ax1 ax3) fun v6 h105 s5 hv6 H4 => (zq_eq (zx_r hv3) zc8_35 (zg_16_43 (fun y0 y1 y2 y3 y => (xf_16_4 n y0 y1 y2 y3 y)) (fun y0 y1 y2 y3 y => (zf_16_4 n y0 y1 y2 y3 y)) (fun H ay0 ay1 ay2 ay3 => (ih H ay0 ay1 ay2 ay3)) H4 ax0 ax1 ax2 ax3 (zx_r hv6)) (zq_ne (zx_r hv3) zc8_37 (zq_g fun g7 => (ih H4 ax0 ax1 ax2 (zadd_x ax3 zc32_1 g7))) (zg_16_43 (fun y0 y1 y2 y3 y => (xf_16_4 n y0 y1 y2 y3 y)) (fun y0 y1 y2 y3 y => (zf_16_4 n y0 y1 y2 y3 y)) (fun H ay0 ay1 ay2 ay3 => (ih H ay0 ay1 ay2 ay3)) H4 ax0 ax1 ax2 ax3 (zx_r hv6)))))))))))
theorem zg_16 {A : Nat} {h : xrH} {s : zS} {x0 : Nat} {x1 : Nat} (H : zH A h s) (ax0 : x0 < 1) (ax1 : x1 < 2) : zq 0 A (xf_16 (za_1 x0) (za_5 x1) h) (zf_16 x0 x1 s) := by
  unfold xf_16 zf_16
  exact (zg_16_4 xfu H ax0 ax1 zc32_0 zc32_0)
theorem zg_15_2 : ∀ (n : Nat) {A : Nat} {h : xrH} {s : zS} {x0 : Nat} {x1 : Nat} {Xx2 : Option Nat} {x2 : Int} {Xx3 : Int32} {x3 : Int} (H : zH A h s) (ax0 : x0 < 1) (ax1 : x1 < 2) (ax2 : zo Xx2 x2) (ax3 : zx Xx3 x3), zq 0 A (xf_15_2 n (za_1 x0) (za_5 x1) Xx2 Xx3 h) (zf_15_2 n x0 x1 x2 x3 s) := by
  intro n
  induction n with
  | zero =>
    intros
    exact zq_none
  | succ n ih =>
    intro A h s x0 x1 Xx2 x2 Xx3 x3 H ax0 ax1 ax2 ax3
    rw [xf_15_2, zf_15_2]
    exact (zq_gt ax3 zc32_4 (zq_z H zc32_0) (zq_b (zr_64 H ax0) (zq_c (zc_5 H ax1) (zq_c_i (zg_56 H ax1 ax2 (by decide) zc32_0 zc32_0) fun v3 h102 s2 hv3 H1 => (zq_ne (zx_r hv3) zcn_0 (zq_c (zc_1 H1 ax0) (zq_c_i (zg_16 H1 ax0 ax1) fun v6 h104 s5 hv6 H4 => (zq_ne (zx_r hv6) zcn_0 (zq_g fun g7 => (ih H4 ax0 ax1 ax2 (zadd_x ax3 zc32_1 g7))) (zq_z H4 zc32_1)))) (zq_z H1 zc32_0))))))
theorem zg_15 {A : Nat} {h : xrH} {s : zS} {x0 : Nat} {x1 : Nat} {Xx2 : Option Nat} {x2 : Int} (H : zH A h s) (ax0 : x0 < 1) (ax1 : x1 < 2) (ax2 : zo Xx2 x2) : zq 0 A (xf_15 (za_1 x0) (za_5 x1) Xx2 h) (zf_15 x0 x1 x2 s) := by
  unfold xf_15 zf_15
  exact (zg_15_2 xfu H ax0 ax1 ax2 zc32_0)
theorem zg_19_2 : ∀ (n : Nat) {A : Nat} {h : xrH} {s : zS} {x0 : Nat} {x1 : Nat} {Xx2 : Int32} {x2 : Int} {Xx3 : Int32} {x3 : Int} (H : zH A h s) (ax0 : x0 < 1) (ax1 : x1 < 2) (ax2 : zx Xx2 x2) (ax3 : zx Xx3 x3), zq 0 A (xf_19_2 n (za_1 x0) (za_3 x1) Xx2 Xx3 h) (zf_19_2 n x0 x1 x2 x3 s) := by
  intro n
  induction n with
  | zero =>
    intros
    exact zq_none
  | succ n ih =>
    intro A h s x0 x1 Xx2 x2 Xx3 x3 H ax0 ax1 ax2 ax3
    rw [xf_19_2, zf_19_2]
    exact (zq_c (zc_3 H ax1) (zq_c_i (zg_27 H ax1 ax3) fun v3 h101 s2 hv3 H1 => (zq_eq (zx_r hv3) zcn_0 (zq_z H1 zc32_0) (zq_b (zr_194 H1 ax1) (zq_a (zw_194 H1 ax1) ax3 (zq_b (zr_194 H1 ax1) (zq_a (zw_194 H1 ax1) ax2 (zq_b (zr_195 H1 ax1) (zq_a (zw_195 H1 ax1) ax2 (zq_g fun g4 => (zq_ge (zx_s H1 194 x1 x3) (zadd_x (zx_s H1 194 x1 x2) (zx_s H1 195 x1 x2) g4) (zq_z H1 zc32_0) (zq_b (zr_65 H1 ax0) (zq_a (zw_65 H1 ax0) ax3 (zq_eq (zx_s H1 65 x0 x3) zcn_0 (zq_g fun g5 => (ih H1 ax0 ax1 ax2 (zadd_x ax3 zc32_1 g5))) (zq_z H1 zc32_1)))))))))))))))
theorem zg_19 {A : Nat} {h : xrH} {s : zS} {x0 : Nat} {x1 : Nat} {Xx2 : Int32} {x2 : Int} (H : zH A h s) (ax0 : x0 < 1) (ax1 : x1 < 2) (ax2 : zx Xx2 x2) : zq 0 A (xf_19 (za_1 x0) (za_3 x1) Xx2 h) (zf_19 x0 x1 x2 s) := by
  unfold xf_19 zf_19
  exact (zg_19_2 xfu H ax0 ax1 ax2 ax2)
theorem zg_18_2 : ∀ (n : Nat) {A : Nat} {h : xrH} {s : zS} {x0 : Nat} {x1 : Nat} {Xx2 : Int32} {x2 : Int} (H : zH A h s) (ax0 : x0 < 1) (ax1 : x1 < 2) (ax2 : zx Xx2 x2), zq 0 A (xf_18_2 n (za_1 x0) (za_5 x1) Xx2 h) (zf_18_2 n x0 x1 x2 s) := by
  intro n
  induction n with
  | zero =>
    intros
    exact zq_none
  | succ n ih =>
    intro A h s x0 x1 Xx2 x2 H ax0 ax1 ax2
    rw [xf_18_2, zf_18_2]
    exact (zq_b (zr_320 H ax1) (zq_b (zi_199 H ax1) (zq_ge ax2 (zx_s H 199 x1 0) (zq_i H zc32_m1) (zq_b (zr_65 H ax0) (zq_a (zw_65 H ax0) ax2 (zq_eq (zx_s H 65 x0 x2) zcn_0 (zq_g fun g1 => (ih H ax0 ax1 (zadd_x ax2 zc32_1 g1))) (zq_b (zr_320 H ax1) (zq_c (zc_5 H ax1) (zq_c_i (zg_77 H ax1 ax2) fun v4 h106 s3 hv4 H2 => (zq_c (zc_1 H2 ax0) (zq_c_i (zg_19 H2 ax0 ax1 (zx_r hv4)) fun v7 h108 s6 hv7 H5 => (zq_ne (zx_r hv7) zcn_0 (zq_g fun g8 => (ih H5 ax0 ax1 (zadd_x ax2 zc32_1 g8))) (zq_i H5 ax2)))))))))))))
theorem zg_18 {A : Nat} {h : xrH} {s : zS} {x0 : Nat} {x1 : Nat} (H : zH A h s) (ax0 : x0 < 1) (ax1 : x1 < 2) : zq 0 A (xf_18 (za_1 x0) (za_5 x1) h) (zf_18 x0 x1 s) := by
  unfold xf_18 zf_18
  exact (zg_18_2 xfu H ax0 ax1 zc32_0)
theorem zg_17_52 (k10 : Nat → Nat → Nat → Int32 → Int32 → xrH → xrR) (zk10 : Nat → Nat → Nat → Int → Int → zS → zR) (hk10 : ∀ {A : Nat} {h : xrH} {s : zS} {y0 : Nat} {y1 : Nat} {y2 : Nat} {Xy3 : Int32} {y3 : Int} {Xy4 : Int32} {y4 : Int} (H : zH A h s) (ay0 : y0 < 1) (ay1 : y1 < 2) (ay2 : y2 < 2) (ay3 : zx Xy3 y3) (ay4 : zx Xy4 y4), zq 0 A (k10 (za_1 y0) (za_5 y1) (za_3 y2) Xy3 Xy4 h) (zk10 y0 y1 y2 y3 y4 s)) {A : Nat} {h : xrH} {s : zS} {x0 : Nat} {x1 : Nat} {x2 : Nat} {Xx3 : Int32} {x3 : Int} {Xx4 : Int32} {x4 : Int} {s0 : Nat} {Xs1 : Int32} {s1 : Int} {Xs2 : Int32} {s2 : Int} (H : zH A h s) (ax0 : x0 < 1) (ax1 : x1 < 2) (ax2 : x2 < 2) (ax3 : zx Xx3 x3) (ax4 : zx Xx4 x4) (as0 : s0 < 1) (as1 : zx Xs1 s1) (as2 : zx Xs2 s2) : zq 0 A (xf_17_52 k10 (za_1 x0) (za_5 x1) (za_3 x2) Xx3 Xx4 (zy_65 s0) Xs1 Xs2 h) (zf_17_52 zk10 x0 x1 x2 x3 x4 s0 s1 s2 s) := by
  unfold xf_17_52 zf_17_52
  exact (zq_Wz (fun hl hb => zwp_65 H as0 as1 as2 hb hl) fun h101 s2 H1 => (zq_b (zr_65 H1 ax0) (zq_a (zw_65 H1 ax0) ax4 (zq_eq (zx_s H1 65 x0 x4) zcn_0 (zq_g fun g3 => (zq_g fun g4 => (hk10 H1 ax0 ax1 ax2 (zadd_x ax3 zc32_0 g3) (zadd_x ax4 zc32_1 g4)))) (zq_g fun g5 => (zq_g fun g6 => (hk10 H1 ax0 ax1 ax2 (zadd_x ax3 zc32_1 g5) (zadd_x ax4 zc32_1 g6))))))))
theorem zg_17_80 : ∀ (n : Nat) {A : Nat} {h : xrH} {s : zS} {x0 : Nat} {x1 : Nat} {Xx4 : Int32} {x4 : Int} (H : zH A h s) (ax0 : x0 < 1) (ax1 : x1 < 2) (ax4 : zx Xx4 x4), zq 0 A (xf_17_80 n (za_1 x0) (za_5 x1) Xx4 h) (zf_17_80 n x0 x1 x4 s) := by
  intro n
  induction n with
  | zero =>
    intros
    exact zq_none
  | succ n ih =>
    intro A h s x0 x1 Xx4 x4 H ax0 ax1 ax4
    rw [xf_17_80, zf_17_80]
    exact (zq_le ax4 zcn_0 (zq_z H zc32_1) (zq_c (zc_1 H ax0) (zq_c_i (zg_18 H ax0 ax1) fun v3 h101 s2 hv3 H1 => (zq_ne (zx_r hv3) zc32_m1 (zq_c (zc_5 H1 ax1) (zq_c_i (zg_78 H1 ax1 (zx_r hv3)) fun v6 h103 s5 hv6 H4 => (zq_c (zc_1 H4 ax0) (zq_c_v (zg_11 H4 ax0 ax1 (zx_r hv3) (zx_r hv6)) fun _ h105 s8 _ H7 => (zq_b (zr_65 H7 ax0) (zq_Wz (fun hl hb => zwp_65 H7 ax0 (zx_r hv3) zc32_0 hb hl) fun h107 s10 H9 => (zq_g fun g11 => (ih H9 ax0 ax1 (zadd_x ax4 zc32_m1 g11))))))))) (zq_z H1 zc32_0)))))
theorem zg_17_10 : ∀ (n : Nat) {A : Nat} {h : xrH} {s : zS} {x0 : Nat} {x1 : Nat} {x2 : Nat} {Xx3 : Int32} {x3 : Int} {Xx4 : Int32} {x4 : Int} (H : zH A h s) (ax0 : x0 < 1) (ax1 : x1 < 2) (ax2 : x2 < 2) (ax3 : zx Xx3 x3) (ax4 : zx Xx4 x4), zq 0 A (xf_17_10 n (za_1 x0) (za_5 x1) (za_3 x2) Xx3 Xx4 h) (zf_17_10 n x0 x1 x2 x3 x4 s) := by
  intro n
  induction n with
  | zero =>
    intros
    exact zq_none
  | succ n ih =>
    intro A h s x0 x1 x2 Xx3 x3 Xx4 x4 H ax0 ax1 ax2 ax3 ax4
    rw [xf_17_10, zf_17_10]
    exact (zq_b (zi_199 H ax2) (zq_ge ax4 (zx_s H 199 x2 0) (zg_17_80 xfu H ax0 ax1 ax3) (zq_c (zc_5 H ax1) (zq_c_i (zg_76 H ax1 ax4) fun v3 h102 s2 hv3 H1 => (zq_b (zr_65 H1 ax0) (zq_eq (zx_r hv3) zc8_43 (zg_17_52 (fun y0 y1 y2 y3 y4 y => (xf_17_10 n y0 y1 y2 y3 y4 y)) (fun y0 y1 y2 y3 y4 y => (zf_17_10 n y0 y1 y2 y3 y4 y)) (fun H ay0 ay1 ay2 ay3 ay4 => (ih H ay0 ay1 ay2 ay3 ay4)) H1 ax0 ax1 ax2 ax3 ax4 ax0 ax4 zc32_1) (zq_ne (zx_r hv3) zc8_94 (zg_17_52 (fun y0 y1 y2 y3 y4 y => (xf_17_10 n y0 y1 y2 y3 y4 y)) (fun y0 y1 y2 y3 y4 y => (zf_17_10 n y0 y1 y2 y3 y4 y)) (fun H ay0 ay1 ay2 ay3 ay4 => (ih H ay0 ay1 ay2 ay3 ay4)) H1 ax0 ax1 ax2 ax3 ax4 ax0 ax4 zc32_0) (zg_17_52 (fun y0 y1 y2 y3 y4 y => (xf_17_10 n y0 y1 y2 y3 y4 y)) (fun y0 y1 y2 y3 y4 y => (zf_17_10 n y0 y1 y2 y3 y4 y)) (fun H ay0 ay1 ay2 ay3 ay4 => (ih H ay0 ay1 ay2 ay3 ay4)) H1 ax0 ax1 ax2 ax3 ax4 ax0 ax4 zc32_1))))))))
theorem zg_17 {A : Nat} {h : xrH} {s : zS} {x0 : Nat} {x1 : Nat} (H : zH A h s) (ax0 : x0 < 1) (ax1 : x1 < 2) : zq 0 A (xf_17 (za_1 x0) (za_5 x1) h) (zf_17 x0 x1 s) := by
  unfold xf_17 zf_17
  exact (zq_b (zr_320 H ax1) (zg_17_10 xfu H ax0 ax1 ax1 zc32_0 zc32_0))
