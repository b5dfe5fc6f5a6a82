/-! the methods do what their functions over the store do -/
theorem zg_92 {A : Nat} {h : xrH} {s : zS} {x0 : Nat} {Xx1 : Int32} {x1 : Int} {Xx2 : Int32} {x2 : Int} (H : zH A h s) (ax0 : x0 < 1) (ax1 : zx Xx1 x1) (ax2 : zx Xx2 x2) : zq 0 A (xf_92 (za_6 x0) Xx1 Xx2 h) (zf_92 x0 x1 x2 s) := by
  unfold xf_92 zf_92
  exact (zq_lt ax2 zcn_0 (zq_i H zc32_0) (zq_c (zc_6 H ax0) (zq_c_i (zg_91 H ax0 ax1) fun v3 h101 s2 hv3 H1 => (zq_ge ax2 (zx_r hv3) (zq_i H1 zc32_0) (zq_b (zr_384 H1 ax0) (zq_g fun g4 => (zq_g fun g5 => (zq_a (zw_384 H1 ax0) (zadd_x (zmul_x ax1 zc16_160 g4) ax2 g5) (zq_i H1 (zx_s H1 384 x0 ((x1 * 160) + x2)))))))))))
theorem zg_94_14 : ∀ (n : Nat) {A : Nat} {h : xrH} {s : zS} {x0 : Nat} {Xx1 : Int32} {x1 : Int} {x2 : Nat} {Xx3 : Int32} {x3 : Int} {Xx4 : Int32} {x4 : Int} (H : zH A h s) (ax0 : x0 < 1) (ax1 : zx Xx1 x1) (ax2 : x2 < 3) (ax3 : zx Xx3 x3) (ax4 : zx Xx4 x4), zq 1 A (xf_94_14 n (za_6 x0) Xx1 (za_0 x2) Xx3 Xx4 h) (zf_94_14 n x0 x1 x2 x3 x4 s) := by
  intro n
  induction n with
  | zero =>
    intros
    exact zq_none
  | succ n ih =>
    intro A h s x0 Xx1 x1 x2 Xx3 x3 Xx4 x4 H ax0 ax1 ax2 ax3 ax4
    rw [xf_94_14, zf_94_14]
    exact (zq_ge ax4 ax3 (zq_v H) (zq_c (zc_6 H ax0) (zq_c_i (zg_92 H ax0 ax1 ax4) fun v3 h101 s2 hv3 H1 => (zq_c (zc_0 H1 ax2) (zq_c_v (zg_4 H1 ax2 (zx_r hv3)) fun _ h103 s5 _ H4 => (zq_g fun g6 => (ih H4 ax0 ax1 ax2 ax3 (zadd_x ax4 zc32_1 g6))))))))
theorem zg_94 {A : Nat} {h : xrH} {s : zS} {x0 : Nat} {Xx1 : Int32} {x1 : Int} {x2 : Nat} (H : zH A h s) (ax0 : x0 < 1) (ax1 : zx Xx1 x1) (ax2 : x2 < 3) : zq 1 A (xf_94 (za_6 x0) Xx1 (za_0 x2) h) (zf_94 x0 x1 x2 s) := by
  unfold xf_94 zf_94
  exact (zq_c (zc_6 H ax0) (zq_c_i (zg_91 H ax0 ax1) fun v3 h101 s2 hv3 H1 => (zq_P (zpi_1 H1 ax2 zc32_0) fun h103 s5 H4 => (zg_94_14 xfu H4 ax0 ax1 ax2 (zx_r hv3) zc32_0))))
theorem zg_112 {A : Nat} {h : xrH} {s : zS} {x0 : Nat} {Xx1 : Int32} {x1 : Int} (H : zH A h s) (ax0 : x0 < 1) (ax1 : zx Xx1 x1) : zq 0 A (xf_112 (za_8 x0) Xx1 h) (zf_112 x0 x1 s) := by
  unfold xf_112 zf_112
  exact (zq_c (zc_8 H ax0) (zq_c_v (zg_134 H ax0 ax1) fun _ h101 s2 _ H1 => (zq_b (zr_516 H1 ax0) (zq_P (zpi_388 H1 (by decide) ax1) fun h103 s4 H3 => (zq_b (zr_516 H3 ax0) (zq_b (zr_513 H3 ax0) (zq_c (zc_6 H3 (by decide)) (zq_c_v (zg_94 H3 (by decide) ax1 (by decide)) fun _ h106 s6 _ H5 => (zq_P (zpi_523 H5 ax0 zc8_m3) fun h107 s8 H7 => (zq_b (zr_513 H7 ax0) (zq_b (zi_1 H7 (by decide)) (zq_i H7 (zx_s H7 1 1 0)))))))))))))
theorem zg_236 {A : Nat} {h : xrH} {s : zS} {x0 : Nat} {Xx1 : Int32} {x1 : Int} {x2 : Nat} (H : zH A h s) (ax0 : x0 < 1) (ax1 : zx Xx1 x1) (ax2 : x2 < 1) : zq 0 A (xf_236 (za_8 x0) Xx1 (zy_1000 x2) h) (zf_236 x0 x1 x2 s) := by
  unfold xf_236 zf_236
  exact (zq_c (zc_8 H ax0) (zq_ch (zg_112 H ax0 ax1) (fun v3 h101 s2 hv3 H1 => (zq_W (fun hl => zwp_1000 H1 ax2 zc32_0 (zx_r hv3) hl) fun h103 s5 H4 => (zq_i H4 zc32_0))) fun e h104 s7 H6 => match e with | 0 => (zq_ex H6) | 1 => (zq_ex H6) | 2 => (zq_i H6 zc32_1) | e + 3 => (zq_ex H6)))
theorem zg_114 {A : Nat} {h : xrH} {s : zS} {x0 : Nat} {Xx1 : Int32} {x1 : Int} {Xx2 : Int32} {x2 : Int} (H : zH A h s) (ax0 : x0 < 1) (ax1 : zx Xx1 x1) (ax2 : zx Xx2 x2) : zq 0 A (xf_114 (za_8 x0) Xx1 Xx2 h) (zf_114 x0 x1 x2 s) := by
  unfold xf_114 zf_114
  exact (zq_lt ax1 zcn_0 (zq_t H) (zq_b (zi_522 H ax0) (zq_lt ax1 (zx_s H 522 x0 0) (zq_b (zr_518 H ax0) (zq_b (zr_515 H ax0) (zq_q (zw_515 H ax0) ax1 (zq_b (zr_513 H ax0) (zq_c (zc_5 H (by decide)) (zq_c_i (zg_56 H (by decide) (zo_s H 515 x0 x1) (by decide) zc32_0 zc32_0) fun v3 h106 s2 hv3 H1 => (zq_eq ax2 zcn_0 (zq_b (zr_518 H1 ax0) (zq_b (zi_325 H1 (by decide)) (zq_i H1 (zx_s H1 325 1 0)))) (zq_b (zr_518 H1 ax0) (zq_b (zi_326 H1 (by decide)) (zq_i H1 (zx_s H1 326 1 0))))))))))) (zq_t H))))
theorem zg_237 {A : Nat} {h : xrH} {s : zS} {x0 : Nat} {Xx1 : Int32} {x1 : Int} {Xx2 : Int32} {x2 : Int} {x3 : Nat} (H : zH A h s) (ax0 : x0 < 1) (ax1 : zx Xx1 x1) (ax2 : zx Xx2 x2) (ax3 : x3 < 1) : zq 0 A (xf_237 (za_8 x0) Xx1 Xx2 (zy_1000 x3) h) (zf_237 x0 x1 x2 x3 s) := by
  unfold xf_237 zf_237
  exact (zq_c (zc_8 H ax0) (zq_ch (zg_114 H ax0 ax1 ax2) (fun v3 h101 s2 hv3 H1 => (zq_W (fun hl => zwp_1000 H1 ax3 zc32_0 (zx_r hv3) hl) fun h103 s5 H4 => (zq_i H4 zc32_0))) fun e h104 s7 H6 => match e with | 0 => (zq_ex H6) | 1 => (zq_ex H6) | 2 => (zq_i H6 zc32_1) | e + 3 => (zq_ex H6)))
theorem zg_79 {A : Nat} {h : xrH} {s : zS} {x0 : Nat} {Xx1 : Int32} {x1 : Int} (H : zH A h s) (ax0 : x0 < 2) (ax1 : zx Xx1 x1) : zq 0 A (xf_79 (za_5 x0) Xx1 h) (zf_79 x0 x1 s) := by
  unfold xf_79 zf_79
  exact (zq_b (zr_320 H ax0) (zq_b (zr_196 H ax0) (zq_a (zw_196 H ax0) ax1 (zq_c (zc_5 H ax0) (zq_c_i (zg_78 H ax0 ax1) fun v3 h104 s2 hv3 H1 => (zq_ne (zx_s H 196 x0 x1) (zx_r hv3) (zq_z H1 zc32_0) (zq_z H1 zc32_1)))))))
theorem zg_135 {A : Nat} {h : xrH} {s : zS} {x0 : Nat} {Xx1 : Int32} {x1 : Int} (H : zH A h s) (ax0 : x0 < 1) (ax1 : zx Xx1 x1) : zq 1 A (xf_135 (za_8 x0) Xx1 h) (zf_135 x0 x1 s) := by
  unfold xf_135 zf_135
  exact (zq_c (zc_8 H ax0) (zq_c_v (zg_133 H ax0) fun _ h101 s2 _ H1 => (zq_b (zr_517 H1 ax0) (zq_b (zr_320 H1 (by decide)) (zq_c (zc_3 H1 (by decide)) (zq_c_i (zg_27 H1 (by decide) ax1) fun v5 h104 s4 hv5 H3 => (zq_ne (zx_r hv5) zcn_0 (zq_v H3) (zq_t H3))))))))
theorem zg_116 {A : Nat} {h : xrH} {s : zS} {x0 : Nat} {Xx1 : Int32} {x1 : Int} {Xx2 : Int32} {x2 : Int} (H : zH A h s) (ax0 : x0 < 1) (ax1 : zx Xx1 x1) (ax2 : zx Xx2 x2) : zq 0 A (xf_116 (za_8 x0) Xx1 Xx2 h) (zf_116 x0 x1 x2 s) := by
  unfold xf_116 zf_116
  exact (zq_c (zc_8 H ax0) (zq_c_v (zg_135 H ax0 ax1) fun _ h101 s2 _ H1 => (zq_lt ax2 zcn_0 (zq_t H1) (zq_le ax2 zc8_6 (zq_b (zr_517 H1 ax0) (zq_b (zr_320 H1 (by decide)) (zq_sw ax2 zcn_0 (zq_b (zr_192 H1 (by decide)) (zq_a (zw_192 H1 (by decide)) ax1 (zq_i H1 (zx_s H1 192 0 x1)))) (zq_sw ax2 zcn_1 (zq_b (zr_193 H1 (by decide)) (zq_a (zw_193 H1 (by decide)) ax1 (zq_i H1 (zx_s H1 193 0 x1)))) (zq_sw ax2 zcn_2 (zq_b (zr_194 H1 (by decide)) (zq_a (zw_194 H1 (by decide)) ax1 (zq_i H1 (zx_s H1 194 0 x1)))) (zq_sw ax2 zcn_3 (zq_b (zr_195 H1 (by decide)) (zq_a (zw_195 H1 (by decide)) ax1 (zq_i H1 (zx_s H1 195 0 x1)))) (zq_sw ax2 zcn_4 (zq_b (zr_196 H1 (by decide)) (zq_a (zw_196 H1 (by decide)) ax1 (zq_i H1 (zx_s H1 196 0 x1)))) (zq_sw ax2 zcn_5 (zq_b (zr_197 H1 (by decide)) (zq_a (zw_197 H1 (by decide)) ax1 (zq_i H1 (zx_s H1 197 0 x1)))) (zq_b (zr_517 H1 ax0) (zq_c (zc_5 H1 (by decide)) (zq_c_i (zg_79 H1 (by decide) ax1) fun v5 h105 s4 hv5 H3 => (zq_eq (zx_r hv5) zcn_0 (zq_i H3 zc32_0) (zq_i H3 zc32_1))))))))))))) (zq_t H1)))))
theorem zg_238 {A : Nat} {h : xrH} {s : zS} {x0 : Nat} {Xx1 : Int32} {x1 : Int} {Xx2 : Int32} {x2 : Int} {x3 : Nat} (H : zH A h s) (ax0 : x0 < 1) (ax1 : zx Xx1 x1) (ax2 : zx Xx2 x2) (ax3 : x3 < 1) : zq 0 A (xf_238 (za_8 x0) Xx1 Xx2 (zy_1000 x3) h) (zf_238 x0 x1 x2 x3 s) := by
  unfold xf_238 zf_238
  exact (zq_c (zc_8 H ax0) (zq_ch (zg_116 H ax0 ax1 ax2) (fun v3 h101 s2 hv3 H1 => (zq_W (fun hl => zwp_1000 H1 ax3 zc32_0 (zx_r hv3) hl) fun h103 s5 H4 => (zq_i H4 zc32_0))) fun e h104 s7 H6 => match e with | 0 => (zq_i H6 zc32_2) | 1 => (zq_ex H6) | 2 => (zq_i H6 zc32_1) | e + 3 => (zq_ex H6)))
theorem zg_82 {A : Nat} {h : xrH} {s : zS} {x0 : Nat} {Xx1 : Int32} {x1 : Int} (H : zH A h s) (ax0 : x0 < 2) (ax1 : zx Xx1 x1) : zq 0 A (xf_82 (za_5 x0) Xx1 h) (zf_82 x0 x1 s) := by
  unfold xf_82 zf_82
  exact (zq_lt ax1 zcn_0 (zq_i H zc32_m1) (zq_lt ax1 zc8_48 (zq_b (zo_321 H ax0) (zq_O H (zo_s H 321 x0 0) fun q1 hq2 hA3 H4 => (zq_b (zr_456 H4 hq2) (zq_b (zo_321 H4 ax0) (zq_O H4 (zo_s H4 321 x0 0) fun q5 hq6 hA7 H8 => (zq_b (zr_463 H8 hq6) (zq_a (zw_463 H8 hq6) ax1 (zq_a (zw_456 H8 (Nat.lt_of_lt_of_le hq2 hA7)) (zx_s H8 463 q5 x1) (zq_i H8 (zx_s H8 456 q1 (s.1 463 q5 x1))))))))))) (zq_i H zc32_m1)))
theorem zg_136 {A : Nat} {h : xrH} {s : zS} {x0 : Nat} {Xx1 : Int32} {x1 : Int} (H : zH A h s) (ax0 : x0 < 1) (ax1 : zx Xx1 x1) : zq 1 A (xf_136 (za_8 x0) Xx1 h) (zf_136 x0 x1 s) := by
  unfold xf_136 zf_136
  exact (zq_b (zr_517 H ax0) (zq_b (zr_320 H (by decide)) (zq_b (zr_192 H (by decide)) (zq_a (zw_192 H (by decide)) ax1 (zq_eq (zx_s H 192 0 x1) zc32_3 (zq_v H) (zq_t H))))))
theorem zg_119 {A : Nat} {h : xrH} {s : zS} {x0 : Nat} {Xx1 : Int32} {x1 : Int} (H : zH A h s) (ax0 : x0 < 1) (ax1 : zx Xx1 x1) : zq 0 A (xf_119 (za_8 x0) Xx1 h) (zf_119 x0 x1 s) := by
  unfold xf_119 zf_119
  exact (zq_c (zc_8 H ax0) (zq_c_v (zg_135 H ax0 ax1) fun _ h101 s2 _ H1 => (zq_c (zc_8 H1 ax0) (zq_c_v (zg_136 H1 ax0 ax1) fun _ h102 s4 _ H3 => (zq_c (zc_8 H3 ax0) (zq_c_o (zg_132 H3 ax0) fun v7 h103 s6 hv7 H5 => (zq_b (zr_517 H5 ax0) (zq_b (zr_517 H5 ax0) (zq_b (zr_320 H5 (by decide)) (zq_b (zr_198 H5 (by decide)) (zq_a (zw_198 H5 (by decide)) ax1 (zq_c (zc_5 H5 (by decide)) (zq_c_i (zg_82 H5 (by decide) (zx_s H5 198 0 x1)) fun v10 h110 s9 hv10 H8 => (zq_b (zr_517 H8 ax0) (zq_b (zr_320 H8 (by decide)) (zq_b (zr_196 H8 (by decide)) (zq_a (zw_196 H8 (by decide)) ax1 (zq_b (zr_518 H8 ax0) (zq_b (zr_513 H8 ax0) (zq_c (zc_5 H8 (by decide)) (zq_c_i (zg_56 H8 (by decide) (zo_r hv7) (by decide) (zx_r hv10) (zx_s H8 196 0 x1)) fun v13 h118 s12 hv13 H11 => (zq_eq (zx_r hv13) zcn_0 (zq_i H11 zc32_m1) (zq_b (zr_518 H11 ax0) (zq_b (zi_323 H11 (by decide)) (zq_g fun g14 => (zq_i H11 (zsub_x (zx_s H11 323 1 0) (zx_s H8 196 0 x1) g14)))))))))))))))))))))))))))
theorem zg_239 {A : Nat} {h : xrH} {s : zS} {x0 : Nat} {Xx1 : Int32} {x1 : Int} {x2 : Nat} (H : zH A h s) (ax0 : x0 < 1) (ax1 : zx Xx1 x1) (ax2 : x2 < 1) : zq 0 A (xf_239 (za_8 x0) Xx1 (zy_1000 x2) h) (zf_239 x0 x1 x2 s) := by
  unfold xf_239 zf_239
  exact (zq_c (zc_8 H ax0) (zq_ch (zg_119 H ax0 ax1) (fun v3 h101 s2 hv3 H1 => (zq_W (fun hl => zwp_1000 H1 ax2 zc32_0 (zx_r hv3) hl) fun h103 s5 H4 => (zq_i H4 zc32_0))) fun e h104 s7 H6 => match e with | 0 => (zq_ex H6) | 1 => (zq_i H6 zc32_2) | 2 => (zq_i H6 zc32_1) | e + 3 => (zq_ex H6)))
theorem zg_32_4 : ∀ (n : Nat) {A : Nat} {h : xrH} {s : zS} {x0 : Nat} {Xx1 : Int32} {x1 : Int} {Xx2 : Int32} {x2 : Int} (H : zH A h s) (ax0 : x0 < 2) (ax1 : zx Xx1 x1) (ax2 : zx Xx2 x2), zq 0 A (xf_32_4 n (za_3 x0) Xx1 Xx2 h) (zf_32_4 n x0 x1 x2 s) := by
  intro n
  induction n with
  | zero =>
    intros
    exact zq_none
  | succ n ih =>
    intro A h s x0 Xx1 x1 Xx2 x2 H ax0 ax1 ax2
    rw [xf_32_4, zf_32_4]
    exact (zq_b (zi_199 H ax0) (zq_ge ax2 (zx_s H 199 x0 0) (zq_i H zc32_m1) (zq_b (zr_197 H ax0) (zq_a (zw_197 H ax0) ax2 (zq_ne (zx_s H 197 x0 x2) ax1 (zq_g fun g1 => (ih H ax0 ax1 (zadd_x ax2 zc32_1 g1))) (zq_b (zr_192 H ax0) (zq_a (zw_192 H ax0) ax2 (zq_ne (zx_s H 192 x0 x2) zc32_3 (zq_g fun g2 => (ih H ax0 ax1 (zadd_x ax2 zc32_1 g2))) (zq_i H ax2)))))))))
theorem zg_32 {A : Nat} {h : xrH} {s : zS} {x0 : Nat} {Xx1 : Int32} {x1 : Int} (H : zH A h s) (ax0 : x0 < 2) (ax1 : zx Xx1 x1) : zq 0 A (xf_32 (za_3 x0) Xx1 h) (zf_32 x0 x1 s) := by
  unfold xf_32 zf_32
  exact (zq_g fun g1 => (zg_32_4 xfu H ax0 ax1 (zadd_x ax1 zc32_1 g1)))
theorem zg_141_2 : ∀ (n : Nat) {A : Nat} {h : xrH} {s : zS} {x0 : Nat} {Xx1 : Int32} {x1 : Int} (H : zH A h s) (ax0 : x0 < 1) (ax1 : zx Xx1 x1), zq 1 A (xf_141_2 n (za_8 x0) Xx1 h) (zf_141_2 n x0 x1 s) := by
  intro n
  induction n with
  | zero =>
    intros
    exact zq_none
  | succ n ih =>
    intro A h s x0 Xx1 x1 H ax0 ax1
    rw [xf_141_2, zf_141_2]
    exact (zq_b (zr_521 H ax0) (zq_b (zn_eq (zw_521 H ax0)) (zq_ge ax1 (zx_nk (m := 1536) (c := 1536) (by decide) (by decide)) (zq_v H) (zq_b (zr_521 H ax0) (zq_Wz (fun hl hb => zwp_521 H ax0 ax1 zc32_0 hb hl) fun h104 s2 H1 => (zq_g fun g3 => (ih H1 ax0 (zadd_x ax1 zc32_1 g3))))))))
theorem zg_141 {A : Nat} {h : xrH} {s : zS} {x0 : Nat} (H : zH A h s) (ax0 : x0 < 1) : zq 1 A (xf_141 (za_8 x0) h) (zf_141 x0 s) := by
  unfold xf_141 zf_141
  exact (zg_141_2 xfu H ax0 zc32_0)
theorem zg_142 {A : Nat} {h : xrH} {s : zS} {x0 : Nat} {Xx1 : Int32} {x1 : Int} {Xx2 : Int32} {x2 : Int} (H : zH A h s) (ax0 : x0 < 1) (ax1 : zx Xx1 x1) (ax2 : zx Xx2 x2) : zq 0 A (xf_142 (za_8 x0) Xx1 Xx2 h) (zf_142 x0 x1 x2 s) := by
  unfold xf_142 zf_142
  exact (zq_g fun g1 => (zq_g fun g2 => (zq_lt (zadd_x (zmul_x ax1 zc16_256 g1) ax2 g2) zcn_0 (zq_z H zc32_0) (zq_b (zr_521 H ax0) (zq_b (zn_eq (zw_521 H ax0)) (zq_lt (zadd_x (zmul_x ax1 zc16_256 g1) ax2 g2) (zx_nk (m := 1536) (c := 1536) (by decide) (by decide)) (zq_b (zr_521 H ax0) (zq_a (zw_521 H ax0) (zadd_x (zmul_x ax1 zc16_256 g1) ax2 g2) (zq_b (zr_521 H ax0) (zq_Wz (fun hl hb => zwp_521 H ax0 (zadd_x (zmul_x ax1 zc16_256 g1) ax2 g2) zc32_1 hb hl) fun h106 s4 H3 => (zq_z H3 (zx_s H 521 x0 ((x1 * 256) + x2))))))) (zq_z H zc32_0)))))))
theorem zg_120_59 : ∀ (n : Nat) {A : Nat} {h : xrH} {s : zS} {x0 : Nat} {Xx2 : Option Nat} {x2 : Int} {Xx3 : Int32} {x3 : Int} {Xx4 : Int32} {x4 : Int} {Xx5 : Int32} {x5 : Int} {Xx6 : Int32} {x6 : Int} (H : zH A h s) (ax0 : x0 < 1) (ax2 : zo Xx2 x2) (ax3 : zx Xx3 x3) (ax4 : zx Xx4 x4) (ax5 : zx Xx5 x5) (ax6 : zx Xx6 x6), zq 0 A (xf_120_59 n (za_8 x0) Xx2 Xx3 Xx4 Xx5 Xx6 h) (zf_120_59 n x0 x2 x3 x4 x5 x6 s) := by
  intro n
  induction n with
  | zero =>
    intros
    exact zq_none
  | succ n ih =>
    intro A h s x0 Xx2 x2 Xx3 x3 Xx4 x4 Xx5 x5 Xx6 x6 H ax0 ax2 ax3 ax4 ax5 ax6
    rw [xf_120_59, zf_120_59]
    exact (zq_b (zr_521 H ax0) (zq_b (zn_eq (zw_521 H ax0)) (zq_ge ax6 (zx_nk (m := 1536) (c := 1536) (by decide) (by decide)) (zq_i H zc8_m2) (zq_c (zc_8 H ax0) (zq_c_i (zg_142 H ax0 ax3 ax4) fun v3 h103 s2 hv3 H1 => (zq_eq (zx_r hv3) zcn_0 (zq_b (zr_518 H1 ax0) (zq_b (zr_513 H1 ax0) (zq_c (zc_5 H1 (by decide)) (zq_c_i (zg_56 H1 (by decide) ax2 (by decide) ax3 ax4) fun v6 h107 s5 hv6 H4 => (zq_ne (zx_r hv6) zcn_0 (zq_b (zr_518 H4 ax0) (zq_b (zr_320 H4 (by decide)) (zq_c (zc_3 H4 (by decide)) (zq_c_i (zg_32 H4 (by decide) zc32_0) fun v9 h111 s8 hv9 H7 => (zq_ne (zx_r hv9) zc32_m1 (zq_b (zr_518 H7 ax0) (zq_b (zr_518 H7 ax0) (zq_b (zr_320 H7 (by decide)) (zq_b (zr_198 H7 (by decide)) (zq_a (zw_198 H7 (by decide)) (zx_r hv9) (zq_c (zc_5 H7 (by decide)) (zq_c_i (zg_82 H7 (by decide) (zx_s H7 198 1 v9)) fun v12 h118 s11 hv12 H10 => (zq_b (zr_518 H10 ax0) (zq_b (zr_320 H10 (by decide)) (zq_b (zr_196 H10 (by decide)) (zq_a (zw_196 H10 (by decide)) (zx_r hv9) (zq_g fun g13 => (zq_g fun g14 => (ih H10 ax0 ax2 (zx_r hv12) (zx_s H10 196 1 v9) (zadd_x ax5 zc32_1 g13) (zadd_x ax6 zc32_1 g14))))))))))))))) (zq_g fun g15 => (zq_i H7 (zadd_x ax5 zc32_1 g15)))))))) (zq_i H4 ax5)))))) (zq_i H1 zc8_m2)))))))
theorem zg_120 {A : Nat} {h : xrH} {s : zS} {x0 : Nat} {Xx1 : Int32} {x1 : Int} (H : zH A h s) (ax0 : x0 < 1) (ax1 : zx Xx1 x1) : zq 0 A (xf_120 (za_8 x0) Xx1 h) (zf_120 x0 x1 s) := by
  unfold xf_120 zf_120
  exact (zq_c (zc_8 H ax0) (zq_c_v (zg_135 H ax0 ax1) fun _ h101 s2 _ H1 => (zq_c (zc_8 H1 ax0) (zq_c_v (zg_136 H1 ax0 ax1) fun _ h102 s4 _ H3 => (zq_c (zc_8 H3 ax0) (zq_c_o (zg_132 H3 ax0) fun v7 h103 s6 hv7 H5 => (zq_b (zr_517 H5 ax0) (zq_b (zr_517 H5 ax0) (zq_b (zr_320 H5 (by decide)) (zq_b (zr_198 H5 (by decide)) (zq_a (zw_198 H5 (by decide)) ax1 (zq_c (zc_5 H5 (by decide)) (zq_c_i (zg_82 H5 (by decide) (zx_s H5 198 0 x1)) fun v10 h110 s9 hv10 H8 => (zq_b (zr_517 H8 ax0) (zq_b (zr_320 H8 (by decide)) (zq_b (zr_196 H8 (by decide)) (zq_a (zw_196 H8 (by decide)) ax1 (zq_c (zc_8 H8 ax0) (zq_c_v (zg_141 H8 ax0) fun _ h116 s12 _ H11 => (zg_120_59 xfu H11 ax0 (zo_r hv7) (zx_r hv10) (zx_s H8 196 0 x1) zc32_0 zc32_0))))))))))))))))))))
theorem zg_240 {A : Nat} {h : xrH} {s : zS} {x0 : Nat} {Xx1 : Int32} {x1 : Int} {x2 : Nat} (H : zH A h s) (ax0 : x0 < 1) (ax1 : zx Xx1 x1) (ax2 : x2 < 1) : zq 0 A (xf_240 (za_8 x0) Xx1 (zy_1000 x2) h) (zf_240 x0 x1 x2 s) := by
  unfold xf_240 zf_240
  exact (zq_c (zc_8 H ax0) (zq_ch (zg_120 H ax0 ax1) (fun v3 h101 s2 hv3 H1 => (zq_W (fun hl => zwp_1000 H1 ax2 zc32_0 (zx_r hv3) hl) fun h103 s5 H4 => (zq_i H4 zc32_0))) fun e h104 s7 H6 => match e with | 0 => (zq_ex H6) | 1 => (zq_i H6 zc32_2) | 2 => (zq_i H6 zc32_1) | e + 3 => (zq_ex H6)))
theorem zg_121_46 : ∀ (n : Nat) {A : Nat} {h : xrH} {s : zS} {x0 : Nat} {Xx1 : Int32} {x1 : Int} {Xx2 : Int32} {x2 : Int} {Xx4 : Int32} {x4 : Int} (H : zH A h s) (ax0 : x0 < 1) (ax1 : zx Xx1 x1) (ax2 : zx Xx2 x2) (ax4 : zx Xx4 x4), zq 0 A (xf_121_46 n (za_8 x0) Xx1 Xx2 Xx4 h) (zf_121_46 n x0 x1 x2 x4 s) := by
  intro n
  induction n with
  | zero =>
    intros
    exact zq_none
  | succ n ih =>
    intro A h s x0 Xx1 x1 Xx2 x2 Xx4 x4 H ax0 ax1 ax2 ax4
    rw [xf_121_46, zf_121_46]
    exact (zq_b (zr_513 H ax0) (zq_b (zi_1 H (by decide)) (zq_ge ax4 (zx_s H 1 1 0) (zq_i H zc32_m1) (zq_b (zr_513 H ax0) (zq_c (zc_0 H (by decide)) (zq_c_i (zg_2 H (by decide) ax4) fun v3 h104 s2 hv3 H1 => (zq_ne (zand_x (zx_r hv3) ax2) (zand_x ax1 ax2) (zq_g fun g4 => (ih H1 ax0 ax1 ax2 (zadd_x ax4 zc32_1 g4))) (zq_i H1 ax4))))))))
theorem zg_121 {A : Nat} {h : xrH} {s : zS} {x0 : Nat} {Xx1 : Int32} {x1 : Int} {Xx2 : Int32} {x2 : Int} {Xx3 : Int32} {x3 : Int} (H : zH A h s) (ax0 : x0 < 1) (ax1 : zx Xx1 x1) (ax2 : zx Xx2 x2) (ax3 : zx Xx3 x3) : zq 0 A (xf_121 (za_8 x0) Xx1 Xx2 Xx3 h) (zf_121 x0 x1 x2 x3 s) := by
  unfold xf_121 zf_121
  exact (zq_lt ax1 zcn_0 (zq_t H) (zq_gt ax1 zc16_255 (zq_t H) (zq_lt ax2 zcn_0 (zq_t H) (zq_gt ax2 zc16_255 (zq_t H) (zq_lt ax3 zcn_0 (zq_t H) (zq_le ax3 zc16_200 (zg_121_46 xfu H ax0 ax1 ax2 ax3) (zq_t H)))))))
theorem zg_241 {A : Nat} {h : xrH} {s : zS} {x0 : Nat} {Xx1 : Int32} {x1 : Int} {Xx2 : Int32} {x2 : Int} {Xx3 : Int32} {x3 : Int} {x4 : Nat} (H : zH A h s) (ax0 : x0 < 1) (ax1 : zx Xx1 x1) (ax2 : zx Xx2 x2) (ax3 : zx Xx3 x3) (ax4 : x4 < 1) : zq 0 A (xf_241 (za_8 x0) Xx1 Xx2 Xx3 (zy_1000 x4) h) (zf_241 x0 x1 x2 x3 x4 s) := by
  unfold xf_241 zf_241
  exact (zq_c (zc_8 H ax0) (zq_ch (zg_121 H ax0 ax1 ax2 ax3) (fun v3 h101 s2 hv3 H1 => (zq_W (fun hl => zwp_1000 H1 ax4 zc32_0 (zx_r hv3) hl) fun h103 s5 H4 => (zq_i H4 zc32_0))) fun e h104 s7 H6 => match e with | 0 => (zq_i H6 zc32_1) | 1 => (zq_ex H6) | 2 => (zq_ex H6) | e + 3 => (zq_ex H6)))
theorem zg_30 {A : Nat} {h : xrH} {s : zS} {x0 : Nat} {Xx1 : Int32} {x1 : Int} (H : zH A h s) (ax0 : x0 < 2) (ax1 : zx Xx1 x1) : zq 0 A (xf_30 (za_3 x0) Xx1 h) (zf_30 x0 x1 s) := by
  unfold xf_30 zf_30
  exact (zq_c (zc_3 H ax0) (zq_c_i (zg_27 H ax0 ax1) fun v3 h101 s2 hv3 H1 => (zq_eq (zx_r hv3) zcn_0 (zq_z H1 zc32_0) (zq_b (zr_192 H1 ax0) (zq_a (zw_192 H1 ax0) ax1 (zq_eq (zx_s H1 192 x0 x1) zc32_2 (zq_z H1 zc32_1) (zq_b (zr_192 H1 ax0) (zq_a (zw_192 H1 ax0) ax1 (zq_eq (zx_s H1 192 x0 x1) zc32_3 (zq_z H1 zc32_1) (zq_b (zr_192 H1 ax0) (zq_a (zw_192 H1 ax0) ax1 (zq_ne (zx_s H1 192 x0 x1) zc32_4 (zq_z H1 zc32_0) (zq_z H1 zc32_1)))))))))))))
theorem zg_122_57 : ∀ (n : Nat) {A : Nat} {h : xrH} {s : zS} {Xx1 : Int32} {x1 : Int} {Xx2 : Int32} {x2 : Int} {x4 : Nat} {Xx5 : Int32} {x5 : Int} (H : zH A h s) (ax1 : zx Xx1 x1) (ax2 : zx Xx2 x2) (ax4 : x4 < 2) (ax5 : zx Xx5 x5), zq 0 A (xf_122_57 n Xx1 Xx2 (za_3 x4) Xx5 h) (zf_122_57 n x1 x2 x4 x5 s) := by
  intro n
  induction n with
  | zero =>
    intros
    exact zq_none
  | succ n ih =>
    intro A h s Xx1 x1 Xx2 x2 x4 Xx5 x5 H ax1 ax2 ax4 ax5
    rw [xf_122_57, zf_122_57]
    exact (zq_b (zi_199 H ax4) (zq_ge ax5 (zx_s H 199 x4 0) (zq_i H zc32_m1) (zq_c (zc_3 H ax4) (zq_c_i (zg_30 H ax4 ax5) fun v3 h102 s2 hv3 H1 => (zq_eq (zx_r hv3) zcn_0 (zq_g fun g4 => (ih H1 ax1 ax2 ax4 (zadd_x ax5 zc32_1 g4))) (zq_b (zr_193 H1 ax4) (zq_a (zw_193 H1 ax4) ax5 (zq_ne (zx_s H1 193 x4 x5) ax1 (zq_g fun g5 => (ih H1 ax1 ax2 ax4 (zadd_x ax5 zc32_1 g5))) (zq_b (zr_196 H1 ax4) (zq_a (zw_196 H1 ax4) ax5 (zq_ne (zx_s H1 196 x4 x5) ax2 (zq_g fun g6 => (ih H1 ax1 ax2 ax4 (zadd_x ax5 zc32_1 g6))) (zq_i H1 ax5))))))))))))
theorem zg_122 {A : Nat} {h : xrH} {s : zS} {x0 : Nat} {Xx1 : Int32} {x1 : Int} {Xx2 : Int32} {x2 : Int} {Xx3 : Int32} {x3 : Int} (H : zH A h s) (ax0 : x0 < 1) (ax1 : zx Xx1 x1) (ax2 : zx Xx2 x2) (ax3 : zx Xx3 x3) : zq 0 A (xf_122 (za_8 x0) Xx1 Xx2 Xx3 h) (zf_122 x0 x1 x2 x3 s) := by
  unfold xf_122 zf_122
  exact (zq_lt ax1 zcn_0 (zq_t H) (zq_ge ax1 zc8_26 (zq_t H) (zq_lt ax2 zcn_0 (zq_t H) (zq_gt ax2 zc32_65535 (zq_t H) (zq_lt ax3 zcn_0 (zq_t H) (zq_le ax3 zc16_200 (zq_c (zc_8 H ax0) (zq_c_v (zg_133 H ax0) fun _ h101 s2 _ H1 => (zq_b (zr_517 H1 ax0) (zq_b (zr_320 H1 (by decide)) (zg_122_57 xfu H1 ax1 ax2 (by decide) ax3))))) (zq_t H)))))))
theorem zg_242 {A : Nat} {h : xrH} {s : zS} {x0 : Nat} {Xx1 : Int32} {x1 : Int} {Xx2 : Int32} {x2 : Int} {Xx3 : Int32} {x3 : Int} {x4 : Nat} (H : zH A h s) (ax0 : x0 < 1) (ax1 : zx Xx1 x1) (ax2 : zx Xx2 x2) (ax3 : zx Xx3 x3) (ax4 : x4 < 1) : zq 0 A (xf_242 (za_8 x0) Xx1 Xx2 Xx3 (zy_1000 x4) h) (zf_242 x0 x1 x2 x3 x4 s) := by
  unfold xf_242 zf_242
  exact (zq_c (zc_8 H ax0) (zq_ch (zg_122 H ax0 ax1 ax2 ax3) (fun v3 h101 s2 hv3 H1 => (zq_W (fun hl => zwp_1000 H1 ax4 zc32_0 (zx_r hv3) hl) fun h103 s5 H4 => (zq_i H4 zc32_0))) fun e h104 s7 H6 => match e with | 0 => (zq_i H6 zc32_1) | 1 => (zq_ex H6) | 2 => (zq_ex H6) | e + 3 => (zq_ex H6)))
theorem zg_10 {A : Nat} {h : xrH} {s : zS} {x0 : Nat} {x1 : Nat} (H : zH A h s) (ax0 : x0 < 1) (ax1 : x1 < 3) : zq 1 A (xf_10 (za_1 x0) (za_0 x1) h) (zf_10 x0 x1 s) := by
  unfold xf_10 zf_10
  exact (zq_b (zr_64 H ax0) (zq_c (zc_0 H (by decide)) (zq_c_v (zg_5 H (by decide) ax1) fun _ h102 s2 _ H1 => (zq_v H1))))
theorem zg_3 {A : Nat} {h : xrH} {s : zS} {x0 : Nat} {Xx1 : Int32} {x1 : Int} {Xx2 : Int32} {x2 : Int} (H : zH A h s) (ax0 : x0 < 3) (ax1 : zx Xx1 x1) (ax2 : zx Xx2 x2) : zq 1 A (xf_3 (za_0 x0) Xx1 Xx2 h) (zf_3 x0 x1 x2 s) := by
  unfold xf_3 zf_3
  exact (zq_lt ax1 zcn_0 (zq_v H) (zq_b (zi_1 H ax0) (zq_ge ax1 (zx_s H 1 x0 0) (zq_v H) (zq_b (zr_0 H ax0) (zq_W (fun hl => zwp_0 H ax0 ax1 ax2 hl) fun h103 s2 H1 => (zq_v H1))))))
theorem zg_81_24 {A : Nat} {h : xrH} {s : zS} {x0 : Nat} {Xs0 : Int32} {s0 : Int} (H : zH A h s) (ax0 : x0 < 2) (as0 : zx Xs0 s0) : zq 0 A (xf_81_24 (za_5 x0) Xs0 h) (zf_81_24 x0 s0 s) := by
  unfold xf_81_24 zf_81_24
  exact (zq_ne as0 zc32_m1 (zq_b (zo_321 H ax0) (zq_O H (zo_s H 321 x0 0) fun q1 hq2 hA3 H4 => (zq_b (zr_458 H4 hq2) (zq_a (zw_458 H4 hq2) as0 (zq_i H4 (zx_s H4 458 q1 s0)))))) (zq_i H zc8_65))
theorem zg_81 {A : Nat} {h : xrH} {s : zS} {x0 : Nat} {Xx1 : Int32} {x1 : Int} (H : zH A h s) (ax0 : x0 < 2) (ax1 : zx Xx1 x1) : zq 0 A (xf_81 (za_5 x0) Xx1 h) (zf_81 x0 x1 s) := by
  unfold xf_81 zf_81
  exact (zq_b (zr_320 H ax0) (zq_c (zc_3 H ax0) (zq_c_i (zg_27 H ax0 ax1) fun v3 h102 s2 hv3 H1 => (zq_eq (zx_r hv3) zcn_0 (zg_81_24 H1 ax0 zc32_m1) (zq_b (zr_320 H1 ax0) (zq_b (zr_198 H1 ax0) (zq_a (zw_198 H1 ax0) ax1 (zg_81_24 H1 ax0 (zx_s H1 198 x0 x1)))))))))
theorem zg_83_24 {A : Nat} {h : xrH} {s : zS} {x0 : Nat} {Xs0 : Int32} {s0 : Int} (H : zH A h s) (ax0 : x0 < 2) (as0 : zx Xs0 s0) : zq 0 A (xf_83_24 (za_5 x0) Xs0 h) (zf_83_24 x0 s0 s) := by
  unfold xf_83_24 zf_83_24
  exact (zq_ne as0 zc32_m1 (zq_b (zo_321 H ax0) (zq_O H (zo_s H 321 x0 0) fun q1 hq2 hA3 H4 => (zq_b (zr_459 H4 hq2) (zq_a (zw_459 H4 hq2) as0 (zq_g fun g5 => (zq_i H4 (zsub_x (zshl_x zc32_1 (zx_s H4 459 q1 s0)) zc32_1 g5))))))) (zq_i H zc32_m1))
theorem zg_83 {A : Nat} {h : xrH} {s : zS} {x0 : Nat} {Xx1 : Int32} {x1 : Int} (H : zH A h s) (ax0 : x0 < 2) (ax1 : zx Xx1 x1) : zq 0 A (xf_83 (za_5 x0) Xx1 h) (zf_83 x0 x1 s) := by
  unfold xf_83 zf_83
  exact (zq_b (zr_320 H ax0) (zq_c (zc_3 H ax0) (zq_c_i (zg_27 H ax0 ax1) fun v3 h102 s2 hv3 H1 => (zq_eq (zx_r hv3) zcn_0 (zg_83_24 H1 ax0 zc32_m1) (zq_b (zr_320 H1 ax0) (zq_b (zr_198 H1 ax0) (zq_a (zw_198 H1 ax0) ax1 (zg_83_24 H1 ax0 (zx_s H1 198 x0 x1)))))))))
theorem zg_84 {A : Nat} {h : xrH} {s : zS} {x0 : Nat} {Xx1 : Int32} {x1 : Int} (H : zH A h s) (ax0 : x0 < 2) (ax1 : zx Xx1 x1) : zq 0 A (xf_84 (za_5 x0) Xx1 h) (zf_84 x0 x1 s) := by
  unfold xf_84 zf_84
  exact (zq_c (zc_5 H ax0) (zq_c_i (zg_81 H ax0 ax1) fun v3 h101 s2 hv3 H1 => (zq_ne (zx_r hv3) zc8_110 (zq_i H1 zc32_0) (zq_b (zo_321 H1 ax0) (zq_O H1 (zo_s H1 321 x0 0) fun q4 hq5 hA6 H7 => (zq_b (zr_460 H7 hq5) (zq_b (zr_320 H7 ax0) (zq_b (zr_198 H7 ax0) (zq_a (zw_198 H7 ax0) ax1 (zq_a (zw_460 H7 hq5) (zx_s H7 198 x0 x1) (zq_i H7 (zx_s H7 460 q4 (s2.1 198 x0 x1)))))))))))))
theorem zg_11 {A : Nat} {h : xrH} {s : zS} {x0 : Nat} {x1 : Nat} {Xx2 : Int32} {x2 : Int} {Xx3 : Int32} {x3 : Int} (H : zH A h s) (ax0 : x0 < 1) (ax1 : x1 < 2) (ax2 : zx Xx2 x2) (ax3 : zx Xx3 x3) : zq 1 A (xf_11 (za_1 x0) (za_5 x1) Xx2 Xx3 h) (zf_11 x0 x1 x2 x3 s) := by
  unfold xf_11 zf_11
  exact (zq_b (zr_320 H ax1) (zq_b (zr_194 H ax1) (zq_a (zw_194 H ax1) ax2 (zq_c (zc_5 H ax1) (zq_c_i (zg_81 H ax1 ax2) fun v3 h104 s2 hv3 H1 => (zq_sw (zx_r hv3) zcn_87 (zq_b (zr_64 H1 ax0) (zq_c (zc_0 H1 (by decide)) (zq_c_v (zg_3 H1 (by decide) (zx_s H 194 x1 x2) (zshr_x ax3 zc8_8)) fun _ h109 s23 _ H22 => (zq_b (zr_64 H22 ax0) (zq_c (zc_0 H22 (by decide)) (zq_g fun g24 => (zq_c_v (zg_3 H22 (by decide) (zadd_x (zx_s H 194 x1 x2) zc32_1 g24) (zand_x ax3 zc16_255)) fun _ h111 s26 _ H25 => (zq_v H25)))))))) (zq_sw (zx_r hv3) zcn_110 (zq_c (zc_5 H1 ax1) (zq_c_i (zg_84 H1 ax1 ax2) fun v13 h112 s12 hv13 H11 => (zq_b (zr_64 H11 ax0) (zq_c (zc_0 H11 (by decide)) (zq_c_i (zg_2 H11 (by decide) (zx_s H 194 x1 x2)) fun v16 h115 s15 hv16 H14 => (zq_c (zc_5 H14 ax1) (zq_c_i (zg_83 H14 ax1 ax2) fun v19 h117 s18 hv19 H17 => (zq_b (zr_64 H17 ax0) (zq_c (zc_0 H17 (by decide)) (zq_c_v (zg_3 H17 (by decide) (zx_s H 194 x1 x2) (zor_x (zand_x (zx_r hv16) (zxor_x (zshl_x (zx_r hv19) (zx_r hv13)) zc32_m1)) (zshl_x ax3 (zx_r hv13)))) fun _ h120 s21 _ H20 => (zq_v H20))))))))))) (zq_sw (zx_r hv3) zcn_119 (zq_b (zr_64 H1 ax0) (zq_c (zc_0 H1 (by decide)) (zq_c_v (zg_3 H1 (by decide) (zx_s H 194 x1 x2) (zand_x ax3 zc16_255)) fun _ h122 s7 _ H6 => (zq_b (zr_64 H6 ax0) (zq_c (zc_0 H6 (by decide)) (zq_g fun g8 => (zq_c_v (zg_3 H6 (by decide) (zadd_x (zx_s H 194 x1 x2) zc32_1 g8) (zshr_x ax3 zc8_8)) fun _ h124 s10 _ H9 => (zq_v H9)))))))) (zq_b (zr_64 H1 ax0) (zq_c (zc_0 H1 (by decide)) (zq_c_v (zg_3 H1 (by decide) (zx_s H 194 x1 x2) ax3) fun _ h107 s5 _ H4 => (zq_v H4))))))))))))
theorem zg_139 {A : Nat} {h : xrH} {s : zS} {x0 : Nat} {Xx1 : Int32} {x1 : Int} (H : zH A h s) (ax0 : x0 < 1) (ax1 : zx Xx1 x1) : zq 0 A (xf_139 (za_8 x0) Xx1 h) (zf_139 x0 x1 s) := by
  unfold xf_139 zf_139
  exact (zq_b (zr_517 H ax0) (zq_b (zr_320 H (by decide)) (zq_c (zc_3 H (by decide)) (zq_c_i (zg_30 H (by decide) ax1) fun v3 h103 s2 hv3 H1 => (zq_eq (zx_r hv3) zcn_0 (zq_z H1 zc32_0) (zq_b (zr_517 H1 ax0) (zq_c (zc_5 H1 (by decide)) (zq_c_i (zg_76 H1 (by decide) ax1) fun v6 h106 s5 hv6 H4 => (zq_ne (zx_r hv6) zcn_0 (zq_z H4 zc32_0) (zq_z H4 zc32_1))))))))))
theorem zg_16_43 (k4 : Nat → Nat → Int32 → Int32 → xrH → xrR) (zk4 : Nat → Nat → Int → Int → zS → zR) (hk4 : ∀ {A : Nat} {h : xrH} {s : zS} {y0 : Nat} {y1 : Nat} {Xy2 : Int32} {y2 : Int} {Xy3 : Int32} {y3 : Int} (H : zH A h s) (ay0 : y0 < 1) (ay1 : y1 < 2) (ay2 : zx Xy2 y2) (ay3 : zx Xy3 y3), zq 0 A (k4 (za_1 y0) (za_5 y1) Xy2 Xy3 h) (zk4 y0 y1 y2 y3 s)) {A : Nat} {h : xrH} {s : zS} {x0 : Nat} {x1 : Nat} {Xx2 : Int32} {x2 : Int} {Xx3 : Int32} {x3 : Int} {Xx5 : Int32} {x5 : Int} (H : zH A h s) (ax0 : x0 < 1) (ax1 : x1 < 2) (ax2 : zx Xx2 x2) (ax3 : zx Xx3 x3) (ax5 : zx Xx5 x5) : zq 0 A (xf_16_43 k4 (za_1 x0) (za_5 x1) Xx2 Xx3 Xx5 h) (zf_16_43 zk4 x0 x1 x2 x3 x5 s) := by
  unfold xf_16_43 zf_16_43
  exact (zq_b (zr_320 H ax1) (zq_b (zr_196 H ax1) (zq_a (zw_196 H ax1) ax3 (zq_eq (zx_s H 196 x1 x3) ax5 (zq_g fun g1 => (hk4 H ax0 ax1 ax2 (zadd_x ax3 zc32_1 g1))) (zq_c (zc_1 H ax0) (zq_c_v (zg_11 H ax0 ax1 ax3 ax5) fun _ h104 s3 _ H2 => (zq_g fun g4 => (zq_g fun g5 => (hk4 H2 ax0 ax1 (zadd_x ax2 zc32_1 g4) (zadd_x ax3 zc32_1 g5))))))))))
theorem zg_16_4 : ∀ (n : Nat) {A : Nat} {h : xrH} {s : zS} {x0 : Nat} {x1 : Nat} {Xx2 : Int32} {x2 : Int} {Xx3 : Int32} {x3 : Int} (H : zH A h s) (ax0 : x0 < 1) (ax1 : x1 < 2) (ax2 : zx Xx2 x2) (ax3 : zx Xx3 x3), zq 0 A (xf_16_4 n (za_1 x0) (za_5 x1) Xx2 Xx3 h) (zf_16_4 n x0 x1 x2 x3 s) := by
  intro n
  induction n with
  | zero =>
    intros
    exact zq_none
  | succ n ih =>
    intro A h s x0 x1 Xx2 x2 Xx3 x3 H ax0 ax1 ax2 ax3
    rw [xf_16_4, zf_16_4]
    exact (zq_b (zr_320 H ax1) (zq_b (zi_199 H ax1) (zq_ge ax3 (zx_s H 199 x1 0) (zq_i H ax2) (zq_c (zc_5 H ax1) (zq_c_i (zg_76 H ax1 ax3) fun v3 h103 s2 hv3 H1 => (zq_c (zc_5 H1 ax1) (zq_c_i (zg_78 H1 ax1 ax3) fun v6 h105 s5 hv6 H4 => (zq_eq (zx_r hv3) zc8_35 (zg_16_43 (fun y0 y1 y2 y3 y => (xf_16_4 n y0 y1 y2 y3 y)) (fun y0 y1 y2 y3 y => (zf_16_4 n y0 y1 y2 y3 y)) (fun H ay0 ay1 ay2 ay3 => (ih H ay0 ay1 ay2 ay3)) H4 ax0 ax1 ax2 ax3 (zx_r hv6)) (zq_ne (zx_r hv3) zc8_37 (zq_g fun g7 => (ih H4 ax0 ax1 ax2 (zadd_x ax3 zc32_1 g7))) (zg_16_43 (fun y0 y1 y2 y3 y => (xf_16_4 n y0 y1 y2 y3 y)) (fun y0 y1 y2 y3 y => (zf_16_4 n y0 y1 y2 y3 y)) (fun H ay0 ay1 ay2 ay3 => (ih H ay0 ay1 ay2 ay3)) H4 ax0 ax1 ax2 ax3 (zx_r hv6)))))))))))
theorem zg_16 {A : Nat} {h : xrH} {s : zS} {x0 : Nat} {x1 : Nat} (H : zH A h s) (ax0 : x0 < 1) (ax1 : x1 < 2) : zq 0 A (xf_16 (za_1 x0) (za_5 x1) h) (zf_16 x0 x1 s) := by
  unfold xf_16 zf_16
  exact (zg_16_4 xfu H ax0 ax1 zc32_0 zc32_0)
theorem zg_15_2 : ∀ (n : Nat) {A : Nat} {h : xrH} {s : zS} {x0 : Nat} {x1 : Nat} {Xx2 : Option Nat} {x2 : Int} {Xx3 : Int32} {x3 : Int} (H : zH A h s) (ax0 : x0 < 1) (ax1 : x1 < 2) (ax2 : zo Xx2 x2) (ax3 : zx Xx3 x3), zq 0 A (xf_15_2 n (za_1 x0) (za_5 x1) Xx2 Xx3 h) (zf_15_2 n x0 x1 x2 x3 s) := by
  intro n
  induction n with
  | zero =>
    intros
    exact zq_none
  | succ n ih =>
    intro A h s x0 x1 Xx2 x2 Xx3 x3 H ax0 ax1 ax2 ax3
    rw [xf_15_2, zf_15_2]
    exact (zq_gt ax3 zc32_4 (zq_z H zc32_0) (zq_b (zr_64 H ax0) (zq_c (zc_5 H ax1) (zq_c_i (zg_56 H ax1 ax2 (by decide) zc32_0 zc32_0) fun v3 h102 s2 hv3 H1 => (zq_ne (zx_r hv3) zcn_0 (zq_c (zc_1 H1 ax0) (zq_c_i (zg_16 H1 ax0 ax1) fun v6 h104 s5 hv6 H4 => (zq_ne (zx_r hv6) zcn_0 (zq_g fun g7 => (ih H4 ax0 ax1 ax2 (zadd_x ax3 zc32_1 g7))) (zq_z H4 zc32_1)))) (zq_z H1 zc32_0))))))
theorem zg_15 {A : Nat} {h : xrH} {s : zS} {x0 : Nat} {x1 : Nat} {Xx2 : Option Nat} {x2 : Int} (H : zH A h s) (ax0 : x0 < 1) (ax1 : x1 < 2) (ax2 : zo Xx2 x2) : zq 0 A (xf_15 (za_1 x0) (za_5 x1) Xx2 h) (zf_15 x0 x1 x2 s) := by
  unfold xf_15 zf_15
  exact (zg_15_2 xfu H ax0 ax1 ax2 zc32_0)
theorem zg_19_2 : ∀ (n : Nat) {A : Nat} {h : xrH} {s : zS} {x0 : Nat} {x1 : Nat} {Xx2 : Int32} {x2 : Int} {Xx3 : Int32} {x3 : Int} (H : zH A h s) (ax0 : x0 < 1) (ax1 : x1 < 2) (ax2 : zx Xx2 x2) (ax3 : zx Xx3 x3), zq 0 A (xf_19_2 n (za_1 x0) (za_3 x1) Xx2 Xx3 h) (zf_19_2 n x0 x1 x2 x3 s) := by
  intro n
  induction n with
  | zero =>
    intros
    exact zq_none
  | succ n ih =>
    intro A h s x0 x1 Xx2 x2 Xx3 x3 H ax0 ax1 ax2 ax3
    rw [xf_19_2, zf_19_2]
    exact (zq_c (zc_3 H ax1) (zq_c_i (zg_27 H ax1 ax3) fun v3 h101 s2 hv3 H1 => (zq_eq (zx_r hv3) zcn_0 (zq_z H1 zc32_0) (zq_b (zr_194 H1 ax1) (zq_a (zw_194 H1 ax1) ax3 (zq_b (zr_194 H1 ax1) (zq_a (zw_194 H1 ax1) ax2 (zq_b (zr_195 H1 ax1) (zq_a (zw_195 H1 ax1) ax2 (zq_g fun g4 => (zq_ge (zx_s H1 194 x1 x3) (zadd_x (zx_s H1 194 x1 x2) (zx_s H1 195 x1 x2) g4) (zq_z H1 zc32_0) (zq_b (zr_65 H1 ax0) (zq_a (zw_65 H1 ax0) ax3 (zq_eq (zx_s H1 65 x0 x3) zcn_0 (zq_g fun g5 => (ih H1 ax0 ax1 ax2 (zadd_x ax3 zc32_1 g5))) (zq_z H1 zc32_1)))))))))))))))
theorem zg_19 {A : Nat} {h : xrH} {s : zS} {x0 : Nat} {x1 : Nat} {Xx2 : Int32} {x2 : Int} (H : zH A h s) (ax0 : x0 < 1) (ax1 : x1 < 2) (ax2 : zx Xx2 x2) : zq 0 A (xf_19 (za_1 x0) (za_3 x1) Xx2 h) (zf_19 x0 x1 x2 s) := by
  unfold xf_19 zf_19
  exact (zg_19_2 xfu H ax0 ax1 ax2 ax2)
theorem zg_18_2 : ∀ (n : Nat) {A : Nat} {h : xrH} {s : zS} {x0 : Nat} {x1 : Nat} {Xx2 : Int32} {x2 : Int} (H : zH A h s) (ax0 : x0 < 1) (ax1 : x1 < 2) (ax2 : zx Xx2 x2), zq 0 A (xf_18_2 n (za_1 x0) (za_5 x1) Xx2 h) (zf_18_2 n x0 x1 x2 s) := by
  intro n
  induction n with
  | zero =>
    intros
    exact zq_none
  | succ n ih =>
    intro A h s x0 x1 Xx2 x2 H ax0 ax1 ax2
    rw [xf_18_2, zf_18_2]
    exact (zq_b (zr_320 H ax1) (zq_b (zi_199 H ax1) (zq_ge ax2 (zx_s H 199 x1 0) (zq_i H zc32_m1) (zq_b (zr_65 H ax0) (zq_a (zw_65 H ax0) ax2 (zq_eq (zx_s H 65 x0 x2) zcn_0 (zq_g fun g1 => (ih H ax0 ax1 (zadd_x ax2 zc32_1 g1))) (zq_b (zr_320 H ax1) (zq_c (zc_5 H ax1) (zq_c_i (zg_77 H ax1 ax2) fun v4 h106 s3 hv4 H2 => (zq_c (zc_1 H2 ax0) (zq_c_i (zg_19 H2 ax0 ax1 (zx_r hv4)) fun v7 h108 s6 hv7 H5 => (zq_ne (zx_r hv7) zcn_0 (zq_g fun g8 => (ih H5 ax0 ax1 (zadd_x ax2 zc32_1 g8))) (zq_i H5 ax2)))))))))))))
theorem zg_18 {A : Nat} {h : xrH} {s : zS} {x0 : Nat} {x1 : Nat} (H : zH A h s) (ax0 : x0 < 1) (ax1 : x1 < 2) : zq 0 A (xf_18 (za_1 x0) (za_5 x1) h) (zf_18 x0 x1 s) := by
  unfold xf_18 zf_18
  exact (zg_18_2 xfu H ax0 ax1 zc32_0)
theorem zg_17_52 (k10 : Nat → Nat → Nat → Int32 → Int32 → xrH → xrR) (zk10 : Nat → Nat → Nat → Int → Int → zS → zR) (hk10 : ∀ {A : Nat} {h : xrH} {s : zS} {y0 : Nat} {y1 : Nat} {y2 : Nat} {Xy3 : Int32} {y3 : Int} {Xy4 : Int32} {y4 : Int} (H : zH A h s) (ay0 : y0 < 1) (ay1 : y1 < 2) (ay2 : y2 < 2) (ay3 : zx Xy3 y3) (ay4 : zx Xy4 y4), zq 0 A (k10 (za_1 y0) (za_5 y1) (za_3 y2) Xy3 Xy4 h) (zk10 y0 y1 y2 y3 y4 s)) {A : Nat} {h : xrH} {s : zS} {x0 : Nat} {x1 : Nat} {x2 : Nat} {Xx3 : Int32} {x3 : Int} {Xx4 : Int32} {x4 : Int} {s0 : Nat} {Xs1 : Int32} {s1 : Int} {Xs2 : Int32} {s2 : Int} (H : zH A h s) (ax0 : x0 < 1) (ax1 : x1 < 2) (ax2 : x2 < 2) (ax3 : zx Xx3 x3) (ax4 : zx Xx4 x4) (as0 : s0 < 1) (as1 : zx Xs1 s1) (as2 : zx Xs2 s2) : zq 0 A (xf_17_52 k10 (za_1 x0) (za_5 x1) (za_3 x2) Xx3 Xx4 (zy_65 s0) Xs1 Xs2 h) (zf_17_52 zk10 x0 x1 x2 x3 x4 s0 s1 s2 s) := by
  unfold xf_17_52 zf_17_52
  exact (zq_Wz (fun hl hb => zwp_65 H as0 as1 as2 hb hl) fun h101 s2 H1 => (zq_b (zr_65 H1 ax0) (zq_a (zw_65 H1 ax0) ax4 (zq_eq (zx_s H1 65 x0 x4) zcn_0 (zq_g fun g3 => (zq_g fun g4 => (hk10 H1 ax0 ax1 ax2 (zadd_x ax3 zc32_0 g3) (zadd_x ax4 zc32_1 g4)))) (zq_g fun g5 => (zq_g fun g6 => (hk10 H1 ax0 ax1 ax2 (zadd_x ax3 zc32_1 g5) (zadd_x ax4 zc32_1 g6))))))))
theorem zg_17_80 : ∀ (n : Nat) {A : Nat} {h : xrH} {s : zS} {x0 : Nat} {x1 : Nat} {Xx4 : Int32} {x4 : Int} (H : zH A h s) (ax0 : x0 < 1) (ax1 : x1 < 2) (ax4 : zx Xx4 x4), zq 0 A (xf_17_80 n (za_1 x0) (za_5 x1) Xx4 h) (zf_17_80 n x0 x1 x4 s) := by
  intro n
  induction n with
  | zero =>
    intros
    exact zq_none
  | succ n ih =>
    intro A h s x0 x1 Xx4 x4 H ax0 ax1 ax4
    rw [xf_17_80, zf_17_80]
    exact (zq_le ax4 zcn_0 (zq_z H zc32_1) (zq_c (zc_1 H ax0) (zq_c_i (zg_18 H ax0 ax1) fun v3 h101 s2 hv3 H1 => (zq_ne (zx_r hv3) zc32_m1 (zq_c (zc_5 H1 ax1) (zq_c_i (zg_78 H1 ax1 (zx_r hv3)) fun v6 h103 s5 hv6 H4 => (zq_c (zc_1 H4 ax0) (zq_c_v (zg_11 H4 ax0 ax1 (zx_r hv3) (zx_r hv6)) fun _ h105 s8 _ H7 => (zq_b (zr_65 H7 ax0) (zq_Wz (fun hl hb => zwp_65 H7 ax0 (zx_r hv3) zc32_0 hb hl) fun h107 s10 H9 => (zq_g fun g11 => (ih H9 ax0 ax1 (zadd_x ax4 zc32_m1 g11))))))))) (zq_z H1 zc32_0)))))
theorem zg_17_10 : ∀ (n : Nat) {A : Nat} {h : xrH} {s : zS} {x0 : Nat} {x1 : Nat} {x2 : Nat} {Xx3 : Int32} {x3 : Int} {Xx4 : Int32} {x4 : Int} (H : zH A h s) (ax0 : x0 < 1) (ax1 : x1 < 2) (ax2 : x2 < 2) (ax3 : zx Xx3 x3) (ax4 : zx Xx4 x4), zq 0 A (xf_17_10 n (za_1 x0) (za_5 x1) (za_3 x2) Xx3 Xx4 h) (zf_17_10 n x0 x1 x2 x3 x4 s) := by
  intro n
  induction n with
  | zero =>
    intros
    exact zq_none
  | succ n ih =>
    intro A h s x0 x1 x2 Xx3 x3 Xx4 x4 H ax0 ax1 ax2 ax3 ax4
    rw [xf_17_10, zf_17_10]
    exact (zq_b (zi_199 H ax2) (zq_ge ax4 (zx_s H 199 x2 0) (zg_17_80 xfu H ax0 ax1 ax3) (zq_c (zc_5 H ax1) (zq_c_i (zg_76 H ax1 ax4) fun v3 h102 s2 hv3 H1 => (zq_b (zr_65 H1 ax0) (zq_eq (zx_r hv3) zc8_43 (zg_17_52 (fun y0 y1 y2 y3 y4 y => (xf_17_10 n y0 y1 y2 y3 y4 y)) (fun y0 y1 y2 y3 y4 y => (zf_17_10 n y0 y1 y2 y3 y4 y)) (fun H ay0 ay1 ay2 ay3 ay4 => (ih H ay0 ay1 ay2 ay3 ay4)) H1 ax0 ax1 ax2 ax3 ax4 ax0 ax4 zc32_1) (zq_ne (zx_r hv3) zc8_94 (zg_17_52 (fun y0 y1 y2 y3 y4 y => (xf_17_10 n y0 y1 y2 y3 y4 y)) (fun y0 y1 y2 y3 y4 y => (zf_17_10 n y0 y1 y2 y3 y4 y)) (fun H ay0 ay1 ay2 ay3 ay4 => (ih H ay0 ay1 ay2 ay3 ay4)) H1 ax0 ax1 ax2 ax3 ax4 ax0 ax4 zc32_0) (zg_17_52 (fun y0 y1 y2 y3 y4 y => (xf_17_10 n y0 y1 y2 y3 y4 y)) (fun y0 y1 y2 y3 y4 y => (zf_17_10 n y0 y1 y2 y3 y4 y)) (fun H ay0 ay1 ay2 ay3 ay4 => (ih H ay0 ay1 ay2 ay3 ay4)) H1 ax0 ax1 ax2 ax3 ax4 ax0 ax4 zc32_1))))))))
theorem zg_17 {A : Nat} {h : xrH} {s : zS} {x0 : Nat} {x1 : Nat} (H : zH A h s) (ax0 : x0 < 1) (ax1 : x1 < 2) : zq 0 A (xf_17 (za_1 x0) (za_5 x1) h) (zf_17 x0 x1 s) := by
  unfold xf_17 zf_17
  exact (zq_b (zr_320 H ax1) (zg_17_10 xfu H ax0 ax1 ax1 zc32_0 zc32_0))
theorem zg_20 {A : Nat} {h : xrH} {s : zS} {x0 : Nat} {x1 : Nat} {Xx2 : Option Nat} {x2 : Int} (H : zH A h s) (ax0 : x0 < 1) (ax1 : x1 < 2) (ax2 : zo Xx2 x2) : zq 0 A (xf_20 (za_1 x0) (za_5 x1) Xx2 h) (zf_20 x0 x1 x2 s) := by
  unfold xf_20 zf_20
  exact (zq_b (zr_64 H ax0) (zq_c (zc_5 H ax1) (zq_c_i (zg_56 H ax1 ax2 (by decide) zc32_0 zc32_0) fun v3 h102 s2 hv3 H1 => (zq_eq (zx_r hv3) zcn_0 (zq_z H1 zc32_0) (zq_c (zc_5 H1 ax1) (zq_c_i (zg_80 H1 ax1) fun v6 h104 s5 hv6 H4 => (zq_ne (zx_r hv6) zcn_0 (zq_z H4 zc32_0) (zq_z H4 zc32_1))))))))
theorem zg_140 {A : Nat} {h : xrH} {s : zS} {x0 : Nat} (H : zH A h s) (ax0 : x0 < 1) : zq 0 A (xf_140 (za_8 x0) h) (zf_140 x0 s) := by
  unfold xf_140 zf_140
  exact (zq_c (zc_8 H ax0) (zq_c_o (zg_132 H ax0) fun v3 h101 s2 hv3 H1 => (zq_If H1 (zo_r hv3) (zq_t H1) fun q4 hq5 hA6 H7 => (zq_b (zr_516 H7 ax0) (zq_c (zc_6 H7 (by decide)) (zq_c_i (zg_88 H7 (by decide)) fun v10 h105 s9 hv10 H8 => (zq_ne (zx_r hv10) zcn_0 (zq_t H8) (zq_b (zr_519 H8 ax0) (zq_b (zr_518 H8 ax0) (zq_c (zc_1 H8 (by decide)) (zq_c_i (zg_15 H8 (by decide) (by decide) (zo_q (Nat.lt_of_lt_of_le hq5 H8.le4))) fun v13 h109 s12 hv13 H11 => (zq_eq (zx_r hv13) zcn_0 (zq_t H11) (zq_b (zr_519 H11 ax0) (zq_b (zr_518 H11 ax0) (zq_c (zc_1 H11 (by decide)) (zq_c_i (zg_17 H11 (by decide) (by decide)) fun v16 h113 s15 hv16 H14 => (zq_eq (zx_r hv16) zcn_0 (zq_t H14) (zq_b (zr_519 H14 ax0) (zq_b (zr_518 H14 ax0) (zq_c (zc_1 H14 (by decide)) (zq_c_i (zg_20 H14 (by decide) (by decide) (zo_q (Nat.lt_of_lt_of_le hq5 H14.le4))) fun v19 h117 s18 hv19 H17 => (zq_ne (zx_r hv19) zcn_0 (zq_b (zr_513 H17 ax0) (zq_b (zr_519 H17 ax0) (zq_b (zr_64 H17 (by decide)) (zq_c (zc_0 H17 (by decide)) (zq_c_v (zg_5 H17 (by decide) (by decide)) fun _ h122 s21 _ H20 => (zq_c (zc_8 H20 ax0) (zq_c_i (zg_131 H20 ax0) fun v24 h123 s23 hv24 H22 => (zq_i H22 (zx_r hv24))))))))) (zq_t H17)))))))))))))))))))))))
theorem zg_123 {A : Nat} {h : xrH} {s : zS} {x0 : Nat} {Xx1 : Int32} {x1 : Int} {Xx2 : Int32} {x2 : Int} (H : zH A h s) (ax0 : x0 < 1) (ax1 : zx Xx1 x1) (ax2 : zx Xx2 x2) : zq 0 A (xf_123 (za_8 x0) Xx1 Xx2 h) (zf_123 x0 x1 x2 s) := by
  unfold xf_123 zf_123
  exact (zq_c (zc_8 H ax0) (zq_c_v (zg_135 H ax0 ax1) fun _ h101 s2 _ H1 => (zq_c (zc_8 H1 ax0) (zq_c_i (zg_139 H1 ax0 ax1) fun v5 h102 s4 hv5 H3 => (zq_eq (zx_r hv5) zcn_0 (zq_t H3) (zq_lt ax2 zcn_0 (zq_t H3) (zq_b (zr_517 H3 ax0) (zq_c (zc_5 H3 (by decide)) (zq_c_i (zg_83 H3 (by decide) ax1) fun v8 h105 s7 hv8 H6 => (zq_le ax2 (zx_r hv8) (zq_b (zr_519 H6 ax0) (zq_b (zr_513 H6 ax0) (zq_c (zc_1 H6 (by decide)) (zq_c_v (zg_10 H6 (by decide) (by decide)) fun _ h109 s10 _ H9 => (zq_b (zr_519 H9 ax0) (zq_b (zr_517 H9 ax0) (zq_c (zc_1 H9 (by decide)) (zq_c_v (zg_11 H9 (by decide) (by decide) ax1 ax2) fun _ h112 s12 _ H11 => (zq_c (zc_8 H11 ax0) (zq_c_i (zg_140 H11 ax0) fun v15 h113 s14 hv15 H13 => (zq_i H13 (zx_r hv15)))))))))))) (zq_t H6)))))))))))
theorem zg_243 {A : Nat} {h : xrH} {s : zS} {x0 : Nat} {Xx1 : Int32} {x1 : Int} {Xx2 : Int32} {x2 : Int} {x3 : Nat} (H : zH A h s) (ax0 : x0 < 1) (ax1 : zx Xx1 x1) (ax2 : zx Xx2 x2) (ax3 : x3 < 1) : zq 0 A (xf_243 (za_8 x0) Xx1 Xx2 (zy_1000 x3) h) (zf_243 x0 x1 x2 x3 s) := by
  unfold xf_243 zf_243
  exact (zq_c (zc_8 H ax0) (zq_ch (zg_123 H ax0 ax1 ax2) (fun v3 h101 s2 hv3 H1 => (zq_W (fun hl => zwp_1000 H1 ax3 zc32_0 (zx_r hv3) hl) fun h103 s5 H4 => (zq_i H4 zc32_0))) fun e h104 s7 H6 => match e with | 0 => (zq_ex H6) | 1 => (zq_i H6 zc32_2) | 2 => (zq_i H6 zc32_1) | e + 3 => (zq_ex H6)))
theorem zg_6_39 : ∀ (n : Nat) {A : Nat} {h : xrH} {s : zS} {x0 : Nat} {Xx1 : Int32} {x1 : Int} {Xx2 : Int32} {x2 : Int} {Xx3 : Int32} {x3 : Int} (H : zH A h s) (ax0 : x0 < 3) (ax1 : zx Xx1 x1) (ax2 : zx Xx2 x2) (ax3 : zx Xx3 x3), zq 0 A (xf_6_39 n (za_0 x0) Xx1 Xx2 Xx3 h) (zf_6_39 n x0 x1 x2 x3 s) := by
  intro n
  induction n with
  | zero =>
    intros
    exact zq_none
  | succ n ih =>
    intro A h s x0 Xx1 x1 Xx2 x2 Xx3 x3 H ax0 ax1 ax2 ax3
    rw [xf_6_39, zf_6_39]
    exact (zq_lt ax3 ax1 (zq_b (zi_1 H ax0) (zq_g fun g3 => (zq_P (zpi_1 H ax0 (zadd_x (zx_s H 1 x0 0) ax2 g3)) fun h102 s2 H1 => (zq_z H1 zc32_1)))) (zq_b (zr_0 H ax0) (zq_b (zr_0 H ax0) (zq_a (zw_0 H ax0) ax3 (zq_g fun g4 => (zq_W (fun hl => zwp_0 H ax0 (zadd_x ax3 ax2 g4) (zx_s H 0 x0 x3) hl) fun h106 s6 H5 => (zq_g fun g7 => (ih H5 ax0 ax1 ax2 (zadd_x ax3 zc32_m1 g7)))))))))
theorem zg_6 {A : Nat} {h : xrH} {s : zS} {x0 : Nat} {Xx1 : Int32} {x1 : Int} {Xx2 : Int32} {x2 : Int} (H : zH A h s) (ax0 : x0 < 3) (ax1 : zx Xx1 x1) (ax2 : zx Xx2 x2) : zq 0 A (xf_6 (za_0 x0) Xx1 Xx2 h) (zf_6 x0 x1 x2 s) := by
  unfold xf_6 zf_6
  exact (zq_lt ax1 zcn_0 (zq_z H zc32_0) (zq_b (zi_1 H ax0) (zq_gt ax1 (zx_s H 1 x0 0) (zq_z H zc32_0) (zq_lt ax2 zcn_0 (zq_z H zc32_0) (zq_b (zr_0 H ax0) (zq_b (zn_eq (zw_0 H ax0)) (zq_b (zi_1 H ax0) (zq_g fun g1 => (zq_le ax2 (zsub_x (zx_nB) (zx_s H 1 x0 0) g1) (zq_b (zi_1 H ax0) (zq_g fun g2 => (zg_6_39 xfu H ax0 ax1 ax2 (zsub_x (zx_s H 1 x0 0) zc32_1 g2)))) (zq_z H zc32_0))))))))))
theorem zg_34_5 : ∀ (n : Nat) {A : Nat} {h : xrH} {s : zS} {x0 : Nat} {Xx1 : Int32} {x1 : Int} {Xx3 : Int32} {x3 : Int} {Xx4 : Int32} {x4 : Int} (H : zH A h s) (ax0 : x0 < 2) (ax1 : zx Xx1 x1) (ax3 : zx Xx3 x3) (ax4 : zx Xx4 x4), zq 0 A (xf_34_5 n (za_3 x0) Xx1 Xx3 Xx4 h) (zf_34_5 n x0 x1 x3 x4 s) := by
  intro n
  induction n with
  | zero =>
    intros
    exact zq_none
  | succ n ih =>
    intro A h s x0 Xx1 x1 Xx3 x3 Xx4 x4 H ax0 ax1 ax3 ax4
    rw [xf_34_5, zf_34_5]
    exact (zq_ge ax4 zc16_200 (zq_z H zc32_0) (zq_c (zc_3 H ax0) (zq_c_i (zg_27 H ax0 ax3) fun v3 h101 s2 hv3 H1 => (zq_eq (zx_r hv3) zcn_0 (zq_z H1 zc32_0) (zq_ne ax3 ax1 (zq_b (zr_197 H1 ax0) (zq_a (zw_197 H1 ax0) ax3 (zq_g fun g4 => (ih H1 ax0 ax1 (zx_s H1 197 x0 x3) (zadd_x ax4 zc32_1 g4))))) (zq_z H1 zc32_1))))))
theorem zg_34 {A : Nat} {h : xrH} {s : zS} {x0 : Nat} {Xx1 : Int32} {x1 : Int} {Xx2 : Int32} {x2 : Int} (H : zH A h s) (ax0 : x0 < 2) (ax1 : zx Xx1 x1) (ax2 : zx Xx2 x2) : zq 0 A (xf_34 (za_3 x0) Xx1 Xx2 h) (zf_34 x0 x1 x2 s) := by
  unfold xf_34 zf_34
  exact (zg_34_5 xfu H ax0 ax1 ax2 zc32_0)
theorem zg_14_70 (k9 : Nat → Nat → Int32 → Int32 → Int32 → Nat → Int32 → xrH → xrR) (zk9 : Nat → Nat → Int → Int → Int → Nat → Int → zS → zR) (hk9 : ∀ {A : Nat} {h : xrH} {s : zS} {y0 : Nat} {y1 : Nat} {Xy2 : Int32} {y2 : Int} {Xy3 : Int32} {y3 : Int} {Xy4 : Int32} {y4 : Int} {y5 : Nat} {Xy6 : Int32} {y6 : Int} (H : zH A h s) (ay0 : y0 < 1) (ay1 : y1 < 2) (ay2 : zx Xy2 y2) (ay3 : zx Xy3 y3) (ay4 : zx Xy4 y4) (ay5 : y5 < 2) (ay6 : zx Xy6 y6), zq 1 A (k9 (za_1 y0) (za_5 y1) Xy2 Xy3 Xy4 (za_3 y5) Xy6 h) (zk9 y0 y1 y2 y3 y4 y5 y6 s)) {A : Nat} {h : xrH} {s : zS} {x0 : Nat} {x1 : Nat} {Xx2 : Int32} {x2 : Int} {Xx3 : Int32} {x3 : Int} {Xx4 : Int32} {x4 : Int} {x5 : Nat} {Xx6 : Int32} {x6 : Int} {Xx7 : Int32} {x7 : Int} {Xx8 : Int32} {x8 : Int} (H : zH A h s) (ax0 : x0 < 1) (ax1 : x1 < 2) (ax2 : zx Xx2 x2) (ax3 : zx Xx3 x3) (ax4 : zx Xx4 x4) (ax5 : x5 < 2) (ax6 : zx Xx6 x6) (ax7 : zx Xx7 x7) (ax8 : zx Xx8 x8) : zq 1 A (xf_14_70 k9 (za_1 x0) (za_5 x1) Xx2 Xx3 Xx4 (za_3 x5) Xx6 Xx7 Xx8 h) (zf_14_70 zk9 x0 x1 x2 x3 x4 x5 x6 x7 x8 s) := by
  unfold xf_14_70 zf_14_70
  exact (zq_ne ax7 zc8_37 (zq_g fun g1 => (hk9 H ax0 ax1 ax2 ax3 ax4 ax5 (zadd_x ax6 zc32_1 g1))) (zq_ne ax8 ax2 (zq_g fun g2 => (hk9 H ax0 ax1 ax2 ax3 ax4 ax5 (zadd_x ax6 zc32_1 g2))) (zq_b (zr_196 H ax5) (zq_a (zw_196 H ax5) ax8 (zq_c (zc_1 H ax0) (zq_g fun g3 => (zq_c_v (zg_11 H ax0 ax1 ax6 (zadd_x (zx_s H 196 x5 x8) ax4 g3)) fun _ h103 s5 _ H4 => (zq_g fun g6 => (hk9 H4 ax0 ax1 ax2 ax3 ax4 ax5 (zadd_x ax6 zc32_1 g6))))))))))
theorem zg_14_9 : ∀ (n : Nat) {A : Nat} {h : xrH} {s : zS} {x0 : Nat} {x1 : Nat} {Xx2 : Int32} {x2 : Int} {Xx3 : Int32} {x3 : Int} {Xx4 : Int32} {x4 : Int} {x5 : Nat} {Xx6 : Int32} {x6 : Int} (H : zH A h s) (ax0 : x0 < 1) (ax1 : x1 < 2) (ax2 : zx Xx2 x2) (ax3 : zx Xx3 x3) (ax4 : zx Xx4 x4) (ax5 : x5 < 2) (ax6 : zx Xx6 x6), zq 1 A (xf_14_9 n (za_1 x0) (za_5 x1) Xx2 Xx3 Xx4 (za_3 x5) Xx6 h) (zf_14_9 n x0 x1 x2 x3 x4 x5 x6 s) := by
  intro n
  induction n with
  | zero =>
    intros
    exact zq_none
  | succ n ih =>
    intro A h s x0 x1 Xx2 x2 Xx3 x3 Xx4 x4 x5 Xx6 x6 H ax0 ax1 ax2 ax3 ax4 ax5 ax6
    rw [xf_14_9, zf_14_9]
    exact (zq_b (zi_199 H ax5) (zq_ge ax6 (zx_s H 199 x5 0) (zq_v H) (zq_c (zc_5 H ax1) (zq_c_i (zg_76 H ax1 ax6) fun v3 h102 s2 hv3 H1 => (zq_c (zc_5 H1 ax1) (zq_c_i (zg_77 H1 ax1 ax6) fun v6 h104 s5 hv6 H4 => (zq_ne (zx_r hv3) zc8_35 (zg_14_70 (fun y0 y1 y2 y3 y4 y5 y6 y => (xf_14_9 n y0 y1 y2 y3 y4 y5 y6 y)) (fun y0 y1 y2 y3 y4 y5 y6 y => (zf_14_9 n y0 y1 y2 y3 y4 y5 y6 y)) (fun H ay0 ay1 ay2 ay3 ay4 ay5 ay6 => (ih H ay0 ay1 ay2 ay3 ay4 ay5 ay6)) H4 ax0 ax1 ax2 ax3 ax4 ax5 ax6 (zx_r hv3) (zx_r hv6)) (zq_c (zc_3 H4 ax5) (zq_c_i (zg_34 H4 ax5 (zx_r hv6) ax2) fun v9 h106 s8 hv9 H7 => (zq_eq (zx_r hv9) zcn_0 (zg_14_70 (fun y0 y1 y2 y3 y4 y5 y6 y => (xf_14_9 n y0 y1 y2 y3 y4 y5 y6 y)) (fun y0 y1 y2 y3 y4 y5 y6 y => (zf_14_9 n y0 y1 y2 y3 y4 y5 y6 y)) (fun H ay0 ay1 ay2 ay3 ay4 ay5 ay6 => (ih H ay0 ay1 ay2 ay3 ay4 ay5 ay6)) H7 ax0 ax1 ax2 ax3 ax4 ax5 ax6 (zx_r hv3) (zx_r hv6)) (zq_b (zr_195 H7 ax5) (zq_a (zw_195 H7 ax5) (zx_r hv6) (zq_c (zc_1 H7 ax0) (zq_g fun g10 => (zq_c_v (zg_11 H7 ax0 ax1 ax6 (zadd_x (zx_s H7 195 x5 v6) ax3 g10)) fun _ h110 s12 _ H11 => (zg_14_70 (fun y0 y1 y2 y3 y4 y5 y6 y => (xf_14_9 n y0 y1 y2 y3 y4 y5 y6 y)) (fun y0 y1 y2 y3 y4 y5 y6 y => (zf_14_9 n y0 y1 y2 y3 y4 y5 y6 y)) (fun H ay0 ay1 ay2 ay3 ay4 ay5 ay6 => (ih H ay0 ay1 ay2 ay3 ay4 ay5 ay6)) H11 ax0 ax1 ax2 ax3 ax4 ax5 ax6 (zx_r hv3) (zx_r hv6)))))))))))))))))
theorem zg_14 {A : Nat} {h : xrH} {s : zS} {x0 : Nat} {x1 : Nat} {Xx2 : Int32} {x2 : Int} {Xx3 : Int32} {x3 : Int} {Xx4 : Int32} {x4 : Int} (H : zH A h s) (ax0 : x0 < 1) (ax1 : x1 < 2) (ax2 : zx Xx2 x2) (ax3 : zx Xx3 x3) (ax4 : zx Xx4 x4) : zq 1 A (xf_14 (za_1 x0) (za_5 x1) Xx2 Xx3 Xx4 h) (zf_14 x0 x1 x2 x3 x4 s) := by
  unfold xf_14 zf_14
  exact (zq_b (zr_320 H ax1) (zg_14_9 xfu H ax0 ax1 ax2 ax3 ax4 ax1 zc32_0))
theorem zg_12_27 : ∀ (n : Nat) {A : Nat} {h : xrH} {s : zS} {x0 : Nat} {x1 : Nat} {Xx2 : Int32} {x2 : Int} {Xx3 : Int32} {x3 : Int} {Xx4 : Int32} {x4 : Int} {x5 : Nat} {Xx6 : Int32} {x6 : Int} (H : zH A h s) (ax0 : x0 < 1) (ax1 : x1 < 2) (ax2 : zx Xx2 x2) (ax3 : zx Xx3 x3) (ax4 : zx Xx4 x4) (ax5 : x5 < 2) (ax6 : zx Xx6 x6), zq 0 A (xf_12_27 n (za_1 x0) (za_5 x1) Xx2 Xx3 Xx4 (za_3 x5) Xx6 h) (zf_12_27 n x0 x1 x2 x3 x4 x5 x6 s) := by
  intro n
  induction n with
  | zero =>
    intros
    exact zq_none
  | succ n ih =>
    intro A h s x0 x1 Xx2 x2 Xx3 x3 Xx4 x4 x5 Xx6 x6 H ax0 ax1 ax2 ax3 ax4 ax5 ax6
    rw [xf_12_27, zf_12_27]
    exact (zq_b (zi_199 H ax5) (zq_ge ax6 (zx_s H 199 x5 0) (zq_c (zc_1 H ax0) (zq_c_v (zg_14 H ax0 ax1 ax2 ax4 zc32_1) fun _ h102 s2 _ H1 => (zq_b (zr_64 H1 ax0) (zq_c (zc_0 H1 (by decide)) (zq_c_i (zg_6 H1 (by decide) ax3 ax4) fun v5 h104 s4 hv5 H3 => (zq_z H3 (zx_r hv5))))))) (zq_b (zr_192 H ax5) (zq_a (zw_192 H ax5) ax6 (zq_ne (zx_s H 192 x5 x6) zc32_3 (zq_g fun g6 => (ih H ax0 ax1 ax2 ax3 ax4 ax5 (zadd_x ax6 zc32_1 g6))) (zq_b (zr_196 H ax5) (zq_a (zw_196 H ax5) ax6 (zq_lt (zx_s H 196 x5 x6) ax3 (zq_g fun g7 => (ih H ax0 ax1 ax2 ax3 ax4 ax5 (zadd_x ax6 zc32_1 g7))) (zq_b (zr_196 H ax5) (zq_a (zw_196 H ax5) ax6 (zq_g fun g8 => (zq_le (zadd_x (zx_s H 196 x5 x6) ax4 g8) zc16_255 (zq_b (zr_196 H ax5) (zq_a (zw_196 H ax5) ax6 (zq_c (zc_1 H ax0) (zq_c_v (zg_11 H ax0 ax1 ax6 (zadd_x (zx_s H 196 x5 x6) ax4 g8)) fun _ h114 s10 _ H9 => (zq_g fun g11 => (ih H9 ax0 ax1 ax2 ax3 ax4 ax5 (zadd_x ax6 zc32_1 g11))))))) (zq_z H zc32_0)))))))))))))
theorem zg_12 {A : Nat} {h : xrH} {s : zS} {x0 : Nat} {x1 : Nat} {Xx2 : Int32} {x2 : Int} {Xx3 : Int32} {x3 : Int} {Xx4 : Int32} {x4 : Int} (H : zH A h s) (ax0 : x0 < 1) (ax1 : x1 < 2) (ax2 : zx Xx2 x2) (ax3 : zx Xx3 x3) (ax4 : zx Xx4 x4) : zq 0 A (xf_12 (za_1 x0) (za_5 x1) Xx2 Xx3 Xx4 h) (zf_12 x0 x1 x2 x3 x4 s) := by
  unfold xf_12 zf_12
  exact (zq_b (zr_320 H ax1) (zq_b (zr_64 H ax0) (zq_b (zi_1 H (by decide)) (zq_g fun g1 => (zq_le (zadd_x (zx_s H 1 2 0) ax4 g1) zc16_160 (zg_12_27 xfu H ax0 ax1 ax2 ax3 ax4 ax1 zc32_0) (zq_z H zc32_0))))))
theorem zg_85 {A : Nat} {h : xrH} {s : zS} {x0 : Nat} {Xx1 : Int32} {x1 : Int} (H : zH A h s) (ax0 : x0 < 2) (ax1 : zx Xx1 x1) : zq 0 A (xf_85 (za_5 x0) Xx1 h) (zf_85 x0 x1 s) := by
  unfold xf_85 zf_85
  exact (zq_c (zc_5 H ax0) (zq_c_i (zg_81 H ax0 ax1) fun v3 h101 s2 hv3 H1 => (zq_ne (zx_r hv3) zc8_122 (zq_z H1 zc32_0) (zq_z H1 zc32_1))))
theorem zg_86 {A : Nat} {h : xrH} {s : zS} {x0 : Nat} {Xx1 : Int32} {x1 : Int} (H : zH A h s) (ax0 : x0 < 2) (ax1 : zx Xx1 x1) : zq 0 A (xf_86 (za_5 x0) Xx1 h) (zf_86 x0 x1 s) := by
  unfold xf_86 zf_86
  exact (zq_b (zr_320 H ax0) (zq_c (zc_3 H ax0) (zq_c_i (zg_27 H ax0 ax1) fun v3 h102 s2 hv3 H1 => (zq_eq (zx_r hv3) zcn_0 (zq_i H1 zc32_m1) (zq_b (zr_320 H1 ax0) (zq_b (zr_192 H1 ax0) (zq_a (zw_192 H1 ax0) ax1 (zq_eq (zx_s H1 192 x0 x1) zc32_5 (zq_c (zc_5 H1 ax0) (zq_c_i (zg_85 H1 ax0 ax1) fun v6 h107 s5 hv6 H4 => (zq_eq (zx_r hv6) zcn_0 (zq_b (zr_320 H4 ax0) (zq_b (zr_195 H4 ax0) (zq_a (zw_195 H4 ax0) ax1 (zq_i H4 (zx_s H4 195 x0 x1))))) (zq_b (zr_320 H4 ax0) (zq_b (zr_195 H4 ax0) (zq_a (zw_195 H4 ax0) ax1 (zq_g fun g7 => (zq_i H4 (zsub_x (zx_s H4 195 x0 x1) zc32_1 g7))))))))) (zq_i H1 zc32_m1)))))))))
theorem zg_137 {A : Nat} {h : xrH} {s : zS} {x0 : Nat} {Xx1 : Int32} {x1 : Int} {Xx2 : Int32} {x2 : Int} (H : zH A h s) (ax0 : x0 < 1) (ax1 : zx Xx1 x1) (ax2 : zx Xx2 x2) : zq 1 A (xf_137 (za_8 x0) Xx1 Xx2 h) (zf_137 x0 x1 x2 s) := by
  unfold xf_137 zf_137
  exact (zq_lt ax1 zcn_0 (zq_t H) (zq_le ax1 ax2 (zq_v H) (zq_t H)))
theorem zg_138 {A : Nat} {h : xrH} {s : zS} {x0 : Nat} {Xx1 : Int32} {x1 : Int} (H : zH A h s) (ax0 : x0 < 1) (ax1 : zx Xx1 x1) : zq 1 A (xf_138 (za_8 x0) Xx1 h) (zf_138 x0 x1 s) := by
  unfold xf_138 zf_138
  exact (zq_ne ax1 zcn_0 (zq_v H) (zq_t H))
theorem zg_124_65 {A : Nat} {h : xrH} {s : zS} {x0 : Nat} {Xx1 : Int32} {x1 : Int} {Xx2 : Int32} {x2 : Int} {Xx3 : Int32} {x3 : Int} (H : zH A h s) (ax0 : x0 < 1) (ax1 : zx Xx1 x1) (ax2 : zx Xx2 x2) (ax3 : zx Xx3 x3) : zq 0 A (xf_124_65 (za_8 x0) Xx1 Xx2 Xx3 h) (zf_124_65 x0 x1 x2 x3 s) := by
  unfold xf_124_65 zf_124_65
  exact (zq_b (zr_517 H ax0) (zq_b (zr_320 H (by decide)) (zq_b (zr_194 H (by decide)) (zq_a (zw_194 H (by decide)) ax1 (zq_b (zr_519 H ax0) (zq_b (zr_513 H ax0) (zq_c (zc_1 H (by decide)) (zq_c_v (zg_10 H (by decide) (by decide)) fun _ h107 s2 _ H1 => (zq_b (zr_519 H1 ax0) (zq_b (zr_517 H1 ax0) (zq_c (zc_1 H1 (by decide)) (zq_g fun g3 => (zq_c_i (zg_12 H1 (by decide) (by decide) ax1 (zadd_x (zx_s H 194 0 x1) ax2 g3) zc32_1) fun v6 h110 s5 hv6 H4 => (zq_b (zr_519 H4 ax0) (zq_b (zr_64 H4 (by decide)) (zq_c (zc_0 H4 (by decide)) (zq_c_v (zg_3 H4 (by decide) (zadd_x (zx_s H 194 0 x1) ax2 g3) ax3) fun _ h114 s8 _ H7 => (zq_c (zc_8 H7 ax0) (zq_c_v (zg_138 H7 ax0 (zx_r hv6)) fun _ h115 s10 _ H9 => (zq_c (zc_8 H9 ax0) (zq_c_i (zg_140 H9 ax0) fun v13 h116 s12 hv13 H11 => (zq_i H11 (zx_r hv13)))))))))))))))))))))))
theorem zg_124 {A : Nat} {h : xrH} {s : zS} {x0 : Nat} {Xx1 : Int32} {x1 : Int} {Xx2 : Int32} {x2 : Int} {Xx3 : Int32} {x3 : Int} (H : zH A h s) (ax0 : x0 < 1) (ax1 : zx Xx1 x1) (ax2 : zx Xx2 x2) (ax3 : zx Xx3 x3) : zq 0 A (xf_124 (za_8 x0) Xx1 Xx2 Xx3 h) (zf_124 x0 x1 x2 x3 s) := by
  unfold xf_124 zf_124
  exact (zq_c (zc_8 H ax0) (zq_c_v (zg_135 H ax0 ax1) fun _ h101 s2 _ H1 => (zq_lt ax3 zcn_0 (zq_t H1) (zq_le ax3 zc16_255 (zq_b (zr_517 H1 ax0) (zq_c (zc_5 H1 (by decide)) (zq_c_i (zg_86 H1 (by decide) ax1) fun v5 h103 s4 hv5 H3 => (zq_c (zc_8 H3 ax0) (zq_c_v (zg_137 H3 ax0 ax2 (zx_r hv5)) fun _ h105 s7 _ H6 => (zq_ne ax3 zcn_0 (zg_124_65 H6 ax0 ax1 ax2 ax3) (zq_b (zr_517 H6 ax0) (zq_c (zc_5 H6 (by decide)) (zq_c_i (zg_85 H6 (by decide) ax1) fun v10 h107 s9 hv10 H8 => (zq_eq (zx_r hv10) zcn_0 (zg_124_65 H8 ax0 ax1 ax2 ax3) (zq_t H8))))))))))) (zq_t H1)))))
theorem zg_244 {A : Nat} {h : xrH} {s : zS} {x0 : Nat} {Xx1 : Int32} {x1 : Int} {Xx2 : Int32} {x2 : Int} {Xx3 : Int32} {x3 : Int} {x4 : Nat} (H : zH A h s) (ax0 : x0 < 1) (ax1 : zx Xx1 x1) (ax2 : zx Xx2 x2) (ax3 : zx Xx3 x3) (ax4 : x4 < 1) : zq 0 A (xf_244 (za_8 x0) Xx1 Xx2 Xx3 (zy_1000 x4) h) (zf_244 x0 x1 x2 x3 x4 s) := by
  unfold xf_244 zf_244
  exact (zq_c (zc_8 H ax0) (zq_ch (zg_124 H ax0 ax1 ax2 ax3) (fun v3 h101 s2 hv3 H1 => (zq_W (fun hl => zwp_1000 H1 ax4 zc32_0 (zx_r hv3) hl) fun h103 s5 H4 => (zq_i H4 zc32_0))) fun e h104 s7 H6 => match e with | 0 => (zq_i H6 zc32_2) | 1 => (zq_i H6 zc32_3) | 2 => (zq_i H6 zc32_1) | e + 3 => (zq_ex H6)))
theorem zg_7_23 : ∀ (n : Nat) {A : Nat} {h : xrH} {s : zS} {x0 : Nat} {Xx2 : Int32} {x2 : Int} {Xx3 : Int32} {x3 : Int} (H : zH A h s) (ax0 : x0 < 3) (ax2 : zx Xx2 x2) (ax3 : zx Xx3 x3), zq 1 A (xf_7_23 n (za_0 x0) Xx2 Xx3 h) (zf_7_23 n x0 x2 x3 s) := by
  intro n
  induction n with
  | zero =>
    intros
    exact zq_none
  | succ n ih =>
    intro A h s x0 Xx2 x2 Xx3 x3 H ax0 ax2 ax3
    rw [xf_7_23, zf_7_23]
    exact (zq_b (zi_1 H ax0) (zq_ge ax3 (zx_s H 1 x0 0) (zq_b (zi_1 H ax0) (zq_g fun g3 => (zq_P (zpi_1 H ax0 (zsub_x (zx_s H 1 x0 0) ax2 g3)) fun h103 s2 H1 => (zq_v H1)))) (zq_b (zr_0 H ax0) (zq_b (zr_0 H ax0) (zq_a (zw_0 H ax0) ax3 (zq_g fun g4 => (zq_W (fun hl => zwp_0 H ax0 (zsub_x ax3 ax2 g4) (zx_s H 0 x0 x3) hl) fun h107 s6 H5 => (zq_g fun g7 => (ih H5 ax0 ax2 (zadd_x ax3 zc32_1 g7))))))))))
theorem zg_7 {A : Nat} {h : xrH} {s : zS} {x0 : Nat} {Xx1 : Int32} {x1 : Int} {Xx2 : Int32} {x2 : Int} (H : zH A h s) (ax0 : x0 < 3) (ax1 : zx Xx1 x1) (ax2 : zx Xx2 x2) : zq 1 A (xf_7 (za_0 x0) Xx1 Xx2 h) (zf_7 x0 x1 x2 s) := by
  unfold xf_7 zf_7
  exact (zq_lt ax1 zcn_0 (zq_v H) (zq_lt ax2 zcn_0 (zq_v H) (zq_b (zi_1 H ax0) (zq_g fun g1 => (zq_le ax2 (zsub_x (zx_s H 1 x0 0) ax1 g1) (zq_g fun g2 => (zg_7_23 xfu H ax0 ax2 (zadd_x ax1 ax2 g2))) (zq_v H))))))
theorem zg_13_9 : ∀ (n : Nat) {A : Nat} {h : xrH} {s : zS} {x0 : Nat} {x1 : Nat} {Xx2 : Int32} {x2 : Int} {Xx3 : Int32} {x3 : Int} {Xx4 : Int32} {x4 : Int} {x5 : Nat} {Xx6 : Int32} {x6 : Int} (H : zH A h s) (ax0 : x0 < 1) (ax1 : x1 < 2) (ax2 : zx Xx2 x2) (ax3 : zx Xx3 x3) (ax4 : zx Xx4 x4) (ax5 : x5 < 2) (ax6 : zx Xx6 x6), zq 1 A (xf_13_9 n (za_1 x0) (za_5 x1) Xx2 Xx3 Xx4 (za_3 x5) Xx6 h) (zf_13_9 n x0 x1 x2 x3 x4 x5 x6 s) := by
  intro n
  induction n with
  | zero =>
    intros
    exact zq_none
  | succ n ih =>
    intro A h s x0 x1 Xx2 x2 Xx3 x3 Xx4 x4 x5 Xx6 x6 H ax0 ax1 ax2 ax3 ax4 ax5 ax6
    rw [xf_13_9, zf_13_9]
    exact (zq_b (zi_199 H ax5) (zq_ge ax6 (zx_s H 199 x5 0) (zq_c (zc_1 H ax0) (zq_g fun g1 => (zq_c_v (zg_14 H ax0 ax1 ax2 (zneg_x ax4 g1) zc32_m1) fun _ h102 s3 _ H2 => (zq_b (zr_64 H2 ax0) (zq_c (zc_0 H2 (by decide)) (zq_c_v (zg_7 H2 (by decide) ax3 ax4) fun _ h104 s5 _ H4 => (zq_v H4))))))) (zq_b (zr_192 H ax5) (zq_a (zw_192 H ax5) ax6 (zq_ne (zx_s H 192 x5 x6) zc32_3 (zq_g fun g6 => (ih H ax0 ax1 ax2 ax3 ax4 ax5 (zadd_x ax6 zc32_1 g6))) (zq_b (zr_196 H ax5) (zq_a (zw_196 H ax5) ax6 (zq_le (zx_s H 196 x5 x6) ax3 (zq_g fun g7 => (ih H ax0 ax1 ax2 ax3 ax4 ax5 (zadd_x ax6 zc32_1 g7))) (zq_b (zr_196 H ax5) (zq_a (zw_196 H ax5) ax6 (zq_g fun g8 => (zq_c_i (zg_227 H (zsub_x (zx_s H 196 x5 x6) ax4 g8) ax3) fun v11 h111 s10 hv11 H9 => (zq_c (zc_1 H9 ax0) (zq_c_v (zg_11 H9 ax0 ax1 ax6 (zx_r hv11)) fun _ h113 s13 _ H12 => (zq_g fun g14 => (ih H12 ax0 ax1 ax2 ax3 ax4 ax5 (zadd_x ax6 zc32_1 g14)))))))))))))))))
theorem zg_13 {A : Nat} {h : xrH} {s : zS} {x0 : Nat} {x1 : Nat} {Xx2 : Int32} {x2 : Int} {Xx3 : Int32} {x3 : Int} {Xx4 : Int32} {x4 : Int} (H : zH A h s) (ax0 : x0 < 1) (ax1 : x1 < 2) (ax2 : zx Xx2 x2) (ax3 : zx Xx3 x3) (ax4 : zx Xx4 x4) : zq 1 A (xf_13 (za_1 x0) (za_5 x1) Xx2 Xx3 Xx4 h) (zf_13 x0 x1 x2 x3 x4 s) := by
  unfold xf_13 zf_13
  exact (zq_b (zr_320 H ax1) (zg_13_9 xfu H ax0 ax1 ax2 ax3 ax4 ax1 zc32_0))
theorem zg_125 {A : Nat} {h : xrH} {s : zS} {x0 : Nat} {Xx1 : Int32} {x1 : Int} {Xx2 : Int32} {x2 : Int} (H : zH A h s) (ax0 : x0 < 1) (ax1 : zx Xx1 x1) (ax2 : zx Xx2 x2) : zq 0 A (xf_125 (za_8 x0) Xx1 Xx2 h) (zf_125 x0 x1 x2 s) := by
  unfold xf_125 zf_125
  exact (zq_c (zc_8 H ax0) (zq_c_v (zg_135 H ax0 ax1) fun _ h101 s2 _ H1 => (zq_b (zr_517 H1 ax0) (zq_c (zc_5 H1 (by decide)) (zq_c_i (zg_86 H1 (by decide) ax1) fun v5 h103 s4 hv5 H3 => (zq_c (zc_8 H3 ax0) (zq_g fun g6 => (zq_c_v (zg_137 H3 ax0 ax2 (zsub_x (zx_r hv5) zc32_1 g6)) fun _ h105 s8 _ H7 => (zq_b (zr_519 H7 ax0) (zq_b (zr_513 H7 ax0) (zq_c (zc_1 H7 (by decide)) (zq_c_v (zg_10 H7 (by decide) (by decide)) fun _ h108 s10 _ H9 => (zq_b (zr_519 H9 ax0) (zq_b (zr_517 H9 ax0) (zq_b (zr_517 H9 ax0) (zq_b (zr_320 H9 (by decide)) (zq_b (zr_194 H9 (by decide)) (zq_a (zw_194 H9 (by decide)) ax1 (zq_c (zc_1 H9 (by decide)) (zq_g fun g11 => (zq_c_v (zg_13 H9 (by decide) (by decide) ax1 (zadd_x (zx_s H9 194 0 x1) ax2 g11) zc32_1) fun _ h115 s13 _ H12 => (zq_c (zc_8 H12 ax0) (zq_c_i (zg_140 H12 ax0) fun v16 h116 s15 hv16 H14 => (zq_i H14 (zx_r hv16)))))))))))))))))))))))))
theorem zg_245 {A : Nat} {h : xrH} {s : zS} {x0 : Nat} {Xx1 : Int32} {x1 : Int} {Xx2 : Int32} {x2 : Int} {x3 : Nat} (H : zH A h s) (ax0 : x0 < 1) (ax1 : zx Xx1 x1) (ax2 : zx Xx2 x2) (ax3 : x3 < 1) : zq 0 A (xf_245 (za_8 x0) Xx1 Xx2 (zy_1000 x3) h) (zf_245 x0 x1 x2 x3 s) := by
  unfold xf_245 zf_245
  exact (zq_c (zc_8 H ax0) (zq_ch (zg_125 H ax0 ax1 ax2) (fun v3 h101 s2 hv3 H1 => (zq_W (fun hl => zwp_1000 H1 ax3 zc32_0 (zx_r hv3) hl) fun h103 s5 H4 => (zq_i H4 zc32_0))) fun e h104 s7 H6 => match e with | 0 => (zq_ex H6) | 1 => (zq_i H6 zc32_2) | 2 => (zq_i H6 zc32_1) | e + 3 => (zq_ex H6)))
theorem zg_8_2 : ∀ (n : Nat) {A : Nat} {h : xrH} {s : zS} {x0 : Nat} {Xx1 : Int32} {x1 : Int} {Xx2 : Int32} {x2 : Int} {Xx3 : Int32} {x3 : Int} (H : zH A h s) (ax0 : x0 < 3) (ax1 : zx Xx1 x1) (ax2 : zx Xx2 x2) (ax3 : zx Xx3 x3), zq 1 A (xf_8_2 n (za_0 x0) Xx1 Xx2 Xx3 h) (zf_8_2 n x0 x1 x2 x3 s) := by
  intro n
  induction n with
  | zero =>
    intros
    exact zq_none
  | succ n ih =>
    intro A h s x0 Xx1 x1 Xx2 x2 Xx3 x3 H ax0 ax1 ax2 ax3
    rw [xf_8_2, zf_8_2]
    exact (zq_g fun g1 => (zq_ge ax3 (zadd_x ax1 ax2 g1) (zq_v H) (zq_c (zc_0 H ax0) (zq_c_i (zg_2 H ax0 ax3) fun v4 h101 s3 hv4 H2 => (zq_c (zc_0 H2 ax0) (zq_g fun g5 => (zq_c_v (zg_3 H2 ax0 (zadd_x ax3 ax2 g5) (zx_r hv4)) fun _ h103 s7 _ H6 => (zq_g fun g8 => (ih H6 ax0 ax1 ax2 (zadd_x ax3 zc32_1 g8))))))))))
theorem zg_8 {A : Nat} {h : xrH} {s : zS} {x0 : Nat} {Xx1 : Int32} {x1 : Int} {Xx2 : Int32} {x2 : Int} (H : zH A h s) (ax0 : x0 < 3) (ax1 : zx Xx1 x1) (ax2 : zx Xx2 x2) : zq 1 A (xf_8 (za_0 x0) Xx1 Xx2 h) (zf_8 x0 x1 x2 s) := by
  unfold xf_8 zf_8
  exact (zg_8_2 xfu H ax0 ax1 ax2 ax1)
theorem zg_33_31 : ∀ (n : Nat) {A : Nat} {h : xrH} {s : zS} {x0 : Nat} {Xx1 : Int32} {x1 : Int} {Xx3 : Int32} {x3 : Int} {Xx4 : Int32} {x4 : Int} (H : zH A h s) (ax0 : x0 < 2) (ax1 : zx Xx1 x1) (ax3 : zx Xx3 x3) (ax4 : zx Xx4 x4), zq 0 A (xf_33_31 n (za_3 x0) Xx1 Xx3 Xx4 h) (zf_33_31 n x0 x1 x3 x4 s) := by
  intro n
  induction n with
  | zero =>
    intros
    exact zq_none
  | succ n ih =>
    intro A h s x0 Xx1 x1 Xx3 x3 Xx4 x4 H ax0 ax1 ax3 ax4
    rw [xf_33_31, zf_33_31]
    exact (zq_b (zi_199 H ax0) (zq_ge ax4 (zx_s H 199 x0 0) (zq_i H zc32_m1) (zq_b (zr_197 H ax0) (zq_a (zw_197 H ax0) ax4 (zq_ne (zx_s H 197 x0 x4) ax1 (zq_g fun g1 => (ih H ax0 ax1 ax3 (zadd_x ax4 zc32_1 g1))) (zq_ne ax3 zcn_0 (zq_g fun g2 => (zq_g fun g3 => (ih H ax0 ax1 (zadd_x ax3 zc32_m1 g2) (zadd_x ax4 zc32_1 g3)))) (zq_i H ax4)))))))
theorem zg_33 {A : Nat} {h : xrH} {s : zS} {x0 : Nat} {Xx1 : Int32} {x1 : Int} {Xx2 : Int32} {x2 : Int} (H : zH A h s) (ax0 : x0 < 2) (ax1 : zx Xx1 x1) (ax2 : zx Xx2 x2) : zq 0 A (xf_33 (za_3 x0) Xx1 Xx2 h) (zf_33 x0 x1 x2 s) := by
  unfold xf_33 zf_33
  exact (zq_c (zc_3 H ax0) (zq_c_i (zg_27 H ax0 ax1) fun v3 h101 s2 hv3 H1 => (zq_eq (zx_r hv3) zcn_0 (zq_i H1 zc32_m1) (zq_b (zr_192 H1 ax0) (zq_a (zw_192 H1 ax0) ax1 (zq_ne (zx_s H1 192 x0 x1) zc32_1 (zq_i H1 zc32_m1) (zq_ge ax2 zcn_0 (zq_g fun g4 => (zg_33_31 xfu H1 ax0 ax1 ax2 (zadd_x ax1 zc32_1 g4))) (zq_i H1 zc32_m1))))))))
theorem zg_126_139 {A : Nat} {h : xrH} {s : zS} {x0 : Nat} (H : zH A h s) (ax0 : x0 < 1) : zq 0 A (xf_126_139 (za_8 x0) h) (zf_126_139 x0 s) := by
  unfold xf_126_139 zf_126_139
  exact (zq_c (zc_8 H ax0) (zq_c_i (zg_140 H ax0) fun v3 h101 s2 hv3 H1 => (zq_i H1 (zx_r hv3))))
theorem zg_126_31 {A : Nat} {h : xrH} {s : zS} {x0 : Nat} {Xx1 : Int32} {x1 : Int} {Xx3 : Int32} {x3 : Int} {Xx4 : Int32} {x4 : Int} {s0 : Nat} {Xs1 : Int32} {s1 : Int} (H : zH A h s) (ax0 : x0 < 1) (ax1 : zx Xx1 x1) (ax3 : zx Xx3 x3) (ax4 : zx Xx4 x4) (as0 : s0 < 1) (as1 : zx Xs1 s1) : zq 0 A (xf_126_31 (za_8 x0) Xx1 Xx3 Xx4 (za_8 s0) Xs1 h) (zf_126_31 x0 x1 x3 x4 s0 s1 s) := by
  unfold xf_126_31 zf_126_31
  exact (zq_c (zc_8 H as0) (zq_c_v (zg_138 H as0 as1) fun _ h101 s2 _ H1 => (zq_b (zr_517 H1 ax0) (zq_b (zr_320 H1 (by decide)) (zq_b (zr_194 H1 (by decide)) (zq_a (zw_194 H1 (by decide)) ax4 (zq_b (zr_517 H1 ax0) (zq_b (zr_320 H1 (by decide)) (zq_b (zr_195 H1 (by decide)) (zq_a (zw_195 H1 (by decide)) ax4 (zq_b (zr_519 H1 ax0) (zq_b (zr_513 H1 ax0) (zq_c (zc_1 H1 (by decide)) (zq_c_v (zg_10 H1 (by decide) (by decide)) fun _ h112 s4 _ H3 => (zq_eq ax3 zcn_0 (zq_b (zr_519 H3 ax0) (zq_b (zr_517 H3 ax0) (zq_c (zc_1 H3 (by decide)) (zq_c_v (zg_13 H3 (by decide) (by decide) ax1 (zx_s H1 194 0 x4) (zx_s H1 195 0 x4)) fun _ h115 s6 _ H5 => (zg_126_139 H5 ax0))))) (zq_b (zr_519 H3 ax0) (zq_b (zr_517 H3 ax0) (zq_c (zc_1 H3 (by decide)) (zq_g fun g7 => (zq_c_i (zg_12 H3 (by decide) (by decide) ax1 (zadd_x (zx_s H1 194 0 x4) (zx_s H1 195 0 x4) g7) (zx_s H1 195 0 x4)) fun v10 h118 s9 hv10 H8 => (zq_c (zc_8 H8 ax0) (zq_c_v (zg_138 H8 ax0 (zx_r hv10)) fun _ h120 s12 _ H11 => (zq_b (zr_519 H11 ax0) (zq_b (zr_64 H11 (by decide)) (zq_c (zc_0 H11 (by decide)) (zq_c_v (zg_8 H11 (by decide) (zx_s H1 194 0 x4) (zx_s H1 195 0 x4)) fun _ h123 s14 _ H13 => (zg_126_139 H13 ax0)))))))))))))))))))))))))))
theorem zg_126 {A : Nat} {h : xrH} {s : zS} {x0 : Nat} {Xx1 : Int32} {x1 : Int} {Xx2 : Int32} {x2 : Int} {Xx3 : Int32} {x3 : Int} (H : zH A h s) (ax0 : x0 < 1) (ax1 : zx Xx1 x1) (ax2 : zx Xx2 x2) (ax3 : zx Xx3 x3) : zq 0 A (xf_126 (za_8 x0) Xx1 Xx2 Xx3 h) (zf_126 x0 x1 x2 x3 s) := by
  unfold xf_126 zf_126
  exact (zq_c (zc_8 H ax0) (zq_c_v (zg_135 H ax0 ax1) fun _ h101 s2 _ H1 => (zq_b (zr_517 H1 ax0) (zq_b (zr_320 H1 (by decide)) (zq_c (zc_3 H1 (by decide)) (zq_c_i (zg_33 H1 (by decide) ax1 ax2) fun v5 h104 s4 hv5 H3 => (zq_eq (zx_r hv5) zc32_m1 (zg_126_31 H3 ax0 ax1 ax3 (zx_r hv5) ax0 zc32_0) (zg_126_31 H3 ax0 ax1 ax3 (zx_r hv5) ax0 zc32_1))))))))
theorem zg_246 {A : Nat} {h : xrH} {s : zS} {x0 : Nat} {Xx1 : Int32} {x1 : Int} {Xx2 : Int32} {x2 : Int} {Xx3 : Int32} {x3 : Int} {x4 : Nat} (H : zH A h s) (ax0 : x0 < 1) (ax1 : zx Xx1 x1) (ax2 : zx Xx2 x2) (ax3 : zx Xx3 x3) (ax4 : x4 < 1) : zq 0 A (xf_246 (za_8 x0) Xx1 Xx2 Xx3 (zy_1000 x4) h) (zf_246 x0 x1 x2 x3 x4 s) := by
  unfold xf_246 zf_246
  exact (zq_c (zc_8 H ax0) (zq_ch (zg_126 H ax0 ax1 ax2 ax3) (fun v3 h101 s2 hv3 H1 => (zq_W (fun hl => zwp_1000 H1 ax4 zc32_0 (zx_r hv3) hl) fun h103 s5 H4 => (zq_i H4 zc32_0))) fun e h104 s7 H6 => match e with | 0 => (zq_ex H6) | 1 => (zq_i H6 zc32_2) | 2 => (zq_i H6 zc32_1) | e + 3 => (zq_ex H6)))
theorem zg_127 {A : Nat} {h : xrH} {s : zS} {x0 : Nat} (H : zH A h s) (ax0 : x0 < 1) : zq 0 A (xf_127 (za_8 x0) h) (zf_127 x0 s) := by
  unfold xf_127 zf_127
  exact (zq_c (zc_8 H ax0) (zq_c_v (zg_133 H ax0) fun _ h101 s2 _ H1 => (zq_b (zr_519 H1 ax0) (zq_b (zr_513 H1 ax0) (zq_c (zc_1 H1 (by decide)) (zq_c_v (zg_10 H1 (by decide) (by decide)) fun _ h104 s4 _ H3 => (zq_c (zc_8 H3 ax0) (zq_c_i (zg_140 H3 ax0) fun v7 h105 s6 hv7 H5 => (zq_i H5 (zx_r hv7))))))))))
theorem zg_247 {A : Nat} {h : xrH} {s : zS} {x0 : Nat} {x1 : Nat} (H : zH A h s) (ax0 : x0 < 1) (ax1 : x1 < 1) : zq 0 A (xf_247 (za_8 x0) (zy_1000 x1) h) (zf_247 x0 x1 s) := by
  unfold xf_247 zf_247
  exact (zq_c (zc_8 H ax0) (zq_ch (zg_127 H ax0) (fun v3 h101 s2 hv3 H1 => (zq_W (fun hl => zwp_1000 H1 ax1 zc32_0 (zx_r hv3) hl) fun h103 s5 H4 => (zq_i H4 zc32_0))) fun e h104 s7 H6 => match e with | 0 => (zq_ex H6) | 1 => (zq_i H6 zc32_1) | 2 => (zq_ex H6) | e + 3 => (zq_ex H6)))
theorem zg_22_119 {A : Nat} {h : xrH} {s : zS} {x0 : Nat} {Xx4 : Int32} {x4 : Int} {Xx5 : Int32} {x5 : Int} {Xx7 : Int32} {x7 : Int} (H : zH A h s) (ax0 : x0 < 1) (ax4 : zx Xx4 x4) (ax5 : zx Xx5 x5) (ax7 : zx Xx7 x7) : zq 1 A (xf_22_119 (za_2 x0) Xx4 Xx5 Xx7 h) (zf_22_119 x0 x4 x5 x7 s) := by
  unfold xf_22_119 zf_22_119
  exact (zq_b (zi_128 H ax0) (zq_g fun g3 => (zq_g fun g4 => (zq_P (zpi_129 H ax0 (zsub_x (zsub_x ax4 (zx_s H 128 x0 0) g3) ax7 g4)) fun h102 s2 H1 => (zq_b (zi_128 H1 ax0) (zq_g fun g7 => (zq_g fun g8 => (zq_P (zpi_130 H1 ax0 (zsub_x (zsub_x ax5 (zx_s H1 128 x0 0) g7) ax7 g8)) fun h104 s6 H5 => (zq_v H5)))))))))
theorem zg_22_74 : ∀ (n : Nat) {A : Nat} {h : xrH} {s : zS} {x0 : Nat} {x1 : Nat} {Xx2 : Int32} {x2 : Int} {Xx3 : Int32} {x3 : Int} {Xx4 : Int32} {x4 : Int} {Xx5 : Int32} {x5 : Int} {Xx6 : Int32} {x6 : Int} {Xx7 : Int32} {x7 : Int} (H : zH A h s) (ax0 : x0 < 1) (ax1 : x1 < 1) (ax2 : zx Xx2 x2) (ax3 : zx Xx3 x3) (ax4 : zx Xx4 x4) (ax5 : zx Xx5 x5) (ax6 : zx Xx6 x6) (ax7 : zx Xx7 x7), zq 1 A (xf_22_74 n (za_2 x0) (za_6 x1) Xx2 Xx3 Xx4 Xx5 Xx6 Xx7 h) (zf_22_74 n x0 x1 x2 x3 x4 x5 x6 x7 s) := by
  intro n
  induction n with
  | zero =>
    intros
    exact zq_none
  | succ n ih =>
    intro A h s x0 x1 Xx2 x2 Xx3 x3 Xx4 x4 Xx5 x5 Xx6 x6 Xx7 x7 H ax0 ax1 ax2 ax3 ax4 ax5 ax6 ax7
    rw [xf_22_74, zf_22_74]
    exact (zq_b (zi_128 H ax0) (zq_g fun g1 => (zq_ge ax7 (zsub_x ax6 (zx_s H 128 x0 0) g1) (zg_22_119 H ax0 ax4 ax5 ax7) (zq_c (zc_6 H ax1) (zq_g fun g2 => (zq_g fun g3 => (zq_c_i (zg_92 H ax1 ax2 (zsub_x (zsub_x ax4 zc32_1 g2) ax7 g3)) fun v6 h102 s5 hv6 H4 => (zq_c (zc_6 H4 ax1) (zq_g fun g7 => (zq_g fun g8 => (zq_c_i (zg_92 H4 ax1 ax3 (zsub_x (zsub_x ax5 zc32_1 g7) ax7 g8)) fun v11 h104 s10 hv11 H9 => (zq_ne (zx_r hv6) (zx_r hv11) (zg_22_119 H9 ax0 ax4 ax5 ax7) (zq_g fun g12 => (ih H9 ax0 ax1 ax2 ax3 ax4 ax5 ax6 (zadd_x ax7 zc32_1 g12)))))))))))))))
theorem zg_22_28 : ∀ (n : Nat) {A : Nat} {h : xrH} {s : zS} {x0 : Nat} {x1 : Nat} {Xx2 : Int32} {x2 : Int} {Xx3 : Int32} {x3 : Int} {Xx4 : Int32} {x4 : Int} {Xx5 : Int32} {x5 : Int} {Xx6 : Int32} {x6 : Int} (H : zH A h s) (ax0 : x0 < 1) (ax1 : x1 < 1) (ax2 : zx Xx2 x2) (ax3 : zx Xx3 x3) (ax4 : zx Xx4 x4) (ax5 : zx Xx5 x5) (ax6 : zx Xx6 x6), zq 1 A (xf_22_28 n (za_2 x0) (za_6 x1) Xx2 Xx3 Xx4 Xx5 Xx6 h) (zf_22_28 n x0 x1 x2 x3 x4 x5 x6 s) := by
  intro n
  induction n with
  | zero =>
    intros
    exact zq_none
  | succ n ih =>
    intro A h s x0 x1 Xx2 x2 Xx3 x3 Xx4 x4 Xx5 x5 Xx6 x6 H ax0 ax1 ax2 ax3 ax4 ax5 ax6
    rw [xf_22_28, zf_22_28]
    exact (zq_b (zi_128 H ax0) (zq_ge (zx_s H 128 x0 0) ax6 (zg_22_74 xfu H ax0 ax1 ax2 ax3 ax4 ax5 ax6 zc32_0) (zq_b (zi_128 H ax0) (zq_c (zc_6 H ax1) (zq_c_i (zg_92 H ax1 ax2 (zx_s H 128 x0 0)) fun v3 h103 s2 hv3 H1 => (zq_b (zi_128 H1 ax0) (zq_c (zc_6 H1 ax1) (zq_c_i (zg_92 H1 ax1 ax3 (zx_s H1 128 x0 0)) fun v6 h106 s5 hv6 H4 => (zq_ne (zx_r hv3) (zx_r hv6) (zg_22_74 xfu H4 ax0 ax1 ax2 ax3 ax4 ax5 ax6 zc32_0) (zq_b (zi_128 H4 ax0) (zq_g fun g9 => (zq_P (zpi_128 H4 ax0 (zadd_x (zx_s H4 128 x0 0) zc32_1 g9)) fun h109 s8 H7 => (ih H7 ax0 ax1 ax2 ax3 ax4 ax5 ax6)))))))))))))
theorem zg_22 {A : Nat} {h : xrH} {s : zS} {x0 : Nat} {x1 : Nat} {Xx2 : Int32} {x2 : Int} {Xx3 : Int32} {x3 : Int} (H : zH A h s) (ax0 : x0 < 1) (ax1 : x1 < 1) (ax2 : zx Xx2 x2) (ax3 : zx Xx3 x3) : zq 1 A (xf_22 (za_2 x0) (za_6 x1) Xx2 Xx3 h) (zf_22 x0 x1 x2 x3 s) := by
  unfold xf_22 zf_22
  exact (zq_c (zc_6 H ax1) (zq_c_i (zg_91 H ax1 ax2) fun v3 h101 s2 hv3 H1 => (zq_c (zc_6 H1 ax1) (zq_c_i (zg_91 H1 ax1 ax3) fun v6 h103 s5 hv6 H4 => (zq_c_i (zg_229 H4 (zx_r hv3) (zx_r hv6)) fun v9 h105 s8 hv9 H7 => (zq_P (zpi_128 H7 ax0 zc32_0) fun h107 s11 H10 => (zg_22_28 xfu H10 ax0 ax1 ax2 ax3 (zx_r hv3) (zx_r hv6) (zx_r hv9))))))))
theorem zg_128 {A : Nat} {h : xrH} {s : zS} {x0 : Nat} {Xx1 : Int32} {x1 : Int} {Xx2 : Int32} {x2 : Int} {Xx3 : Int32} {x3 : Int} (H : zH A h s) (ax0 : x0 < 1) (ax1 : zx Xx1 x1) (ax2 : zx Xx2 x2) (ax3 : zx Xx3 x3) : zq 0 A (xf_128 (za_8 x0) Xx1 Xx2 Xx3 h) (zf_128 x0 x1 x2 x3 s) := by
  unfold xf_128 zf_128
  exact (zq_c (zc_8 H ax0) (zq_c_v (zg_134 H ax0 ax1) fun _ h101 s2 _ H1 => (zq_c (zc_8 H1 ax0) (zq_c_v (zg_134 H1 ax0 ax2) fun _ h102 s4 _ H3 => (zq_lt ax3 zcn_0 (zq_t H3) (zq_le ax3 zc32_2 (zq_b (zr_520 H3 ax0) (zq_b (zr_516 H3 ax0) (zq_c (zc_2 H3 (by decide)) (zq_c_v (zg_22 H3 (by decide) (by decide) ax1 ax2) fun _ h105 s6 _ H5 => (zq_ne ax3 zcn_0 (zq_ne ax3 zc32_1 (zq_b (zr_520 H5 ax0) (zq_b (zi_130 H5 (by decide)) (zq_i H5 (zx_s H5 130 0 0)))) (zq_b (zr_520 H5 ax0) (zq_b (zi_129 H5 (by decide)) (zq_i H5 (zx_s H5 129 0 0))))) (zq_b (zr_520 H5 ax0) (zq_b (zi_128 H5 (by decide)) (zq_i H5 (zx_s H5 128 0 0))))))))) (zq_t H3)))))))
theorem zg_248 {A : Nat} {h : xrH} {s : zS} {x0 : Nat} {Xx1 : Int32} {x1 : Int} {Xx2 : Int32} {x2 : Int} {Xx3 : Int32} {x3 : Int} {x4 : Nat} (H : zH A h s) (ax0 : x0 < 1) (ax1 : zx Xx1 x1) (ax2 : zx Xx2 x2) (ax3 : zx Xx3 x3) (ax4 : x4 < 1) : zq 0 A (xf_248 (za_8 x0) Xx1 Xx2 Xx3 (zy_1000 x4) h) (zf_248 x0 x1 x2 x3 x4 s) := by
  unfold xf_248 zf_248
  exact (zq_c (zc_8 H ax0) (zq_ch (zg_128 H ax0 ax1 ax2 ax3) (fun v3 h101 s2 hv3 H1 => (zq_W (fun hl => zwp_1000 H1 ax4 zc32_0 (zx_r hv3) hl) fun h103 s5 H4 => (zq_i H4 zc32_0))) fun e h104 s7 H6 => match e with | 0 => (zq_i H6 zc32_2) | 1 => (zq_ex H6) | 2 => (zq_i H6 zc32_1) | e + 3 => (zq_ex H6)))
theorem zg_24_62 : ∀ (n : Nat) {A : Nat} {h : xrH} {s : zS} {x0 : Nat} {x1 : Nat} {Xx2 : Int32} {x2 : Int} {x3 : Nat} {Xx4 : Int32} {x4 : Int} {Xx6 : Int32} {x6 : Int} {Xx7 : Int32} {x7 : Int} (H : zH A h s) (ax0 : x0 < 1) (ax1 : x1 < 1) (ax2 : zx Xx2 x2) (ax3 : x3 < 3) (ax4 : zx Xx4 x4) (ax6 : zx Xx6 x6) (ax7 : zx Xx7 x7), zq 0 A (xf_24_62 n (za_2 x0) (za_6 x1) Xx2 (za_0 x3) Xx4 Xx6 Xx7 h) (zf_24_62 n x0 x1 x2 x3 x4 x6 x7 s) := by
  intro n
  induction n with
  | zero =>
    intros
    exact zq_none
  | succ n ih =>
    intro A h s x0 x1 Xx2 x2 x3 Xx4 x4 Xx6 x6 Xx7 x7 H ax0 ax1 ax2 ax3 ax4 ax6 ax7
    rw [xf_24_62, zf_24_62]
    exact (zq_ge ax7 ax6 (zq_z H zc32_1) (zq_b (zi_128 H ax0) (zq_c (zc_6 H ax1) (zq_g fun g1 => (zq_c_i (zg_92 H ax1 ax2 (zadd_x (zx_s H 128 x0 0) ax7 g1)) fun v4 h102 s3 hv4 H2 => (zq_c (zc_0 H2 ax3) (zq_g fun g5 => (zq_c_i (zg_2 H2 ax3 (zadd_x ax4 ax7 g5)) fun v8 h104 s7 hv8 H6 => (zq_eq (zx_r hv4) (zx_r hv8) (zq_g fun g9 => (ih H6 ax0 ax1 ax2 ax3 ax4 ax6 (zadd_x ax7 zc32_1 g9))) (zq_z H6 zc32_0))))))))))
theorem zg_24 {A : Nat} {h : xrH} {s : zS} {x0 : Nat} {x1 : Nat} {Xx2 : Int32} {x2 : Int} {x3 : Nat} {Xx4 : Int32} {x4 : Int} (H : zH A h s) (ax0 : x0 < 1) (ax1 : x1 < 1) (ax2 : zx Xx2 x2) (ax3 : x3 < 3) (ax4 : zx Xx4 x4) : zq 0 A (xf_24 (za_2 x0) (za_6 x1) Xx2 (za_0 x3) Xx4 h) (zf_24 x0 x1 x2 x3 x4 s) := by
  unfold xf_24 zf_24
  exact (zq_b (zi_128 H ax0) (zq_c_i (zg_229 H zc32_2 (zx_s H 128 x0 0)) fun v3 h102 s2 hv3 H1 => (zq_b (zi_129 H1 ax0) (zq_c (zc_6 H1 ax1) (zq_c_i (zg_91 H1 ax1 ax2) fun v6 h105 s5 hv6 H4 => (zq_b (zi_128 H4 ax0) (zq_b (zi_129 H4 ax0) (zq_g fun g7 => (zq_g fun g8 => (zq_c_i (zg_229 H4 zc32_2 (zsub_x (zsub_x (zx_r hv6) (zx_s H4 128 x0 0) g7) (zx_s H4 129 x0 0) g8)) fun v11 h109 s10 hv11 H9 => (zq_lt ax4 (zx_r hv3) (zq_z H9 zc32_0) (zq_b (zi_1 H9 ax3) (zq_g fun g12 => (zq_g fun g13 => (zq_le (zadd_x ax4 (zadd_x (zx_s H1 129 x0 0) (zx_r hv11) g12) g13) (zx_s H9 1 x3 0) (zq_g fun g14 => (zg_24_62 xfu H9 ax0 ax1 ax2 ax3 ax4 (zadd_x (zx_s H1 129 x0 0) (zx_r hv11) g12) (zneg_x (zx_r hv3) g14))) (zq_z H9 zc32_0))))))))))))))))
theorem zg_23_3 : ∀ (n : Nat) {A : Nat} {h : xrH} {s : zS} {x0 : Nat} {x1 : Nat} {Xx2 : Int32} {x2 : Int} {x3 : Nat} {Xx4 : Int32} {x4 : Int} (H : zH A h s) (ax0 : x0 < 1) (ax1 : x1 < 1) (ax2 : zx Xx2 x2) (ax3 : x3 < 3) (ax4 : zx Xx4 x4), zq 0 A (xf_23_3 n (za_2 x0) (za_6 x1) Xx2 (za_0 x3) Xx4 h) (zf_23_3 n x0 x1 x2 x3 x4 s) := by
  intro n
  induction n with
  | zero =>
    intros
    exact zq_none
  | succ n ih =>
    intro A h s x0 x1 Xx2 x2 x3 Xx4 x4 H ax0 ax1 ax2 ax3 ax4
    rw [xf_23_3, zf_23_3]
    exact (zq_gt ax4 zc16_160 (zq_i H zc32_m1) (zq_b (zi_128 H ax0) (zq_c (zc_2 H ax0) (zq_g fun g1 => (zq_c_i (zg_24 H ax0 ax1 ax2 ax3 (zsub_x (zx_s H 128 x0 0) ax4 g1)) fun v4 h102 s3 hv4 H2 => (zq_eq (zx_r hv4) zcn_0 (zq_b (zi_128 H2 ax0) (zq_c (zc_2 H2 ax0) (zq_g fun g5 => (zq_c_i (zg_24 H2 ax0 ax1 ax2 ax3 (zadd_x (zx_s H2 128 x0 0) ax4 g5)) fun v8 h105 s7 hv8 H6 => (zq_eq (zx_r hv8) zcn_0 (zq_g fun g9 => (ih H6 ax0 ax1 ax2 ax3 (zadd_x ax4 zc32_1 g9))) (zq_b (zi_128 H6 ax0) (zq_g fun g10 => (zq_i H6 (zadd_x (zx_s H6 128 x0 0) ax4 g10))))))))) (zq_b (zi_128 H2 ax0) (zq_g fun g11 => (zq_i H2 (zsub_x (zx_s H2 128 x0 0) ax4 g11))))))))))
theorem zg_23 {A : Nat} {h : xrH} {s : zS} {x0 : Nat} {x1 : Nat} {Xx2 : Int32} {x2 : Int} {x3 : Nat} (H : zH A h s) (ax0 : x0 < 1) (ax1 : x1 < 1) (ax2 : zx Xx2 x2) (ax3 : x3 < 3) : zq 0 A (xf_23 (za_2 x0) (za_6 x1) Xx2 (za_0 x3) h) (zf_23 x0 x1 x2 x3 s) := by
  unfold xf_23 zf_23
  exact (zg_23_3 xfu H ax0 ax1 ax2 ax3 zc32_0)
theorem zg_25_26 : ∀ (n : Nat) {A : Nat} {h : xrH} {s : zS} {x0 : Nat} {x1 : Nat} {Xx2 : Int32} {x2 : Int} {x3 : Nat} {Xx4 : Int32} {x4 : Int} {Xx5 : Int32} {x5 : Int} (H : zH A h s) (ax0 : x0 < 1) (ax1 : x1 < 1) (ax2 : zx Xx2 x2) (ax3 : x3 < 3) (ax4 : zx Xx4 x4) (ax5 : zx Xx5 x5), zq 1 A (xf_25_26 n (za_2 x0) (za_6 x1) Xx2 (za_0 x3) Xx4 Xx5 h) (zf_25_26 n x0 x1 x2 x3 x4 x5 s) := by
  intro n
  induction n with
  | zero =>
    intros
    exact zq_none
  | succ n ih =>
    intro A h s x0 x1 Xx2 x2 x3 Xx4 x4 Xx5 x5 H ax0 ax1 ax2 ax3 ax4 ax5
    rw [xf_25_26, zf_25_26]
    exact (zq_b (zi_130 H ax0) (zq_ge ax5 (zx_s H 130 x0 0) (zq_v H) (zq_b (zi_128 H ax0) (zq_c (zc_6 H ax1) (zq_g fun g1 => (zq_c_i (zg_92 H ax1 ax2 (zadd_x (zx_s H 128 x0 0) ax5 g1)) fun v4 h103 s3 hv4 H2 => (zq_c (zc_0 H2 ax3) (zq_g fun g5 => (zq_c_v (zg_3 H2 ax3 (zadd_x ax4 ax5 g5) (zx_r hv4)) fun _ h105 s7 _ H6 => (zq_g fun g8 => (ih H6 ax0 ax1 ax2 ax3 ax4 (zadd_x ax5 zc32_1 g8))))))))))))
theorem zg_25 {A : Nat} {h : xrH} {s : zS} {x0 : Nat} {x1 : Nat} {Xx2 : Int32} {x2 : Int} {x3 : Nat} {Xx4 : Int32} {x4 : Int} (H : zH A h s) (ax0 : x0 < 1) (ax1 : x1 < 1) (ax2 : zx Xx2 x2) (ax3 : x3 < 3) (ax4 : zx Xx4 x4) : zq 1 A (xf_25 (za_2 x0) (za_6 x1) Xx2 (za_0 x3) Xx4 h) (zf_25 x0 x1 x2 x3 x4 s) := by
  unfold xf_25 zf_25
  exact (zq_b (zi_129 H ax0) (zq_c (zc_0 H ax3) (zq_c_v (zg_7 H ax3 ax4 (zx_s H 129 x0 0)) fun _ h102 s2 _ H1 => (zq_b (zi_130 H1 ax0) (zq_c (zc_0 H1 ax3) (zq_c_i (zg_6 H1 ax3 ax4 (zx_s H1 130 x0 0)) fun v5 h104 s4 hv5 H3 => (zq_eq (zx_r hv5) zcn_0 (zq_v H3) (zg_25_26 xfu H3 ax0 ax1 ax2 ax3 ax4 zc32_0))))))))
theorem zg_129 {A : Nat} {h : xrH} {s : zS} {x0 : Nat} {Xx1 : Int32} {x1 : Int} {Xx2 : Int32} {x2 : Int} (H : zH A h s) (ax0 : x0 < 1) (ax1 : zx Xx1 x1) (ax2 : zx Xx2 x2) : zq 0 A (xf_129 (za_8 x0) Xx1 Xx2 h) (zf_129 x0 x1 x2 s) := by
  unfold xf_129 zf_129
  exact (zq_c (zc_8 H ax0) (zq_c_v (zg_134 H ax0 ax1) fun _ h101 s2 _ H1 => (zq_c (zc_8 H1 ax0) (zq_c_v (zg_134 H1 ax0 ax2) fun _ h102 s4 _ H3 => (zq_b (zr_520 H3 ax0) (zq_b (zr_516 H3 ax0) (zq_c (zc_2 H3 (by decide)) (zq_c_v (zg_22 H3 (by decide) (by decide) ax1 ax2) fun _ h105 s6 _ H5 => (zq_b (zr_520 H5 ax0) (zq_b (zr_516 H5 ax0) (zq_b (zr_513 H5 ax0) (zq_c (zc_2 H5 (by decide)) (zq_c_i (zg_23 H5 (by decide) (by decide) ax1 (by decide)) fun v9 h109 s8 hv9 H7 => (zq_eq (zx_r hv9) zc32_m1 (zq_t H7) (zq_b (zr_516 H7 ax0) (zq_c (zc_6 H7 (by decide)) (zq_c_i (zg_88 H7 (by decide)) fun v12 h112 s11 hv12 H10 => (zq_ne (zx_r hv12) zcn_0 (zq_t H10) (zq_b (zr_513 H10 ax0) (zq_b (zi_1 H10 (by decide)) (zq_b (zr_520 H10 ax0) (zq_b (zi_129 H10 (by decide)) (zq_b (zr_520 H10 ax0) (zq_b (zi_130 H10 (by decide)) (zq_g fun g13 => (zq_g fun g14 => (zq_le (zadd_x (zsub_x (zx_s H10 1 1 0) (zx_s H10 129 0 0) g13) (zx_s H10 130 0 0) g14) zc16_160 (zq_b (zr_520 H10 ax0) (zq_b (zr_516 H10 ax0) (zq_b (zr_513 H10 ax0) (zq_c (zc_2 H10 (by decide)) (zq_c_v (zg_25 H10 (by decide) (by decide) ax2 (by decide) (zx_r hv9)) fun _ h123 s16 _ H15 => (zq_c (zc_8 H15 ax0) (zq_c_i (zg_131 H15 ax0) fun v19 h124 s18 hv19 H17 => (zq_i H17 (zx_r hv19))))))))) (zq_t H10))))))))))))))))))))))))))))
theorem zg_249 {A : Nat} {h : xrH} {s : zS} {x0 : Nat} {Xx1 : Int32} {x1 : Int} {Xx2 : Int32} {x2 : Int} {x3 : Nat} (H : zH A h s) (ax0 : x0 < 1) (ax1 : zx Xx1 x1) (ax2 : zx Xx2 x2) (ax3 : x3 < 1) : zq 0 A (xf_249 (za_8 x0) Xx1 Xx2 (zy_1000 x3) h) (zf_249 x0 x1 x2 x3 s) := by
  unfold xf_249 zf_249
  exact (zq_c (zc_8 H ax0) (zq_ch (zg_129 H ax0 ax1 ax2) (fun v3 h101 s2 hv3 H1 => (zq_W (fun hl => zwp_1000 H1 ax3 zc32_0 (zx_r hv3) hl) fun h103 s5 H4 => (zq_i H4 zc32_0))) fun e h104 s7 H6 => match e with | 0 => (zq_ex H6) | 1 => (zq_i H6 zc32_2) | 2 => (zq_i H6 zc32_1) | e + 3 => (zq_ex H6)))
theorem zg_0_152 (L : Nat) (xs : Nat → Int32) (hL : L ≤ 2147483647) (k23 : Nat → Nat → Nat → Int32 → xrH → xrR) (zk23 : Nat → Nat → Nat → Int → zS → zR) (hk23 : ∀ {A : Nat} {h : xrH} {s : zS} {y0 : Nat} {y1 : Nat} {y2 : Nat} {Xy3 : Int32} {y3 : Int} (H : zH A h s) (ay0 : y0 < 1) (ay1 : y1 < 1) (ay2 : y2 < 1) (ay3 : zx Xy3 y3), zq 0 A (k23 (za_8 y0) (za_9 y1) (zy_1000 y2) Xy3 h) (zk23 y0 y1 y2 y3 s)) {A : Nat} {h : xrH} {s : zS} {x1 : Nat} {x2 : Nat} {x3 : Nat} {Xx4 : Int32} {x4 : Int} (H : zH A h s) (ax1 : x1 < 1) (ax2 : x2 < 1) (ax3 : x3 < 1) (ax4 : zx Xx4 x4) : zq 0 A (xf_0_152 L xs k23 (za_8 x1) (za_9 x2) (zy_1000 x3) Xx4 h) (zf_0_152 L xs zk23 x1 x2 x3 x4 s) := by
  unfold xf_0_152 zf_0_152
  exact (zq_g fun g1 => (zq_x (zadd_x ax4 zc32_1 g1) (zq_g fun g2 => (zq_x (zadd_x ax4 zc32_2 g2) (zq_g fun g3 => (zq_x (zadd_x ax4 zc32_3 g3) (zq_c_i (zg_231 H ax1 (ly_or (ly_shl (ly_i zx_t) zc8_32) (ly_and (ly_i zx_t) rfl)) zx_t ax3) fun v6 h104 s5 hv6 H4 => (zq_x (zadd_x ax4 zc32_1 g1) (zq_x (zadd_x ax4 zc32_2 g2) (zq_x (zadd_x ax4 zc32_3 g3) (zq_c (zc_9 H4 ax2) (zq_c_i (zg_147 H4 ax2 (ly_or (ly_shl (ly_i zx_t) zc8_32) (ly_and (ly_i zx_t) rfl)) zx_t) fun v9 h109 s8 hv9 H7 => (zq_c (zc_9 H7 ax2) (zq_c_i (zg_144 H7 ax2) fun v12 h111 s11 hv12 H10 => (zq_eq (zx_r hv12) (zx_r hv6) (zq_ne (zx_r hv6) zcn_0 (zq_g fun g13 => (hk23 H10 ax1 ax2 ax3 (zadd_x ax4 zc32_4 g13))) (zq_l (zw_1000 H10 ax3) zc32_0 (zq_eq (zx_cmp rfl (ly_i (zx_r hv9))) zcn_0 (zq_g fun g14 => (hk23 H10 ax1 ax2 ax3 (zadd_x ax4 zc32_4 g14))) (zq_z H10 zc32_0)))) (zq_z H10 zc32_0))))))))))))))))
theorem zg_0_252 (L : Nat) (xs : Nat → Int32) (hL : L ≤ 2147483647) (k23 : Nat → Nat → Nat → Int32 → xrH → xrR) (zk23 : Nat → Nat → Nat → Int → zS → zR) (hk23 : ∀ {A : Nat} {h : xrH} {s : zS} {y0 : Nat} {y1 : Nat} {y2 : Nat} {Xy3 : Int32} {y3 : Int} (H : zH A h s) (ay0 : y0 < 1) (ay1 : y1 < 1) (ay2 : y2 < 1) (ay3 : zx Xy3 y3), zq 0 A (k23 (za_8 y0) (za_9 y1) (zy_1000 y2) Xy3 h) (zk23 y0 y1 y2 y3 s)) {A : Nat} {h : xrH} {s : zS} {x1 : Nat} {x2 : Nat} {x3 : Nat} {Xx4 : Int32} {x4 : Int} (H : zH A h s) (ax1 : x1 < 1) (ax2 : x2 < 1) (ax3 : x3 < 1) (ax4 : zx Xx4 x4) : zq 0 A (xf_0_252 L xs k23 (za_8 x1) (za_9 x2) (zy_1000 x3) Xx4 h) (zf_0_252 L xs zk23 x1 x2 x3 x4 s) := by
  unfold xf_0_252 zf_0_252
  exact (zq_c_i (zg_232 H ax1 ax3) fun v3 h101 s2 hv3 H1 => (zq_c (zc_9 H1 ax2) (zq_c_i (zg_149 H1 ax2) fun v6 h103 s5 hv6 H4 => (zq_c (zc_9 H4 ax2) (zq_c_i (zg_144 H4 ax2) fun v9 h105 s8 hv9 H7 => (zq_eq (zx_r hv9) (zx_r hv3) (zq_ne (zx_r hv3) zcn_0 (zq_g fun g10 => (hk23 H7 ax1 ax2 ax3 (zadd_x ax4 zc32_4 g10))) (zq_l (zw_1000 H7 ax3) zc32_0 (zq_eq (zx_cmp rfl (ly_i (zx_r hv6))) zcn_0 (zq_g fun g11 => (hk23 H7 ax1 ax2 ax3 (zadd_x ax4 zc32_4 g11))) (zq_z H7 zc32_0)))) (zq_z H7 zc32_0)))))))
theorem zg_0_296 (L : Nat) (xs : Nat → Int32) (hL : L ≤ 2147483647) (k23 : Nat → Nat → Nat → Int32 → xrH → xrR) (zk23 : Nat → Nat → Nat → Int → zS → zR) (hk23 : ∀ {A : Nat} {h : xrH} {s : zS} {y0 : Nat} {y1 : Nat} {y2 : Nat} {Xy3 : Int32} {y3 : Int} (H : zH A h s) (ay0 : y0 < 1) (ay1 : y1 < 1) (ay2 : y2 < 1) (ay3 : zx Xy3 y3), zq 0 A (k23 (za_8 y0) (za_9 y1) (zy_1000 y2) Xy3 h) (zk23 y0 y1 y2 y3 s)) {A : Nat} {h : xrH} {s : zS} {x1 : Nat} {x2 : Nat} {x3 : Nat} {Xx4 : Int32} {x4 : Int} (H : zH A h s) (ax1 : x1 < 1) (ax2 : x2 < 1) (ax3 : x3 < 1) (ax4 : zx Xx4 x4) : zq 0 A (xf_0_296 L xs k23 (za_8 x1) (za_9 x2) (zy_1000 x3) Xx4 h) (zf_0_296 L xs zk23 x1 x2 x3 x4 s) := by
  unfold xf_0_296 zf_0_296
  exact (zq_g fun g1 => (zq_x (zadd_x ax4 zc32_1 g1) (zq_c_i (zg_233 H ax1 zx_t ax3) fun v4 h102 s3 hv4 H2 => (zq_x (zadd_x ax4 zc32_1 g1) (zq_c (zc_9 H2 ax2) (zq_c_i (zg_171 H2 ax2 zx_t) fun v7 h105 s6 hv7 H5 => (zq_c (zc_9 H5 ax2) (zq_c_i (zg_144 H5 ax2) fun v10 h107 s9 hv10 H8 => (zq_eq (zx_r hv10) (zx_r hv4) (zq_ne (zx_r hv4) zcn_0 (zq_g fun g11 => (hk23 H8 ax1 ax2 ax3 (zadd_x ax4 zc32_4 g11))) (zq_l (zw_1000 H8 ax3) zc32_0 (zq_eq (zx_cmp rfl (ly_i (zx_r hv7))) zcn_0 (zq_g fun g12 => (hk23 H8 ax1 ax2 ax3 (zadd_x ax4 zc32_4 g12))) (zq_z H8 zc32_0)))) (zq_z H8 zc32_0))))))))))
theorem zg_0_352 (L : Nat) (xs : Nat → Int32) (hL : L ≤ 2147483647) (k23 : Nat → Nat → Nat → Int32 → xrH → xrR) (zk23 : Nat → Nat → Nat → Int → zS → zR) (hk23 : ∀ {A : Nat} {h : xrH} {s : zS} {y0 : Nat} {y1 : Nat} {y2 : Nat} {Xy3 : Int32} {y3 : Int} (H : zH A h s) (ay0 : y0 < 1) (ay1 : y1 < 1) (ay2 : y2 < 1) (ay3 : zx Xy3 y3), zq 0 A (k23 (za_8 y0) (za_9 y1) (zy_1000 y2) Xy3 h) (zk23 y0 y1 y2 y3 s)) {A : Nat} {h : xrH} {s : zS} {x1 : Nat} {x2 : Nat} {x3 : Nat} {Xx4 : Int32} {x4 : Int} (H : zH A h s) (ax1 : x1 < 1) (ax2 : x2 < 1) (ax3 : x3 < 1) (ax4 : zx Xx4 x4) : zq 0 A (xf_0_352 L xs k23 (za_8 x1) (za_9 x2) (zy_1000 x3) Xx4 h) (zf_0_352 L xs zk23 x1 x2 x3 x4 s) := by
  unfold xf_0_352 zf_0_352
  exact (zq_c (zc_8 H ax1) (zq_c_i (zg_108 H ax1) fun v3 h101 s2 hv3 H1 => (zq_c (zc_9 H1 ax2) (zq_c_i (zg_150 H1 ax2) fun v6 h103 s5 hv6 H4 => (zq_eq (zx_r hv3) (zx_r hv6) (zq_g fun g7 => (hk23 H4 ax1 ax2 ax3 (zadd_x ax4 zc32_4 g7))) (zq_z H4 zc32_0))))))
theorem zg_0_365 (L : Nat) (xs : Nat → Int32) (hL : L ≤ 2147483647) (k23 : Nat → Nat → Nat → Int32 → xrH → xrR) (zk23 : Nat → Nat → Nat → Int → zS → zR) (hk23 : ∀ {A : Nat} {h : xrH} {s : zS} {y0 : Nat} {y1 : Nat} {y2 : Nat} {Xy3 : Int32} {y3 : Int} (H : zH A h s) (ay0 : y0 < 1) (ay1 : y1 < 1) (ay2 : y2 < 1) (ay3 : zx Xy3 y3), zq 0 A (k23 (za_8 y0) (za_9 y1) (zy_1000 y2) Xy3 h) (zk23 y0 y1 y2 y3 s)) {A : Nat} {h : xrH} {s : zS} {x1 : Nat} {x2 : Nat} {x3 : Nat} {Xx4 : Int32} {x4 : Int} (H : zH A h s) (ax1 : x1 < 1) (ax2 : x2 < 1) (ax3 : x3 < 1) (ax4 : zx Xx4 x4) : zq 0 A (xf_0_365 L xs k23 (za_8 x1) (za_9 x2) (zy_1000 x3) Xx4 h) (zf_0_365 L xs zk23 x1 x2 x3 x4 s) := by
  unfold xf_0_365 zf_0_365
  exact (zq_g fun g1 => (zq_x (zadd_x ax4 zc32_1 g1) (zq_c_i (zg_234 H ax1 zx_t ax3) fun v4 h102 s3 hv4 H2 => (zq_x (zadd_x ax4 zc32_1 g1) (zq_c (zc_9 H2 ax2) (zq_c_i (zg_151 H2 ax2 zx_t) fun v7 h105 s6 hv7 H5 => (zq_c (zc_9 H5 ax2) (zq_c_i (zg_144 H5 ax2) fun v10 h107 s9 hv10 H8 => (zq_eq (zx_r hv10) (zx_r hv4) (zq_ne (zx_r hv4) zcn_0 (zq_g fun g11 => (hk23 H8 ax1 ax2 ax3 (zadd_x ax4 zc32_4 g11))) (zq_l (zw_1000 H8 ax3) zc32_0 (zq_eq (zx_cmp rfl (ly_i (zx_r hv7))) zcn_0 (zq_g fun g12 => (hk23 H8 ax1 ax2 ax3 (zadd_x ax4 zc32_4 g12))) (zq_z H8 zc32_0)))) (zq_z H8 zc32_0))))))))))
theorem zg_0_421 (L : Nat) (xs : Nat → Int32) (hL : L ≤ 2147483647) (k23 : Nat → Nat → Nat → Int32 → xrH → xrR) (zk23 : Nat → Nat → Nat → Int → zS → zR) (hk23 : ∀ {A : Nat} {h : xrH} {s : zS} {y0 : Nat} {y1 : Nat} {y2 : Nat} {Xy3 : Int32} {y3 : Int} (H : zH A h s) (ay0 : y0 < 1) (ay1 : y1 < 1) (ay2 : y2 < 1) (ay3 : zx Xy3 y3), zq 0 A (k23 (za_8 y0) (za_9 y1) (zy_1000 y2) Xy3 h) (zk23 y0 y1 y2 y3 s)) {A : Nat} {h : xrH} {s : zS} {x1 : Nat} {x2 : Nat} {x3 : Nat} {Xx4 : Int32} {x4 : Int} (H : zH A h s) (ax1 : x1 < 1) (ax2 : x2 < 1) (ax3 : x3 < 1) (ax4 : zx Xx4 x4) : zq 0 A (xf_0_421 L xs k23 (za_8 x1) (za_9 x2) (zy_1000 x3) Xx4 h) (zf_0_421 L xs zk23 x1 x2 x3 x4 s) := by
  unfold xf_0_421 zf_0_421
  exact (zq_c (zc_8 H ax1) (zq_c_i (zg_110 H ax1) fun v3 h101 s2 hv3 H1 => (zq_c (zc_9 H1 ax2) (zq_c_i (zg_152 H1 ax2) fun v6 h103 s5 hv6 H4 => (zq_eq (zx_r hv3) (zx_r hv6) (zq_g fun g7 => (hk23 H4 ax1 ax2 ax3 (zadd_x ax4 zc32_4 g7))) (zq_z H4 zc32_0))))))
theorem zg_0_434 (L : Nat) (xs : Nat → Int32) (hL : L ≤ 2147483647) (k23 : Nat → Nat → Nat → Int32 → xrH → xrR) (zk23 : Nat → Nat → Nat → Int → zS → zR) (hk23 : ∀ {A : Nat} {h : xrH} {s : zS} {y0 : Nat} {y1 : Nat} {y2 : Nat} {Xy3 : Int32} {y3 : Int} (H : zH A h s) (ay0 : y0 < 1) (ay1 : y1 < 1) (ay2 : y2 < 1) (ay3 : zx Xy3 y3), zq 0 A (k23 (za_8 y0) (za_9 y1) (zy_1000 y2) Xy3 h) (zk23 y0 y1 y2 y3 s)) {A : Nat} {h : xrH} {s : zS} {x1 : Nat} {x2 : Nat} {x3 : Nat} {Xx4 : Int32} {x4 : Int} (H : zH A h s) (ax1 : x1 < 1) (ax2 : x2 < 1) (ax3 : x3 < 1) (ax4 : zx Xx4 x4) : zq 0 A (xf_0_434 L xs k23 (za_8 x1) (za_9 x2) (zy_1000 x3) Xx4 h) (zf_0_434 L xs zk23 x1 x2 x3 x4 s) := by
  unfold xf_0_434 zf_0_434
  exact (zq_g fun g1 => (zq_x (zadd_x ax4 zc32_1 g1) (zq_c_i (zg_235 H ax1 zx_t ax3) fun v4 h102 s3 hv4 H2 => (zq_x (zadd_x ax4 zc32_1 g1) (zq_c (zc_9 H2 ax2) (zq_c_i (zg_154 H2 ax2 zx_t) fun v7 h105 s6 hv7 H5 => (zq_c (zc_9 H5 ax2) (zq_c_i (zg_144 H5 ax2) fun v10 h107 s9 hv10 H8 => (zq_eq (zx_r hv10) (zx_r hv4) (zq_ne (zx_r hv4) zcn_0 (zq_g fun g11 => (hk23 H8 ax1 ax2 ax3 (zadd_x ax4 zc32_4 g11))) (zq_l (zw_1000 H8 ax3) zc32_0 (zq_eq (zx_cmp rfl (ly_i (zx_r hv7))) zcn_0 (zq_g fun g12 => (hk23 H8 ax1 ax2 ax3 (zadd_x ax4 zc32_4 g12))) (zq_z H8 zc32_0)))) (zq_z H8 zc32_0))))))))))
theorem zg_0_490 (L : Nat) (xs : Nat → Int32) (hL : L ≤ 2147483647) (k23 : Nat → Nat → Nat → Int32 → xrH → xrR) (zk23 : Nat → Nat → Nat → Int → zS → zR) (hk23 : ∀ {A : Nat} {h : xrH} {s : zS} {y0 : Nat} {y1 : Nat} {y2 : Nat} {Xy3 : Int32} {y3 : Int} (H : zH A h s) (ay0 : y0 < 1) (ay1 : y1 < 1) (ay2 : y2 < 1) (ay3 : zx Xy3 y3), zq 0 A (k23 (za_8 y0) (za_9 y1) (zy_1000 y2) Xy3 h) (zk23 y0 y1 y2 y3 s)) {A : Nat} {h : xrH} {s : zS} {x1 : Nat} {x2 : Nat} {x3 : Nat} {Xx4 : Int32} {x4 : Int} (H : zH A h s) (ax1 : x1 < 1) (ax2 : x2 < 1) (ax3 : x3 < 1) (ax4 : zx Xx4 x4) : zq 0 A (xf_0_490 L xs k23 (za_8 x1) (za_9 x2) (zy_1000 x3) Xx4 h) (zf_0_490 L xs zk23 x1 x2 x3 x4 s) := by
  unfold xf_0_490 zf_0_490
  exact (zq_g fun g1 => (zq_x (zadd_x ax4 zc32_1 g1) (zq_c_i (zg_236 H ax1 zx_t ax3) fun v4 h102 s3 hv4 H2 => (zq_x (zadd_x ax4 zc32_1 g1) (zq_c (zc_9 H2 ax2) (zq_c_i (zg_155 H2 ax2 zx_t) fun v7 h105 s6 hv7 H5 => (zq_c (zc_9 H5 ax2) (zq_c_i (zg_144 H5 ax2) fun v10 h107 s9 hv10 H8 => (zq_eq (zx_r hv10) (zx_r hv4) (zq_ne (zx_r hv4) zcn_0 (zq_g fun g11 => (hk23 H8 ax1 ax2 ax3 (zadd_x ax4 zc32_4 g11))) (zq_l (zw_1000 H8 ax3) zc32_0 (zq_eq (zx_cmp rfl (ly_i (zx_r hv7))) zcn_0 (zq_g fun g12 => (hk23 H8 ax1 ax2 ax3 (zadd_x ax4 zc32_4 g12))) (zq_z H8 zc32_0)))) (zq_z H8 zc32_0))))))))))
theorem zg_0_546 (L : Nat) (xs : Nat → Int32) (hL : L ≤ 2147483647) (k23 : Nat → Nat → Nat → Int32 → xrH → xrR) (zk23 : Nat → Nat → Nat → Int → zS → zR) (hk23 : ∀ {A : Nat} {h : xrH} {s : zS} {y0 : Nat} {y1 : Nat} {y2 : Nat} {Xy3 : Int32} {y3 : Int} (H : zH A h s) (ay0 : y0 < 1) (ay1 : y1 < 1) (ay2 : y2 < 1) (ay3 : zx Xy3 y3), zq 0 A (k23 (za_8 y0) (za_9 y1) (zy_1000 y2) Xy3 h) (zk23 y0 y1 y2 y3 s)) {A : Nat} {h : xrH} {s : zS} {x1 : Nat} {x2 : Nat} {x3 : Nat} {Xx4 : Int32} {x4 : Int} (H : zH A h s) (ax1 : x1 < 1) (ax2 : x2 < 1) (ax3 : x3 < 1) (ax4 : zx Xx4 x4) : zq 0 A (xf_0_546 L xs k23 (za_8 x1) (za_9 x2) (zy_1000 x3) Xx4 h) (zf_0_546 L xs zk23 x1 x2 x3 x4 s) := by
  unfold xf_0_546 zf_0_546
  exact (zq_c (zc_8 H ax1) (zq_c_i (zg_113 H ax1) fun v3 h101 s2 hv3 H1 => (zq_c (zc_9 H1 ax2) (zq_c_i (zg_188 H1 ax2) fun v6 h103 s5 hv6 H4 => (zq_eq (zx_r hv3) (zx_r hv6) (zq_g fun g7 => (hk23 H4 ax1 ax2 ax3 (zadd_x ax4 zc32_4 g7))) (zq_z H4 zc32_0))))))
theorem zg_0_607 (L : Nat) (xs : Nat → Int32) (hL : L ≤ 2147483647) (k23 : Nat → Nat → Nat → Int32 → xrH → xrR) (zk23 : Nat → Nat → Nat → Int → zS → zR) (hk23 : ∀ {A : Nat} {h : xrH} {s : zS} {y0 : Nat} {y1 : Nat} {y2 : Nat} {Xy3 : Int32} {y3 : Int} (H : zH A h s) (ay0 : y0 < 1) (ay1 : y1 < 1) (ay2 : y2 < 1) (ay3 : zx Xy3 y3), zq 0 A (k23 (za_8 y0) (za_9 y1) (zy_1000 y2) Xy3 h) (zk23 y0 y1 y2 y3 s)) {A : Nat} {h : xrH} {s : zS} {x1 : Nat} {x2 : Nat} {x3 : Nat} {Xx4 : Int32} {x4 : Int} {Xx5 : Int32} {x5 : Int} {s0 : Nat} {Xs1 : Int32} {s1 : Int} {Xs2 : Int32} {s2 : Int} (H : zH A h s) (ax1 : x1 < 1) (ax2 : x2 < 1) (ax3 : x3 < 1) (ax4 : zx Xx4 x4) (ax5 : zx Xx5 x5) (as0 : s0 < 1) (as1 : zx Xs1 s1) (as2 : zx Xs2 s2) : zq 0 A (xf_0_607 L xs k23 (za_8 x1) (za_9 x2) (zy_1000 x3) Xx4 Xx5 (za_9 s0) Xs1 Xs2 h) (zf_0_607 L xs zk23 x1 x2 x3 x4 x5 s0 s1 s2 s) := by
  unfold xf_0_607 zf_0_607
  exact (zq_c (zc_9 H as0) (zq_c_i (zg_189 H as0 as1 as2) fun v3 h101 s2 hv3 H1 => (zq_c (zc_9 H1 ax2) (zq_c_i (zg_144 H1 ax2) fun v6 h103 s5 hv6 H4 => (zq_eq (zx_r hv6) ax5 (zq_ne ax5 zcn_0 (zq_g fun g7 => (hk23 H4 ax1 ax2 ax3 (zadd_x ax4 zc32_4 g7))) (zq_l (zw_1000 H4 ax3) zc32_0 (zq_eq (zx_cmp rfl (ly_i (zx_r hv3))) zcn_0 (zq_g fun g8 => (hk23 H4 ax1 ax2 ax3 (zadd_x ax4 zc32_4 g8))) (zq_z H4 zc32_0)))) (zq_z H4 zc32_0))))))
theorem zg_0_580 (L : Nat) (xs : Nat → Int32) (hL : L ≤ 2147483647) (k23 : Nat → Nat → Nat → Int32 → xrH → xrR) (zk23 : Nat → Nat → Nat → Int → zS → zR) (hk23 : ∀ {A : Nat} {h : xrH} {s : zS} {y0 : Nat} {y1 : Nat} {y2 : Nat} {Xy3 : Int32} {y3 : Int} (H : zH A h s) (ay0 : y0 < 1) (ay1 : y1 < 1) (ay2 : y2 < 1) (ay3 : zx Xy3 y3), zq 0 A (k23 (za_8 y0) (za_9 y1) (zy_1000 y2) Xy3 h) (zk23 y0 y1 y2 y3 s)) {A : Nat} {h : xrH} {s : zS} {x1 : Nat} {x2 : Nat} {x3 : Nat} {Xx4 : Int32} {x4 : Int} {s0 : Nat} {Xs1 : Int32} {s1 : Int} {Xs2 : Int32} {s2 : Int} (H : zH A h s) (ax1 : x1 < 1) (ax2 : x2 < 1) (ax3 : x3 < 1) (ax4 : zx Xx4 x4) (as0 : s0 < 1) (as1 : zx Xs1 s1) (as2 : zx Xs2 s2) : zq 0 A (xf_0_580 L xs k23 (za_8 x1) (za_9 x2) (zy_1000 x3) Xx4 (za_8 s0) Xs1 Xs2 h) (zf_0_580 L xs zk23 x1 x2 x3 x4 s0 s1 s2 s) := by
  unfold xf_0_580 zf_0_580
  exact (zq_c_i (zg_237 H as0 as1 as2 ax3) fun v3 h101 s2 hv3 H1 => (zq_g fun g4 => (zq_x (zadd_x ax4 zc32_1 g4) (zq_g fun g5 => (zq_x (zadd_x ax4 zc32_2 g5) (zq_eq zx_t zcn_0 (zg_0_607 L xs hL k23 zk23 hk23 H1 ax1 ax2 ax3 ax4 (zx_r hv3) ax2 zx_t zc32_0) (zg_0_607 L xs hL k23 zk23 hk23 H1 ax1 ax2 ax3 ax4 (zx_r hv3) ax2 zx_t zc32_1)))))))
