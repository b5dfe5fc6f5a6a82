/-! the methods do what their functions over the store do -/
theorem zg_140 {A : Nat} {h : xrH} {s : zS} {x0 : Nat} (H : zH A h s) (ax0 : x0 < 1) : zq 0 A (xf_140 (za_8 x0) h) (zf_140 x0 s) := by
  unfold xf_140 zf_140
  exact (zq_c (zc_8 H ax0) (zq_c_o (zg_132 H ax0) fun v3 h101 s2 hv3 H1 => (zq_If H1 (zo_r hv3) (zq_t H1) fun q4 hq5 hA6 H7 => (zq_b (zr_516 H7 ax0) (zq_c (zc_6 H7 (by decide)) (zq_c_i (zg_88 H7 (by decide)) fun v10 h105 s9 hv10 H8 => (zq_ne (zx_r hv10) zcn_0 (zq_t H8) (zq_b (zr_519 H8 ax0) (zq_b (zr_518 H8 ax0) (zq_c (zc_1 H8 (by decide)) (zq_c_i (zg_15 H8 (by decide) (by decide) (zo_q (Nat.lt_of_lt_of_le hq5 H8.le4))) fun v13 h109 s12 hv13 H11 => (zq_eq (zx_r hv13) zcn_0 (zq_t H11) (zq_b (zr_519 H11 ax0) (zq_b (zr_518 H11 ax0) (zq_c (zc_1 H11 (by decide)) (zq_c_i (zg_17 H11 (by decide) (by decide)) fun v16 h113 s15 hv16 H14 => (zq_eq (zx_r hv16) zcn_0 (zq_t H14) (zq_b (zr_519 H14 ax0) (zq_b (zr_518 H14 ax0) (zq_c (zc_1 H14 (by decide)) (zq_c_i (zg_20 H14 (by decide) (by decide) (zo_q (Nat.lt_of_lt_of_le hq5 H14.le4))) fun v19 h117 s18 hv19 H17 => (zq_ne (zx_r hv19) zcn_0 (zq_b (zr_513 H17 ax0) (zq_b (zr_519 H17 ax0) (zq_b (zr_64 H17 (by decide)) (zq_c (zc_0 H17 (by decide)) (zq_c_v (zg_5 H17 (by decide) (by decide)) fun _ h122 s21 _ H20 => (zq_c (zc_8 H20 ax0) (zq_c_i (zg_131 H20 ax0) fun v24 h123 s23 hv24 H22 => (zq_i H22 (zx_r hv24))))))))) (zq_t H17)))))))))))))))))))))))
theorem zg_123 {A : Nat} {h : xrH} {s : zS} {x0 : Nat} {Xx1 : Int32} {x1 : Int} {Xx2 : Int32} {x2 : Int} (H : zH A h s) (ax0 : x0 < 1) (ax1 : zx Xx1 x1) (ax2 : zx Xx2 x2) : zq 0 A (xf_123 (za_8 x0) Xx1 Xx2 h) (zf_123 x0 x1 x2 s) := by
  unfold xf_123 zf_123
  exact (zq_c (zc_8 H ax0) (zq_c_v (zg_135 H ax0 ax1) fun _ h101 s2 _ H1 => (zq_c (zc_8 H1 ax0) (zq_c_i (zg_139 H1 ax0 ax1) fun v5 h102 s4 hv5 H3 => (zq_eq (zx_r hv5) zcn_0 (zq_t H3) (zq_lt ax2 zcn_0 (zq_t H3) (zq_b (zr_517 H3 ax0) (zq_c (zc_5 H3 (by decide)) (zq_c_i (zg_83 H3 (by decide) ax1) fun v8 h105 s7 hv8 H6 => (zq_le ax2 (zx_r hv8) (zq_b (zr_519 H6 ax0) (zq_b (zr_513 H6 ax0) (zq_c (zc_1 H6 (by decide)) (zq_c_v (zg_10 H6 (by decide) (by decide)) fun _ h109 s10 _ H9 => (zq_b (zr_519 H9 ax0) (zq_b (zr_517 H9 ax0) (zq_c (zc_1 H9 (by decide)) (zq_c_v (zg_11 H9 (by decide) (by decide) ax1 ax2) fun _ h112 s12 _ H11 => (zq_c (zc_8 H11 ax0) (zq_c_i (zg_140 H11 ax0) fun v15 h113 s14 hv15 H13 => (zq_i H13 (zx_r hv15)))))))))))) (zq_t H6)))))))))))
theorem zg_6_39 : ∀ (n : Nat) {A : Nat} {h : xrH} {s : zS} {x0 : Nat} {Xx1 : Int32} {x1 : Int} {Xx2 : Int32} {x2 : Int} {Xx3 : Int32} {x3 : Int} (H : zH A h s) (ax0 : x0 < 3) (ax1 : zx Xx1 x1) (ax2 : zx Xx2 x2) (ax3 : zx Xx3 x3), zq 0 A (xf_6_39 n (za_0 x0) Xx1 Xx2 Xx3 h) (zf_6_39 n x0 x1 x2 x3 s) := by
  intro n
  induction n with
  | zero =>
    intros
    exact zq_none
  | succ n ih =>
    intro A h s x0 Xx1 x1 Xx2 x2 Xx3 x3 H ax0 ax1 ax2 ax3
    rw [xf_6_39, zf_6_39]
    exact (zq_lt ax3 ax1 (zq_b (zi_1 H ax0) (zq_g fun g3 => (zq_P (zpi_1 H ax0 (zadd_x (zx_s H 1 x0 0) ax2 g3)) fun h102 s2 H1 => (zq_z H1 zc32_1)))) (zq_b (zr_0 H ax0) (zq_b (zr_0 H ax0) (zq_a (zw_0 H ax0) ax3 (zq_g fun g4 => (zq_W (fun hl => zwp_0 H ax0 (zadd_x ax3 ax2 g4) (zx_s H 0 x0 x3) hl) fun h106 s6 H5 => (zq_g fun g7 => (ih H5 ax0 ax1 ax2 (zadd_x ax3 zc32_m1 g7)))))))))
theorem zg_6 {A : Nat} {h : xrH} {s : zS} {x0 : Nat} {Xx1 : Int32} {x1 : Int} {Xx2 : Int32} {x2 : Int} (H : zH A h s) (ax0 : x0 < 3) (ax1 : zx Xx1 x1) (ax2 : zx Xx2 x2) : zq 0 A (xf_6 (za_0 x0) Xx1 Xx2 h) (zf_6 x0 x1 x2 s) := by
  unfold xf_6 zf_6
  exact (zq_lt ax1 zcn_0 (zq_z H zc32_0) (zq_b (zi_1 H ax0) (zq_gt ax1 (zx_s H 1 x0 0) (zq_z H zc32_0) (zq_lt ax2 zcn_0 (zq_z H zc32_0) (zq_b (zr_0 H ax0) (zq_b (zn_eq (zw_0 H ax0)) (zq_b (zi_1 H ax0) (zq_g fun g1 => (zq_le ax2 (zsub_x (zx_nB) (zx_s H 1 x0 0) g1) (zq_b (zi_1 H ax0) (zq_g fun g2 => (zg_6_39 xfu H ax0 ax1 ax2 (zsub_x (zx_s H 1 x0 0) zc32_1 g2)))) (zq_z H zc32_0))))))))))
theorem zg_34_5 : ∀ (n : Nat) {A : Nat} {h : xrH} {s : zS} {x0 : Nat} {Xx1 : Int32} {x1 : Int} {Xx3 : Int32} {x3 : Int} {Xx4 : Int32} {x4 : Int} (H : zH A h s) (ax0 : x0 < 2) (ax1 : zx Xx1 x1) (ax3 : zx Xx3 x3) (ax4 : zx Xx4 x4), zq 0 A (xf_34_5 n (za_3 x0) Xx1 Xx3 Xx4 h) (zf_34_5 n x0 x1 x3 x4 s) := by
  intro n
  induction n with
  | zero =>
    intros
    exact zq_none
  | succ n ih =>
    intro A h s x0 Xx1 x1 Xx3 x3 Xx4 x4 H ax0 ax1 ax3 ax4
    rw [xf_34_5, zf_34_5]
    exact (zq_ge ax4 zc16_200 (zq_z H zc32_0) (zq_c (zc_3 H ax0) (zq_c_i (zg_27 H ax0 ax3) fun v3 h101 s2 hv3 H1 => (zq_eq (zx_r hv3) zcn_0 (zq_z H1 zc32_0) (zq_ne ax3 ax1 (zq_b (zr_197 H1 ax0) (zq_a (zw_197 H1 ax0) ax3 (zq_g fun g4 => (ih H1 ax0 ax1 (zx_s H1 197 x0 x3) (zadd_x ax4 zc32_1 g4))))) (zq_z H1 zc32_1))))))
theorem zg_34 {A : Nat} {h : xrH} {s : zS} {x0 : Nat} {Xx1 : Int32} {x1 : Int} {Xx2 : Int32} {x2 : Int} (H : zH A h s) (ax0 : x0 < 2) (ax1 : zx Xx1 x1) (ax2 : zx Xx2 x2) : zq 0 A (xf_34 (za_3 x0) Xx1 Xx2 h) (zf_34 x0 x1 x2 s) := by
  unfold xf_34 zf_34
  exact (zg_34_5 xfu H ax0 ax1 ax2 zc32_0)
theorem zg_14_70 (k9 : Nat → Nat → Int32 → Int32 → Int32 → Nat → Int32 → xrH → xrR) (zk9 : Nat → Nat → Int → Int → Int → Nat → Int → zS → zR) (hk9 : ∀ {A : Nat} {h : xrH} {s : zS} {y0 : Nat} {y1 : Nat} {Xy2 : Int32} {y2 : Int} {Xy3 : Int32} {y3 : Int} {Xy4 : Int32} {y4 : Int} {y5 : Nat} {Xy6 : Int32} {y6 : Int} (H : zH A h s) (ay0 : y0 < 1) (ay1 : y1 < 2) (ay2 : zx Xy2 y2) (ay3 : zx Xy3 y3) (ay4 : zx Xy4 y4) (ay5 : y5 < 2) (ay6 : zx Xy6 y6), zq 1 A (k9 (za_1 y0) (za_5 y1) Xy2 Xy3 Xy4 (za_3 y5) Xy6 h) (zk9 y0 y1 y2 y3 y4 y5 y6 s)) {A : Nat} {h : xrH} {s : zS} {x0 : Nat} {x1 : Nat} {Xx2 : Int32} {x2 : Int} {Xx3 : Int32} {x3 : Int} {Xx4 : Int32} {x4 : Int} {x5 : Nat} {Xx6 : Int32} {x6 : Int} {Xx7 : Int32} {x7 : Int} {Xx8 : Int32} {x8 : Int} (H : zH A h s) (ax0 : x0 < 1) (ax1 : x1 < 2) (ax2 : zx Xx2 x2) (ax3 : zx Xx3 x3) (ax4 : zx Xx4 x4) (ax5 : x5 < 2) (ax6 : zx Xx6 x6) (ax7 : zx Xx7 x7) (ax8 : zx Xx8 x8) : zq 1 A (xf_14_70 k9 (za_1 x0) (za_5 x1) Xx2 Xx3 Xx4 (za_3 x5) Xx6 Xx7 Xx8 h) (zf_14_70 zk9 x0 x1 x2 x3 x4 x5 x6 x7 x8 s) := by
  unfold xf_14_70 zf_14_70
  exact (zq_ne ax7 zc8_37 (zq_g fun g1 => (hk9 H ax0 ax1 ax2 ax3 ax4 ax5 (zadd_x ax6 zc32_1 g1))) (zq_ne ax8 ax2 (zq_g fun g2 => (hk9 H ax0 ax1 ax2 ax3 ax4 ax5 (zadd_x ax6 zc32_1 g2))) (zq_b (zr_196 H ax5) (zq_a (zw_196 H ax5) ax8 (zq_c (zc_1 H ax0) (zq_g fun g3 => (zq_c_v (zg_11 H ax0 ax1 ax6 (zadd_x (zx_s H 196 x5 x8) ax4 g3)) fun _ h103 s5 _ H4 => (zq_g fun g6 => (hk9 H4 ax0 ax1 ax2 ax3 ax4 ax5 (zadd_x ax6 zc32_1 g6))))))))))
theorem zg_14_9 : ∀ (n : Nat) {A : Nat} {h : xrH} {s : zS} {x0 : Nat} {x1 : Nat} {Xx2 : Int32} {x2 : Int} {Xx3 : Int32} {x3 : Int} {Xx4 : Int32} {x4 : Int} {x5 : Nat} {Xx6 : Int32} {x6 : Int} (H : zH A h s) (ax0 : x0 < 1) (ax1 : x1 < 2) (ax2 : zx Xx2 x2) (ax3 : zx Xx3 x3) (ax4 : zx Xx4 x4) (ax5 : x5 < 2) (ax6 : zx Xx6 x6), zq 1 A (xf_14_9 n (za_1 x0) (za_5 x1) Xx2 Xx3 Xx4 (za_3 x5) Xx6 h) (zf_14_9 n x0 x1 x2 x3 x4 x5 x6 s) := by
  intro n
  induction n with
  | zero =>
    intros
    exact zq_none
  | succ n ih =>
    intro A h s x0 x1 Xx2 x2 Xx3 x3 Xx4 x4 x5 Xx6 x6 H ax0 ax1 ax2 ax3 ax4 ax5 ax6
    rw [xf_14_9, zf_14_9]
    exact (zq_b (zi_199 H ax5) (zq_ge ax6 (zx_s H 199 x5 0) (zq_v H) (zq_c (zc_5 H ax1) (zq_c_i (zg_76 H ax1 ax6) fun v3 h102 s2 hv3 H1 => (zq_c (zc_5 H1 ax1) (zq_c_i (zg_77 H1 ax1 ax6) fun v6 h104 s5 hv6 H4 => (zq_ne (zx_r hv3) zc8_35 (zg_14_70 (fun y0 y1 y2 y3 y4 y5 y6 y => (xf_14_9 n y0 y1 y2 y3 y4 y5 y6 y)) (fun y0 y1 y2 y3 y4 y5 y6 y => (zf_14_9 n y0 y1 y2 y3 y4 y5 y6 y)) (fun H ay0 ay1 ay2 ay3 ay4 ay5 ay6 => (ih H ay0 ay1 ay2 ay3 ay4 ay5 ay6)) H4 ax0 ax1 ax2 ax3 ax4 ax5 ax6 (zx_r hv3) (zx_r hv6)) (zq_c (zc_3 H4 ax5) (zq_c_i (zg_34 H4 ax5 (zx_r hv6) ax2) fun v9 h106 s8 hv9 H7 => (zq_eq (zx_r hv9) zcn_0 (zg_14_70 (fun y0 y1 y2 y3 y4 y5 y6 y => (xf_14_9 n y0 y1 y2 y3 y4 y5 y6 y)) (fun y0 y1 y2 y3 y4 y5 y6 y => (zf_14_9 n y0 y1 y2 y3 y4 y5 y6 y)) (fun H ay0 ay1 ay2 ay3 ay4 ay5 ay6 => (ih H ay0 ay1 ay2 ay3 ay4 ay5 ay6)) H7 ax0 ax1 ax2 ax3 ax4 ax5 ax6 (zx_r hv3) (zx_r hv6)) (zq_b (zr_195 H7 ax5) (zq_a (zw_195 H7 ax5) (zx_r hv6) (zq_c (zc_1 H7 ax0) (zq_g fun g10 => (zq_c_v (zg_11 H7 ax0 ax1 ax6 (zadd_x (zx_s H7 195 x5 v6) ax3 g10)) fun _ h110 s12 _ H11 => (zg_14_70 (fun y0 y1 y2 y3 y4 y5 y6 y => (xf_14_9 n y0 y1 y2 y3 y4 y5 y6 y)) (fun y0 y1 y2 y3 y4 y5 y6 y => (zf_14_9 n y0 y1 y2 y3 y4 y5 y6 y)) (fun H ay0 ay1 ay2 ay3 ay4 ay5 ay6 => (ih H ay0 ay1 ay2 ay3 ay4 ay5 ay6)) H11 ax0 ax1 ax2 ax3 ax4 ax5 ax6 (zx_r hv3) (zx_r hv6)))))))))))))))))
theorem zg_14 {A : Nat} {h : xrH} {s : zS} {x0 : Nat} {x1 : Nat} {Xx2 : Int32} {x2 : Int} {Xx3 : Int32} {x3 : Int} {Xx4 : Int32} {x4 : Int} (H : zH A h s) (ax0 : x0 < 1) (ax1 : x1 < 2) (ax2 : zx Xx2 x2) (ax3 : zx Xx3 x3) (ax4 : zx Xx4 x4) : zq 1 A (xf_14 (za_1 x0) (za_5 x1) Xx2 Xx3 Xx4 h) (zf_14 x0 x1 x2 x3 x4 s) := by
  unfold xf_14 zf_14
  exact (zq_b (zr_320 H ax1) (zg_14_9 xfu H ax0 ax1 ax2 ax3 ax4 ax1 zc32_0))
theorem zg_12_27 : ∀ (n : Nat) {A : Nat} {h : xrH} {s : zS} {x0 : Nat} {x1 : Nat} {Xx2 : Int32} {x2 : Int} {Xx3 : Int32} {x3 : Int} {Xx4 : Int32} {x4 : Int} {x5 : Nat} {Xx6 : Int32} {x6 : Int} (H : zH A h s) (ax0 : x0 < 1) (ax1 : x1 < 2) (ax2 : zx Xx2 x2) (ax3 : zx Xx3 x3) (ax4 : zx Xx4 x4) (ax5 : x5 < 2) (ax6 : zx Xx6 x6), zq 0 A (xf_12_27 n (za_1 x0) (za_5 x1) Xx2 Xx3 Xx4 (za_3 x5) Xx6 h) (zf_12_27 n x0 x1 x2 x3 x4 x5 x6 s) := by
  intro n
  induction n with
  | zero =>
    intros
    exact zq_none
  | succ n ih =>
    intro A h s x0 x1 Xx2 x2 Xx3 x3 Xx4 x4 x5 Xx6 x6 H ax0 ax1 ax2 ax3 ax4 ax5 ax6
    rw [xf_12_27, zf_12_27]
    exact (zq_b (zi_199 H ax5) (zq_ge ax6 (zx_s H 199 x5 0) (zq_c (zc_1 H ax0) (zq_c_v (zg_14 H ax0 ax1 ax2 ax4 zc32_1) fun _ h102 s2 _ H1 => (zq_b (zr_64 H1 ax0) (zq_c (zc_0 H1 (by decide)) (zq_c_i (zg_6 H1 (by decide) ax3 ax4) fun v5 h104 s4 hv5 H3 => (zq_z H3 (zx_r hv5))))))) (zq_b (zr_192 H ax5) (zq_a (zw_192 H ax5) ax6 (zq_ne (zx_s H 192 x5 x6) zc32_3 (zq_g fun g6 => (ih H ax0 ax1 ax2 ax3 ax4 ax5 (zadd_x ax6 zc32_1 g6))) (zq_b (zr_196 H ax5) (zq_a (zw_196 H ax5) ax6 (zq_lt (zx_s H 196 x5 x6) ax3 (zq_g fun g7 => (ih H ax0 ax1 ax2 ax3 ax4 ax5 (zadd_x ax6 zc32_1 g7))) (zq_b (zr_196 H ax5) (zq_a (zw_196 H ax5) ax6 (zq_g fun g8 => (zq_le (zadd_x (zx_s H 196 x5 x6) ax4 g8) zc16_255 (zq_b (zr_196 H ax5) (zq_a (zw_196 H ax5) ax6 (zq_c (zc_1 H ax0) (zq_c_v (zg_11 H ax0 ax1 ax6 (zadd_x (zx_s H 196 x5 x6) ax4 g8)) fun _ h114 s10 _ H9 => (zq_g fun g11 => (ih H9 ax0 ax1 ax2 ax3 ax4 ax5 (zadd_x ax6 zc32_1 g11))))))) (zq_z H zc32_0)))))))))))))
theorem zg_12 {A : Nat} {h : xrH} {s : zS} {x0 : Nat} {x1 : Nat} {Xx2 : Int32} {x2 : Int} {Xx3 : Int32} {x3 : Int} {Xx4 : Int32} {x4 : Int} (H : zH A h s) (ax0 : x0 < 1) (ax1 : x1 < 2) (ax2 : zx Xx2 x2) (ax3 : zx Xx3 x3) (ax4 : zx Xx4 x4) : zq 0 A (xf_12 (za_1 x0) (za_5 x1) Xx2 Xx3 Xx4 h) (zf_12 x0 x1 x2 x3 x4 s) := by
  unfold xf_12 zf_12
  exact (zq_b (zr_320 H ax1) (zq_b (zr_64 H ax0) (zq_b (zi_1 H (by decide)) (zq_g fun g1 => (zq_le (zadd_x (zx_s H 1 2 0) ax4 g1) zc16_160 (zg_12_27 xfu H ax0 ax1 ax2 ax3 ax4 ax1 zc32_0) (zq_z H zc32_0))))))
theorem zg_85 {A : Nat} {h : xrH} {s : zS} {x0 : Nat} {Xx1 : Int32} {x1 : Int} (H : zH A h s) (ax0 : x0 < 2) (ax1 : zx Xx1 x1) : zq 0 A (xf_85 (za_5 x0) Xx1 h) (zf_85 x0 x1 s) := by
  unfold xf_85 zf_85
  exact (zq_c (zc_5 H ax0) (zq_c_i (zg_81 H ax0 ax1) fun v3 h101 s2 hv3 H1 => (zq_ne (zx_r hv3) zc8_122 (zq_z H1 zc32_0) (zq_z H1 zc32_1))))
theorem zg_86 {A : Nat} {h : xrH} {s : zS} {x0 : Nat} {Xx1 : Int32} {x1 : Int} (H : zH A h s) (ax0 : x0 < 2) (ax1 : zx Xx1 x1) : zq 0 A (xf_86 (za_5 x0) Xx1 h) (zf_86 x0 x1 s) := by
  unfold xf_86 zf_86
  exact (zq_b (zr_320 H ax0) (zq_c (zc_3 H ax0) (zq_c_i (zg_27 H ax0 ax1) fun v3 h102 s2 hv3 H1 => (zq_eq (zx_r hv3) zcn_0 (zq_i H1 zc32_m1) (zq_b (zr_320 H1 ax0) (zq_b (zr_192 H1 ax0) (zq_a (zw_192 H1 ax0) ax1 (zq_eq (zx_s H1 192 x0 x1) zc32_5 (zq_c (zc_5 H1 ax0) (zq_c_i (zg_85 H1 ax0 ax1) fun v6 h107 s5 hv6 H4 => (zq_eq (zx_r hv6) zcn_0 (zq_b (zr_320 H4 ax0) (zq_b (zr_195 H4 ax0) (zq_a (zw_195 H4 ax0) ax1 (zq_i H4 (zx_s H4 195 x0 x1))))) (zq_b (zr_320 H4 ax0) (zq_b (zr_195 H4 ax0) (zq_a (zw_195 H4 ax0) ax1 (zq_g fun g7 => (zq_i H4 (zsub_x (zx_s H4 195 x0 x1) zc32_1 g7))))))))) (zq_i H1 zc32_m1)))))))))
theorem zg_137 {A : Nat} {h : xrH} {s : zS} {x0 : Nat} {Xx1 : Int32} {x1 : Int} {Xx2 : Int32} {x2 : Int} (H : zH A h s) (ax0 : x0 < 1) (ax1 : zx Xx1 x1) (ax2 : zx Xx2 x2) : zq 1 A (xf_137 (za_8 x0) Xx1 Xx2 h) (zf_137 x0 x1 x2 s) := by
  unfold xf_137 zf_137
  exact (zq_lt ax1 zcn_0 (zq_t H) (zq_le ax1 ax2 (zq_v H) (zq_t H)))
theorem zg_138 {A : Nat} {h : xrH} {s : zS} {x0 : Nat} {Xx1 : Int32} {x1 : Int} (H : zH A h s) (ax0 : x0 < 1) (ax1 : zx Xx1 x1) : zq 1 A (xf_138 (za_8 x0) Xx1 h) (zf_138 x0 x1 s) := by
  unfold xf_138 zf_138
  exact (zq_ne ax1 zcn_0 (zq_v H) (zq_t H))
theorem zg_124_65 {A : Nat} {h : xrH} {s : zS} {x0 : Nat} {Xx1 : Int32} {x1 : Int} {Xx2 : Int32} {x2 : Int} {Xx3 : Int32} {x3 : Int} (H : zH A h s) (ax0 : x0 < 1) (ax1 : zx Xx1 x1) (ax2 : zx Xx2 x2) (ax3 : zx Xx3 x3) : zq 0 A (xf_124_65 (za_8 x0) Xx1 Xx2 Xx3 h) (zf_124_65 x0 x1 x2 x3 s) := by
  unfold xf_124_65 zf_124_65
  exact (zq_b (zr_517 H ax0) (zq_b (zr_320 H (by decide)) (zq_b (zr_194 H (by decide)) (zq_a (zw_194 H (by decide)) ax1 (zq_b (zr_519 H ax0) (zq_b (zr_513 H ax0) (zq_c (zc_1 H (by decide)) (zq_c_v (zg_10 H (by decide) (by decide)) fun _ h107 s2 _ H1 => (zq_b (zr_519 H1 ax0) (zq_b (zr_517 H1 ax0) (zq_c (zc_1 H1 (by decide)) (zq_g fun g3 => (zq_c_i (zg_12 H1 (by decide) (by decide) ax1 (zadd_x (zx_s H 194 0 x1) ax2 g3) zc32_1) fun v6 h110 s5 hv6 H4 => (zq_b (zr_519 H4 ax0) (zq_b (zr_64 H4 (by decide)) (zq_c (zc_0 H4 (by decide)) (zq_c_v (zg_3 H4 (by decide) (zadd_x (zx_s H 194 0 x1) ax2 g3) ax3) fun _ h114 s8 _ H7 => (zq_c (zc_8 H7 ax0) (zq_c_v (zg_138 H7 ax0 (zx_r hv6)) fun _ h115 s10 _ H9 => (zq_c (zc_8 H9 ax0) (zq_c_i (zg_140 H9 ax0) fun v13 h116 s12 hv13 H11 => (zq_i H11 (zx_r hv13)))))))))))))))))))))))
theorem zg_124 {A : Nat} {h : xrH} {s : zS} {x0 : Nat} {Xx1 : Int32} {x1 : Int} {Xx2 : Int32} {x2 : Int} {Xx3 : Int32} {x3 : Int} (H : zH A h s) (ax0 : x0 < 1) (ax1 : zx Xx1 x1) (ax2 : zx Xx2 x2) (ax3 : zx Xx3 x3) : zq 0 A (xf_124 (za_8 x0) Xx1 Xx2 Xx3 h) (zf_124 x0 x1 x2 x3 s) := by
  unfold xf_124 zf_124
  exact (zq_c (zc_8 H ax0) (zq_c_v (zg_135 H ax0 ax1) fun _ h101 s2 _ H1 => (zq_lt ax3 zcn_0 (zq_t H1) (zq_le ax3 zc16_255 (zq_b (zr_517 H1 ax0) (zq_c (zc_5 H1 (by decide)) (zq_c_i (zg_86 H1 (by decide) ax1) fun v5 h103 s4 hv5 H3 => (zq_c (zc_8 H3 ax0) (zq_c_v (zg_137 H3 ax0 ax2 (zx_r hv5)) fun _ h105 s7 _ H6 => (zq_ne ax3 zcn_0 (zg_124_65 H6 ax0 ax1 ax2 ax3) (zq_b (zr_517 H6 ax0) (zq_c (zc_5 H6 (by decide)) (zq_c_i (zg_85 H6 (by decide) ax1) fun v10 h107 s9 hv10 H8 => (zq_eq (zx_r hv10) zcn_0 (zg_124_65 H8 ax0 ax1 ax2 ax3) (zq_t H8))))))))))) (zq_t H1)))))
theorem zg_7_23 : ∀ (n : Nat) {A : Nat} {h : xrH} {s : zS} {x0 : Nat} {Xx2 : Int32} {x2 : Int} {Xx3 : Int32} {x3 : Int} (H : zH A h s) (ax0 : x0 < 3) (ax2 : zx Xx2 x2) (ax3 : zx Xx3 x3), zq 1 A (xf_7_23 n (za_0 x0) Xx2 Xx3 h) (zf_7_23 n x0 x2 x3 s) := by
  intro n
  induction n with
  | zero =>
    intros
    exact zq_none
  | succ n ih =>
    intro A h s x0 Xx2 x2 Xx3 x3 H ax0 ax2 ax3
    rw [xf_7_23, zf_7_23]
    exact (zq_b (zi_1 H ax0) (zq_ge ax3 (zx_s H 1 x0 0) (zq_b (zi_1 H ax0) (zq_g fun g3 => (zq_P (zpi_1 H ax0 (zsub_x (zx_s H 1 x0 0) ax2 g3)) fun h103 s2 H1 => (zq_v H1)))) (zq_b (zr_0 H ax0) (zq_b (zr_0 H ax0) (zq_a (zw_0 H ax0) ax3 (zq_g fun g4 => (zq_W (fun hl => zwp_0 H ax0 (zsub_x ax3 ax2 g4) (zx_s H 0 x0 x3) hl) fun h107 s6 H5 => (zq_g fun g7 => (ih H5 ax0 ax2 (zadd_x ax3 zc32_1 g7))))))))))
theorem zg_7 {A : Nat} {h : xrH} {s : zS} {x0 : Nat} {Xx1 : Int32} {x1 : Int} {Xx2 : Int32} {x2 : Int} (H : zH A h s) (ax0 : x0 < 3) (ax1 : zx Xx1 x1) (ax2 : zx Xx2 x2) : zq 1 A (xf_7 (za_0 x0) Xx1 Xx2 h) (zf_7 x0 x1 x2 s) := by
  unfold xf_7 zf_7
  exact (zq_lt ax1 zcn_0 (zq_v H) (zq_lt ax2 zcn_0 (zq_v H) (zq_b (zi_1 H ax0) (zq_g fun g1 => (zq_le ax2 (zsub_x (zx_s H 1 x0 0) ax1 g1) (zq_g fun g2 => (zg_7_23 xfu H ax0 ax2 (zadd_x ax1 ax2 g2))) (zq_v H))))))
theorem zg_22 {A : Nat} {h : xrH} {s : zS} {Xx0 : Int32} {x0 : Int} {Xx1 : Int32} {x1 : Int} (H : zH A h s) (ax0 : zx Xx0 x0) (ax1 : zx Xx1 x1) : zq 0 A (xf_22 Xx0 Xx1 h) (zf_22 x0 x1 s) := by
  unfold xf_22 zf_22
  exact (zq_lt ax0 ax1 (zq_i H ax1) (zq_i H ax0))
theorem zg_13_9 : ∀ (n : Nat) {A : Nat} {h : xrH} {s : zS} {x0 : Nat} {x1 : Nat} {Xx2 : Int32} {x2 : Int} {Xx3 : Int32} {x3 : Int} {Xx4 : Int32} {x4 : Int} {x5 : Nat} {Xx6 : Int32} {x6 : Int} (H : zH A h s) (ax0 : x0 < 1) (ax1 : x1 < 2) (ax2 : zx Xx2 x2) (ax3 : zx Xx3 x3) (ax4 : zx Xx4 x4) (ax5 : x5 < 2) (ax6 : zx Xx6 x6), zq 1 A (xf_13_9 n (za_1 x0) (za_5 x1) Xx2 Xx3 Xx4 (za_3 x5) Xx6 h) (zf_13_9 n x0 x1 x2 x3 x4 x5 x6 s) := by
  intro n
  induction n with
  | zero =>
    intros
    exact zq_none
  | succ n ih =>
    intro A h s x0 x1 Xx2 x2 Xx3 x3 Xx4 x4 x5 Xx6 x6 H ax0 ax1 ax2 ax3 ax4 ax5 ax6
    rw [xf_13_9, zf_13_9]
    exact (zq_b (zi_199 H ax5) (zq_ge ax6 (zx_s H 199 x5 0) (zq_c (zc_1 H ax0) (zq_g fun g1 => (zq_c_v (zg_14 H ax0 ax1 ax2 (zneg_x ax4 g1) zc32_m1) fun _ h102 s3 _ H2 => (zq_b (zr_64 H2 ax0) (zq_c (zc_0 H2 (by decide)) (zq_c_v (zg_7 H2 (by decide) ax3 ax4) fun _ h104 s5 _ H4 => (zq_v H4))))))) (zq_b (zr_192 H ax5) (zq_a (zw_192 H ax5) ax6 (zq_ne (zx_s H 192 x5 x6) zc32_3 (zq_g fun g6 => (ih H ax0 ax1 ax2 ax3 ax4 ax5 (zadd_x ax6 zc32_1 g6))) (zq_b (zr_196 H ax5) (zq_a (zw_196 H ax5) ax6 (zq_le (zx_s H 196 x5 x6) ax3 (zq_g fun g7 => (ih H ax0 ax1 ax2 ax3 ax4 ax5 (zadd_x ax6 zc32_1 g7))) (zq_b (zr_196 H ax5) (zq_a (zw_196 H ax5) ax6 (zq_g fun g8 => (zq_c_i (zg_22 H (zsub_x (zx_s H 196 x5 x6) ax4 g8) ax3) fun v11 h111 s10 hv11 H9 => (zq_c (zc_1 H9 ax0) (zq_c_v (zg_11 H9 ax0 ax1 ax6 (zx_r hv11)) fun _ h113 s13 _ H12 => (zq_g fun g14 => (ih H12 ax0 ax1 ax2 ax3 ax4 ax5 (zadd_x ax6 zc32_1 g14)))))))))))))))))
theorem zg_13 {A : Nat} {h : xrH} {s : zS} {x0 : Nat} {x1 : Nat} {Xx2 : Int32} {x2 : Int} {Xx3 : Int32} {x3 : Int} {Xx4 : Int32} {x4 : Int} (H : zH A h s) (ax0 : x0 < 1) (ax1 : x1 < 2) (ax2 : zx Xx2 x2) (ax3 : zx Xx3 x3) (ax4 : zx Xx4 x4) : zq 1 A (xf_13 (za_1 x0) (za_5 x1) Xx2 Xx3 Xx4 h) (zf_13 x0 x1 x2 x3 x4 s) := by
  unfold xf_13 zf_13
  exact (zq_b (zr_320 H ax1) (zg_13_9 xfu H ax0 ax1 ax2 ax3 ax4 ax1 zc32_0))
theorem zg_125 {A : Nat} {h : xrH} {s : zS} {x0 : Nat} {Xx1 : Int32} {x1 : Int} {Xx2 : Int32} {x2 : Int} (H : zH A h s) (ax0 : x0 < 1) (ax1 : zx Xx1 x1) (ax2 : zx Xx2 x2) : zq 0 A (xf_125 (za_8 x0) Xx1 Xx2 h) (zf_125 x0 x1 x2 s) := by
  unfold xf_125 zf_125
  exact (zq_c (zc_8 H ax0) (zq_c_v (zg_135 H ax0 ax1) fun _ h101 s2 _ H1 => (zq_b (zr_517 H1 ax0) (zq_c (zc_5 H1 (by decide)) (zq_c_i (zg_86 H1 (by decide) ax1) fun v5 h103 s4 hv5 H3 => (zq_c (zc_8 H3 ax0) (zq_g fun g6 => (zq_c_v (zg_137 H3 ax0 ax2 (zsub_x (zx_r hv5) zc32_1 g6)) fun _ h105 s8 _ H7 => (zq_b (zr_519 H7 ax0) (zq_b (zr_513 H7 ax0) (zq_c (zc_1 H7 (by decide)) (zq_c_v (zg_10 H7 (by decide) (by decide)) fun _ h108 s10 _ H9 => (zq_b (zr_519 H9 ax0) (zq_b (zr_517 H9 ax0) (zq_b (zr_517 H9 ax0) (zq_b (zr_320 H9 (by decide)) (zq_b (zr_194 H9 (by decide)) (zq_a (zw_194 H9 (by decide)) ax1 (zq_c (zc_1 H9 (by decide)) (zq_g fun g11 => (zq_c_v (zg_13 H9 (by decide) (by decide) ax1 (zadd_x (zx_s H9 194 0 x1) ax2 g11) zc32_1) fun _ h115 s13 _ H12 => (zq_c (zc_8 H12 ax0) (zq_c_i (zg_140 H12 ax0) fun v16 h116 s15 hv16 H14 => (zq_i H14 (zx_r hv16)))))))))))))))))))))))))
theorem zg_8_2 : ∀ (n : Nat) {A : Nat} {h : xrH} {s : zS} {x0 : Nat} {Xx1 : Int32} {x1 : Int} {Xx2 : Int32} {x2 : Int} {Xx3 : Int32} {x3 : Int} (H : zH A h s) (ax0 : x0 < 3) (ax1 : zx Xx1 x1) (ax2 : zx Xx2 x2) (ax3 : zx Xx3 x3), zq 1 A (xf_8_2 n (za_0 x0) Xx1 Xx2 Xx3 h) (zf_8_2 n x0 x1 x2 x3 s) := by
  intro n
  induction n with
  | zero =>
    intros
    exact zq_none
  | succ n ih =>
    intro A h s x0 Xx1 x1 Xx2 x2 Xx3 x3 H ax0 ax1 ax2 ax3
    rw [xf_8_2, zf_8_2]
    exact (zq_g fun g1 => (zq_ge ax3 (zadd_x ax1 ax2 g1) (zq_v H) (zq_c (zc_0 H ax0) (zq_c_i (zg_2 H ax0 ax3) fun v4 h101 s3 hv4 H2 => (zq_c (zc_0 H2 ax0) (zq_g fun g5 => (zq_c_v (zg_3 H2 ax0 (zadd_x ax3 ax2 g5) (zx_r hv4)) fun _ h103 s7 _ H6 => (zq_g fun g8 => (ih H6 ax0 ax1 ax2 (zadd_x ax3 zc32_1 g8))))))))))
theorem zg_8 {A : Nat} {h : xrH} {s : zS} {x0 : Nat} {Xx1 : Int32} {x1 : Int} {Xx2 : Int32} {x2 : Int} (H : zH A h s) (ax0 : x0 < 3) (ax1 : zx Xx1 x1) (ax2 : zx Xx2 x2) : zq 1 A (xf_8 (za_0 x0) Xx1 Xx2 h) (zf_8 x0 x1 x2 s) := by
  unfold xf_8 zf_8
  exact (zg_8_2 xfu H ax0 ax1 ax2 ax1)
theorem zg_33_31 : ∀ (n : Nat) {A : Nat} {h : xrH} {s : zS} {x0 : Nat} {Xx1 : Int32} {x1 : Int} {Xx3 : Int32} {x3 : Int} {Xx4 : Int32} {x4 : Int} (H : zH A h s) (ax0 : x0 < 2) (ax1 : zx Xx1 x1) (ax3 : zx Xx3 x3) (ax4 : zx Xx4 x4), zq 0 A (xf_33_31 n (za_3 x0) Xx1 Xx3 Xx4 h) (zf_33_31 n x0 x1 x3 x4 s) := by
  intro n
  induction n with
  | zero =>
    intros
    exact zq_none
  | succ n ih =>
    intro A h s x0 Xx1 x1 Xx3 x3 Xx4 x4 H ax0 ax1 ax3 ax4
    rw [xf_33_31, zf_33_31]
    exact (zq_b (zi_199 H ax0) (zq_ge ax4 (zx_s H 199 x0 0) (zq_i H zc32_m1) (zq_b (zr_197 H ax0) (zq_a (zw_197 H ax0) ax4 (zq_ne (zx_s H 197 x0 x4) ax1 (zq_g fun g1 => (ih H ax0 ax1 ax3 (zadd_x ax4 zc32_1 g1))) (zq_ne ax3 zcn_0 (zq_g fun g2 => (zq_g fun g3 => (ih H ax0 ax1 (zadd_x ax3 zc32_m1 g2) (zadd_x ax4 zc32_1 g3)))) (zq_i H ax4)))))))
theorem zg_33 {A : Nat} {h : xrH} {s : zS} {x0 : Nat} {Xx1 : Int32} {x1 : Int} {Xx2 : Int32} {x2 : Int} (H : zH A h s) (ax0 : x0 < 2) (ax1 : zx Xx1 x1) (ax2 : zx Xx2 x2) : zq 0 A (xf_33 (za_3 x0) Xx1 Xx2 h) (zf_33 x0 x1 x2 s) := by
  unfold xf_33 zf_33
  exact (zq_c (zc_3 H ax0) (zq_c_i (zg_27 H ax0 ax1) fun v3 h101 s2 hv3 H1 => (zq_eq (zx_r hv3) zcn_0 (zq_i H1 zc32_m1) (zq_b (zr_192 H1 ax0) (zq_a (zw_192 H1 ax0) ax1 (zq_ne (zx_s H1 192 x0 x1) zc32_1 (zq_i H1 zc32_m1) (zq_ge ax2 zcn_0 (zq_g fun g4 => (zg_33_31 xfu H1 ax0 ax1 ax2 (zadd_x ax1 zc32_1 g4))) (zq_i H1 zc32_m1))))))))
theorem zg_126_139 {A : Nat} {h : xrH} {s : zS} {x0 : Nat} (H : zH A h s) (ax0 : x0 < 1) : zq 0 A (xf_126_139 (za_8 x0) h) (zf_126_139 x0 s) := by
  unfold xf_126_139 zf_126_139
  exact (zq_c (zc_8 H ax0) (zq_c_i (zg_140 H ax0) fun v3 h101 s2 hv3 H1 => (zq_i H1 (zx_r hv3))))
theorem zg_126_31 {A : Nat} {h : xrH} {s : zS} {x0 : Nat} {Xx1 : Int32} {x1 : Int} {Xx3 : Int32} {x3 : Int} {Xx4 : Int32} {x4 : Int} {s0 : Nat} {Xs1 : Int32} {s1 : Int} (H : zH A h s) (ax0 : x0 < 1) (ax1 : zx Xx1 x1) (ax3 : zx Xx3 x3) (ax4 : zx Xx4 x4) (as0 : s0 < 1) (as1 : zx Xs1 s1) : zq 0 A (xf_126_31 (za_8 x0) Xx1 Xx3 Xx4 (za_8 s0) Xs1 h) (zf_126_31 x0 x1 x3 x4 s0 s1 s) := by
  unfold xf_126_31 zf_126_31
  exact (zq_c (zc_8 H as0) (zq_c_v (zg_138 H as0 as1) fun _ h101 s2 _ H1 => (zq_b (zr_517 H1 ax0) (zq_b (zr_320 H1 (by decide)) (zq_b (zr_194 H1 (by decide)) (zq_a (zw_194 H1 (by decide)) ax4 (zq_b (zr_517 H1 ax0) (zq_b (zr_320 H1 (by decide)) (zq_b (zr_195 H1 (by decide)) (zq_a (zw_195 H1 (by decide)) ax4 (zq_b (zr_519 H1 ax0) (zq_b (zr_513 H1 ax0) (zq_c (zc_1 H1 (by decide)) (zq_c_v (zg_10 H1 (by decide) (by decide)) fun _ h112 s4 _ H3 => (zq_eq ax3 zcn_0 (zq_b (zr_519 H3 ax0) (zq_b (zr_517 H3 ax0) (zq_c (zc_1 H3 (by decide)) (zq_c_v (zg_13 H3 (by decide) (by decide) ax1 (zx_s H1 194 0 x4) (zx_s H1 195 0 x4)) fun _ h115 s6 _ H5 => (zg_126_139 H5 ax0))))) (zq_b (zr_519 H3 ax0) (zq_b (zr_517 H3 ax0) (zq_c (zc_1 H3 (by decide)) (zq_g fun g7 => (zq_c_i (zg_12 H3 (by decide) (by decide) ax1 (zadd_x (zx_s H1 194 0 x4) (zx_s H1 195 0 x4) g7) (zx_s H1 195 0 x4)) fun v10 h118 s9 hv10 H8 => (zq_c (zc_8 H8 ax0) (zq_c_v (zg_138 H8 ax0 (zx_r hv10)) fun _ h120 s12 _ H11 => (zq_b (zr_519 H11 ax0) (zq_b (zr_64 H11 (by decide)) (zq_c (zc_0 H11 (by decide)) (zq_c_v (zg_8 H11 (by decide) (zx_s H1 194 0 x4) (zx_s H1 195 0 x4)) fun _ h123 s14 _ H13 => (zg_126_139 H13 ax0)))))))))))))))))))))))))))
theorem zg_126 {A : Nat} {h : xrH} {s : zS} {x0 : Nat} {Xx1 : Int32} {x1 : Int} {Xx2 : Int32} {x2 : Int} {Xx3 : Int32} {x3 : Int} (H : zH A h s) (ax0 : x0 < 1) (ax1 : zx Xx1 x1) (ax2 : zx Xx2 x2) (ax3 : zx Xx3 x3) : zq 0 A (xf_126 (za_8 x0) Xx1 Xx2 Xx3 h) (zf_126 x0 x1 x2 x3 s) := by
  unfold xf_126 zf_126
  exact (zq_c (zc_8 H ax0) (zq_c_v (zg_135 H ax0 ax1) fun _ h101 s2 _ H1 => (zq_b (zr_517 H1 ax0) (zq_b (zr_320 H1 (by decide)) (zq_c (zc_3 H1 (by decide)) (zq_c_i (zg_33 H1 (by decide) ax1 ax2) fun v5 h104 s4 hv5 H3 => (zq_eq (zx_r hv5) zc32_m1 (zg_126_31 H3 ax0 ax1 ax3 (zx_r hv5) ax0 zc32_0) (zg_126_31 H3 ax0 ax1 ax3 (zx_r hv5) ax0 zc32_1))))))))
theorem zg_127 {A : Nat} {h : xrH} {s : zS} {x0 : Nat} (H : zH A h s) (ax0 : x0 < 1) : zq 0 A (xf_127 (za_8 x0) h) (zf_127 x0 s) := by
  unfold xf_127 zf_127
  exact (zq_c (zc_8 H ax0) (zq_c_v (zg_133 H ax0) fun _ h101 s2 _ H1 => (zq_b (zr_519 H1 ax0) (zq_b (zr_513 H1 ax0) (zq_c (zc_1 H1 (by decide)) (zq_c_v (zg_10 H1 (by decide) (by decide)) fun _ h104 s4 _ H3 => (zq_c (zc_8 H3 ax0) (zq_c_i (zg_140 H3 ax0) fun v7 h105 s6 hv7 H5 => (zq_i H5 (zx_r hv7))))))))))
theorem zg_91_48 {A : Nat} {h : xrH} {s : zS} {s0 : Nat} {Xs1 : Int32} {s1 : Int} {Xs2 : Int32} {s2 : Int} {Xs3 : Int32} {s3 : Int} (H : zH A h s) (as0 : s0 < 1) (as1 : zx Xs1 s1) (as2 : zx Xs2 s2) (as3 : zx Xs3 s3) : zq 0 A (xf_91_48 (za_8 s0) Xs1 Xs2 Xs3 h) (zf_91_48 s0 s1 s2 s3 s) := by
  unfold xf_91_48 zf_91_48
  exact (zq_c (zc_8 H as0) (zq_ch (zg_126 H as0 as1 as2 as3) (fun v3 h101 s2 hv3 H1 => (zq_i H1 (zx_r hv3))) fun e h103 s5 H4 => match e with | 0 => (zq_ex H4) | 1 => (zq_i H4 zc16_m1003) | 2 => (zq_i H4 zc16_m1001) | e + 3 => (zq_ex H4)))
theorem zg_91 {A : Nat} {h : xrH} {s : zS} {x0 : Nat} {Xx1 : Int32} {x1 : Int} {Xx2 : Int32} {x2 : Int} {Xx3 : Int32} {x3 : Int} {Xx4 : Int32} {x4 : Int} (H : zH A h s) (ax0 : x0 < 1) (ax1 : zx Xx1 x1) (ax2 : zx Xx2 x2) (ax3 : zx Xx3 x3) (ax4 : zx Xx4 x4) : zq 0 A (xf_91 (za_8 x0) Xx1 Xx2 Xx3 Xx4 h) (zf_91 x0 x1 x2 x3 x4 s) := by
  unfold xf_91 zf_91
  exact (zq_ne ax1 zcn_0 (zq_ne ax1 zc32_1 (zq_ne ax1 zc32_2 (zq_ne ax1 zc32_3 (zq_c (zc_8 H ax0) (zq_ch (zg_127 H ax0) (fun v3 h101 s2 hv3 H1 => (zq_i H1 (zx_r hv3))) fun e h103 s5 H4 => match e with | 0 => (zq_ex H4) | 1 => (zq_i H4 zc16_m1003) | 2 => (zq_i H4 zc16_m1001) | e + 3 => (zq_ex H4))) (zq_c (zc_8 H ax0) (zq_ch (zg_123 H ax0 ax2 ax3) (fun v8 h104 s7 hv8 H6 => (zq_i H6 (zx_r hv8))) fun e h106 s10 H9 => match e with | 0 => (zq_ex H9) | 1 => (zq_i H9 zc16_m1003) | 2 => (zq_i H9 zc16_m1001) | e + 3 => (zq_ex H9)))) (zq_ne ax4 zc32_1 (zg_91_48 H ax0 ax2 ax3 zc32_0) (zg_91_48 H ax0 ax2 ax3 zc32_1))) (zq_c (zc_8 H ax0) (zq_ch (zg_125 H ax0 ax2 ax3) (fun v13 h107 s12 hv13 H11 => (zq_i H11 (zx_r hv13))) fun e h109 s15 H14 => match e with | 0 => (zq_ex H14) | 1 => (zq_i H14 zc16_m1003) | 2 => (zq_i H14 zc16_m1001) | e + 3 => (zq_ex H14)))) (zq_c (zc_8 H ax0) (zq_ch (zg_124 H ax0 ax2 ax3 ax4) (fun v18 h110 s17 hv18 H16 => (zq_i H16 (zx_r hv18))) fun e h112 s20 H19 => match e with | 0 => (zq_ex H19) | 1 => (zq_i H19 zc16_m1003) | 2 => (zq_i H19 zc16_m1001) | e + 3 => (zq_ex H19))))
theorem zg_4 {A : Nat} {h : xrH} {s : zS} {x0 : Nat} {Xx1 : Int32} {x1 : Int} (H : zH A h s) (ax0 : x0 < 3) (ax1 : zx Xx1 x1) : zq 1 A (xf_4 (za_0 x0) Xx1 h) (zf_4 x0 x1 s) := by
  unfold xf_4 zf_4
  exact (zq_b (zi_1 H ax0) (zq_b (zr_0 H ax0) (zq_b (zn_eq (zw_0 H ax0)) (zq_ge (zx_s H 1 x0 0) (zx_nB) (zq_v H) (zq_b (zr_0 H ax0) (zq_b (zi_1 H ax0) (zq_W (fun hl => zwp_0 H ax0 (zx_s H 1 x0 0) ax1 hl) fun h106 s2 H1 => (zq_b (zi_1 H1 ax0) (zq_g fun g5 => (zq_P (zpi_1 H1 ax0 (zadd_x (zx_s H1 1 x0 0) zc32_1 g5)) fun h108 s4 H3 => (zq_v H3)))))))))))
theorem zg_105_49 : ∀ (n : Nat) {A : Nat} {h : xrH} {s : zS} {x0 : Nat} {Xx1 x1 : Int64} {Xx3 : Int32} {x3 : Int} {Xx4 : Int32} {x4 : Int} (H : zH A h s) (ax0 : x0 < 1) (ax1 : Xx1 = x1) (ax3 : zx Xx3 x3) (ax4 : zx Xx4 x4), zq 0 A (xf_105_49 n (za_8 x0) Xx1 Xx3 Xx4 h) (zf_105_49 n x0 x1 x3 x4 s) := by
  intro n
  induction n with
  | zero =>
    intros
    exact zq_none
  | succ n ih =>
    intro A h s x0 Xx1 x1 Xx3 x3 Xx4 x4 H ax0 ax1 ax3 ax4
    rw [xf_105_49, zf_105_49]
    exact (zq_ge ax4 ax3 (zq_b (zr_512 H ax0) (zq_b (zi_1 H (by decide)) (zq_i H (zx_s H 1 0 0)))) (zq_b (zr_512 H ax0) (zq_c (zc_0 H (by decide)) (zq_g fun g1 => (zq_c_v (zg_4 H (by decide) (zand_x (zx_l2i (ly_ushr ax1 (zmul_x zc8_8 ax4 g1))) zc16_255)) fun _ h104 s3 _ H2 => (zq_g fun g4 => (ih H2 ax0 ax1 ax3 (zadd_x ax4 zc32_1 g4))))))))
theorem zg_105 {A : Nat} {h : xrH} {s : zS} {x0 : Nat} {Xx1 x1 : Int64} {Xx3 : Int32} {x3 : Int} (H : zH A h s) (ax0 : x0 < 1) (ax1 : Xx1 = x1) (ax3 : zx Xx3 x3) : zq 0 A (xf_105 (za_8 x0) Xx1 Xx3 h) (zf_105 x0 x1 x3 s) := by
  unfold xf_105 zf_105
  exact (zq_lt ax3 zc32_1 (zq_t H) (zq_le ax3 zc8_8 (zq_b (zr_512 H ax0) (zq_b (zi_1 H (by decide)) (zq_g fun g1 => (zq_le (zadd_x (zx_s H 1 0 0) ax3 g1) zc16_200 (zg_105_49 xfu H ax0 ax1 ax3 zc32_0) (zq_t H))))) (zq_t H)))
theorem zg_92_86 (k3 : Nat → Int32 → Int32 → Int32 → Int32 → Int32 → Int32 → Int32 → Int32 → Int32 → xrH → xrR) (zk3 : Nat → Int → Int → Int → Int → Int → Int → Int → Int → Int → zS → zR) (hk3 : ∀ {A : Nat} {h : xrH} {s : zS} {y0 : Nat} {Xy1 : Int32} {y1 : Int} {Xy2 : Int32} {y2 : Int} {Xy3 : Int32} {y3 : Int} {Xy4 : Int32} {y4 : Int} {Xy5 : Int32} {y5 : Int} {Xy6 : Int32} {y6 : Int} {Xy7 : Int32} {y7 : Int} {Xy8 : Int32} {y8 : Int} {Xy9 : Int32} {y9 : Int} (H : zH A h s) (ay0 : y0 < 1) (ay1 : zx Xy1 y1) (ay2 : zx Xy2 y2) (ay3 : zx Xy3 y3) (ay4 : zx Xy4 y4) (ay5 : zx Xy5 y5) (ay6 : zx Xy6 y6) (ay7 : zx Xy7 y7) (ay8 : zx Xy8 y8) (ay9 : zx Xy9 y9), zq 1 A (k3 (za_8 y0) Xy1 Xy2 Xy3 Xy4 Xy5 Xy6 Xy7 Xy8 Xy9 h) (zk3 y0 y1 y2 y3 y4 y5 y6 y7 y8 y9 s)) {A : Nat} {h : xrH} {s : zS} {x0 : Nat} {Xx1 : Int32} {x1 : Int} {Xx2 : Int32} {x2 : Int} {Xx3 : Int32} {x3 : Int} {Xx4 : Int32} {x4 : Int} {Xx5 : Int32} {x5 : Int} {Xx6 : Int32} {x6 : Int} {Xx7 : Int32} {x7 : Int} {Xx8 : Int32} {x8 : Int} {Xx9 : Int32} {x9 : Int} {Xs0 : Int32} {s0 : Int} (H : zH A h s) (ax0 : x0 < 1) (ax1 : zx Xx1 x1) (ax2 : zx Xx2 x2) (ax3 : zx Xx3 x3) (ax4 : zx Xx4 x4) (ax5 : zx Xx5 x5) (ax6 : zx Xx6 x6) (ax7 : zx Xx7 x7) (ax8 : zx Xx8 x8) (ax9 : zx Xx9 x9) (as0 : zx Xs0 s0) : zq 1 A (xf_92_86 k3 (za_8 x0) Xx1 Xx2 Xx3 Xx4 Xx5 Xx6 Xx7 Xx8 Xx9 Xs0 h) (zf_92_86 zk3 x0 x1 x2 x3 x4 x5 x6 x7 x8 x9 s0 s) := by
  unfold xf_92_86 zf_92_86
  exact (zq_le as0 zcn_0 (zq_g fun g1 => (hk3 H ax0 ax1 ax2 ax3 ax4 ax5 ax6 ax7 ax8 (zadd_x ax9 zc32_1 g1))) (zq_c (zc_8 H ax0) (zq_c_i (zg_105 H ax0 (ly_i as0) zc32_1) fun v4 h101 s3 hv4 H2 => (zq_g fun g5 => (hk3 H2 ax0 ax1 ax2 ax3 ax4 ax5 ax6 ax7 ax8 (zadd_x ax9 zc32_1 g5))))))
theorem zg_92_3 : ∀ (n : Nat) {A : Nat} {h : xrH} {s : zS} {x0 : Nat} {Xx1 : Int32} {x1 : Int} {Xx2 : Int32} {x2 : Int} {Xx3 : Int32} {x3 : Int} {Xx4 : Int32} {x4 : Int} {Xx5 : Int32} {x5 : Int} {Xx6 : Int32} {x6 : Int} {Xx7 : Int32} {x7 : Int} {Xx8 : Int32} {x8 : Int} {Xx9 : Int32} {x9 : Int} (H : zH A h s) (ax0 : x0 < 1) (ax1 : zx Xx1 x1) (ax2 : zx Xx2 x2) (ax3 : zx Xx3 x3) (ax4 : zx Xx4 x4) (ax5 : zx Xx5 x5) (ax6 : zx Xx6 x6) (ax7 : zx Xx7 x7) (ax8 : zx Xx8 x8) (ax9 : zx Xx9 x9), zq 1 A (xf_92_3 n (za_8 x0) Xx1 Xx2 Xx3 Xx4 Xx5 Xx6 Xx7 Xx8 Xx9 h) (zf_92_3 n x0 x1 x2 x3 x4 x5 x6 x7 x8 x9 s) := by
  intro n
  induction n with
  | zero =>
    intros
    exact zq_none
  | succ n ih =>
    intro A h s x0 Xx1 x1 Xx2 x2 Xx3 x3 Xx4 x4 Xx5 x5 Xx6 x6 Xx7 x7 Xx8 x8 Xx9 x9 H ax0 ax1 ax2 ax3 ax4 ax5 ax6 ax7 ax8 ax9
    rw [xf_92_3, zf_92_3]
    exact (zq_ge ax9 zc8_8 (zq_v H) (zq_ne ax9 zcn_0 (zq_ne ax9 zc32_1 (zq_ne ax9 zc32_2 (zq_ne ax9 zc32_3 (zq_ne ax9 zc32_4 (zq_ne ax9 zc32_5 (zq_ne ax9 zc8_6 (zg_92_86 (fun y0 y1 y2 y3 y4 y5 y6 y7 y8 y9 y => (xf_92_3 n y0 y1 y2 y3 y4 y5 y6 y7 y8 y9 y)) (fun y0 y1 y2 y3 y4 y5 y6 y7 y8 y9 y => (zf_92_3 n y0 y1 y2 y3 y4 y5 y6 y7 y8 y9 y)) (fun H ay0 ay1 ay2 ay3 ay4 ay5 ay6 ay7 ay8 ay9 => (ih H ay0 ay1 ay2 ay3 ay4 ay5 ay6 ay7 ay8 ay9)) H ax0 ax1 ax2 ax3 ax4 ax5 ax6 ax7 ax8 ax9 ax8) (zg_92_86 (fun y0 y1 y2 y3 y4 y5 y6 y7 y8 y9 y => (xf_92_3 n y0 y1 y2 y3 y4 y5 y6 y7 y8 y9 y)) (fun y0 y1 y2 y3 y4 y5 y6 y7 y8 y9 y => (zf_92_3 n y0 y1 y2 y3 y4 y5 y6 y7 y8 y9 y)) (fun H ay0 ay1 ay2 ay3 ay4 ay5 ay6 ay7 ay8 ay9 => (ih H ay0 ay1 ay2 ay3 ay4 ay5 ay6 ay7 ay8 ay9)) H ax0 ax1 ax2 ax3 ax4 ax5 ax6 ax7 ax8 ax9 ax7)) (zg_92_86 (fun y0 y1 y2 y3 y4 y5 y6 y7 y8 y9 y => (xf_92_3 n y0 y1 y2 y3 y4 y5 y6 y7 y8 y9 y)) (fun y0 y1 y2 y3 y4 y5 y6 y7 y8 y9 y => (zf_92_3 n y0 y1 y2 y3 y4 y5 y6 y7 y8 y9 y)) (fun H ay0 ay1 ay2 ay3 ay4 ay5 ay6 ay7 ay8 ay9 => (ih H ay0 ay1 ay2 ay3 ay4 ay5 ay6 ay7 ay8 ay9)) H ax0 ax1 ax2 ax3 ax4 ax5 ax6 ax7 ax8 ax9 ax6)) (zg_92_86 (fun y0 y1 y2 y3 y4 y5 y6 y7 y8 y9 y => (xf_92_3 n y0 y1 y2 y3 y4 y5 y6 y7 y8 y9 y)) (fun y0 y1 y2 y3 y4 y5 y6 y7 y8 y9 y => (zf_92_3 n y0 y1 y2 y3 y4 y5 y6 y7 y8 y9 y)) (fun H ay0 ay1 ay2 ay3 ay4 ay5 ay6 ay7 ay8 ay9 => (ih H ay0 ay1 ay2 ay3 ay4 ay5 ay6 ay7 ay8 ay9)) H ax0 ax1 ax2 ax3 ax4 ax5 ax6 ax7 ax8 ax9 ax5)) (zg_92_86 (fun y0 y1 y2 y3 y4 y5 y6 y7 y8 y9 y => (xf_92_3 n y0 y1 y2 y3 y4 y5 y6 y7 y8 y9 y)) (fun y0 y1 y2 y3 y4 y5 y6 y7 y8 y9 y => (zf_92_3 n y0 y1 y2 y3 y4 y5 y6 y7 y8 y9 y)) (fun H ay0 ay1 ay2 ay3 ay4 ay5 ay6 ay7 ay8 ay9 => (ih H ay0 ay1 ay2 ay3 ay4 ay5 ay6 ay7 ay8 ay9)) H ax0 ax1 ax2 ax3 ax4 ax5 ax6 ax7 ax8 ax9 ax4)) (zg_92_86 (fun y0 y1 y2 y3 y4 y5 y6 y7 y8 y9 y => (xf_92_3 n y0 y1 y2 y3 y4 y5 y6 y7 y8 y9 y)) (fun y0 y1 y2 y3 y4 y5 y6 y7 y8 y9 y => (zf_92_3 n y0 y1 y2 y3 y4 y5 y6 y7 y8 y9 y)) (fun H ay0 ay1 ay2 ay3 ay4 ay5 ay6 ay7 ay8 ay9 => (ih H ay0 ay1 ay2 ay3 ay4 ay5 ay6 ay7 ay8 ay9)) H ax0 ax1 ax2 ax3 ax4 ax5 ax6 ax7 ax8 ax9 ax3)) (zg_92_86 (fun y0 y1 y2 y3 y4 y5 y6 y7 y8 y9 y => (xf_92_3 n y0 y1 y2 y3 y4 y5 y6 y7 y8 y9 y)) (fun y0 y1 y2 y3 y4 y5 y6 y7 y8 y9 y => (zf_92_3 n y0 y1 y2 y3 y4 y5 y6 y7 y8 y9 y)) (fun H ay0 ay1 ay2 ay3 ay4 ay5 ay6 ay7 ay8 ay9 => (ih H ay0 ay1 ay2 ay3 ay4 ay5 ay6 ay7 ay8 ay9)) H ax0 ax1 ax2 ax3 ax4 ax5 ax6 ax7 ax8 ax9 ax2)) (zg_92_86 (fun y0 y1 y2 y3 y4 y5 y6 y7 y8 y9 y => (xf_92_3 n y0 y1 y2 y3 y4 y5 y6 y7 y8 y9 y)) (fun y0 y1 y2 y3 y4 y5 y6 y7 y8 y9 y => (zf_92_3 n y0 y1 y2 y3 y4 y5 y6 y7 y8 y9 y)) (fun H ay0 ay1 ay2 ay3 ay4 ay5 ay6 ay7 ay8 ay9 => (ih H ay0 ay1 ay2 ay3 ay4 ay5 ay6 ay7 ay8 ay9)) H ax0 ax1 ax2 ax3 ax4 ax5 ax6 ax7 ax8 ax9 ax1)))
theorem zg_92 {A : Nat} {h : xrH} {s : zS} {x0 : Nat} {Xx1 : Int32} {x1 : Int} {Xx2 : Int32} {x2 : Int} {Xx3 : Int32} {x3 : Int} {Xx4 : Int32} {x4 : Int} {Xx5 : Int32} {x5 : Int} {Xx6 : Int32} {x6 : Int} {Xx7 : Int32} {x7 : Int} {Xx8 : Int32} {x8 : Int} (H : zH A h s) (ax0 : x0 < 1) (ax1 : zx Xx1 x1) (ax2 : zx Xx2 x2) (ax3 : zx Xx3 x3) (ax4 : zx Xx4 x4) (ax5 : zx Xx5 x5) (ax6 : zx Xx6 x6) (ax7 : zx Xx7 x7) (ax8 : zx Xx8 x8) : zq 1 A (xf_92 (za_8 x0) Xx1 Xx2 Xx3 Xx4 Xx5 Xx6 Xx7 Xx8 h) (zf_92 x0 x1 x2 x3 x4 x5 x6 x7 x8 s) := by
  unfold xf_92 zf_92
  exact (zg_92_3 xfu H ax0 ax1 ax2 ax3 ax4 ax5 ax6 ax7 ax8 zc32_0)
theorem zg_106_44 {A : Nat} {h : xrH} {s : zS} {x0 : Nat} {Xx1 : Int32} {x1 : Int} (H : zH A h s) (ax0 : x0 < 1) (ax1 : zx Xx1 x1) : zq 0 A (xf_106_44 (za_8 x0) Xx1 h) (zf_106_44 x0 x1 s) := by
  unfold xf_106_44 zf_106_44
  exact (zq_b (zr_512 H ax0) (zq_P (zpi_1 H (by decide) zc32_0) fun h102 s2 H1 => (zq_ne ax1 zcn_0 (zq_c (zc_8 H1 ax0) (zq_c_i (zg_131 H1 ax0) fun v5 h103 s4 hv5 H3 => (zq_i H3 (zx_r hv5)))) (zq_t H1))))
theorem zg_106_28 {A : Nat} {h : xrH} {s : zS} {x0 : Nat} {Xs0 : Int32} {s0 : Int} (H : zH A h s) (ax0 : x0 < 1) (as0 : zx Xs0 s0) : zq 0 A (xf_106_28 (za_8 x0) Xs0 h) (zf_106_28 x0 s0 s) := by
  unfold xf_106_28 zf_106_28
  exact (zq_eq as0 zcn_0 (zg_106_44 H ax0 as0) (zq_b (zr_513 H ax0) (zq_b (zr_512 H ax0) (zq_c (zc_0 H (by decide)) (zq_c_v (zg_5 H (by decide) (by decide)) fun _ h103 s2 _ H1 => (zg_106_44 H1 ax0 as0))))))
theorem zg_106 {A : Nat} {h : xrH} {s : zS} {x0 : Nat} (H : zH A h s) (ax0 : x0 < 1) : zq 0 A (xf_106 (za_8 x0) h) (zf_106 x0 s) := by
  unfold xf_106 zf_106
  exact (zq_b (zr_512 H ax0) (zq_b (zi_1 H (by decide)) (zq_gt (zx_s H 1 0 0) zc16_160 (zg_106_28 H ax0 zc32_0) (zq_b (zr_516 H ax0) (zq_c (zc_6 H (by decide)) (zq_c_i (zg_88 H (by decide)) fun v3 h104 s2 hv3 H1 => (zq_ne (zx_r hv3) zcn_0 (zg_106_28 H1 ax0 zc32_0) (zg_106_28 H1 ax0 zc32_1))))))))
theorem zg_38 {A : Nat} {h : xrH} {s : zS} {x0 : Nat} (H : zH A h s) (ax0 : x0 < 1) : zq 1 A (xf_38 (za_4 x0) h) (zf_38 x0 s) := by
  unfold xf_38 zf_38
  exact (zq_b (zi_258 H ax0) (zq_g fun g3 => (zq_P (zpi_258 H ax0 (zadd_x (zx_s H 258 x0 0) zc32_1 g3)) fun h102 s2 H1 => (zq_b (zi_258 H1 ax0) (zq_lt (zx_s H1 258 x0 0) zcn_0 (zq_P (zpi_259 H1 ax0 zc32_m1) fun h104 s5 H4 => (zq_v H4)) (zq_b (zi_258 H1 ax0) (zq_B (fun h1 => zr_256 H1 ax0 h1) fun b6 hb7 => (zq_b (zi_1 H1 hb7) (zq_ge (zx_s H1 258 x0 0) (zx_s H1 1 b6 0) (zq_P (zpi_259 H1 ax0 zc32_m1) fun h108 s9 H8 => (zq_v H8)) (zq_B (fun h1 => zr_256 H1 ax0 h1) fun b10 hb11 => (zq_b (zr_0 H1 hb11) (zq_b (zi_258 H1 ax0) (zq_a (zw_0 H1 hb11) (zx_s H1 258 x0 0) (zq_P (zpi_259 H1 ax0 (zx_s H1 0 b10 (s2.1 258 x0 0))) fun h113 s13 H12 => (zq_v H12)))))))))))))))
theorem zg_96 {A : Nat} {h : xrH} {s : zS} {x0 : Nat} (H : zH A h s) (ax0 : x0 < A) : zq 1 A (xf_96 (za_7 x0) h) (zf_96 x0 s) := by
  unfold xf_96 zf_96
  exact (zq_P (zpi_449 H ax0 zc32_0) fun h101 s2 H1 => (zq_P (zpi_450 H1 ax0 zc32_0) fun h102 s4 H3 => (zq_P (zpi_451 H3 ax0 zc32_0) fun h103 s6 H5 => (zq_v H5))))
theorem zg_37 {A : Nat} {h : xrH} {s : zS} {x0 : Nat} {x1 : Nat} {Xx2 : Option Nat} {x2 : Int} (H : zH A h s) (ax0 : x0 < 1) (ax1 : x1 < 3) (ax2 : zo Xx2 x2) : zq 1 A (xf_37 (za_4 x0) (za_0 x1) Xx2 h) (zf_37 x0 x1 x2 s) := by
  unfold xf_37 zf_37
  exact (zq_P (zpb_256 H ax0 ax1) fun h101 s2 H1 => (zq_P (zpt_257 H1 ax0 ax2) fun h102 s4 H3 => (zq_b (zo_257 H3 ax0) (zq_O H3 (zo_s H3 257 x0 0) fun q5 hq6 hA7 H8 => (zq_c (zc_7 H8 hq6) (zq_c_v (zg_96 H8 hq6) fun _ h105 s10 _ H9 => (zq_P (zpi_261 H9 ax0 zc32_0) fun h106 s12 H11 => (zq_P (zpi_258 H11 ax0 zc32_m1) fun h107 s14 H13 => (zq_c (zc_4 H13 ax0) (zq_c_v (zg_38 H13 ax0) fun _ h108 s16 _ H15 => (zq_v H15)))))))))))
theorem zg_39 {A : Nat} {h : xrH} {s : zS} {x0 : Nat} {Xx1 : Int32} {x1 : Int} (H : zH A h s) (ax0 : x0 < 1) (ax1 : zx Xx1 x1) : zq 0 A (xf_39 (za_4 x0) Xx1 h) (zf_39 x0 x1 s) := by
  unfold xf_39 zf_39
  exact (zq_b (zi_259 H ax0) (zq_eq (zx_s H 259 x0 0) ax1 (zq_c (zc_4 H ax0) (zq_c_v (zg_38 H ax0) fun _ h102 s2 _ H1 => (zq_z H1 zc32_1))) (zq_z H zc32_0)))
theorem zg_40 {A : Nat} {h : xrH} {s : zS} {x0 : Nat} (H : zH A h s) (ax0 : x0 < 1) : zq 0 A (xf_40 (za_4 x0) h) (zf_40 x0 s) := by
  unfold xf_40 zf_40
  exact (zq_b (zi_259 H ax0) (zq_lt (zx_s H 259 x0 0) zc8_65 (zq_z H zc32_0) (zq_b (zi_259 H ax0) (zq_gt (zx_s H 259 x0 0) zc8_90 (zq_z H zc32_0) (zq_b (zi_259 H ax0) (zq_eq (zx_s H 259 x0 0) zc8_87 (zq_z H zc32_0) (zq_z H zc32_1)))))))
theorem zg_97_2 : ∀ (n : Nat) {A : Nat} {h : xrH} {s : zS} {x0 : Nat} {Xx1 : Int32} {x1 : Int} {Xx2 : Int32} {x2 : Int} (H : zH A h s) (ax0 : x0 < A) (ax1 : zx Xx1 x1) (ax2 : zx Xx2 x2), zq 0 A (xf_97_2 n (za_7 x0) Xx1 Xx2 h) (zf_97_2 n x0 x1 x2 s) := by
  intro n
  induction n with
  | zero =>
    intros
    exact zq_none
  | succ n ih =>
    intro A h s x0 Xx1 x1 Xx2 x2 H ax0 ax1 ax2
    rw [xf_97_2, zf_97_2]
    exact (zq_b (zi_449 H ax0) (zq_ge ax2 (zx_s H 449 x0 0) (zq_i H zc32_m1) (zq_b (zr_452 H ax0) (zq_a (zw_452 H ax0) ax2 (zq_ne (zx_s H 452 x0 x2) ax1 (zq_g fun g1 => (ih H ax0 ax1 (zadd_x ax2 zc32_1 g1))) (zq_i H ax2))))))
theorem zg_97 {A : Nat} {h : xrH} {s : zS} {x0 : Nat} {Xx1 : Int32} {x1 : Int} (H : zH A h s) (ax0 : x0 < A) (ax1 : zx Xx1 x1) : zq 0 A (xf_97 (za_7 x0) Xx1 h) (zf_97 x0 x1 s) := by
  unfold xf_97 zf_97
  exact (zg_97_2 xfu H ax0 ax1 zc32_0)
theorem zg_42 {A : Nat} {h : xrH} {s : zS} {x0 : Nat} {Xx1 : Int32} {x1 : Int} (H : zH A h s) (ax0 : x0 < 1) (ax1 : zx Xx1 x1) : zq 0 A (xf_42 (za_4 x0) Xx1 h) (zf_42 x0 x1 s) := by
  unfold xf_42 zf_42
  exact (zq_c (zc_4 H ax0) (zq_c_i (zg_40 H ax0) fun v3 h101 s2 hv3 H1 => (zq_eq (zx_r hv3) zcn_0 (zq_z H1 zc32_0) (zq_b (zo_257 H1 ax0) (zq_b (zi_259 H1 ax0) (zq_O H1 (zo_s H1 257 x0 0) fun q4 hq5 hA6 H7 => (zq_c (zc_7 H7 hq5) (zq_g fun g8 => (zq_c_i (zg_97 H7 hq5 (zsub_x (zx_s H1 259 x0 0) zc8_65 g8)) fun v11 h106 s10 hv11 H9 => (zq_eq (zx_r hv11) zc32_m1 (zq_P (zpi_260 H9 ax0 ax1) fun h108 s13 H12 => (zq_b (zo_257 H12 ax0) (zq_O H12 (zo_s H12 257 x0 0) fun q14 hq15 hA16 H17 => (zq_b (zr_452 H17 hq15) (zq_b (zi_259 H17 ax0) (zq_g fun g18 => (zq_W (fun hl => zwp_452 H17 hq15 ax1 (zsub_x (zx_s H17 259 x0 0) zc8_65 g18) hl) fun h113 s20 H19 => (zq_b (zo_257 H19 ax0) (zq_O H19 (zo_s H19 257 x0 0) fun q21 hq22 hA23 H24 => (zq_b (zr_453 H24 hq22) (zq_W (fun hl => zwp_453 H24 hq22 ax1 zc32_0 hl) fun h117 s26 H25 => (zq_b (zo_257 H25 ax0) (zq_O H25 (zo_s H25 257 x0 0) fun q27 hq28 hA29 H30 => (zq_b (zi_449 H30 hq28) (zq_g fun g33 => (zq_P (zpi_449 H30 hq28 (zadd_x (zx_s H30 449 q27 0) zc32_1 g33)) fun h121 s32 H31 => (zq_c (zc_4 H31 ax0) (zq_c_v (zg_38 H31 ax0) fun _ h122 s35 _ H34 => (zq_c (zc_4 H34 ax0) (zq_c_i (zg_39 H34 ax0 zc8_123) fun v38 h123 s37 hv38 H36 => (zq_z H36 (zx_r hv38)))))))))))))))))))))) (zq_z H9 zc32_0)))))))))))
theorem zg_98_2 : ∀ (n : Nat) {A : Nat} {h : xrH} {s : zS} {x0 : Nat} {Xx1 : Int32} {x1 : Int} {Xx2 : Int32} {x2 : Int} {Xx3 : Int32} {x3 : Int} (H : zH A h s) (ax0 : x0 < A) (ax1 : zx Xx1 x1) (ax2 : zx Xx2 x2) (ax3 : zx Xx3 x3), zq 0 A (xf_98_2 n (za_7 x0) Xx1 Xx2 Xx3 h) (zf_98_2 n x0 x1 x2 x3 s) := by
  intro n
  induction n with
  | zero =>
    intros
    exact zq_none
  | succ n ih =>
    intro A h s x0 Xx1 x1 Xx2 x2 Xx3 x3 H ax0 ax1 ax2 ax3
    rw [xf_98_2, zf_98_2]
    exact (zq_b (zr_453 H ax0) (zq_a (zw_453 H ax0) ax1 (zq_ge ax3 (zx_s H 453 x0 x1) (zq_i H zc32_m1) (zq_b (zr_457 H ax0) (zq_g fun g1 => (zq_g fun g2 => (zq_a (zw_457 H ax0) (zadd_x (zmul_x ax1 zc8_8 g1) ax3 g2) (zq_ne (zx_s H 457 x0 ((x1 * 8) + x3)) ax2 (zq_g fun g3 => (ih H ax0 ax1 ax2 (zadd_x ax3 zc32_1 g3))) (zq_i H ax3)))))))))
theorem zg_98 {A : Nat} {h : xrH} {s : zS} {x0 : Nat} {Xx1 : Int32} {x1 : Int} {Xx2 : Int32} {x2 : Int} (H : zH A h s) (ax0 : x0 < A) (ax1 : zx Xx1 x1) (ax2 : zx Xx2 x2) : zq 0 A (xf_98 (za_7 x0) Xx1 Xx2 h) (zf_98 x0 x1 x2 s) := by
  unfold xf_98 zf_98
  exact (zg_98_2 xfu H ax0 ax1 ax2 zc32_0)
theorem zg_45 {A : Nat} {h : xrH} {s : zS} {x0 : Nat} {Xx1 : Int32} {x1 : Int} (H : zH A h s) (ax0 : x0 < 1) (ax1 : zx Xx1 x1) : zq 0 A (xf_45 (za_4 x0) Xx1 h) (zf_45 x0 x1 s) := by
  unfold xf_45 zf_45
  exact (zq_b (zi_260 H ax0) (zq_b (zo_257 H ax0) (zq_O H (zo_s H 257 x0 0) fun q1 hq2 hA3 H4 => (zq_b (zr_467 H4 hq2) (zq_g fun g5 => (zq_g fun g6 => (zq_a (zw_467 H4 hq2) (zadd_x (zmul_x (zx_s H 260 x0 0) zc8_8 g5) ax1 g6) (zq_eq (zx_s H4 467 q1 (((s.1 260 x0 0) * 8) + x1)) zcn_0 (zq_z H4 zc32_1) (zq_ne (zx_s H4 467 q1 (((s.1 260 x0 0) * 8) + x1)) zc8_61 (zq_b (zo_257 H4 ax0) (zq_b (zi_260 H4 ax0) (zq_b (zo_257 H4 ax0) (zq_O H4 (zo_s H4 257 x0 0) fun q7 hq8 hA9 H10 => (zq_b (zr_468 H10 hq8) (zq_a (zw_468 H10 hq8) (zadd_x (zmul_x (zx_s H 260 x0 0) zc8_8 g5) ax1 g6) (zq_O H10 (zo_s H4 257 x0 0) fun q11 hq12 hA13 H14 => (zq_c (zc_7 H14 hq12) (zq_c_i (zg_98 H14 hq12 (zx_s H4 260 x0 0) (zx_s H10 468 q7 (((s.1 260 x0 0) * 8) + x1))) fun v17 h113 s16 hv17 H15 => (zq_eq (zx_r hv17) zc32_m1 (zq_z H15 zc32_0) (zq_ne (zx_r hv17) ax1 (zq_b (zo_257 H15 ax0) (zq_O H15 (zo_s H15 257 x0 0) fun q18 hq19 hA20 H21 => (zq_b (zr_468 H21 hq19) (zq_b (zi_260 H21 ax0) (zq_g fun g22 => (zq_g fun g23 => (zq_W (fun hl => zwp_468 H21 hq19 (zadd_x (zmul_x (zx_s H 260 x0 0) zc8_8 g5) ax1 g6) (zadd_x (zmul_x (zx_s H21 260 x0 0) zc8_8 g22) (zx_r hv17) g23) hl) fun h119 s25 H24 => (zq_ne (zx_s H4 467 q1 (((s.1 260 x0 0) * 8) + x1)) zc8_37 (zq_z H24 zc32_1) (zq_b (zo_257 H24 ax0) (zq_O H24 (zo_s H24 257 x0 0) fun q26 hq27 hA28 H29 => (zq_b (zr_458 H29 hq27) (zq_b (zi_260 H29 ax0) (zq_g fun g30 => (zq_g fun g31 => (zq_a (zw_458 H29 hq27) (zadd_x (zmul_x (zx_s H29 260 x0 0) zc8_8 g30) (zx_r hv17) g31) (zq_ne (zx_s H29 458 q26 (((s25.1 260 x0 0) * 8) + v17)) zc8_91 (zq_z H29 zc32_0) (zq_z H29 zc32_1))))))))))))))))) (zq_z H15 zc32_0)))))))))))) (zq_z H4 zc32_1))))))))))
theorem zg_43_2 : ∀ (n : Nat) {A : Nat} {h : xrH} {s : zS} {x0 : Nat} {Xx1 : Int32} {x1 : Int} (H : zH A h s) (ax0 : x0 < 1) (ax1 : zx Xx1 x1), zq 0 A (xf_43_2 n (za_4 x0) Xx1 h) (zf_43_2 n x0 x1 s) := by
  intro n
  induction n with
  | zero =>
    intros
    exact zq_none
  | succ n ih =>
    intro A h s x0 Xx1 x1 H ax0 ax1
    rw [xf_43_2, zf_43_2]
    exact (zq_b (zo_257 H ax0) (zq_O H (zo_s H 257 x0 0) fun q1 hq2 hA3 H4 => (zq_b (zr_453 H4 hq2) (zq_b (zi_260 H4 ax0) (zq_a (zw_453 H4 hq2) (zx_s H4 260 x0 0) (zq_ge ax1 (zx_s H4 453 q1 (s.1 260 x0 0)) (zq_b (zi_261 H4 ax0) (zq_ne (zx_s H4 261 x0 0) zcn_0 (zq_z H4 zc32_0) (zq_c (zc_4 H4 ax0) (zq_c_i (zg_39 H4 ax0 zc8_125) fun v7 h107 s6 hv7 H5 => (zq_eq (zx_r hv7) zcn_0 (zq_z H5 zc32_0) (zq_z H5 zc32_1)))))) (zq_c (zc_4 H4 ax0) (zq_c_i (zg_45 H4 ax0 ax1) fun v10 h109 s9 hv10 H8 => (zq_ne (zx_r hv10) zcn_0 (zq_g fun g11 => (ih H8 ax0 (zadd_x ax1 zc32_1 g11))) (zq_z H8 zc32_0))))))))))
theorem zg_43 {A : Nat} {h : xrH} {s : zS} {x0 : Nat} (H : zH A h s) (ax0 : x0 < 1) : zq 0 A (xf_43 (za_4 x0) h) (zf_43 x0 s) := by
  unfold xf_43 zf_43
  exact (zg_43_2 xfu H ax0 zc32_0)
theorem zg_44_2 : ∀ (n : Nat) {A : Nat} {h : xrH} {s : zS} {x0 : Nat} {Xx1 : Int32} {x1 : Int} (H : zH A h s) (ax0 : x0 < 1) (ax1 : zx Xx1 x1), zq 0 A (xf_44_2 n (za_4 x0) Xx1 h) (zf_44_2 n x0 x1 s) := by
  intro n
  induction n with
  | zero =>
    intros
    exact zq_none
  | succ n ih =>
    intro A h s x0 Xx1 x1 H ax0 ax1
    rw [xf_44_2, zf_44_2]
    exact (zq_b (zo_257 H ax0) (zq_O H (zo_s H 257 x0 0) fun q1 hq2 hA3 H4 => (zq_b (zi_451 H4 hq2) (zq_ge ax1 (zx_s H4 451 q1 0) (zq_z H4 zc32_1) (zq_b (zo_257 H4 ax0) (zq_O H4 (zo_s H4 257 x0 0) fun q5 hq6 hA7 H8 => (zq_b (zr_456 H8 hq6) (zq_b (zo_257 H8 ax0) (zq_b (zo_257 H8 ax0) (zq_O H8 (zo_s H8 257 x0 0) fun q9 hq10 hA11 H12 => (zq_b (zr_456 H12 hq10) (zq_a (zw_456 H12 hq10) ax1 (zq_O H12 (zo_s H8 257 x0 0) fun q13 hq14 hA15 H16 => (zq_c (zc_7 H16 hq14) (zq_c_i (zg_97 H16 hq14 (zx_s H12 456 q9 x1)) fun v19 h113 s18 hv19 H17 => (zq_W (fun hl => zwp_456 H17 (Nat.lt_of_lt_of_le (Nat.lt_of_lt_of_le hq6 hA11) hA15) ax1 (zx_r hv19) hl) fun h115 s21 H20 => (zq_b (zo_257 H20 ax0) (zq_O H20 (zo_s H20 257 x0 0) fun q22 hq23 hA24 H25 => (zq_b (zr_456 H25 hq23) (zq_a (zw_456 H25 hq23) ax1 (zq_ne (zx_s H25 456 q22 x1) zc32_m1 (zq_g fun g26 => (ih H25 ax0 (zadd_x ax1 zc32_1 g26))) (zq_z H25 zc32_0))))))))))))))))))))))
theorem zg_44 {A : Nat} {h : xrH} {s : zS} {x0 : Nat} (H : zH A h s) (ax0 : x0 < 1) : zq 0 A (xf_44 (za_4 x0) h) (zf_44 x0 s) := by
  unfold xf_44 zf_44
  exact (zg_44_2 xfu H ax0 zc32_0)
theorem zg_103 {A : Nat} {h : xrH} {s : zS} {x0 : Nat} {Xx1 : Int32} {x1 : Int} (H : zH A h s) (ax0 : x0 < A) (ax1 : zx Xx1 x1) : zq 0 A (xf_103 (za_7 x0) Xx1 h) (zf_103 x0 x1 s) := by
  unfold xf_103 zf_103
  exact (zq_b (zi_451 H ax0) (zq_lt (zx_s H 451 x0 0) zc8_100 (zq_b (zr_456 H ax0) (zq_b (zi_451 H ax0) (zq_W (fun hl => zwp_456 H ax0 (zx_s H 451 x0 0) ax1 hl) fun h104 s2 H1 => (zq_b (zi_451 H1 ax0) (zq_g fun g5 => (zq_P (zpi_451 H1 ax0 (zadd_x (zx_s H1 451 x0 0) zc32_1 g5)) fun h106 s4 H3 => (zq_z H3 zc32_1))))))) (zq_z H zc32_0)))
theorem zg_48 {A : Nat} {h : xrH} {s : zS} {x0 : Nat} (H : zH A h s) (ax0 : x0 < 1) : zq 0 A (xf_48 (za_4 x0) h) (zf_48 x0 s) := by
  unfold xf_48 zf_48
  exact (zq_c (zc_4 H ax0) (zq_c_i (zg_40 H ax0) fun v3 h101 s2 hv3 H1 => (zq_eq (zx_r hv3) zcn_0 (zq_z H1 zc32_0) (zq_b (zo_257 H1 ax0) (zq_b (zi_259 H1 ax0) (zq_O H1 (zo_s H1 257 x0 0) fun q4 hq5 hA6 H7 => (zq_c (zc_7 H7 hq5) (zq_g fun g8 => (zq_c_i (zg_103 H7 hq5 (zsub_x (zx_s H1 259 x0 0) zc8_65 g8)) fun v11 h106 s10 hv11 H9 => (zq_ne (zx_r hv11) zcn_0 (zq_c (zc_4 H9 ax0) (zq_c_v (zg_38 H9 ax0) fun _ h108 s13 _ H12 => (zq_z H12 zc32_1))) (zq_z H9 zc32_0)))))))))))
theorem zg_49_80 {A : Nat} {h : xrH} {s : zS} {x0 : Nat} {s0 : Nat} {Xs1 : Int32} {s1 : Int} (H : zH A h s) (ax0 : x0 < 1) (as0 : s0 < 1) (as1 : zx Xs1 s1) : zq 0 A (xf_49_80 (za_4 x0) (za_4 s0) Xs1 h) (zf_49_80 x0 s0 s1 s) := by
  unfold xf_49_80 zf_49_80
  exact (zq_P (zpi_261 H as0 as1) fun h101 s2 H1 => (zq_c (zc_4 H1 ax0) (zq_c_v (zg_38 H1 ax0) fun _ h102 s4 _ H3 => (zq_z H3 zc32_1))))
theorem zg_49 {A : Nat} {h : xrH} {s : zS} {x0 : Nat} {Xx1 : Int32} {x1 : Int} (H : zH A h s) (ax0 : x0 < 1) (ax1 : zx Xx1 x1) : zq 0 A (xf_49 (za_4 x0) Xx1 h) (zf_49 x0 x1 s) := by
  unfold xf_49 zf_49
  exact (zq_b (zi_259 H ax0) (zq_g fun g1 => (zq_lt (zsub_x (zx_s H 259 x0 0) zc8_48 g1) zc32_1 (zq_z H zc32_0) (zq_b (zi_261 H ax0) (zq_g fun g2 => (zq_le (zsub_x (zx_s H 259 x0 0) zc8_48 g1) (zsub_x zc8_8 (zx_s H 261 x0 0) g2) (zq_b (zi_261 H ax0) (zq_g fun g5 => (zq_P (zpi_261 H ax0 (zadd_x (zx_s H 261 x0 0) (zsub_x (zx_s H 259 x0 0) zc8_48 g1) g5)) fun h104 s4 H3 => (zq_b (zo_257 H3 ax0) (zq_O H3 (zo_s H3 257 x0 0) fun q6 hq7 hA8 H9 => (zq_b (zr_459 H9 hq7) (zq_W (fun hl => zwp_459 H9 hq7 ax1 (zsub_x (zx_s H 259 x0 0) zc8_48 g1) hl) fun h108 s11 H10 => (zq_b (zo_257 H10 ax0) (zq_O H10 (zo_s H10 257 x0 0) fun q12 hq13 hA14 H15 => (zq_b (zr_460 H15 hq13) (zq_b (zi_261 H15 ax0) (zq_g fun g16 => (zq_W (fun hl => zwp_460 H15 hq13 ax1 (zsub_x zc8_8 (zx_s H15 261 x0 0) g16) hl) fun h113 s18 H17 => (zq_b (zi_261 H17 ax0) (zq_ne (zx_s H17 261 x0 0) zc8_8 (zq_b (zi_261 H17 ax0) (zg_49_80 H17 ax0 ax0 (zx_s H17 261 x0 0))) (zg_49_80 H17 ax0 ax0 zc32_0)))))))))))))))) (zq_z H zc32_0)))))))
theorem zg_50_61 {A : Nat} {h : xrH} {s : zS} {x0 : Nat} {Xx1 : Int32} {x1 : Int} (H : zH A h s) (ax0 : x0 < 1) (ax1 : zx Xx1 x1) : zq 0 A (xf_50_61 (za_4 x0) Xx1 h) (zf_50_61 x0 x1 s) := by
  unfold xf_50_61 zf_50_61
  exact (zq_b (zo_257 H ax0) (zq_O H (zo_s H 257 x0 0) fun q1 hq2 hA3 H4 => (zq_b (zr_464 H4 hq2) (zq_b (zo_257 H4 ax0) (zq_O H4 (zo_s H4 257 x0 0) fun q5 hq6 hA7 H8 => (zq_b (zi_451 H8 hq6) (zq_W (fun hl => zwp_464 H8 (Nat.lt_of_lt_of_le hq2 hA7) ax1 (zx_s H8 451 q5 0) hl) fun h107 s10 H9 => (zq_z H9 zc32_1))))))))
theorem zg_50_27 : ∀ (n : Nat) {A : Nat} {h : xrH} {s : zS} {x0 : Nat} {Xx1 : Int32} {x1 : Int} {Xx2 : Int32} {x2 : Int} (H : zH A h s) (ax0 : x0 < 1) (ax1 : zx Xx1 x1) (ax2 : zx Xx2 x2), zq 0 A (xf_50_27 n (za_4 x0) Xx1 Xx2 h) (zf_50_27 n x0 x1 x2 s) := by
  intro n
  induction n with
  | zero =>
    intros
    exact zq_none
  | succ n ih =>
    intro A h s x0 Xx1 x1 Xx2 x2 H ax0 ax1 ax2
    rw [xf_50_27, zf_50_27]
    exact (zq_ge ax2 zc8_100 (zg_50_61 H ax0 ax1) (zq_b (zi_259 H ax0) (zq_ne (zx_s H 259 x0 0) zc8_124 (zg_50_61 H ax0 ax1) (zq_c (zc_4 H ax0) (zq_c_v (zg_38 H ax0) fun _ h102 s2 _ H1 => (zq_c (zc_4 H1 ax0) (zq_c_i (zg_48 H1 ax0) fun v5 h103 s4 hv5 H3 => (zq_ne (zx_r hv5) zcn_0 (zq_g fun g6 => (ih H3 ax0 ax1 (zadd_x ax2 zc32_1 g6))) (zq_z H3 zc32_0)))))))))
theorem zg_50 {A : Nat} {h : xrH} {s : zS} {x0 : Nat} {Xx1 : Int32} {x1 : Int} (H : zH A h s) (ax0 : x0 < 1) (ax1 : zx Xx1 x1) : zq 0 A (xf_50 (za_4 x0) Xx1 h) (zf_50 x0 x1 s) := by
  unfold xf_50 zf_50
  exact (zq_b (zo_257 H ax0) (zq_O H (zo_s H 257 x0 0) fun q1 hq2 hA3 H4 => (zq_b (zr_463 H4 hq2) (zq_b (zo_257 H4 ax0) (zq_O H4 (zo_s H4 257 x0 0) fun q5 hq6 hA7 H8 => (zq_b (zi_451 H8 hq6) (zq_W (fun hl => zwp_463 H8 (Nat.lt_of_lt_of_le hq2 hA7) ax1 (zx_s H8 451 q5 0) hl) fun h107 s10 H9 => (zq_c (zc_4 H9 ax0) (zq_c_i (zg_48 H9 ax0) fun v13 h108 s12 hv13 H11 => (zq_ne (zx_r hv13) zcn_0 (zg_50_27 xfu H11 ax0 ax1 zc32_0) (zq_z H11 zc32_0)))))))))))
theorem zg_41 {A : Nat} {h : xrH} {s : zS} {x0 : Nat} (H : zH A h s) (ax0 : x0 < 1) : zq 0 A (xf_41 (za_4 x0) h) (zf_41 x0 s) := by
  unfold xf_41 zf_41
  exact (zq_b (zi_259 H ax0) (zq_lt (zx_s H 259 x0 0) zc8_48 (zq_z H zc32_0) (zq_b (zi_259 H ax0) (zq_gt (zx_s H 259 x0 0) zc8_57 (zq_z H zc32_0) (zq_z H zc32_1)))))
theorem zg_53_4 : ∀ (n : Nat) {A : Nat} {h : xrH} {s : zS} {x0 : Nat} {Xx1 : Int32} {x1 : Int} {Xx2 : Int32} {x2 : Int} (H : zH A h s) (ax0 : x0 < 1) (ax1 : zx Xx1 x1) (ax2 : zx Xx2 x2), zq 0 A (xf_53_4 n (za_4 x0) Xx1 Xx2 h) (zf_53_4 n x0 x1 x2 s) := by
  intro n
  induction n with
  | zero =>
    intros
    exact zq_none
  | succ n ih =>
    intro A h s x0 Xx1 x1 Xx2 x2 H ax0 ax1 ax2
    rw [xf_53_4, zf_53_4]
    exact (zq_ge ax2 zc32_3 (zq_i H ax1) (zq_c (zc_4 H ax0) (zq_c_i (zg_41 H ax0) fun v3 h101 s2 hv3 H1 => (zq_eq (zx_r hv3) zcn_0 (zq_i H1 ax1) (zq_c_i (zg_22 H1 ax1 zc32_0) fun v6 h103 s5 hv6 H4 => (zq_b (zi_259 H4 ax0) (zq_c (zc_4 H4 ax0) (zq_c_v (zg_38 H4 ax0) fun _ h106 s8 _ H7 => (zq_g fun g9 => (zq_g fun g10 => (zq_g fun g11 => (zq_g fun g12 => (ih H7 ax0 (zsub_x (zadd_x (zmul_x (zx_r hv6) zc8_10 g9) (zx_s H4 259 x0 0) g10) zc8_48 g11) (zadd_x ax2 zc32_1 g12))))))))))))))
theorem zg_53 {A : Nat} {h : xrH} {s : zS} {x0 : Nat} (H : zH A h s) (ax0 : x0 < 1) : zq 0 A (xf_53 (za_4 x0) h) (zf_53 x0 s) := by
  unfold xf_53 zf_53
  exact (zg_53_4 xfu H ax0 zc32_m1 zc32_0)
theorem zg_101 {A : Nat} {h : xrH} {s : zS} {x0 : Nat} {Xx1 : Int32} {x1 : Int} (H : zH A h s) (ax0 : x0 < A) (ax1 : zx Xx1 x1) : zq 0 A (xf_101 (za_7 x0) Xx1 h) (zf_101 x0 x1 s) := by
  unfold xf_101 zf_101
  exact (zq_b (zr_458 H ax0) (zq_a (zw_458 H ax0) ax1 (zq_eq (zx_s H 458 x0 x1) zc8_98 (zq_z H zc32_1) (zq_eq (zx_s H 458 x0 x1) zc8_119 (zq_z H zc32_1) (zq_ne (zx_s H 458 x0 x1) zc8_87 (zq_z H zc32_0) (zq_z H zc32_1))))))
theorem zg_99 {A : Nat} {h : xrH} {s : zS} {x0 : Nat} {Xx1 : Int32} {x1 : Int} (H : zH A h s) (ax0 : x0 < A) (ax1 : zx Xx1 x1) : zq 0 A (xf_99 (za_7 x0) Xx1 h) (zf_99 x0 x1 s) := by
  unfold xf_99 zf_99
  exact (zq_b (zr_458 H ax0) (zq_a (zw_458 H ax0) ax1 (zq_c (zc_7 H ax0) (zq_c_i (zg_101 H ax0 ax1) fun v3 h103 s2 hv3 H1 => (zq_ne (zx_r hv3) zcn_0 (zq_z H1 zc32_1) (zq_eq (zx_s H 458 x0 x1) zc8_114 (zq_z H1 zc32_1) (zq_ne (zx_s H 458 x0 x1) zc8_110 (zq_z H1 zc32_0) (zq_z H1 zc32_1))))))))
theorem zg_102 {A : Nat} {h : xrH} {s : zS} {x0 : Nat} {Xx1 : Int32} {x1 : Int} {Xx2 : Int32} {x2 : Int} (H : zH A h s) (ax0 : x0 < A) (ax1 : zx Xx1 x1) (ax2 : zx Xx2 x2) : zq 0 A (xf_102 (za_7 x0) Xx1 Xx2 h) (zf_102 x0 x1 x2 s) := by
  unfold xf_102 zf_102
  exact (zq_b (zi_450 H ax0) (zq_lt (zx_s H 450 x0 0) zc8_100 (zq_b (zr_455 H ax0) (zq_b (zi_450 H ax0) (zq_W (fun hl => zwp_455 H ax0 (zx_s H 450 x0 0) ax1 hl) fun h104 s2 H1 => (zq_b (zr_454 H1 ax0) (zq_b (zi_450 H1 ax0) (zq_W (fun hl => zwp_454 H1 ax0 (zx_s H1 450 x0 0) ax2 hl) fun h107 s4 H3 => (zq_b (zi_450 H3 ax0) (zq_g fun g7 => (zq_P (zpi_450 H3 ax0 (zadd_x (zx_s H3 450 x0 0) zc32_1 g7)) fun h109 s6 H5 => (zq_z H5 zc32_1)))))))))) (zq_z H zc32_0)))
theorem zg_52_179 (k21 : Nat → Int32 → Int32 → Int32 → xrH → xrR) (zk21 : Nat → Int → Int → Int → zS → zR) (hk21 : ∀ {A : Nat} {h : xrH} {s : zS} {y0 : Nat} {Xy1 : Int32} {y1 : Int} {Xy2 : Int32} {y2 : Int} {Xy3 : Int32} {y3 : Int} (H : zH A h s) (ay0 : y0 < 1) (ay1 : zx Xy1 y1) (ay2 : zx Xy2 y2) (ay3 : zx Xy3 y3), zq 0 A (k21 (za_4 y0) Xy1 Xy2 Xy3 h) (zk21 y0 y1 y2 y3 s)) {A : Nat} {h : xrH} {s : zS} {x0 : Nat} {Xx1 : Int32} {x1 : Int} {Xx3 : Int32} {x3 : Int} (H : zH A h s) (ax0 : x0 < 1) (ax1 : zx Xx1 x1) (ax3 : zx Xx3 x3) : zq 0 A (xf_52_179 k21 (za_4 x0) Xx1 Xx3 h) (zf_52_179 zk21 x0 x1 x3 s) := by
  unfold xf_52_179 zf_52_179
  exact (zq_b (zi_259 H ax0) (zq_c (zc_4 H ax0) (zq_c_v (zg_38 H ax0) fun _ h102 s2 _ H1 => (zq_g fun g3 => (hk21 H1 ax0 ax1 (zx_s H 259 x0 0) (zadd_x ax3 zc32_1 g3))))))
theorem zg_52_119 (k21 : Nat → Int32 → Int32 → Int32 → xrH → xrR) (zk21 : Nat → Int → Int → Int → zS → zR) (hk21 : ∀ {A : Nat} {h : xrH} {s : zS} {y0 : Nat} {Xy1 : Int32} {y1 : Int} {Xy2 : Int32} {y2 : Int} {Xy3 : Int32} {y3 : Int} (H : zH A h s) (ay0 : y0 < 1) (ay1 : zx Xy1 y1) (ay2 : zx Xy2 y2) (ay3 : zx Xy3 y3), zq 0 A (k21 (za_4 y0) Xy1 Xy2 Xy3 h) (zk21 y0 y1 y2 y3 s)) {A : Nat} {h : xrH} {s : zS} {x0 : Nat} {Xx1 : Int32} {x1 : Int} {Xx2 : Int32} {x2 : Int} {Xx3 : Int32} {x3 : Int} {Xx5 : Int32} {x5 : Int} (H : zH A h s) (ax0 : x0 < 1) (ax1 : zx Xx1 x1) (ax2 : zx Xx2 x2) (ax3 : zx Xx3 x3) (ax5 : zx Xx5 x5) : zq 0 A (xf_52_119 k21 (za_4 x0) Xx1 Xx2 Xx3 Xx5 h) (zf_52_119 zk21 x0 x1 x2 x3 x5 s) := by
  unfold xf_52_119 zf_52_119
  exact (zq_b (zo_257 H ax0) (zq_O H (zo_s H 257 x0 0) fun q1 hq2 hA3 H4 => (zq_c (zc_7 H4 hq2) (zq_c_i (zg_102 H4 hq2 ax2 ax5) fun v7 h103 s6 hv7 H5 => (zq_ne (zx_r hv7) zcn_0 (zq_b (zo_257 H5 ax0) (zq_O H5 (zo_s H5 257 x0 0) fun q8 hq9 hA10 H11 => (zq_b (zr_462 H11 hq9) (zq_b (zo_257 H11 ax0) (zq_O H11 (zo_s H11 257 x0 0) fun q12 hq13 hA14 H15 => (zq_b (zi_450 H15 hq13) (zq_W (fun hl => zwp_462 H15 (Nat.lt_of_lt_of_le hq9 hA14) ax1 (zx_s H15 450 q12 0) hl) fun h111 s17 H16 => (zq_b (zi_259 H16 ax0) (zq_eq (zx_s H16 259 x0 0) zc8_43 (zg_52_179 k21 zk21 hk21 H16 ax0 ax1 ax3) (zq_b (zi_259 H16 ax0) (zq_eq (zx_s H16 259 x0 0) zc8_45 (zg_52_179 k21 zk21 hk21 H16 ax0 ax1 ax3) (zq_b (zi_259 H16 ax0) (zq_eq (zx_s H16 259 x0 0) zc8_42 (zg_52_179 k21 zk21 hk21 H16 ax0 ax1 ax3) (zq_z H16 zc32_1)))))))))))))) (zq_z H5 zc32_0))))))
theorem zg_52_93 (k21 : Nat → Int32 → Int32 → Int32 → xrH → xrR) (zk21 : Nat → Int → Int → Int → zS → zR) (hk21 : ∀ {A : Nat} {h : xrH} {s : zS} {y0 : Nat} {Xy1 : Int32} {y1 : Int} {Xy2 : Int32} {y2 : Int} {Xy3 : Int32} {y3 : Int} (H : zH A h s) (ay0 : y0 < 1) (ay1 : zx Xy1 y1) (ay2 : zx Xy2 y2) (ay3 : zx Xy3 y3), zq 0 A (k21 (za_4 y0) Xy1 Xy2 Xy3 h) (zk21 y0 y1 y2 y3 s)) {A : Nat} {h : xrH} {s : zS} {x0 : Nat} {Xx1 : Int32} {x1 : Int} {Xx2 : Int32} {x2 : Int} {Xx3 : Int32} {x3 : Int} {Xx4 : Int32} {x4 : Int} (H : zH A h s) (ax0 : x0 < 1) (ax1 : zx Xx1 x1) (ax2 : zx Xx2 x2) (ax3 : zx Xx3 x3) (ax4 : zx Xx4 x4) : zq 0 A (xf_52_93 k21 (za_4 x0) Xx1 Xx2 Xx3 Xx4 h) (zf_52_93 zk21 x0 x1 x2 x3 x4 s) := by
  unfold xf_52_93 zf_52_93
  exact (zq_c (zc_4 H ax0) (zq_c_i (zg_41 H ax0) fun v3 h101 s2 hv3 H1 => (zq_eq (zx_r hv3) zcn_0 (zq_c (zc_4 H1 ax0) (zq_c_v (zg_38 H1 ax0) fun _ h103 s5 _ H4 => (zq_g fun g6 => (zg_52_119 k21 zk21 hk21 H4 ax0 ax1 ax2 ax3 (zsub_x zc32_m1 ax4 g6))))) (zq_c (zc_4 H1 ax0) (zq_c_i (zg_53 H1 ax0) fun v9 h104 s8 hv9 H7 => (zg_52_119 k21 zk21 hk21 H7 ax0 ax1 ax2 ax3 (zx_r hv9)))))))
theorem zg_52_56 (k21 : Nat → Int32 → Int32 → Int32 → xrH → xrR) (zk21 : Nat → Int → Int → Int → zS → zR) (hk21 : ∀ {A : Nat} {h : xrH} {s : zS} {y0 : Nat} {Xy1 : Int32} {y1 : Int} {Xy2 : Int32} {y2 : Int} {Xy3 : Int32} {y3 : Int} (H : zH A h s) (ay0 : y0 < 1) (ay1 : zx Xy1 y1) (ay2 : zx Xy2 y2) (ay3 : zx Xy3 y3), zq 0 A (k21 (za_4 y0) Xy1 Xy2 Xy3 h) (zk21 y0 y1 y2 y3 s)) {A : Nat} {h : xrH} {s : zS} {x0 : Nat} {Xx1 : Int32} {x1 : Int} {Xx2 : Int32} {x2 : Int} {Xx3 : Int32} {x3 : Int} {Xs0 : Int32} {s0 : Int} (H : zH A h s) (ax0 : x0 < 1) (ax1 : zx Xx1 x1) (ax2 : zx Xx2 x2) (ax3 : zx Xx3 x3) (as0 : zx Xs0 s0) : zq 0 A (xf_52_56 k21 (za_4 x0) Xx1 Xx2 Xx3 Xs0 h) (zf_52_56 zk21 x0 x1 x2 x3 s0 s) := by
  unfold xf_52_56 zf_52_56
  exact (zq_c (zc_4 H ax0) (zq_c_i (zg_41 H ax0) fun v3 h101 s2 hv3 H1 => (zq_ne (zx_r hv3) zcn_0 (zg_52_93 k21 zk21 hk21 H1 ax0 ax1 ax2 ax3 as0) (zq_eq as0 zc32_m1 (zq_z H1 zc32_0) (zq_b (zo_257 H1 ax0) (zq_b (zi_260 H1 ax0) (zq_O H1 (zo_s H1 257 x0 0) fun q4 hq5 hA6 H7 => (zq_c (zc_7 H7 hq5) (zq_g fun g8 => (zq_g fun g9 => (zq_c_i (zg_99 H7 hq5 (zadd_x (zmul_x (zx_s H1 260 x0 0) zc8_8 g8) as0 g9)) fun v12 h106 s11 hv12 H10 => (zq_ne (zx_r hv12) zcn_0 (zg_52_93 k21 zk21 hk21 H10 ax0 ax1 ax2 ax3 as0) (zq_z H10 zc32_0)))))))))))))
theorem zg_52_21 : ∀ (n : Nat) {A : Nat} {h : xrH} {s : zS} {x0 : Nat} {Xx1 : Int32} {x1 : Int} {Xx2 : Int32} {x2 : Int} {Xx3 : Int32} {x3 : Int} (H : zH A h s) (ax0 : x0 < 1) (ax1 : zx Xx1 x1) (ax2 : zx Xx2 x2) (ax3 : zx Xx3 x3), zq 0 A (xf_52_21 n (za_4 x0) Xx1 Xx2 Xx3 h) (zf_52_21 n x0 x1 x2 x3 s) := by
  intro n
  induction n with
  | zero =>
    intros
    exact zq_none
  | succ n ih =>
    intro A h s x0 Xx1 x1 Xx2 x2 Xx3 x3 H ax0 ax1 ax2 ax3
    rw [xf_52_21, zf_52_21]
    exact (zq_ge ax3 zc8_100 (zq_z H zc32_0) (zq_c (zc_4 H ax0) (zq_c_i (zg_41 H ax0) fun v3 h101 s2 hv3 H1 => (zq_eq (zx_r hv3) zcn_0 (zq_b (zo_257 H1 ax0) (zq_b (zi_260 H1 ax0) (zq_b (zi_259 H1 ax0) (zq_O H1 (zo_s H1 257 x0 0) fun q4 hq5 hA6 H7 => (zq_c (zc_7 H7 hq5) (zq_g fun g8 => (zq_c_i (zg_98 H7 hq5 (zx_s H1 260 x0 0) (zsub_x (zx_s H1 259 x0 0) zc8_97 g8)) fun v11 h107 s10 hv11 H9 => (zg_52_56 (fun y0 y1 y2 y3 y => (xf_52_21 n y0 y1 y2 y3 y)) (fun y0 y1 y2 y3 y => (zf_52_21 n y0 y1 y2 y3 y)) (fun H ay0 ay1 ay2 ay3 => (ih H ay0 ay1 ay2 ay3)) H9 ax0 ax1 ax2 ax3 (zx_r hv11))))))))) (zg_52_56 (fun y0 y1 y2 y3 y => (xf_52_21 n y0 y1 y2 y3 y)) (fun y0 y1 y2 y3 y => (zf_52_21 n y0 y1 y2 y3 y)) (fun H ay0 ay1 ay2 ay3 => (ih H ay0 ay1 ay2 ay3)) H1 ax0 ax1 ax2 ax3 zc32_m1)))))
theorem zg_52 {A : Nat} {h : xrH} {s : zS} {x0 : Nat} {Xx1 : Int32} {x1 : Int} (H : zH A h s) (ax0 : x0 < 1) (ax1 : zx Xx1 x1) : zq 0 A (xf_52 (za_4 x0) Xx1 h) (zf_52 x0 x1 s) := by
  unfold xf_52 zf_52
  exact (zq_b (zo_257 H ax0) (zq_O H (zo_s H 257 x0 0) fun q1 hq2 hA3 H4 => (zq_b (zr_461 H4 hq2) (zq_b (zo_257 H4 ax0) (zq_O H4 (zo_s H4 257 x0 0) fun q5 hq6 hA7 H8 => (zq_b (zi_450 H8 hq6) (zq_W (fun hl => zwp_461 H8 (Nat.lt_of_lt_of_le hq2 hA7) ax1 (zx_s H8 450 q5 0) hl) fun h107 s10 H9 => (zg_52_21 xfu H9 ax0 ax1 zc8_43 zc32_0))))))))
theorem zg_51_70 {A : Nat} {h : xrH} {s : zS} {x0 : Nat} {Xx1 : Int32} {x1 : Int} (H : zH A h s) (ax0 : x0 < 1) (ax1 : zx Xx1 x1) : zq 0 A (xf_51_70 (za_4 x0) Xx1 h) (zf_51_70 x0 x1 s) := by
  unfold xf_51_70 zf_51_70
  exact (zq_b (zo_257 H ax0) (zq_O H (zo_s H 257 x0 0) fun q1 hq2 hA3 H4 => (zq_b (zr_465 H4 hq2) (zq_a (zw_465 H4 hq2) ax1 (zq_ne (zx_s H4 465 q1 x1) zc8_42 (zq_b (zo_257 H4 ax0) (zq_O H4 (zo_s H4 257 x0 0) fun q5 hq6 hA7 H8 => (zq_b (zr_465 H8 hq6) (zq_a (zw_465 H8 hq6) ax1 (zq_ne (zx_s H8 465 q5 x1) zc8_33 (zq_c (zc_4 H8 ax0) (zq_c_i (zg_52 H8 ax0 ax1) fun v11 h109 s10 hv11 H9 => (zq_eq (zx_r hv11) zcn_0 (zq_z H9 zc32_0) (zq_c (zc_4 H9 ax0) (zq_c_i (zg_39 H9 ax0 zc8_93) fun v14 h111 s13 hv14 H12 => (zq_eq (zx_r hv14) zcn_0 (zq_z H12 zc32_0) (zq_z H12 zc32_1))))))) (zq_b (zo_257 H8 ax0) (zq_O H8 (zo_s H8 257 x0 0) fun q15 hq16 hA17 H18 => (zq_b (zr_466 H18 hq16) (zq_c (zc_4 H18 ax0) (zq_c_i (zg_53 H18 ax0) fun v21 h116 s20 hv21 H19 => (zq_W (fun hl => zwp_466 H19 hq16 ax1 (zx_r hv21) hl) fun h118 s23 H22 => (zq_b (zo_257 H22 ax0) (zq_O H22 (zo_s H22 257 x0 0) fun q24 hq25 hA26 H27 => (zq_b (zr_466 H27 hq25) (zq_a (zw_466 H27 hq25) ax1 (zq_eq (zx_s H27 466 q24 x1) zc32_m1 (zq_z H27 zc32_0) (zq_c (zc_4 H27 ax0) (zq_c_i (zg_39 H27 ax0 zc8_93) fun v30 h123 s29 hv30 H28 => (zq_eq (zx_r hv30) zcn_0 (zq_z H28 zc32_0) (zq_z H28 zc32_1)))))))))))))))))))) (zq_c (zc_4 H4 ax0) (zq_c_i (zg_39 H4 ax0 zc8_93) fun v33 h125 s32 hv33 H31 => (zq_z H31 (zx_r hv33)))))))))
theorem zg_51_53 {A : Nat} {h : xrH} {s : zS} {x0 : Nat} {Xx1 : Int32} {x1 : Int} (H : zH A h s) (ax0 : x0 < 1) (ax1 : zx Xx1 x1) : zq 0 A (xf_51_53 (za_4 x0) Xx1 h) (zf_51_53 x0 x1 s) := by
  unfold xf_51_53 zf_51_53
  exact (zq_b (zo_257 H ax0) (zq_O H (zo_s H 257 x0 0) fun q1 hq2 hA3 H4 => (zq_b (zr_465 H4 hq2) (zq_b (zi_259 H4 ax0) (zq_W (fun hl => zwp_465 H4 hq2 ax1 (zx_s H4 259 x0 0) hl) fun h105 s6 H5 => (zq_c (zc_4 H5 ax0) (zq_c_v (zg_38 H5 ax0) fun _ h106 s8 _ H7 => (zg_51_70 H7 ax0 ax1))))))))
theorem zg_51 {A : Nat} {h : xrH} {s : zS} {x0 : Nat} {Xx1 : Int32} {x1 : Int} (H : zH A h s) (ax0 : x0 < 1) (ax1 : zx Xx1 x1) : zq 0 A (xf_51 (za_4 x0) Xx1 h) (zf_51 x0 x1 s) := by
  unfold xf_51 zf_51
  exact (zq_b (zo_257 H ax0) (zq_O H (zo_s H 257 x0 0) fun q1 hq2 hA3 H4 => (zq_b (zr_458 H4 hq2) (zq_W (fun hl => zwp_458 H4 hq2 ax1 zc8_91 hl) fun h104 s6 H5 => (zq_b (zo_257 H5 ax0) (zq_O H5 (zo_s H5 257 x0 0) fun q7 hq8 hA9 H10 => (zq_b (zr_465 H10 hq8) (zq_W (fun hl => zwp_465 H10 hq8 ax1 zc8_43 hl) fun h108 s12 H11 => (zq_c (zc_4 H11 ax0) (zq_c_v (zg_38 H11 ax0) fun _ h109 s14 _ H13 => (zq_b (zi_259 H13 ax0) (zq_eq (zx_s H13 259 x0 0) zc8_42 (zg_51_53 H13 ax0 ax1) (zq_b (zi_259 H13 ax0) (zq_eq (zx_s H13 259 x0 0) zc8_33 (zg_51_53 H13 ax0 ax1) (zq_b (zi_259 H13 ax0) (zq_ne (zx_s H13 259 x0 0) zc8_63 (zg_51_70 H13 ax0 ax1) (zg_51_53 H13 ax0 ax1)))))))))))))))))
theorem zg_47_106 {A : Nat} {h : xrH} {s : zS} {x0 : Nat} {Xx1 : Int32} {x1 : Int} {Xx2 : Int32} {x2 : Int} {s0 : Nat} {Xs1 : Int32} {s1 : Int} {Xs2 : Int32} {s2 : Int} (H : zH A h s) (ax0 : x0 < 1) (ax1 : zx Xx1 x1) (ax2 : zx Xx2 x2) (as0 : s0 < A) (as1 : zx Xs1 s1) (as2 : zx Xs2 s2) : zq 0 A (xf_47_106 (za_4 x0) Xx1 Xx2 (zy_459 s0) Xs1 Xs2 h) (zf_47_106 x0 x1 x2 s0 s1 s2 s) := by
  unfold xf_47_106 zf_47_106
  exact (zq_W (fun hl => zwp_459 H as0 as1 as2 hl) fun h101 s2 H1 => (zq_c (zc_4 H1 ax0) (zq_c_v (zg_38 H1 ax0) fun _ h102 s4 _ H3 => (zq_sw ax2 zcn_87 (zq_z H3 zc32_1) (zq_sw ax2 zcn_98 (zq_z H3 zc32_1) (zq_sw ax2 zcn_110 (zq_c (zc_4 H3 ax0) (zq_c_i (zg_49 H3 ax0 ax1) fun v40 h103 s39 hv40 H38 => (zq_z H38 (zx_r hv40)))) (zq_sw ax2 zcn_114 (zq_b (zo_257 H3 ax0) (zq_O H3 (zo_s H3 257 x0 0) fun q14 hq15 hA16 H17 => (zq_b (zr_463 H17 hq15) (zq_b (zo_257 H17 ax0) (zq_O H17 (zo_s H17 257 x0 0) fun q18 hq19 hA20 H21 => (zq_b (zi_451 H21 hq19) (zq_W (fun hl => zwp_463 H21 (Nat.lt_of_lt_of_le hq15 hA20) ax1 (zx_s H21 451 q18 0) hl) fun h111 s23 H22 => (zq_b (zo_257 H22 ax0) (zq_O H22 (zo_s H22 257 x0 0) fun q24 hq25 hA26 H27 => (zq_b (zr_464 H27 hq25) (zq_b (zo_257 H27 ax0) (zq_O H27 (zo_s H27 257 x0 0) fun q28 hq29 hA30 H31 => (zq_b (zi_451 H31 hq29) (zq_g fun g32 => (zq_W (fun hl => zwp_464 H31 (Nat.lt_of_lt_of_le hq25 hA30) ax1 (zadd_x (zx_s H31 451 q28 0) zc32_1 g32) hl) fun h118 s34 H33 => (zq_c (zc_4 H33 ax0) (zq_c_i (zg_48 H33 ax0) fun v37 h119 s36 hv37 H35 => (zq_z H35 (zx_r hv37))))))))))))))))))) (zq_sw ax2 zcn_115 (zq_c (zc_4 H3 ax0) (zq_c_i (zg_39 H3 ax0 zc8_40) fun v7 h121 s6 hv7 H5 => (zq_eq (zx_r hv7) zcn_0 (zq_z H5 zc32_0) (zq_c (zc_4 H5 ax0) (zq_c_i (zg_52 H5 ax0 ax1) fun v10 h123 s9 hv10 H8 => (zq_eq (zx_r hv10) zcn_0 (zq_z H8 zc32_0) (zq_c (zc_4 H8 ax0) (zq_c_i (zg_39 H8 ax0 zc8_41) fun v13 h125 s12 hv13 H11 => (zq_eq (zx_r hv13) zcn_0 (zq_z H11 zc32_0) (zq_z H11 zc32_1)))))))))) (zq_sw ax2 zcn_119 (zq_z H3 zc32_1) (zq_sw ax2 zcn_122 (zq_z H3 zc32_1) (zq_z H3 zc32_0)))))))))))
theorem zg_47_20 {A : Nat} {h : xrH} {s : zS} {x0 : Nat} {Xx1 : Int32} {x1 : Int} {Xx2 : Int32} {x2 : Int} (H : zH A h s) (ax0 : x0 < 1) (ax1 : zx Xx1 x1) (ax2 : zx Xx2 x2) : zq 0 A (xf_47_20 (za_4 x0) Xx1 Xx2 h) (zf_47_20 x0 x1 x2 s) := by
  unfold xf_47_20 zf_47_20
  exact (zq_c (zc_4 H ax0) (zq_c_i (zg_40 H ax0) fun v3 h101 s2 hv3 H1 => (zq_eq (zx_r hv3) zcn_0 (zq_b (zo_257 H1 ax0) (zq_O H1 (zo_s H1 257 x0 0) fun q4 hq5 hA6 H7 => (zq_b (zr_458 H7 hq5) (zq_W (fun hl => zwp_458 H7 hq5 ax1 ax2 hl) fun h106 s9 H8 => (zq_b (zo_257 H8 ax0) (zq_O H8 (zo_s H8 257 x0 0) fun q10 hq11 hA12 H13 => (zq_b (zr_459 H13 hq11) (zq_eq ax2 zc8_119 (zg_47_106 H13 ax0 ax1 ax2 hq11 ax1 zc8_16) (zq_ne ax2 zc8_87 (zg_47_106 H13 ax0 ax1 ax2 hq11 ax1 zc8_8) (zg_47_106 H13 ax0 ax1 ax2 hq11 ax1 zc8_16)))))))))) (zq_b (zo_257 H1 ax0) (zq_O H1 (zo_s H1 257 x0 0) fun q14 hq15 hA16 H17 => (zq_b (zr_458 H17 hq15) (zq_W (fun hl => zwp_458 H17 hq15 ax1 zc8_65 hl) fun h113 s19 H18 => (zq_c (zc_4 H18 ax0) (zq_c_i (zg_50 H18 ax0 ax1) fun v22 h114 s21 hv22 H20 => (zq_eq (zx_r hv22) zcn_0 (zq_z H20 zc32_0) (zq_b (zi_259 H20 ax0) (zq_ne (zx_s H20 259 x0 0) zc8_91 (zq_z H20 zc32_1) (zq_c (zc_4 H20 ax0) (zq_c_i (zg_51 H20 ax0 ax1) fun v25 h117 s24 hv25 H23 => (zq_eq (zx_r hv25) zcn_0 (zq_z H23 zc32_0) (zq_z H23 zc32_1))))))))))))))))
theorem zg_47 {A : Nat} {h : xrH} {s : zS} {x0 : Nat} {Xx1 : Int32} {x1 : Int} (H : zH A h s) (ax0 : x0 < 1) (ax1 : zx Xx1 x1) : zq 0 A (xf_47 (za_4 x0) Xx1 h) (zf_47 x0 x1 s) := by
  unfold xf_47 zf_47
  exact (zq_b (zi_259 H ax0) (zq_eq (zx_s H 259 x0 0) zc8_110 (zg_47_20 H ax0 ax1 (zx_s H 259 x0 0)) (zq_b (zi_261 H ax0) (zq_eq (zx_s H 261 x0 0) zcn_0 (zg_47_20 H ax0 ax1 (zx_s H 259 x0 0)) (zq_z H zc32_0)))))
theorem zg_54_88 {A : Nat} {h : xrH} {s : zS} {x0 : Nat} {Xx1 : Int32} {x1 : Int} (H : zH A h s) (ax0 : x0 < 1) (ax1 : zx Xx1 x1) : zq 0 A (xf_54_88 (za_4 x0) Xx1 h) (zf_54_88 x0 x1 s) := by
  unfold xf_54_88 zf_54_88
  exact (zq_b (zo_257 H ax0) (zq_O H (zo_s H 257 x0 0) fun q1 hq2 hA3 H4 => (zq_b (zr_467 H4 hq2) (zq_b (zi_259 H4 ax0) (zq_W (fun hl => zwp_467 H4 hq2 ax1 (zx_s H4 259 x0 0) hl) fun h105 s6 H5 => (zq_c (zc_4 H5 ax0) (zq_c_v (zg_38 H5 ax0) fun _ h106 s8 _ H7 => (zq_b (zo_257 H7 ax0) (zq_O H7 (zo_s H7 257 x0 0) fun q9 hq10 hA11 H12 => (zq_b (zr_468 H12 hq10) (zq_b (zi_259 H12 ax0) (zq_g fun g13 => (zq_W (fun hl => zwp_468 H12 hq10 ax1 (zsub_x (zx_s H12 259 x0 0) zc8_97 g13) hl) fun h111 s15 H14 => (zq_c (zc_4 H14 ax0) (zq_c_v (zg_38 H14 ax0) fun _ h112 s17 _ H16 => (zq_z H16 zc32_1))))))))))))))))
theorem zg_54 {A : Nat} {h : xrH} {s : zS} {x0 : Nat} {Xx1 : Int32} {x1 : Int} (H : zH A h s) (ax0 : x0 < 1) (ax1 : zx Xx1 x1) : zq 0 A (xf_54 (za_4 x0) Xx1 h) (zf_54 x0 x1 s) := by
  unfold xf_54 zf_54
  exact (zq_b (zo_257 H ax0) (zq_O H (zo_s H 257 x0 0) fun q1 hq2 hA3 H4 => (zq_c (zc_7 H4 hq2) (zq_c_i (zg_101 H4 hq2 ax1) fun v7 h103 s6 hv7 H5 => (zq_ne (zx_r hv7) zcn_0 (zq_c (zc_4 H5 ax0) (zq_c_v (zg_38 H5 ax0) fun _ h105 s9 _ H8 => (zq_c (zc_4 H8 ax0) (zq_c_i (zg_41 H8 ax0) fun v12 h106 s11 hv12 H10 => (zq_eq (zx_r hv12) zcn_0 (zq_b (zi_259 H10 ax0) (zq_eq (zx_s H10 259 x0 0) zc8_35 (zg_54_88 H10 ax0 ax1) (zq_b (zi_259 H10 ax0) (zq_eq (zx_s H10 259 x0 0) zc8_37 (zg_54_88 H10 ax0 ax1) (zq_b (zi_259 H10 ax0) (zq_eq (zx_s H10 259 x0 0) zc8_43 (zg_54_88 H10 ax0 ax1) (zq_b (zi_259 H10 ax0) (zq_eq (zx_s H10 259 x0 0) zc8_94 (zg_54_88 H10 ax0 ax1) (zq_z H10 zc32_0))))))))) (zq_b (zo_257 H10 ax0) (zq_O H10 (zo_s H10 257 x0 0) fun q13 hq14 hA15 H16 => (zq_b (zr_467 H16 hq14) (zq_W (fun hl => zwp_467 H16 hq14 ax1 zc8_61 hl) fun h115 s18 H17 => (zq_b (zo_257 H17 ax0) (zq_O H17 (zo_s H17 257 x0 0) fun q19 hq20 hA21 H22 => (zq_b (zr_468 H22 hq20) (zq_c (zc_4 H22 ax0) (zq_c_i (zg_53 H22 ax0) fun v25 h119 s24 hv25 H23 => (zq_W (fun hl => zwp_468 H23 hq20 ax1 (zx_r hv25) hl) fun h121 s27 H26 => (zq_z H26 zc32_1)))))))))))))))) (zq_z H5 zc32_0))))))
theorem zg_46_98 {A : Nat} {h : xrH} {s : zS} {x0 : Nat} (H : zH A h s) (ax0 : x0 < 1) : zq 0 A (xf_46_98 (za_4 x0) h) (zf_46_98 x0 s) := by
  unfold xf_46_98 zf_46_98
  exact (zq_b (zo_257 H ax0) (zq_O H (zo_s H 257 x0 0) fun q1 hq2 hA3 H4 => (zq_b (zr_453 H4 hq2) (zq_b (zi_260 H4 ax0) (zq_a (zw_453 H4 hq2) (zx_s H4 260 x0 0) (zq_g fun g5 => (zq_W (fun hl => zwp_453 H4 hq2 (zx_s H4 260 x0 0) (zadd_x (zx_s H4 453 q1 (s.1 260 x0 0)) zc32_1 g5) hl) fun h106 s7 H6 => (zq_c (zc_4 H6 ax0) (zq_c_i (zg_39 H6 ax0 zc8_59) fun v10 h107 s9 hv10 H8 => (zq_z H8 (zx_r hv10)))))))))))
theorem zg_46 {A : Nat} {h : xrH} {s : zS} {x0 : Nat} {Xx1 : Int32} {x1 : Int} (H : zH A h s) (ax0 : x0 < 1) (ax1 : zx Xx1 x1) : zq 0 A (xf_46 (za_4 x0) Xx1 h) (zf_46 x0 x1 s) := by
  unfold xf_46 zf_46
  exact (zq_b (zi_259 H ax0) (zq_g fun g1 => (zq_lt (zsub_x (zx_s H 259 x0 0) zc8_97 g1) zcn_0 (zq_z H zc32_0) (zq_ge (zsub_x (zx_s H 259 x0 0) zc8_97 g1) zc8_26 (zq_z H zc32_0) (zq_b (zo_257 H ax0) (zq_b (zi_260 H ax0) (zq_O H (zo_s H 257 x0 0) fun q2 hq3 hA4 H5 => (zq_c (zc_7 H5 hq3) (zq_c_i (zg_98 H5 hq3 (zx_s H 260 x0 0) (zsub_x (zx_s H 259 x0 0) zc8_97 g1)) fun v8 h105 s7 hv8 H6 => (zq_eq (zx_r hv8) zc32_m1 (zq_c (zc_4 H6 ax0) (zq_c_v (zg_38 H6 ax0) fun _ h107 s10 _ H9 => (zq_c (zc_4 H9 ax0) (zq_c_i (zg_39 H9 ax0 zc8_58) fun v13 h108 s12 hv13 H11 => (zq_eq (zx_r hv13) zcn_0 (zq_z H11 zc32_0) (zq_c (zc_4 H11 ax0) (zq_c_i (zg_47 H11 ax0 ax1) fun v16 h110 s15 hv16 H14 => (zq_ne (zx_r hv16) zcn_0 (zq_b (zo_257 H14 ax0) (zq_O H14 (zo_s H14 257 x0 0) fun q17 hq18 hA19 H20 => (zq_b (zr_457 H20 hq18) (zq_W (fun hl => zwp_457 H20 hq18 ax1 (zsub_x (zx_s H 259 x0 0) zc8_97 g1) hl) fun h115 s22 H21 => (zq_b (zo_257 H21 ax0) (zq_O H21 (zo_s H21 257 x0 0) fun q23 hq24 hA25 H26 => (zq_b (zr_467 H26 hq24) (zq_W (fun hl => zwp_467 H26 hq24 ax1 zc32_0 hl) fun h119 s28 H27 => (zq_b (zi_259 H27 ax0) (zq_ne (zx_s H27 259 x0 0) zc8_61 (zg_46_98 H27 ax0) (zq_c (zc_4 H27 ax0) (zq_c_i (zg_54 H27 ax0 ax1) fun v31 h121 s30 hv31 H29 => (zq_ne (zx_r hv31) zcn_0 (zg_46_98 H29 ax0) (zq_z H29 zc32_0)))))))))))))) (zq_z H14 zc32_0))))))))) (zq_z H6 zc32_0)))))))))))
theorem zg_36_73 (k8 : Nat → Int32 → xrH → xrR) (zk8 : Nat → Int → zS → zR) (hk8 : ∀ {A : Nat} {h : xrH} {s : zS} {y0 : Nat} {Xy1 : Int32} {y1 : Int} (H : zH A h s) (ay0 : y0 < 1) (ay1 : zx Xy1 y1), zq 0 A (k8 (za_4 y0) Xy1 h) (zk8 y0 y1 s)) {A : Nat} {h : xrH} {s : zS} {x0 : Nat} {Xx3 : Int32} {x3 : Int} (H : zH A h s) (ax0 : x0 < 1) (ax3 : zx Xx3 x3) : zq 0 A (xf_36_73 k8 (za_4 x0) Xx3 h) (zf_36_73 zk8 x0 x3 s) := by
  unfold xf_36_73 zf_36_73
  exact (zq_c (zc_4 H ax0) (zq_c_i (zg_43 H ax0) fun v3 h101 s2 hv3 H1 => (zq_ne (zx_r hv3) zcn_0 (zq_g fun g4 => (hk8 H1 ax0 (zadd_x ax3 zc32_1 g4))) (zq_z H1 zc32_0))))
theorem zg_36_35 (k8 : Nat → Int32 → xrH → xrR) (zk8 : Nat → Int → zS → zR) (hk8 : ∀ {A : Nat} {h : xrH} {s : zS} {y0 : Nat} {Xy1 : Int32} {y1 : Int} (H : zH A h s) (ay0 : y0 < 1) (ay1 : zx Xy1 y1), zq 0 A (k8 (za_4 y0) Xy1 h) (zk8 y0 y1 s)) : ∀ (n : Nat) {A : Nat} {h : xrH} {s : zS} {x0 : Nat} {Xx3 : Int32} {x3 : Int} {Xx4 : Int32} {x4 : Int} (H : zH A h s) (ax0 : x0 < 1) (ax3 : zx Xx3 x3) (ax4 : zx Xx4 x4), zq 0 A (xf_36_35 k8 n (za_4 x0) Xx3 Xx4 h) (zf_36_35 zk8 n x0 x3 x4 s) := by
  intro n
  induction n with
  | zero =>
    intros
    exact zq_none
  | succ n ih =>
    intro A h s x0 Xx3 x3 Xx4 x4 H ax0 ax3 ax4
    rw [xf_36_35, zf_36_35]
    exact (zq_ge ax4 zc8_8 (zg_36_73 k8 zk8 hk8 H ax0 ax3) (zq_b (zi_259 H ax0) (zq_eq (zx_s H 259 x0 0) zc8_125 (zg_36_73 k8 zk8 hk8 H ax0 ax3) (zq_c (zc_4 H ax0) (zq_g fun g1 => (zq_g fun g2 => (zq_c_i (zg_46 H ax0 (zadd_x (zmul_x ax3 zc8_8 g1) ax4 g2)) fun v5 h102 s4 hv5 H3 => (zq_ne (zx_r hv5) zcn_0 (zq_g fun g6 => (ih H3 ax0 ax3 (zadd_x ax4 zc32_1 g6))) (zq_z H3 zc32_0)))))))))
theorem zg_36_88 {A : Nat} {h : xrH} {s : zS} {x0 : Nat} (H : zH A h s) (ax0 : x0 < 1) : zq 0 A (xf_36_88 (za_4 x0) h) (zf_36_88 x0 s) := by
  unfold xf_36_88 zf_36_88
  exact (zq_b (zi_259 H ax0) (zq_ne (zx_s H 259 x0 0) zc32_m1 (zq_z H zc32_0) (zq_b (zo_257 H ax0) (zq_O H (zo_s H 257 x0 0) fun q1 hq2 hA3 H4 => (zq_b (zi_449 H4 hq2) (zq_le (zx_s H4 449 q1 0) zcn_0 (zq_z H4 zc32_0) (zq_c (zc_4 H4 ax0) (zq_c_i (zg_44 H4 ax0) fun v7 h105 s6 hv7 H5 => (zq_eq (zx_r hv7) zcn_0 (zq_z H5 zc32_0) (zq_z H5 zc32_1))))))))))
theorem zg_36_8 : ∀ (n : Nat) {A : Nat} {h : xrH} {s : zS} {x0 : Nat} {Xx3 : Int32} {x3 : Int} (H : zH A h s) (ax0 : x0 < 1) (ax3 : zx Xx3 x3), zq 0 A (xf_36_8 n (za_4 x0) Xx3 h) (zf_36_8 n x0 x3 s) := by
  intro n
  induction n with
  | zero =>
    intros
    exact zq_none
  | succ n ih =>
    intro A h s x0 Xx3 x3 H ax0 ax3
    rw [xf_36_8, zf_36_8]
    exact (zq_ge ax3 zc8_6 (zg_36_88 H ax0) (zq_b (zi_259 H ax0) (zq_eq (zx_s H 259 x0 0) zc32_m1 (zg_36_88 H ax0) (zq_c (zc_4 H ax0) (zq_c_i (zg_42 H ax0 ax3) fun v3 h102 s2 hv3 H1 => (zq_ne (zx_r hv3) zcn_0 (zg_36_35 (fun y0 y1 y => (xf_36_8 n y0 y1 y)) (fun y0 y1 y => (zf_36_8 n y0 y1 y)) (fun H ay0 ay1 => (ih H ay0 ay1)) xfu H1 ax0 ax3 zc32_0) (zq_z H1 zc32_0)))))))
theorem zg_36 {A : Nat} {h : xrH} {s : zS} {x0 : Nat} {x1 : Nat} {Xx2 : Option Nat} {x2 : Int} (H : zH A h s) (ax0 : x0 < 1) (ax1 : x1 < 3) (ax2 : zo Xx2 x2) : zq 0 A (xf_36 (za_4 x0) (za_0 x1) Xx2 h) (zf_36 x0 x1 x2 s) := by
  unfold xf_36 zf_36
  exact (zq_c (zc_4 H ax0) (zq_c_v (zg_37 H ax0 ax1 ax2) fun _ h101 s2 _ H1 => (zg_36_8 xfu H1 ax0 zc32_0)))
theorem zg_130_38 {A : Nat} {h : xrH} {s : zS} {x0 : Nat} (H : zH A h s) (ax0 : x0 < 1) : zq 2 A (xf_130_38 (za_8 x0) h) (zf_130_38 x0 s) := by
  unfold xf_130_38 zf_130_38
  exact (zq_b (zr_515 H ax0) (zq_b (zi_522 H ax0) (zq_q (zw_515 H ax0) (zx_s H 522 x0 0) (zq_o H (zo_s H 515 x0 (s.1 522 x0 0))))))
theorem zg_107_49 {A : Nat} {h : xrH} {s : zS} {x0 : Nat} {Xx1 : Int32} {x1 : Int} {Xx2 : Option Nat} {x2 : Int} {Xs0 : Int32} {s0 : Int} (H : zH A h s) (ax0 : x0 < 1) (ax1 : zx Xx1 x1) (ax2 : zo Xx2 x2) (as0 : zx Xs0 s0) : zq 0 A (xf_107_49 (za_8 x0) Xx1 Xx2 Xs0 h) (zf_107_49 x0 x1 x2 s0 s) := by
  unfold xf_107_49 zf_107_49
  exact (zq_b (zr_512 H ax0) (zq_P (zpi_1 H (by decide) zc32_0) fun h102 s2 H1 => (zq_ne as0 zcn_0 (zq_O H1 ax2 fun q3 hq4 hA5 H6 => (zq_P (zpi_448 H6 hq4 ax1) fun h104 s8 H7 => (zq_P (zpi_523 H7 ax0 zc8_m3) fun h105 s10 H9 => (zq_b (zi_522 H9 ax0) (zq_g fun g13 => (zq_P (zpi_522 H9 ax0 (zadd_x (zx_s H9 522 x0 0) zc32_1 g13)) fun h107 s12 H11 => (zq_b (zi_522 H11 ax0) (zq_g fun g14 => (zq_i H11 (zsub_x (zx_s H11 522 x0 0) zc32_1 g14)))))))))) (zq_t H1))))
/-- a template in the making: from h0 on, its fields, the lengths of its arrays so far -/
def znb (h0 : xrH) (fs : List Value) (ls : List Nat) (h : xrH) : Prop := h.1 = h0.1 + 1 + ls.length ∧ h.2.1 = h0.2.1 + 21 + ls.sum ∧ h.2.2.1 = h0.2.2.1 + 1 + ls.length ∧ xr_M h h0.2.2.1 = .inr (7, fs) ∧ (∀ j k, ls[j]? = some k → xr_M h (h0.2.2.1 + 1 + j) = .inl (.int, k, .inl fun _ => 0)) ∧ (∀ a, a < h0.2.2.1 → xr_M h a = xr_M h0 a)
theorem znb_p {h0 h : xrH} {fs : List Value} {ls : List Nat} {k f : Nat} {v : Value} {fs' : List Value} (z : znb h0 fs ls h) (hfs : fs.set (f % 64) v = fs') (h1 : (Nat.beq 7 (f / 64) && Nat.blt (f % 64) fs.length) = true) (h2 : xr_tak k v = true) : ∃ h', xo_p k h h0.2.2.1 f v = some h' ∧ znb h0 fs' ls h' := by
  subst hfs
  obtain ⟨a1, a2, a3, a4, a5, a6⟩ := z
  refine ⟨_, zxp_eq a4 h1 h2, a1, a2, a3, ?_, ?_, ?_⟩
  · show va_up h.2.2.2 h0.2.2.1 _ h0.2.2.1 = _
    unfold va_up
    rw [if_pos rfl]
  · intro j k hj
    show va_up h.2.2.2 h0.2.2.1 _ (h0.2.2.1 + 1 + j) = _
    unfold va_up
    rw [if_neg (by omega)]
    exact a5 j k hj
  · intro a ha
    show va_up h.2.2.2 h0.2.2.1 _ a = _
    unfold va_up
    rw [if_neg (by omega)]
    exact a6 a ha
theorem znb_n {h0 h : xrH} {fs : List Value} {ls : List Nat} {X : Int32} {ls' : List Nat} (m j : Nat) (z : znb h0 fs ls h) (hls : ls ++ [m] = ls') (hj : ls.length = j) (hX : X.toNatClampNeg = m) (hX0 : ¬ X < 0) (hm : m ≤ 65536) : ∃ h', (∀ K : Nat → xrH → xrR, xn_a h .int X K = K (h0.2.2.1 + 1 + j) h') ∧ znb h0 fs ls' h' := by
  subst hls
  obtain ⟨a1, a2, a3, a4, a5, a6⟩ := z
  refine ⟨xr_new h m (.inl (.int, m, .inl fun _ => 0)), ?_, ?_, ?_, ?_, ?_, ?_, ?_⟩
  · intro K
    unfold xn_a
    rw [hX, if_neg (by intro q; rcases q with q | q; exact hX0 q; omega), a3, hj]
    rfl
  · show h.1 + 1 = _
    rw [a1, List.length_append]
    rfl
  · show h.2.1 + m = _
    rw [a2, List.sum_append]
    simp
    omega
  · show h.2.2.1 + 1 = _
    rw [a3, List.length_append]
    rfl
  · show va_up h.2.2.2 h.2.2.1 _ h0.2.2.1 = _
    unfold va_up
    rw [if_neg (by omega)]
    exact a4
  · intro j k hj
    show va_up h.2.2.2 h.2.2.1 _ (h0.2.2.1 + 1 + j) = _
    unfold va_up
    by_cases hl : j < ls.length
    · rw [if_neg (by omega)]
      rw [List.getElem?_append_left hl] at hj
      exact a5 j k hj
    · have hj2 : j = ls.length := by
        by_cases h3 : j = ls.length
        · exact h3
        · rw [List.getElem?_eq_none (by simp; omega)] at hj
          cases hj
      subst hj2
      rw [if_pos (by omega)]
      simp at hj
      rw [hj]
  · intro a ha
    show va_up h.2.2.2 h.2.2.1 _ a = _
    unfold va_up
    rw [if_neg (by omega)]
    exact a6 a ha
set_option maxRecDepth 10000 in
theorem zf95 {h0 h : xrH} (n0 : znb h0 xt_dX7 [] h) : ∃ h', xf_95 h0.2.2.1 h = some (.inl none, h') ∧ znb h0 [.int (Int32.ofInt 0), .int (Int32.ofInt 0), .int (Int32.ofInt 0), .int (Int32.ofInt 0), .ref (h0.2.2.1 + 1 + 0), .ref (h0.2.2.1 + 1 + 1), .ref (h0.2.2.1 + 1 + 2), .ref (h0.2.2.1 + 1 + 3), .ref (h0.2.2.1 + 1 + 4), .ref (h0.2.2.1 + 1 + 5), .ref (h0.2.2.1 + 1 + 6), .ref (h0.2.2.1 + 1 + 7), .ref (h0.2.2.1 + 1 + 8), .ref (h0.2.2.1 + 1 + 9), .ref (h0.2.2.1 + 1 + 10), .ref (h0.2.2.1 + 1 + 11), .ref (h0.2.2.1 + 1 + 12), .ref (h0.2.2.1 + 1 + 13), .ref (h0.2.2.1 + 1 + 14), .ref (h0.2.2.1 + 1 + 15), .ref (h0.2.2.1 + 1 + 16)] [6, 6, 100, 100, 100, 48, 48, 48, 48, 48, 48, 48, 48, 48, 48, 48, 48] h' := by
  unfold xf_95
  obtain ⟨h1, e1, n1⟩ := znb_p (k := 0) (f := 448) (v := .int (Int32.ofInt 0)) (fs' := [.int (Int32.ofInt 0), .int 0, .int 0, .int 0, .null, .null, .null, .null, .null, .null, .null, .null, .null, .null, .null, .null, .null, .null, .null, .null, .null]) n0 rfl rfl rfl
  rw [e1, Option.bind_some]
  obtain ⟨h2, e2, n2⟩ := znb_p (k := 0) (f := 449) (v := .int (Int32.ofInt 0)) (fs' := [.int (Int32.ofInt 0), .int (Int32.ofInt 0), .int 0, .int 0, .null, .null, .null, .null, .null, .null, .null, .null, .null, .null, .null, .null, .null, .null, .null, .null, .null]) n1 rfl rfl rfl
  rw [e2, Option.bind_some]
  obtain ⟨h3, e3, n3⟩ := znb_p (k := 0) (f := 450) (v := .int (Int32.ofInt 0)) (fs' := [.int (Int32.ofInt 0), .int (Int32.ofInt 0), .int (Int32.ofInt 0), .int 0, .null, .null, .null, .null, .null, .null, .null, .null, .null, .null, .null, .null, .null, .null, .null, .null, .null]) n2 rfl rfl rfl
  rw [e3, Option.bind_some]
  obtain ⟨h4, e4, n4⟩ := znb_p (k := 0) (f := 451) (v := .int (Int32.ofInt 0)) (fs' := [.int (Int32.ofInt 0), .int (Int32.ofInt 0), .int (Int32.ofInt 0), .int (Int32.ofInt 0), .null, .null, .null, .null, .null, .null, .null, .null, .null, .null, .null, .null, .null, .null, .null, .null, .null]) n3 rfl rfl rfl
  rw [e4, Option.bind_some]
  obtain ⟨h5, e5, n5⟩ := znb_n (X := (Int8.ofInt 6).toInt32) (ls' := [6]) 6 0 n4 rfl rfl (by decide) (by decide) (by decide)
  rw [e5]
  obtain ⟨h6, e6, n6⟩ := znb_p (k := 2) (f := 452) (v := .ref (h0.2.2.1 + 1 + 0)) (fs' := [.int (Int32.ofInt 0), .int (Int32.ofInt 0), .int (Int32.ofInt 0), .int (Int32.ofInt 0), .ref (h0.2.2.1 + 1 + 0), .null, .null, .null, .null, .null, .null, .null, .null, .null, .null, .null, .null, .null, .null, .null, .null]) n5 rfl rfl rfl
  rw [e6, Option.bind_some]
  obtain ⟨h7, e7, n7⟩ := znb_n (X := (Int8.ofInt 6).toInt32) (ls' := [6, 6]) 6 1 n6 rfl rfl (by decide) (by decide) (by decide)
  rw [e7]
  obtain ⟨h8, e8, n8⟩ := znb_p (k := 2) (f := 453) (v := .ref (h0.2.2.1 + 1 + 1)) (fs' := [.int (Int32.ofInt 0), .int (Int32.ofInt 0), .int (Int32.ofInt 0), .int (Int32.ofInt 0), .ref (h0.2.2.1 + 1 + 0), .ref (h0.2.2.1 + 1 + 1), .null, .null, .null, .null, .null, .null, .null, .null, .null, .null, .null, .null, .null, .null, .null]) n7 rfl rfl rfl
  rw [e8, Option.bind_some]
  obtain ⟨h9, e9, n9⟩ := znb_n (X := (Int8.ofInt 100).toInt32) (ls' := [6, 6, 100]) 100 2 n8 rfl rfl (by decide) (by decide) (by decide)
  rw [e9]
  obtain ⟨h10, e10, n10⟩ := znb_p (k := 2) (f := 454) (v := .ref (h0.2.2.1 + 1 + 2)) (fs' := [.int (Int32.ofInt 0), .int (Int32.ofInt 0), .int (Int32.ofInt 0), .int (Int32.ofInt 0), .ref (h0.2.2.1 + 1 + 0), .ref (h0.2.2.1 + 1 + 1), .ref (h0.2.2.1 + 1 + 2), .null, .null, .null, .null, .null, .null, .null, .null, .null, .null, .null, .null, .null, .null]) n9 rfl rfl rfl
  rw [e10, Option.bind_some]
  obtain ⟨h11, e11, n11⟩ := znb_n (X := (Int8.ofInt 100).toInt32) (ls' := [6, 6, 100, 100]) 100 3 n10 rfl rfl (by decide) (by decide) (by decide)
  rw [e11]
  obtain ⟨h12, e12, n12⟩ := znb_p (k := 2) (f := 455) (v := .ref (h0.2.2.1 + 1 + 3)) (fs' := [.int (Int32.ofInt 0), .int (Int32.ofInt 0), .int (Int32.ofInt 0), .int (Int32.ofInt 0), .ref (h0.2.2.1 + 1 + 0), .ref (h0.2.2.1 + 1 + 1), .ref (h0.2.2.1 + 1 + 2), .ref (h0.2.2.1 + 1 + 3), .null, .null, .null, .null, .null, .null, .null, .null, .null, .null, .null, .null, .null]) n11 rfl rfl rfl
  rw [e12, Option.bind_some]
  obtain ⟨h13, e13, n13⟩ := znb_n (X := (Int8.ofInt 100).toInt32) (ls' := [6, 6, 100, 100, 100]) 100 4 n12 rfl rfl (by decide) (by decide) (by decide)
  rw [e13]
  obtain ⟨h14, e14, n14⟩ := znb_p (k := 2) (f := 456) (v := .ref (h0.2.2.1 + 1 + 4)) (fs' := [.int (Int32.ofInt 0), .int (Int32.ofInt 0), .int (Int32.ofInt 0), .int (Int32.ofInt 0), .ref (h0.2.2.1 + 1 + 0), .ref (h0.2.2.1 + 1 + 1), .ref (h0.2.2.1 + 1 + 2), .ref (h0.2.2.1 + 1 + 3), .ref (h0.2.2.1 + 1 + 4), .null, .null, .null, .null, .null, .null, .null, .null, .null, .null, .null, .null]) n13 rfl rfl rfl
  rw [e14, Option.bind_some]
  obtain ⟨h15, e15, n15⟩ := znb_n (X := (Int8.ofInt 48).toInt32) (ls' := [6, 6, 100, 100, 100, 48]) 48 5 n14 rfl rfl (by decide) (by decide) (by decide)
  rw [e15]
  obtain ⟨h16, e16, n16⟩ := znb_p (k := 2) (f := 457) (v := .ref (h0.2.2.1 + 1 + 5)) (fs' := [.int (Int32.ofInt 0), .int (Int32.ofInt 0), .int (Int32.ofInt 0), .int (Int32.ofInt 0), .ref (h0.2.2.1 + 1 + 0), .ref (h0.2.2.1 + 1 + 1), .ref (h0.2.2.1 + 1 + 2), .ref (h0.2.2.1 + 1 + 3), .ref (h0.2.2.1 + 1 + 4), .ref (h0.2.2.1 + 1 + 5), .null, .null, .null, .null, .null, .null, .null, .null, .null, .null, .null]) n15 rfl rfl rfl
  rw [e16, Option.bind_some]
  obtain ⟨h17, e17, n17⟩ := znb_n (X := (Int8.ofInt 48).toInt32) (ls' := [6, 6, 100, 100, 100, 48, 48]) 48 6 n16 rfl rfl (by decide) (by decide) (by decide)
  rw [e17]
  obtain ⟨h18, e18, n18⟩ := znb_p (k := 2) (f := 458) (v := .ref (h0.2.2.1 + 1 + 6)) (fs' := [.int (Int32.ofInt 0), .int (Int32.ofInt 0), .int (Int32.ofInt 0), .int (Int32.ofInt 0), .ref (h0.2.2.1 + 1 + 0), .ref (h0.2.2.1 + 1 + 1), .ref (h0.2.2.1 + 1 + 2), .ref (h0.2.2.1 + 1 + 3), .ref (h0.2.2.1 + 1 + 4), .ref (h0.2.2.1 + 1 + 5), .ref (h0.2.2.1 + 1 + 6), .null, .null, .null, .null, .null, .null, .null, .null, .null, .null]) n17 rfl rfl rfl
  rw [e18, Option.bind_some]
  obtain ⟨h19, e19, n19⟩ := znb_n (X := (Int8.ofInt 48).toInt32) (ls' := [6, 6, 100, 100, 100, 48, 48, 48]) 48 7 n18 rfl rfl (by decide) (by decide) (by decide)
  rw [e19]
  obtain ⟨h20, e20, n20⟩ := znb_p (k := 2) (f := 459) (v := .ref (h0.2.2.1 + 1 + 7)) (fs' := [.int (Int32.ofInt 0), .int (Int32.ofInt 0), .int (Int32.ofInt 0), .int (Int32.ofInt 0), .ref (h0.2.2.1 + 1 + 0), .ref (h0.2.2.1 + 1 + 1), .ref (h0.2.2.1 + 1 + 2), .ref (h0.2.2.1 + 1 + 3), .ref (h0.2.2.1 + 1 + 4), .ref (h0.2.2.1 + 1 + 5), .ref (h0.2.2.1 + 1 + 6), .ref (h0.2.2.1 + 1 + 7), .null, .null, .null, .null, .null, .null, .null, .null, .null]) n19 rfl rfl rfl
  rw [e20, Option.bind_some]
  obtain ⟨h21, e21, n21⟩ := znb_n (X := (Int8.ofInt 48).toInt32) (ls' := [6, 6, 100, 100, 100, 48, 48, 48, 48]) 48 8 n20 rfl rfl (by decide) (by decide) (by decide)
  rw [e21]
  obtain ⟨h22, e22, n22⟩ := znb_p (k := 2) (f := 460) (v := .ref (h0.2.2.1 + 1 + 8)) (fs' := [.int (Int32.ofInt 0), .int (Int32.ofInt 0), .int (Int32.ofInt 0), .int (Int32.ofInt 0), .ref (h0.2.2.1 + 1 + 0), .ref (h0.2.2.1 + 1 + 1), .ref (h0.2.2.1 + 1 + 2), .ref (h0.2.2.1 + 1 + 3), .ref (h0.2.2.1 + 1 + 4), .ref (h0.2.2.1 + 1 + 5), .ref (h0.2.2.1 + 1 + 6), .ref (h0.2.2.1 + 1 + 7), .ref (h0.2.2.1 + 1 + 8), .null, .null, .null, .null, .null, .null, .null, .null]) n21 rfl rfl rfl
  rw [e22, Option.bind_some]
  obtain ⟨h23, e23, n23⟩ := znb_n (X := (Int8.ofInt 48).toInt32) (ls' := [6, 6, 100, 100, 100, 48, 48, 48, 48, 48]) 48 9 n22 rfl rfl (by decide) (by decide) (by decide)
  rw [e23]
  obtain ⟨h24, e24, n24⟩ := znb_p (k := 2) (f := 461) (v := .ref (h0.2.2.1 + 1 + 9)) (fs' := [.int (Int32.ofInt 0), .int (Int32.ofInt 0), .int (Int32.ofInt 0), .int (Int32.ofInt 0), .ref (h0.2.2.1 + 1 + 0), .ref (h0.2.2.1 + 1 + 1), .ref (h0.2.2.1 + 1 + 2), .ref (h0.2.2.1 + 1 + 3), .ref (h0.2.2.1 + 1 + 4), .ref (h0.2.2.1 + 1 + 5), .ref (h0.2.2.1 + 1 + 6), .ref (h0.2.2.1 + 1 + 7), .ref (h0.2.2.1 + 1 + 8), .ref (h0.2.2.1 + 1 + 9), .null, .null, .null, .null, .null, .null, .null]) n23 rfl rfl rfl
  rw [e24, Option.bind_some]
  obtain ⟨h25, e25, n25⟩ := znb_n (X := (Int8.ofInt 48).toInt32) (ls' := [6, 6, 100, 100, 100, 48, 48, 48, 48, 48, 48]) 48 10 n24 rfl rfl (by decide) (by decide) (by decide)
  rw [e25]
  obtain ⟨h26, e26, n26⟩ := znb_p (k := 2) (f := 462) (v := .ref (h0.2.2.1 + 1 + 10)) (fs' := [.int (Int32.ofInt 0), .int (Int32.ofInt 0), .int (Int32.ofInt 0), .int (Int32.ofInt 0), .ref (h0.2.2.1 + 1 + 0), .ref (h0.2.2.1 + 1 + 1), .ref (h0.2.2.1 + 1 + 2), .ref (h0.2.2.1 + 1 + 3), .ref (h0.2.2.1 + 1 + 4), .ref (h0.2.2.1 + 1 + 5), .ref (h0.2.2.1 + 1 + 6), .ref (h0.2.2.1 + 1 + 7), .ref (h0.2.2.1 + 1 + 8), .ref (h0.2.2.1 + 1 + 9), .ref (h0.2.2.1 + 1 + 10), .null, .null, .null, .null, .null, .null]) n25 rfl rfl rfl
  rw [e26, Option.bind_some]
  obtain ⟨h27, e27, n27⟩ := znb_n (X := (Int8.ofInt 48).toInt32) (ls' := [6, 6, 100, 100, 100, 48, 48, 48, 48, 48, 48, 48]) 48 11 n26 rfl rfl (by decide) (by decide) (by decide)
  rw [e27]
  obtain ⟨h28, e28, n28⟩ := znb_p (k := 2) (f := 463) (v := .ref (h0.2.2.1 + 1 + 11)) (fs' := [.int (Int32.ofInt 0), .int (Int32.ofInt 0), .int (Int32.ofInt 0), .int (Int32.ofInt 0), .ref (h0.2.2.1 + 1 + 0), .ref (h0.2.2.1 + 1 + 1), .ref (h0.2.2.1 + 1 + 2), .ref (h0.2.2.1 + 1 + 3), .ref (h0.2.2.1 + 1 + 4), .ref (h0.2.2.1 + 1 + 5), .ref (h0.2.2.1 + 1 + 6), .ref (h0.2.2.1 + 1 + 7), .ref (h0.2.2.1 + 1 + 8), .ref (h0.2.2.1 + 1 + 9), .ref (h0.2.2.1 + 1 + 10), .ref (h0.2.2.1 + 1 + 11), .null, .null, .null, .null, .null]) n27 rfl rfl rfl
  rw [e28, Option.bind_some]
  obtain ⟨h29, e29, n29⟩ := znb_n (X := (Int8.ofInt 48).toInt32) (ls' := [6, 6, 100, 100, 100, 48, 48, 48, 48, 48, 48, 48, 48]) 48 12 n28 rfl rfl (by decide) (by decide) (by decide)
  rw [e29]
  obtain ⟨h30, e30, n30⟩ := znb_p (k := 2) (f := 464) (v := .ref (h0.2.2.1 + 1 + 12)) (fs' := [.int (Int32.ofInt 0), .int (Int32.ofInt 0), .int (Int32.ofInt 0), .int (Int32.ofInt 0), .ref (h0.2.2.1 + 1 + 0), .ref (h0.2.2.1 + 1 + 1), .ref (h0.2.2.1 + 1 + 2), .ref (h0.2.2.1 + 1 + 3), .ref (h0.2.2.1 + 1 + 4), .ref (h0.2.2.1 + 1 + 5), .ref (h0.2.2.1 + 1 + 6), .ref (h0.2.2.1 + 1 + 7), .ref (h0.2.2.1 + 1 + 8), .ref (h0.2.2.1 + 1 + 9), .ref (h0.2.2.1 + 1 + 10), .ref (h0.2.2.1 + 1 + 11), .ref (h0.2.2.1 + 1 + 12), .null, .null, .null, .null]) n29 rfl rfl rfl
  rw [e30, Option.bind_some]
  obtain ⟨h31, e31, n31⟩ := znb_n (X := (Int8.ofInt 48).toInt32) (ls' := [6, 6, 100, 100, 100, 48, 48, 48, 48, 48, 48, 48, 48, 48]) 48 13 n30 rfl rfl (by decide) (by decide) (by decide)
  rw [e31]
  obtain ⟨h32, e32, n32⟩ := znb_p (k := 2) (f := 465) (v := .ref (h0.2.2.1 + 1 + 13)) (fs' := [.int (Int32.ofInt 0), .int (Int32.ofInt 0), .int (Int32.ofInt 0), .int (Int32.ofInt 0), .ref (h0.2.2.1 + 1 + 0), .ref (h0.2.2.1 + 1 + 1), .ref (h0.2.2.1 + 1 + 2), .ref (h0.2.2.1 + 1 + 3), .ref (h0.2.2.1 + 1 + 4), .ref (h0.2.2.1 + 1 + 5), .ref (h0.2.2.1 + 1 + 6), .ref (h0.2.2.1 + 1 + 7), .ref (h0.2.2.1 + 1 + 8), .ref (h0.2.2.1 + 1 + 9), .ref (h0.2.2.1 + 1 + 10), .ref (h0.2.2.1 + 1 + 11), .ref (h0.2.2.1 + 1 + 12), .ref (h0.2.2.1 + 1 + 13), .null, .null, .null]) n31 rfl rfl rfl
  rw [e32, Option.bind_some]
  obtain ⟨h33, e33, n33⟩ := znb_n (X := (Int8.ofInt 48).toInt32) (ls' := [6, 6, 100, 100, 100, 48, 48, 48, 48, 48, 48, 48, 48, 48, 48]) 48 14 n32 rfl rfl (by decide) (by decide) (by decide)
  rw [e33]
  obtain ⟨h34, e34, n34⟩ := znb_p (k := 2) (f := 466) (v := .ref (h0.2.2.1 + 1 + 14)) (fs' := [.int (Int32.ofInt 0), .int (Int32.ofInt 0), .int (Int32.ofInt 0), .int (Int32.ofInt 0), .ref (h0.2.2.1 + 1 + 0), .ref (h0.2.2.1 + 1 + 1), .ref (h0.2.2.1 + 1 + 2), .ref (h0.2.2.1 + 1 + 3), .ref (h0.2.2.1 + 1 + 4), .ref (h0.2.2.1 + 1 + 5), .ref (h0.2.2.1 + 1 + 6), .ref (h0.2.2.1 + 1 + 7), .ref (h0.2.2.1 + 1 + 8), .ref (h0.2.2.1 + 1 + 9), .ref (h0.2.2.1 + 1 + 10), .ref (h0.2.2.1 + 1 + 11), .ref (h0.2.2.1 + 1 + 12), .ref (h0.2.2.1 + 1 + 13), .ref (h0.2.2.1 + 1 + 14), .null, .null]) n33 rfl rfl rfl
  rw [e34, Option.bind_some]
  obtain ⟨h35, e35, n35⟩ := znb_n (X := (Int8.ofInt 48).toInt32) (ls' := [6, 6, 100, 100, 100, 48, 48, 48, 48, 48, 48, 48, 48, 48, 48, 48]) 48 15 n34 rfl rfl (by decide) (by decide) (by decide)
  rw [e35]
  obtain ⟨h36, e36, n36⟩ := znb_p (k := 2) (f := 467) (v := .ref (h0.2.2.1 + 1 + 15)) (fs' := [.int (Int32.ofInt 0), .int (Int32.ofInt 0), .int (Int32.ofInt 0), .int (Int32.ofInt 0), .ref (h0.2.2.1 + 1 + 0), .ref (h0.2.2.1 + 1 + 1), .ref (h0.2.2.1 + 1 + 2), .ref (h0.2.2.1 + 1 + 3), .ref (h0.2.2.1 + 1 + 4), .ref (h0.2.2.1 + 1 + 5), .ref (h0.2.2.1 + 1 + 6), .ref (h0.2.2.1 + 1 + 7), .ref (h0.2.2.1 + 1 + 8), .ref (h0.2.2.1 + 1 + 9), .ref (h0.2.2.1 + 1 + 10), .ref (h0.2.2.1 + 1 + 11), .ref (h0.2.2.1 + 1 + 12), .ref (h0.2.2.1 + 1 + 13), .ref (h0.2.2.1 + 1 + 14), .ref (h0.2.2.1 + 1 + 15), .null]) n35 rfl rfl rfl
  rw [e36, Option.bind_some]
  obtain ⟨h37, e37, n37⟩ := znb_n (X := (Int8.ofInt 48).toInt32) (ls' := [6, 6, 100, 100, 100, 48, 48, 48, 48, 48, 48, 48, 48, 48, 48, 48, 48]) 48 16 n36 rfl rfl (by decide) (by decide) (by decide)
  rw [e37]
  obtain ⟨h38, e38, n38⟩ := znb_p (k := 2) (f := 468) (v := .ref (h0.2.2.1 + 1 + 16)) (fs' := [.int (Int32.ofInt 0), .int (Int32.ofInt 0), .int (Int32.ofInt 0), .int (Int32.ofInt 0), .ref (h0.2.2.1 + 1 + 0), .ref (h0.2.2.1 + 1 + 1), .ref (h0.2.2.1 + 1 + 2), .ref (h0.2.2.1 + 1 + 3), .ref (h0.2.2.1 + 1 + 4), .ref (h0.2.2.1 + 1 + 5), .ref (h0.2.2.1 + 1 + 6), .ref (h0.2.2.1 + 1 + 7), .ref (h0.2.2.1 + 1 + 8), .ref (h0.2.2.1 + 1 + 9), .ref (h0.2.2.1 + 1 + 10), .ref (h0.2.2.1 + 1 + 11), .ref (h0.2.2.1 + 1 + 12), .ref (h0.2.2.1 + 1 + 13), .ref (h0.2.2.1 + 1 + 14), .ref (h0.2.2.1 + 1 + 15), .ref (h0.2.2.1 + 1 + 16)]) n37 rfl rfl rfl
  rw [e38, Option.bind_some]
  exact ⟨h38, rfl, n38⟩
theorem zmk_ne {s : zS} {f n : Nat} {i : Int} (h : ¬ ((448 ≤ f ∧ f < 512) ∧ n = s.2.1)) : (zmk s).1 f n i = s.1 f n i := if_neg h
/-- whether something tells of template q -/
def zmenq (q : Nat) (d : zD) : Bool := match d with
  | .inl z => Nat.ble 448 z.2.2.1 && Nat.blt z.2.2.1 512 && Nat.beq z.2.2.2 q
  | .inr z => z.2.any fun z => !(Nat.beq z.1 1) && (Nat.ble 448 z.2.1 && Nat.blt z.2.1 512 && Nat.beq z.2.2 q)
theorem zmenq_l {f n q : Nat} (h : (Nat.ble 448 f && Nat.blt f 512 && Nat.beq n q) = false) : ¬ ((448 ≤ f ∧ f < 512) ∧ n = q) := by
  rintro ⟨⟨h1, h2⟩, h3⟩
  have e1 : Nat.ble 448 f = true := Nat.ble_eq_true_of_le h1
  have e2 : Nat.blt f 512 = true := Nat.ble_eq_true_of_le h2
  have e3 : Nat.beq n q = true := by rw [h3]; exact Nat.beq_refl q
  rw [e1, e2, e3] at h
  cases h
theorem zI_nq {s : zS} {d : zD} (h : zmenq s.2.1 d = false) : zI (zmk s) d = zI s d := by
  cases d with
  | inl q =>
    obtain ⟨ty, m, f, n⟩ := q
    have hh := zmenq_l (f := f) (n := n) (q := s.2.1) h
    unfold zI zIa
    dsimp only
    split <;> simp only [zmk_ne hh]
  | inr q =>
    unfold zI
    dsimp only
    congr 2
    apply List.map_congr_left
    intro z hz
    unfold zmenq at h
    dsimp only at h
    rw [List.any_eq_false] at h
    have h2 := Bool.eq_false_iff.mpr (h z hz)
    obtain ⟨k, f, n⟩ := z
    unfold zIv
    dsimp only at h2 ⊢
    by_cases hk : k = 1
    · subst hk
      rfl
    · have hkb : Nat.beq k 1 = false := by
        cases hb : Nat.beq k 1 with
        | true => exact absurd (Nat.eq_of_beq_eq_true hb) hk
        | false => rfl
      rw [hkb, Bool.not_false, Bool.true_and] at h2
      have hh := zmenq_l h2
      split <;> first | rfl | rw [zmk_ne hh]
def zallq (q : Nat) : Nat → List zD → Bool
  | 0, _ => true
  | _, [] => true
  | k + 1, d :: t => !(zmenq q d) && zallq q k t
theorem zallq_s {q : Nat} : ∀ (k : Nat) (t : List zD), zallq q k t = true → ∀ (j : Nat) (d : zD), j < k → t[j]? = some d → zmenq q d = false
  | 0, _, _, _, _, hj, _ => absurd hj (Nat.not_lt_zero _)
  | _ + 1, [], _, _, _, _, hd => by simp at hd
  | k + 1, d :: t, h, j, d', hj, hd => by
    unfold zallq at h
    rw [Bool.and_eq_true] at h
    cases j with
    | zero =>
      simp only [List.getElem?_cons_zero, Option.some.injEq] at hd
      subst hd
      simpa using h.1
    | succ j =>
      rw [List.getElem?_cons_succ] at hd
      exact zallq_s k t h.2 j d' (by omega) hd
set_option maxRecDepth 10000 in
theorem zmk_0 {A : Nat} {h h' : xrH} {s : zS} (hq : s.2.1 = 0) (H : zH A h s) (n1 : znb h [.int (Int32.ofInt 0), .int (Int32.ofInt 0), .int (Int32.ofInt 0), .int (Int32.ofInt 0), .ref (h.2.2.1 + 1 + 0), .ref (h.2.2.1 + 1 + 1), .ref (h.2.2.1 + 1 + 2), .ref (h.2.2.1 + 1 + 3), .ref (h.2.2.1 + 1 + 4), .ref (h.2.2.1 + 1 + 5), .ref (h.2.2.1 + 1 + 6), .ref (h.2.2.1 + 1 + 7), .ref (h.2.2.1 + 1 + 8), .ref (h.2.2.1 + 1 + 9), .ref (h.2.2.1 + 1 + 10), .ref (h.2.2.1 + 1 + 11), .ref (h.2.2.1 + 1 + 12), .ref (h.2.2.1 + 1 + 13), .ref (h.2.2.1 + 1 + 14), .ref (h.2.2.1 + 1 + 15), .ref (h.2.2.1 + 1 + 16)] [6, 6, 100, 100, 100, 48, 48, 48, 48, 48, 48, 48, 48, 48, 48, 48, 48] h') : zH 1 h' (zmk s) := by
  obtain ⟨σ, q, x⟩ := s
  have hq : q = 0 := hq
  subst hq
  obtain ⟨b1, b2, ⟨b3, b4, b5⟩, b6, b7⟩ := H
  obtain ⟨a1, a2, a3, a4, a5, a6⟩ := n1
  have b3 : h.2.2.1 = 44 := b3
  rw [b3] at a4
  refine ⟨Nat.le_refl _, Nat.le_of_ble_eq_true rfl, ⟨?_, ?_, ?_⟩, ?_, ?_⟩
  · rw [a3, b3]
    rfl
  · rw [a1, b4]
    show _ = 44 + 18 * (0 + 1) + x
    simp only [List.length_cons, List.length_nil]
    omega
  · rw [a2, b5]
    show _ = _ + _ * (0 + 1) + 6 * x
    simp only [List.sum_cons, List.sum_nil]
    omega
  · intro a d ha hd
    by_cases h0 : a < 44
    · rw [zI_nq (zallq_s 44 zDs (show zallq 0 44 zDs = true by decide +kernel) a d h0 hd), a6 a (by omega)]
      exact b6 a d (by omega) hd
    · have hl : a < 62 := by
        rw [a3, b3] at ha
        exact ha
      have e : a = 44 ∨ a = 45 ∨ a = 46 ∨ a = 47 ∨ a = 48 ∨ a = 49 ∨ a = 50 ∨ a = 51 ∨ a = 52 ∨ a = 53 ∨ a = 54 ∨ a = 55 ∨ a = 56 ∨ a = 57 ∨ a = 58 ∨ a = 59 ∨ a = 60 ∨ a = 61 := by omega
      rcases e with rfl | rfl | rfl | rfl | rfl | rfl | rfl | rfl | rfl | rfl | rfl | rfl | rfl | rfl | rfl | rfl | rfl | rfl
      · cases hd
        rw [a4]
        rfl
      · cases hd
        have e := a5 0 6 rfl
        rw [b3] at e
        exact e
      · cases hd
        have e := a5 1 6 rfl
        rw [b3] at e
        exact e
      · cases hd
        have e := a5 2 100 rfl
        rw [b3] at e
        exact e
      · cases hd
        have e := a5 3 100 rfl
        rw [b3] at e
        exact e
      · cases hd
        have e := a5 4 100 rfl
        rw [b3] at e
        exact e
      · cases hd
        have e := a5 5 48 rfl
        rw [b3] at e
        exact e
      · cases hd
        have e := a5 6 48 rfl
        rw [b3] at e
        exact e
      · cases hd
        have e := a5 7 48 rfl
        rw [b3] at e
        exact e
      · cases hd
        have e := a5 8 48 rfl
        rw [b3] at e
        exact e
      · cases hd
        have e := a5 9 48 rfl
        rw [b3] at e
        exact e
      · cases hd
        have e := a5 10 48 rfl
        rw [b3] at e
        exact e
      · cases hd
        have e := a5 11 48 rfl
        rw [b3] at e
        exact e
      · cases hd
        have e := a5 12 48 rfl
        rw [b3] at e
        exact e
      · cases hd
        have e := a5 13 48 rfl
        rw [b3] at e
        exact e
      · cases hd
        have e := a5 14 48 rfl
        rw [b3] at e
        exact e
      · cases hd
        have e := a5 15 48 rfl
        rw [b3] at e
        exact e
      · cases hd
        have e := a5 16 48 rfl
        rw [b3] at e
        exact e
  · intro f n i
    show zrng (if _ then 0 else _)
    split
    · decide
    · exact b7 f n i
set_option maxRecDepth 10000 in
theorem zmk_1 {A : Nat} {h h' : xrH} {s : zS} (hq : s.2.1 = 1) (H : zH A h s) (n1 : znb h [.int (Int32.ofInt 0), .int (Int32.ofInt 0), .int (Int32.ofInt 0), .int (Int32.ofInt 0), .ref (h.2.2.1 + 1 + 0), .ref (h.2.2.1 + 1 + 1), .ref (h.2.2.1 + 1 + 2), .ref (h.2.2.1 + 1 + 3), .ref (h.2.2.1 + 1 + 4), .ref (h.2.2.1 + 1 + 5), .ref (h.2.2.1 + 1 + 6), .ref (h.2.2.1 + 1 + 7), .ref (h.2.2.1 + 1 + 8), .ref (h.2.2.1 + 1 + 9), .ref (h.2.2.1 + 1 + 10), .ref (h.2.2.1 + 1 + 11), .ref (h.2.2.1 + 1 + 12), .ref (h.2.2.1 + 1 + 13), .ref (h.2.2.1 + 1 + 14), .ref (h.2.2.1 + 1 + 15), .ref (h.2.2.1 + 1 + 16)] [6, 6, 100, 100, 100, 48, 48, 48, 48, 48, 48, 48, 48, 48, 48, 48, 48] h') : zH 2 h' (zmk s) := by
  obtain ⟨σ, q, x⟩ := s
  have hq : q = 1 := hq
  subst hq
  obtain ⟨b1, b2, ⟨b3, b4, b5⟩, b6, b7⟩ := H
  obtain ⟨a1, a2, a3, a4, a5, a6⟩ := n1
  have b3 : h.2.2.1 = 62 := b3
  rw [b3] at a4
  refine ⟨Nat.le_refl _, Nat.le_of_ble_eq_true rfl, ⟨?_, ?_, ?_⟩, ?_, ?_⟩
  · rw [a3, b3]
    rfl
  · rw [a1, b4]
    show _ = 44 + 18 * (1 + 1) + x
    simp only [List.length_cons, List.length_nil]
    omega
  · rw [a2, b5]
    show _ = _ + _ * (1 + 1) + 6 * x
    simp only [List.sum_cons, List.sum_nil]
    omega
  · intro a d ha hd
    by_cases h0 : a < 62
    · rw [zI_nq (zallq_s 62 zDs (show zallq 1 62 zDs = true by decide +kernel) a d h0 hd), a6 a (by omega)]
      exact b6 a d (by omega) hd
    · have hl : a < 80 := by
        rw [a3, b3] at ha
        exact ha
      have e : a = 62 ∨ a = 63 ∨ a = 64 ∨ a = 65 ∨ a = 66 ∨ a = 67 ∨ a = 68 ∨ a = 69 ∨ a = 70 ∨ a = 71 ∨ a = 72 ∨ a = 73 ∨ a = 74 ∨ a = 75 ∨ a = 76 ∨ a = 77 ∨ a = 78 ∨ a = 79 := by omega
      rcases e with rfl | rfl | rfl | rfl | rfl | rfl | rfl | rfl | rfl | rfl | rfl | rfl | rfl | rfl | rfl | rfl | rfl | rfl
      · cases hd
        rw [a4]
        rfl
      · cases hd
        have e := a5 0 6 rfl
        rw [b3] at e
        exact e
      · cases hd
        have e := a5 1 6 rfl
        rw [b3] at e
        exact e
      · cases hd
        have e := a5 2 100 rfl
        rw [b3] at e
        exact e
      · cases hd
        have e := a5 3 100 rfl
        rw [b3] at e
        exact e
      · cases hd
        have e := a5 4 100 rfl
        rw [b3] at e
        exact e
      · cases hd
        have e := a5 5 48 rfl
        rw [b3] at e
        exact e
      · cases hd
        have e := a5 6 48 rfl
        rw [b3] at e
        exact e
      · cases hd
        have e := a5 7 48 rfl
        rw [b3] at e
        exact e
      · cases hd
        have e := a5 8 48 rfl
        rw [b3] at e
        exact e
      · cases hd
        have e := a5 9 48 rfl
        rw [b3] at e
        exact e
      · cases hd
        have e := a5 10 48 rfl
        rw [b3] at e
        exact e
      · cases hd
        have e := a5 11 48 rfl
        rw [b3] at e
        exact e
      · cases hd
        have e := a5 12 48 rfl
        rw [b3] at e
        exact e
      · cases hd
        have e := a5 13 48 rfl
        rw [b3] at e
        exact e
      · cases hd
        have e := a5 14 48 rfl
        rw [b3] at e
        exact e
      · cases hd
        have e := a5 15 48 rfl
        rw [b3] at e
        exact e
      · cases hd
        have e := a5 16 48 rfl
        rw [b3] at e
        exact e
  · intro f n i
    show zrng (if _ then 0 else _)
    split
    · decide
    · exact b7 f n i
set_option maxRecDepth 10000 in
theorem zmk_2 {A : Nat} {h h' : xrH} {s : zS} (hq : s.2.1 = 2) (H : zH A h s) (n1 : znb h [.int (Int32.ofInt 0), .int (Int32.ofInt 0), .int (Int32.ofInt 0), .int (Int32.ofInt 0), .ref (h.2.2.1 + 1 + 0), .ref (h.2.2.1 + 1 + 1), .ref (h.2.2.1 + 1 + 2), .ref (h.2.2.1 + 1 + 3), .ref (h.2.2.1 + 1 + 4), .ref (h.2.2.1 + 1 + 5), .ref (h.2.2.1 + 1 + 6), .ref (h.2.2.1 + 1 + 7), .ref (h.2.2.1 + 1 + 8), .ref (h.2.2.1 + 1 + 9), .ref (h.2.2.1 + 1 + 10), .ref (h.2.2.1 + 1 + 11), .ref (h.2.2.1 + 1 + 12), .ref (h.2.2.1 + 1 + 13), .ref (h.2.2.1 + 1 + 14), .ref (h.2.2.1 + 1 + 15), .ref (h.2.2.1 + 1 + 16)] [6, 6, 100, 100, 100, 48, 48, 48, 48, 48, 48, 48, 48, 48, 48, 48, 48] h') : zH 3 h' (zmk s) := by
  obtain ⟨σ, q, x⟩ := s
  have hq : q = 2 := hq
  subst hq
  obtain ⟨b1, b2, ⟨b3, b4, b5⟩, b6, b7⟩ := H
  obtain ⟨a1, a2, a3, a4, a5, a6⟩ := n1
  have b3 : h.2.2.1 = 80 := b3
  rw [b3] at a4
  refine ⟨Nat.le_refl _, Nat.le_of_ble_eq_true rfl, ⟨?_, ?_, ?_⟩, ?_, ?_⟩
  · rw [a3, b3]
    rfl
  · rw [a1, b4]
    show _ = 44 + 18 * (2 + 1) + x
    simp only [List.length_cons, List.length_nil]
    omega
  · rw [a2, b5]
    show _ = _ + _ * (2 + 1) + 6 * x
    simp only [List.sum_cons, List.sum_nil]
    omega
  · intro a d ha hd
    by_cases h0 : a < 80
    · rw [zI_nq (zallq_s 80 zDs (show zallq 2 80 zDs = true by decide +kernel) a d h0 hd), a6 a (by omega)]
      exact b6 a d (by omega) hd
    · have hl : a < 98 := by
        rw [a3, b3] at ha
        exact ha
      have e : a = 80 ∨ a = 81 ∨ a = 82 ∨ a = 83 ∨ a = 84 ∨ a = 85 ∨ a = 86 ∨ a = 87 ∨ a = 88 ∨ a = 89 ∨ a = 90 ∨ a = 91 ∨ a = 92 ∨ a = 93 ∨ a = 94 ∨ a = 95 ∨ a = 96 ∨ a = 97 := by omega
      rcases e with rfl | rfl | rfl | rfl | rfl | rfl | rfl | rfl | rfl | rfl | rfl | rfl | rfl | rfl | rfl | rfl | rfl | rfl
      · cases hd
        rw [a4]
        rfl
      · cases hd
        have e := a5 0 6 rfl
        rw [b3] at e
        exact e
      · cases hd
        have e := a5 1 6 rfl
        rw [b3] at e
        exact e
      · cases hd
        have e := a5 2 100 rfl
        rw [b3] at e
        exact e
      · cases hd
        have e := a5 3 100 rfl
        rw [b3] at e
        exact e
      · cases hd
        have e := a5 4 100 rfl
        rw [b3] at e
        exact e
      · cases hd
        have e := a5 5 48 rfl
        rw [b3] at e
        exact e
      · cases hd
        have e := a5 6 48 rfl
        rw [b3] at e
        exact e
      · cases hd
        have e := a5 7 48 rfl
        rw [b3] at e
        exact e
      · cases hd
        have e := a5 8 48 rfl
        rw [b3] at e
        exact e
      · cases hd
        have e := a5 9 48 rfl
        rw [b3] at e
        exact e
      · cases hd
        have e := a5 10 48 rfl
        rw [b3] at e
        exact e
      · cases hd
        have e := a5 11 48 rfl
        rw [b3] at e
        exact e
      · cases hd
        have e := a5 12 48 rfl
        rw [b3] at e
        exact e
      · cases hd
        have e := a5 13 48 rfl
        rw [b3] at e
        exact e
      · cases hd
        have e := a5 14 48 rfl
        rw [b3] at e
        exact e
      · cases hd
        have e := a5 15 48 rfl
        rw [b3] at e
        exact e
      · cases hd
        have e := a5 16 48 rfl
        rw [b3] at e
        exact e
  · intro f n i
    show zrng (if _ then 0 else _)
    split
    · decide
    · exact b7 f n i
set_option maxRecDepth 10000 in
theorem zmk_3 {A : Nat} {h h' : xrH} {s : zS} (hq : s.2.1 = 3) (H : zH A h s) (n1 : znb h [.int (Int32.ofInt 0), .int (Int32.ofInt 0), .int (Int32.ofInt 0), .int (Int32.ofInt 0), .ref (h.2.2.1 + 1 + 0), .ref (h.2.2.1 + 1 + 1), .ref (h.2.2.1 + 1 + 2), .ref (h.2.2.1 + 1 + 3), .ref (h.2.2.1 + 1 + 4), .ref (h.2.2.1 + 1 + 5), .ref (h.2.2.1 + 1 + 6), .ref (h.2.2.1 + 1 + 7), .ref (h.2.2.1 + 1 + 8), .ref (h.2.2.1 + 1 + 9), .ref (h.2.2.1 + 1 + 10), .ref (h.2.2.1 + 1 + 11), .ref (h.2.2.1 + 1 + 12), .ref (h.2.2.1 + 1 + 13), .ref (h.2.2.1 + 1 + 14), .ref (h.2.2.1 + 1 + 15), .ref (h.2.2.1 + 1 + 16)] [6, 6, 100, 100, 100, 48, 48, 48, 48, 48, 48, 48, 48, 48, 48, 48, 48] h') : zH 4 h' (zmk s) := by
  obtain ⟨σ, q, x⟩ := s
  have hq : q = 3 := hq
  subst hq
  obtain ⟨b1, b2, ⟨b3, b4, b5⟩, b6, b7⟩ := H
  obtain ⟨a1, a2, a3, a4, a5, a6⟩ := n1
  have b3 : h.2.2.1 = 98 := b3
  rw [b3] at a4
  refine ⟨Nat.le_refl _, Nat.le_of_ble_eq_true rfl, ⟨?_, ?_, ?_⟩, ?_, ?_⟩
  · rw [a3, b3]
    rfl
  · rw [a1, b4]
    show _ = 44 + 18 * (3 + 1) + x
    simp only [List.length_cons, List.length_nil]
    omega
  · rw [a2, b5]
    show _ = _ + _ * (3 + 1) + 6 * x
    simp only [List.sum_cons, List.sum_nil]
    omega
  · intro a d ha hd
    by_cases h0 : a < 98
    · rw [zI_nq (zallq_s 98 zDs (show zallq 3 98 zDs = true by decide +kernel) a d h0 hd), a6 a (by omega)]
      exact b6 a d (by omega) hd
    · have hl : a < 116 := by
        rw [a3, b3] at ha
        exact ha
      have e : a = 98 ∨ a = 99 ∨ a = 100 ∨ a = 101 ∨ a = 102 ∨ a = 103 ∨ a = 104 ∨ a = 105 ∨ a = 106 ∨ a = 107 ∨ a = 108 ∨ a = 109 ∨ a = 110 ∨ a = 111 ∨ a = 112 ∨ a = 113 ∨ a = 114 ∨ a = 115 := by omega
      rcases e with rfl | rfl | rfl | rfl | rfl | rfl | rfl | rfl | rfl | rfl | rfl | rfl | rfl | rfl | rfl | rfl | rfl | rfl
      · cases hd
        rw [a4]
        rfl
      · cases hd
        have e := a5 0 6 rfl
        rw [b3] at e
        exact e
      · cases hd
        have e := a5 1 6 rfl
        rw [b3] at e
        exact e
      · cases hd
        have e := a5 2 100 rfl
        rw [b3] at e
        exact e
      · cases hd
        have e := a5 3 100 rfl
        rw [b3] at e
        exact e
      · cases hd
        have e := a5 4 100 rfl
        rw [b3] at e
        exact e
      · cases hd
        have e := a5 5 48 rfl
        rw [b3] at e
        exact e
      · cases hd
        have e := a5 6 48 rfl
        rw [b3] at e
        exact e
      · cases hd
        have e := a5 7 48 rfl
        rw [b3] at e
        exact e
      · cases hd
        have e := a5 8 48 rfl
        rw [b3] at e
        exact e
      · cases hd
        have e := a5 9 48 rfl
        rw [b3] at e
        exact e
      · cases hd
        have e := a5 10 48 rfl
        rw [b3] at e
        exact e
      · cases hd
        have e := a5 11 48 rfl
        rw [b3] at e
        exact e
      · cases hd
        have e := a5 12 48 rfl
        rw [b3] at e
        exact e
      · cases hd
        have e := a5 13 48 rfl
        rw [b3] at e
        exact e
      · cases hd
        have e := a5 14 48 rfl
        rw [b3] at e
        exact e
      · cases hd
        have e := a5 15 48 rfl
        rw [b3] at e
        exact e
      · cases hd
        have e := a5 16 48 rfl
        rw [b3] at e
        exact e
  · intro f n i
    show zrng (if _ then 0 else _)
    split
    · decide
    · exact b7 f n i
theorem zqp_eq {h : xrH} {a v m : Nat} {g : Nat → Option Nat} {I : Int32} {i : Int} {fs : List Value} (e : xr_M h a = .inl (.object RX7, m, .inr (.inr (.inr (.inr g))))) (e2 : xr_M h v = .inr (7, fs)) (hi : zx I i) (hl : 0 ≤ i ∧ i < (m : Nat)) : xo_qp xt_cl h a I v = some (xr_put h a (.inl (.object RX7, m, .inr (.inr (.inr (.inr (va_up g I.toNatClampNeg (some v)))))))) := by
  unfold xo_qp
  rw [e, e2]
  show (if RX7 = RX7 then _ else _) = _
  rw [if_pos rfl, if_neg (zn_in hi hl)]
theorem zg_130 {A : Nat} {h : xrH} {s : zS} {x0 : Nat} (H : zH A h s) (ax0 : x0 < 1) : zq 2 A (xf_130 (za_8 x0) h) (zf_130 x0 s) := by
  unfold xf_130 zf_130
  refine zq_b (zi_522 H ax0) (zq_lt (zx_s H 522 x0 0) zc32_4 ?_ (zq_o H zo_0))
  refine zq_b (zr_515 H ax0) (zq_b (zi_522 H ax0) ?_)
  refine zq_ifn fun hl => ?_
  have hl2 : 0 ≤ s.1 522 x0 0 ∧ s.1 522 x0 0 < (4 : Nat) := hl
  have eq1 : xo_q h (zy_515 x0) (Int32.ofInt (s.1 522 x0 0)) = some (zT (s.1 515 x0 (s.1 522 x0 0))) := by
    unfold xo_q
    rw [zw_515 H ax0]
    dsimp only
    rw [if_neg (zn_in (zx_s H 522 x0 0) hl2), zx_toNat (zx_s H 522 x0 0) hl.1, Int.toNat_of_nonneg hl.1]
  rw [eq1, Option.bind_some]
  split
  · rename_i h0
    rw [h0]
    show zq 2 A (Option.bind (xo_r h (za_8 x0) 515) _) _
    refine zq_b (zr_515 H ax0) (zq_b (zi_522 H ax0) ?_)
    refine zq_ifn fun h4 => ?_
    have N0 : znb h xt_dX7 [] (xr_new h (xt_df 7).length (.inr (7, xt_df 7))) := by
      refine ⟨rfl, rfl, rfl, ?_, fun j k hj => by simp at hj, ?_⟩
      · show va_up h.2.2.2 h.2.2.1 _ h.2.2.1 = _
        unfold va_up
        rw [if_pos rfl]
        rfl
      · intro a ha
        show va_up h.2.2.2 h.2.2.1 _ a = _
        unfold va_up
        rw [if_neg (by omega)]
    obtain ⟨h', e95, N1⟩ := zf95 N0
    unfold xn_o
    have hc : xo_c (xr_new h (xt_df 7).length (.inr (7, xt_df 7))) h.2.2.1 7 = true := by
      unfold xo_c
      rw [N0.2.2.2.1]
      rfl
    refine zq_c hc ?_
    rw [e95]
    show zq 2 A (Option.bind (xo_qp xt_cl h' (zy_515 x0) (Int32.ofInt (s.1 522 x0 0)) h.2.2.1) _) _
    have H2 : zH (s.2.1 + 1) h' (zmk s) := by
      have c : s.2.1 = 0 ∨ s.2.1 = 1 ∨ s.2.1 = 2 ∨ s.2.1 = 3 := by omega
      rcases c with c | c | c | c
      · rw [c]
        exact zmk_0 c H N1
      · rw [c]
        exact zmk_1 c H N1
      · rw [c]
        exact zmk_2 c H N1
      · rw [c]
        exact zmk_3 c H N1
    have e7 : h.2.2.1 = za_7 s.2.1 := H.2.2.1.1
    have hv : zrng ((s.2.1 : Int) + 1) := by constructor <;> omega
    have hz : (some (za_7 s.2.1) : Option Nat) = zT ((s.2.1 : Int) + 1) := (zo_q (q := s.2.1) (by omega)).1
    refine zq_mono (B := s.2.1 + 1) (Nat.le_trans H.1 (Nat.le_succ _)) ?_
    refine zq_W (fun hl3 => ?_) (fun h1 s1 H1 => zg_130_38 H1 ax0)
    refine ⟨_, zqp_eq (zw_515 H2 ax0) N1.2.2.2.1 (zx_s H 522 x0 0) hl2, ?_⟩
    match x0, ax0 with
    | 0, _ =>
      refine H2.put 6 515 0 _ _ _ _ (by have := H2.1; omega) rfl (by decide +kernel) hv ?_
      show (.inl (.object RX7, 4, .inr (.inr (.inr (.inr (va_up (fun j : Nat => zT ((zmk s).1 515 0 j)) (Int32.ofInt (s.1 522 0 0)).toNatClampNeg (some h.2.2.1)))))) : xrE) = zI (zp 515 0 (s.1 522 0 0) ((s.2.1 : Int) + 1) (zmk s)) (.inl (3, 4, 515, 0))
      have e : va_up (fun j : Nat => zT ((zmk s).1 515 0 j)) (Int32.ofInt (s.1 522 0 0)).toNatClampNeg (some h.2.2.1) = fun j : Nat => zT ((zp 515 0 (s.1 522 0 0) ((s.2.1 : Int) + 1) (zmk s)).1 515 0 j) := by
        funext j
        rw [zx_toNat (zx_s H 522 0 0) hl2.1, e7, hz]
        show (if j = (s.1 522 0 0).toNat then zT ((s.2.1 : Int) + 1) else zT ((zmk s).1 515 0 j)) = zT (if 515 = 515 ∧ 0 = 0 ∧ (j : Int) = s.1 522 0 0 then (s.2.1 : Int) + 1 else (zmk s).1 515 0 j)
        by_cases hj : j = (s.1 522 0 0).toNat
        · rw [if_pos hj, if_pos ⟨rfl, rfl, by omega⟩]
        · rw [if_neg hj, if_neg (fun z => hj (by have := z.2.2; omega))]
      rw [e]
      rfl
  · rename_i h0
    have hz : zT (s.1 515 x0 (s.1 522 x0 0)) = some (za_7 ((s.1 515 x0 (s.1 522 x0 0)).toNat - 1)) := by
      unfold zT
      rw [if_neg h0]
    rw [hz]
    exact zg_130_38 H ax0
