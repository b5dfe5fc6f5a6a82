/-! the methods do what their functions over the store do -/
theorem zg_187 {A : Nat} {h : xrH} {s : zS} {x0 : Nat} (H : zH A h s) (ax0 : x0 < 1) : zq 0 A (xf_187 (za_9 x0) h) (zf_187 x0 s) := by
  unfold xf_187 zf_187
  exact (zg_187_4 xfu H ax0 zc32_m1 zc32_0)
theorem zg_188 {A : Nat} {h : xrH} {s : zS} {x0 : Nat} (H : zH A h s) (ax0 : x0 < 1) : zq 0 A (xf_188 (za_9 x0) h) (zf_188 x0 s) := by
  unfold xf_188 zf_188
  exact (zq_P (zpi_576 H ax0 zc32_0) fun h101 s2 H1 => (zq_c (zc_9 H1 ax0) (zq_c_i (zg_187 H1 ax0) fun v5 h102 s4 hv5 H3 => (zq_i H3 (zx_r hv5)))))
theorem zg_189_20 {A : Nat} {h : xrH} {s : zS} {x0 : Nat} {Xx1 : Int32} {x1 : Int} {Xx2 : Int32} {x2 : Int} {s0 : Nat} {Xs1 : Int32} {s1 : Int} (H : zH A h s) (ax0 : x0 < 1) (ax1 : zx Xx1 x1) (ax2 : zx Xx2 x2) (as0 : s0 < 1) (as1 : zx Xs1 s1) : zq 0 A (xf_189_20 (za_9 x0) Xx1 Xx2 (za_9 s0) Xs1 h) (zf_189_20 x0 x1 x2 s0 s1 s) := by
  unfold xf_189_20 zf_189_20
  exact (zq_P (zpi_576 H as0 as1) fun h101 s2 H1 => (zq_b (zi_576 H1 ax0) (zq_le (zx_s H1 576 x0 0) zcn_0 (zq_c (zc_9 H1 ax0) (zq_c_i (zg_186 H1 ax0 ax1 zc32_0 zc32_0) fun v5 h103 s4 hv5 H3 => (zq_eq ax2 zcn_0 (zq_b (zi_608 H3 ax0) (zq_i H3 (zx_s H3 608 x0 0))) (zq_b (zi_609 H3 ax0) (zq_i H3 (zx_s H3 609 x0 0)))))) (zq_i H1 zc32_0))))
theorem zg_189 {A : Nat} {h : xrH} {s : zS} {x0 : Nat} {Xx1 : Int32} {x1 : Int} {Xx2 : Int32} {x2 : Int} (H : zH A h s) (ax0 : x0 < 1) (ax1 : zx Xx1 x1) (ax2 : zx Xx2 x2) : zq 0 A (xf_189 (za_9 x0) Xx1 Xx2 h) (zf_189 x0 x1 x2 s) := by
  unfold xf_189 zf_189
  exact (zq_b (zi_579 H ax0) (zq_g fun g1 => (zq_c_i (zg_146 H ax1 zc32_0 (zsub_x (zx_s H 579 x0 0) zc32_1 g1)) fun v4 h102 s3 hv4 H2 => (zq_eq (zx_r hv4) zcn_0 (zg_189_20 H2 ax0 ax1 ax2 ax0 zc32_1) (zg_189_20 H2 ax0 ax1 ax2 ax0 zc32_0)))))
theorem zg_190 {A : Nat} {h : xrH} {s : zS} {x0 : Nat} (H : zH A h s) (ax0 : x0 < 1) : zq 0 A (xf_190 (za_9 x0) h) (zf_190 x0 s) := by
  unfold xf_190 zf_190
  exact (zq_P (zpi_576 H ax0 zc32_0) fun h101 s2 H1 => (zq_c (zc_9 H1 ax0) (zq_c_i (zg_187 H1 ax0) fun v5 h102 s4 hv5 H3 => (zq_b (zi_610 H3 ax0) (zq_i H3 (zx_s H3 610 x0 0))))))
theorem zg_191 {A : Nat} {h : xrH} {s : zS} {x0 : Nat} {Xx1 : Int32} {x1 : Int} (H : zH A h s) (ax0 : x0 < 1) (ax1 : zx Xx1 x1) : zq 0 A (xf_191 (za_9 x0) Xx1 h) (zf_191 x0 x1 s) := by
  unfold xf_191 zf_191
  exact (zq_c (zc_9 H ax0) (zq_c_i (zg_187 H ax0) fun v3 h101 s2 hv3 H1 => (zq_b (zi_610 H1 ax0) (zq_g fun g4 => (zq_c_i (zg_146 H1 ax1 zc32_0 (zsub_x (zx_s H1 610 x0 0) zc32_1 g4)) fun v7 h104 s6 hv7 H5 => (zq_z H5 (zx_r hv7)))))))
theorem zg_192 {A : Nat} {h : xrH} {s : zS} {x0 : Nat} {Xx1 : Int32} {x1 : Int} (H : zH A h s) (ax0 : x0 < 1) (ax1 : zx Xx1 x1) : zq 0 A (xf_192 (za_9 x0) Xx1 h) (zf_192 x0 x1 s) := by
  unfold xf_192 zf_192
  exact (zq_b (zr_618 H ax0) (zq_a (zw_618 H ax0) ax1 (zq_eq (zx_s H 618 x0 x1) zc32_m1 (zq_z H zc32_0) (zq_b (zr_592 H ax0) (zq_b (zr_618 H ax0) (zq_a (zw_618 H ax0) ax1 (zq_a (zw_592 H ax0) (zx_s H 618 x0 x1) (zq_eq (zx_s H 592 x0 (s.1 618 x0 x1)) zcn_0 (zq_z H zc32_0) (zq_b (zr_592 H ax0) (zq_b (zr_618 H ax0) (zq_a (zw_618 H ax0) ax1 (zq_a (zw_592 H ax0) (zx_s H 618 x0 x1) (zq_eq (zx_s H 592 x0 (s.1 618 x0 x1)) zc8_73 (zq_z H zc32_0) (zq_z H zc32_1))))))))))))))
theorem zg_193_30 : ∀ (n : Nat) {A : Nat} {h : xrH} {s : zS} {x0 : Nat} {Xx1 : Int32} {x1 : Int} {Xx2 : Int32} {x2 : Int} {Xx3 : Int32} {x3 : Int} {Xx4 : Int32} {x4 : Int} (H : zH A h s) (ax0 : x0 < 1) (ax1 : zx Xx1 x1) (ax2 : zx Xx2 x2) (ax3 : zx Xx3 x3) (ax4 : zx Xx4 x4), zq 0 A (xf_193_30 n (za_9 x0) Xx1 Xx2 Xx3 Xx4 h) (zf_193_30 n x0 x1 x2 x3 x4 s) := by
  intro n
  induction n with
  | zero =>
    intros
    exact zq_none
  | succ n ih =>
    intro A h s x0 Xx1 x1 Xx2 x2 Xx3 x3 Xx4 x4 H ax0 ax1 ax2 ax3 ax4
    rw [xf_193_30, zf_193_30]
    exact (zq_b (zi_610 H ax0) (zq_ge ax4 (zx_s H 610 x0 0) (zq_i H ax3) (zq_b (zr_617 H ax0) (zq_a (zw_617 H ax0) ax4 (zq_b (zr_617 H ax0) (zq_a (zw_617 H ax0) ax1 (zq_ne (zx_s H 617 x0 x4) (zx_s H 617 x0 x1) (zq_g fun g1 => (ih H ax0 ax1 ax2 ax3 (zadd_x ax4 zc32_1 g1))) (zq_b (zr_618 H ax0) (zq_a (zw_618 H ax0) ax4 (zq_ne (zx_s H 618 x0 x4) ax2 (zq_g fun g2 => (ih H ax0 ax1 ax2 ax3 (zadd_x ax4 zc32_1 g2))) (zq_g fun g3 => (ih H ax0 ax1 ax2 ax4 (zadd_x ax4 zc32_1 g3)))))))))))))
theorem zg_193 {A : Nat} {h : xrH} {s : zS} {x0 : Nat} {Xx1 : Int32} {x1 : Int} (H : zH A h s) (ax0 : x0 < 1) (ax1 : zx Xx1 x1) : zq 0 A (xf_193 (za_9 x0) Xx1 h) (zf_193 x0 x1 s) := by
  unfold xf_193 zf_193
  exact (zq_b (zr_618 H ax0) (zq_a (zw_618 H ax0) ax1 (zq_b (zd_eq (by decide)) (zq_b (zr_593 H ax0) (zq_b (zr_618 H ax0) (zq_a (zw_618 H ax0) ax1 (zq_a (zw_593 H ax0) (zx_s H 618 x0 x1) (zq_g fun g1 => (zq_g fun g2 => (zg_193_30 xfu H ax0 ax1 (zadd_x (zmul_x zc8_8 (zdiv_x (zx_s H 618 x0 x1) zc8_8) g1) (zx_s H 593 x0 (s.1 618 x0 x1)) g2) zc32_m1 zc32_0))))))))))
theorem zg_194_59 : ∀ (n : Nat) {A : Nat} {h : xrH} {s : zS} {x0 : Nat} {Xx1 : Int32} {x1 : Int} {Xx2 : Int32} {x2 : Int} {Xx3 : Int32} {x3 : Int} {Xx4 : Int32} {x4 : Int} {Xx5 : Int32} {x5 : Int} (H : zH A h s) (ax0 : x0 < 1) (ax1 : zx Xx1 x1) (ax2 : zx Xx2 x2) (ax3 : zx Xx3 x3) (ax4 : zx Xx4 x4) (ax5 : zx Xx5 x5), zq 0 A (xf_194_59 n (za_9 x0) Xx1 Xx2 Xx3 Xx4 Xx5 h) (zf_194_59 n x0 x1 x2 x3 x4 x5 s) := by
  intro n
  induction n with
  | zero =>
    intros
    exact zq_none
  | succ n ih =>
    intro A h s x0 Xx1 x1 Xx2 x2 Xx3 x3 Xx4 x4 Xx5 x5 H ax0 ax1 ax2 ax3 ax4 ax5
    rw [xf_194_59, zf_194_59]
    exact (zq_b (zr_614 H ax0) (zq_a (zw_614 H ax0) ax2 (zq_b (zr_615 H ax0) (zq_a (zw_615 H ax0) ax2 (zq_g fun g1 => (zq_ge ax5 (zadd_x (zx_s H 614 x0 x2) (zx_s H 615 x0 x2) g1) (zq_b (zr_587 H ax0) (zq_b (zr_618 H ax0) (zq_a (zw_618 H ax0) ax1 (zq_a (zw_587 H ax0) (zx_s H 618 x0 x1) (zq_ne (zx_s H 587 x0 (s.1 618 x0 x1)) zc8_98 (zq_i H (zand_x ax4 zc32_65535)) (zq_i H (zand_x ax4 zc16_255))))))) (zq_ne ax3 zc8_43 (zq_ne ax3 zc8_94 (zq_g fun g2 => (ih H ax0 ax1 ax2 ax3 ax4 (zadd_x ax5 zc32_1 g2))) (zq_b (zr_595 H ax0) (zq_a (zw_595 H ax0) ax5 (zq_g fun g3 => (ih H ax0 ax1 ax2 ax3 (zxor_x ax4 (zx_s H 595 x0 x5)) (zadd_x ax5 zc32_1 g3)))))) (zq_b (zr_595 H ax0) (zq_a (zw_595 H ax0) ax5 (zq_g fun g4 => (zq_g fun g5 => (ih H ax0 ax1 ax2 ax3 (zadd_x ax4 (zx_s H 595 x0 x5) g4) (zadd_x ax5 zc32_1 g5)))))))))))))
theorem zg_194_49 {A : Nat} {h : xrH} {s : zS} {x0 : Nat} {Xx1 : Int32} {x1 : Int} {Xx2 : Int32} {x2 : Int} {Xx3 : Int32} {x3 : Int} {Xs0 : Int32} {s0 : Int} (H : zH A h s) (ax0 : x0 < 1) (ax1 : zx Xx1 x1) (ax2 : zx Xx2 x2) (ax3 : zx Xx3 x3) (as0 : zx Xs0 s0) : zq 0 A (xf_194_49 (za_9 x0) Xx1 Xx2 Xx3 Xs0 h) (zf_194_49 x0 x1 x2 x3 s0 s) := by
  unfold xf_194_49 zf_194_49
  exact (zq_b (zr_614 H ax0) (zq_a (zw_614 H ax0) ax2 (zg_194_59 xfu H ax0 ax1 ax2 ax3 as0 (zx_s H 614 x0 x2))))
theorem zg_194 {A : Nat} {h : xrH} {s : zS} {x0 : Nat} {Xx1 : Int32} {x1 : Int} (H : zH A h s) (ax0 : x0 < 1) (ax1 : zx Xx1 x1) : zq 0 A (xf_194 (za_9 x0) Xx1 h) (zf_194 x0 x1 s) := by
  unfold xf_194 zf_194
  exact (zq_c (zc_9 H ax0) (zq_c_i (zg_193 H ax0 ax1) fun v3 h101 s2 hv3 H1 => (zq_b (zr_592 H1 ax0) (zq_b (zr_618 H1 ax0) (zq_a (zw_618 H1 ax0) ax1 (zq_a (zw_592 H1 ax0) (zx_s H1 618 x0 x1) (zq_ne (zx_s H1 592 x0 (s2.1 618 x0 x1)) zc8_35 (zq_ne (zx_s H1 592 x0 (s2.1 618 x0 x1)) zc8_37 (zg_194_49 H1 ax0 ax1 (zx_r hv3) (zx_s H1 592 x0 (s2.1 618 x0 x1)) zc32_0) (zq_b (zr_616 H1 ax0) (zq_a (zw_616 H1 ax0) (zx_r hv3) (zg_194_49 H1 ax0 ax1 (zx_r hv3) (zx_s H1 592 x0 (s2.1 618 x0 x1)) (zx_s H1 616 x0 v3))))) (zq_b (zr_615 H1 ax0) (zq_a (zw_615 H1 ax0) (zx_r hv3) (zg_194_49 H1 ax0 ax1 (zx_r hv3) (zx_s H1 592 x0 (s2.1 618 x0 x1)) (zx_s H1 615 x0 v3)))))))))))
theorem zg_196_28 {A : Nat} {h : xrH} {s : zS} {x0 : Nat} {Xx1 : Int32} {x1 : Int} {Xx2 : Int32} {x2 : Int} {s0 : Nat} {Xs1 : Int32} {s1 : Int} (H : zH A h s) (ax0 : x0 < 1) (ax1 : zx Xx1 x1) (ax2 : zx Xx2 x2) (as0 : s0 < 1) (as1 : zx Xs1 s1) : zq 0 A (xf_196_28 (za_9 x0) Xx1 Xx2 (za_9 s0) Xs1 h) (zf_196_28 x0 x1 x2 s0 s1 s) := by
  unfold xf_196_28 zf_196_28
  exact (zq_P (zpi_576 H as0 as1) fun h101 s2 H1 => (zq_b (zi_576 H1 ax0) (zq_le (zx_s H1 576 x0 0) zcn_0 (zq_sw ax2 zcn_0 (zq_b (zr_612 H1 ax0) (zq_a (zw_612 H1 ax0) ax1 (zq_i H1 (zx_s H1 612 x0 x1)))) (zq_sw ax2 zcn_1 (zq_b (zr_613 H1 ax0) (zq_a (zw_613 H1 ax0) ax1 (zq_i H1 (zx_s H1 613 x0 x1)))) (zq_sw ax2 zcn_2 (zq_b (zr_614 H1 ax0) (zq_a (zw_614 H1 ax0) ax1 (zq_i H1 (zx_s H1 614 x0 x1)))) (zq_sw ax2 zcn_3 (zq_b (zr_615 H1 ax0) (zq_a (zw_615 H1 ax0) ax1 (zq_i H1 (zx_s H1 615 x0 x1)))) (zq_sw ax2 zcn_4 (zq_b (zr_616 H1 ax0) (zq_a (zw_616 H1 ax0) ax1 (zq_i H1 (zx_s H1 616 x0 x1)))) (zq_sw ax2 zcn_5 (zq_b (zr_617 H1 ax0) (zq_a (zw_617 H1 ax0) ax1 (zq_i H1 (zx_s H1 617 x0 x1)))) (zq_c (zc_9 H1 ax0) (zq_c_i (zg_192 H1 ax0 ax1) fun v5 h103 s4 hv5 H3 => (zq_eq (zx_r hv5) zcn_0 (zq_i H3 zc32_1) (zq_b (zr_616 H3 ax0) (zq_a (zw_616 H3 ax0) ax1 (zq_c (zc_9 H3 ax0) (zq_c_i (zg_194 H3 ax0 ax1) fun v8 h107 s7 hv8 H6 => (zq_eq (zx_s H3 616 x0 x1) (zx_r hv8) (zq_i H6 zc32_1) (zq_i H6 zc32_0))))))))))))))) (zq_i H1 zc32_0))))
theorem zg_196 {A : Nat} {h : xrH} {s : zS} {x0 : Nat} {Xx1 : Int32} {x1 : Int} {Xx2 : Int32} {x2 : Int} (H : zH A h s) (ax0 : x0 < 1) (ax1 : zx Xx1 x1) (ax2 : zx Xx2 x2) : zq 0 A (xf_196 (za_9 x0) Xx1 Xx2 h) (zf_196 x0 x1 x2 s) := by
  unfold xf_196 zf_196
  exact (zq_c (zc_9 H ax0) (zq_c_i (zg_191 H ax0 ax1) fun v3 h101 s2 hv3 H1 => (zq_ne (zx_r hv3) zcn_0 (zq_c_i (zg_146 H1 ax2 zc32_0 zc8_6) fun v6 h103 s5 hv6 H4 => (zq_ne (zx_r hv6) zcn_0 (zg_196_28 H4 ax0 ax1 ax2 ax0 zc32_0) (zg_196_28 H4 ax0 ax1 ax2 ax0 zc32_2))) (zg_196_28 H1 ax0 ax1 ax2 ax0 zc32_1))))
theorem zg_195_4 : ∀ (n : Nat) {A : Nat} {h : xrH} {s : zS} {x0 : Nat} {Xx1 : Int32} {x1 : Int} {Xx2 : Int32} {x2 : Int} (H : zH A h s) (ax0 : x0 < 1) (ax1 : zx Xx1 x1) (ax2 : zx Xx2 x2), zq 0 A (xf_195_4 n (za_9 x0) Xx1 Xx2 h) (zf_195_4 n x0 x1 x2 s) := by
  intro n
  induction n with
  | zero =>
    intros
    exact zq_none
  | succ n ih =>
    intro A h s x0 Xx1 x1 Xx2 x2 H ax0 ax1 ax2
    rw [xf_195_4, zf_195_4]
    exact (zq_b (zi_610 H ax0) (zq_ge ax2 (zx_s H 610 x0 0) (zq_i H ax1) (zq_c (zc_9 H ax0) (zq_c_i (zg_192 H ax0 ax2) fun v3 h102 s2 hv3 H1 => (zq_eq (zx_r hv3) zcn_0 (zq_g fun g4 => (zq_g fun g5 => (ih H1 ax0 (zadd_x ax1 zc32_0 g4) (zadd_x ax2 zc32_1 g5)))) (zq_b (zr_616 H1 ax0) (zq_a (zw_616 H1 ax0) ax2 (zq_c (zc_9 H1 ax0) (zq_c_i (zg_194 H1 ax0 ax2) fun v8 h106 s7 hv8 H6 => (zq_eq (zx_s H1 616 x0 x2) (zx_r hv8) (zq_g fun g9 => (zq_g fun g10 => (ih H6 ax0 (zadd_x ax1 zc32_0 g9) (zadd_x ax2 zc32_1 g10)))) (zq_g fun g11 => (zq_g fun g12 => (ih H6 ax0 (zadd_x ax1 zc32_1 g11) (zadd_x ax2 zc32_1 g12))))))))))))))
theorem zg_195 {A : Nat} {h : xrH} {s : zS} {x0 : Nat} (H : zH A h s) (ax0 : x0 < 1) : zq 0 A (xf_195 (za_9 x0) h) (zf_195 x0 s) := by
  unfold xf_195 zf_195
  exact (zg_195_4 xfu H ax0 zc32_0 zc32_0)
theorem zg_197 {A : Nat} {h : xrH} {s : zS} {x0 : Nat} (H : zH A h s) (ax0 : x0 < 1) : zq 0 A (xf_197 (za_9 x0) h) (zf_197 x0 s) := by
  unfold xf_197 zf_197
  exact (zq_P (zpi_576 H ax0 zc32_0) fun h101 s2 H1 => (zq_c (zc_9 H1 ax0) (zq_c_i (zg_187 H1 ax0) fun v5 h102 s4 hv5 H3 => (zq_c (zc_9 H3 ax0) (zq_c_i (zg_195 H3 ax0) fun v8 h104 s7 hv8 H6 => (zq_i H6 (zx_r hv8)))))))
theorem zg_198 {A : Nat} {h : xrH} {s : zS} {x0 : Nat} (H : zH A h s) (ax0 : x0 < 1) : zq 0 A (xf_198 (za_9 x0) h) (zf_198 x0 s) := by
  unfold xf_198 zf_198
  exact (zq_c (zc_9 H ax0) (zq_c_i (zg_197 H ax0) fun v3 h101 s2 hv3 H1 => (zq_i H1 (zx_r hv3))))
theorem zg_199_28 {A : Nat} {h : xrH} {s : zS} {x0 : Nat} {Xx1 : Int32} {x1 : Int} {s0 : Nat} {Xs1 : Int32} {s1 : Int} (H : zH A h s) (ax0 : x0 < 1) (ax1 : zx Xx1 x1) (as0 : s0 < 1) (as1 : zx Xs1 s1) : zq 0 A (xf_199_28 (za_9 x0) Xx1 (za_9 s0) Xs1 h) (zf_199_28 x0 x1 s0 s1 s) := by
  unfold xf_199_28 zf_199_28
  exact (zq_P (zpi_576 H as0 as1) fun h101 s2 H1 => (zq_b (zi_576 H1 ax0) (zq_le (zx_s H1 576 x0 0) zcn_0 (zq_b (zr_616 H1 ax0) (zq_a (zw_616 H1 ax0) ax1 (zq_b (zi_603 H1 ax0) (zq_b (zd_eq (by decide)) (zq_b (zr_583 H1 ax0) (zq_b (zr_581 H1 ax0) (zq_b (zi_603 H1 ax0) (zq_b (zr_588 H1 ax0) (zq_b (zr_618 H1 ax0) (zq_a (zw_618 H1 ax0) ax1 (zq_a (zw_588 H1 ax0) (zx_s H1 618 x0 x1) (zq_g fun g3 => (zq_a (zw_581 H1 ax0) (zadd_x (zx_s H1 603 x0 0) (zx_s H1 588 x0 (s2.1 618 x0 x1)) g3) (zq_g fun g4 => (zq_g fun g5 => (zq_g fun g6 => (zq_a (zw_583 H1 ax0) (zsub_x (zadd_x (zmul_x zc8_26 (zdiv_x (zx_s H1 603 x0 0) zc16_200) g4) (zx_s H1 581 x0 ((s2.1 603 x0 0) + (s2.1 588 x0 (s2.1 618 x0 x1)))) g5) zc8_65 g6) (zq_c (zc_9 H1 ax0) (zq_c_i (zg_186 H1 ax0 (zdiv_x (zx_s H1 603 x0 0) zc16_200) (zx_s H1 583 x0 (((26 * (zdiv (s2.1 603 x0 0) 200)) + (s2.1 581 x0 ((s2.1 603 x0 0) + (s2.1 588 x0 (s2.1 618 x0 x1))))) - 65)) (zx_s H1 616 x0 x1)) fun v9 h116 s8 hv9 H7 => (zq_eq (zx_r hv9) zcn_0 (zq_i H7 zc32_m1) (zq_b (zi_607 H7 ax0) (zq_g fun g10 => (zq_i H7 (zsub_x (zx_s H7 607 x0 0) (zx_s H1 616 x0 x1) g10)))))))))))))))))))))))) (zq_i H1 zc32_0))))
theorem zg_199 {A : Nat} {h : xrH} {s : zS} {x0 : Nat} {Xx1 : Int32} {x1 : Int} (H : zH A h s) (ax0 : x0 < 1) (ax1 : zx Xx1 x1) : zq 0 A (xf_199 (za_9 x0) Xx1 h) (zf_199 x0 x1 s) := by
  unfold xf_199 zf_199
  exact (zq_c (zc_9 H ax0) (zq_c_i (zg_191 H ax0 ax1) fun v3 h101 s2 hv3 H1 => (zq_ne (zx_r hv3) zcn_0 (zq_b (zr_612 H1 ax0) (zq_a (zw_612 H1 ax0) ax1 (zq_eq (zx_s H1 612 x0 x1) zc32_3 (zg_199_28 H1 ax0 ax1 ax0 zc32_0) (zg_199_28 H1 ax0 ax1 ax0 zc32_2)))) (zg_199_28 H1 ax0 ax1 ax0 zc32_1))))
theorem zg_200_185 (k54 : Nat → Int32 → Int32 → Int32 → xrH → xrR) (zk54 : Nat → Int → Int → Int → zS → zR) (hk54 : ∀ {A : Nat} {h : xrH} {s : zS} {y0 : Nat} {Xy1 : Int32} {y1 : Int} {Xy2 : Int32} {y2 : Int} {Xy3 : Int32} {y3 : Int} (H : zH A h s) (ay0 : y0 < 1) (ay1 : zx Xy1 y1) (ay2 : zx Xy2 y2) (ay3 : zx Xy3 y3), zq 0 A (k54 (za_9 y0) Xy1 Xy2 Xy3 h) (zk54 y0 y1 y2 y3 s)) : ∀ (n : Nat) {A : Nat} {h : xrH} {s : zS} {x0 : Nat} {Xx2 : Int32} {x2 : Int} {Xx3 : Int32} {x3 : Int} {Xx4 : Int32} {x4 : Int} {Xx7 : Int32} {x7 : Int} (H : zH A h s) (ax0 : x0 < 1) (ax2 : zx Xx2 x2) (ax3 : zx Xx3 x3) (ax4 : zx Xx4 x4) (ax7 : zx Xx7 x7), zq 0 A (xf_200_185 k54 n (za_9 x0) Xx2 Xx3 Xx4 Xx7 h) (zf_200_185 zk54 n x0 x2 x3 x4 x7 s) := by
  intro n
  induction n with
  | zero =>
    intros
    exact zq_none
  | succ n ih =>
    intro A h s x0 Xx2 x2 Xx3 x3 Xx4 x4 Xx7 x7 H ax0 ax2 ax3 ax4 ax7
    rw [xf_200_185, zf_200_185]
    exact (zq_le ax7 zcn_0 (hk54 H ax0 ax2 ax3 ax4) (zq_b (zr_617 H ax0) (zq_a (zw_617 H ax0) ax7 (zq_ne (zx_s H 617 x0 x7) zcn_0 (zq_g fun g1 => (ih H ax0 ax2 ax3 ax4 (zadd_x ax7 zc32_m1 g1))) (zq_b (zr_612 H ax0) (zq_a (zw_612 H ax0) ax7 (zq_ne (zx_s H 612 x0 x7) zc32_3 (zq_g fun g2 => (ih H ax0 ax2 ax3 ax4 (zadd_x ax7 zc32_m1 g2))) (zq_g fun g3 => (ih H ax0 ax2 ax7 ax4 (zadd_x ax7 zc32_m1 g3))))))))))
theorem zg_200_106 (k54 : Nat → Int32 → Int32 → Int32 → xrH → xrR) (zk54 : Nat → Int → Int → Int → zS → zR) (hk54 : ∀ {A : Nat} {h : xrH} {s : zS} {y0 : Nat} {Xy1 : Int32} {y1 : Int} {Xy2 : Int32} {y2 : Int} {Xy3 : Int32} {y3 : Int} (H : zH A h s) (ay0 : y0 < 1) (ay1 : zx Xy1 y1) (ay2 : zx Xy2 y2) (ay3 : zx Xy3 y3), zq 0 A (k54 (za_9 y0) Xy1 Xy2 Xy3 h) (zk54 y0 y1 y2 y3 s)) : ∀ (n : Nat) {A : Nat} {h : xrH} {s : zS} {x0 : Nat} {Xx2 : Int32} {x2 : Int} {Xx4 : Int32} {x4 : Int} {Xx5 : Int32} {x5 : Int} {Xx6 : Int32} {x6 : Int} {Xx7 : Int32} {x7 : Int} (H : zH A h s) (ax0 : x0 < 1) (ax2 : zx Xx2 x2) (ax4 : zx Xx4 x4) (ax5 : zx Xx5 x5) (ax6 : zx Xx6 x6) (ax7 : zx Xx7 x7), zq 0 A (xf_200_106 k54 n (za_9 x0) Xx2 Xx4 Xx5 Xx6 Xx7 h) (zf_200_106 zk54 n x0 x2 x4 x5 x6 x7 s) := by
  intro n
  induction n with
  | zero =>
    intros
    exact zq_none
  | succ n ih =>
    intro A h s x0 Xx2 x2 Xx4 x4 Xx5 x5 Xx6 x6 Xx7 x7 H ax0 ax2 ax4 ax5 ax6 ax7
    rw [xf_200_106, zf_200_106]
    exact (zq_ge ax7 ax4 (zq_c (zc_9 H ax0) (zq_c_i (zg_186 H ax0 ax2 ax6 ax5) fun v3 h101 s2 hv3 H1 => (zq_ne (zx_r hv3) zcn_0 (zq_b (zr_633 H1 ax0) (zq_g fun g4 => (zq_g fun g5 => (zq_W (fun hl => zwp_633 H1 ax0 ax4 (zadd_x (zmul_x zc16_1000 ax6 g4) ax5 g5) hl) fun h104 s7 H6 => (zq_b (zi_610 H6 ax0) (zq_g fun g8 => (zq_g fun g9 => (zg_200_185 k54 zk54 hk54 xfu H6 ax0 ax2 zc32_m1 (zadd_x ax4 zc32_1 g8) (zsub_x (zx_s H6 610 x0 0) zc32_1 g9))))))))) (zq_i H1 ax4)))) (zq_b (zr_633 H ax0) (zq_a (zw_633 H ax0) ax7 (zq_g fun g10 => (zq_g fun g11 => (zq_ne (zx_s H 633 x0 x7) (zadd_x (zmul_x zc16_1000 ax6 g10) ax5 g11) (zq_g fun g12 => (ih H ax0 ax2 ax4 ax5 ax6 (zadd_x ax7 zc32_1 g12))) (zq_i H zc8_m2)))))))
theorem zg_200_54 : ∀ (n : Nat) {A : Nat} {h : xrH} {s : zS} {x0 : Nat} {Xx2 : Int32} {x2 : Int} {Xx3 : Int32} {x3 : Int} {Xx4 : Int32} {x4 : Int} (H : zH A h s) (ax0 : x0 < 1) (ax2 : zx Xx2 x2) (ax3 : zx Xx3 x3) (ax4 : zx Xx4 x4), zq 0 A (xf_200_54 n (za_9 x0) Xx2 Xx3 Xx4 h) (zf_200_54 n x0 x2 x3 x4 s) := by
  intro n
  induction n with
  | zero =>
    intros
    exact zq_none
  | succ n ih =>
    intro A h s x0 Xx2 x2 Xx3 x3 Xx4 x4 H ax0 ax2 ax3 ax4
    rw [xf_200_54, zf_200_54]
    exact (zq_eq ax3 zc32_m1 (zq_i H ax4) (zq_b (zr_616 H ax0) (zq_a (zw_616 H ax0) ax3 (zq_b (zr_583 H ax0) (zq_b (zr_581 H ax0) (zq_b (zi_603 H ax0) (zq_b (zr_588 H ax0) (zq_b (zr_618 H ax0) (zq_a (zw_618 H ax0) ax3 (zq_a (zw_588 H ax0) (zx_s H 618 x0 x3) (zq_g fun g1 => (zq_a (zw_581 H ax0) (zadd_x (zx_s H 603 x0 0) (zx_s H 588 x0 (s.1 618 x0 x3)) g1) (zq_g fun g2 => (zq_g fun g3 => (zq_g fun g4 => (zq_a (zw_583 H ax0) (zsub_x (zadd_x (zmul_x zc8_26 ax2 g2) (zx_s H 581 x0 ((s.1 603 x0 0) + (s.1 588 x0 (s.1 618 x0 x3)))) g3) zc8_65 g4) (zg_200_106 (fun y0 y1 y2 y3 y => (xf_200_54 n y0 y1 y2 y3 y)) (fun y0 y1 y2 y3 y => (zf_200_54 n y0 y1 y2 y3 y)) (fun H ay0 ay1 ay2 ay3 => (ih H ay0 ay1 ay2 ay3)) xfu H ax0 ax2 ax4 (zx_s H 616 x0 x3) (zx_s H 583 x0 (((26 * x2) + (s.1 581 x0 ((s.1 603 x0 0) + (s.1 588 x0 (s.1 618 x0 x3))))) - 65)) zc32_0)))))))))))))))))
theorem zg_200_28 {A : Nat} {h : xrH} {s : zS} {x0 : Nat} {Xx1 : Int32} {x1 : Int} {s0 : Nat} {Xs1 : Int32} {s1 : Int} (H : zH A h s) (ax0 : x0 < 1) (ax1 : zx Xx1 x1) (as0 : s0 < 1) (as1 : zx Xs1 s1) : zq 0 A (xf_200_28 (za_9 x0) Xx1 (za_9 s0) Xs1 h) (zf_200_28 x0 x1 s0 s1 s) := by
  unfold xf_200_28 zf_200_28
  exact (zq_P (zpi_576 H as0 as1) fun h101 s2 H1 => (zq_b (zi_576 H1 ax0) (zq_le (zx_s H1 576 x0 0) zcn_0 (zq_b (zi_603 H1 ax0) (zq_b (zd_eq (by decide)) (zg_200_54 xfu H1 ax0 (zdiv_x (zx_s H1 603 x0 0) zc16_200) ax1 zc32_0))) (zq_i H1 zc32_0))))
theorem zg_200 {A : Nat} {h : xrH} {s : zS} {x0 : Nat} {Xx1 : Int32} {x1 : Int} (H : zH A h s) (ax0 : x0 < 1) (ax1 : zx Xx1 x1) : zq 0 A (xf_200 (za_9 x0) Xx1 h) (zf_200 x0 x1 s) := by
  unfold xf_200 zf_200
  exact (zq_c (zc_9 H ax0) (zq_c_i (zg_191 H ax0 ax1) fun v3 h101 s2 hv3 H1 => (zq_ne (zx_r hv3) zcn_0 (zq_b (zr_612 H1 ax0) (zq_a (zw_612 H1 ax0) ax1 (zq_eq (zx_s H1 612 x0 x1) zc32_3 (zg_200_28 H1 ax0 ax1 ax0 zc32_0) (zg_200_28 H1 ax0 ax1 ax0 zc32_2)))) (zg_200_28 H1 ax0 ax1 ax0 zc32_1))))
theorem zg_201_54 : ∀ (n : Nat) {A : Nat} {h : xrH} {s : zS} {x0 : Nat} {Xx1 : Int32} {x1 : Int} {Xx2 : Int32} {x2 : Int} {Xx4 : Int32} {x4 : Int} (H : zH A h s) (ax0 : x0 < 1) (ax1 : zx Xx1 x1) (ax2 : zx Xx2 x2) (ax4 : zx Xx4 x4), zq 0 A (xf_201_54 n (za_9 x0) Xx1 Xx2 Xx4 h) (zf_201_54 n x0 x1 x2 x4 s) := by
  intro n
  induction n with
  | zero =>
    intros
    exact zq_none
  | succ n ih =>
    intro A h s x0 Xx1 x1 Xx2 x2 Xx4 x4 H ax0 ax1 ax2 ax4
    rw [xf_201_54, zf_201_54]
    exact (zq_b (zi_594 H ax0) (zq_ge ax4 (zx_s H 594 x0 0) (zq_i H zc32_m1) (zq_b (zr_595 H ax0) (zq_a (zw_595 H ax0) ax4 (zq_ne (zand_x (zx_s H 595 x0 x4) ax2) (zand_x ax1 ax2) (zq_g fun g1 => (ih H ax0 ax1 ax2 (zadd_x ax4 zc32_1 g1))) (zq_i H ax4))))))
theorem zg_201_39 {A : Nat} {h : xrH} {s : zS} {x0 : Nat} {Xx1 : Int32} {x1 : Int} {Xx2 : Int32} {x2 : Int} {Xx3 : Int32} {x3 : Int} {s0 : Nat} {Xs1 : Int32} {s1 : Int} (H : zH A h s) (ax0 : x0 < 1) (ax1 : zx Xx1 x1) (ax2 : zx Xx2 x2) (ax3 : zx Xx3 x3) (as0 : s0 < 1) (as1 : zx Xs1 s1) : zq 0 A (xf_201_39 (za_9 x0) Xx1 Xx2 Xx3 (za_9 s0) Xs1 h) (zf_201_39 x0 x1 x2 x3 s0 s1 s) := by
  unfold xf_201_39 zf_201_39
  exact (zq_P (zpi_576 H as0 as1) fun h101 s2 H1 => (zq_b (zi_576 H1 ax0) (zq_le (zx_s H1 576 x0 0) zcn_0 (zg_201_54 xfu H1 ax0 ax1 ax2 ax3) (zq_i H1 zc32_0))))
theorem zg_201 {A : Nat} {h : xrH} {s : zS} {x0 : Nat} {Xx1 : Int32} {x1 : Int} {Xx2 : Int32} {x2 : Int} {Xx3 : Int32} {x3 : Int} (H : zH A h s) (ax0 : x0 < 1) (ax1 : zx Xx1 x1) (ax2 : zx Xx2 x2) (ax3 : zx Xx3 x3) : zq 0 A (xf_201 (za_9 x0) Xx1 Xx2 Xx3 h) (zf_201 x0 x1 x2 x3 s) := by
  unfold xf_201 zf_201
  exact (zq_c_i (zg_146 H ax1 zc32_0 zc16_255) fun v3 h101 s2 hv3 H1 => (zq_eq (zx_r hv3) zcn_0 (zg_201_39 H1 ax0 ax1 ax2 ax3 ax0 zc32_1) (zq_c_i (zg_146 H1 ax2 zc32_0 zc16_255) fun v6 h103 s5 hv6 H4 => (zq_eq (zx_r hv6) zcn_0 (zg_201_39 H4 ax0 ax1 ax2 ax3 ax0 zc32_1) (zq_c_i (zg_146 H4 ax3 zc32_0 zc16_200) fun v9 h105 s8 hv9 H7 => (zq_eq (zx_r hv9) zcn_0 (zg_201_39 H7 ax0 ax1 ax2 ax3 ax0 zc32_1) (zg_201_39 H7 ax0 ax1 ax2 ax3 ax0 zc32_0)))))))
theorem zg_202_58 : ∀ (n : Nat) {A : Nat} {h : xrH} {s : zS} {x0 : Nat} {Xx1 : Int32} {x1 : Int} {Xx2 : Int32} {x2 : Int} {Xx4 : Int32} {x4 : Int} (H : zH A h s) (ax0 : x0 < 1) (ax1 : zx Xx1 x1) (ax2 : zx Xx2 x2) (ax4 : zx Xx4 x4), zq 0 A (xf_202_58 n (za_9 x0) Xx1 Xx2 Xx4 h) (zf_202_58 n x0 x1 x2 x4 s) := by
  intro n
  induction n with
  | zero =>
    intros
    exact zq_none
  | succ n ih =>
    intro A h s x0 Xx1 x1 Xx2 x2 Xx4 x4 H ax0 ax1 ax2 ax4
    rw [xf_202_58, zf_202_58]
    exact (zq_b (zi_610 H ax0) (zq_ge ax4 (zx_s H 610 x0 0) (zq_i H zc32_m1) (zq_b (zr_612 H ax0) (zq_a (zw_612 H ax0) ax4 (zq_c_i (zg_146 H (zx_s H 612 x0 x4) zc32_2 zc32_4) fun v3 h104 s2 hv3 H1 => (zq_eq (zx_r hv3) zcn_0 (zq_g fun g4 => (ih H1 ax0 ax1 ax2 (zadd_x ax4 zc32_1 g4))) (zq_b (zr_613 H1 ax0) (zq_a (zw_613 H1 ax0) ax4 (zq_ne (zx_s H1 613 x0 x4) ax1 (zq_g fun g5 => (ih H1 ax0 ax1 ax2 (zadd_x ax4 zc32_1 g5))) (zq_b (zr_616 H1 ax0) (zq_a (zw_616 H1 ax0) ax4 (zq_ne (zx_s H1 616 x0 x4) ax2 (zq_g fun g6 => (ih H1 ax0 ax1 ax2 (zadd_x ax4 zc32_1 g6))) (zq_i H1 ax4)))))))))))))
theorem zg_202_38 {A : Nat} {h : xrH} {s : zS} {x0 : Nat} {Xx1 : Int32} {x1 : Int} {Xx2 : Int32} {x2 : Int} {Xx3 : Int32} {x3 : Int} {s0 : Nat} {Xs1 : Int32} {s1 : Int} (H : zH A h s) (ax0 : x0 < 1) (ax1 : zx Xx1 x1) (ax2 : zx Xx2 x2) (ax3 : zx Xx3 x3) (as0 : s0 < 1) (as1 : zx Xs1 s1) : zq 0 A (xf_202_38 (za_9 x0) Xx1 Xx2 Xx3 (za_9 s0) Xs1 h) (zf_202_38 x0 x1 x2 x3 s0 s1 s) := by
  unfold xf_202_38 zf_202_38
  exact (zq_P (zpi_576 H as0 as1) fun h101 s2 H1 => (zq_b (zi_576 H1 ax0) (zq_le (zx_s H1 576 x0 0) zcn_0 (zq_c (zc_9 H1 ax0) (zq_c_i (zg_187 H1 ax0) fun v5 h103 s4 hv5 H3 => (zg_202_58 xfu H3 ax0 ax1 ax2 ax3))) (zq_i H1 zc32_0))))
theorem zg_202 {A : Nat} {h : xrH} {s : zS} {x0 : Nat} {Xx1 : Int32} {x1 : Int} {Xx2 : Int32} {x2 : Int} {Xx3 : Int32} {x3 : Int} (H : zH A h s) (ax0 : x0 < 1) (ax1 : zx Xx1 x1) (ax2 : zx Xx2 x2) (ax3 : zx Xx3 x3) : zq 0 A (xf_202 (za_9 x0) Xx1 Xx2 Xx3 h) (zf_202 x0 x1 x2 x3 s) := by
  unfold xf_202 zf_202
  exact (zq_c_i (zg_146 H ax1 zc32_0 zc8_25) fun v3 h101 s2 hv3 H1 => (zq_eq (zx_r hv3) zcn_0 (zg_202_38 H1 ax0 ax1 ax2 ax3 ax0 zc32_1) (zq_c_i (zg_146 H1 ax2 zc32_0 zc32_65535) fun v6 h103 s5 hv6 H4 => (zq_eq (zx_r hv6) zcn_0 (zg_202_38 H4 ax0 ax1 ax2 ax3 ax0 zc32_1) (zq_c_i (zg_146 H4 ax3 zc32_0 zc16_200) fun v9 h105 s8 hv9 H7 => (zq_eq (zx_r hv9) zcn_0 (zg_202_38 H7 ax0 ax1 ax2 ax3 ax0 zc32_1) (zg_202_38 H7 ax0 ax1 ax2 ax3 ax0 zc32_0)))))))
theorem zg_203_10 : ∀ (n : Nat) {A : Nat} {h : xrH} {s : zS} {x0 : Nat} {Xx1 : Int32} {x1 : Int} (H : zH A h s) (ax0 : x0 < 1) (ax1 : zx Xx1 x1), zq 1 A (xf_203_10 n (za_9 x0) Xx1 h) (zf_203_10 n x0 x1 s) := by
  intro n
  induction n with
  | zero =>
    intros
    exact zq_none
  | succ n ih =>
    intro A h s x0 Xx1 x1 H ax0 ax1
    rw [xf_203_10, zf_203_10]
    exact (zq_b (zi_594 H ax0) (zq_ge ax1 (zx_s H 594 x0 0) (zq_v H) (zq_b (zr_597 H ax0) (zq_b (zr_595 H ax0) (zq_a (zw_595 H ax0) ax1 (zq_W (fun hl => zwp_597 H ax0 ax1 (zx_s H 595 x0 x1) hl) fun h105 s2 H1 => (zq_g fun g3 => (ih H1 ax0 (zadd_x ax1 zc32_1 g3)))))))))
theorem zg_203 {A : Nat} {h : xrH} {s : zS} {x0 : Nat} (H : zH A h s) (ax0 : x0 < 1) : zq 1 A (xf_203 (za_9 x0) h) (zf_203 x0 s) := by
  unfold xf_203 zf_203
  exact (zq_b (zi_594 H ax0) (zq_P (zpi_596 H ax0 (zx_s H 594 x0 0)) fun h102 s2 H1 => (zg_203_10 xfu H1 ax0 zc32_0)))
theorem zg_204_19 : ∀ (n : Nat) {A : Nat} {h : xrH} {s : zS} {x0 : Nat} {Xx2 : Int32} {x2 : Int} {Xx3 : Int32} {x3 : Int} (H : zH A h s) (ax0 : x0 < 1) (ax2 : zx Xx2 x2) (ax3 : zx Xx3 x3), zq 0 A (xf_204_19 n (za_9 x0) Xx2 Xx3 h) (zf_204_19 n x0 x2 x3 s) := by
  intro n
  induction n with
  | zero =>
    intros
    exact zq_none
  | succ n ih =>
    intro A h s x0 Xx2 x2 Xx3 x3 H ax0 ax2 ax3
    rw [xf_204_19, zf_204_19]
    exact (zq_b (zi_594 H ax0) (zq_ge ax3 (zx_s H 594 x0 0) (zq_c (zc_9 H ax0) (zq_c_i (zg_145 H ax0 ax2) fun v3 h102 s2 hv3 H1 => (zq_i H1 (zx_r hv3)))) (zq_b (zr_595 H ax0) (zq_b (zr_597 H ax0) (zq_a (zw_597 H ax0) ax3 (zq_W (fun hl => zwp_595 H ax0 ax3 (zx_s H 597 x0 x3) hl) fun h107 s5 H4 => (zq_g fun g6 => (ih H4 ax0 ax2 (zadd_x ax3 zc32_1 g6)))))))))
theorem zg_204 {A : Nat} {h : xrH} {s : zS} {x0 : Nat} {Xx1 : Int32} {x1 : Int} {Xx2 : Int32} {x2 : Int} (H : zH A h s) (ax0 : x0 < 1) (ax1 : zx Xx1 x1) (ax2 : zx Xx2 x2) : zq 0 A (xf_204 (za_9 x0) Xx1 Xx2 h) (zf_204 x0 x1 x2 s) := by
  unfold xf_204 zf_204
  exact (zq_eq ax1 zcn_0 (zq_b (zi_596 H ax0) (zq_P (zpi_594 H ax0 (zx_s H 596 x0 0)) fun h102 s2 H1 => (zg_204_19 xfu H1 ax0 ax2 zc32_0))) (zq_c (zc_9 H ax0) (zq_c_i (zg_148 H ax0) fun v5 h103 s4 hv5 H3 => (zq_i H3 (zx_r hv5)))))
theorem zg_205_177 {A : Nat} {h : xrH} {s : zS} {x0 : Nat} {Xx1 : Int32} {x1 : Int} {Xx2 : Int32} {x2 : Int} (H : zH A h s) (ax0 : x0 < 1) (ax1 : zx Xx1 x1) (ax2 : zx Xx2 x2) : zq 1 A (xf_205_177 (za_9 x0) Xx1 Xx2 h) (zf_205_177 x0 x1 x2 s) := by
  unfold xf_205_177 zf_205_177
  exact (zq_b (zr_616 H ax0) (zq_W (fun hl => zwp_616 H ax0 ax1 ax2 hl) fun h102 s2 H1 => (zq_v H1)))
theorem zg_205_66 {A : Nat} {h : xrH} {s : zS} {x0 : Nat} {Xx1 : Int32} {x1 : Int} {Xx2 : Int32} {x2 : Int} {Xx3 : Int32} {x3 : Int} {Xx4 : Int32} {x4 : Int} {s0 : Nat} {Xs1 : Int32} {s1 : Int} {Xs2 : Int32} {s2 : Int} (H : zH A h s) (ax0 : x0 < 1) (ax1 : zx Xx1 x1) (ax2 : zx Xx2 x2) (ax3 : zx Xx3 x3) (ax4 : zx Xx4 x4) (as0 : s0 < 1) (as1 : zx Xs1 s1) (as2 : zx Xs2 s2) : zq 1 A (xf_205_66 (za_9 x0) Xx1 Xx2 Xx3 Xx4 (zy_595 s0) Xs1 Xs2 h) (zf_205_66 x0 x1 x2 x3 x4 s0 s1 s2 s) := by
  unfold xf_205_66 zf_205_66
  exact (zq_W (fun hl => zwp_595 H as0 as1 as2 hl) fun h101 s2 H1 => (zq_b (zr_595 H1 ax0) (zq_b (zr_587 H1 ax0) (zq_a (zw_587 H1 ax0) ax3 (zq_ne (zx_s H1 587 x0 x3) zc8_119 (zq_g fun g3 => (zq_W (fun hl => zwp_595 H1 ax0 (zadd_x ax4 zc32_1 g3) (zand_x ax2 zc16_255) hl) fun h105 s5 H4 => (zg_205_177 H4 ax0 ax1 ax2))) (zq_g fun g6 => (zq_W (fun hl => zwp_595 H1 ax0 (zadd_x ax4 zc32_1 g6) (zshr_x ax2 zc8_8) hl) fun h106 s8 H7 => (zg_205_177 H7 ax0 ax1 ax2))))))))
theorem zg_205_37 {A : Nat} {h : xrH} {s : zS} {x0 : Nat} {Xx1 : Int32} {x1 : Int} {Xx2 : Int32} {x2 : Int} {Xx3 : Int32} {x3 : Int} {Xx4 : Int32} {x4 : Int} (H : zH A h s) (ax0 : x0 < 1) (ax1 : zx Xx1 x1) (ax2 : zx Xx2 x2) (ax3 : zx Xx3 x3) (ax4 : zx Xx4 x4) : zq 1 A (xf_205_37 (za_9 x0) Xx1 Xx2 Xx3 Xx4 h) (zf_205_37 x0 x1 x2 x3 x4 s) := by
  unfold xf_205_37 zf_205_37
  exact (zq_b (zr_595 H ax0) (zq_b (zr_587 H ax0) (zq_a (zw_587 H ax0) ax3 (zq_ne (zx_s H 587 x0 x3) zc8_119 (zg_205_66 H ax0 ax1 ax2 ax3 ax4 ax0 ax4 (zshr_x ax2 zc8_8)) (zg_205_66 H ax0 ax1 ax2 ax3 ax4 ax0 ax4 (zand_x ax2 zc16_255))))))
theorem zg_205 {A : Nat} {h : xrH} {s : zS} {x0 : Nat} {Xx1 : Int32} {x1 : Int} {Xx2 : Int32} {x2 : Int} (H : zH A h s) (ax0 : x0 < 1) (ax1 : zx Xx1 x1) (ax2 : zx Xx2 x2) : zq 1 A (xf_205 (za_9 x0) Xx1 Xx2 h) (zf_205 x0 x1 x2 s) := by
  unfold xf_205 zf_205
  exact (zq_b (zr_618 H ax0) (zq_a (zw_618 H ax0) ax1 (zq_b (zr_614 H ax0) (zq_a (zw_614 H ax0) ax1 (zq_b (zr_587 H ax0) (zq_a (zw_587 H ax0) (zx_s H 618 x0 x1) (zq_eq (zx_s H 587 x0 (s.1 618 x0 x1)) zc8_119 (zg_205_37 H ax0 ax1 ax2 (zx_s H 618 x0 x1) (zx_s H 614 x0 x1)) (zq_b (zr_587 H ax0) (zq_a (zw_587 H ax0) (zx_s H 618 x0 x1) (zq_ne (zx_s H 587 x0 (s.1 618 x0 x1)) zc8_87 (zq_b (zr_587 H ax0) (zq_a (zw_587 H ax0) (zx_s H 618 x0 x1) (zq_ne (zx_s H 587 x0 (s.1 618 x0 x1)) zc8_110 (zq_b (zr_595 H ax0) (zq_W (fun hl => zwp_595 H ax0 (zx_s H 614 x0 x1) ax2 hl) fun h112 s2 H1 => (zg_205_177 H1 ax0 ax1 ax2))) (zq_b (zr_619 H ax0) (zq_a (zw_619 H ax0) ax1 (zq_b (zr_589 H ax0) (zq_a (zw_589 H ax0) (zx_s H 618 x0 x1) (zq_b (zr_595 H ax0) (zq_b (zr_595 H ax0) (zq_a (zw_595 H ax0) (zx_s H 614 x0 x1) (zq_b (zr_589 H ax0) (zq_a (zw_589 H ax0) (zx_s H 618 x0 x1) (zq_g fun g3 => (zq_g fun g4 => (zq_g fun g5 => (zq_W (fun hl => zwp_595 H ax0 (zx_s H 614 x0 x1) (zor_x (zand_x (zx_s H 595 x0 (s.1 614 x0 x1)) (zxor_x (zshl_x (zsub_x (zshl_x zc32_1 (zx_s H 589 x0 (s.1 618 x0 x1))) zc32_1 g3) (zsub_x (zsub_x zc8_8 (zx_s H 619 x0 x1) g4) (zx_s H 589 x0 (s.1 618 x0 x1)) g5)) zc32_m1)) (zshl_x ax2 (zsub_x (zsub_x zc8_8 (zx_s H 619 x0 x1) g4) (zx_s H 589 x0 (s.1 618 x0 x1)) g5))) hl) fun h122 s7 H6 => (zg_205_177 H6 ax0 ax1 ax2))))))))))))))))) (zg_205_37 H ax0 ax1 ax2 (zx_s H 618 x0 x1) (zx_s H 614 x0 x1))))))))))))
theorem zg_210 {A : Nat} {h : xrH} {s : zS} {x0 : Nat} {Xx1 : Int32} {x1 : Int} (H : zH A h s) (ax0 : x0 < 1) (ax1 : zx Xx1 x1) : zq 0 A (xf_210 (za_9 x0) Xx1 h) (zf_210 x0 x1 s) := by
  unfold xf_210 zf_210
  exact (zq_b (zr_592 H ax0) (zq_b (zr_618 H ax0) (zq_a (zw_618 H ax0) ax1 (zq_a (zw_592 H ax0) (zx_s H 618 x0 x1) (zq_eq (zx_s H 592 x0 (s.1 618 x0 x1)) zc8_35 (zq_z H zc32_1) (zq_b (zr_592 H ax0) (zq_b (zr_618 H ax0) (zq_a (zw_618 H ax0) ax1 (zq_a (zw_592 H ax0) (zx_s H 618 x0 x1) (zq_ne (zx_s H 592 x0 (s.1 618 x0 x1)) zc8_37 (zq_z H zc32_0) (zq_z H zc32_1)))))))))))
theorem zg_212_56 : ∀ (n : Nat) {A : Nat} {h : xrH} {s : zS} {x0 : Nat} {Xx1 : Int32} {x1 : Int} {Xx2 : Int32} {x2 : Int} (H : zH A h s) (ax0 : x0 < 1) (ax1 : zx Xx1 x1) (ax2 : zx Xx2 x2), zq 0 A (xf_212_56 n (za_9 x0) Xx1 Xx2 h) (zf_212_56 n x0 x1 x2 s) := by
  intro n
  induction n with
  | zero =>
    intros
    exact zq_none
  | succ n ih =>
    intro A h s x0 Xx1 x1 Xx2 x2 H ax0 ax1 ax2
    rw [xf_212_56, zf_212_56]
    exact (zq_b (zi_610 H ax0) (zq_ge ax2 (zx_s H 610 x0 0) (zq_z H ax1) (zq_c (zc_9 H ax0) (zq_c_i (zg_192 H ax0 ax2) fun v3 h102 s2 hv3 H1 => (zq_eq (zx_r hv3) zcn_0 (zq_g fun g4 => (ih H1 ax0 ax1 (zadd_x ax2 zc32_1 g4))) (zq_b (zr_631 H1 ax0) (zq_a (zw_631 H1 ax0) ax2 (zq_b (zr_616 H1 ax0) (zq_a (zw_616 H1 ax0) ax2 (zq_eq (zx_s H1 631 x0 x2) (zx_s H1 616 x0 x2) (zq_g fun g5 => (ih H1 ax0 ax1 (zadd_x ax2 zc32_1 g5))) (zq_b (zr_631 H1 ax0) (zq_a (zw_631 H1 ax0) ax2 (zq_c (zc_9 H1 ax0) (zq_c_v (zg_205 H1 ax0 ax2 (zx_s H1 631 x0 x2)) fun _ h110 s7 _ H6 => (zq_g fun g8 => (ih H6 ax0 zc32_1 (zadd_x ax2 zc32_1 g8)))))))))))))))))
theorem zg_212_4 : ∀ (n : Nat) {A : Nat} {h : xrH} {s : zS} {x0 : Nat} {Xx1 : Int32} {x1 : Int} {Xx2 : Int32} {x2 : Int} (H : zH A h s) (ax0 : x0 < 1) (ax1 : zx Xx1 x1) (ax2 : zx Xx2 x2), zq 0 A (xf_212_4 n (za_9 x0) Xx1 Xx2 h) (zf_212_4 n x0 x1 x2 s) := by
  intro n
  induction n with
  | zero =>
    intros
    exact zq_none
  | succ n ih =>
    intro A h s x0 Xx1 x1 Xx2 x2 H ax0 ax1 ax2
    rw [xf_212_4, zf_212_4]
    exact (zq_b (zi_610 H ax0) (zq_ge ax2 (zx_s H 610 x0 0) (zg_212_56 xfu H ax0 ax1 zc32_0) (zq_b (zr_631 H ax0) (zq_c (zc_9 H ax0) (zq_c_i (zg_192 H ax0 ax2) fun v3 h103 s2 hv3 H1 => (zq_eq (zx_r hv3) zcn_0 (zq_b (zr_616 H1 ax0) (zq_a (zw_616 H1 ax0) ax2 (zq_W (fun hl => zwp_631 H1 ax0 ax2 (zx_s H1 616 x0 x2) hl) fun h107 s5 H4 => (zq_g fun g6 => (ih H4 ax0 ax1 (zadd_x ax2 zc32_1 g6)))))) (zq_c (zc_9 H1 ax0) (zq_c_i (zg_210 H1 ax0 ax2) fun v9 h108 s8 hv9 H7 => (zq_eq (zx_r hv9) zcn_0 (zq_b (zr_616 H7 ax0) (zq_a (zw_616 H7 ax0) ax2 (zq_W (fun hl => zwp_631 H7 ax0 ax2 (zx_s H7 616 x0 x2) hl) fun h112 s11 H10 => (zq_g fun g12 => (ih H10 ax0 ax1 (zadd_x ax2 zc32_1 g12)))))) (zq_c (zc_9 H7 ax0) (zq_c_i (zg_194 H7 ax0 ax2) fun v15 h113 s14 hv15 H13 => (zq_W (fun hl => zwp_631 H13 ax0 ax2 (zx_r hv15) hl) fun h115 s17 H16 => (zq_g fun g18 => (ih H16 ax0 ax1 (zadd_x ax2 zc32_1 g18)))))))))))))))
theorem zg_212 {A : Nat} {h : xrH} {s : zS} {x0 : Nat} (H : zH A h s) (ax0 : x0 < 1) : zq 0 A (xf_212 (za_9 x0) h) (zf_212 x0 s) := by
  unfold xf_212 zf_212
  exact (zg_212_4 xfu H ax0 zc32_0 zc32_0)
theorem zg_206_22 {A : Nat} {h : xrH} {s : zS} {Xx2 : Int32} {x2 : Int} {Xx3 : Int32} {x3 : Int} (H : zH A h s) (ax2 : zx Xx2 x2) (ax3 : zx Xx3 x3) : zq 0 A (xf_206_22 Xx2 Xx3 h) (zf_206_22 x2 x3 s) := by
  unfold xf_206_22 zf_206_22
  exact (zq_ne ax3 ax2 (zq_z H zc32_0) (zq_z H zc32_1))
theorem zg_206_2 : ∀ (n : Nat) {A : Nat} {h : xrH} {s : zS} {x0 : Nat} {Xx2 : Int32} {x2 : Int} {Xx3 : Int32} {x3 : Int} (H : zH A h s) (ax0 : x0 < 1) (ax2 : zx Xx2 x2) (ax3 : zx Xx3 x3), zq 0 A (xf_206_2 n (za_9 x0) Xx2 Xx3 h) (zf_206_2 n x0 x2 x3 s) := by
  intro n
  induction n with
  | zero =>
    intros
    exact zq_none
  | succ n ih =>
    intro A h s x0 Xx2 x2 Xx3 x3 H ax0 ax2 ax3
    rw [xf_206_2, zf_206_2]
    exact (zq_eq ax3 zc32_m1 (zg_206_22 H ax2 ax3) (zq_eq ax3 ax2 (zg_206_22 H ax2 ax3) (zq_b (zr_617 H ax0) (zq_a (zw_617 H ax0) ax3 (ih H ax0 ax2 (zx_s H 617 x0 x3))))))
theorem zg_206 {A : Nat} {h : xrH} {s : zS} {x0 : Nat} {Xx1 : Int32} {x1 : Int} {Xx2 : Int32} {x2 : Int} (H : zH A h s) (ax0 : x0 < 1) (ax1 : zx Xx1 x1) (ax2 : zx Xx2 x2) : zq 0 A (xf_206 (za_9 x0) Xx1 Xx2 h) (zf_206 x0 x1 x2 s) := by
  unfold xf_206 zf_206
  exact (zg_206_2 xfu H ax0 ax2 ax1)
theorem zg_213_37 (k11 : Nat → Int32 → Int32 → Int32 → xrH → xrR) (zk11 : Nat → Int → Int → Int → zS → zR) (hk11 : ∀ {A : Nat} {h : xrH} {s : zS} {y0 : Nat} {Xy1 : Int32} {y1 : Int} {Xy2 : Int32} {y2 : Int} {Xy3 : Int32} {y3 : Int} (H : zH A h s) (ay0 : y0 < 1) (ay1 : zx Xy1 y1) (ay2 : zx Xy2 y2) (ay3 : zx Xy3 y3), zq 0 A (k11 (za_9 y0) Xy1 Xy2 Xy3 h) (zk11 y0 y1 y2 y3 s)) : ∀ (n : Nat) {A : Nat} {h : xrH} {s : zS} {x0 : Nat} {Xx1 : Int32} {x1 : Int} {Xx3 : Int32} {x3 : Int} {Xx4 : Int32} {x4 : Int} {Xx5 : Int32} {x5 : Int} {Xx6 : Int32} {x6 : Int} (H : zH A h s) (ax0 : x0 < 1) (ax1 : zx Xx1 x1) (ax3 : zx Xx3 x3) (ax4 : zx Xx4 x4) (ax5 : zx Xx5 x5) (ax6 : zx Xx6 x6), zq 0 A (xf_213_37 k11 n (za_9 x0) Xx1 Xx3 Xx4 Xx5 Xx6 h) (zf_213_37 zk11 n x0 x1 x3 x4 x5 x6 s) := by
  intro n
  induction n with
  | zero =>
    intros
    exact zq_none
  | succ n ih =>
    intro A h s x0 Xx1 x1 Xx3 x3 Xx4 x4 Xx5 x5 Xx6 x6 H ax0 ax1 ax3 ax4 ax5 ax6
    rw [xf_213_37, zf_213_37]
    exact (zq_b (zi_610 H ax0) (zq_ge ax6 (zx_s H 610 x0 0) (zq_eq ax5 zcn_0 (zq_g fun g1 => (hk11 H ax0 ax1 zc32_1 (zadd_x ax3 zc32_m1 g1))) (zq_g fun g2 => (hk11 H ax0 ax3 zc32_1 (zadd_x ax3 zc32_m1 g2)))) (zq_eq ax5 zcn_0 (zq_g fun g3 => (ih H ax0 ax1 ax3 ax4 zc32_0 (zadd_x ax6 zc32_1 g3))) (zq_b (zr_632 H ax0) (zq_a (zw_632 H ax0) ax6 (zq_eq (zx_s H 632 x0 x6) zcn_0 (zq_g fun g4 => (ih H ax0 ax1 ax3 ax4 zc32_1 (zadd_x ax6 zc32_1 g4))) (zq_eq ax6 ax3 (zq_g fun g5 => (ih H ax0 ax1 ax3 ax4 zc32_1 (zadd_x ax6 zc32_1 g5))) (zq_c (zc_9 H ax0) (zq_c_i (zg_206 H ax0 ax6 ax4) fun v8 h104 s7 hv8 H6 => (zq_ne (zx_r hv8) zcn_0 (zq_g fun g9 => (ih H6 ax0 ax1 ax3 ax4 zc32_0 (zadd_x ax6 zc32_1 g9))) (zq_g fun g10 => (ih H6 ax0 ax1 ax3 ax4 zc32_1 (zadd_x ax6 zc32_1 g10)))))))))))))
theorem zg_213_11 : ∀ (n : Nat) {A : Nat} {h : xrH} {s : zS} {x0 : Nat} {Xx1 : Int32} {x1 : Int} {Xx2 : Int32} {x2 : Int} {Xx3 : Int32} {x3 : Int} (H : zH A h s) (ax0 : x0 < 1) (ax1 : zx Xx1 x1) (ax2 : zx Xx2 x2) (ax3 : zx Xx3 x3), zq 0 A (xf_213_11 n (za_9 x0) Xx1 Xx2 Xx3 h) (zf_213_11 n x0 x1 x2 x3 s) := by
  intro n
  induction n with
  | zero =>
    intros
    exact zq_none
  | succ n ih =>
    intro A h s x0 Xx1 x1 Xx2 x2 Xx3 x3 H ax0 ax1 ax2 ax3
    rw [xf_213_11, zf_213_11]
    exact (zq_lt ax3 zcn_0 (zq_ne ax1 zc32_m1 (zq_i H ax1) (zq_eq ax2 zcn_0 (zq_i H ax1) (zq_i H zc8_m2))) (zq_b (zr_632 H ax0) (zq_a (zw_632 H ax0) ax3 (zq_eq (zx_s H 632 x0 x3) zcn_0 (zq_g fun g1 => (ih H ax0 ax1 ax2 (zadd_x ax3 zc32_m1 g1))) (zq_c (zc_9 H ax0) (zq_c_i (zg_193 H ax0 ax3) fun v4 h103 s3 hv4 H2 => (zg_213_37 (fun y0 y1 y2 y3 y => (xf_213_11 n y0 y1 y2 y3 y)) (fun y0 y1 y2 y3 y => (zf_213_11 n y0 y1 y2 y3 y)) (fun H ay0 ay1 ay2 ay3 => (ih H ay0 ay1 ay2 ay3)) xfu H2 ax0 ax1 ax3 (zx_r hv4) zc32_1 zc32_0)))))))
theorem zg_213 {A : Nat} {h : xrH} {s : zS} {x0 : Nat} (H : zH A h s) (ax0 : x0 < 1) : zq 0 A (xf_213 (za_9 x0) h) (zf_213 x0 s) := by
  unfold xf_213 zf_213
  exact (zq_b (zi_610 H ax0) (zq_g fun g1 => (zg_213_11 xfu H ax0 zc32_m1 zc32_0 (zsub_x (zx_s H 610 x0 0) zc32_1 g1))))
theorem zg_211_114 (k70 : Nat → Int32 → Int32 → xrH → xrR) (zk70 : Nat → Int → Int → zS → zR) (hk70 : ∀ {A : Nat} {h : xrH} {s : zS} {y0 : Nat} {Xy1 : Int32} {y1 : Int} {Xy2 : Int32} {y2 : Int} (H : zH A h s) (ay0 : y0 < 1) (ay1 : zx Xy1 y1) (ay2 : zx Xy2 y2), zq 0 A (k70 (za_9 y0) Xy1 Xy2 h) (zk70 y0 y1 y2 s)) {A : Nat} {h : xrH} {s : zS} {x0 : Nat} {Xx1 : Int32} {x1 : Int} {Xx3 : Int32} {x3 : Int} {Xx4 : Int32} {x4 : Int} (H : zH A h s) (ax0 : x0 < 1) (ax1 : zx Xx1 x1) (ax3 : zx Xx3 x3) (ax4 : zx Xx4 x4) : zq 0 A (xf_211_114 k70 (za_9 x0) Xx1 Xx3 Xx4 h) (zf_211_114 zk70 x0 x1 x3 x4 s) := by
  unfold xf_211_114 zf_211_114
  exact (zq_b (zr_632 H ax0) (zq_eq ax4 zcn_0 (zq_Wz (fun hl hb => zwp_632 H ax0 ax3 zc32_0 hb hl) fun h102 s2 H1 => (zq_g fun g3 => (hk70 H1 ax0 ax1 (zadd_x ax3 zc32_1 g3)))) (zq_c (zc_9 H ax0) (zq_c_i (zg_210 H ax0 ax3) fun v6 h103 s5 hv6 H4 => (zq_ne (zx_r hv6) zcn_0 (zq_Wz (fun hl hb => zwp_632 H4 ax0 ax3 zc32_0 hb hl) fun h105 s8 H7 => (zq_g fun g9 => (hk70 H7 ax0 ax1 (zadd_x ax3 zc32_1 g9)))) (zq_Wz (fun hl hb => zwp_632 H4 ax0 ax3 zc32_1 hb hl) fun h106 s11 H10 => (zq_g fun g12 => (hk70 H10 ax0 ax1 (zadd_x ax3 zc32_1 g12)))))))))
theorem zg_211_149 : ∀ (n : Nat) {A : Nat} {h : xrH} {s : zS} {x0 : Nat} {Xx1 : Int32} {x1 : Int} {Xx3 : Int32} {x3 : Int} (H : zH A h s) (ax0 : x0 < 1) (ax1 : zx Xx1 x1) (ax3 : zx Xx3 x3), zq 0 A (xf_211_149 n (za_9 x0) Xx1 Xx3 h) (zf_211_149 n x0 x1 x3 s) := by
  intro n
  induction n with
  | zero =>
    intros
    exact zq_none
  | succ n ih =>
    intro A h s x0 Xx1 x1 Xx3 x3 H ax0 ax1 ax3
    rw [xf_211_149, zf_211_149]
    exact (zq_lt ax3 zcn_0 (zq_ne ax3 zc32_m1 (zq_z H zc32_0) (zq_c (zc_9 H ax0) (zq_c_i (zg_186 H ax0 ax1 zc32_0 zc32_0) fun v3 h101 s2 hv3 H1 => (zq_eq (zx_r hv3) zcn_0 (zq_z H1 zc32_0) (zq_c (zc_9 H1 ax0) (zq_c_i (zg_195 H1 ax0) fun v6 h103 s5 hv6 H4 => (zq_ne (zx_r hv6) zcn_0 (zq_z H4 zc32_0) (zq_z H4 zc32_1)))))))) (zq_c (zc_9 H ax0) (zq_c_i (zg_194 H ax0 ax3) fun v9 h105 s8 hv9 H7 => (zq_c (zc_9 H7 ax0) (zq_c_v (zg_205 H7 ax0 ax3 (zx_r hv9)) fun _ h107 s11 _ H10 => (zq_b (zr_632 H10 ax0) (zq_Wz (fun hl hb => zwp_632 H10 ax0 ax3 zc32_0 hb hl) fun h109 s13 H12 => (zq_c (zc_9 H12 ax0) (zq_c_i (zg_213 H12 ax0) fun v16 h110 s15 hv16 H14 => (ih H14 ax0 ax1 (zx_r hv16)))))))))))
theorem zg_211_70 : ∀ (n : Nat) {A : Nat} {h : xrH} {s : zS} {x0 : Nat} {Xx1 : Int32} {x1 : Int} {Xx3 : Int32} {x3 : Int} (H : zH A h s) (ax0 : x0 < 1) (ax1 : zx Xx1 x1) (ax3 : zx Xx3 x3), zq 0 A (xf_211_70 n (za_9 x0) Xx1 Xx3 h) (zf_211_70 n x0 x1 x3 s) := by
  intro n
  induction n with
  | zero =>
    intros
    exact zq_none
  | succ n ih =>
    intro A h s x0 Xx1 x1 Xx3 x3 H ax0 ax1 ax3
    rw [xf_211_70, zf_211_70]
    exact (zq_b (zi_610 H ax0) (zq_ge ax3 (zx_s H 610 x0 0) (zq_c (zc_9 H ax0) (zq_c_i (zg_213 H ax0) fun v3 h102 s2 hv3 H1 => (zg_211_149 xfu H1 ax0 ax1 (zx_r hv3)))) (zq_c (zc_9 H ax0) (zq_c_i (zg_192 H ax0 ax3) fun v6 h104 s5 hv6 H4 => (zq_eq (zx_r hv6) zcn_0 (zg_211_114 (fun y0 y1 y2 y => (xf_211_70 n y0 y1 y2 y)) (fun y0 y1 y2 y => (zf_211_70 n y0 y1 y2 y)) (fun H ay0 ay1 ay2 => (ih H ay0 ay1 ay2)) H4 ax0 ax1 ax3 (zx_r hv6)) (zq_c (zc_9 H4 ax0) (zq_c_i (zg_210 H4 ax0 ax3) fun v9 h106 s8 hv9 H7 => (zq_eq (zx_r hv9) zcn_0 (zg_211_114 (fun y0 y1 y2 y => (xf_211_70 n y0 y1 y2 y)) (fun y0 y1 y2 y => (zf_211_70 n y0 y1 y2 y)) (fun H ay0 ay1 ay2 => (ih H ay0 ay1 ay2)) H7 ax0 ax1 ax3 (zx_r hv6)) (zq_b (zr_616 H7 ax0) (zq_a (zw_616 H7 ax0) ax3 (zq_c (zc_9 H7 ax0) (zq_c_i (zg_194 H7 ax0 ax3) fun v12 h110 s11 hv12 H10 => (zq_eq (zx_s H7 616 x0 x3) (zx_r hv12) (zg_211_114 (fun y0 y1 y2 y => (xf_211_70 n y0 y1 y2 y)) (fun y0 y1 y2 y => (zf_211_70 n y0 y1 y2 y)) (fun H ay0 ay1 ay2 => (ih H ay0 ay1 ay2)) H10 ax0 ax1 ax3 (zx_r hv6)) (zq_z H10 zc32_0))))))))))))))
theorem zg_211_56 {A : Nat} {h : xrH} {s : zS} {x0 : Nat} {Xx1 : Int32} {x1 : Int} (H : zH A h s) (ax0 : x0 < 1) (ax1 : zx Xx1 x1) : zq 0 A (xf_211_56 (za_9 x0) Xx1 h) (zf_211_56 x0 x1 s) := by
  unfold xf_211_56 zf_211_56
  exact (zq_c (zc_9 H ax0) (zq_c_i (zg_186 H ax0 ax1 zc32_0 zc32_0) fun v3 h101 s2 hv3 H1 => (zq_ne (zx_r hv3) zcn_0 (zg_211_70 xfu H1 ax0 ax1 zc32_0) (zq_z H1 zc32_0))))
theorem zg_211_24 : ∀ (n : Nat) {A : Nat} {h : xrH} {s : zS} {x0 : Nat} {Xx1 : Int32} {x1 : Int} {Xx2 : Int32} {x2 : Int} {Xx3 : Int32} {x3 : Int} (H : zH A h s) (ax0 : x0 < 1) (ax1 : zx Xx1 x1) (ax2 : zx Xx2 x2) (ax3 : zx Xx3 x3), zq 0 A (xf_211_24 n (za_9 x0) Xx1 Xx2 Xx3 h) (zf_211_24 n x0 x1 x2 x3 s) := by
  intro n
  induction n with
  | zero =>
    intros
    exact zq_none
  | succ n ih =>
    intro A h s x0 Xx1 x1 Xx2 x2 Xx3 x3 H ax0 ax1 ax2 ax3
    rw [xf_211_24, zf_211_24]
    exact (zq_ge ax3 zc32_4 (zg_211_56 H ax0 ax1) (zq_eq ax2 zcn_0 (zg_211_56 H ax0 ax1) (zq_c (zc_9 H ax0) (zq_c_i (zg_186 H ax0 ax1 zc32_0 zc32_0) fun v3 h101 s2 hv3 H1 => (zq_ne (zx_r hv3) zcn_0 (zq_c (zc_9 H1 ax0) (zq_c_i (zg_212 H1 ax0) fun v6 h103 s5 hv6 H4 => (zq_g fun g7 => (ih H4 ax0 ax1 (zx_r hv6) (zadd_x ax3 zc32_1 g7))))) (zq_z H1 zc32_0))))))
theorem zg_211_15 {A : Nat} {h : xrH} {s : zS} {x0 : Nat} {Xx1 : Int32} {x1 : Int} {Xs0 : Int32} {s0 : Int} (H : zH A h s) (ax0 : x0 < 1) (ax1 : zx Xx1 x1) (as0 : zx Xs0 s0) : zq 0 A (xf_211_15 (za_9 x0) Xx1 Xs0 h) (zf_211_15 x0 x1 s0 s) := by
  unfold xf_211_15 zf_211_15
  exact (zq_ne as0 zcn_0 (zg_211_24 xfu H ax0 ax1 as0 zc32_0) (zq_z H zc32_0))
theorem zg_211 {A : Nat} {h : xrH} {s : zS} {x0 : Nat} {Xx1 : Int32} {x1 : Int} (H : zH A h s) (ax0 : x0 < 1) (ax1 : zx Xx1 x1) : zq 0 A (xf_211 (za_9 x0) Xx1 h) (zf_211 x0 x1 s) := by
  unfold xf_211 zf_211
  exact (zq_b (zi_594 H ax0) (zq_gt (zx_s H 594 x0 0) zc16_160 (zg_211_15 H ax0 ax1 zc32_0) (zg_211_15 H ax0 ax1 zc32_1)))
theorem zg_214_168 {A : Nat} {h : xrH} {s : zS} {x0 : Nat} (H : zH A h s) (ax0 : x0 < 1) : zq 0 A (xf_214_168 (za_9 x0) h) (zf_214_168 x0 s) := by
  unfold xf_214_168 zf_214_168
  exact (zq_c (zc_9 H ax0) (zq_c_i (zg_145 H ax0 zc32_2) fun v3 h101 s2 hv3 H1 => (zq_i H1 (zx_r hv3))))
theorem zg_214_141 {A : Nat} {h : xrH} {s : zS} {x0 : Nat} {Xx1 : Int32} {x1 : Int} {Xx2 : Int32} {x2 : Int} {Xx3 : Int32} {x3 : Int} {Xx4 : Int32} {x4 : Int} {Xx5 : Int32} {x5 : Int} {Xs0 : Int32} {s0 : Int} (H : zH A h s) (ax0 : x0 < 1) (ax1 : zx Xx1 x1) (ax2 : zx Xx2 x2) (ax3 : zx Xx3 x3) (ax4 : zx Xx4 x4) (ax5 : zx Xx5 x5) (as0 : zx Xs0 s0) : zq 0 A (xf_214_141 (za_9 x0) Xx1 Xx2 Xx3 Xx4 Xx5 Xs0 h) (zf_214_141 x0 x1 x2 x3 x4 x5 s0 s) := by
  unfold xf_214_141 zf_214_141
  exact (zq_eq ax4 zcn_0 (zg_214_168 H ax0) (zq_b (zr_592 H ax0) (zq_a (zw_592 H ax0) ax5 (zq_ne (zx_s H 592 x0 x5) zcn_0 (zg_214_168 H ax0) (zq_c_i (zg_146 H ax2 zc32_0 as0) fun v3 h103 s2 hv3 H1 => (zq_ne (zx_r hv3) zcn_0 (zq_c (zc_9 H1 ax0) (zq_c_v (zg_203 H1 ax0) fun _ h105 s5 _ H4 => (zq_c (zc_9 H4 ax0) (zq_c_v (zg_205 H4 ax0 ax1 ax2) fun _ h106 s7 _ H6 => (zq_c (zc_9 H6 ax0) (zq_c_i (zg_211 H6 ax0 ax3) fun v10 h107 s9 hv10 H8 => (zq_c (zc_9 H8 ax0) (zq_c_i (zg_204 H8 ax0 (zx_r hv10) zc32_2) fun v13 h109 s12 hv13 H11 => (zq_i H11 (zx_r hv13)))))))))) (zg_214_168 H1 ax0)))))))
theorem zg_214_63 {A : Nat} {h : xrH} {s : zS} {x0 : Nat} {Xx1 : Int32} {x1 : Int} {Xx2 : Int32} {x2 : Int} {Xx3 : Int32} {x3 : Int} {Xs0 : Int32} {s0 : Int} (H : zH A h s) (ax0 : x0 < 1) (ax1 : zx Xx1 x1) (ax2 : zx Xx2 x2) (ax3 : zx Xx3 x3) (as0 : zx Xs0 s0) : zq 0 A (xf_214_63 (za_9 x0) Xx1 Xx2 Xx3 Xs0 h) (zf_214_63 x0 x1 x2 x3 s0 s) := by
  unfold xf_214_63 zf_214_63
  exact (zq_b (zr_618 H ax0) (zq_a (zw_618 H ax0) ax1 (zq_ne as0 zcn_0 (zq_b (zr_587 H ax0) (zq_a (zw_587 H ax0) (zx_s H 618 x0 x1) (zq_ne (zx_s H 587 x0 (s.1 618 x0 x1)) zc8_110 (zq_b (zr_587 H ax0) (zq_a (zw_587 H ax0) (zx_s H 618 x0 x1) (zq_eq (zx_s H 587 x0 (s.1 618 x0 x1)) zc8_119 (zg_214_141 H ax0 ax1 ax2 ax3 as0 (zx_s H 618 x0 x1) zc32_65535) (zq_b (zr_587 H ax0) (zq_a (zw_587 H ax0) (zx_s H 618 x0 x1) (zq_ne (zx_s H 587 x0 (s.1 618 x0 x1)) zc8_87 (zg_214_141 H ax0 ax1 ax2 ax3 as0 (zx_s H 618 x0 x1) zc16_255) (zg_214_141 H ax0 ax1 ax2 ax3 as0 (zx_s H 618 x0 x1) zc32_65535))))))) (zq_b (zr_589 H ax0) (zq_a (zw_589 H ax0) (zx_s H 618 x0 x1) (zq_g fun g1 => (zg_214_141 H ax0 ax1 ax2 ax3 as0 (zx_s H 618 x0 x1) (zsub_x (zshl_x zc32_1 (zx_s H 589 x0 (s.1 618 x0 x1))) zc32_1 g1)))))))) (zg_214_141 H ax0 ax1 ax2 ax3 as0 (zx_s H 618 x0 x1) zc32_0))))
theorem zg_214_14 {A : Nat} {h : xrH} {s : zS} {x0 : Nat} {Xx1 : Int32} {x1 : Int} {Xx2 : Int32} {x2 : Int} {s0 : Nat} {Xs1 : Int32} {s1 : Int} (H : zH A h s) (ax0 : x0 < 1) (ax1 : zx Xx1 x1) (ax2 : zx Xx2 x2) (as0 : s0 < 1) (as1 : zx Xs1 s1) : zq 0 A (xf_214_14 (za_9 x0) Xx1 Xx2 (za_9 s0) Xs1 h) (zf_214_14 x0 x1 x2 s0 s1 s) := by
  unfold xf_214_14 zf_214_14
  exact (zq_P (zpi_576 H as0 as1) fun h101 s2 H1 => (zq_b (zi_576 H1 ax0) (zq_le (zx_s H1 576 x0 0) zcn_0 (zq_b (zi_603 H1 ax0) (zq_b (zd_eq (by decide)) (zq_b (zr_612 H1 ax0) (zq_a (zw_612 H1 ax0) ax1 (zq_c_i (zg_146 H1 (zx_s H1 612 x0 x1) zc32_2 zc32_4) fun v5 h107 s4 hv5 H3 => (zq_eq (zx_r hv5) zcn_0 (zg_214_63 H3 ax0 ax1 ax2 (zdiv_x (zx_s H1 603 x0 0) zc16_200) zc32_0) (zq_b (zi_599 H3 ax0) (zq_ge (zx_s H3 599 x0 0) zc8_30 (zg_214_63 H3 ax0 ax1 ax2 (zdiv_x (zx_s H1 603 x0 0) zc16_200) zc32_0) (zg_214_63 H3 ax0 ax1 ax2 (zdiv_x (zx_s H1 603 x0 0) zc16_200) zc32_1))))))))) (zq_i H1 zc32_0))))
theorem zg_214 {A : Nat} {h : xrH} {s : zS} {x0 : Nat} {Xx1 : Int32} {x1 : Int} {Xx2 : Int32} {x2 : Int} (H : zH A h s) (ax0 : x0 < 1) (ax1 : zx Xx1 x1) (ax2 : zx Xx2 x2) : zq 0 A (xf_214 (za_9 x0) Xx1 Xx2 h) (zf_214 x0 x1 x2 s) := by
  unfold xf_214 zf_214
  exact (zq_c (zc_9 H ax0) (zq_c_i (zg_191 H ax0 ax1) fun v3 h101 s2 hv3 H1 => (zq_eq (zx_r hv3) zcn_0 (zg_214_14 H1 ax0 ax1 ax2 ax0 zc32_1) (zg_214_14 H1 ax0 ax1 ax2 ax0 zc32_0))))
theorem zg_207_105 (k6 : Nat → Int32 → Int32 → Int32 → Int32 → Int32 → Int32 → Int32 → xrH → xrR) (zk6 : Nat → Int → Int → Int → Int → Int → Int → Int → zS → zR) (hk6 : ∀ {A : Nat} {h : xrH} {s : zS} {y0 : Nat} {Xy1 : Int32} {y1 : Int} {Xy2 : Int32} {y2 : Int} {Xy3 : Int32} {y3 : Int} {Xy4 : Int32} {y4 : Int} {Xy5 : Int32} {y5 : Int} {Xy6 : Int32} {y6 : Int} {Xy7 : Int32} {y7 : Int} (H : zH A h s) (ay0 : y0 < 1) (ay1 : zx Xy1 y1) (ay2 : zx Xy2 y2) (ay3 : zx Xy3 y3) (ay4 : zx Xy4 y4) (ay5 : zx Xy5 y5) (ay6 : zx Xy6 y6) (ay7 : zx Xy7 y7), zq 0 A (k6 (za_9 y0) Xy1 Xy2 Xy3 Xy4 Xy5 Xy6 Xy7 h) (zk6 y0 y1 y2 y3 y4 y5 y6 y7 s)) {A : Nat} {h : xrH} {s : zS} {x0 : Nat} {Xx1 : Int32} {x1 : Int} {Xx2 : Int32} {x2 : Int} {Xx3 : Int32} {x3 : Int} {Xx4 : Int32} {x4 : Int} {Xx5 : Int32} {x5 : Int} {Xx7 : Int32} {x7 : Int} {Xx9 : Int32} {x9 : Int} {Xs0 : Int32} {s0 : Int} (H : zH A h s) (ax0 : x0 < 1) (ax1 : zx Xx1 x1) (ax2 : zx Xx2 x2) (ax3 : zx Xx3 x3) (ax4 : zx Xx4 x4) (ax5 : zx Xx5 x5) (ax7 : zx Xx7 x7) (ax9 : zx Xx9 x9) (as0 : zx Xs0 s0) : zq 0 A (xf_207_105 k6 (za_9 x0) Xx1 Xx2 Xx3 Xx4 Xx5 Xx7 Xx9 Xs0 h) (zf_207_105 zk6 x0 x1 x2 x3 x4 x5 x7 x9 s0 s) := by
  unfold xf_207_105 zf_207_105
  exact (zq_b (zr_631 H ax0) (zq_W (fun hl => zwp_631 H ax0 ax7 ax9 hl) fun h102 s2 H1 => (zq_g fun g3 => (hk6 H1 ax0 ax1 ax2 ax3 ax4 ax5 as0 (zadd_x ax7 zc32_1 g3)))))
theorem zg_207_85 (k6 : Nat → Int32 → Int32 → Int32 → Int32 → Int32 → Int32 → Int32 → xrH → xrR) (zk6 : Nat → Int → Int → Int → Int → Int → Int → Int → zS → zR) (hk6 : ∀ {A : Nat} {h : xrH} {s : zS} {y0 : Nat} {Xy1 : Int32} {y1 : Int} {Xy2 : Int32} {y2 : Int} {Xy3 : Int32} {y3 : Int} {Xy4 : Int32} {y4 : Int} {Xy5 : Int32} {y5 : Int} {Xy6 : Int32} {y6 : Int} {Xy7 : Int32} {y7 : Int} (H : zH A h s) (ay0 : y0 < 1) (ay1 : zx Xy1 y1) (ay2 : zx Xy2 y2) (ay3 : zx Xy3 y3) (ay4 : zx Xy4 y4) (ay5 : zx Xy5 y5) (ay6 : zx Xy6 y6) (ay7 : zx Xy7 y7), zq 0 A (k6 (za_9 y0) Xy1 Xy2 Xy3 Xy4 Xy5 Xy6 Xy7 h) (zk6 y0 y1 y2 y3 y4 y5 y6 y7 s)) {A : Nat} {h : xrH} {s : zS} {x0 : Nat} {Xx1 : Int32} {x1 : Int} {Xx2 : Int32} {x2 : Int} {Xx3 : Int32} {x3 : Int} {Xx4 : Int32} {x4 : Int} {Xx5 : Int32} {x5 : Int} {Xx6 : Int32} {x6 : Int} {Xx7 : Int32} {x7 : Int} {Xs0 : Int32} {s0 : Int} (H : zH A h s) (ax0 : x0 < 1) (ax1 : zx Xx1 x1) (ax2 : zx Xx2 x2) (ax3 : zx Xx3 x3) (ax4 : zx Xx4 x4) (ax5 : zx Xx5 x5) (ax6 : zx Xx6 x6) (ax7 : zx Xx7 x7) (as0 : zx Xs0 s0) : zq 0 A (xf_207_85 k6 (za_9 x0) Xx1 Xx2 Xx3 Xx4 Xx5 Xx6 Xx7 Xs0 h) (zf_207_85 zk6 x0 x1 x2 x3 x4 x5 x6 x7 s0 s) := by
  unfold xf_207_85 zf_207_85
  exact (zq_eq ax6 zcn_0 (zg_207_105 k6 zk6 hk6 H ax0 ax1 ax2 ax3 ax4 ax5 ax7 as0 zc32_0) (zq_gt as0 zc16_255 (zg_207_105 k6 zk6 hk6 H ax0 ax1 ax2 ax3 ax4 ax5 ax7 as0 zc32_0) (zg_207_105 k6 zk6 hk6 H ax0 ax1 ax2 ax3 ax4 ax5 ax7 as0 zc32_1)))
theorem zg_207_195 (k6 : Nat → Int32 → Int32 → Int32 → Int32 → Int32 → Int32 → Int32 → xrH → xrR) (zk6 : Nat → Int → Int → Int → Int → Int → Int → Int → zS → zR) (hk6 : ∀ {A : Nat} {h : xrH} {s : zS} {y0 : Nat} {Xy1 : Int32} {y1 : Int} {Xy2 : Int32} {y2 : Int} {Xy3 : Int32} {y3 : Int} {Xy4 : Int32} {y4 : Int} {Xy5 : Int32} {y5 : Int} {Xy6 : Int32} {y6 : Int} {Xy7 : Int32} {y7 : Int} (H : zH A h s) (ay0 : y0 < 1) (ay1 : zx Xy1 y1) (ay2 : zx Xy2 y2) (ay3 : zx Xy3 y3) (ay4 : zx Xy4 y4) (ay5 : zx Xy5 y5) (ay6 : zx Xy6 y6) (ay7 : zx Xy7 y7), zq 0 A (k6 (za_9 y0) Xy1 Xy2 Xy3 Xy4 Xy5 Xy6 Xy7 h) (zk6 y0 y1 y2 y3 y4 y5 y6 y7 s)) {A : Nat} {h : xrH} {s : zS} {x0 : Nat} {Xx1 : Int32} {x1 : Int} {Xx2 : Int32} {x2 : Int} {Xx3 : Int32} {x3 : Int} {Xx4 : Int32} {x4 : Int} {Xx5 : Int32} {x5 : Int} {Xx6 : Int32} {x6 : Int} {Xx7 : Int32} {x7 : Int} {Xx8 : Int32} {x8 : Int} {Xx9 : Int32} {x9 : Int} {s0 : Nat} {Xs1 : Int32} {s1 : Int} (H : zH A h s) (ax0 : x0 < 1) (ax1 : zx Xx1 x1) (ax2 : zx Xx2 x2) (ax3 : zx Xx3 x3) (ax4 : zx Xx4 x4) (ax5 : zx Xx5 x5) (ax6 : zx Xx6 x6) (ax7 : zx Xx7 x7) (ax8 : zx Xx8 x8) (ax9 : zx Xx9 x9) (as0 : s0 < 1) (as1 : zx Xs1 s1) : zq 0 A (xf_207_195 k6 (za_9 x0) Xx1 Xx2 Xx3 Xx4 Xx5 Xx6 Xx7 Xx8 Xx9 (zy_631 s0) Xs1 h) (zf_207_195 zk6 x0 x1 x2 x3 x4 x5 x6 x7 x8 x9 s0 s1 s) := by
  unfold xf_207_195 zf_207_195
  exact (zq_ne ax9 zc8_37 (zq_b (zr_616 H ax0) (zq_a (zw_616 H ax0) ax7 (zq_W (fun hl => zwp_631 H as0 as1 (zx_s H 616 x0 x7) hl) fun h103 s2 H1 => (zq_g fun g3 => (hk6 H1 ax0 ax1 ax2 ax3 ax4 ax5 ax6 (zadd_x ax7 zc32_1 g3)))))) (zq_ne ax8 ax1 (zq_b (zr_616 H ax0) (zq_a (zw_616 H ax0) ax7 (zq_W (fun hl => zwp_631 H as0 as1 (zx_s H 616 x0 x7) hl) fun h106 s5 H4 => (zq_g fun g6 => (hk6 H4 ax0 ax1 ax2 ax3 ax4 ax5 ax6 (zadd_x ax7 zc32_1 g6)))))) (zq_b (zr_616 H ax0) (zq_a (zw_616 H ax0) ax8 (zq_g fun g7 => (zq_W (fun hl => zwp_631 H as0 as1 (zadd_x (zx_s H 616 x0 x8) ax5 g7) hl) fun h109 s9 H8 => (zq_g fun g10 => (hk6 H8 ax0 ax1 ax2 ax3 ax4 ax5 ax6 (zadd_x ax7 zc32_1 g10)))))))))
theorem zg_207_302 (k249 : Nat → Int32 → Int32 → xrH → xrR) (zk249 : Nat → Int → Int → zS → zR) (hk249 : ∀ {A : Nat} {h : xrH} {s : zS} {y0 : Nat} {Xy1 : Int32} {y1 : Int} {Xy2 : Int32} {y2 : Int} (H : zH A h s) (ay0 : y0 < 1) (ay1 : zx Xy1 y1) (ay2 : zx Xy2 y2), zq 0 A (k249 (za_9 y0) Xy1 Xy2 h) (zk249 y0 y1 y2 s)) {A : Nat} {h : xrH} {s : zS} {x0 : Nat} {Xx6 : Int32} {x6 : Int} {Xx7 : Int32} {x7 : Int} (H : zH A h s) (ax0 : x0 < 1) (ax6 : zx Xx6 x6) (ax7 : zx Xx7 x7) : zq 0 A (xf_207_302 k249 (za_9 x0) Xx6 Xx7 h) (zf_207_302 zk249 x0 x6 x7 s) := by
  unfold xf_207_302 zf_207_302
  exact (zq_b (zr_631 H ax0) (zq_a (zw_631 H ax0) ax7 (zq_c (zc_9 H ax0) (zq_c_v (zg_205 H ax0 ax7 (zx_s H 631 x0 x7)) fun _ h103 s2 _ H1 => (zq_g fun g3 => (hk249 H1 ax0 ax6 (zadd_x ax7 zc32_1 g3)))))))
theorem zg_207_249 : ∀ (n : Nat) {A : Nat} {h : xrH} {s : zS} {x0 : Nat} {Xx6 : Int32} {x6 : Int} {Xx7 : Int32} {x7 : Int} (H : zH A h s) (ax0 : x0 < 1) (ax6 : zx Xx6 x6) (ax7 : zx Xx7 x7), zq 0 A (xf_207_249 n (za_9 x0) Xx6 Xx7 h) (zf_207_249 n x0 x6 x7 s) := by
  intro n
  induction n with
  | zero =>
    intros
    exact zq_none
  | succ n ih =>
    intro A h s x0 Xx6 x6 Xx7 x7 H ax0 ax6 ax7
    rw [xf_207_249, zf_207_249]
    exact (zq_b (zi_610 H ax0) (zq_ge ax7 (zx_s H 610 x0 0) (zq_z H ax6) (zq_eq ax6 zcn_0 (zq_z H ax6) (zq_b (zr_631 H ax0) (zq_a (zw_631 H ax0) ax7 (zq_eq (zx_s H 631 x0 x7) zc32_m1 (zq_g fun g1 => (ih H ax0 ax6 (zadd_x ax7 zc32_1 g1))) (zq_b (zr_612 H ax0) (zq_a (zw_612 H ax0) ax7 (zq_eq (zx_s H 612 x0 x7) zc32_3 (zg_207_302 (fun y0 y1 y2 y => (xf_207_249 n y0 y1 y2 y)) (fun y0 y1 y2 y => (zf_207_249 n y0 y1 y2 y)) (fun H ay0 ay1 ay2 => (ih H ay0 ay1 ay2)) H ax0 ax6 ax7) (zq_b (zr_631 H ax0) (zq_a (zw_631 H ax0) ax7 (zq_b (zr_616 H ax0) (zq_a (zw_616 H ax0) ax7 (zq_eq (zx_s H 631 x0 x7) (zx_s H 616 x0 x7) (zq_g fun g2 => (ih H ax0 ax6 (zadd_x ax7 zc32_1 g2))) (zg_207_302 (fun y0 y1 y2 y => (xf_207_249 n y0 y1 y2 y)) (fun y0 y1 y2 y => (zf_207_249 n y0 y1 y2 y)) (fun H ay0 ay1 ay2 => (ih H ay0 ay1 ay2)) H ax0 ax6 ax7)))))))))))))))
theorem zg_207_6 : ∀ (n : Nat) {A : Nat} {h : xrH} {s : zS} {x0 : Nat} {Xx1 : Int32} {x1 : Int} {Xx2 : Int32} {x2 : Int} {Xx3 : Int32} {x3 : Int} {Xx4 : Int32} {x4 : Int} {Xx5 : Int32} {x5 : Int} {Xx6 : Int32} {x6 : Int} {Xx7 : Int32} {x7 : Int} (H : zH A h s) (ax0 : x0 < 1) (ax1 : zx Xx1 x1) (ax2 : zx Xx2 x2) (ax3 : zx Xx3 x3) (ax4 : zx Xx4 x4) (ax5 : zx Xx5 x5) (ax6 : zx Xx6 x6) (ax7 : zx Xx7 x7), zq 0 A (xf_207_6 n (za_9 x0) Xx1 Xx2 Xx3 Xx4 Xx5 Xx6 Xx7 h) (zf_207_6 n x0 x1 x2 x3 x4 x5 x6 x7 s) := by
  intro n
  induction n with
  | zero =>
    intros
    exact zq_none
  | succ n ih =>
    intro A h s x0 Xx1 x1 Xx2 x2 Xx3 x3 Xx4 x4 Xx5 x5 Xx6 x6 Xx7 x7 H ax0 ax1 ax2 ax3 ax4 ax5 ax6 ax7
    rw [xf_207_6, zf_207_6]
    exact (zq_b (zi_610 H ax0) (zq_ge ax7 (zx_s H 610 x0 0) (zg_207_249 xfu H ax0 ax6 zc32_0) (zq_b (zr_612 H ax0) (zq_a (zw_612 H ax0) ax7 (zq_ne (zx_s H 612 x0 x7) zc32_3 (zq_c (zc_9 H ax0) (zq_c_i (zg_192 H ax0 ax7) fun v3 h104 s2 hv3 H1 => (zq_eq (zx_r hv3) zcn_0 (zq_b (zr_631 H1 ax0) (zq_W (fun hl => zwp_631 H1 ax0 ax7 zc32_m1 hl) fun h107 s5 H4 => (zq_g fun g6 => (ih H4 ax0 ax1 ax2 ax3 ax4 ax5 ax6 (zadd_x ax7 zc32_1 g6))))) (zq_c (zc_9 H1 ax0) (zq_c_i (zg_193 H1 ax0 ax7) fun v9 h108 s8 hv9 H7 => (zq_b (zr_592 H7 ax0) (zq_b (zr_618 H7 ax0) (zq_a (zw_618 H7 ax0) ax7 (zq_a (zw_592 H7 ax0) (zx_s H7 618 x0 x7) (zq_b (zr_631 H7 ax0) (zq_ne (zx_s H7 592 x0 (s8.1 618 x0 x7)) zc8_35 (zg_207_195 (fun y0 y1 y2 y3 y4 y5 y6 y7 y => (xf_207_6 n y0 y1 y2 y3 y4 y5 y6 y7 y)) (fun y0 y1 y2 y3 y4 y5 y6 y7 y => (zf_207_6 n y0 y1 y2 y3 y4 y5 y6 y7 y)) (fun H ay0 ay1 ay2 ay3 ay4 ay5 ay6 ay7 => (ih H ay0 ay1 ay2 ay3 ay4 ay5 ay6 ay7)) H7 ax0 ax1 ax2 ax3 ax4 ax5 ax6 ax7 (zx_r hv9) (zx_s H7 592 x0 (s8.1 618 x0 x7)) ax0 ax7) (zq_c (zc_9 H7 ax0) (zq_c_i (zg_206 H7 ax0 ax1 (zx_r hv9)) fun v12 h115 s11 hv12 H10 => (zq_eq (zx_r hv12) zcn_0 (zg_207_195 (fun y0 y1 y2 y3 y4 y5 y6 y7 y => (xf_207_6 n y0 y1 y2 y3 y4 y5 y6 y7 y)) (fun y0 y1 y2 y3 y4 y5 y6 y7 y => (zf_207_6 n y0 y1 y2 y3 y4 y5 y6 y7 y)) (fun H ay0 ay1 ay2 ay3 ay4 ay5 ay6 ay7 => (ih H ay0 ay1 ay2 ay3 ay4 ay5 ay6 ay7)) H10 ax0 ax1 ax2 ax3 ax4 ax5 ax6 ax7 (zx_r hv9) (zx_s H7 592 x0 (s8.1 618 x0 x7)) ax0 ax7) (zq_b (zr_615 H10 ax0) (zq_a (zw_615 H10 ax0) (zx_r hv9) (zq_eq ax4 zcn_0 (zq_g fun g13 => (zq_g fun g14 => (zq_W (fun hl => zwp_631 H10 ax0 ax7 (zadd_x (zx_s H10 615 x0 v9) (zneg_x ax3 g13) g14) hl) fun h119 s16 H15 => (zq_g fun g17 => (ih H15 ax0 ax1 ax2 ax3 ax4 ax5 ax6 (zadd_x ax7 zc32_1 g17)))))) (zq_g fun g18 => (zq_W (fun hl => zwp_631 H10 ax0 ax7 (zadd_x (zx_s H10 615 x0 v9) ax3 g18) hl) fun h120 s20 H19 => (zq_g fun g21 => (ih H19 ax0 ax1 ax2 ax3 ax4 ax5 ax6 (zadd_x ax7 zc32_1 g21)))))))))))))))))))))) (zq_b (zr_616 H ax0) (zq_a (zw_616 H ax0) ax7 (zq_eq ax4 zcn_0 (zq_g fun g22 => (zq_lt (zx_s H 616 x0 x7) (zadd_x ax2 ax3 g22) (zq_le (zx_s H 616 x0 x7) ax2 (zg_207_85 (fun y0 y1 y2 y3 y4 y5 y6 y7 y => (xf_207_6 n y0 y1 y2 y3 y4 y5 y6 y7 y)) (fun y0 y1 y2 y3 y4 y5 y6 y7 y => (zf_207_6 n y0 y1 y2 y3 y4 y5 y6 y7 y)) (fun H ay0 ay1 ay2 ay3 ay4 ay5 ay6 ay7 => (ih H ay0 ay1 ay2 ay3 ay4 ay5 ay6 ay7)) H ax0 ax1 ax2 ax3 ax4 ax5 ax6 ax7 (zx_s H 616 x0 x7)) (zg_207_85 (fun y0 y1 y2 y3 y4 y5 y6 y7 y => (xf_207_6 n y0 y1 y2 y3 y4 y5 y6 y7 y)) (fun y0 y1 y2 y3 y4 y5 y6 y7 y => (zf_207_6 n y0 y1 y2 y3 y4 y5 y6 y7 y)) (fun H ay0 ay1 ay2 ay3 ay4 ay5 ay6 ay7 => (ih H ay0 ay1 ay2 ay3 ay4 ay5 ay6 ay7)) H ax0 ax1 ax2 ax3 ax4 ax5 ax6 ax7 ax2)) (zq_g fun g23 => (zg_207_85 (fun y0 y1 y2 y3 y4 y5 y6 y7 y => (xf_207_6 n y0 y1 y2 y3 y4 y5 y6 y7 y)) (fun y0 y1 y2 y3 y4 y5 y6 y7 y => (zf_207_6 n y0 y1 y2 y3 y4 y5 y6 y7 y)) (fun H ay0 ay1 ay2 ay3 ay4 ay5 ay6 ay7 => (ih H ay0 ay1 ay2 ay3 ay4 ay5 ay6 ay7)) H ax0 ax1 ax2 ax3 ax4 ax5 ax6 ax7 (zsub_x (zx_s H 616 x0 x7) ax3 g23))))) (zq_lt (zx_s H 616 x0 x7) ax2 (zg_207_85 (fun y0 y1 y2 y3 y4 y5 y6 y7 y => (xf_207_6 n y0 y1 y2 y3 y4 y5 y6 y7 y)) (fun y0 y1 y2 y3 y4 y5 y6 y7 y => (zf_207_6 n y0 y1 y2 y3 y4 y5 y6 y7 y)) (fun H ay0 ay1 ay2 ay3 ay4 ay5 ay6 ay7 => (ih H ay0 ay1 ay2 ay3 ay4 ay5 ay6 ay7)) H ax0 ax1 ax2 ax3 ax4 ax5 ax6 ax7 (zx_s H 616 x0 x7)) (zq_g fun g24 => (zg_207_85 (fun y0 y1 y2 y3 y4 y5 y6 y7 y => (xf_207_6 n y0 y1 y2 y3 y4 y5 y6 y7 y)) (fun y0 y1 y2 y3 y4 y5 y6 y7 y => (zf_207_6 n y0 y1 y2 y3 y4 y5 y6 y7 y)) (fun H ay0 ay1 ay2 ay3 ay4 ay5 ay6 ay7 => (ih H ay0 ay1 ay2 ay3 ay4 ay5 ay6 ay7)) H ax0 ax1 ax2 ax3 ax4 ax5 ax6 ax7 (zadd_x (zx_s H 616 x0 x7) ax3 g24))))))))))))
theorem zg_207 {A : Nat} {h : xrH} {s : zS} {x0 : Nat} {Xx1 : Int32} {x1 : Int} {Xx2 : Int32} {x2 : Int} {Xx3 : Int32} {x3 : Int} {Xx4 : Int32} {x4 : Int} {Xx5 : Int32} {x5 : Int} (H : zH A h s) (ax0 : x0 < 1) (ax1 : zx Xx1 x1) (ax2 : zx Xx2 x2) (ax3 : zx Xx3 x3) (ax4 : zx Xx4 x4) (ax5 : zx Xx5 x5) : zq 0 A (xf_207 (za_9 x0) Xx1 Xx2 Xx3 Xx4 Xx5 h) (zf_207 x0 x1 x2 x3 x4 x5 s) := by
  unfold xf_207 zf_207
  exact (zg_207_6 xfu H ax0 ax1 ax2 ax3 ax4 ax5 zc32_1 zc32_0)
theorem zg_208_7 : ∀ (n : Nat) {A : Nat} {h : xrH} {s : zS} {x0 : Nat} {Xx1 : Int32} {x1 : Int} {Xx2 : Int32} {x2 : Int} {Xx3 : Int32} {x3 : Int} (H : zH A h s) (ax0 : x0 < 1) (ax1 : zx Xx1 x1) (ax2 : zx Xx2 x2) (ax3 : zx Xx3 x3), zq 1 A (xf_208_7 n (za_9 x0) Xx1 Xx2 Xx3 h) (zf_208_7 n x0 x1 x2 x3 s) := by
  intro n
  induction n with
  | zero =>
    intros
    exact zq_none
  | succ n ih =>
    intro A h s x0 Xx1 x1 Xx2 x2 Xx3 x3 H ax0 ax1 ax2 ax3
    rw [xf_208_7, zf_208_7]
    exact (zq_lt ax3 ax1 (zq_b (zi_594 H ax0) (zq_g fun g3 => (zq_P (zpi_594 H ax0 (zadd_x (zx_s H 594 x0 0) ax2 g3)) fun h102 s2 H1 => (zq_v H1)))) (zq_b (zr_595 H ax0) (zq_b (zr_595 H ax0) (zq_a (zw_595 H ax0) ax3 (zq_g fun g4 => (zq_W (fun hl => zwp_595 H ax0 (zadd_x ax3 ax2 g4) (zx_s H 595 x0 x3) hl) fun h106 s6 H5 => (zq_g fun g7 => (ih H5 ax0 ax1 ax2 (zadd_x ax3 zc32_m1 g7)))))))))
theorem zg_208 {A : Nat} {h : xrH} {s : zS} {x0 : Nat} {Xx1 : Int32} {x1 : Int} {Xx2 : Int32} {x2 : Int} (H : zH A h s) (ax0 : x0 < 1) (ax1 : zx Xx1 x1) (ax2 : zx Xx2 x2) : zq 1 A (xf_208 (za_9 x0) Xx1 Xx2 h) (zf_208 x0 x1 x2 s) := by
  unfold xf_208 zf_208
  exact (zq_b (zi_594 H ax0) (zq_g fun g1 => (zg_208_7 xfu H ax0 ax1 ax2 (zsub_x (zx_s H 594 x0 0) zc32_1 g1))))
theorem zg_215 {A : Nat} {h : xrH} {s : zS} {x0 : Nat} {Xx1 : Int32} {x1 : Int} (H : zH A h s) (ax0 : x0 < 1) (ax1 : zx Xx1 x1) : zq 0 A (xf_215 (za_9 x0) Xx1 h) (zf_215 x0 x1 s) := by
  unfold xf_215 zf_215
  exact (zq_b (zr_587 H ax0) (zq_b (zr_618 H ax0) (zq_a (zw_618 H ax0) ax1 (zq_a (zw_587 H ax0) (zx_s H 618 x0 x1) (zq_ne (zx_s H 587 x0 (s.1 618 x0 x1)) zc8_122 (zq_b (zr_615 H ax0) (zq_a (zw_615 H ax0) ax1 (zq_i H (zx_s H 615 x0 x1)))) (zq_b (zr_615 H ax0) (zq_a (zw_615 H ax0) ax1 (zq_g fun g1 => (zq_i H (zsub_x (zx_s H 615 x0 x1) zc32_1 g1))))))))))
theorem zg_216_115 {A : Nat} {h : xrH} {s : zS} {x0 : Nat} (H : zH A h s) (ax0 : x0 < 1) : zq 0 A (xf_216_115 (za_9 x0) h) (zf_216_115 x0 s) := by
  unfold xf_216_115 zf_216_115
  exact (zq_c (zc_9 H ax0) (zq_c_i (zg_145 H ax0 zc32_3) fun v3 h101 s2 hv3 H1 => (zq_i H1 (zx_r hv3))))
theorem zg_216_182 {A : Nat} {h : xrH} {s : zS} {s0 : Nat} {Xs1 : Int32} {s1 : Int} (H : zH A h s) (as0 : s0 < 1) (as1 : zx Xs1 s1) : zq 0 A (xf_216_182 (za_9 s0) Xs1 h) (zf_216_182 s0 s1 s) := by
  unfold xf_216_182 zf_216_182
  exact (zq_c (zc_9 H as0) (zq_c_i (zg_204 H as0 as1 zc32_3) fun v3 h101 s2 hv3 H1 => (zq_i H1 (zx_r hv3))))
theorem zg_216_121 {A : Nat} {h : xrH} {s : zS} {x0 : Nat} {Xx1 : Int32} {x1 : Int} {Xx2 : Int32} {x2 : Int} {Xx3 : Int32} {x3 : Int} {Xx4 : Int32} {x4 : Int} (H : zH A h s) (ax0 : x0 < 1) (ax1 : zx Xx1 x1) (ax2 : zx Xx2 x2) (ax3 : zx Xx3 x3) (ax4 : zx Xx4 x4) : zq 0 A (xf_216_121 (za_9 x0) Xx1 Xx2 Xx3 Xx4 h) (zf_216_121 x0 x1 x2 x3 x4 s) := by
  unfold xf_216_121 zf_216_121
  exact (zq_c (zc_9 H ax0) (zq_c_v (zg_203 H ax0) fun _ h101 s2 _ H1 => (zq_b (zr_614 H1 ax0) (zq_a (zw_614 H1 ax0) ax1 (zq_c (zc_9 H1 ax0) (zq_g fun g3 => (zq_c_i (zg_207 H1 ax0 ax1 (zadd_x (zx_s H1 614 x0 x1) ax2 g3) zc32_1 zc32_1 zc32_0) fun v6 h104 s5 hv6 H4 => (zq_c (zc_9 H4 ax0) (zq_c_v (zg_208 H4 ax0 (zadd_x (zx_s H1 614 x0 x1) ax2 g3) zc32_1) fun _ h106 s8 _ H7 => (zq_b (zr_595 H7 ax0) (zq_W (fun hl => zwp_595 H7 ax0 (zadd_x (zx_s H1 614 x0 x1) ax2 g3) ax3 hl) fun h108 s10 H9 => (zq_eq (zx_r hv6) zcn_0 (zg_216_182 H9 ax0 zc32_0) (zq_c (zc_9 H9 ax0) (zq_c_i (zg_211 H9 ax0 ax4) fun v13 h109 s12 hv13 H11 => (zq_eq (zx_r hv13) zcn_0 (zg_216_182 H11 ax0 zc32_0) (zg_216_182 H11 ax0 zc32_1))))))))))))))))
theorem zg_216_75 {A : Nat} {h : xrH} {s : zS} {x0 : Nat} {Xx1 : Int32} {x1 : Int} {Xx2 : Int32} {x2 : Int} {Xx3 : Int32} {x3 : Int} {Xx4 : Int32} {x4 : Int} {Xs0 : Int32} {s0 : Int} (H : zH A h s) (ax0 : x0 < 1) (ax1 : zx Xx1 x1) (ax2 : zx Xx2 x2) (ax3 : zx Xx3 x3) (ax4 : zx Xx4 x4) (as0 : zx Xs0 s0) : zq 0 A (xf_216_75 (za_9 x0) Xx1 Xx2 Xx3 Xx4 Xs0 h) (zf_216_75 x0 x1 x2 x3 x4 s0 s) := by
  unfold xf_216_75 zf_216_75
  exact (zq_eq as0 zcn_0 (zg_216_115 H ax0) (zq_c (zc_9 H ax0) (zq_c_i (zg_215 H ax0 ax1) fun v3 h101 s2 hv3 H1 => (zq_c_i (zg_146 H1 ax2 zc32_0 (zx_r hv3)) fun v6 h103 s5 hv6 H4 => (zq_eq (zx_r hv6) zcn_0 (zg_216_115 H4 ax0) (zq_ne ax3 zcn_0 (zg_216_121 H4 ax0 ax1 ax2 ax3 ax4) (zq_b (zr_587 H4 ax0) (zq_b (zr_618 H4 ax0) (zq_a (zw_618 H4 ax0) ax1 (zq_a (zw_587 H4 ax0) (zx_s H4 618 x0 x1) (zq_ne (zx_s H4 587 x0 (s5.1 618 x0 x1)) zc8_122 (zg_216_121 H4 ax0 ax1 ax2 ax3 ax4) (zg_216_115 H4 ax0))))))))))))
theorem zg_216_29 {A : Nat} {h : xrH} {s : zS} {x0 : Nat} {Xx1 : Int32} {x1 : Int} {Xx2 : Int32} {x2 : Int} {Xx3 : Int32} {x3 : Int} {s0 : Nat} {Xs1 : Int32} {s1 : Int} (H : zH A h s) (ax0 : x0 < 1) (ax1 : zx Xx1 x1) (ax2 : zx Xx2 x2) (ax3 : zx Xx3 x3) (as0 : s0 < 1) (as1 : zx Xs1 s1) : zq 0 A (xf_216_29 (za_9 x0) Xx1 Xx2 Xx3 (za_9 s0) Xs1 h) (zf_216_29 x0 x1 x2 x3 s0 s1 s) := by
  unfold xf_216_29 zf_216_29
  exact (zq_P (zpi_576 H as0 as1) fun h101 s2 H1 => (zq_b (zi_576 H1 ax0) (zq_le (zx_s H1 576 x0 0) zcn_0 (zq_b (zi_603 H1 ax0) (zq_b (zd_eq (by decide)) (zq_b (zr_612 H1 ax0) (zq_a (zw_612 H1 ax0) ax1 (zq_ne (zx_s H1 612 x0 x1) zc32_5 (zg_216_75 H1 ax0 ax1 ax2 ax3 (zdiv_x (zx_s H1 603 x0 0) zc16_200) zc32_0) (zq_b (zi_599 H1 ax0) (zq_ge (zx_s H1 599 x0 0) zc8_30 (zg_216_75 H1 ax0 ax1 ax2 ax3 (zdiv_x (zx_s H1 603 x0 0) zc16_200) zc32_0) (zg_216_75 H1 ax0 ax1 ax2 ax3 (zdiv_x (zx_s H1 603 x0 0) zc16_200) zc32_1)))))))) (zq_i H1 zc32_0))))
theorem zg_216 {A : Nat} {h : xrH} {s : zS} {x0 : Nat} {Xx1 : Int32} {x1 : Int} {Xx2 : Int32} {x2 : Int} {Xx3 : Int32} {x3 : Int} (H : zH A h s) (ax0 : x0 < 1) (ax1 : zx Xx1 x1) (ax2 : zx Xx2 x2) (ax3 : zx Xx3 x3) : zq 0 A (xf_216 (za_9 x0) Xx1 Xx2 Xx3 h) (zf_216 x0 x1 x2 x3 s) := by
  unfold xf_216 zf_216
  exact (zq_c (zc_9 H ax0) (zq_c_i (zg_191 H ax0 ax1) fun v3 h101 s2 hv3 H1 => (zq_ne (zx_r hv3) zcn_0 (zq_c_i (zg_146 H1 ax3 zc32_0 zc16_255) fun v6 h103 s5 hv6 H4 => (zq_ne (zx_r hv6) zcn_0 (zg_216_29 H4 ax0 ax1 ax2 ax3 ax0 zc32_0) (zg_216_29 H4 ax0 ax1 ax2 ax3 ax0 zc32_2))) (zg_216_29 H1 ax0 ax1 ax2 ax3 ax0 zc32_1))))
theorem zg_209_4 : ∀ (n : Nat) {A : Nat} {h : xrH} {s : zS} {x0 : Nat} {Xx2 : Int32} {x2 : Int} {Xx3 : Int32} {x3 : Int} (H : zH A h s) (ax0 : x0 < 1) (ax2 : zx Xx2 x2) (ax3 : zx Xx3 x3), zq 1 A (xf_209_4 n (za_9 x0) Xx2 Xx3 h) (zf_209_4 n x0 x2 x3 s) := by
  intro n
  induction n with
  | zero =>
    intros
    exact zq_none
  | succ n ih =>
    intro A h s x0 Xx2 x2 Xx3 x3 H ax0 ax2 ax3
    rw [xf_209_4, zf_209_4]
    exact (zq_b (zi_594 H ax0) (zq_ge ax3 (zx_s H 594 x0 0) (zq_b (zi_594 H ax0) (zq_g fun g3 => (zq_P (zpi_594 H ax0 (zsub_x (zx_s H 594 x0 0) ax2 g3)) fun h103 s2 H1 => (zq_v H1)))) (zq_b (zr_595 H ax0) (zq_b (zr_595 H ax0) (zq_a (zw_595 H ax0) ax3 (zq_g fun g4 => (zq_W (fun hl => zwp_595 H ax0 (zsub_x ax3 ax2 g4) (zx_s H 595 x0 x3) hl) fun h107 s6 H5 => (zq_g fun g7 => (ih H5 ax0 ax2 (zadd_x ax3 zc32_1 g7))))))))))
theorem zg_209 {A : Nat} {h : xrH} {s : zS} {x0 : Nat} {Xx1 : Int32} {x1 : Int} {Xx2 : Int32} {x2 : Int} (H : zH A h s) (ax0 : x0 < 1) (ax1 : zx Xx1 x1) (ax2 : zx Xx2 x2) : zq 1 A (xf_209 (za_9 x0) Xx1 Xx2 h) (zf_209 x0 x1 x2 s) := by
  unfold xf_209 zf_209
  exact (zq_g fun g1 => (zg_209_4 xfu H ax0 ax2 (zadd_x ax1 ax2 g1)))
theorem zg_217_81 {A : Nat} {h : xrH} {s : zS} {x0 : Nat} (H : zH A h s) (ax0 : x0 < 1) : zq 0 A (xf_217_81 (za_9 x0) h) (zf_217_81 x0 s) := by
  unfold xf_217_81 zf_217_81
  exact (zq_c (zc_9 H ax0) (zq_c_i (zg_145 H ax0 zc32_2) fun v3 h101 s2 hv3 H1 => (zq_i H1 (zx_r hv3))))
theorem zg_217_139 {A : Nat} {h : xrH} {s : zS} {s0 : Nat} {Xs1 : Int32} {s1 : Int} (H : zH A h s) (as0 : s0 < 1) (as1 : zx Xs1 s1) : zq 0 A (xf_217_139 (za_9 s0) Xs1 h) (zf_217_139 s0 s1 s) := by
  unfold xf_217_139 zf_217_139
  exact (zq_c (zc_9 H as0) (zq_c_i (zg_204 H as0 as1 zc32_2) fun v3 h101 s2 hv3 H1 => (zq_i H1 (zx_r hv3))))
theorem zg_217_59 {A : Nat} {h : xrH} {s : zS} {x0 : Nat} {Xx1 : Int32} {x1 : Int} {Xx2 : Int32} {x2 : Int} {Xx3 : Int32} {x3 : Int} {Xs0 : Int32} {s0 : Int} (H : zH A h s) (ax0 : x0 < 1) (ax1 : zx Xx1 x1) (ax2 : zx Xx2 x2) (ax3 : zx Xx3 x3) (as0 : zx Xs0 s0) : zq 0 A (xf_217_59 (za_9 x0) Xx1 Xx2 Xx3 Xs0 h) (zf_217_59 x0 x1 x2 x3 s0 s) := by
  unfold xf_217_59 zf_217_59
  exact (zq_eq as0 zcn_0 (zg_217_81 H ax0) (zq_c (zc_9 H ax0) (zq_c_i (zg_215 H ax0 ax1) fun v3 h101 s2 hv3 H1 => (zq_g fun g4 => (zq_c_i (zg_146 H1 ax2 zc32_0 (zsub_x (zx_r hv3) zc32_1 g4)) fun v7 h103 s6 hv7 H5 => (zq_ne (zx_r hv7) zcn_0 (zq_c (zc_9 H5 ax0) (zq_c_v (zg_203 H5 ax0) fun _ h105 s9 _ H8 => (zq_b (zr_614 H8 ax0) (zq_a (zw_614 H8 ax0) ax1 (zq_c (zc_9 H8 ax0) (zq_g fun g10 => (zq_c_i (zg_207 H8 ax0 ax1 (zadd_x (zx_s H8 614 x0 x1) ax2 g10) zc32_1 zc32_0 zc32_0) fun v13 h108 s12 hv13 H11 => (zq_c (zc_9 H11 ax0) (zq_c_v (zg_209 H11 ax0 (zadd_x (zx_s H8 614 x0 x1) ax2 g10) zc32_1) fun _ h110 s15 _ H14 => (zq_eq (zx_r hv13) zcn_0 (zg_217_139 H14 ax0 zc32_0) (zq_c (zc_9 H14 ax0) (zq_c_i (zg_211 H14 ax0 ax3) fun v18 h111 s17 hv18 H16 => (zq_eq (zx_r hv18) zcn_0 (zg_217_139 H16 ax0 zc32_0) (zg_217_139 H16 ax0 zc32_1)))))))))))))) (zg_217_81 H5 ax0)))))))
theorem zg_217_14 {A : Nat} {h : xrH} {s : zS} {x0 : Nat} {Xx1 : Int32} {x1 : Int} {Xx2 : Int32} {x2 : Int} {s0 : Nat} {Xs1 : Int32} {s1 : Int} (H : zH A h s) (ax0 : x0 < 1) (ax1 : zx Xx1 x1) (ax2 : zx Xx2 x2) (as0 : s0 < 1) (as1 : zx Xs1 s1) : zq 0 A (xf_217_14 (za_9 x0) Xx1 Xx2 (za_9 s0) Xs1 h) (zf_217_14 x0 x1 x2 s0 s1 s) := by
  unfold xf_217_14 zf_217_14
  exact (zq_P (zpi_576 H as0 as1) fun h101 s2 H1 => (zq_b (zi_576 H1 ax0) (zq_le (zx_s H1 576 x0 0) zcn_0 (zq_b (zi_603 H1 ax0) (zq_b (zd_eq (by decide)) (zq_b (zr_612 H1 ax0) (zq_a (zw_612 H1 ax0) ax1 (zq_ne (zx_s H1 612 x0 x1) zc32_5 (zg_217_59 H1 ax0 ax1 ax2 (zdiv_x (zx_s H1 603 x0 0) zc16_200) zc32_0) (zq_b (zi_599 H1 ax0) (zq_ge (zx_s H1 599 x0 0) zc8_30 (zg_217_59 H1 ax0 ax1 ax2 (zdiv_x (zx_s H1 603 x0 0) zc16_200) zc32_0) (zg_217_59 H1 ax0 ax1 ax2 (zdiv_x (zx_s H1 603 x0 0) zc16_200) zc32_1)))))))) (zq_i H1 zc32_0))))
theorem zg_217 {A : Nat} {h : xrH} {s : zS} {x0 : Nat} {Xx1 : Int32} {x1 : Int} {Xx2 : Int32} {x2 : Int} (H : zH A h s) (ax0 : x0 < 1) (ax1 : zx Xx1 x1) (ax2 : zx Xx2 x2) : zq 0 A (xf_217 (za_9 x0) Xx1 Xx2 h) (zf_217 x0 x1 x2 s) := by
  unfold xf_217 zf_217
  exact (zq_c (zc_9 H ax0) (zq_c_i (zg_191 H ax0 ax1) fun v3 h101 s2 hv3 H1 => (zq_eq (zx_r hv3) zcn_0 (zg_217_14 H1 ax0 ax1 ax2 ax0 zc32_1) (zg_217_14 H1 ax0 ax1 ax2 ax0 zc32_0))))
theorem zg_218_10 : ∀ (n : Nat) {A : Nat} {h : xrH} {s : zS} {x0 : Nat} {Xx1 : Int32} {x1 : Int} {Xx2 : Int32} {x2 : Int} {Xx3 : Int32} {x3 : Int} {Xx4 : Int32} {x4 : Int} {Xx5 : Int32} {x5 : Int} (H : zH A h s) (ax0 : x0 < 1) (ax1 : zx Xx1 x1) (ax2 : zx Xx2 x2) (ax3 : zx Xx3 x3) (ax4 : zx Xx4 x4) (ax5 : zx Xx5 x5), zq 0 A (xf_218_10 n (za_9 x0) Xx1 Xx2 Xx3 Xx4 Xx5 h) (zf_218_10 n x0 x1 x2 x3 x4 x5 s) := by
  intro n
  induction n with
  | zero =>
    intros
    exact zq_none
  | succ n ih =>
    intro A h s x0 Xx1 x1 Xx2 x2 Xx3 x3 Xx4 x4 Xx5 x5 H ax0 ax1 ax2 ax3 ax4 ax5
    rw [xf_218_10, zf_218_10]
    exact (zq_b (zi_610 H ax0) (zq_ge ax5 (zx_s H 610 x0 0) (zq_i H ax3) (zq_lt ax2 zcn_0 (zq_i H ax3) (zq_b (zr_617 H ax0) (zq_a (zw_617 H ax0) ax5 (zq_ne (zx_s H 617 x0 x5) ax1 (zq_g fun g1 => (ih H ax0 ax1 ax2 ax3 ax4 (zadd_x ax5 zc32_1 g1))) (zq_ne ax4 ax2 (zq_g fun g2 => (zq_g fun g3 => (ih H ax0 ax1 ax2 ax3 (zadd_x ax4 zc32_1 g2) (zadd_x ax5 zc32_1 g3)))) (zq_g fun g4 => (zq_g fun g5 => (ih H ax0 ax1 ax2 ax5 (zadd_x ax4 zc32_1 g4) (zadd_x ax5 zc32_1 g5)))))))))))
theorem zg_218 {A : Nat} {h : xrH} {s : zS} {x0 : Nat} {Xx1 : Int32} {x1 : Int} {Xx2 : Int32} {x2 : Int} (H : zH A h s) (ax0 : x0 < 1) (ax1 : zx Xx1 x1) (ax2 : zx Xx2 x2) : zq 0 A (xf_218 (za_9 x0) Xx1 Xx2 h) (zf_218 x0 x1 x2 s) := by
  unfold xf_218 zf_218
  exact (zq_g fun g1 => (zg_218_10 xfu H ax0 ax1 ax2 zc32_m1 zc32_0 (zadd_x ax1 zc32_1 g1)))
theorem zg_219_73 {A : Nat} {h : xrH} {s : zS} {x0 : Nat} (H : zH A h s) (ax0 : x0 < 1) : zq 0 A (xf_219_73 (za_9 x0) h) (zf_219_73 x0 s) := by
  unfold xf_219_73 zf_219_73
  exact (zq_c (zc_9 H ax0) (zq_c_i (zg_145 H ax0 zc32_2) fun v3 h101 s2 hv3 H1 => (zq_i H1 (zx_r hv3))))
theorem zg_219_217 {A : Nat} {h : xrH} {s : zS} {s0 : Nat} {Xs1 : Int32} {s1 : Int} (H : zH A h s) (as0 : s0 < 1) (as1 : zx Xs1 s1) : zq 0 A (xf_219_217 (za_9 s0) Xs1 h) (zf_219_217 s0 s1 s) := by
  unfold xf_219_217 zf_219_217
  exact (zq_c (zc_9 H as0) (zq_c_i (zg_204 H as0 as1 zc32_2) fun v3 h101 s2 hv3 H1 => (zq_i H1 (zx_r hv3))))
theorem zg_219_197 {A : Nat} {h : xrH} {s : zS} {x0 : Nat} {Xx4 : Int32} {x4 : Int} {Xx9 : Int32} {x9 : Int} (H : zH A h s) (ax0 : x0 < 1) (ax4 : zx Xx4 x4) (ax9 : zx Xx9 x9) : zq 0 A (xf_219_197 (za_9 x0) Xx4 Xx9 h) (zf_219_197 x0 x4 x9 s) := by
  unfold xf_219_197 zf_219_197
  exact (zq_eq ax9 zcn_0 (zg_219_217 H ax0 zc32_0) (zq_c (zc_9 H ax0) (zq_c_i (zg_211 H ax0 ax4) fun v3 h101 s2 hv3 H1 => (zq_eq (zx_r hv3) zcn_0 (zg_219_217 H1 ax0 zc32_0) (zg_219_217 H1 ax0 zc32_1)))))
theorem zg_219_153 : ∀ (n : Nat) {A : Nat} {h : xrH} {s : zS} {x0 : Nat} {Xx4 : Int32} {x4 : Int} {Xx6 : Int32} {x6 : Int} {Xx7 : Int32} {x7 : Int} {Xx8 : Int32} {x8 : Int} {Xx9 : Int32} {x9 : Int} {Xx10 : Int32} {x10 : Int} (H : zH A h s) (ax0 : x0 < 1) (ax4 : zx Xx4 x4) (ax6 : zx Xx6 x6) (ax7 : zx Xx7 x7) (ax8 : zx Xx8 x8) (ax9 : zx Xx9 x9) (ax10 : zx Xx10 x10), zq 0 A (xf_219_153 n (za_9 x0) Xx4 Xx6 Xx7 Xx8 Xx9 Xx10 h) (zf_219_153 n x0 x4 x6 x7 x8 x9 x10 s) := by
  intro n
  induction n with
  | zero =>
    intros
    exact zq_none
  | succ n ih =>
    intro A h s x0 Xx4 x4 Xx6 x6 Xx7 x7 Xx8 x8 Xx9 x9 Xx10 x10 H ax0 ax4 ax6 ax7 ax8 ax9 ax10
    rw [xf_219_153, zf_219_153]
    exact (zq_ge ax10 ax6 (zg_219_197 H ax0 ax4 ax9) (zq_b (zr_595 H ax0) (zq_b (zr_595 H ax0) (zq_g fun g1 => (zq_a (zw_595 H ax0) (zadd_x ax7 ax10 g1) (zq_g fun g2 => (zq_W (fun hl => zwp_595 H ax0 (zadd_x ax8 ax10 g2) (zx_s H 595 x0 (x7 + x10)) hl) fun h104 s4 H3 => (zq_g fun g5 => (ih H3 ax0 ax4 ax6 ax7 ax8 ax9 (zadd_x ax10 zc32_1 g5))))))))))
theorem zg_219_133 {A : Nat} {h : xrH} {s : zS} {x0 : Nat} {Xx3 : Int32} {x3 : Int} {Xx4 : Int32} {x4 : Int} {Xx6 : Int32} {x6 : Int} {Xx7 : Int32} {x7 : Int} {Xx8 : Int32} {x8 : Int} {s0 : Nat} {Xs1 : Int32} {s1 : Int} {Xs2 : Int32} {s2 : Int} {Xs3 : Int32} {s3 : Int} {Xs4 : Int32} {s4 : Int} {Xs5 : Int32} {s5 : Int} (H : zH A h s) (ax0 : x0 < 1) (ax3 : zx Xx3 x3) (ax4 : zx Xx4 x4) (ax6 : zx Xx6 x6) (ax7 : zx Xx7 x7) (ax8 : zx Xx8 x8) (as0 : s0 < 1) (as1 : zx Xs1 s1) (as2 : zx Xs2 s2) (as3 : zx Xs3 s3) (as4 : zx Xs4 s4) (as5 : zx Xs5 s5) : zq 0 A (xf_219_133 (za_9 x0) Xx3 Xx4 Xx6 Xx7 Xx8 (za_9 s0) Xs1 Xs2 Xs3 Xs4 Xs5 h) (zf_219_133 x0 x3 x4 x6 x7 x8 s0 s1 s2 s3 s4 s5 s) := by
  unfold xf_219_133 zf_219_133
  exact (zq_c (zc_9 H as0) (zq_c_i (zg_207 H as0 as1 as2 as3 as4 as5) fun v3 h101 s2 hv3 H1 => (zq_eq ax3 zcn_0 (zq_c (zc_9 H1 ax0) (zq_c_v (zg_209 H1 ax0 ax8 ax6) fun _ h103 s5 _ H4 => (zg_219_197 H4 ax0 ax4 (zx_r hv3)))) (zq_c (zc_9 H1 ax0) (zq_c_v (zg_208 H1 ax0 ax8 ax6) fun _ h104 s7 _ H6 => (zg_219_153 xfu H6 ax0 ax4 ax6 ax7 ax8 (zx_r hv3) zc32_0))))))
theorem zg_219_115 {A : Nat} {h : xrH} {s : zS} {x0 : Nat} {Xx1 : Int32} {x1 : Int} {Xx3 : Int32} {x3 : Int} {Xx4 : Int32} {x4 : Int} {Xx6 : Int32} {x6 : Int} {Xx7 : Int32} {x7 : Int} {Xs0 : Int32} {s0 : Int} (H : zH A h s) (ax0 : x0 < 1) (ax1 : zx Xx1 x1) (ax3 : zx Xx3 x3) (ax4 : zx Xx4 x4) (ax6 : zx Xx6 x6) (ax7 : zx Xx7 x7) (as0 : zx Xs0 s0) : zq 0 A (xf_219_115 (za_9 x0) Xx1 Xx3 Xx4 Xx6 Xx7 Xs0 h) (zf_219_115 x0 x1 x3 x4 x6 x7 s0 s) := by
  unfold xf_219_115 zf_219_115
  exact (zq_eq ax3 zcn_0 (zg_219_133 H ax0 ax3 ax4 ax6 ax7 as0 ax0 ax1 as0 ax6 ax3 zc32_m1) (zg_219_133 H ax0 ax3 ax4 ax6 ax7 as0 ax0 ax1 as0 ax6 ax3 zc32_1))
theorem zg_219_56 {A : Nat} {h : xrH} {s : zS} {x0 : Nat} {Xx1 : Int32} {x1 : Int} {Xx3 : Int32} {x3 : Int} {Xx4 : Int32} {x4 : Int} {Xs0 : Int32} {s0 : Int} (H : zH A h s) (ax0 : x0 < 1) (ax1 : zx Xx1 x1) (ax3 : zx Xx3 x3) (ax4 : zx Xx4 x4) (as0 : zx Xs0 s0) : zq 0 A (xf_219_56 (za_9 x0) Xx1 Xx3 Xx4 Xs0 h) (zf_219_56 x0 x1 x3 x4 s0 s) := by
  unfold xf_219_56 zf_219_56
  exact (zq_eq as0 zc32_m1 (zg_219_73 H ax0) (zq_b (zi_599 H ax0) (zq_ne (zx_s H 599 x0 0) zc8_30 (zq_c (zc_9 H ax0) (zq_c_v (zg_203 H ax0) fun _ h102 s2 _ H1 => (zq_b (zr_615 H1 ax0) (zq_a (zw_615 H1 ax0) as0 (zq_b (zr_614 H1 ax0) (zq_a (zw_614 H1 ax0) as0 (zq_eq ax3 zcn_0 (zg_219_115 H1 ax0 ax1 ax3 ax4 (zx_s H1 615 x0 s0) (zx_s H1 614 x0 s0) (zx_s H1 614 x0 s0)) (zq_g fun g3 => (zg_219_115 H1 ax0 ax1 ax3 ax4 (zx_s H1 615 x0 s0) (zx_s H1 614 x0 s0) (zadd_x (zx_s H1 614 x0 s0) (zx_s H1 615 x0 s0) g3)))))))))) (zg_219_73 H ax0))))
theorem zg_219_14 {A : Nat} {h : xrH} {s : zS} {x0 : Nat} {Xx1 : Int32} {x1 : Int} {Xx2 : Int32} {x2 : Int} {Xx3 : Int32} {x3 : Int} {s0 : Nat} {Xs1 : Int32} {s1 : Int} (H : zH A h s) (ax0 : x0 < 1) (ax1 : zx Xx1 x1) (ax2 : zx Xx2 x2) (ax3 : zx Xx3 x3) (as0 : s0 < 1) (as1 : zx Xs1 s1) : zq 0 A (xf_219_14 (za_9 x0) Xx1 Xx2 Xx3 (za_9 s0) Xs1 h) (zf_219_14 x0 x1 x2 x3 s0 s1 s) := by
  unfold xf_219_14 zf_219_14
  exact (zq_P (zpi_576 H as0 as1) fun h101 s2 H1 => (zq_b (zi_576 H1 ax0) (zq_le (zx_s H1 576 x0 0) zcn_0 (zq_b (zi_603 H1 ax0) (zq_b (zd_eq (by decide)) (zq_b (zr_612 H1 ax0) (zq_a (zw_612 H1 ax0) ax1 (zq_ne (zx_s H1 612 x0 x1) zc32_1 (zg_219_56 H1 ax0 ax1 ax3 (zdiv_x (zx_s H1 603 x0 0) zc16_200) zc32_m1) (zq_c (zc_9 H1 ax0) (zq_c_i (zg_218 H1 ax0 ax1 ax2) fun v5 h107 s4 hv5 H3 => (zg_219_56 H3 ax0 ax1 ax3 (zdiv_x (zx_s H1 603 x0 0) zc16_200) (zx_r hv5))))))))) (zq_i H1 zc32_0))))
theorem zg_219 {A : Nat} {h : xrH} {s : zS} {x0 : Nat} {Xx1 : Int32} {x1 : Int} {Xx2 : Int32} {x2 : Int} {Xx3 : Int32} {x3 : Int} (H : zH A h s) (ax0 : x0 < 1) (ax1 : zx Xx1 x1) (ax2 : zx Xx2 x2) (ax3 : zx Xx3 x3) : zq 0 A (xf_219 (za_9 x0) Xx1 Xx2 Xx3 h) (zf_219 x0 x1 x2 x3 s) := by
  unfold xf_219 zf_219
  exact (zq_c (zc_9 H ax0) (zq_c_i (zg_191 H ax0 ax1) fun v3 h101 s2 hv3 H1 => (zq_eq (zx_r hv3) zcn_0 (zg_219_14 H1 ax0 ax1 ax2 ax3 ax0 zc32_1) (zg_219_14 H1 ax0 ax1 ax2 ax3 ax0 zc32_0))))
theorem zg_220_24 {A : Nat} {h : xrH} {s : zS} {x0 : Nat} (H : zH A h s) (ax0 : x0 < 1) : zq 0 A (xf_220_24 (za_9 x0) h) (zf_220_24 x0 s) := by
  unfold xf_220_24 zf_220_24
  exact (zq_c (zc_9 H ax0) (zq_c_i (zg_145 H ax0 zc32_1) fun v3 h101 s2 hv3 H1 => (zq_i H1 (zx_r hv3))))
theorem zg_220 {A : Nat} {h : xrH} {s : zS} {x0 : Nat} (H : zH A h s) (ax0 : x0 < 1) : zq 0 A (xf_220 (za_9 x0) h) (zf_220 x0 s) := by
  unfold xf_220 zf_220
  exact (zq_P (zpi_576 H ax0 zc32_0) fun h101 s2 H1 => (zq_c (zc_9 H1 ax0) (zq_c_i (zg_187 H1 ax0) fun v5 h102 s4 hv5 H3 => (zq_eq (zx_r hv5) zc32_m1 (zg_220_24 H3 ax0) (zq_b (zi_599 H3 ax0) (zq_ne (zx_s H3 599 x0 0) zc8_30 (zq_c (zc_9 H3 ax0) (zq_c_v (zg_203 H3 ax0) fun _ h105 s7 _ H6 => (zq_c (zc_9 H6 ax0) (zq_c_i (zg_211 H6 ax0 (zx_r hv5)) fun v10 h106 s9 hv10 H8 => (zq_c (zc_9 H8 ax0) (zq_c_i (zg_204 H8 ax0 (zx_r hv10) zc32_1) fun v13 h108 s12 hv13 H11 => (zq_i H11 (zx_r hv13)))))))) (zg_220_24 H3 ax0)))))))
theorem zg_221 {A : Nat} {h : xrH} {s : zS} {x0 : Nat} {Xx1 : Int32} {x1 : Int} {Xx2 : Int32} {x2 : Int} (H : zH A h s) (ax0 : x0 < 1) (ax1 : zx Xx1 x1) (ax2 : zx Xx2 x2) : zq 0 A (xf_221 (za_9 x0) Xx1 Xx2 h) (zf_221 x0 x1 x2 s) := by
  unfold xf_221 zf_221
  exact (zq_b (zr_602 H ax0) (zq_g fun g1 => (zq_g fun g2 => (zq_a (zw_602 H ax0) (zadd_x (zmul_x zc16_160 ax1 g1) ax2 g2) (zq_i H (zx_s H 602 x0 ((160 * x1) + x2)))))))
theorem zg_222_2 : ∀ (n : Nat) {A : Nat} {h : xrH} {s : zS} {x0 : Nat} {Xx1 : Int32} {x1 : Int} {Xx2 : Int32} {x2 : Int} {Xx3 : Int32} {x3 : Int} (H : zH A h s) (ax0 : x0 < 1) (ax1 : zx Xx1 x1) (ax2 : zx Xx2 x2) (ax3 : zx Xx3 x3), zq 0 A (xf_222_2 n (za_9 x0) Xx1 Xx2 Xx3 h) (zf_222_2 n x0 x1 x2 x3 s) := by
  intro n
  induction n with
  | zero =>
    intros
    exact zq_none
  | succ n ih =>
    intro A h s x0 Xx1 x1 Xx2 x2 Xx3 x3 H ax0 ax1 ax2 ax3
    rw [xf_222_2, zf_222_2]
    exact (zq_b (zr_600 H ax0) (zq_a (zw_600 H ax0) ax1 (zq_ge ax3 (zx_s H 600 x0 x1) (zq_i H ax3) (zq_b (zr_600 H ax0) (zq_a (zw_600 H ax0) ax2 (zq_ge ax3 (zx_s H 600 x0 x2) (zq_i H ax3) (zq_c (zc_9 H ax0) (zq_c_i (zg_221 H ax0 ax1 ax3) fun v3 h105 s2 hv3 H1 => (zq_c (zc_9 H1 ax0) (zq_c_i (zg_221 H1 ax0 ax2 ax3) fun v6 h107 s5 hv6 H4 => (zq_ne (zx_r hv3) (zx_r hv6) (zq_i H4 ax3) (zq_g fun g7 => (ih H4 ax0 ax1 ax2 (zadd_x ax3 zc32_1 g7))))))))))))))
theorem zg_222 {A : Nat} {h : xrH} {s : zS} {x0 : Nat} {Xx1 : Int32} {x1 : Int} {Xx2 : Int32} {x2 : Int} (H : zH A h s) (ax0 : x0 < 1) (ax1 : zx Xx1 x1) (ax2 : zx Xx2 x2) : zq 0 A (xf_222 (za_9 x0) Xx1 Xx2 h) (zf_222 x0 x1 x2 s) := by
  unfold xf_222 zf_222
  exact (zg_222_2 xfu H ax0 ax1 ax2 zc32_0)
theorem zg_223_3 : ∀ (n : Nat) {A : Nat} {h : xrH} {s : zS} {x0 : Nat} {Xx1 : Int32} {x1 : Int} {Xx2 : Int32} {x2 : Int} {Xx3 : Int32} {x3 : Int} {Xx4 : Int32} {x4 : Int} (H : zH A h s) (ax0 : x0 < 1) (ax1 : zx Xx1 x1) (ax2 : zx Xx2 x2) (ax3 : zx Xx3 x3) (ax4 : zx Xx4 x4), zq 0 A (xf_223_3 n (za_9 x0) Xx1 Xx2 Xx3 Xx4 h) (zf_223_3 n x0 x1 x2 x3 x4 s) := by
  intro n
  induction n with
  | zero =>
    intros
    exact zq_none
  | succ n ih =>
    intro A h s x0 Xx1 x1 Xx2 x2 Xx3 x3 Xx4 x4 H ax0 ax1 ax2 ax3 ax4
    rw [xf_223_3, zf_223_3]
    exact (zq_b (zr_600 H ax0) (zq_a (zw_600 H ax0) ax1 (zq_g fun g1 => (zq_ge ax4 (zsub_x (zx_s H 600 x0 x1) ax3 g1) (zq_i H ax4) (zq_b (zr_600 H ax0) (zq_a (zw_600 H ax0) ax2 (zq_g fun g2 => (zq_ge ax4 (zsub_x (zx_s H 600 x0 x2) ax3 g2) (zq_i H ax4) (zq_b (zr_600 H ax0) (zq_a (zw_600 H ax0) ax1 (zq_c (zc_9 H ax0) (zq_g fun g3 => (zq_g fun g4 => (zq_c_i (zg_221 H ax0 ax1 (zsub_x (zsub_x (zx_s H 600 x0 x1) zc32_1 g3) ax4 g4)) fun v7 h107 s6 hv7 H5 => (zq_b (zr_600 H5 ax0) (zq_a (zw_600 H5 ax0) ax2 (zq_c (zc_9 H5 ax0) (zq_g fun g8 => (zq_g fun g9 => (zq_c_i (zg_221 H5 ax0 ax2 (zsub_x (zsub_x (zx_s H5 600 x0 x2) zc32_1 g8) ax4 g9)) fun v12 h111 s11 hv12 H10 => (zq_ne (zx_r hv7) (zx_r hv12) (zq_i H10 ax4) (zq_g fun g13 => (ih H10 ax0 ax1 ax2 ax3 (zadd_x ax4 zc32_1 g13))))))))))))))))))))))))
theorem zg_223 {A : Nat} {h : xrH} {s : zS} {x0 : Nat} {Xx1 : Int32} {x1 : Int} {Xx2 : Int32} {x2 : Int} {Xx3 : Int32} {x3 : Int} (H : zH A h s) (ax0 : x0 < 1) (ax1 : zx Xx1 x1) (ax2 : zx Xx2 x2) (ax3 : zx Xx3 x3) : zq 0 A (xf_223 (za_9 x0) Xx1 Xx2 Xx3 h) (zf_223 x0 x1 x2 x3 s) := by
  unfold xf_223 zf_223
  exact (zg_223_3 xfu H ax0 ax1 ax2 ax3 zc32_0)
theorem zg_224_35 {A : Nat} {h : xrH} {s : zS} {x0 : Nat} {Xx1 : Int32} {x1 : Int} {Xx2 : Int32} {x2 : Int} {Xx3 : Int32} {x3 : Int} {s0 : Nat} {Xs1 : Int32} {s1 : Int} (H : zH A h s) (ax0 : x0 < 1) (ax1 : zx Xx1 x1) (ax2 : zx Xx2 x2) (ax3 : zx Xx3 x3) (as0 : s0 < 1) (as1 : zx Xs1 s1) : zq 0 A (xf_224_35 (za_9 x0) Xx1 Xx2 Xx3 (za_9 s0) Xs1 h) (zf_224_35 x0 x1 x2 x3 s0 s1 s) := by
  unfold xf_224_35 zf_224_35
  exact (zq_P (zpi_576 H as0 as1) fun h101 s2 H1 => (zq_b (zi_576 H1 ax0) (zq_le (zx_s H1 576 x0 0) zcn_0 (zq_c (zc_9 H1 ax0) (zq_c_i (zg_222 H1 ax0 ax1 ax2) fun v5 h103 s4 hv5 H3 => (zq_c (zc_9 H3 ax0) (zq_c_i (zg_223 H3 ax0 ax1 ax2 (zx_r hv5)) fun v8 h105 s7 hv8 H6 => (zq_ne ax3 zcn_0 (zq_ne ax3 zc32_1 (zq_b (zr_600 H6 ax0) (zq_a (zw_600 H6 ax0) ax2 (zq_g fun g9 => (zq_g fun g10 => (zq_i H6 (zsub_x (zsub_x (zx_s H6 600 x0 x2) (zx_r hv5) g9) (zx_r hv8) g10)))))) (zq_b (zr_600 H6 ax0) (zq_a (zw_600 H6 ax0) ax1 (zq_g fun g11 => (zq_g fun g12 => (zq_i H6 (zsub_x (zsub_x (zx_s H6 600 x0 x1) (zx_r hv5) g11) (zx_r hv8) g12))))))) (zq_i H6 (zx_r hv5))))))) (zq_i H1 zc32_0))))
theorem zg_224 {A : Nat} {h : xrH} {s : zS} {x0 : Nat} {Xx1 : Int32} {x1 : Int} {Xx2 : Int32} {x2 : Int} {Xx3 : Int32} {x3 : Int} (H : zH A h s) (ax0 : x0 < 1) (ax1 : zx Xx1 x1) (ax2 : zx Xx2 x2) (ax3 : zx Xx3 x3) : zq 0 A (xf_224 (za_9 x0) Xx1 Xx2 Xx3 h) (zf_224 x0 x1 x2 x3 s) := by
  unfold xf_224 zf_224
  exact (zq_c (zc_9 H ax0) (zq_c_i (zg_153 H ax0 ax1) fun v3 h101 s2 hv3 H1 => (zq_eq (zx_r hv3) zcn_0 (zg_224_35 H1 ax0 ax1 ax2 ax3 ax0 zc32_1) (zq_c (zc_9 H1 ax0) (zq_c_i (zg_153 H1 ax0 ax2) fun v6 h103 s5 hv6 H4 => (zq_ne (zx_r hv6) zcn_0 (zq_c_i (zg_146 H4 ax3 zc32_0 zc32_2) fun v9 h105 s8 hv9 H7 => (zq_ne (zx_r hv9) zcn_0 (zg_224_35 H7 ax0 ax1 ax2 ax3 ax0 zc32_0) (zg_224_35 H7 ax0 ax1 ax2 ax3 ax0 zc32_2))) (zg_224_35 H4 ax0 ax1 ax2 ax3 ax0 zc32_1)))))))
theorem zg_225_28 : ∀ (n : Nat) {A : Nat} {h : xrH} {s : zS} {x0 : Nat} {Xx1 : Int32} {x1 : Int} {Xx3 : Int32} {x3 : Int} {Xx4 : Int32} {x4 : Int} {Xx5 : Int32} {x5 : Int} {Xx6 : Int32} {x6 : Int} (H : zH A h s) (ax0 : x0 < 1) (ax1 : zx Xx1 x1) (ax3 : zx Xx3 x3) (ax4 : zx Xx4 x4) (ax5 : zx Xx5 x5) (ax6 : zx Xx6 x6), zq 0 A (xf_225_28 n (za_9 x0) Xx1 Xx3 Xx4 Xx5 Xx6 h) (zf_225_28 n x0 x1 x3 x4 x5 x6 s) := by
  intro n
  induction n with
  | zero =>
    intros
    exact zq_none
  | succ n ih =>
    intro A h s x0 Xx1 x1 Xx3 x3 Xx4 x4 Xx5 x5 Xx6 x6 H ax0 ax1 ax3 ax4 ax5 ax6
    rw [xf_225_28, zf_225_28]
    exact (zq_ge ax6 ax3 (zq_z H ax5) (zq_eq ax5 zcn_0 (zq_z H ax5) (zq_c (zc_9 H ax0) (zq_c_i (zg_221 H ax0 ax1 ax6) fun v3 h101 s2 hv3 H1 => (zq_b (zr_595 H1 ax0) (zq_g fun g4 => (zq_a (zw_595 H1 ax0) (zadd_x ax6 ax4 g4) (zq_ne (zx_r hv3) (zx_s H1 595 x0 (x6 + x4)) (zq_g fun g5 => (ih H1 ax0 ax1 ax3 ax4 zc32_0 (zadd_x ax6 zc32_1 g5))) (zq_g fun g6 => (ih H1 ax0 ax1 ax3 ax4 zc32_1 (zadd_x ax6 zc32_1 g6)))))))))))
theorem zg_225 {A : Nat} {h : xrH} {s : zS} {x0 : Nat} {Xx1 : Int32} {x1 : Int} {Xx2 : Int32} {x2 : Int} {Xx3 : Int32} {x3 : Int} {Xx4 : Int32} {x4 : Int} (H : zH A h s) (ax0 : x0 < 1) (ax1 : zx Xx1 x1) (ax2 : zx Xx2 x2) (ax3 : zx Xx3 x3) (ax4 : zx Xx4 x4) : zq 0 A (xf_225 (za_9 x0) Xx1 Xx2 Xx3 Xx4 h) (zf_225 x0 x1 x2 x3 x4 s) := by
  unfold xf_225 zf_225
  exact (zq_g fun g1 => (zq_lt (zadd_x ax2 ax4 g1) zcn_0 (zg_225_28 xfu H ax0 ax1 ax3 ax4 zc32_0 ax2) (zq_b (zi_594 H ax0) (zq_g fun g2 => (zq_gt (zadd_x ax3 ax4 g2) (zx_s H 594 x0 0) (zg_225_28 xfu H ax0 ax1 ax3 ax4 zc32_0 ax2) (zg_225_28 xfu H ax0 ax1 ax3 ax4 zc32_1 ax2))))))
theorem zg_226_229 {A : Nat} {h : xrH} {s : zS} {x0 : Nat} (H : zH A h s) (ax0 : x0 < 1) : zq 0 A (xf_226_229 (za_9 x0) h) (zf_226_229 x0 s) := by
  unfold xf_226_229 zf_226_229
  exact (zq_c (zc_9 H ax0) (zq_c_i (zg_145 H ax0 zc32_2) fun v3 h101 s2 hv3 H1 => (zq_i H1 (zx_r hv3))))
theorem zg_226_262 : ∀ (n : Nat) {A : Nat} {h : xrH} {s : zS} {x0 : Nat} {Xx2 : Int32} {x2 : Int} {Xx3 : Int32} {x3 : Int} {Xx6 : Int32} {x6 : Int} {Xx9 : Int32} {x9 : Int} {Xx10 : Int32} {x10 : Int} (H : zH A h s) (ax0 : x0 < 1) (ax2 : zx Xx2 x2) (ax3 : zx Xx3 x3) (ax6 : zx Xx6 x6) (ax9 : zx Xx9 x9) (ax10 : zx Xx10 x10), zq 0 A (xf_226_262 n (za_9 x0) Xx2 Xx3 Xx6 Xx9 Xx10 h) (zf_226_262 n x0 x2 x3 x6 x9 x10 s) := by
  intro n
  induction n with
  | zero =>
    intros
    exact zq_none
  | succ n ih =>
    intro A h s x0 Xx2 x2 Xx3 x3 Xx6 x6 Xx9 x9 Xx10 x10 H ax0 ax2 ax3 ax6 ax9 ax10
    rw [xf_226_262, zf_226_262]
    exact (zq_ge ax10 ax6 (zq_c (zc_9 H ax0) (zq_c_i (zg_148 H ax0) fun v3 h101 s2 hv3 H1 => (zq_i H1 (zx_r hv3)))) (zq_b (zr_595 H ax0) (zq_c (zc_9 H ax0) (zq_g fun g4 => (zq_c_i (zg_221 H ax0 ax2 (zadd_x ax3 ax10 g4)) fun v7 h104 s6 hv7 H5 => (zq_g fun g8 => (zq_g fun g9 => (zq_W (fun hl => zwp_595 H5 ax0 (zadd_x (zadd_x ax3 ax9 g8) ax10 g9) (zx_r hv7) hl) fun h106 s11 H10 => (zq_g fun g12 => (ih H10 ax0 ax2 ax3 ax6 ax9 (zadd_x ax10 zc32_1 g12)))))))))))
theorem zg_226_196 {A : Nat} {h : xrH} {s : zS} {x0 : Nat} {Xx2 : Int32} {x2 : Int} {Xx3 : Int32} {x3 : Int} {Xx5 : Int32} {x5 : Int} {Xx6 : Int32} {x6 : Int} {Xx9 : Int32} {x9 : Int} (H : zH A h s) (ax0 : x0 < 1) (ax2 : zx Xx2 x2) (ax3 : zx Xx3 x3) (ax5 : zx Xx5 x5) (ax6 : zx Xx6 x6) (ax9 : zx Xx9 x9) : zq 0 A (xf_226_196 (za_9 x0) Xx2 Xx3 Xx5 Xx6 Xx9 h) (zf_226_196 x0 x2 x3 x5 x6 x9 s) := by
  unfold xf_226_196 zf_226_196
  exact (zq_eq ax9 zc16_999 (zg_226_229 H ax0) (zq_b (zi_594 H ax0) (zq_g fun g1 => (zq_g fun g2 => (zq_gt (zadd_x (zsub_x (zx_s H 594 x0 0) ax5 g1) ax6 g2) zc16_160 (zg_226_229 H ax0) (zq_b (zi_599 H ax0) (zq_ne (zx_s H 599 x0 0) zc8_30 (zq_c (zc_9 H ax0) (zq_c_v (zg_203 H ax0) fun _ h103 s4 _ H3 => (zq_c (zc_9 H3 ax0) (zq_g fun g5 => (zq_c_v (zg_209 H3 ax0 (zadd_x ax3 ax9 g5) ax5) fun _ h104 s7 _ H6 => (zq_c (zc_9 H6 ax0) (zq_c_v (zg_208 H6 ax0 (zadd_x ax3 ax9 g5) ax6) fun _ h105 s9 _ H8 => (zg_226_262 xfu H8 ax0 ax2 ax3 ax6 ax9 zc32_0)))))))) (zg_226_229 H ax0))))))))
theorem zg_226_130 : ∀ (n : Nat) {A : Nat} {h : xrH} {s : zS} {x0 : Nat} {Xx1 : Int32} {x1 : Int} {Xx2 : Int32} {x2 : Int} {Xx3 : Int32} {x3 : Int} {Xx5 : Int32} {x5 : Int} {Xx6 : Int32} {x6 : Int} {Xx7 : Int32} {x7 : Int} {Xx8 : Int32} {x8 : Int} {Xx9 : Int32} {x9 : Int} {Xx10 : Int32} {x10 : Int} (H : zH A h s) (ax0 : x0 < 1) (ax1 : zx Xx1 x1) (ax2 : zx Xx2 x2) (ax3 : zx Xx3 x3) (ax5 : zx Xx5 x5) (ax6 : zx Xx6 x6) (ax7 : zx Xx7 x7) (ax8 : zx Xx8 x8) (ax9 : zx Xx9 x9) (ax10 : zx Xx10 x10), zq 0 A (xf_226_130 n (za_9 x0) Xx1 Xx2 Xx3 Xx5 Xx6 Xx7 Xx8 Xx9 Xx10 h) (zf_226_130 n x0 x1 x2 x3 x5 x6 x7 x8 x9 x10 s) := by
  intro n
  induction n with
  | zero =>
    intros
    exact zq_none
  | succ n ih =>
    intro A h s x0 Xx1 x1 Xx2 x2 Xx3 x3 Xx5 x5 Xx6 x6 Xx7 x7 Xx8 x8 Xx9 x9 Xx10 x10 H ax0 ax1 ax2 ax3 ax5 ax6 ax7 ax8 ax9 ax10
    rw [xf_226_130, zf_226_130]
    exact (zq_gt ax10 zc16_200 (zg_226_196 H ax0 ax2 ax3 ax5 ax6 ax9) (zq_ne ax9 zc16_999 (zg_226_196 H ax0 ax2 ax3 ax5 ax6 ax9) (zq_c (zc_9 H ax0) (zq_g fun g1 => (zq_c_i (zg_225 H ax0 ax1 ax7 ax8 (zneg_x ax10 g1)) fun v4 h101 s3 hv4 H2 => (zq_eq (zx_r hv4) zcn_0 (zq_c (zc_9 H2 ax0) (zq_c_i (zg_225 H2 ax0 ax1 ax7 ax8 ax10) fun v7 h103 s6 hv7 H5 => (zq_eq (zx_r hv7) zcn_0 (zq_g fun g8 => (ih H5 ax0 ax1 ax2 ax3 ax5 ax6 ax7 ax8 ax9 (zadd_x ax10 zc32_1 g8))) (zq_g fun g9 => (ih H5 ax0 ax1 ax2 ax3 ax5 ax6 ax7 ax8 ax10 (zadd_x ax10 zc32_1 g9)))))) (zq_g fun g10 => (ih H2 ax0 ax1 ax2 ax3 ax5 ax6 ax7 ax8 (zneg_x ax10 g1) (zadd_x ax10 zc32_1 g10)))))))))
theorem zg_226_120 {A : Nat} {h : xrH} {s : zS} {x0 : Nat} {Xx1 : Int32} {x1 : Int} {Xx2 : Int32} {x2 : Int} {Xx3 : Int32} {x3 : Int} {Xx5 : Int32} {x5 : Int} {Xx6 : Int32} {x6 : Int} {Xx7 : Int32} {x7 : Int} {Xs0 : Int32} {s0 : Int} (H : zH A h s) (ax0 : x0 < 1) (ax1 : zx Xx1 x1) (ax2 : zx Xx2 x2) (ax3 : zx Xx3 x3) (ax5 : zx Xx5 x5) (ax6 : zx Xx6 x6) (ax7 : zx Xx7 x7) (as0 : zx Xs0 s0) : zq 0 A (xf_226_120 (za_9 x0) Xx1 Xx2 Xx3 Xx5 Xx6 Xx7 Xs0 h) (zf_226_120 x0 x1 x2 x3 x5 x6 x7 s0 s) := by
  unfold xf_226_120 zf_226_120
  exact (zg_226_130 xfu H ax0 ax1 ax2 ax3 ax5 ax6 ax7 as0 zc16_999 zc32_0)
theorem zg_226_88 {A : Nat} {h : xrH} {s : zS} {x0 : Nat} {Xx1 : Int32} {x1 : Int} {Xx2 : Int32} {x2 : Int} {Xx3 : Int32} {x3 : Int} {Xx5 : Int32} {x5 : Int} {Xx6 : Int32} {x6 : Int} {Xs0 : Int32} {s0 : Int} (H : zH A h s) (ax0 : x0 < 1) (ax1 : zx Xx1 x1) (ax2 : zx Xx2 x2) (ax3 : zx Xx3 x3) (ax5 : zx Xx5 x5) (ax6 : zx Xx6 x6) (as0 : zx Xs0 s0) : zq 0 A (xf_226_88 (za_9 x0) Xx1 Xx2 Xx3 Xx5 Xx6 Xs0 h) (zf_226_88 x0 x1 x2 x3 x5 x6 s0 s) := by
  unfold xf_226_88 zf_226_88
  exact (zq_b (zr_600 H ax0) (zq_a (zw_600 H ax0) ax1 (zq_g fun g1 => (zq_g fun g2 => (zq_le (zadd_x (zadd_x ax3 ax5 g1) zc32_2 g2) (zx_s H 600 x0 x1) (zg_226_120 H ax0 ax1 ax2 ax3 ax5 ax6 as0 (zadd_x (zadd_x ax3 ax5 g1) zc32_2 g2)) (zq_b (zr_600 H ax0) (zq_a (zw_600 H ax0) ax1 (zg_226_120 H ax0 ax1 ax2 ax3 ax5 ax6 as0 (zx_s H 600 x0 x1)))))))))
theorem zg_226_22 {A : Nat} {h : xrH} {s : zS} {x0 : Nat} {Xx1 : Int32} {x1 : Int} {Xx2 : Int32} {x2 : Int} {s0 : Nat} {Xs1 : Int32} {s1 : Int} (H : zH A h s) (ax0 : x0 < 1) (ax1 : zx Xx1 x1) (ax2 : zx Xx2 x2) (as0 : s0 < 1) (as1 : zx Xs1 s1) : zq 0 A (xf_226_22 (za_9 x0) Xx1 Xx2 (za_9 s0) Xs1 h) (zf_226_22 x0 x1 x2 s0 s1 s) := by
  unfold xf_226_22 zf_226_22
  exact (zq_P (zpi_576 H as0 as1) fun h101 s2 H1 => (zq_b (zi_576 H1 ax0) (zq_le (zx_s H1 576 x0 0) zcn_0 (zq_c (zc_9 H1 ax0) (zq_c_i (zg_222 H1 ax0 ax1 ax2) fun v5 h103 s4 hv5 H3 => (zq_c (zc_9 H3 ax0) (zq_c_i (zg_223 H3 ax0 ax1 ax2 (zx_r hv5)) fun v8 h105 s7 hv8 H6 => (zq_b (zr_600 H6 ax0) (zq_a (zw_600 H6 ax0) ax1 (zq_b (zr_600 H6 ax0) (zq_a (zw_600 H6 ax0) ax2 (zq_ge (zx_r hv5) zc32_2 (zq_g fun g9 => (zq_g fun g10 => (zq_g fun g11 => (zq_g fun g12 => (zq_g fun g13 => (zg_226_88 H6 ax0 ax1 ax2 (zx_r hv5) (zsub_x (zsub_x (zx_s H6 600 x0 x1) (zx_r hv5) g9) (zx_r hv8) g10) (zsub_x (zsub_x (zx_s H6 600 x0 x2) (zx_r hv5) g11) (zx_r hv8) g12) (zsub_x (zx_r hv5) zc32_2 g13))))))) (zq_g fun g14 => (zq_g fun g15 => (zq_g fun g16 => (zq_g fun g17 => (zg_226_88 H6 ax0 ax1 ax2 (zx_r hv5) (zsub_x (zsub_x (zx_s H6 600 x0 x1) (zx_r hv5) g14) (zx_r hv8) g15) (zsub_x (zsub_x (zx_s H6 600 x0 x2) (zx_r hv5) g16) (zx_r hv8) g17) zc32_0)))))))))))))) (zq_i H1 zc32_0))))
