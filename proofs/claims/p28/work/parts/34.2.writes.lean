/-! writes -/
section
variable {A n : Nat} {h : xrH} {s : zS}
theorem zpi_1 (H : zH A h s) (hn : n < 3) {V : Int32} {v : Int} (hv : zx V v) : ∃ h1, xo_p 0 h (za_0 n) 1 (.int V) = some h1 ∧ zH A h1 (zp 1 n 0 v s) := by
  refine ⟨_, zxp_eq (zobj_0 H hn) rfl rfl, ?_⟩
  rw [hv.1]
  match n, hn with
  | 0, _ => exact H.put 1 1 0 _ _ _ _ (by have := H.1; omega) rfl (by decide +kernel) hv.2 (by rfl)
  | 1, _ => exact H.put 3 1 1 _ _ _ _ (by have := H.1; omega) rfl (by decide +kernel) hv.2 (by rfl)
  | 2, _ => exact H.put 36 1 2 _ _ _ _ (by have := H.1; omega) rfl (by decide +kernel) hv.2 (by rfl)
theorem zpi_128 (H : zH A h s) (hn : n < 1) {V : Int32} {v : Int} (hv : zx V v) : ∃ h1, xo_p 0 h (za_2 n) 128 (.int V) = some h1 ∧ zH A h1 (zp 128 n 0 v s) := by
  refine ⟨_, zxp_eq (zobj_2 H hn) rfl rfl, ?_⟩
  rw [hv.1]
  match n, hn with
  | 0, _ => exact H.put 39 128 0 _ _ _ _ (by have := H.1; omega) rfl (by decide +kernel) hv.2 (by rfl)
theorem zpi_129 (H : zH A h s) (hn : n < 1) {V : Int32} {v : Int} (hv : zx V v) : ∃ h1, xo_p 0 h (za_2 n) 129 (.int V) = some h1 ∧ zH A h1 (zp 129 n 0 v s) := by
  refine ⟨_, zxp_eq (zobj_2 H hn) rfl rfl, ?_⟩
  rw [hv.1]
  match n, hn with
  | 0, _ => exact H.put 39 129 0 _ _ _ _ (by have := H.1; omega) rfl (by decide +kernel) hv.2 (by rfl)
theorem zpi_130 (H : zH A h s) (hn : n < 1) {V : Int32} {v : Int} (hv : zx V v) : ∃ h1, xo_p 0 h (za_2 n) 130 (.int V) = some h1 ∧ zH A h1 (zp 130 n 0 v s) := by
  refine ⟨_, zxp_eq (zobj_2 H hn) rfl rfl, ?_⟩
  rw [hv.1]
  match n, hn with
  | 0, _ => exact H.put 39 130 0 _ _ _ _ (by have := H.1; omega) rfl (by decide +kernel) hv.2 (by rfl)
theorem zpi_199 (H : zH A h s) (hn : n < 2) {V : Int32} {v : Int} (hv : zx V v) : ∃ h1, xo_p 0 h (za_3 n) 199 (.int V) = some h1 ∧ zH A h1 (zp 199 n 0 v s) := by
  refine ⟨_, zxp_eq (zobj_3 H hn) rfl rfl, ?_⟩
  rw [hv.1]
  match n, hn with
  | 0, _ => exact H.put 12 199 0 _ _ _ _ (by have := H.1; omega) rfl (by decide +kernel) hv.2 (by rfl)
  | 1, _ => exact H.put 24 199 1 _ _ _ _ (by have := H.1; omega) rfl (by decide +kernel) hv.2 (by rfl)
theorem zpb_256 (H : zH A h s) (hn : n < 1) {b : Nat} (hb : b < 3) : ∃ h1, xo_p 2 h (za_4 n) 256 (.ref (za_0 b)) = some h1 ∧ zH A h1 (zp 256 n 0 (b + 1 : Int) s) := by
  refine ⟨_, zxp_eq (zobj_4 H hn) rfl rfl, ?_⟩
  match b, hb with
  | 0, _ =>
    match n, hn with
    | 0, _ => exact H.put 5 256 0 _ _ _ _ (by have := H.1; omega) rfl (by decide +kernel) (by decide) (by rfl)
  | 1, _ =>
    match n, hn with
    | 0, _ => exact H.put 5 256 0 _ _ _ _ (by have := H.1; omega) rfl (by decide +kernel) (by decide) (by rfl)
  | 2, _ =>
    match n, hn with
    | 0, _ => exact H.put 5 256 0 _ _ _ _ (by have := H.1; omega) rfl (by decide +kernel) (by decide) (by rfl)
theorem zpt_257 (H : zH A h s) (hn : n < 1) {V : Option Nat} {v : Int} (hv : zo V v) : ∃ h1, xo_p 2 h (za_4 n) 257 (xr_rf V) = some h1 ∧ zH A h1 (zp 257 n 0 v s) := by
  obtain ⟨rfl, hr⟩ := hv
  refine ⟨_, zxp_eq (zobj_4 H hn) rfl (ztak2 _), ?_⟩
  match n, hn with
  | 0, _ => exact H.put 5 257 0 _ _ _ _ (by have := H.1; omega) rfl (by decide +kernel) hr (by rfl)
theorem zpi_258 (H : zH A h s) (hn : n < 1) {V : Int32} {v : Int} (hv : zx V v) : ∃ h1, xo_p 0 h (za_4 n) 258 (.int V) = some h1 ∧ zH A h1 (zp 258 n 0 v s) := by
  refine ⟨_, zxp_eq (zobj_4 H hn) rfl rfl, ?_⟩
  rw [hv.1]
  match n, hn with
  | 0, _ => exact H.put 5 258 0 _ _ _ _ (by have := H.1; omega) rfl (by decide +kernel) hv.2 (by rfl)
theorem zpi_259 (H : zH A h s) (hn : n < 1) {V : Int32} {v : Int} (hv : zx V v) : ∃ h1, xo_p 0 h (za_4 n) 259 (.int V) = some h1 ∧ zH A h1 (zp 259 n 0 v s) := by
  refine ⟨_, zxp_eq (zobj_4 H hn) rfl rfl, ?_⟩
  rw [hv.1]
  match n, hn with
  | 0, _ => exact H.put 5 259 0 _ _ _ _ (by have := H.1; omega) rfl (by decide +kernel) hv.2 (by rfl)
theorem zpi_260 (H : zH A h s) (hn : n < 1) {V : Int32} {v : Int} (hv : zx V v) : ∃ h1, xo_p 0 h (za_4 n) 260 (.int V) = some h1 ∧ zH A h1 (zp 260 n 0 v s) := by
  refine ⟨_, zxp_eq (zobj_4 H hn) rfl rfl, ?_⟩
  rw [hv.1]
  match n, hn with
  | 0, _ => exact H.put 5 260 0 _ _ _ _ (by have := H.1; omega) rfl (by decide +kernel) hv.2 (by rfl)
theorem zpi_261 (H : zH A h s) (hn : n < 1) {V : Int32} {v : Int} (hv : zx V v) : ∃ h1, xo_p 0 h (za_4 n) 261 (.int V) = some h1 ∧ zH A h1 (zp 261 n 0 v s) := by
  refine ⟨_, zxp_eq (zobj_4 H hn) rfl rfl, ?_⟩
  rw [hv.1]
  match n, hn with
  | 0, _ => exact H.put 5 261 0 _ _ _ _ (by have := H.1; omega) rfl (by decide +kernel) hv.2 (by rfl)
theorem zpt_321 (H : zH A h s) (hn : n < 2) {V : Option Nat} {v : Int} (hv : zo V v) : ∃ h1, xo_p 2 h (za_5 n) 321 (xr_rf V) = some h1 ∧ zH A h1 (zp 321 n 0 v s) := by
  obtain ⟨rfl, hr⟩ := hv
  refine ⟨_, zxp_eq (zobj_5 H hn) rfl (ztak2 _), ?_⟩
  match n, hn with
  | 0, _ => exact H.put 11 321 0 _ _ _ _ (by have := H.1; omega) rfl (by decide +kernel) hr (by rfl)
  | 1, _ => exact H.put 23 321 1 _ _ _ _ (by have := H.1; omega) rfl (by decide +kernel) hr (by rfl)
theorem zpb_322 (H : zH A h s) (hn : n < 2) {b : Nat} (hb : b < 3) : ∃ h1, xo_p 2 h (za_5 n) 322 (.ref (za_0 b)) = some h1 ∧ zH A h1 (zp 322 n 0 (b + 1 : Int) s) := by
  refine ⟨_, zxp_eq (zobj_5 H hn) rfl rfl, ?_⟩
  match b, hb with
  | 0, _ =>
    match n, hn with
    | 0, _ => exact H.put 11 322 0 _ _ _ _ (by have := H.1; omega) rfl (by decide +kernel) (by decide) (by rfl)
    | 1, _ => exact H.put 23 322 1 _ _ _ _ (by have := H.1; omega) rfl (by decide +kernel) (by decide) (by rfl)
  | 1, _ =>
    match n, hn with
    | 0, _ => exact H.put 11 322 0 _ _ _ _ (by have := H.1; omega) rfl (by decide +kernel) (by decide) (by rfl)
    | 1, _ => exact H.put 23 322 1 _ _ _ _ (by have := H.1; omega) rfl (by decide +kernel) (by decide) (by rfl)
  | 2, _ =>
    match n, hn with
    | 0, _ => exact H.put 11 322 0 _ _ _ _ (by have := H.1; omega) rfl (by decide +kernel) (by decide) (by rfl)
    | 1, _ => exact H.put 23 322 1 _ _ _ _ (by have := H.1; omega) rfl (by decide +kernel) (by decide) (by rfl)
theorem zpi_323 (H : zH A h s) (hn : n < 2) {V : Int32} {v : Int} (hv : zx V v) : ∃ h1, xo_p 0 h (za_5 n) 323 (.int V) = some h1 ∧ zH A h1 (zp 323 n 0 v s) := by
  refine ⟨_, zxp_eq (zobj_5 H hn) rfl rfl, ?_⟩
  rw [hv.1]
  match n, hn with
  | 0, _ => exact H.put 11 323 0 _ _ _ _ (by have := H.1; omega) rfl (by decide +kernel) hv.2 (by rfl)
  | 1, _ => exact H.put 23 323 1 _ _ _ _ (by have := H.1; omega) rfl (by decide +kernel) hv.2 (by rfl)
theorem zpi_324 (H : zH A h s) (hn : n < 2) {V : Int32} {v : Int} (hv : zx V v) : ∃ h1, xo_p 0 h (za_5 n) 324 (.int V) = some h1 ∧ zH A h1 (zp 324 n 0 v s) := by
  refine ⟨_, zxp_eq (zobj_5 H hn) rfl rfl, ?_⟩
  rw [hv.1]
  match n, hn with
  | 0, _ => exact H.put 11 324 0 _ _ _ _ (by have := H.1; omega) rfl (by decide +kernel) hv.2 (by rfl)
  | 1, _ => exact H.put 23 324 1 _ _ _ _ (by have := H.1; omega) rfl (by decide +kernel) hv.2 (by rfl)
theorem zpi_325 (H : zH A h s) (hn : n < 2) {V : Int32} {v : Int} (hv : zx V v) : ∃ h1, xo_p 0 h (za_5 n) 325 (.int V) = some h1 ∧ zH A h1 (zp 325 n 0 v s) := by
  refine ⟨_, zxp_eq (zobj_5 H hn) rfl rfl, ?_⟩
  rw [hv.1]
  match n, hn with
  | 0, _ => exact H.put 11 325 0 _ _ _ _ (by have := H.1; omega) rfl (by decide +kernel) hv.2 (by rfl)
  | 1, _ => exact H.put 23 325 1 _ _ _ _ (by have := H.1; omega) rfl (by decide +kernel) hv.2 (by rfl)
theorem zpi_326 (H : zH A h s) (hn : n < 2) {V : Int32} {v : Int} (hv : zx V v) : ∃ h1, xo_p 0 h (za_5 n) 326 (.int V) = some h1 ∧ zH A h1 (zp 326 n 0 v s) := by
  refine ⟨_, zxp_eq (zobj_5 H hn) rfl rfl, ?_⟩
  rw [hv.1]
  match n, hn with
  | 0, _ => exact H.put 11 326 0 _ _ _ _ (by have := H.1; omega) rfl (by decide +kernel) hv.2 (by rfl)
  | 1, _ => exact H.put 23 326 1 _ _ _ _ (by have := H.1; omega) rfl (by decide +kernel) hv.2 (by rfl)
theorem zpi_327 (H : zH A h s) (hn : n < 2) {V : Int32} {v : Int} (hv : zx V v) : ∃ h1, xo_p 0 h (za_5 n) 327 (.int V) = some h1 ∧ zH A h1 (zp 327 n 0 v s) := by
  refine ⟨_, zxp_eq (zobj_5 H hn) rfl rfl, ?_⟩
  rw [hv.1]
  match n, hn with
  | 0, _ => exact H.put 11 327 0 _ _ _ _ (by have := H.1; omega) rfl (by decide +kernel) hv.2 (by rfl)
  | 1, _ => exact H.put 23 327 1 _ _ _ _ (by have := H.1; omega) rfl (by decide +kernel) hv.2 (by rfl)
theorem zpi_387 (H : zH A h s) (hn : n < 1) {V : Int32} {v : Int} (hv : zx V v) : ∃ h1, xo_p 0 h (za_6 n) 387 (.int V) = some h1 ∧ zH A h1 (zp 387 n 0 v s) := by
  refine ⟨_, zxp_eq (zobj_6 H hn) rfl rfl, ?_⟩
  rw [hv.1]
  match n, hn with
  | 0, _ => exact H.put 7 387 0 _ _ _ _ (by have := H.1; omega) rfl (by decide +kernel) hv.2 (by rfl)
theorem zpi_388 (H : zH A h s) (hn : n < 1) {V : Int32} {v : Int} (hv : zx V v) : ∃ h1, xo_p 0 h (za_6 n) 388 (.int V) = some h1 ∧ zH A h1 (zp 388 n 0 v s) := by
  refine ⟨_, zxp_eq (zobj_6 H hn) rfl rfl, ?_⟩
  rw [hv.1]
  match n, hn with
  | 0, _ => exact H.put 7 388 0 _ _ _ _ (by have := H.1; omega) rfl (by decide +kernel) hv.2 (by rfl)
theorem zpi_448 (H : zH A h s) (hn : n < A) {V : Int32} {v : Int} (hv : zx V v) : ∃ h1, xo_p 0 h (za_7 n) 448 (.int V) = some h1 ∧ zH A h1 (zp 448 n 0 v s) := by
  refine ⟨_, zxp_eq (zobj_7 H hn) rfl rfl, ?_⟩
  rw [hv.1]
  match n, hn with
  | 0, hn => exact H.put 44 448 0 _ _ _ _ (by omega) rfl (by decide +kernel) hv.2 (by rfl)
  | 1, hn => exact H.put 62 448 1 _ _ _ _ (by omega) rfl (by decide +kernel) hv.2 (by rfl)
  | 2, hn => exact H.put 80 448 2 _ _ _ _ (by omega) rfl (by decide +kernel) hv.2 (by rfl)
  | 3, hn => exact H.put 98 448 3 _ _ _ _ (by omega) rfl (by decide +kernel) hv.2 (by rfl)
  | k + 4, hn => exact absurd (Nat.lt_of_lt_of_le hn H.le4) (by omega)
theorem zpi_449 (H : zH A h s) (hn : n < A) {V : Int32} {v : Int} (hv : zx V v) : ∃ h1, xo_p 0 h (za_7 n) 449 (.int V) = some h1 ∧ zH A h1 (zp 449 n 0 v s) := by
  refine ⟨_, zxp_eq (zobj_7 H hn) rfl rfl, ?_⟩
  rw [hv.1]
  match n, hn with
  | 0, hn => exact H.put 44 449 0 _ _ _ _ (by omega) rfl (by decide +kernel) hv.2 (by rfl)
  | 1, hn => exact H.put 62 449 1 _ _ _ _ (by omega) rfl (by decide +kernel) hv.2 (by rfl)
  | 2, hn => exact H.put 80 449 2 _ _ _ _ (by omega) rfl (by decide +kernel) hv.2 (by rfl)
  | 3, hn => exact H.put 98 449 3 _ _ _ _ (by omega) rfl (by decide +kernel) hv.2 (by rfl)
  | k + 4, hn => exact absurd (Nat.lt_of_lt_of_le hn H.le4) (by omega)
theorem zpi_450 (H : zH A h s) (hn : n < A) {V : Int32} {v : Int} (hv : zx V v) : ∃ h1, xo_p 0 h (za_7 n) 450 (.int V) = some h1 ∧ zH A h1 (zp 450 n 0 v s) := by
  refine ⟨_, zxp_eq (zobj_7 H hn) rfl rfl, ?_⟩
  rw [hv.1]
  match n, hn with
  | 0, hn => exact H.put 44 450 0 _ _ _ _ (by omega) rfl (by decide +kernel) hv.2 (by rfl)
  | 1, hn => exact H.put 62 450 1 _ _ _ _ (by omega) rfl (by decide +kernel) hv.2 (by rfl)
  | 2, hn => exact H.put 80 450 2 _ _ _ _ (by omega) rfl (by decide +kernel) hv.2 (by rfl)
  | 3, hn => exact H.put 98 450 3 _ _ _ _ (by omega) rfl (by decide +kernel) hv.2 (by rfl)
  | k + 4, hn => exact absurd (Nat.lt_of_lt_of_le hn H.le4) (by omega)
theorem zpi_451 (H : zH A h s) (hn : n < A) {V : Int32} {v : Int} (hv : zx V v) : ∃ h1, xo_p 0 h (za_7 n) 451 (.int V) = some h1 ∧ zH A h1 (zp 451 n 0 v s) := by
  refine ⟨_, zxp_eq (zobj_7 H hn) rfl rfl, ?_⟩
  rw [hv.1]
  match n, hn with
  | 0, hn => exact H.put 44 451 0 _ _ _ _ (by omega) rfl (by decide +kernel) hv.2 (by rfl)
  | 1, hn => exact H.put 62 451 1 _ _ _ _ (by omega) rfl (by decide +kernel) hv.2 (by rfl)
  | 2, hn => exact H.put 80 451 2 _ _ _ _ (by omega) rfl (by decide +kernel) hv.2 (by rfl)
  | 3, hn => exact H.put 98 451 3 _ _ _ _ (by omega) rfl (by decide +kernel) hv.2 (by rfl)
  | k + 4, hn => exact absurd (Nat.lt_of_lt_of_le hn H.le4) (by omega)
theorem zpi_522 (H : zH A h s) (hn : n < 1) {V : Int32} {v : Int} (hv : zx V v) : ∃ h1, xo_p 0 h (za_8 n) 522 (.int V) = some h1 ∧ zH A h1 (zp 522 n 0 v s) := by
  refine ⟨_, zxp_eq (zobj_8 H hn) rfl rfl, ?_⟩
  rw [hv.1]
  match n, hn with
  | 0, _ => exact H.put 0 522 0 _ _ _ _ (by have := H.1; omega) rfl (by decide +kernel) hv.2 (by rfl)
theorem zpi_523 (H : zH A h s) (hn : n < 1) {V : Int32} {v : Int} (hv : zx V v) : ∃ h1, xo_p 0 h (za_8 n) 523 (.int V) = some h1 ∧ zH A h1 (zp 523 n 0 v s) := by
  refine ⟨_, zxp_eq (zobj_8 H hn) rfl rfl, ?_⟩
  rw [hv.1]
  match n, hn with
  | 0, _ => exact H.put 0 523 0 _ _ _ _ (by have := H.1; omega) rfl (by decide +kernel) hv.2 (by rfl)
theorem zwp_0 (H : zH A h s) (hn : n < 3) {I V : Int32} {i v : Int} (hi : zx I i) (hv : zx V v) (hl : 0 ≤ i ∧ i < ((zlB n) : Nat)) : ∃ h1, xo_ap .int h (zy_0 n) I V = some h1 ∧ zH A h1 (zp 0 n i v s) := by
  refine ⟨_, zap_eq (zw_0 H hn) hi hl (Or.inl rfl), ?_⟩
  match n, hn with
  | 0, _ => exact H.put 2 0 0 _ _ _ _ (by have := H.1; omega) rfl (by decide +kernel) hv.2 (zap_I0 hi hv hl.1)
  | 1, _ => exact H.put 4 0 1 _ _ _ _ (by have := H.1; omega) rfl (by decide +kernel) hv.2 (zap_I0 hi hv hl.1)
  | 2, _ => exact H.put 37 0 2 _ _ _ _ (by have := H.1; omega) rfl (by decide +kernel) hv.2 (zap_I0 hi hv hl.1)
theorem zwp_65 (H : zH A h s) (hn : n < 1) {I V : Int32} {i v : Int} (hi : zx I i) (hv : zx V v) (hb : v = 0 ∨ v = 1) (hl : 0 ≤ i ∧ i < (200 : Nat)) : ∃ h1, xo_ap .boolean h (zy_65 n) I V = some h1 ∧ zH A h1 (zp 65 n i v s) := by
  refine ⟨_, zap_eq (zw_65 H hn) hi hl (Or.inr (by rw [hv.1]; rcases hb with rfl | rfl; exact Or.inl rfl; exact Or.inr rfl)), ?_⟩
  match n, hn with
  | 0, _ => exact H.put 38 65 0 _ _ _ _ (by have := H.1; omega) rfl (by decide +kernel) hv.2 (zap_I1 hi hv hl.1)
theorem zwp_192 (H : zH A h s) (hn : n < 2) {I V : Int32} {i v : Int} (hi : zx I i) (hv : zx V v) (hl : 0 ≤ i ∧ i < (200 : Nat)) : ∃ h1, xo_ap .int h (zy_192 n) I V = some h1 ∧ zH A h1 (zp 192 n i v s) := by
  refine ⟨_, zap_eq (zw_192 H hn) hi hl (Or.inl rfl), ?_⟩
  match n, hn with
  | 0, _ => exact H.put 13 192 0 _ _ _ _ (by have := H.1; omega) rfl (by decide +kernel) hv.2 (zap_I0 hi hv hl.1)
  | 1, _ => exact H.put 25 192 1 _ _ _ _ (by have := H.1; omega) rfl (by decide +kernel) hv.2 (zap_I0 hi hv hl.1)
theorem zwp_193 (H : zH A h s) (hn : n < 2) {I V : Int32} {i v : Int} (hi : zx I i) (hv : zx V v) (hl : 0 ≤ i ∧ i < (200 : Nat)) : ∃ h1, xo_ap .int h (zy_193 n) I V = some h1 ∧ zH A h1 (zp 193 n i v s) := by
  refine ⟨_, zap_eq (zw_193 H hn) hi hl (Or.inl rfl), ?_⟩
  match n, hn with
  | 0, _ => exact H.put 14 193 0 _ _ _ _ (by have := H.1; omega) rfl (by decide +kernel) hv.2 (zap_I0 hi hv hl.1)
  | 1, _ => exact H.put 26 193 1 _ _ _ _ (by have := H.1; omega) rfl (by decide +kernel) hv.2 (zap_I0 hi hv hl.1)
theorem zwp_194 (H : zH A h s) (hn : n < 2) {I V : Int32} {i v : Int} (hi : zx I i) (hv : zx V v) (hl : 0 ≤ i ∧ i < (200 : Nat)) : ∃ h1, xo_ap .int h (zy_194 n) I V = some h1 ∧ zH A h1 (zp 194 n i v s) := by
  refine ⟨_, zap_eq (zw_194 H hn) hi hl (Or.inl rfl), ?_⟩
  match n, hn with
  | 0, _ => exact H.put 15 194 0 _ _ _ _ (by have := H.1; omega) rfl (by decide +kernel) hv.2 (zap_I0 hi hv hl.1)
  | 1, _ => exact H.put 27 194 1 _ _ _ _ (by have := H.1; omega) rfl (by decide +kernel) hv.2 (zap_I0 hi hv hl.1)
theorem zwp_195 (H : zH A h s) (hn : n < 2) {I V : Int32} {i v : Int} (hi : zx I i) (hv : zx V v) (hl : 0 ≤ i ∧ i < (200 : Nat)) : ∃ h1, xo_ap .int h (zy_195 n) I V = some h1 ∧ zH A h1 (zp 195 n i v s) := by
  refine ⟨_, zap_eq (zw_195 H hn) hi hl (Or.inl rfl), ?_⟩
  match n, hn with
  | 0, _ => exact H.put 16 195 0 _ _ _ _ (by have := H.1; omega) rfl (by decide +kernel) hv.2 (zap_I0 hi hv hl.1)
  | 1, _ => exact H.put 28 195 1 _ _ _ _ (by have := H.1; omega) rfl (by decide +kernel) hv.2 (zap_I0 hi hv hl.1)
theorem zwp_196 (H : zH A h s) (hn : n < 2) {I V : Int32} {i v : Int} (hi : zx I i) (hv : zx V v) (hl : 0 ≤ i ∧ i < (200 : Nat)) : ∃ h1, xo_ap .int h (zy_196 n) I V = some h1 ∧ zH A h1 (zp 196 n i v s) := by
  refine ⟨_, zap_eq (zw_196 H hn) hi hl (Or.inl rfl), ?_⟩
  match n, hn with
  | 0, _ => exact H.put 17 196 0 _ _ _ _ (by have := H.1; omega) rfl (by decide +kernel) hv.2 (zap_I0 hi hv hl.1)
  | 1, _ => exact H.put 29 196 1 _ _ _ _ (by have := H.1; omega) rfl (by decide +kernel) hv.2 (zap_I0 hi hv hl.1)
theorem zwp_197 (H : zH A h s) (hn : n < 2) {I V : Int32} {i v : Int} (hi : zx I i) (hv : zx V v) (hl : 0 ≤ i ∧ i < (200 : Nat)) : ∃ h1, xo_ap .int h (zy_197 n) I V = some h1 ∧ zH A h1 (zp 197 n i v s) := by
  refine ⟨_, zap_eq (zw_197 H hn) hi hl (Or.inl rfl), ?_⟩
  match n, hn with
  | 0, _ => exact H.put 18 197 0 _ _ _ _ (by have := H.1; omega) rfl (by decide +kernel) hv.2 (zap_I0 hi hv hl.1)
  | 1, _ => exact H.put 30 197 1 _ _ _ _ (by have := H.1; omega) rfl (by decide +kernel) hv.2 (zap_I0 hi hv hl.1)
theorem zwp_198 (H : zH A h s) (hn : n < 2) {I V : Int32} {i v : Int} (hi : zx I i) (hv : zx V v) (hl : 0 ≤ i ∧ i < (200 : Nat)) : ∃ h1, xo_ap .int h (zy_198 n) I V = some h1 ∧ zH A h1 (zp 198 n i v s) := by
  refine ⟨_, zap_eq (zw_198 H hn) hi hl (Or.inl rfl), ?_⟩
  match n, hn with
  | 0, _ => exact H.put 19 198 0 _ _ _ _ (by have := H.1; omega) rfl (by decide +kernel) hv.2 (zap_I0 hi hv hl.1)
  | 1, _ => exact H.put 31 198 1 _ _ _ _ (by have := H.1; omega) rfl (by decide +kernel) hv.2 (zap_I0 hi hv hl.1)
theorem zwp_328 (H : zH A h s) (hn : n < 2) {I V : Int32} {i v : Int} (hi : zx I i) (hv : zx V v) (hl : 0 ≤ i ∧ i < (48 : Nat)) : ∃ h1, xo_ap .int h (zy_328 n) I V = some h1 ∧ zH A h1 (zp 328 n i v s) := by
  refine ⟨_, zap_eq (zw_328 H hn) hi hl (Or.inl rfl), ?_⟩
  match n, hn with
  | 0, _ => exact H.put 20 328 0 _ _ _ _ (by have := H.1; omega) rfl (by decide +kernel) hv.2 (zap_I0 hi hv hl.1)
  | 1, _ => exact H.put 32 328 1 _ _ _ _ (by have := H.1; omega) rfl (by decide +kernel) hv.2 (zap_I0 hi hv hl.1)
theorem zwp_329 (H : zH A h s) (hn : n < 2) {I V : Int32} {i v : Int} (hi : zx I i) (hv : zx V v) (hl : 0 ≤ i ∧ i < (48 : Nat)) : ∃ h1, xo_ap .int h (zy_329 n) I V = some h1 ∧ zH A h1 (zp 329 n i v s) := by
  refine ⟨_, zap_eq (zw_329 H hn) hi hl (Or.inl rfl), ?_⟩
  match n, hn with
  | 0, _ => exact H.put 21 329 0 _ _ _ _ (by have := H.1; omega) rfl (by decide +kernel) hv.2 (zap_I0 hi hv hl.1)
  | 1, _ => exact H.put 33 329 1 _ _ _ _ (by have := H.1; omega) rfl (by decide +kernel) hv.2 (zap_I0 hi hv hl.1)
theorem zwp_330 (H : zH A h s) (hn : n < 2) {I V : Int32} {i v : Int} (hi : zx I i) (hv : zx V v) (hl : 0 ≤ i ∧ i < (48 : Nat)) : ∃ h1, xo_ap .int h (zy_330 n) I V = some h1 ∧ zH A h1 (zp 330 n i v s) := by
  refine ⟨_, zap_eq (zw_330 H hn) hi hl (Or.inl rfl), ?_⟩
  match n, hn with
  | 0, _ => exact H.put 22 330 0 _ _ _ _ (by have := H.1; omega) rfl (by decide +kernel) hv.2 (zap_I0 hi hv hl.1)
  | 1, _ => exact H.put 34 330 1 _ _ _ _ (by have := H.1; omega) rfl (by decide +kernel) hv.2 (zap_I0 hi hv hl.1)
theorem zwp_384 (H : zH A h s) (hn : n < 1) {I V : Int32} {i v : Int} (hi : zx I i) (hv : zx V v) (hl : 0 ≤ i ∧ i < (4800 : Nat)) : ∃ h1, xo_ap .int h (zy_384 n) I V = some h1 ∧ zH A h1 (zp 384 n i v s) := by
  refine ⟨_, zap_eq (zw_384 H hn) hi hl (Or.inl rfl), ?_⟩
  match n, hn with
  | 0, _ => exact H.put 8 384 0 _ _ _ _ (by have := H.1; omega) rfl (by decide +kernel) hv.2 (zap_I0 hi hv hl.1)
theorem zwp_385 (H : zH A h s) (hn : n < 1) {I V : Int32} {i v : Int} (hi : zx I i) (hv : zx V v) (hl : 0 ≤ i ∧ i < (30 : Nat)) : ∃ h1, xo_ap .int h (zy_385 n) I V = some h1 ∧ zH A h1 (zp 385 n i v s) := by
  refine ⟨_, zap_eq (zw_385 H hn) hi hl (Or.inl rfl), ?_⟩
  match n, hn with
  | 0, _ => exact H.put 9 385 0 _ _ _ _ (by have := H.1; omega) rfl (by decide +kernel) hv.2 (zap_I0 hi hv hl.1)
theorem zwp_386 (H : zH A h s) (hn : n < 1) {I V : Int32} {i v : Int} (hi : zx I i) (hv : zx V v) (hl : 0 ≤ i ∧ i < (30 : Nat)) : ∃ h1, xo_ap .int h (zy_386 n) I V = some h1 ∧ zH A h1 (zp 386 n i v s) := by
  refine ⟨_, zap_eq (zw_386 H hn) hi hl (Or.inl rfl), ?_⟩
  match n, hn with
  | 0, _ => exact H.put 10 386 0 _ _ _ _ (by have := H.1; omega) rfl (by decide +kernel) hv.2 (zap_I0 hi hv hl.1)
theorem zwp_452 (H : zH A h s) (hn : n < A) {I V : Int32} {i v : Int} (hi : zx I i) (hv : zx V v) (hl : 0 ≤ i ∧ i < (6 : Nat)) : ∃ h1, xo_ap .int h (zy_452 n) I V = some h1 ∧ zH A h1 (zp 452 n i v s) := by
  refine ⟨_, zap_eq (zw_452 H hn) hi hl (Or.inl rfl), ?_⟩
  match n, hn with
  | 0, hn => exact H.put 45 452 0 _ _ _ _ (by omega) rfl (by decide +kernel) hv.2 (zap_I0 hi hv hl.1)
  | 1, hn => exact H.put 63 452 1 _ _ _ _ (by omega) rfl (by decide +kernel) hv.2 (zap_I0 hi hv hl.1)
  | 2, hn => exact H.put 81 452 2 _ _ _ _ (by omega) rfl (by decide +kernel) hv.2 (zap_I0 hi hv hl.1)
  | 3, hn => exact H.put 99 452 3 _ _ _ _ (by omega) rfl (by decide +kernel) hv.2 (zap_I0 hi hv hl.1)
  | k + 4, hn => exact absurd (Nat.lt_of_lt_of_le hn H.le4) (by omega)
theorem zwp_453 (H : zH A h s) (hn : n < A) {I V : Int32} {i v : Int} (hi : zx I i) (hv : zx V v) (hl : 0 ≤ i ∧ i < (6 : Nat)) : ∃ h1, xo_ap .int h (zy_453 n) I V = some h1 ∧ zH A h1 (zp 453 n i v s) := by
  refine ⟨_, zap_eq (zw_453 H hn) hi hl (Or.inl rfl), ?_⟩
  match n, hn with
  | 0, hn => exact H.put 46 453 0 _ _ _ _ (by omega) rfl (by decide +kernel) hv.2 (zap_I0 hi hv hl.1)
  | 1, hn => exact H.put 64 453 1 _ _ _ _ (by omega) rfl (by decide +kernel) hv.2 (zap_I0 hi hv hl.1)
  | 2, hn => exact H.put 82 453 2 _ _ _ _ (by omega) rfl (by decide +kernel) hv.2 (zap_I0 hi hv hl.1)
  | 3, hn => exact H.put 100 453 3 _ _ _ _ (by omega) rfl (by decide +kernel) hv.2 (zap_I0 hi hv hl.1)
  | k + 4, hn => exact absurd (Nat.lt_of_lt_of_le hn H.le4) (by omega)
theorem zwp_454 (H : zH A h s) (hn : n < A) {I V : Int32} {i v : Int} (hi : zx I i) (hv : zx V v) (hl : 0 ≤ i ∧ i < (100 : Nat)) : ∃ h1, xo_ap .int h (zy_454 n) I V = some h1 ∧ zH A h1 (zp 454 n i v s) := by
  refine ⟨_, zap_eq (zw_454 H hn) hi hl (Or.inl rfl), ?_⟩
  match n, hn with
  | 0, hn => exact H.put 47 454 0 _ _ _ _ (by omega) rfl (by decide +kernel) hv.2 (zap_I0 hi hv hl.1)
  | 1, hn => exact H.put 65 454 1 _ _ _ _ (by omega) rfl (by decide +kernel) hv.2 (zap_I0 hi hv hl.1)
  | 2, hn => exact H.put 83 454 2 _ _ _ _ (by omega) rfl (by decide +kernel) hv.2 (zap_I0 hi hv hl.1)
  | 3, hn => exact H.put 101 454 3 _ _ _ _ (by omega) rfl (by decide +kernel) hv.2 (zap_I0 hi hv hl.1)
  | k + 4, hn => exact absurd (Nat.lt_of_lt_of_le hn H.le4) (by omega)
theorem zwp_455 (H : zH A h s) (hn : n < A) {I V : Int32} {i v : Int} (hi : zx I i) (hv : zx V v) (hl : 0 ≤ i ∧ i < (100 : Nat)) : ∃ h1, xo_ap .int h (zy_455 n) I V = some h1 ∧ zH A h1 (zp 455 n i v s) := by
  refine ⟨_, zap_eq (zw_455 H hn) hi hl (Or.inl rfl), ?_⟩
  match n, hn with
  | 0, hn => exact H.put 48 455 0 _ _ _ _ (by omega) rfl (by decide +kernel) hv.2 (zap_I0 hi hv hl.1)
  | 1, hn => exact H.put 66 455 1 _ _ _ _ (by omega) rfl (by decide +kernel) hv.2 (zap_I0 hi hv hl.1)
  | 2, hn => exact H.put 84 455 2 _ _ _ _ (by omega) rfl (by decide +kernel) hv.2 (zap_I0 hi hv hl.1)
  | 3, hn => exact H.put 102 455 3 _ _ _ _ (by omega) rfl (by decide +kernel) hv.2 (zap_I0 hi hv hl.1)
  | k + 4, hn => exact absurd (Nat.lt_of_lt_of_le hn H.le4) (by omega)
theorem zwp_456 (H : zH A h s) (hn : n < A) {I V : Int32} {i v : Int} (hi : zx I i) (hv : zx V v) (hl : 0 ≤ i ∧ i < (100 : Nat)) : ∃ h1, xo_ap .int h (zy_456 n) I V = some h1 ∧ zH A h1 (zp 456 n i v s) := by
  refine ⟨_, zap_eq (zw_456 H hn) hi hl (Or.inl rfl), ?_⟩
  match n, hn with
  | 0, hn => exact H.put 49 456 0 _ _ _ _ (by omega) rfl (by decide +kernel) hv.2 (zap_I0 hi hv hl.1)
  | 1, hn => exact H.put 67 456 1 _ _ _ _ (by omega) rfl (by decide +kernel) hv.2 (zap_I0 hi hv hl.1)
  | 2, hn => exact H.put 85 456 2 _ _ _ _ (by omega) rfl (by decide +kernel) hv.2 (zap_I0 hi hv hl.1)
  | 3, hn => exact H.put 103 456 3 _ _ _ _ (by omega) rfl (by decide +kernel) hv.2 (zap_I0 hi hv hl.1)
  | k + 4, hn => exact absurd (Nat.lt_of_lt_of_le hn H.le4) (by omega)
theorem zwp_457 (H : zH A h s) (hn : n < A) {I V : Int32} {i v : Int} (hi : zx I i) (hv : zx V v) (hl : 0 ≤ i ∧ i < (48 : Nat)) : ∃ h1, xo_ap .int h (zy_457 n) I V = some h1 ∧ zH A h1 (zp 457 n i v s) := by
  refine ⟨_, zap_eq (zw_457 H hn) hi hl (Or.inl rfl), ?_⟩
  match n, hn with
  | 0, hn => exact H.put 50 457 0 _ _ _ _ (by omega) rfl (by decide +kernel) hv.2 (zap_I0 hi hv hl.1)
  | 1, hn => exact H.put 68 457 1 _ _ _ _ (by omega) rfl (by decide +kernel) hv.2 (zap_I0 hi hv hl.1)
  | 2, hn => exact H.put 86 457 2 _ _ _ _ (by omega) rfl (by decide +kernel) hv.2 (zap_I0 hi hv hl.1)
  | 3, hn => exact H.put 104 457 3 _ _ _ _ (by omega) rfl (by decide +kernel) hv.2 (zap_I0 hi hv hl.1)
  | k + 4, hn => exact absurd (Nat.lt_of_lt_of_le hn H.le4) (by omega)
theorem zwp_458 (H : zH A h s) (hn : n < A) {I V : Int32} {i v : Int} (hi : zx I i) (hv : zx V v) (hl : 0 ≤ i ∧ i < (48 : Nat)) : ∃ h1, xo_ap .int h (zy_458 n) I V = some h1 ∧ zH A h1 (zp 458 n i v s) := by
  refine ⟨_, zap_eq (zw_458 H hn) hi hl (Or.inl rfl), ?_⟩
  match n, hn with
  | 0, hn => exact H.put 51 458 0 _ _ _ _ (by omega) rfl (by decide +kernel) hv.2 (zap_I0 hi hv hl.1)
  | 1, hn => exact H.put 69 458 1 _ _ _ _ (by omega) rfl (by decide +kernel) hv.2 (zap_I0 hi hv hl.1)
  | 2, hn => exact H.put 87 458 2 _ _ _ _ (by omega) rfl (by decide +kernel) hv.2 (zap_I0 hi hv hl.1)
  | 3, hn => exact H.put 105 458 3 _ _ _ _ (by omega) rfl (by decide +kernel) hv.2 (zap_I0 hi hv hl.1)
  | k + 4, hn => exact absurd (Nat.lt_of_lt_of_le hn H.le4) (by omega)
theorem zwp_459 (H : zH A h s) (hn : n < A) {I V : Int32} {i v : Int} (hi : zx I i) (hv : zx V v) (hl : 0 ≤ i ∧ i < (48 : Nat)) : ∃ h1, xo_ap .int h (zy_459 n) I V = some h1 ∧ zH A h1 (zp 459 n i v s) := by
  refine ⟨_, zap_eq (zw_459 H hn) hi hl (Or.inl rfl), ?_⟩
  match n, hn with
  | 0, hn => exact H.put 52 459 0 _ _ _ _ (by omega) rfl (by decide +kernel) hv.2 (zap_I0 hi hv hl.1)
  | 1, hn => exact H.put 70 459 1 _ _ _ _ (by omega) rfl (by decide +kernel) hv.2 (zap_I0 hi hv hl.1)
  | 2, hn => exact H.put 88 459 2 _ _ _ _ (by omega) rfl (by decide +kernel) hv.2 (zap_I0 hi hv hl.1)
  | 3, hn => exact H.put 106 459 3 _ _ _ _ (by omega) rfl (by decide +kernel) hv.2 (zap_I0 hi hv hl.1)
  | k + 4, hn => exact absurd (Nat.lt_of_lt_of_le hn H.le4) (by omega)
theorem zwp_460 (H : zH A h s) (hn : n < A) {I V : Int32} {i v : Int} (hi : zx I i) (hv : zx V v) (hl : 0 ≤ i ∧ i < (48 : Nat)) : ∃ h1, xo_ap .int h (zy_460 n) I V = some h1 ∧ zH A h1 (zp 460 n i v s) := by
  refine ⟨_, zap_eq (zw_460 H hn) hi hl (Or.inl rfl), ?_⟩
  match n, hn with
  | 0, hn => exact H.put 53 460 0 _ _ _ _ (by omega) rfl (by decide +kernel) hv.2 (zap_I0 hi hv hl.1)
  | 1, hn => exact H.put 71 460 1 _ _ _ _ (by omega) rfl (by decide +kernel) hv.2 (zap_I0 hi hv hl.1)
  | 2, hn => exact H.put 89 460 2 _ _ _ _ (by omega) rfl (by decide +kernel) hv.2 (zap_I0 hi hv hl.1)
  | 3, hn => exact H.put 107 460 3 _ _ _ _ (by omega) rfl (by decide +kernel) hv.2 (zap_I0 hi hv hl.1)
  | k + 4, hn => exact absurd (Nat.lt_of_lt_of_le hn H.le4) (by omega)
theorem zwp_461 (H : zH A h s) (hn : n < A) {I V : Int32} {i v : Int} (hi : zx I i) (hv : zx V v) (hl : 0 ≤ i ∧ i < (48 : Nat)) : ∃ h1, xo_ap .int h (zy_461 n) I V = some h1 ∧ zH A h1 (zp 461 n i v s) := by
  refine ⟨_, zap_eq (zw_461 H hn) hi hl (Or.inl rfl), ?_⟩
  match n, hn with
  | 0, hn => exact H.put 54 461 0 _ _ _ _ (by omega) rfl (by decide +kernel) hv.2 (zap_I0 hi hv hl.1)
  | 1, hn => exact H.put 72 461 1 _ _ _ _ (by omega) rfl (by decide +kernel) hv.2 (zap_I0 hi hv hl.1)
  | 2, hn => exact H.put 90 461 2 _ _ _ _ (by omega) rfl (by decide +kernel) hv.2 (zap_I0 hi hv hl.1)
  | 3, hn => exact H.put 108 461 3 _ _ _ _ (by omega) rfl (by decide +kernel) hv.2 (zap_I0 hi hv hl.1)
  | k + 4, hn => exact absurd (Nat.lt_of_lt_of_le hn H.le4) (by omega)
theorem zwp_462 (H : zH A h s) (hn : n < A) {I V : Int32} {i v : Int} (hi : zx I i) (hv : zx V v) (hl : 0 ≤ i ∧ i < (48 : Nat)) : ∃ h1, xo_ap .int h (zy_462 n) I V = some h1 ∧ zH A h1 (zp 462 n i v s) := by
  refine ⟨_, zap_eq (zw_462 H hn) hi hl (Or.inl rfl), ?_⟩
  match n, hn with
  | 0, hn => exact H.put 55 462 0 _ _ _ _ (by omega) rfl (by decide +kernel) hv.2 (zap_I0 hi hv hl.1)
  | 1, hn => exact H.put 73 462 1 _ _ _ _ (by omega) rfl (by decide +kernel) hv.2 (zap_I0 hi hv hl.1)
  | 2, hn => exact H.put 91 462 2 _ _ _ _ (by omega) rfl (by decide +kernel) hv.2 (zap_I0 hi hv hl.1)
  | 3, hn => exact H.put 109 462 3 _ _ _ _ (by omega) rfl (by decide +kernel) hv.2 (zap_I0 hi hv hl.1)
  | k + 4, hn => exact absurd (Nat.lt_of_lt_of_le hn H.le4) (by omega)
theorem zwp_463 (H : zH A h s) (hn : n < A) {I V : Int32} {i v : Int} (hi : zx I i) (hv : zx V v) (hl : 0 ≤ i ∧ i < (48 : Nat)) : ∃ h1, xo_ap .int h (zy_463 n) I V = some h1 ∧ zH A h1 (zp 463 n i v s) := by
  refine ⟨_, zap_eq (zw_463 H hn) hi hl (Or.inl rfl), ?_⟩
  match n, hn with
  | 0, hn => exact H.put 56 463 0 _ _ _ _ (by omega) rfl (by decide +kernel) hv.2 (zap_I0 hi hv hl.1)
  | 1, hn => exact H.put 74 463 1 _ _ _ _ (by omega) rfl (by decide +kernel) hv.2 (zap_I0 hi hv hl.1)
  | 2, hn => exact H.put 92 463 2 _ _ _ _ (by omega) rfl (by decide +kernel) hv.2 (zap_I0 hi hv hl.1)
  | 3, hn => exact H.put 110 463 3 _ _ _ _ (by omega) rfl (by decide +kernel) hv.2 (zap_I0 hi hv hl.1)
  | k + 4, hn => exact absurd (Nat.lt_of_lt_of_le hn H.le4) (by omega)
theorem zwp_464 (H : zH A h s) (hn : n < A) {I V : Int32} {i v : Int} (hi : zx I i) (hv : zx V v) (hl : 0 ≤ i ∧ i < (48 : Nat)) : ∃ h1, xo_ap .int h (zy_464 n) I V = some h1 ∧ zH A h1 (zp 464 n i v s) := by
  refine ⟨_, zap_eq (zw_464 H hn) hi hl (Or.inl rfl), ?_⟩
  match n, hn with
  | 0, hn => exact H.put 57 464 0 _ _ _ _ (by omega) rfl (by decide +kernel) hv.2 (zap_I0 hi hv hl.1)
  | 1, hn => exact H.put 75 464 1 _ _ _ _ (by omega) rfl (by decide +kernel) hv.2 (zap_I0 hi hv hl.1)
  | 2, hn => exact H.put 93 464 2 _ _ _ _ (by omega) rfl (by decide +kernel) hv.2 (zap_I0 hi hv hl.1)
  | 3, hn => exact H.put 111 464 3 _ _ _ _ (by omega) rfl (by decide +kernel) hv.2 (zap_I0 hi hv hl.1)
  | k + 4, hn => exact absurd (Nat.lt_of_lt_of_le hn H.le4) (by omega)
theorem zwp_465 (H : zH A h s) (hn : n < A) {I V : Int32} {i v : Int} (hi : zx I i) (hv : zx V v) (hl : 0 ≤ i ∧ i < (48 : Nat)) : ∃ h1, xo_ap .int h (zy_465 n) I V = some h1 ∧ zH A h1 (zp 465 n i v s) := by
  refine ⟨_, zap_eq (zw_465 H hn) hi hl (Or.inl rfl), ?_⟩
  match n, hn with
  | 0, hn => exact H.put 58 465 0 _ _ _ _ (by omega) rfl (by decide +kernel) hv.2 (zap_I0 hi hv hl.1)
  | 1, hn => exact H.put 76 465 1 _ _ _ _ (by omega) rfl (by decide +kernel) hv.2 (zap_I0 hi hv hl.1)
  | 2, hn => exact H.put 94 465 2 _ _ _ _ (by omega) rfl (by decide +kernel) hv.2 (zap_I0 hi hv hl.1)
  | 3, hn => exact H.put 112 465 3 _ _ _ _ (by omega) rfl (by decide +kernel) hv.2 (zap_I0 hi hv hl.1)
  | k + 4, hn => exact absurd (Nat.lt_of_lt_of_le hn H.le4) (by omega)
theorem zwp_466 (H : zH A h s) (hn : n < A) {I V : Int32} {i v : Int} (hi : zx I i) (hv : zx V v) (hl : 0 ≤ i ∧ i < (48 : Nat)) : ∃ h1, xo_ap .int h (zy_466 n) I V = some h1 ∧ zH A h1 (zp 466 n i v s) := by
  refine ⟨_, zap_eq (zw_466 H hn) hi hl (Or.inl rfl), ?_⟩
  match n, hn with
  | 0, hn => exact H.put 59 466 0 _ _ _ _ (by omega) rfl (by decide +kernel) hv.2 (zap_I0 hi hv hl.1)
  | 1, hn => exact H.put 77 466 1 _ _ _ _ (by omega) rfl (by decide +kernel) hv.2 (zap_I0 hi hv hl.1)
  | 2, hn => exact H.put 95 466 2 _ _ _ _ (by omega) rfl (by decide +kernel) hv.2 (zap_I0 hi hv hl.1)
  | 3, hn => exact H.put 113 466 3 _ _ _ _ (by omega) rfl (by decide +kernel) hv.2 (zap_I0 hi hv hl.1)
  | k + 4, hn => exact absurd (Nat.lt_of_lt_of_le hn H.le4) (by omega)
theorem zwp_467 (H : zH A h s) (hn : n < A) {I V : Int32} {i v : Int} (hi : zx I i) (hv : zx V v) (hl : 0 ≤ i ∧ i < (48 : Nat)) : ∃ h1, xo_ap .int h (zy_467 n) I V = some h1 ∧ zH A h1 (zp 467 n i v s) := by
  refine ⟨_, zap_eq (zw_467 H hn) hi hl (Or.inl rfl), ?_⟩
  match n, hn with
  | 0, hn => exact H.put 60 467 0 _ _ _ _ (by omega) rfl (by decide +kernel) hv.2 (zap_I0 hi hv hl.1)
  | 1, hn => exact H.put 78 467 1 _ _ _ _ (by omega) rfl (by decide +kernel) hv.2 (zap_I0 hi hv hl.1)
  | 2, hn => exact H.put 96 467 2 _ _ _ _ (by omega) rfl (by decide +kernel) hv.2 (zap_I0 hi hv hl.1)
  | 3, hn => exact H.put 114 467 3 _ _ _ _ (by omega) rfl (by decide +kernel) hv.2 (zap_I0 hi hv hl.1)
  | k + 4, hn => exact absurd (Nat.lt_of_lt_of_le hn H.le4) (by omega)
theorem zwp_468 (H : zH A h s) (hn : n < A) {I V : Int32} {i v : Int} (hi : zx I i) (hv : zx V v) (hl : 0 ≤ i ∧ i < (48 : Nat)) : ∃ h1, xo_ap .int h (zy_468 n) I V = some h1 ∧ zH A h1 (zp 468 n i v s) := by
  refine ⟨_, zap_eq (zw_468 H hn) hi hl (Or.inl rfl), ?_⟩
  match n, hn with
  | 0, hn => exact H.put 61 468 0 _ _ _ _ (by omega) rfl (by decide +kernel) hv.2 (zap_I0 hi hv hl.1)
  | 1, hn => exact H.put 79 468 1 _ _ _ _ (by omega) rfl (by decide +kernel) hv.2 (zap_I0 hi hv hl.1)
  | 2, hn => exact H.put 97 468 2 _ _ _ _ (by omega) rfl (by decide +kernel) hv.2 (zap_I0 hi hv hl.1)
  | 3, hn => exact H.put 115 468 3 _ _ _ _ (by omega) rfl (by decide +kernel) hv.2 (zap_I0 hi hv hl.1)
  | k + 4, hn => exact absurd (Nat.lt_of_lt_of_le hn H.le4) (by omega)
theorem zwp_521 (H : zH A h s) (hn : n < 1) {I V : Int32} {i v : Int} (hi : zx I i) (hv : zx V v) (hb : v = 0 ∨ v = 1) (hl : 0 ≤ i ∧ i < (1536 : Nat)) : ∃ h1, xo_ap .boolean h (zy_521 n) I V = some h1 ∧ zH A h1 (zp 521 n i v s) := by
  refine ⟨_, zap_eq (zw_521 H hn) hi hl (Or.inr (by rw [hv.1]; rcases hb with rfl | rfl; exact Or.inl rfl; exact Or.inr rfl)), ?_⟩
  match n, hn with
  | 0, _ => exact H.put 40 521 0 _ _ _ _ (by have := H.1; omega) rfl (by decide +kernel) hv.2 (zap_I1 hi hv hl.1)
theorem zwp_576 (H : zH A h s) (hn : n < 1) {I V : Int32} {i v : Int} (hi : zx I i) (hv : zx V v) (hl : 0 ≤ i ∧ i < (21 : Nat)) : ∃ h1, xo_ap .int h (zy_576 n) I V = some h1 ∧ zH A h1 (zp 576 n i v s) := by
  refine ⟨_, zap_eq (zw_576 H hn) hi hl (Or.inl rfl), ?_⟩
  match n, hn with
  | 0, _ => exact H.put 41 576 0 _ _ _ _ (by have := H.1; omega) rfl (by decide +kernel) hv.2 (zap_I0 hi hv hl.1)
theorem zwp_577 (H : zH A h s) (hn : n < 1) {I V : Int32} {i v : Int} (hi : zx I i) (hv : zx V v) (hl : 0 ≤ i ∧ i < (64 : Nat)) : ∃ h1, xo_ap .int h (zy_577 n) I V = some h1 ∧ zH A h1 (zp 577 n i v s) := by
  refine ⟨_, zap_eq (zw_577 H hn) hi hl (Or.inl rfl), ?_⟩
  match n, hn with
  | 0, _ => exact H.put 42 577 0 _ _ _ _ (by have := H.1; omega) rfl (by decide +kernel) hv.2 (zap_I0 hi hv hl.1)
theorem zwp_578 (H : zH A h s) (hn : n < 1) {I V : Int32} {i v : Int} (hi : zx I i) (hv : zx V v) (hl : 0 ≤ i ∧ i < (4 : Nat)) : ∃ h1, xo_ap .int h (zy_578 n) I V = some h1 ∧ zH A h1 (zp 578 n i v s) := by
  refine ⟨_, zap_eq (zw_578 H hn) hi hl (Or.inl rfl), ?_⟩
  match n, hn with
  | 0, _ => exact H.put 43 578 0 _ _ _ _ (by have := H.1; omega) rfl (by decide +kernel) hv.2 (zap_I0 hi hv hl.1)
end
