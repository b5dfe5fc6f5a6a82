/-! writes -/
section
variable {A n : Nat} {h : xrH} {s : zS}
theorem zpi_1 (H : zH A h s) (hn : n < 3) {V : Int32} {v : Int} (hv : zx V v) : ∃ h1, xo_p 0 h (za_0 n) 1 (.int V) = some h1 ∧ zH A h1 (zp 1 n 0 v s) := by
  refine ⟨_, zxp_eq (zobj_0 H hn) rfl rfl, ?_⟩
  rw [hv.1]
  match n, hn with
  | 0, _ => exact H.put 1 1 0 _ _ _ _ (by have := H.1; omega) rfl (by decide +kernel) hv.2 (by rfl)
  | 1, _ => exact H.put 3 1 1 _ _ _ _ (by have := H.1; omega) rfl (by decide +kernel) hv.2 (by rfl)
  | 2, _ => exact H.put 36 1 2 _ _ _ _ (by have := H.1; omega) rfl (by decide +kernel) hv.2 (by rfl)
theorem zpi_128 (H : zH A h s) (hn : n < 1) {V : Int32} {v : Int} (hv : zx V v) : ∃ h1, xo_p 0 h (za_2 n) 128 (.int V) = some h1 ∧ zH A h1 (zp 128 n 0 v s) := by
  refine ⟨_, zxp_eq (zobj_2 H hn) rfl rfl, ?_⟩
  rw [hv.1]
  match n, hn with
  | 0, _ => exact H.put 39 128 0 _ _ _ _ (by have := H.1; omega) rfl (by decide +kernel) hv.2 (by rfl)
theorem zpi_129 (H : zH A h s) (hn : n < 1) {V : Int32} {v : Int} (hv : zx V v) : ∃ h1, xo_p 0 h (za_2 n) 129 (.int V) = some h1 ∧ zH A h1 (zp 129 n 0 v s) := by
  refine ⟨_, zxp_eq (zobj_2 H hn) rfl rfl, ?_⟩
  rw [hv.1]
  match n, hn with
  | 0, _ => exact H.put 39 129 0 _ _ _ _ (by have := H.1; omega) rfl (by decide +kernel) hv.2 (by rfl)
theorem zpi_130 (H : zH A h s) (hn : n < 1) {V : Int32} {v : Int} (hv : zx V v) : ∃ h1, xo_p 0 h (za_2 n) 130 (.int V) = some h1 ∧ zH A h1 (zp 130 n 0 v s) := by
  refine ⟨_, zxp_eq (zobj_2 H hn) rfl rfl, ?_⟩
  rw [hv.1]
  match n, hn with
  | 0, _ => exact H.put 39 130 0 _ _ _ _ (by have := H.1; omega) rfl (by decide +kernel) hv.2 (by rfl)
theorem zpi_199 (H : zH A h s) (hn : n < 2) {V : Int32} {v : Int} (hv : zx V v) : ∃ h1, xo_p 0 h (za_3 n) 199 (.int V) = some h1 ∧ zH A h1 (zp 199 n 0 v s) := by
  refine ⟨_, zxp_eq (zobj_3 H hn) rfl rfl, ?_⟩
  rw [hv.1]
  match n, hn with
  | 0, _ => exact H.put 12 199 0 _ _ _ _ (by have := H.1; omega) rfl (by decide +kernel) hv.2 (by rfl)
  | 1, _ => exact H.put 24 199 1 _ _ _ _ (by have := H.1; omega) rfl (by decide +kernel) hv.2 (by rfl)
theorem zpb_256 (H : zH A h s) (hn : n < 1) {b : Nat} (hb : b < 3) : ∃ h1, xo_p 2 h (za_4 n) 256 (.ref (za_0 b)) = some h1 ∧ zH A h1 (zp 256 n 0 (b + 1 : Int) s) := by
  refine ⟨_, zxp_eq (zobj_4 H hn) rfl rfl, ?_⟩
  match b, hb with
  | 0, _ =>
    match n, hn with
    | 0, _ => exact H.put 5 256 0 _ _ _ _ (by have := H.1; omega) rfl (by decide +kernel) (by decide) (by rfl)
  | 1, _ =>
    match n, hn with
    | 0, _ => exact H.put 5 256 0 _ _ _ _ (by have := H.1; omega) rfl (by decide +kernel) (by decide) (by rfl)
  | 2, _ =>
    match n, hn with
    | 0, _ => exact H.put 5 256 0 _ _ _ _ (by have := H.1; omega) rfl (by decide +kernel) (by decide) (by rfl)
theorem zpt_257 (H : zH A h s) (hn : n < 1) {V : Option Nat} {v : Int} (hv : zo V v) : ∃ h1, xo_p 2 h (za_4 n) 257 (xr_rf V) = some h1 ∧ zH A h1 (zp 257 n 0 v s) := by
  obtain ⟨rfl, hr⟩ := hv
  refine ⟨_, zxp_eq (zobj_4 H hn) rfl (ztak2 _), ?_⟩
  match n, hn with
  | 0, _ => exact H.put 5 257 0 _ _ _ _ (by have := H.1; omega) rfl (by decide +kernel) hr (by rfl)
theorem zpi_258 (H : zH A h s) (hn : n < 1) {V : Int32} {v : Int} (hv : zx V v) : ∃ h1, xo_p 0 h (za_4 n) 258 (.int V) = some h1 ∧ zH A h1 (zp 258 n 0 v s) := by
  refine ⟨_, zxp_eq (zobj_4 H hn) rfl rfl, ?_⟩
  rw [hv.1]
  match n, hn with
  | 0, _ => exact H.put 5 258 0 _ _ _ _ (by have := H.1; omega) rfl (by decide +kernel) hv.2 (by rfl)
theorem zpi_259 (H : zH A h s) (hn : n < 1) {V : Int32} {v : Int} (hv : zx V v) : ∃ h1, xo_p 0 h (za_4 n) 259 (.int V) = some h1 ∧ zH A h1 (zp 259 n 0 v s) := by
  refine ⟨_, zxp_eq (zobj_4 H hn) rfl rfl, ?_⟩
  rw [hv.1]
  match n, hn with
  | 0, _ => exact H.put 5 259 0 _ _ _ _ (by have := H.1; omega) rfl (by decide +kernel) hv.2 (by rfl)
theorem zpi_260 (H : zH A h s) (hn : n < 1) {V : Int32} {v : Int} (hv : zx V v) : ∃ h1, xo_p 0 h (za_4 n) 260 (.int V) = some h1 ∧ zH A h1 (zp 260 n 0 v s) := by
  refine ⟨_, zxp_eq (zobj_4 H hn) rfl rfl, ?_⟩
  rw [hv.1]
  match n, hn with
  | 0, _ => exact H.put 5 260 0 _ _ _ _ (by have := H.1; omega) rfl (by decide +kernel) hv.2 (by rfl)
theorem zpi_261 (H : zH A h s) (hn : n < 1) {V : Int32} {v : Int} (hv : zx V v) : ∃ h1, xo_p 0 h (za_4 n) 261 (.int V) = some h1 ∧ zH A h1 (zp 261 n 0 v s) := by
  refine ⟨_, zxp_eq (zobj_4 H hn) rfl rfl, ?_⟩
  rw [hv.1]
  match n, hn with
  | 0, _ => exact H.put 5 261 0 _ _ _ _ (by have := H.1; omega) rfl (by decide +kernel) hv.2 (by rfl)
theorem zpt_321 (H : zH A h s) (hn : n < 2) {V : Option Nat} {v : Int} (hv : zo V v) : ∃ h1, xo_p 2 h (za_5 n) 321 (xr_rf V) = some h1 ∧ zH A h1 (zp 321 n 0 v s) := by
  obtain ⟨rfl, hr⟩ := hv
  refine ⟨_, zxp_eq (zobj_5 H hn) rfl (ztak2 _), ?_⟩
  match n, hn with
  | 0, _ => exact H.put 11 321 0 _ _ _ _ (by have := H.1; omega) rfl (by decide +kernel) hr (by rfl)
  | 1, _ => exact H.put 23 321 1 _ _ _ _ (by have := H.1; omega) rfl (by decide +kernel) hr (by rfl)
theorem zpb_322 (H : zH A h s) (hn : n < 2) {b : Nat} (hb : b < 3) : ∃ h1, xo_p 2 h (za_5 n) 322 (.ref (za_0 b)) = some h1 ∧ zH A h1 (zp 322 n 0 (b + 1 : Int) s) := by
  refine ⟨_, zxp_eq (zobj_5 H hn) rfl rfl, ?_⟩
  match b, hb with
  | 0, _ =>
    match n, hn with
    | 0, _ => exact H.put 11 322 0 _ _ _ _ (by have := H.1; omega) rfl (by decide +kernel) (by decide) (by rfl)
    | 1, _ => exact H.put 23 322 1 _ _ _ _ (by have := H.1; omega) rfl (by decide +kernel) (by decide) (by rfl)
  | 1, _ =>
    match n, hn with
    | 0, _ => exact H.put 11 322 0 _ _ _ _ (by have := H.1; omega) rfl (by decide +kernel) (by decide) (by rfl)
    | 1, _ => exact H.put 23 322 1 _ _ _ _ (by have := H.1; omega) rfl (by decide +kernel) (by decide) (by rfl)
  | 2, _ =>
    match n, hn with
    | 0, _ => exact H.put 11 322 0 _ _ _ _ (by have := H.1; omega) rfl (by decide +kernel) (by decide) (by rfl)
    | 1, _ => exact H.put 23 322 1 _ _ _ _ (by have := H.1; omega) rfl (by decide +kernel) (by decide) (by rfl)
theorem zpi_323 (H : zH A h s) (hn : n < 2) {V : Int32} {v : Int} (hv : zx V v) : ∃ h1, xo_p 0 h (za_5 n) 323 (.int V) = some h1 ∧ zH A h1 (zp 323 n 0 v s) := by
  refine ⟨_, zxp_eq (zobj_5 H hn) rfl rfl, ?_⟩
  rw [hv.1]
  match n, hn with
  | 0, _ => exact H.put 11 323 0 _ _ _ _ (by have := H.1; omega) rfl (by decide +kernel) hv.2 (by rfl)
  | 1, _ => exact H.put 23 323 1 _ _ _ _ (by have := H.1; omega) rfl (by decide +kernel) hv.2 (by rfl)
theorem zpi_324 (H : zH A h s) (hn : n < 2) {V : Int32} {v : Int} (hv : zx V v) : ∃ h1, xo_p 0 h (za_5 n) 324 (.int V) = some h1 ∧ zH A h1 (zp 324 n 0 v s) := by
  refine ⟨_, zxp_eq (zobj_5 H hn) rfl rfl, ?_⟩
  rw [hv.1]
  match n, hn with
  | 0, _ => exact H.put 11 324 0 _ _ _ _ (by have := H.1; omega) rfl (by decide +kernel) hv.2 (by rfl)
  | 1, _ => exact H.put 23 324 1 _ _ _ _ (by have := H.1; omega) rfl (by decide +kernel) hv.2 (by rfl)
theorem zpi_325 (H : zH A h s) (hn : n < 2) {V : Int32} {v : Int} (hv : zx V v) : ∃ h1, xo_p 0 h (za_5 n) 325 (.int V) = some h1 ∧ zH A h1 (zp 325 n 0 v s) := by
  refine ⟨_, zxp_eq (zobj_5 H hn) rfl rfl, ?_⟩
  rw [hv.1]
  match n, hn with
  | 0, _ => exact H.put 11 325 0 _ _ _ _ (by have := H.1; omega) rfl (by decide +kernel) hv.2 (by rfl)
  | 1, _ => exact H.put 23 325 1 _ _ _ _ (by have := H.1; omega) rfl (by decide +kernel) hv.2 (by rfl)
theorem zpi_326 (H : zH A h s) (hn : n < 2) {V : Int32} {v : Int} (hv : zx V v) : ∃ h1, xo_p 0 h (za_5 n) 326 (.int V) = some h1 ∧ zH A h1 (zp 326 n 0 v s) := by
  refine ⟨_, zxp_eq (zobj_5 H hn) rfl rfl, ?_⟩
  rw [hv.1]
  match n, hn with
  | 0, _ => exact H.put 11 326 0 _ _ _ _ (by have := H.1; omega) rfl (by decide +kernel) hv.2 (by rfl)
  | 1, _ => exact H.put 23 326 1 _ _ _ _ (by have := H.1; omega) rfl (by decide +kernel) hv.2 (by rfl)
theorem zpi_327 (H : zH A h s) (hn : n < 2) {V : Int32} {v : Int} (hv : zx V v) : ∃ h1, xo_p 0 h (za_5 n) 327 (.int V) = some h1 ∧ zH A h1 (zp 327 n 0 v s) := by
  refine ⟨_, zxp_eq (zobj_5 H hn) rfl rfl, ?_⟩
  rw [hv.1]
  match n, hn with
  | 0, _ => exact H.put 11 327 0 _ _ _ _ (by have := H.1; omega) rfl (by decide +kernel) hv.2 (by rfl)
  | 1, _ => exact H.put 23 327 1 _ _ _ _ (by have := H.1; omega) rfl (by decide +kernel) hv.2 (by rfl)
theorem zpi_387 (H : zH A h s) (hn : n < 1) {V : Int32} {v : Int} (hv : zx V v) : ∃ h1, xo_p 0 h (za_6 n) 387 (.int V) = some h1 ∧ zH A h1 (zp 387 n 0 v s) := by
  refine ⟨_, zxp_eq (zobj_6 H hn) rfl rfl, ?_⟩
  rw [hv.1]
  match n, hn with
  | 0, _ => exact H.put 7 387 0 _ _ _ _ (by have := H.1; omega) rfl (by decide +kernel) hv.2 (by rfl)
theorem zpi_388 (H : zH A h s) (hn : n < 1) {V : Int32} {v : Int} (hv : zx V v) : ∃ h1, xo_p 0 h (za_6 n) 388 (.int V) = some h1 ∧ zH A h1 (zp 388 n 0 v s) := by
  refine ⟨_, zxp_eq (zobj_6 H hn) rfl rfl, ?_⟩
  rw [hv.1]
  match n, hn with
  | 0, _ => exact H.put 7 388 0 _ _ _ _ (by have := H.1; omega) rfl (by decide +kernel) hv.2 (by rfl)
theorem zpi_448 (H : zH A h s) (hn : n < A) {V : Int32} {v : Int} (hv : zx V v) : ∃ h1, xo_p 0 h (za_7 n) 448 (.int V) = some h1 ∧ zH A h1 (zp 448 n 0 v s) := by
  refine ⟨_, zxp_eq (zobj_7 H hn) rfl rfl, ?_⟩
  rw [hv.1]
  match n, hn with
  | 0, hn => exact H.put 84 448 0 _ _ _ _ (by omega) rfl (by decide +kernel) hv.2 (by rfl)
  | 1, hn => exact H.put 102 448 1 _ _ _ _ (by omega) rfl (by decide +kernel) hv.2 (by rfl)
  | 2, hn => exact H.put 120 448 2 _ _ _ _ (by omega) rfl (by decide +kernel) hv.2 (by rfl)
  | 3, hn => exact H.put 138 448 3 _ _ _ _ (by omega) rfl (by decide +kernel) hv.2 (by rfl)
  | k + 4, hn => exact absurd (Nat.lt_of_lt_of_le hn H.le4) (by omega)
theorem zpi_449 (H : zH A h s) (hn : n < A) {V : Int32} {v : Int} (hv : zx V v) : ∃ h1, xo_p 0 h (za_7 n) 449 (.int V) = some h1 ∧ zH A h1 (zp 449 n 0 v s) := by
  refine ⟨_, zxp_eq (zobj_7 H hn) rfl rfl, ?_⟩
  rw [hv.1]
  match n, hn with
  | 0, hn => exact H.put 84 449 0 _ _ _ _ (by omega) rfl (by decide +kernel) hv.2 (by rfl)
  | 1, hn => exact H.put 102 449 1 _ _ _ _ (by omega) rfl (by decide +kernel) hv.2 (by rfl)
  | 2, hn => exact H.put 120 449 2 _ _ _ _ (by omega) rfl (by decide +kernel) hv.2 (by rfl)
  | 3, hn => exact H.put 138 449 3 _ _ _ _ (by omega) rfl (by decide +kernel) hv.2 (by rfl)
  | k + 4, hn => exact absurd (Nat.lt_of_lt_of_le hn H.le4) (by omega)
theorem zpi_450 (H : zH A h s) (hn : n < A) {V : Int32} {v : Int} (hv : zx V v) : ∃ h1, xo_p 0 h (za_7 n) 450 (.int V) = some h1 ∧ zH A h1 (zp 450 n 0 v s) := by
  refine ⟨_, zxp_eq (zobj_7 H hn) rfl rfl, ?_⟩
  rw [hv.1]
  match n, hn with
  | 0, hn => exact H.put 84 450 0 _ _ _ _ (by omega) rfl (by decide +kernel) hv.2 (by rfl)
  | 1, hn => exact H.put 102 450 1 _ _ _ _ (by omega) rfl (by decide +kernel) hv.2 (by rfl)
  | 2, hn => exact H.put 120 450 2 _ _ _ _ (by omega) rfl (by decide +kernel) hv.2 (by rfl)
  | 3, hn => exact H.put 138 450 3 _ _ _ _ (by omega) rfl (by decide +kernel) hv.2 (by rfl)
  | k + 4, hn => exact absurd (Nat.lt_of_lt_of_le hn H.le4) (by omega)
theorem zpi_451 (H : zH A h s) (hn : n < A) {V : Int32} {v : Int} (hv : zx V v) : ∃ h1, xo_p 0 h (za_7 n) 451 (.int V) = some h1 ∧ zH A h1 (zp 451 n 0 v s) := by
  refine ⟨_, zxp_eq (zobj_7 H hn) rfl rfl, ?_⟩
  rw [hv.1]
  match n, hn with
  | 0, hn => exact H.put 84 451 0 _ _ _ _ (by omega) rfl (by decide +kernel) hv.2 (by rfl)
  | 1, hn => exact H.put 102 451 1 _ _ _ _ (by omega) rfl (by decide +kernel) hv.2 (by rfl)
  | 2, hn => exact H.put 120 451 2 _ _ _ _ (by omega) rfl (by decide +kernel) hv.2 (by rfl)
  | 3, hn => exact H.put 138 451 3 _ _ _ _ (by omega) rfl (by decide +kernel) hv.2 (by rfl)
  | k + 4, hn => exact absurd (Nat.lt_of_lt_of_le hn H.le4) (by omega)
theorem zpi_522 (H : zH A h s) (hn : n < 1) {V : Int32} {v : Int} (hv : zx V v) : ∃ h1, xo_p 0 h (za_8 n) 522 (.int V) = some h1 ∧ zH A h1 (zp 522 n 0 v s) := by
  refine ⟨_, zxp_eq (zobj_8 H hn) rfl rfl, ?_⟩
  rw [hv.1]
  match n, hn with
  | 0, _ => exact H.put 0 522 0 _ _ _ _ (by have := H.1; omega) rfl (by decide +kernel) hv.2 (by rfl)
theorem zpi_523 (H : zH A h s) (hn : n < 1) {V : Int32} {v : Int} (hv : zx V v) : ∃ h1, xo_p 0 h (za_8 n) 523 (.int V) = some h1 ∧ zH A h1 (zp 523 n 0 v s) := by
  refine ⟨_, zxp_eq (zobj_8 H hn) rfl rfl, ?_⟩
  rw [hv.1]
  match n, hn with
  | 0, _ => exact H.put 0 523 0 _ _ _ _ (by have := H.1; omega) rfl (by decide +kernel) hv.2 (by rfl)
theorem zpi_576 (H : zH A h s) (hn : n < 1) {V : Int32} {v : Int} (hv : zx V v) : ∃ h1, xo_p 0 h (za_9 n) 576 (.int V) = some h1 ∧ zH A h1 (zp 576 n 0 v s) := by
  refine ⟨_, zxp_eq (zobj_9 H hn) rfl rfl, ?_⟩
  rw [hv.1]
  match n, hn with
  | 0, _ => exact H.put 41 576 0 _ _ _ _ (by have := H.1; omega) rfl (by decide +kernel) hv.2 (by rfl)
theorem zpi_577 (H : zH A h s) (hn : n < 1) {V : Int32} {v : Int} (hv : zx V v) : ∃ h1, xo_p 0 h (za_9 n) 577 (.int V) = some h1 ∧ zH A h1 (zp 577 n 0 v s) := by
  refine ⟨_, zxp_eq (zobj_9 H hn) rfl rfl, ?_⟩
  rw [hv.1]
  match n, hn with
  | 0, _ => exact H.put 41 577 0 _ _ _ _ (by have := H.1; omega) rfl (by decide +kernel) hv.2 (by rfl)
theorem zpi_579 (H : zH A h s) (hn : n < 1) {V : Int32} {v : Int} (hv : zx V v) : ∃ h1, xo_p 0 h (za_9 n) 579 (.int V) = some h1 ∧ zH A h1 (zp 579 n 0 v s) := by
  refine ⟨_, zxp_eq (zobj_9 H hn) rfl rfl, ?_⟩
  rw [hv.1]
  match n, hn with
  | 0, _ => exact H.put 41 579 0 _ _ _ _ (by have := H.1; omega) rfl (by decide +kernel) hv.2 (by rfl)
theorem zpi_594 (H : zH A h s) (hn : n < 1) {V : Int32} {v : Int} (hv : zx V v) : ∃ h1, xo_p 0 h (za_9 n) 594 (.int V) = some h1 ∧ zH A h1 (zp 594 n 0 v s) := by
  refine ⟨_, zxp_eq (zobj_9 H hn) rfl rfl, ?_⟩
  rw [hv.1]
  match n, hn with
  | 0, _ => exact H.put 41 594 0 _ _ _ _ (by have := H.1; omega) rfl (by decide +kernel) hv.2 (by rfl)
theorem zpi_596 (H : zH A h s) (hn : n < 1) {V : Int32} {v : Int} (hv : zx V v) : ∃ h1, xo_p 0 h (za_9 n) 596 (.int V) = some h1 ∧ zH A h1 (zp 596 n 0 v s) := by
  refine ⟨_, zxp_eq (zobj_9 H hn) rfl rfl, ?_⟩
  rw [hv.1]
  match n, hn with
  | 0, _ => exact H.put 41 596 0 _ _ _ _ (by have := H.1; omega) rfl (by decide +kernel) hv.2 (by rfl)
theorem zpi_598 (H : zH A h s) (hn : n < 1) {V : Int32} {v : Int} (hv : zx V v) : ∃ h1, xo_p 0 h (za_9 n) 598 (.int V) = some h1 ∧ zH A h1 (zp 598 n 0 v s) := by
  refine ⟨_, zxp_eq (zobj_9 H hn) rfl rfl, ?_⟩
  rw [hv.1]
  match n, hn with
  | 0, _ => exact H.put 41 598 0 _ _ _ _ (by have := H.1; omega) rfl (by decide +kernel) hv.2 (by rfl)
theorem zpi_599 (H : zH A h s) (hn : n < 1) {V : Int32} {v : Int} (hv : zx V v) : ∃ h1, xo_p 0 h (za_9 n) 599 (.int V) = some h1 ∧ zH A h1 (zp 599 n 0 v s) := by
  refine ⟨_, zxp_eq (zobj_9 H hn) rfl rfl, ?_⟩
  rw [hv.1]
  match n, hn with
  | 0, _ => exact H.put 41 599 0 _ _ _ _ (by have := H.1; omega) rfl (by decide +kernel) hv.2 (by rfl)
theorem zpi_603 (H : zH A h s) (hn : n < 1) {V : Int32} {v : Int} (hv : zx V v) : ∃ h1, xo_p 0 h (za_9 n) 603 (.int V) = some h1 ∧ zH A h1 (zp 603 n 0 v s) := by
  refine ⟨_, zxp_eq (zobj_9 H hn) rfl rfl, ?_⟩
  rw [hv.1]
  match n, hn with
  | 0, _ => exact H.put 41 603 0 _ _ _ _ (by have := H.1; omega) rfl (by decide +kernel) hv.2 (by rfl)
theorem zpi_604 (H : zH A h s) (hn : n < 1) {V : Int32} {v : Int} (hv : zx V v) : ∃ h1, xo_p 0 h (za_9 n) 604 (.int V) = some h1 ∧ zH A h1 (zp 604 n 0 v s) := by
  refine ⟨_, zxp_eq (zobj_9 H hn) rfl rfl, ?_⟩
  rw [hv.1]
  match n, hn with
  | 0, _ => exact H.put 41 604 0 _ _ _ _ (by have := H.1; omega) rfl (by decide +kernel) hv.2 (by rfl)
theorem zpi_605 (H : zH A h s) (hn : n < 1) {V : Int32} {v : Int} (hv : zx V v) : ∃ h1, xo_p 0 h (za_9 n) 605 (.int V) = some h1 ∧ zH A h1 (zp 605 n 0 v s) := by
  refine ⟨_, zxp_eq (zobj_9 H hn) rfl rfl, ?_⟩
  rw [hv.1]
  match n, hn with
  | 0, _ => exact H.put 41 605 0 _ _ _ _ (by have := H.1; omega) rfl (by decide +kernel) hv.2 (by rfl)
theorem zpi_606 (H : zH A h s) (hn : n < 1) {V : Int32} {v : Int} (hv : zx V v) : ∃ h1, xo_p 0 h (za_9 n) 606 (.int V) = some h1 ∧ zH A h1 (zp 606 n 0 v s) := by
  refine ⟨_, zxp_eq (zobj_9 H hn) rfl rfl, ?_⟩
  rw [hv.1]
  match n, hn with
  | 0, _ => exact H.put 41 606 0 _ _ _ _ (by have := H.1; omega) rfl (by decide +kernel) hv.2 (by rfl)
theorem zpz_606 (H : zH A h s) (hn : n < 1) {V : Int32} {v : Int} (hv : zx V v) (hb : v = 0 ∨ v = 1) : ∃ h1, xo_p 1 h (za_9 n) 606 (.int V) = some h1 ∧ zH A h1 (zp 606 n 0 v s) := by
  obtain ⟨rfl, hr⟩ := hv
  refine ⟨_, zxp_eq (zobj_9 H hn) rfl (by rcases hb with rfl | rfl <;> rfl), ?_⟩
  match n, hn with
  | 0, _ => exact H.put 41 606 0 _ _ _ _ (by have := H.1; omega) rfl (by decide +kernel) hr (by rfl)
theorem zpi_607 (H : zH A h s) (hn : n < 1) {V : Int32} {v : Int} (hv : zx V v) : ∃ h1, xo_p 0 h (za_9 n) 607 (.int V) = some h1 ∧ zH A h1 (zp 607 n 0 v s) := by
  refine ⟨_, zxp_eq (zobj_9 H hn) rfl rfl, ?_⟩
  rw [hv.1]
  match n, hn with
  | 0, _ => exact H.put 41 607 0 _ _ _ _ (by have := H.1; omega) rfl (by decide +kernel) hv.2 (by rfl)
theorem zpi_608 (H : zH A h s) (hn : n < 1) {V : Int32} {v : Int} (hv : zx V v) : ∃ h1, xo_p 0 h (za_9 n) 608 (.int V) = some h1 ∧ zH A h1 (zp 608 n 0 v s) := by
  refine ⟨_, zxp_eq (zobj_9 H hn) rfl rfl, ?_⟩
  rw [hv.1]
  match n, hn with
  | 0, _ => exact H.put 41 608 0 _ _ _ _ (by have := H.1; omega) rfl (by decide +kernel) hv.2 (by rfl)
theorem zpi_609 (H : zH A h s) (hn : n < 1) {V : Int32} {v : Int} (hv : zx V v) : ∃ h1, xo_p 0 h (za_9 n) 609 (.int V) = some h1 ∧ zH A h1 (zp 609 n 0 v s) := by
  refine ⟨_, zxp_eq (zobj_9 H hn) rfl rfl, ?_⟩
  rw [hv.1]
  match n, hn with
  | 0, _ => exact H.put 41 609 0 _ _ _ _ (by have := H.1; omega) rfl (by decide +kernel) hv.2 (by rfl)
theorem zpi_610 (H : zH A h s) (hn : n < 1) {V : Int32} {v : Int} (hv : zx V v) : ∃ h1, xo_p 0 h (za_9 n) 610 (.int V) = some h1 ∧ zH A h1 (zp 610 n 0 v s) := by
  refine ⟨_, zxp_eq (zobj_9 H hn) rfl rfl, ?_⟩
  rw [hv.1]
  match n, hn with
  | 0, _ => exact H.put 41 610 0 _ _ _ _ (by have := H.1; omega) rfl (by decide +kernel) hv.2 (by rfl)
theorem zpi_611 (H : zH A h s) (hn : n < 1) {V : Int32} {v : Int} (hv : zx V v) : ∃ h1, xo_p 0 h (za_9 n) 611 (.int V) = some h1 ∧ zH A h1 (zp 611 n 0 v s) := by
  refine ⟨_, zxp_eq (zobj_9 H hn) rfl rfl, ?_⟩
  rw [hv.1]
  match n, hn with
  | 0, _ => exact H.put 41 611 0 _ _ _ _ (by have := H.1; omega) rfl (by decide +kernel) hv.2 (by rfl)
theorem zpi_620 (H : zH A h s) (hn : n < 1) {V : Int32} {v : Int} (hv : zx V v) : ∃ h1, xo_p 0 h (za_9 n) 620 (.int V) = some h1 ∧ zH A h1 (zp 620 n 0 v s) := by
  refine ⟨_, zxp_eq (zobj_9 H hn) rfl rfl, ?_⟩
  rw [hv.1]
  match n, hn with
  | 0, _ => exact H.put 41 620 0 _ _ _ _ (by have := H.1; omega) rfl (by decide +kernel) hv.2 (by rfl)
theorem zwp_0 (H : zH A h s) (hn : n < 3) {I V : Int32} {i v : Int} (hi : zx I i) (hv : zx V v) (hl : 0 ≤ i ∧ i < ((zlB n) : Nat)) : ∃ h1, xo_ap .int h (zy_0 n) I V = some h1 ∧ zH A h1 (zp 0 n i v s) := by
  refine ⟨_, zap_eq (zw_0 H hn) hi hl (Or.inl rfl), ?_⟩
  match n, hn with
  | 0, _ => exact H.put 2 0 0 _ _ _ _ (by have := H.1; omega) rfl (by decide +kernel) hv.2 (zap_I0 hi hv hl.1)
  | 1, _ => exact H.put 4 0 1 _ _ _ _ (by have := H.1; omega) rfl (by decide +kernel) hv.2 (zap_I0 hi hv hl.1)
  | 2, _ => exact H.put 37 0 2 _ _ _ _ (by have := H.1; omega) rfl (by decide +kernel) hv.2 (zap_I0 hi hv hl.1)
theorem zwp_65 (H : zH A h s) (hn : n < 1) {I V : Int32} {i v : Int} (hi : zx I i) (hv : zx V v) (hb : v = 0 ∨ v = 1) (hl : 0 ≤ i ∧ i < (200 : Nat)) : ∃ h1, xo_ap .boolean h (zy_65 n) I V = some h1 ∧ zH A h1 (zp 65 n i v s) := by
  refine ⟨_, zap_eq (zw_65 H hn) hi hl (Or.inr (by rw [hv.1]; rcases hb with rfl | rfl; exact Or.inl rfl; exact Or.inr rfl)), ?_⟩
  match n, hn with
  | 0, _ => exact H.put 38 65 0 _ _ _ _ (by have := H.1; omega) rfl (by decide +kernel) hv.2 (zap_I1 hi hv hl.1)
theorem zwp_192 (H : zH A h s) (hn : n < 2) {I V : Int32} {i v : Int} (hi : zx I i) (hv : zx V v) (hl : 0 ≤ i ∧ i < (200 : Nat)) : ∃ h1, xo_ap .int h (zy_192 n) I V = some h1 ∧ zH A h1 (zp 192 n i v s) := by
  refine ⟨_, zap_eq (zw_192 H hn) hi hl (Or.inl rfl), ?_⟩
  match n, hn with
  | 0, _ => exact H.put 13 192 0 _ _ _ _ (by have := H.1; omega) rfl (by decide +kernel) hv.2 (zap_I0 hi hv hl.1)
  | 1, _ => exact H.put 25 192 1 _ _ _ _ (by have := H.1; omega) rfl (by decide +kernel) hv.2 (zap_I0 hi hv hl.1)
theorem zwp_193 (H : zH A h s) (hn : n < 2) {I V : Int32} {i v : Int} (hi : zx I i) (hv : zx V v) (hl : 0 ≤ i ∧ i < (200 : Nat)) : ∃ h1, xo_ap .int h (zy_193 n) I V = some h1 ∧ zH A h1 (zp 193 n i v s) := by
  refine ⟨_, zap_eq (zw_193 H hn) hi hl (Or.inl rfl), ?_⟩
  match n, hn with
  | 0, _ => exact H.put 14 193 0 _ _ _ _ (by have := H.1; omega) rfl (by decide +kernel) hv.2 (zap_I0 hi hv hl.1)
  | 1, _ => exact H.put 26 193 1 _ _ _ _ (by have := H.1; omega) rfl (by decide +kernel) hv.2 (zap_I0 hi hv hl.1)
theorem zwp_194 (H : zH A h s) (hn : n < 2) {I V : Int32} {i v : Int} (hi : zx I i) (hv : zx V v) (hl : 0 ≤ i ∧ i < (200 : Nat)) : ∃ h1, xo_ap .int h (zy_194 n) I V = some h1 ∧ zH A h1 (zp 194 n i v s) := by
  refine ⟨_, zap_eq (zw_194 H hn) hi hl (Or.inl rfl), ?_⟩
  match n, hn with
  | 0, _ => exact H.put 15 194 0 _ _ _ _ (by have := H.1; omega) rfl (by decide +kernel) hv.2 (zap_I0 hi hv hl.1)
  | 1, _ => exact H.put 27 194 1 _ _ _ _ (by have := H.1; omega) rfl (by decide +kernel) hv.2 (zap_I0 hi hv hl.1)
theorem zwp_195 (H : zH A h s) (hn : n < 2) {I V : Int32} {i v : Int} (hi : zx I i) (hv : zx V v) (hl : 0 ≤ i ∧ i < (200 : Nat)) : ∃ h1, xo_ap .int h (zy_195 n) I V = some h1 ∧ zH A h1 (zp 195 n i v s) := by
  refine ⟨_, zap_eq (zw_195 H hn) hi hl (Or.inl rfl), ?_⟩
  match n, hn with
  | 0, _ => exact H.put 16 195 0 _ _ _ _ (by have := H.1; omega) rfl (by decide +kernel) hv.2 (zap_I0 hi hv hl.1)
  | 1, _ => exact H.put 28 195 1 _ _ _ _ (by have := H.1; omega) rfl (by decide +kernel) hv.2 (zap_I0 hi hv hl.1)
theorem zwp_196 (H : zH A h s) (hn : n < 2) {I V : Int32} {i v : Int} (hi : zx I i) (hv : zx V v) (hl : 0 ≤ i ∧ i < (200 : Nat)) : ∃ h1, xo_ap .int h (zy_196 n) I V = some h1 ∧ zH A h1 (zp 196 n i v s) := by
  refine ⟨_, zap_eq (zw_196 H hn) hi hl (Or.inl rfl), ?_⟩
  match n, hn with
  | 0, _ => exact H.put 17 196 0 _ _ _ _ (by have := H.1; omega) rfl (by decide +kernel) hv.2 (zap_I0 hi hv hl.1)
  | 1, _ => exact H.put 29 196 1 _ _ _ _ (by have := H.1; omega) rfl (by decide +kernel) hv.2 (zap_I0 hi hv hl.1)
theorem zwp_197 (H : zH A h s) (hn : n < 2) {I V : Int32} {i v : Int} (hi : zx I i) (hv : zx V v) (hl : 0 ≤ i ∧ i < (200 : Nat)) : ∃ h1, xo_ap .int h (zy_197 n) I V = some h1 ∧ zH A h1 (zp 197 n i v s) := by
  refine ⟨_, zap_eq (zw_197 H hn) hi hl (Or.inl rfl), ?_⟩
  match n, hn with
  | 0, _ => exact H.put 18 197 0 _ _ _ _ (by have := H.1; omega) rfl (by decide +kernel) hv.2 (zap_I0 hi hv hl.1)
  | 1, _ => exact H.put 30 197 1 _ _ _ _ (by have := H.1; omega) rfl (by decide +kernel) hv.2 (zap_I0 hi hv hl.1)
theorem zwp_198 (H : zH A h s) (hn : n < 2) {I V : Int32} {i v : Int} (hi : zx I i) (hv : zx V v) (hl : 0 ≤ i ∧ i < (200 : Nat)) : ∃ h1, xo_ap .int h (zy_198 n) I V = some h1 ∧ zH A h1 (zp 198 n i v s) := by
  refine ⟨_, zap_eq (zw_198 H hn) hi hl (Or.inl rfl), ?_⟩
  match n, hn with
  | 0, _ => exact H.put 19 198 0 _ _ _ _ (by have := H.1; omega) rfl (by decide +kernel) hv.2 (zap_I0 hi hv hl.1)
  | 1, _ => exact H.put 31 198 1 _ _ _ _ (by have := H.1; omega) rfl (by decide +kernel) hv.2 (zap_I0 hi hv hl.1)
theorem zwp_328 (H : zH A h s) (hn : n < 2) {I V : Int32} {i v : Int} (hi : zx I i) (hv : zx V v) (hl : 0 ≤ i ∧ i < (48 : Nat)) : ∃ h1, xo_ap .int h (zy_328 n) I V = some h1 ∧ zH A h1 (zp 328 n i v s) := by
  refine ⟨_, zap_eq (zw_328 H hn) hi hl (Or.inl rfl), ?_⟩
  match n, hn with
  | 0, _ => exact H.put 20 328 0 _ _ _ _ (by have := H.1; omega) rfl (by decide +kernel) hv.2 (zap_I0 hi hv hl.1)
  | 1, _ => exact H.put 32 328 1 _ _ _ _ (by have := H.1; omega) rfl (by decide +kernel) hv.2 (zap_I0 hi hv hl.1)
theorem zwp_329 (H : zH A h s) (hn : n < 2) {I V : Int32} {i v : Int} (hi : zx I i) (hv : zx V v) (hl : 0 ≤ i ∧ i < (48 : Nat)) : ∃ h1, xo_ap .int h (zy_329 n) I V = some h1 ∧ zH A h1 (zp 329 n i v s) := by
  refine ⟨_, zap_eq (zw_329 H hn) hi hl (Or.inl rfl), ?_⟩
  match n, hn with
  | 0, _ => exact H.put 21 329 0 _ _ _ _ (by have := H.1; omega) rfl (by decide +kernel) hv.2 (zap_I0 hi hv hl.1)
  | 1, _ => exact H.put 33 329 1 _ _ _ _ (by have := H.1; omega) rfl (by decide +kernel) hv.2 (zap_I0 hi hv hl.1)
theorem zwp_330 (H : zH A h s) (hn : n < 2) {I V : Int32} {i v : Int} (hi : zx I i) (hv : zx V v) (hl : 0 ≤ i ∧ i < (48 : Nat)) : ∃ h1, xo_ap .int h (zy_330 n) I V = some h1 ∧ zH A h1 (zp 330 n i v s) := by
  refine ⟨_, zap_eq (zw_330 H hn) hi hl (Or.inl rfl), ?_⟩
  match n, hn with
  | 0, _ => exact H.put 22 330 0 _ _ _ _ (by have := H.1; omega) rfl (by decide +kernel) hv.2 (zap_I0 hi hv hl.1)
  | 1, _ => exact H.put 34 330 1 _ _ _ _ (by have := H.1; omega) rfl (by decide +kernel) hv.2 (zap_I0 hi hv hl.1)
theorem zwp_384 (H : zH A h s) (hn : n < 1) {I V : Int32} {i v : Int} (hi : zx I i) (hv : zx V v) (hl : 0 ≤ i ∧ i < (4800 : Nat)) : ∃ h1, xo_ap .int h (zy_384 n) I V = some h1 ∧ zH A h1 (zp 384 n i v s) := by
  refine ⟨_, zap_eq (zw_384 H hn) hi hl (Or.inl rfl), ?_⟩
  match n, hn with
  | 0, _ => exact H.put 8 384 0 _ _ _ _ (by have := H.1; omega) rfl (by decide +kernel) hv.2 (zap_I0 hi hv hl.1)
theorem zwp_385 (H : zH A h s) (hn : n < 1) {I V : Int32} {i v : Int} (hi : zx I i) (hv : zx V v) (hl : 0 ≤ i ∧ i < (30 : Nat)) : ∃ h1, xo_ap .int h (zy_385 n) I V = some h1 ∧ zH A h1 (zp 385 n i v s) := by
  refine ⟨_, zap_eq (zw_385 H hn) hi hl (Or.inl rfl), ?_⟩
  match n, hn with
  | 0, _ => exact H.put 9 385 0 _ _ _ _ (by have := H.1; omega) rfl (by decide +kernel) hv.2 (zap_I0 hi hv hl.1)
theorem zwp_386 (H : zH A h s) (hn : n < 1) {I V : Int32} {i v : Int} (hi : zx I i) (hv : zx V v) (hl : 0 ≤ i ∧ i < (30 : Nat)) : ∃ h1, xo_ap .int h (zy_386 n) I V = some h1 ∧ zH A h1 (zp 386 n i v s) := by
  refine ⟨_, zap_eq (zw_386 H hn) hi hl (Or.inl rfl), ?_⟩
  match n, hn with
  | 0, _ => exact H.put 10 386 0 _ _ _ _ (by have := H.1; omega) rfl (by decide +kernel) hv.2 (zap_I0 hi hv hl.1)
theorem zwp_452 (H : zH A h s) (hn : n < A) {I V : Int32} {i v : Int} (hi : zx I i) (hv : zx V v) (hl : 0 ≤ i ∧ i < (6 : Nat)) : ∃ h1, xo_ap .int h (zy_452 n) I V = some h1 ∧ zH A h1 (zp 452 n i v s) := by
  refine ⟨_, zap_eq (zw_452 H hn) hi hl (Or.inl rfl), ?_⟩
  match n, hn with
  | 0, hn => exact H.put 85 452 0 _ _ _ _ (by omega) rfl (by decide +kernel) hv.2 (zap_I0 hi hv hl.1)
  | 1, hn => exact H.put 103 452 1 _ _ _ _ (by omega) rfl (by decide +kernel) hv.2 (zap_I0 hi hv hl.1)
  | 2, hn => exact H.put 121 452 2 _ _ _ _ (by omega) rfl (by decide +kernel) hv.2 (zap_I0 hi hv hl.1)
  | 3, hn => exact H.put 139 452 3 _ _ _ _ (by omega) rfl (by decide +kernel) hv.2 (zap_I0 hi hv hl.1)
  | k + 4, hn => exact absurd (Nat.lt_of_lt_of_le hn H.le4) (by omega)
theorem zwp_453 (H : zH A h s) (hn : n < A) {I V : Int32} {i v : Int} (hi : zx I i) (hv : zx V v) (hl : 0 ≤ i ∧ i < (6 : Nat)) : ∃ h1, xo_ap .int h (zy_453 n) I V = some h1 ∧ zH A h1 (zp 453 n i v s) := by
  refine ⟨_, zap_eq (zw_453 H hn) hi hl (Or.inl rfl), ?_⟩
  match n, hn with
  | 0, hn => exact H.put 86 453 0 _ _ _ _ (by omega) rfl (by decide +kernel) hv.2 (zap_I0 hi hv hl.1)
  | 1, hn => exact H.put 104 453 1 _ _ _ _ (by omega) rfl (by decide +kernel) hv.2 (zap_I0 hi hv hl.1)
  | 2, hn => exact H.put 122 453 2 _ _ _ _ (by omega) rfl (by decide +kernel) hv.2 (zap_I0 hi hv hl.1)
  | 3, hn => exact H.put 140 453 3 _ _ _ _ (by omega) rfl (by decide +kernel) hv.2 (zap_I0 hi hv hl.1)
  | k + 4, hn => exact absurd (Nat.lt_of_lt_of_le hn H.le4) (by omega)
theorem zwp_454 (H : zH A h s) (hn : n < A) {I V : Int32} {i v : Int} (hi : zx I i) (hv : zx V v) (hl : 0 ≤ i ∧ i < (100 : Nat)) : ∃ h1, xo_ap .int h (zy_454 n) I V = some h1 ∧ zH A h1 (zp 454 n i v s) := by
  refine ⟨_, zap_eq (zw_454 H hn) hi hl (Or.inl rfl), ?_⟩
  match n, hn with
  | 0, hn => exact H.put 87 454 0 _ _ _ _ (by omega) rfl (by decide +kernel) hv.2 (zap_I0 hi hv hl.1)
  | 1, hn => exact H.put 105 454 1 _ _ _ _ (by omega) rfl (by decide +kernel) hv.2 (zap_I0 hi hv hl.1)
  | 2, hn => exact H.put 123 454 2 _ _ _ _ (by omega) rfl (by decide +kernel) hv.2 (zap_I0 hi hv hl.1)
  | 3, hn => exact H.put 141 454 3 _ _ _ _ (by omega) rfl (by decide +kernel) hv.2 (zap_I0 hi hv hl.1)
  | k + 4, hn => exact absurd (Nat.lt_of_lt_of_le hn H.le4) (by omega)
theorem zwp_455 (H : zH A h s) (hn : n < A) {I V : Int32} {i v : Int} (hi : zx I i) (hv : zx V v) (hl : 0 ≤ i ∧ i < (100 : Nat)) : ∃ h1, xo_ap .int h (zy_455 n) I V = some h1 ∧ zH A h1 (zp 455 n i v s) := by
  refine ⟨_, zap_eq (zw_455 H hn) hi hl (Or.inl rfl), ?_⟩
  match n, hn with
  | 0, hn => exact H.put 88 455 0 _ _ _ _ (by omega) rfl (by decide +kernel) hv.2 (zap_I0 hi hv hl.1)
  | 1, hn => exact H.put 106 455 1 _ _ _ _ (by omega) rfl (by decide +kernel) hv.2 (zap_I0 hi hv hl.1)
  | 2, hn => exact H.put 124 455 2 _ _ _ _ (by omega) rfl (by decide +kernel) hv.2 (zap_I0 hi hv hl.1)
  | 3, hn => exact H.put 142 455 3 _ _ _ _ (by omega) rfl (by decide +kernel) hv.2 (zap_I0 hi hv hl.1)
  | k + 4, hn => exact absurd (Nat.lt_of_lt_of_le hn H.le4) (by omega)
theorem zwp_456 (H : zH A h s) (hn : n < A) {I V : Int32} {i v : Int} (hi : zx I i) (hv : zx V v) (hl : 0 ≤ i ∧ i < (100 : Nat)) : ∃ h1, xo_ap .int h (zy_456 n) I V = some h1 ∧ zH A h1 (zp 456 n i v s) := by
  refine ⟨_, zap_eq (zw_456 H hn) hi hl (Or.inl rfl), ?_⟩
  match n, hn with
  | 0, hn => exact H.put 89 456 0 _ _ _ _ (by omega) rfl (by decide +kernel) hv.2 (zap_I0 hi hv hl.1)
  | 1, hn => exact H.put 107 456 1 _ _ _ _ (by omega) rfl (by decide +kernel) hv.2 (zap_I0 hi hv hl.1)
  | 2, hn => exact H.put 125 456 2 _ _ _ _ (by omega) rfl (by decide +kernel) hv.2 (zap_I0 hi hv hl.1)
  | 3, hn => exact H.put 143 456 3 _ _ _ _ (by omega) rfl (by decide +kernel) hv.2 (zap_I0 hi hv hl.1)
  | k + 4, hn => exact absurd (Nat.lt_of_lt_of_le hn H.le4) (by omega)
theorem zwp_457 (H : zH A h s) (hn : n < A) {I V : Int32} {i v : Int} (hi : zx I i) (hv : zx V v) (hl : 0 ≤ i ∧ i < (48 : Nat)) : ∃ h1, xo_ap .int h (zy_457 n) I V = some h1 ∧ zH A h1 (zp 457 n i v s) := by
  refine ⟨_, zap_eq (zw_457 H hn) hi hl (Or.inl rfl), ?_⟩
  match n, hn with
  | 0, hn => exact H.put 90 457 0 _ _ _ _ (by omega) rfl (by decide +kernel) hv.2 (zap_I0 hi hv hl.1)
  | 1, hn => exact H.put 108 457 1 _ _ _ _ (by omega) rfl (by decide +kernel) hv.2 (zap_I0 hi hv hl.1)
  | 2, hn => exact H.put 126 457 2 _ _ _ _ (by omega) rfl (by decide +kernel) hv.2 (zap_I0 hi hv hl.1)
  | 3, hn => exact H.put 144 457 3 _ _ _ _ (by omega) rfl (by decide +kernel) hv.2 (zap_I0 hi hv hl.1)
  | k + 4, hn => exact absurd (Nat.lt_of_lt_of_le hn H.le4) (by omega)
theorem zwp_458 (H : zH A h s) (hn : n < A) {I V : Int32} {i v : Int} (hi : zx I i) (hv : zx V v) (hl : 0 ≤ i ∧ i < (48 : Nat)) : ∃ h1, xo_ap .int h (zy_458 n) I V = some h1 ∧ zH A h1 (zp 458 n i v s) := by
  refine ⟨_, zap_eq (zw_458 H hn) hi hl (Or.inl rfl), ?_⟩
  match n, hn with
  | 0, hn => exact H.put 91 458 0 _ _ _ _ (by omega) rfl (by decide +kernel) hv.2 (zap_I0 hi hv hl.1)
  | 1, hn => exact H.put 109 458 1 _ _ _ _ (by omega) rfl (by decide +kernel) hv.2 (zap_I0 hi hv hl.1)
  | 2, hn => exact H.put 127 458 2 _ _ _ _ (by omega) rfl (by decide +kernel) hv.2 (zap_I0 hi hv hl.1)
  | 3, hn => exact H.put 145 458 3 _ _ _ _ (by omega) rfl (by decide +kernel) hv.2 (zap_I0 hi hv hl.1)
  | k + 4, hn => exact absurd (Nat.lt_of_lt_of_le hn H.le4) (by omega)
theorem zwp_459 (H : zH A h s) (hn : n < A) {I V : Int32} {i v : Int} (hi : zx I i) (hv : zx V v) (hl : 0 ≤ i ∧ i < (48 : Nat)) : ∃ h1, xo_ap .int h (zy_459 n) I V = some h1 ∧ zH A h1 (zp 459 n i v s) := by
  refine ⟨_, zap_eq (zw_459 H hn) hi hl (Or.inl rfl), ?_⟩
  match n, hn with
  | 0, hn => exact H.put 92 459 0 _ _ _ _ (by omega) rfl (by decide +kernel) hv.2 (zap_I0 hi hv hl.1)
  | 1, hn => exact H.put 110 459 1 _ _ _ _ (by omega) rfl (by decide +kernel) hv.2 (zap_I0 hi hv hl.1)
  | 2, hn => exact H.put 128 459 2 _ _ _ _ (by omega) rfl (by decide +kernel) hv.2 (zap_I0 hi hv hl.1)
  | 3, hn => exact H.put 146 459 3 _ _ _ _ (by omega) rfl (by decide +kernel) hv.2 (zap_I0 hi hv hl.1)
  | k + 4, hn => exact absurd (Nat.lt_of_lt_of_le hn H.le4) (by omega)
theorem zwp_460 (H : zH A h s) (hn : n < A) {I V : Int32} {i v : Int} (hi : zx I i) (hv : zx V v) (hl : 0 ≤ i ∧ i < (48 : Nat)) : ∃ h1, xo_ap .int h (zy_460 n) I V = some h1 ∧ zH A h1 (zp 460 n i v s) := by
  refine ⟨_, zap_eq (zw_460 H hn) hi hl (Or.inl rfl), ?_⟩
  match n, hn with
  | 0, hn => exact H.put 93 460 0 _ _ _ _ (by omega) rfl (by decide +kernel) hv.2 (zap_I0 hi hv hl.1)
  | 1, hn => exact H.put 111 460 1 _ _ _ _ (by omega) rfl (by decide +kernel) hv.2 (zap_I0 hi hv hl.1)
  | 2, hn => exact H.put 129 460 2 _ _ _ _ (by omega) rfl (by decide +kernel) hv.2 (zap_I0 hi hv hl.1)
  | 3, hn => exact H.put 147 460 3 _ _ _ _ (by omega) rfl (by decide +kernel) hv.2 (zap_I0 hi hv hl.1)
  | k + 4, hn => exact absurd (Nat.lt_of_lt_of_le hn H.le4) (by omega)
theorem zwp_461 (H : zH A h s) (hn : n < A) {I V : Int32} {i v : Int} (hi : zx I i) (hv : zx V v) (hl : 0 ≤ i ∧ i < (48 : Nat)) : ∃ h1, xo_ap .int h (zy_461 n) I V = some h1 ∧ zH A h1 (zp 461 n i v s) := by
  refine ⟨_, zap_eq (zw_461 H hn) hi hl (Or.inl rfl), ?_⟩
  match n, hn with
  | 0, hn => exact H.put 94 461 0 _ _ _ _ (by omega) rfl (by decide +kernel) hv.2 (zap_I0 hi hv hl.1)
  | 1, hn => exact H.put 112 461 1 _ _ _ _ (by omega) rfl (by decide +kernel) hv.2 (zap_I0 hi hv hl.1)
  | 2, hn => exact H.put 130 461 2 _ _ _ _ (by omega) rfl (by decide +kernel) hv.2 (zap_I0 hi hv hl.1)
  | 3, hn => exact H.put 148 461 3 _ _ _ _ (by omega) rfl (by decide +kernel) hv.2 (zap_I0 hi hv hl.1)
  | k + 4, hn => exact absurd (Nat.lt_of_lt_of_le hn H.le4) (by omega)
theorem zwp_462 (H : zH A h s) (hn : n < A) {I V : Int32} {i v : Int} (hi : zx I i) (hv : zx V v) (hl : 0 ≤ i ∧ i < (48 : Nat)) : ∃ h1, xo_ap .int h (zy_462 n) I V = some h1 ∧ zH A h1 (zp 462 n i v s) := by
  refine ⟨_, zap_eq (zw_462 H hn) hi hl (Or.inl rfl), ?_⟩
  match n, hn with
  | 0, hn => exact H.put 95 462 0 _ _ _ _ (by omega) rfl (by decide +kernel) hv.2 (zap_I0 hi hv hl.1)
  | 1, hn => exact H.put 113 462 1 _ _ _ _ (by omega) rfl (by decide +kernel) hv.2 (zap_I0 hi hv hl.1)
  | 2, hn => exact H.put 131 462 2 _ _ _ _ (by omega) rfl (by decide +kernel) hv.2 (zap_I0 hi hv hl.1)
  | 3, hn => exact H.put 149 462 3 _ _ _ _ (by omega) rfl (by decide +kernel) hv.2 (zap_I0 hi hv hl.1)
  | k + 4, hn => exact absurd (Nat.lt_of_lt_of_le hn H.le4) (by omega)
theorem zwp_463 (H : zH A h s) (hn : n < A) {I V : Int32} {i v : Int} (hi : zx I i) (hv : zx V v) (hl : 0 ≤ i ∧ i < (48 : Nat)) : ∃ h1, xo_ap .int h (zy_463 n) I V = some h1 ∧ zH A h1 (zp 463 n i v s) := by
  refine ⟨_, zap_eq (zw_463 H hn) hi hl (Or.inl rfl), ?_⟩
  match n, hn with
  | 0, hn => exact H.put 96 463 0 _ _ _ _ (by omega) rfl (by decide +kernel) hv.2 (zap_I0 hi hv hl.1)
  | 1, hn => exact H.put 114 463 1 _ _ _ _ (by omega) rfl (by decide +kernel) hv.2 (zap_I0 hi hv hl.1)
  | 2, hn => exact H.put 132 463 2 _ _ _ _ (by omega) rfl (by decide +kernel) hv.2 (zap_I0 hi hv hl.1)
  | 3, hn => exact H.put 150 463 3 _ _ _ _ (by omega) rfl (by decide +kernel) hv.2 (zap_I0 hi hv hl.1)
  | k + 4, hn => exact absurd (Nat.lt_of_lt_of_le hn H.le4) (by omega)
theorem zwp_464 (H : zH A h s) (hn : n < A) {I V : Int32} {i v : Int} (hi : zx I i) (hv : zx V v) (hl : 0 ≤ i ∧ i < (48 : Nat)) : ∃ h1, xo_ap .int h (zy_464 n) I V = some h1 ∧ zH A h1 (zp 464 n i v s) := by
  refine ⟨_, zap_eq (zw_464 H hn) hi hl (Or.inl rfl), ?_⟩
  match n, hn with
  | 0, hn => exact H.put 97 464 0 _ _ _ _ (by omega) rfl (by decide +kernel) hv.2 (zap_I0 hi hv hl.1)
  | 1, hn => exact H.put 115 464 1 _ _ _ _ (by omega) rfl (by decide +kernel) hv.2 (zap_I0 hi hv hl.1)
  | 2, hn => exact H.put 133 464 2 _ _ _ _ (by omega) rfl (by decide +kernel) hv.2 (zap_I0 hi hv hl.1)
  | 3, hn => exact H.put 151 464 3 _ _ _ _ (by omega) rfl (by decide +kernel) hv.2 (zap_I0 hi hv hl.1)
  | k + 4, hn => exact absurd (Nat.lt_of_lt_of_le hn H.le4) (by omega)
theorem zwp_465 (H : zH A h s) (hn : n < A) {I V : Int32} {i v : Int} (hi : zx I i) (hv : zx V v) (hl : 0 ≤ i ∧ i < (48 : Nat)) : ∃ h1, xo_ap .int h (zy_465 n) I V = some h1 ∧ zH A h1 (zp 465 n i v s) := by
  refine ⟨_, zap_eq (zw_465 H hn) hi hl (Or.inl rfl), ?_⟩
  match n, hn with
  | 0, hn => exact H.put 98 465 0 _ _ _ _ (by omega) rfl (by decide +kernel) hv.2 (zap_I0 hi hv hl.1)
  | 1, hn => exact H.put 116 465 1 _ _ _ _ (by omega) rfl (by decide +kernel) hv.2 (zap_I0 hi hv hl.1)
  | 2, hn => exact H.put 134 465 2 _ _ _ _ (by omega) rfl (by decide +kernel) hv.2 (zap_I0 hi hv hl.1)
  | 3, hn => exact H.put 152 465 3 _ _ _ _ (by omega) rfl (by decide +kernel) hv.2 (zap_I0 hi hv hl.1)
  | k + 4, hn => exact absurd (Nat.lt_of_lt_of_le hn H.le4) (by omega)
theorem zwp_466 (H : zH A h s) (hn : n < A) {I V : Int32} {i v : Int} (hi : zx I i) (hv : zx V v) (hl : 0 ≤ i ∧ i < (48 : Nat)) : ∃ h1, xo_ap .int h (zy_466 n) I V = some h1 ∧ zH A h1 (zp 466 n i v s) := by
  refine ⟨_, zap_eq (zw_466 H hn) hi hl (Or.inl rfl), ?_⟩
  match n, hn with
  | 0, hn => exact H.put 99 466 0 _ _ _ _ (by omega) rfl (by decide +kernel) hv.2 (zap_I0 hi hv hl.1)
  | 1, hn => exact H.put 117 466 1 _ _ _ _ (by omega) rfl (by decide +kernel) hv.2 (zap_I0 hi hv hl.1)
  | 2, hn => exact H.put 135 466 2 _ _ _ _ (by omega) rfl (by decide +kernel) hv.2 (zap_I0 hi hv hl.1)
  | 3, hn => exact H.put 153 466 3 _ _ _ _ (by omega) rfl (by decide +kernel) hv.2 (zap_I0 hi hv hl.1)
  | k + 4, hn => exact absurd (Nat.lt_of_lt_of_le hn H.le4) (by omega)
theorem zwp_467 (H : zH A h s) (hn : n < A) {I V : Int32} {i v : Int} (hi : zx I i) (hv : zx V v) (hl : 0 ≤ i ∧ i < (48 : Nat)) : ∃ h1, xo_ap .int h (zy_467 n) I V = some h1 ∧ zH A h1 (zp 467 n i v s) := by
  refine ⟨_, zap_eq (zw_467 H hn) hi hl (Or.inl rfl), ?_⟩
  match n, hn with
  | 0, hn => exact H.put 100 467 0 _ _ _ _ (by omega) rfl (by decide +kernel) hv.2 (zap_I0 hi hv hl.1)
  | 1, hn => exact H.put 118 467 1 _ _ _ _ (by omega) rfl (by decide +kernel) hv.2 (zap_I0 hi hv hl.1)
  | 2, hn => exact H.put 136 467 2 _ _ _ _ (by omega) rfl (by decide +kernel) hv.2 (zap_I0 hi hv hl.1)
  | 3, hn => exact H.put 154 467 3 _ _ _ _ (by omega) rfl (by decide +kernel) hv.2 (zap_I0 hi hv hl.1)
  | k + 4, hn => exact absurd (Nat.lt_of_lt_of_le hn H.le4) (by omega)
theorem zwp_468 (H : zH A h s) (hn : n < A) {I V : Int32} {i v : Int} (hi : zx I i) (hv : zx V v) (hl : 0 ≤ i ∧ i < (48 : Nat)) : ∃ h1, xo_ap .int h (zy_468 n) I V = some h1 ∧ zH A h1 (zp 468 n i v s) := by
  refine ⟨_, zap_eq (zw_468 H hn) hi hl (Or.inl rfl), ?_⟩
  match n, hn with
  | 0, hn => exact H.put 101 468 0 _ _ _ _ (by omega) rfl (by decide +kernel) hv.2 (zap_I0 hi hv hl.1)
  | 1, hn => exact H.put 119 468 1 _ _ _ _ (by omega) rfl (by decide +kernel) hv.2 (zap_I0 hi hv hl.1)
  | 2, hn => exact H.put 137 468 2 _ _ _ _ (by omega) rfl (by decide +kernel) hv.2 (zap_I0 hi hv hl.1)
  | 3, hn => exact H.put 155 468 3 _ _ _ _ (by omega) rfl (by decide +kernel) hv.2 (zap_I0 hi hv hl.1)
  | k + 4, hn => exact absurd (Nat.lt_of_lt_of_le hn H.le4) (by omega)
theorem zwp_521 (H : zH A h s) (hn : n < 1) {I V : Int32} {i v : Int} (hi : zx I i) (hv : zx V v) (hb : v = 0 ∨ v = 1) (hl : 0 ≤ i ∧ i < (1536 : Nat)) : ∃ h1, xo_ap .boolean h (zy_521 n) I V = some h1 ∧ zH A h1 (zp 521 n i v s) := by
  refine ⟨_, zap_eq (zw_521 H hn) hi hl (Or.inr (by rw [hv.1]; rcases hb with rfl | rfl; exact Or.inl rfl; exact Or.inr rfl)), ?_⟩
  match n, hn with
  | 0, _ => exact H.put 40 521 0 _ _ _ _ (by have := H.1; omega) rfl (by decide +kernel) hv.2 (zap_I1 hi hv hl.1)
theorem zwp_578 (H : zH A h s) (hn : n < 1) {I V : Int32} {i v : Int} (hi : zx I i) (hv : zx V v) (hl : 0 ≤ i ∧ i < (200 : Nat)) : ∃ h1, xo_ap .int h (zy_578 n) I V = some h1 ∧ zH A h1 (zp 578 n i v s) := by
  refine ⟨_, zap_eq (zw_578 H hn) hi hl (Or.inl rfl), ?_⟩
  match n, hn with
  | 0, _ => exact H.put 42 578 0 _ _ _ _ (by have := H.1; omega) rfl (by decide +kernel) hv.2 (zap_I0 hi hv hl.1)
theorem zwp_580 (H : zH A h s) (hn : n < 1) {I V : Int32} {i v : Int} (hi : zx I i) (hv : zx V v) (hl : 0 ≤ i ∧ i < (4 : Nat)) : ∃ h1, xo_ap .int h (zy_580 n) I V = some h1 ∧ zH A h1 (zp 580 n i v s) := by
  refine ⟨_, zap_eq (zw_580 H hn) hi hl (Or.inl rfl), ?_⟩
  match n, hn with
  | 0, _ => exact H.put 43 580 0 _ _ _ _ (by have := H.1; omega) rfl (by decide +kernel) hv.2 (zap_I0 hi hv hl.1)
theorem zwp_581 (H : zH A h s) (hn : n < 1) {I V : Int32} {i v : Int} (hi : zx I i) (hv : zx V v) (hl : 0 ≤ i ∧ i < (800 : Nat)) : ∃ h1, xo_ap .int h (zy_581 n) I V = some h1 ∧ zH A h1 (zp 581 n i v s) := by
  refine ⟨_, zap_eq (zw_581 H hn) hi hl (Or.inl rfl), ?_⟩
  match n, hn with
  | 0, _ => exact H.put 44 581 0 _ _ _ _ (by have := H.1; omega) rfl (by decide +kernel) hv.2 (zap_I0 hi hv hl.1)
theorem zwp_582 (H : zH A h s) (hn : n < 1) {I V : Int32} {i v : Int} (hi : zx I i) (hv : zx V v) (hl : 0 ≤ i ∧ i < (4 : Nat)) : ∃ h1, xo_ap .int h (zy_582 n) I V = some h1 ∧ zH A h1 (zp 582 n i v s) := by
  refine ⟨_, zap_eq (zw_582 H hn) hi hl (Or.inl rfl), ?_⟩
  match n, hn with
  | 0, _ => exact H.put 45 582 0 _ _ _ _ (by have := H.1; omega) rfl (by decide +kernel) hv.2 (zap_I0 hi hv hl.1)
theorem zwp_583 (H : zH A h s) (hn : n < 1) {I V : Int32} {i v : Int} (hi : zx I i) (hv : zx V v) (hl : 0 ≤ i ∧ i < (104 : Nat)) : ∃ h1, xo_ap .int h (zy_583 n) I V = some h1 ∧ zH A h1 (zp 583 n i v s) := by
  refine ⟨_, zap_eq (zw_583 H hn) hi hl (Or.inl rfl), ?_⟩
  match n, hn with
  | 0, _ => exact H.put 46 583 0 _ _ _ _ (by have := H.1; omega) rfl (by decide +kernel) hv.2 (zap_I0 hi hv hl.1)
theorem zwp_584 (H : zH A h s) (hn : n < 1) {I V : Int32} {i v : Int} (hi : zx I i) (hv : zx V v) (hl : 0 ≤ i ∧ i < (24 : Nat)) : ∃ h1, xo_ap .int h (zy_584 n) I V = some h1 ∧ zH A h1 (zp 584 n i v s) := by
  refine ⟨_, zap_eq (zw_584 H hn) hi hl (Or.inl rfl), ?_⟩
  match n, hn with
  | 0, _ => exact H.put 47 584 0 _ _ _ _ (by have := H.1; omega) rfl (by decide +kernel) hv.2 (zap_I0 hi hv hl.1)
theorem zwp_585 (H : zH A h s) (hn : n < 1) {I V : Int32} {i v : Int} (hi : zx I i) (hv : zx V v) (hl : 0 ≤ i ∧ i < (24 : Nat)) : ∃ h1, xo_ap .int h (zy_585 n) I V = some h1 ∧ zH A h1 (zp 585 n i v s) := by
  refine ⟨_, zap_eq (zw_585 H hn) hi hl (Or.inl rfl), ?_⟩
  match n, hn with
  | 0, _ => exact H.put 48 585 0 _ _ _ _ (by have := H.1; omega) rfl (by decide +kernel) hv.2 (zap_I0 hi hv hl.1)
theorem zwp_586 (H : zH A h s) (hn : n < 1) {I V : Int32} {i v : Int} (hi : zx I i) (hv : zx V v) (hl : 0 ≤ i ∧ i < (192 : Nat)) : ∃ h1, xo_ap .int h (zy_586 n) I V = some h1 ∧ zH A h1 (zp 586 n i v s) := by
  refine ⟨_, zap_eq (zw_586 H hn) hi hl (Or.inl rfl), ?_⟩
  match n, hn with
  | 0, _ => exact H.put 49 586 0 _ _ _ _ (by have := H.1; omega) rfl (by decide +kernel) hv.2 (zap_I0 hi hv hl.1)
theorem zwp_587 (H : zH A h s) (hn : n < 1) {I V : Int32} {i v : Int} (hi : zx I i) (hv : zx V v) (hl : 0 ≤ i ∧ i < (192 : Nat)) : ∃ h1, xo_ap .int h (zy_587 n) I V = some h1 ∧ zH A h1 (zp 587 n i v s) := by
  refine ⟨_, zap_eq (zw_587 H hn) hi hl (Or.inl rfl), ?_⟩
  match n, hn with
  | 0, _ => exact H.put 50 587 0 _ _ _ _ (by have := H.1; omega) rfl (by decide +kernel) hv.2 (zap_I0 hi hv hl.1)
theorem zwp_588 (H : zH A h s) (hn : n < 1) {I V : Int32} {i v : Int} (hi : zx I i) (hv : zx V v) (hl : 0 ≤ i ∧ i < (192 : Nat)) : ∃ h1, xo_ap .int h (zy_588 n) I V = some h1 ∧ zH A h1 (zp 588 n i v s) := by
  refine ⟨_, zap_eq (zw_588 H hn) hi hl (Or.inl rfl), ?_⟩
  match n, hn with
  | 0, _ => exact H.put 51 588 0 _ _ _ _ (by have := H.1; omega) rfl (by decide +kernel) hv.2 (zap_I0 hi hv hl.1)
theorem zwp_589 (H : zH A h s) (hn : n < 1) {I V : Int32} {i v : Int} (hi : zx I i) (hv : zx V v) (hl : 0 ≤ i ∧ i < (192 : Nat)) : ∃ h1, xo_ap .int h (zy_589 n) I V = some h1 ∧ zH A h1 (zp 589 n i v s) := by
  refine ⟨_, zap_eq (zw_589 H hn) hi hl (Or.inl rfl), ?_⟩
  match n, hn with
  | 0, _ => exact H.put 52 589 0 _ _ _ _ (by have := H.1; omega) rfl (by decide +kernel) hv.2 (zap_I0 hi hv hl.1)
theorem zwp_590 (H : zH A h s) (hn : n < 1) {I V : Int32} {i v : Int} (hi : zx I i) (hv : zx V v) (hl : 0 ≤ i ∧ i < (192 : Nat)) : ∃ h1, xo_ap .int h (zy_590 n) I V = some h1 ∧ zH A h1 (zp 590 n i v s) := by
  refine ⟨_, zap_eq (zw_590 H hn) hi hl (Or.inl rfl), ?_⟩
  match n, hn with
  | 0, _ => exact H.put 53 590 0 _ _ _ _ (by have := H.1; omega) rfl (by decide +kernel) hv.2 (zap_I0 hi hv hl.1)
theorem zwp_591 (H : zH A h s) (hn : n < 1) {I V : Int32} {i v : Int} (hi : zx I i) (hv : zx V v) (hl : 0 ≤ i ∧ i < (192 : Nat)) : ∃ h1, xo_ap .int h (zy_591 n) I V = some h1 ∧ zH A h1 (zp 591 n i v s) := by
  refine ⟨_, zap_eq (zw_591 H hn) hi hl (Or.inl rfl), ?_⟩
  match n, hn with
  | 0, _ => exact H.put 54 591 0 _ _ _ _ (by have := H.1; omega) rfl (by decide +kernel) hv.2 (zap_I0 hi hv hl.1)
theorem zwp_592 (H : zH A h s) (hn : n < 1) {I V : Int32} {i v : Int} (hi : zx I i) (hv : zx V v) (hl : 0 ≤ i ∧ i < (192 : Nat)) : ∃ h1, xo_ap .int h (zy_592 n) I V = some h1 ∧ zH A h1 (zp 592 n i v s) := by
  refine ⟨_, zap_eq (zw_592 H hn) hi hl (Or.inl rfl), ?_⟩
  match n, hn with
  | 0, _ => exact H.put 55 592 0 _ _ _ _ (by have := H.1; omega) rfl (by decide +kernel) hv.2 (zap_I0 hi hv hl.1)
theorem zwp_593 (H : zH A h s) (hn : n < 1) {I V : Int32} {i v : Int} (hi : zx I i) (hv : zx V v) (hl : 0 ≤ i ∧ i < (192 : Nat)) : ∃ h1, xo_ap .int h (zy_593 n) I V = some h1 ∧ zH A h1 (zp 593 n i v s) := by
  refine ⟨_, zap_eq (zw_593 H hn) hi hl (Or.inl rfl), ?_⟩
  match n, hn with
  | 0, _ => exact H.put 56 593 0 _ _ _ _ (by have := H.1; omega) rfl (by decide +kernel) hv.2 (zap_I0 hi hv hl.1)
theorem zwp_595 (H : zH A h s) (hn : n < 1) {I V : Int32} {i v : Int} (hi : zx I i) (hv : zx V v) (hl : 0 ≤ i ∧ i < (400 : Nat)) : ∃ h1, xo_ap .int h (zy_595 n) I V = some h1 ∧ zH A h1 (zp 595 n i v s) := by
  refine ⟨_, zap_eq (zw_595 H hn) hi hl (Or.inl rfl), ?_⟩
  match n, hn with
  | 0, _ => exact H.put 57 595 0 _ _ _ _ (by have := H.1; omega) rfl (by decide +kernel) hv.2 (zap_I0 hi hv hl.1)
theorem zwp_597 (H : zH A h s) (hn : n < 1) {I V : Int32} {i v : Int} (hi : zx I i) (hv : zx V v) (hl : 0 ≤ i ∧ i < (400 : Nat)) : ∃ h1, xo_ap .int h (zy_597 n) I V = some h1 ∧ zH A h1 (zp 597 n i v s) := by
  refine ⟨_, zap_eq (zw_597 H hn) hi hl (Or.inl rfl), ?_⟩
  match n, hn with
  | 0, _ => exact H.put 58 597 0 _ _ _ _ (by have := H.1; omega) rfl (by decide +kernel) hv.2 (zap_I0 hi hv hl.1)
theorem zwp_600 (H : zH A h s) (hn : n < 1) {I V : Int32} {i v : Int} (hi : zx I i) (hv : zx V v) (hl : 0 ≤ i ∧ i < (30 : Nat)) : ∃ h1, xo_ap .int h (zy_600 n) I V = some h1 ∧ zH A h1 (zp 600 n i v s) := by
  refine ⟨_, zap_eq (zw_600 H hn) hi hl (Or.inl rfl), ?_⟩
  match n, hn with
  | 0, _ => exact H.put 59 600 0 _ _ _ _ (by have := H.1; omega) rfl (by decide +kernel) hv.2 (zap_I0 hi hv hl.1)
theorem zwp_601 (H : zH A h s) (hn : n < 1) {I V : Int32} {i v : Int} (hi : zx I i) (hv : zx V v) (hl : 0 ≤ i ∧ i < (30 : Nat)) : ∃ h1, xo_ap .int h (zy_601 n) I V = some h1 ∧ zH A h1 (zp 601 n i v s) := by
  refine ⟨_, zap_eq (zw_601 H hn) hi hl (Or.inl rfl), ?_⟩
  match n, hn with
  | 0, _ => exact H.put 60 601 0 _ _ _ _ (by have := H.1; omega) rfl (by decide +kernel) hv.2 (zap_I0 hi hv hl.1)
theorem zwp_602 (H : zH A h s) (hn : n < 1) {I V : Int32} {i v : Int} (hi : zx I i) (hv : zx V v) (hl : 0 ≤ i ∧ i < (4800 : Nat)) : ∃ h1, xo_ap .int h (zy_602 n) I V = some h1 ∧ zH A h1 (zp 602 n i v s) := by
  refine ⟨_, zap_eq (zw_602 H hn) hi hl (Or.inl rfl), ?_⟩
  match n, hn with
  | 0, _ => exact H.put 61 602 0 _ _ _ _ (by have := H.1; omega) rfl (by decide +kernel) hv.2 (zap_I0 hi hv hl.1)
theorem zwp_612 (H : zH A h s) (hn : n < 1) {I V : Int32} {i v : Int} (hi : zx I i) (hv : zx V v) (hl : 0 ≤ i ∧ i < (201 : Nat)) : ∃ h1, xo_ap .int h (zy_612 n) I V = some h1 ∧ zH A h1 (zp 612 n i v s) := by
  refine ⟨_, zap_eq (zw_612 H hn) hi hl (Or.inl rfl), ?_⟩
  match n, hn with
  | 0, _ => exact H.put 62 612 0 _ _ _ _ (by have := H.1; omega) rfl (by decide +kernel) hv.2 (zap_I0 hi hv hl.1)
theorem zwp_613 (H : zH A h s) (hn : n < 1) {I V : Int32} {i v : Int} (hi : zx I i) (hv : zx V v) (hl : 0 ≤ i ∧ i < (201 : Nat)) : ∃ h1, xo_ap .int h (zy_613 n) I V = some h1 ∧ zH A h1 (zp 613 n i v s) := by
  refine ⟨_, zap_eq (zw_613 H hn) hi hl (Or.inl rfl), ?_⟩
  match n, hn with
  | 0, _ => exact H.put 63 613 0 _ _ _ _ (by have := H.1; omega) rfl (by decide +kernel) hv.2 (zap_I0 hi hv hl.1)
theorem zwp_614 (H : zH A h s) (hn : n < 1) {I V : Int32} {i v : Int} (hi : zx I i) (hv : zx V v) (hl : 0 ≤ i ∧ i < (201 : Nat)) : ∃ h1, xo_ap .int h (zy_614 n) I V = some h1 ∧ zH A h1 (zp 614 n i v s) := by
  refine ⟨_, zap_eq (zw_614 H hn) hi hl (Or.inl rfl), ?_⟩
  match n, hn with
  | 0, _ => exact H.put 64 614 0 _ _ _ _ (by have := H.1; omega) rfl (by decide +kernel) hv.2 (zap_I0 hi hv hl.1)
theorem zwp_615 (H : zH A h s) (hn : n < 1) {I V : Int32} {i v : Int} (hi : zx I i) (hv : zx V v) (hl : 0 ≤ i ∧ i < (201 : Nat)) : ∃ h1, xo_ap .int h (zy_615 n) I V = some h1 ∧ zH A h1 (zp 615 n i v s) := by
  refine ⟨_, zap_eq (zw_615 H hn) hi hl (Or.inl rfl), ?_⟩
  match n, hn with
  | 0, _ => exact H.put 65 615 0 _ _ _ _ (by have := H.1; omega) rfl (by decide +kernel) hv.2 (zap_I0 hi hv hl.1)
theorem zwp_616 (H : zH A h s) (hn : n < 1) {I V : Int32} {i v : Int} (hi : zx I i) (hv : zx V v) (hl : 0 ≤ i ∧ i < (201 : Nat)) : ∃ h1, xo_ap .int h (zy_616 n) I V = some h1 ∧ zH A h1 (zp 616 n i v s) := by
  refine ⟨_, zap_eq (zw_616 H hn) hi hl (Or.inl rfl), ?_⟩
  match n, hn with
  | 0, _ => exact H.put 66 616 0 _ _ _ _ (by have := H.1; omega) rfl (by decide +kernel) hv.2 (zap_I0 hi hv hl.1)
theorem zwp_617 (H : zH A h s) (hn : n < 1) {I V : Int32} {i v : Int} (hi : zx I i) (hv : zx V v) (hl : 0 ≤ i ∧ i < (201 : Nat)) : ∃ h1, xo_ap .int h (zy_617 n) I V = some h1 ∧ zH A h1 (zp 617 n i v s) := by
  refine ⟨_, zap_eq (zw_617 H hn) hi hl (Or.inl rfl), ?_⟩
  match n, hn with
  | 0, _ => exact H.put 67 617 0 _ _ _ _ (by have := H.1; omega) rfl (by decide +kernel) hv.2 (zap_I0 hi hv hl.1)
theorem zwp_618 (H : zH A h s) (hn : n < 1) {I V : Int32} {i v : Int} (hi : zx I i) (hv : zx V v) (hl : 0 ≤ i ∧ i < (201 : Nat)) : ∃ h1, xo_ap .int h (zy_618 n) I V = some h1 ∧ zH A h1 (zp 618 n i v s) := by
  refine ⟨_, zap_eq (zw_618 H hn) hi hl (Or.inl rfl), ?_⟩
  match n, hn with
  | 0, _ => exact H.put 68 618 0 _ _ _ _ (by have := H.1; omega) rfl (by decide +kernel) hv.2 (zap_I0 hi hv hl.1)
theorem zwp_619 (H : zH A h s) (hn : n < 1) {I V : Int32} {i v : Int} (hi : zx I i) (hv : zx V v) (hl : 0 ≤ i ∧ i < (201 : Nat)) : ∃ h1, xo_ap .int h (zy_619 n) I V = some h1 ∧ zH A h1 (zp 619 n i v s) := by
  refine ⟨_, zap_eq (zw_619 H hn) hi hl (Or.inl rfl), ?_⟩
  match n, hn with
  | 0, _ => exact H.put 69 619 0 _ _ _ _ (by have := H.1; omega) rfl (by decide +kernel) hv.2 (zap_I0 hi hv hl.1)
theorem zwp_621 (H : zH A h s) (hn : n < 1) {I V : Int32} {i v : Int} (hi : zx I i) (hv : zx V v) (hl : 0 ≤ i ∧ i < (60 : Nat)) : ∃ h1, xo_ap .int h (zy_621 n) I V = some h1 ∧ zH A h1 (zp 621 n i v s) := by
  refine ⟨_, zap_eq (zw_621 H hn) hi hl (Or.inl rfl), ?_⟩
  match n, hn with
  | 0, _ => exact H.put 70 621 0 _ _ _ _ (by have := H.1; omega) rfl (by decide +kernel) hv.2 (zap_I0 hi hv hl.1)
theorem zwp_622 (H : zH A h s) (hn : n < 1) {I V : Int32} {i v : Int} (hi : zx I i) (hv : zx V v) (hl : 0 ≤ i ∧ i < (60 : Nat)) : ∃ h1, xo_ap .int h (zy_622 n) I V = some h1 ∧ zH A h1 (zp 622 n i v s) := by
  refine ⟨_, zap_eq (zw_622 H hn) hi hl (Or.inl rfl), ?_⟩
  match n, hn with
  | 0, _ => exact H.put 71 622 0 _ _ _ _ (by have := H.1; omega) rfl (by decide +kernel) hv.2 (zap_I0 hi hv hl.1)
theorem zwp_623 (H : zH A h s) (hn : n < 1) {I V : Int32} {i v : Int} (hi : zx I i) (hv : zx V v) (hl : 0 ≤ i ∧ i < (60 : Nat)) : ∃ h1, xo_ap .int h (zy_623 n) I V = some h1 ∧ zH A h1 (zp 623 n i v s) := by
  refine ⟨_, zap_eq (zw_623 H hn) hi hl (Or.inl rfl), ?_⟩
  match n, hn with
  | 0, _ => exact H.put 72 623 0 _ _ _ _ (by have := H.1; omega) rfl (by decide +kernel) hv.2 (zap_I0 hi hv hl.1)
theorem zwp_624 (H : zH A h s) (hn : n < 1) {I V : Int32} {i v : Int} (hi : zx I i) (hv : zx V v) (hl : 0 ≤ i ∧ i < (60 : Nat)) : ∃ h1, xo_ap .int h (zy_624 n) I V = some h1 ∧ zH A h1 (zp 624 n i v s) := by
  refine ⟨_, zap_eq (zw_624 H hn) hi hl (Or.inl rfl), ?_⟩
  match n, hn with
  | 0, _ => exact H.put 73 624 0 _ _ _ _ (by have := H.1; omega) rfl (by decide +kernel) hv.2 (zap_I0 hi hv hl.1)
theorem zwp_625 (H : zH A h s) (hn : n < 1) {I V : Int32} {i v : Int} (hi : zx I i) (hv : zx V v) (hl : 0 ≤ i ∧ i < (60 : Nat)) : ∃ h1, xo_ap .int h (zy_625 n) I V = some h1 ∧ zH A h1 (zp 625 n i v s) := by
  refine ⟨_, zap_eq (zw_625 H hn) hi hl (Or.inl rfl), ?_⟩
  match n, hn with
  | 0, _ => exact H.put 74 625 0 _ _ _ _ (by have := H.1; omega) rfl (by decide +kernel) hv.2 (zap_I0 hi hv hl.1)
theorem zwp_626 (H : zH A h s) (hn : n < 1) {I V : Int32} {i v : Int} (hi : zx I i) (hv : zx V v) (hl : 0 ≤ i ∧ i < (60 : Nat)) : ∃ h1, xo_ap .int h (zy_626 n) I V = some h1 ∧ zH A h1 (zp 626 n i v s) := by
  refine ⟨_, zap_eq (zw_626 H hn) hi hl (Or.inl rfl), ?_⟩
  match n, hn with
  | 0, _ => exact H.put 75 626 0 _ _ _ _ (by have := H.1; omega) rfl (by decide +kernel) hv.2 (zap_I0 hi hv hl.1)
theorem zwp_627 (H : zH A h s) (hn : n < 1) {I V : Int32} {i v : Int} (hi : zx I i) (hv : zx V v) (hl : 0 ≤ i ∧ i < (60 : Nat)) : ∃ h1, xo_ap .int h (zy_627 n) I V = some h1 ∧ zH A h1 (zp 627 n i v s) := by
  refine ⟨_, zap_eq (zw_627 H hn) hi hl (Or.inl rfl), ?_⟩
  match n, hn with
  | 0, _ => exact H.put 76 627 0 _ _ _ _ (by have := H.1; omega) rfl (by decide +kernel) hv.2 (zap_I0 hi hv hl.1)
theorem zwp_628 (H : zH A h s) (hn : n < 1) {I V : Int32} {i v : Int} (hi : zx I i) (hv : zx V v) (hl : 0 ≤ i ∧ i < (60 : Nat)) : ∃ h1, xo_ap .int h (zy_628 n) I V = some h1 ∧ zH A h1 (zp 628 n i v s) := by
  refine ⟨_, zap_eq (zw_628 H hn) hi hl (Or.inl rfl), ?_⟩
  match n, hn with
  | 0, _ => exact H.put 77 628 0 _ _ _ _ (by have := H.1; omega) rfl (by decide +kernel) hv.2 (zap_I0 hi hv hl.1)
theorem zwp_629 (H : zH A h s) (hn : n < 1) {I V : Int32} {i v : Int} (hi : zx I i) (hv : zx V v) (hl : 0 ≤ i ∧ i < (60 : Nat)) : ∃ h1, xo_ap .int h (zy_629 n) I V = some h1 ∧ zH A h1 (zp 629 n i v s) := by
  refine ⟨_, zap_eq (zw_629 H hn) hi hl (Or.inl rfl), ?_⟩
  match n, hn with
  | 0, _ => exact H.put 78 629 0 _ _ _ _ (by have := H.1; omega) rfl (by decide +kernel) hv.2 (zap_I0 hi hv hl.1)
theorem zwp_630 (H : zH A h s) (hn : n < 1) {I V : Int32} {i v : Int} (hi : zx I i) (hv : zx V v) (hl : 0 ≤ i ∧ i < (480 : Nat)) : ∃ h1, xo_ap .int h (zy_630 n) I V = some h1 ∧ zH A h1 (zp 630 n i v s) := by
  refine ⟨_, zap_eq (zw_630 H hn) hi hl (Or.inl rfl), ?_⟩
  match n, hn with
  | 0, _ => exact H.put 79 630 0 _ _ _ _ (by have := H.1; omega) rfl (by decide +kernel) hv.2 (zap_I0 hi hv hl.1)
theorem zwp_631 (H : zH A h s) (hn : n < 1) {I V : Int32} {i v : Int} (hi : zx I i) (hv : zx V v) (hl : 0 ≤ i ∧ i < (201 : Nat)) : ∃ h1, xo_ap .int h (zy_631 n) I V = some h1 ∧ zH A h1 (zp 631 n i v s) := by
  refine ⟨_, zap_eq (zw_631 H hn) hi hl (Or.inl rfl), ?_⟩
  match n, hn with
  | 0, _ => exact H.put 80 631 0 _ _ _ _ (by have := H.1; omega) rfl (by decide +kernel) hv.2 (zap_I0 hi hv hl.1)
theorem zwp_632 (H : zH A h s) (hn : n < 1) {I V : Int32} {i v : Int} (hi : zx I i) (hv : zx V v) (hb : v = 0 ∨ v = 1) (hl : 0 ≤ i ∧ i < (201 : Nat)) : ∃ h1, xo_ap .boolean h (zy_632 n) I V = some h1 ∧ zH A h1 (zp 632 n i v s) := by
  refine ⟨_, zap_eq (zw_632 H hn) hi hl (Or.inr (by rw [hv.1]; rcases hb with rfl | rfl; exact Or.inl rfl; exact Or.inr rfl)), ?_⟩
  match n, hn with
  | 0, _ => exact H.put 81 632 0 _ _ _ _ (by have := H.1; omega) rfl (by decide +kernel) hv.2 (zap_I1 hi hv hl.1)
theorem zwp_633 (H : zH A h s) (hn : n < 1) {I V : Int32} {i v : Int} (hi : zx I i) (hv : zx V v) (hl : 0 ≤ i ∧ i < (1600 : Nat)) : ∃ h1, xo_ap .int h (zy_633 n) I V = some h1 ∧ zH A h1 (zp 633 n i v s) := by
  refine ⟨_, zap_eq (zw_633 H hn) hi hl (Or.inl rfl), ?_⟩
  match n, hn with
  | 0, _ => exact H.put 82 633 0 _ _ _ _ (by have := H.1; omega) rfl (by decide +kernel) hv.2 (zap_I0 hi hv hl.1)
theorem zwp_1000 (H : zH A h s) (hn : n < 1) {I : Int32} {V : Int32} {i v : Int} (hi : zx I i) (hv : zx V v) (hl : 0 ≤ i ∧ i < (1 : Nat)) : ∃ h1, xo_lp h (zy_1000 n) I V.toInt64 = some h1 ∧ zH A h1 (zp 1000 n i v s) := by
  refine ⟨_, zlp_eq (zw_1000 H hn) hi hl, ?_⟩
  match n, hn with
  | 0, _ => exact H.put 83 1000 0 _ _ _ _ (by have := H.1; omega) rfl (by decide +kernel) hv.2 (zap_I2 hi hv hl.1)
end
