/-! the objects and arrays one by one -/
section
variable {A n : Nat} {h : xrH} {s : zS}
set_option maxRecDepth 4000 in
theorem zobj_0 (H : zH A h s) (hn : n < 3) : xr_M h (za_0 n) = .inr (0, [.ref (zy_0 n), .int (Int32.ofInt (s.1 1 n 0))]) := by
  match n, hn with
  | 0, _ => exact H.get0 1 _ (by decide) rfl
  | 1, _ => exact H.get0 3 _ (by decide) rfl
  | 2, _ => exact H.get0 36 _ (by decide) rfl
theorem zc_0 (H : zH A h s) (hn : n < 3) : xo_c h (za_0 n) 0 = true := by
  unfold xo_c
  rw [zobj_0 H hn]
  rfl
set_option maxRecDepth 4000 in
theorem zobj_1 (H : zH A h s) (hn : n < 1) : xr_M h (za_1 n) = .inr (1, [.ref (za_0 2), .ref (zy_65 n)]) := by
  match n, hn with
  | 0, _ => exact H.get0 35 _ (by decide) rfl
theorem zc_1 (H : zH A h s) (hn : n < 1) : xo_c h (za_1 n) 1 = true := by
  unfold xo_c
  rw [zobj_1 H hn]
  rfl
set_option maxRecDepth 4000 in
theorem zobj_2 (H : zH A h s) (hn : n < 1) : xr_M h (za_2 n) = .inr (2, [.int (Int32.ofInt (s.1 128 n 0)), .int (Int32.ofInt (s.1 129 n 0)), .int (Int32.ofInt (s.1 130 n 0))]) := by
  match n, hn with
  | 0, _ => exact H.get0 39 _ (by decide) rfl
theorem zc_2 (H : zH A h s) (hn : n < 1) : xo_c h (za_2 n) 2 = true := by
  unfold xo_c
  rw [zobj_2 H hn]
  rfl
set_option maxRecDepth 4000 in
theorem zobj_3 (H : zH A h s) (hn : n < 2) : xr_M h (za_3 n) = .inr (3, [.ref (zy_192 n), .ref (zy_193 n), .ref (zy_194 n), .ref (zy_195 n), .ref (zy_196 n), .ref (zy_197 n), .ref (zy_198 n), .int (Int32.ofInt (s.1 199 n 0))]) := by
  match n, hn with
  | 0, _ => exact H.get0 12 _ (by decide) rfl
  | 1, _ => exact H.get0 24 _ (by decide) rfl
theorem zc_3 (H : zH A h s) (hn : n < 2) : xo_c h (za_3 n) 3 = true := by
  unfold xo_c
  rw [zobj_3 H hn]
  rfl
set_option maxRecDepth 4000 in
theorem zobj_4 (H : zH A h s) (hn : n < 1) : xr_M h (za_4 n) = .inr (4, [xr_rf (zBc (s.1 256 n 0)), xr_rf (zT (s.1 257 n 0)), .int (Int32.ofInt (s.1 258 n 0)), .int (Int32.ofInt (s.1 259 n 0)), .int (Int32.ofInt (s.1 260 n 0)), .int (Int32.ofInt (s.1 261 n 0))]) := by
  match n, hn with
  | 0, _ => exact H.get0 5 _ (by decide) rfl
theorem zc_4 (H : zH A h s) (hn : n < 1) : xo_c h (za_4 n) 4 = true := by
  unfold xo_c
  rw [zobj_4 H hn]
  rfl
set_option maxRecDepth 4000 in
theorem zobj_5 (H : zH A h s) (hn : n < 2) : xr_M h (za_5 n) = .inr (5, [.ref (za_3 n), xr_rf (zT (s.1 321 n 0)), xr_rf (zBc (s.1 322 n 0)), .int (Int32.ofInt (s.1 323 n 0)), .int (Int32.ofInt (s.1 324 n 0)), .int (Int32.ofInt (s.1 325 n 0)), .int (Int32.ofInt (s.1 326 n 0)), .int (Int32.ofInt (s.1 327 n 0)), .ref (zy_328 n), .ref (zy_329 n), .ref (zy_330 n)]) := by
  match n, hn with
  | 0, _ => exact H.get0 11 _ (by decide) rfl
  | 1, _ => exact H.get0 23 _ (by decide) rfl
theorem zc_5 (H : zH A h s) (hn : n < 2) : xo_c h (za_5 n) 5 = true := by
  unfold xo_c
  rw [zobj_5 H hn]
  rfl
set_option maxRecDepth 4000 in
theorem zobj_6 (H : zH A h s) (hn : n < 1) : xr_M h (za_6 n) = .inr (6, [.ref (zy_384 n), .ref (zy_385 n), .ref (zy_386 n), .int (Int32.ofInt (s.1 387 n 0)), .int (Int32.ofInt (s.1 388 n 0))]) := by
  match n, hn with
  | 0, _ => exact H.get0 7 _ (by decide) rfl
theorem zc_6 (H : zH A h s) (hn : n < 1) : xo_c h (za_6 n) 6 = true := by
  unfold xo_c
  rw [zobj_6 H hn]
  rfl
set_option maxRecDepth 4000 in
theorem zobj_7 (H : zH A h s) (hn : n < A) : xr_M h (za_7 n) = .inr (7, [.int (Int32.ofInt (s.1 448 n 0)), .int (Int32.ofInt (s.1 449 n 0)), .int (Int32.ofInt (s.1 450 n 0)), .int (Int32.ofInt (s.1 451 n 0)), .ref (zy_452 n), .ref (zy_453 n), .ref (zy_454 n), .ref (zy_455 n), .ref (zy_456 n), .ref (zy_457 n), .ref (zy_458 n), .ref (zy_459 n), .ref (zy_460 n), .ref (zy_461 n), .ref (zy_462 n), .ref (zy_463 n), .ref (zy_464 n), .ref (zy_465 n), .ref (zy_466 n), .ref (zy_467 n), .ref (zy_468 n)]) := by
  match n, hn with
  | 0, hn => exact H.get 84 _ (by omega) rfl
  | 1, hn => exact H.get 102 _ (by omega) rfl
  | 2, hn => exact H.get 120 _ (by omega) rfl
  | 3, hn => exact H.get 138 _ (by omega) rfl
  | k + 4, hn => exact absurd (Nat.lt_of_lt_of_le hn H.le4) (by omega)
theorem zc_7 (H : zH A h s) (hn : n < A) : xo_c h (za_7 n) 7 = true := by
  unfold xo_c
  rw [zobj_7 H hn]
  rfl
set_option maxRecDepth 4000 in
theorem zobj_8 (H : zH A h s) (hn : n < 1) : xr_M h (za_8 n) = .inr (8, [.ref (za_0 0), .ref (za_0 1), .ref (za_4 0), .ref (zy_515 n), .ref (za_6 0), .ref (za_5 0), .ref (za_5 1), .ref (za_1 0), .ref (za_2 0), .ref (zy_521 n), .int (Int32.ofInt (s.1 522 n 0)), .int (Int32.ofInt (s.1 523 n 0))]) := by
  match n, hn with
  | 0, _ => exact H.get0 0 _ (by decide) rfl
theorem zc_8 (H : zH A h s) (hn : n < 1) : xo_c h (za_8 n) 8 = true := by
  unfold xo_c
  rw [zobj_8 H hn]
  rfl
set_option maxRecDepth 4000 in
theorem zobj_9 (H : zH A h s) (hn : n < 1) : xr_M h (za_9 n) = .inr (9, [.int (Int32.ofInt (s.1 576 n 0)), .int (Int32.ofInt (s.1 577 n 0)), .ref (zy_578 n), .int (Int32.ofInt (s.1 579 n 0)), .ref (zy_580 n), .ref (zy_581 n), .ref (zy_582 n), .ref (zy_583 n), .ref (zy_584 n), .ref (zy_585 n), .ref (zy_586 n), .ref (zy_587 n), .ref (zy_588 n), .ref (zy_589 n), .ref (zy_590 n), .ref (zy_591 n), .ref (zy_592 n), .ref (zy_593 n), .int (Int32.ofInt (s.1 594 n 0)), .ref (zy_595 n), .int (Int32.ofInt (s.1 596 n 0)), .ref (zy_597 n), .int (Int32.ofInt (s.1 598 n 0)), .int (Int32.ofInt (s.1 599 n 0)), .ref (zy_600 n), .ref (zy_601 n), .ref (zy_602 n), .int (Int32.ofInt (s.1 603 n 0)), .int (Int32.ofInt (s.1 604 n 0)), .int (Int32.ofInt (s.1 605 n 0)), .int (Int32.ofInt (s.1 606 n 0)), .int (Int32.ofInt (s.1 607 n 0)), .int (Int32.ofInt (s.1 608 n 0)), .int (Int32.ofInt (s.1 609 n 0)), .int (Int32.ofInt (s.1 610 n 0)), .int (Int32.ofInt (s.1 611 n 0)), .ref (zy_612 n), .ref (zy_613 n), .ref (zy_614 n), .ref (zy_615 n), .ref (zy_616 n), .ref (zy_617 n), .ref (zy_618 n), .ref (zy_619 n), .int (Int32.ofInt (s.1 620 n 0)), .ref (zy_621 n), .ref (zy_622 n), .ref (zy_623 n), .ref (zy_624 n), .ref (zy_625 n), .ref (zy_626 n), .ref (zy_627 n), .ref (zy_628 n), .ref (zy_629 n), .ref (zy_630 n), .ref (zy_631 n), .ref (zy_632 n), .ref (zy_633 n)]) := by
  match n, hn with
  | 0, _ => exact H.get0 41 _ (by decide) rfl
theorem zc_9 (H : zH A h s) (hn : n < 1) : xo_c h (za_9 n) 9 = true := by
  unfold xo_c
  rw [zobj_9 H hn]
  rfl
theorem zr_0 (H : zH A h s) (hn : n < 3) : xo_r h (za_0 n) 0 = some (zy_0 n) := by
  unfold xo_r
  rw [zobj_0 H hn]
  rfl
theorem zi_1 (H : zH A h s) (hn : n < 3) : xo_i h (za_0 n) 1 = some (Int32.ofInt (s.1 1 n 0)) := by
  unfold xo_i
  rw [zobj_0 H hn]
  rfl
theorem zr_64 (H : zH A h s) (hn : n < 1) : xo_r h (za_1 n) 64 = some (za_0 2) := by
  unfold xo_r
  rw [zobj_1 H hn]
  rfl
theorem zr_65 (H : zH A h s) (hn : n < 1) : xo_r h (za_1 n) 65 = some (zy_65 n) := by
  unfold xo_r
  rw [zobj_1 H hn]
  rfl
theorem zi_128 (H : zH A h s) (hn : n < 1) : xo_i h (za_2 n) 128 = some (Int32.ofInt (s.1 128 n 0)) := by
  unfold xo_i
  rw [zobj_2 H hn]
  rfl
theorem zi_129 (H : zH A h s) (hn : n < 1) : xo_i h (za_2 n) 129 = some (Int32.ofInt (s.1 129 n 0)) := by
  unfold xo_i
  rw [zobj_2 H hn]
  rfl
theorem zi_130 (H : zH A h s) (hn : n < 1) : xo_i h (za_2 n) 130 = some (Int32.ofInt (s.1 130 n 0)) := by
  unfold xo_i
  rw [zobj_2 H hn]
  rfl
theorem zr_192 (H : zH A h s) (hn : n < 2) : xo_r h (za_3 n) 192 = some (zy_192 n) := by
  unfold xo_r
  rw [zobj_3 H hn]
  rfl
theorem zr_193 (H : zH A h s) (hn : n < 2) : xo_r h (za_3 n) 193 = some (zy_193 n) := by
  unfold xo_r
  rw [zobj_3 H hn]
  rfl
theorem zr_194 (H : zH A h s) (hn : n < 2) : xo_r h (za_3 n) 194 = some (zy_194 n) := by
  unfold xo_r
  rw [zobj_3 H hn]
  rfl
theorem zr_195 (H : zH A h s) (hn : n < 2) : xo_r h (za_3 n) 195 = some (zy_195 n) := by
  unfold xo_r
  rw [zobj_3 H hn]
  rfl
theorem zr_196 (H : zH A h s) (hn : n < 2) : xo_r h (za_3 n) 196 = some (zy_196 n) := by
  unfold xo_r
  rw [zobj_3 H hn]
  rfl
theorem zr_197 (H : zH A h s) (hn : n < 2) : xo_r h (za_3 n) 197 = some (zy_197 n) := by
  unfold xo_r
  rw [zobj_3 H hn]
  rfl
theorem zr_198 (H : zH A h s) (hn : n < 2) : xo_r h (za_3 n) 198 = some (zy_198 n) := by
  unfold xo_r
  rw [zobj_3 H hn]
  rfl
theorem zi_199 (H : zH A h s) (hn : n < 2) : xo_i h (za_3 n) 199 = some (Int32.ofInt (s.1 199 n 0)) := by
  unfold xo_i
  rw [zobj_3 H hn]
  rfl
theorem zr_256 (H : zH A h s) (hn : n < 1) (h1 : 1 ≤ s.1 256 n 0 ∧ s.1 256 n 0 ≤ 3) : xo_r h (za_4 n) 256 = some (za_0 ((s.1 256 n 0).toNat - 1)) := by
  unfold xo_r
  have e : zBc (s.1 256 n 0) = some (za_0 ((s.1 256 n 0).toNat - 1)) := by
    unfold zBc
    rw [if_neg (by omega)]
  rw [zobj_4 H hn, e]
  rfl
theorem zo_257 (H : zH A h s) (hn : n < 1) : xo_o h (za_4 n) 257 = some (zT (s.1 257 n 0)) := by
  unfold xo_o
  rw [zobj_4 H hn]
  generalize zT (s.1 257 n 0) = z
  cases z <;> rfl
theorem zi_258 (H : zH A h s) (hn : n < 1) : xo_i h (za_4 n) 258 = some (Int32.ofInt (s.1 258 n 0)) := by
  unfold xo_i
  rw [zobj_4 H hn]
  rfl
theorem zi_259 (H : zH A h s) (hn : n < 1) : xo_i h (za_4 n) 259 = some (Int32.ofInt (s.1 259 n 0)) := by
  unfold xo_i
  rw [zobj_4 H hn]
  rfl
theorem zi_260 (H : zH A h s) (hn : n < 1) : xo_i h (za_4 n) 260 = some (Int32.ofInt (s.1 260 n 0)) := by
  unfold xo_i
  rw [zobj_4 H hn]
  rfl
theorem zi_261 (H : zH A h s) (hn : n < 1) : xo_i h (za_4 n) 261 = some (Int32.ofInt (s.1 261 n 0)) := by
  unfold xo_i
  rw [zobj_4 H hn]
  rfl
theorem zr_320 (H : zH A h s) (hn : n < 2) : xo_r h (za_5 n) 320 = some (za_3 n) := by
  unfold xo_r
  rw [zobj_5 H hn]
  rfl
theorem zo_321 (H : zH A h s) (hn : n < 2) : xo_o h (za_5 n) 321 = some (zT (s.1 321 n 0)) := by
  unfold xo_o
  rw [zobj_5 H hn]
  generalize zT (s.1 321 n 0) = z
  cases z <;> rfl
theorem zr_322 (H : zH A h s) (hn : n < 2) (h1 : 1 ≤ s.1 322 n 0 ∧ s.1 322 n 0 ≤ 3) : xo_r h (za_5 n) 322 = some (za_0 ((s.1 322 n 0).toNat - 1)) := by
  unfold xo_r
  have e : zBc (s.1 322 n 0) = some (za_0 ((s.1 322 n 0).toNat - 1)) := by
    unfold zBc
    rw [if_neg (by omega)]
  rw [zobj_5 H hn, e]
  rfl
theorem zi_323 (H : zH A h s) (hn : n < 2) : xo_i h (za_5 n) 323 = some (Int32.ofInt (s.1 323 n 0)) := by
  unfold xo_i
  rw [zobj_5 H hn]
  rfl
theorem zi_324 (H : zH A h s) (hn : n < 2) : xo_i h (za_5 n) 324 = some (Int32.ofInt (s.1 324 n 0)) := by
  unfold xo_i
  rw [zobj_5 H hn]
  rfl
theorem zi_325 (H : zH A h s) (hn : n < 2) : xo_i h (za_5 n) 325 = some (Int32.ofInt (s.1 325 n 0)) := by
  unfold xo_i
  rw [zobj_5 H hn]
  rfl
theorem zi_326 (H : zH A h s) (hn : n < 2) : xo_i h (za_5 n) 326 = some (Int32.ofInt (s.1 326 n 0)) := by
  unfold xo_i
  rw [zobj_5 H hn]
  rfl
theorem zi_327 (H : zH A h s) (hn : n < 2) : xo_i h (za_5 n) 327 = some (Int32.ofInt (s.1 327 n 0)) := by
  unfold xo_i
  rw [zobj_5 H hn]
  rfl
theorem zr_328 (H : zH A h s) (hn : n < 2) : xo_r h (za_5 n) 328 = some (zy_328 n) := by
  unfold xo_r
  rw [zobj_5 H hn]
  rfl
theorem zr_329 (H : zH A h s) (hn : n < 2) : xo_r h (za_5 n) 329 = some (zy_329 n) := by
  unfold xo_r
  rw [zobj_5 H hn]
  rfl
theorem zr_330 (H : zH A h s) (hn : n < 2) : xo_r h (za_5 n) 330 = some (zy_330 n) := by
  unfold xo_r
  rw [zobj_5 H hn]
  rfl
theorem zr_384 (H : zH A h s) (hn : n < 1) : xo_r h (za_6 n) 384 = some (zy_384 n) := by
  unfold xo_r
  rw [zobj_6 H hn]
  rfl
theorem zr_385 (H : zH A h s) (hn : n < 1) : xo_r h (za_6 n) 385 = some (zy_385 n) := by
  unfold xo_r
  rw [zobj_6 H hn]
  rfl
theorem zr_386 (H : zH A h s) (hn : n < 1) : xo_r h (za_6 n) 386 = some (zy_386 n) := by
  unfold xo_r
  rw [zobj_6 H hn]
  rfl
theorem zi_387 (H : zH A h s) (hn : n < 1) : xo_i h (za_6 n) 387 = some (Int32.ofInt (s.1 387 n 0)) := by
  unfold xo_i
  rw [zobj_6 H hn]
  rfl
theorem zi_388 (H : zH A h s) (hn : n < 1) : xo_i h (za_6 n) 388 = some (Int32.ofInt (s.1 388 n 0)) := by
  unfold xo_i
  rw [zobj_6 H hn]
  rfl
theorem zi_448 (H : zH A h s) (hn : n < A) : xo_i h (za_7 n) 448 = some (Int32.ofInt (s.1 448 n 0)) := by
  unfold xo_i
  rw [zobj_7 H hn]
  rfl
theorem zi_449 (H : zH A h s) (hn : n < A) : xo_i h (za_7 n) 449 = some (Int32.ofInt (s.1 449 n 0)) := by
  unfold xo_i
  rw [zobj_7 H hn]
  rfl
theorem zi_450 (H : zH A h s) (hn : n < A) : xo_i h (za_7 n) 450 = some (Int32.ofInt (s.1 450 n 0)) := by
  unfold xo_i
  rw [zobj_7 H hn]
  rfl
theorem zi_451 (H : zH A h s) (hn : n < A) : xo_i h (za_7 n) 451 = some (Int32.ofInt (s.1 451 n 0)) := by
  unfold xo_i
  rw [zobj_7 H hn]
  rfl
theorem zr_452 (H : zH A h s) (hn : n < A) : xo_r h (za_7 n) 452 = some (zy_452 n) := by
  unfold xo_r
  rw [zobj_7 H hn]
  rfl
theorem zr_453 (H : zH A h s) (hn : n < A) : xo_r h (za_7 n) 453 = some (zy_453 n) := by
  unfold xo_r
  rw [zobj_7 H hn]
  rfl
theorem zr_454 (H : zH A h s) (hn : n < A) : xo_r h (za_7 n) 454 = some (zy_454 n) := by
  unfold xo_r
  rw [zobj_7 H hn]
  rfl
theorem zr_455 (H : zH A h s) (hn : n < A) : xo_r h (za_7 n) 455 = some (zy_455 n) := by
  unfold xo_r
  rw [zobj_7 H hn]
  rfl
theorem zr_456 (H : zH A h s) (hn : n < A) : xo_r h (za_7 n) 456 = some (zy_456 n) := by
  unfold xo_r
  rw [zobj_7 H hn]
  rfl
theorem zr_457 (H : zH A h s) (hn : n < A) : xo_r h (za_7 n) 457 = some (zy_457 n) := by
  unfold xo_r
  rw [zobj_7 H hn]
  rfl
theorem zr_458 (H : zH A h s) (hn : n < A) : xo_r h (za_7 n) 458 = some (zy_458 n) := by
  unfold xo_r
  rw [zobj_7 H hn]
  rfl
theorem zr_459 (H : zH A h s) (hn : n < A) : xo_r h (za_7 n) 459 = some (zy_459 n) := by
  unfold xo_r
  rw [zobj_7 H hn]
  rfl
theorem zr_460 (H : zH A h s) (hn : n < A) : xo_r h (za_7 n) 460 = some (zy_460 n) := by
  unfold xo_r
  rw [zobj_7 H hn]
  rfl
theorem zr_461 (H : zH A h s) (hn : n < A) : xo_r h (za_7 n) 461 = some (zy_461 n) := by
  unfold xo_r
  rw [zobj_7 H hn]
  rfl
theorem zr_462 (H : zH A h s) (hn : n < A) : xo_r h (za_7 n) 462 = some (zy_462 n) := by
  unfold xo_r
  rw [zobj_7 H hn]
  rfl
theorem zr_463 (H : zH A h s) (hn : n < A) : xo_r h (za_7 n) 463 = some (zy_463 n) := by
  unfold xo_r
  rw [zobj_7 H hn]
  rfl
theorem zr_464 (H : zH A h s) (hn : n < A) : xo_r h (za_7 n) 464 = some (zy_464 n) := by
  unfold xo_r
  rw [zobj_7 H hn]
  rfl
theorem zr_465 (H : zH A h s) (hn : n < A) : xo_r h (za_7 n) 465 = some (zy_465 n) := by
  unfold xo_r
  rw [zobj_7 H hn]
  rfl
theorem zr_466 (H : zH A h s) (hn : n < A) : xo_r h (za_7 n) 466 = some (zy_466 n) := by
  unfold xo_r
  rw [zobj_7 H hn]
  rfl
theorem zr_467 (H : zH A h s) (hn : n < A) : xo_r h (za_7 n) 467 = some (zy_467 n) := by
  unfold xo_r
  rw [zobj_7 H hn]
  rfl
theorem zr_468 (H : zH A h s) (hn : n < A) : xo_r h (za_7 n) 468 = some (zy_468 n) := by
  unfold xo_r
  rw [zobj_7 H hn]
  rfl
theorem zr_512 (H : zH A h s) (hn : n < 1) : xo_r h (za_8 n) 512 = some (za_0 0) := by
  unfold xo_r
  rw [zobj_8 H hn]
  rfl
theorem zr_513 (H : zH A h s) (hn : n < 1) : xo_r h (za_8 n) 513 = some (za_0 1) := by
  unfold xo_r
  rw [zobj_8 H hn]
  rfl
theorem zr_514 (H : zH A h s) (hn : n < 1) : xo_r h (za_8 n) 514 = some (za_4 0) := by
  unfold xo_r
  rw [zobj_8 H hn]
  rfl
theorem zr_515 (H : zH A h s) (hn : n < 1) : xo_r h (za_8 n) 515 = some (zy_515 n) := by
  unfold xo_r
  rw [zobj_8 H hn]
  rfl
theorem zr_516 (H : zH A h s) (hn : n < 1) : xo_r h (za_8 n) 516 = some (za_6 0) := by
  unfold xo_r
  rw [zobj_8 H hn]
  rfl
theorem zr_517 (H : zH A h s) (hn : n < 1) : xo_r h (za_8 n) 517 = some (za_5 0) := by
  unfold xo_r
  rw [zobj_8 H hn]
  rfl
theorem zr_518 (H : zH A h s) (hn : n < 1) : xo_r h (za_8 n) 518 = some (za_5 1) := by
  unfold xo_r
  rw [zobj_8 H hn]
  rfl
theorem zr_519 (H : zH A h s) (hn : n < 1) : xo_r h (za_8 n) 519 = some (za_1 0) := by
  unfold xo_r
  rw [zobj_8 H hn]
  rfl
theorem zr_520 (H : zH A h s) (hn : n < 1) : xo_r h (za_8 n) 520 = some (za_2 0) := by
  unfold xo_r
  rw [zobj_8 H hn]
  rfl
theorem zr_521 (H : zH A h s) (hn : n < 1) : xo_r h (za_8 n) 521 = some (zy_521 n) := by
  unfold xo_r
  rw [zobj_8 H hn]
  rfl
theorem zi_522 (H : zH A h s) (hn : n < 1) : xo_i h (za_8 n) 522 = some (Int32.ofInt (s.1 522 n 0)) := by
  unfold xo_i
  rw [zobj_8 H hn]
  rfl
theorem zi_523 (H : zH A h s) (hn : n < 1) : xo_i h (za_8 n) 523 = some (Int32.ofInt (s.1 523 n 0)) := by
  unfold xo_i
  rw [zobj_8 H hn]
  rfl
theorem zi_576 (H : zH A h s) (hn : n < 1) : xo_i h (za_9 n) 576 = some (Int32.ofInt (s.1 576 n 0)) := by
  unfold xo_i
  rw [zobj_9 H hn]
  rfl
theorem zi_577 (H : zH A h s) (hn : n < 1) : xo_i h (za_9 n) 577 = some (Int32.ofInt (s.1 577 n 0)) := by
  unfold xo_i
  rw [zobj_9 H hn]
  rfl
theorem zr_578 (H : zH A h s) (hn : n < 1) : xo_r h (za_9 n) 578 = some (zy_578 n) := by
  unfold xo_r
  rw [zobj_9 H hn]
  rfl
theorem zi_579 (H : zH A h s) (hn : n < 1) : xo_i h (za_9 n) 579 = some (Int32.ofInt (s.1 579 n 0)) := by
  unfold xo_i
  rw [zobj_9 H hn]
  rfl
theorem zr_580 (H : zH A h s) (hn : n < 1) : xo_r h (za_9 n) 580 = some (zy_580 n) := by
  unfold xo_r
  rw [zobj_9 H hn]
  rfl
theorem zr_581 (H : zH A h s) (hn : n < 1) : xo_r h (za_9 n) 581 = some (zy_581 n) := by
  unfold xo_r
  rw [zobj_9 H hn]
  rfl
theorem zr_582 (H : zH A h s) (hn : n < 1) : xo_r h (za_9 n) 582 = some (zy_582 n) := by
  unfold xo_r
  rw [zobj_9 H hn]
  rfl
theorem zr_583 (H : zH A h s) (hn : n < 1) : xo_r h (za_9 n) 583 = some (zy_583 n) := by
  unfold xo_r
  rw [zobj_9 H hn]
  rfl
theorem zr_584 (H : zH A h s) (hn : n < 1) : xo_r h (za_9 n) 584 = some (zy_584 n) := by
  unfold xo_r
  rw [zobj_9 H hn]
  rfl
theorem zr_585 (H : zH A h s) (hn : n < 1) : xo_r h (za_9 n) 585 = some (zy_585 n) := by
  unfold xo_r
  rw [zobj_9 H hn]
  rfl
theorem zr_586 (H : zH A h s) (hn : n < 1) : xo_r h (za_9 n) 586 = some (zy_586 n) := by
  unfold xo_r
  rw [zobj_9 H hn]
  rfl
theorem zr_587 (H : zH A h s) (hn : n < 1) : xo_r h (za_9 n) 587 = some (zy_587 n) := by
  unfold xo_r
  rw [zobj_9 H hn]
  rfl
theorem zr_588 (H : zH A h s) (hn : n < 1) : xo_r h (za_9 n) 588 = some (zy_588 n) := by
  unfold xo_r
  rw [zobj_9 H hn]
  rfl
theorem zr_589 (H : zH A h s) (hn : n < 1) : xo_r h (za_9 n) 589 = some (zy_589 n) := by
  unfold xo_r
  rw [zobj_9 H hn]
  rfl
theorem zr_590 (H : zH A h s) (hn : n < 1) : xo_r h (za_9 n) 590 = some (zy_590 n) := by
  unfold xo_r
  rw [zobj_9 H hn]
  rfl
theorem zr_591 (H : zH A h s) (hn : n < 1) : xo_r h (za_9 n) 591 = some (zy_591 n) := by
  unfold xo_r
  rw [zobj_9 H hn]
  rfl
theorem zr_592 (H : zH A h s) (hn : n < 1) : xo_r h (za_9 n) 592 = some (zy_592 n) := by
  unfold xo_r
  rw [zobj_9 H hn]
  rfl
theorem zr_593 (H : zH A h s) (hn : n < 1) : xo_r h (za_9 n) 593 = some (zy_593 n) := by
  unfold xo_r
  rw [zobj_9 H hn]
  rfl
theorem zi_594 (H : zH A h s) (hn : n < 1) : xo_i h (za_9 n) 594 = some (Int32.ofInt (s.1 594 n 0)) := by
  unfold xo_i
  rw [zobj_9 H hn]
  rfl
theorem zr_595 (H : zH A h s) (hn : n < 1) : xo_r h (za_9 n) 595 = some (zy_595 n) := by
  unfold xo_r
  rw [zobj_9 H hn]
  rfl
theorem zi_596 (H : zH A h s) (hn : n < 1) : xo_i h (za_9 n) 596 = some (Int32.ofInt (s.1 596 n 0)) := by
  unfold xo_i
  rw [zobj_9 H hn]
  rfl
theorem zr_597 (H : zH A h s) (hn : n < 1) : xo_r h (za_9 n) 597 = some (zy_597 n) := by
  unfold xo_r
  rw [zobj_9 H hn]
  rfl
theorem zi_598 (H : zH A h s) (hn : n < 1) : xo_i h (za_9 n) 598 = some (Int32.ofInt (s.1 598 n 0)) := by
  unfold xo_i
  rw [zobj_9 H hn]
  rfl
theorem zi_599 (H : zH A h s) (hn : n < 1) : xo_i h (za_9 n) 599 = some (Int32.ofInt (s.1 599 n 0)) := by
  unfold xo_i
  rw [zobj_9 H hn]
  rfl
theorem zr_600 (H : zH A h s) (hn : n < 1) : xo_r h (za_9 n) 600 = some (zy_600 n) := by
  unfold xo_r
  rw [zobj_9 H hn]
  rfl
theorem zr_601 (H : zH A h s) (hn : n < 1) : xo_r h (za_9 n) 601 = some (zy_601 n) := by
  unfold xo_r
  rw [zobj_9 H hn]
  rfl
theorem zr_602 (H : zH A h s) (hn : n < 1) : xo_r h (za_9 n) 602 = some (zy_602 n) := by
  unfold xo_r
  rw [zobj_9 H hn]
  rfl
theorem zi_603 (H : zH A h s) (hn : n < 1) : xo_i h (za_9 n) 603 = some (Int32.ofInt (s.1 603 n 0)) := by
  unfold xo_i
  rw [zobj_9 H hn]
  rfl
theorem zi_604 (H : zH A h s) (hn : n < 1) : xo_i h (za_9 n) 604 = some (Int32.ofInt (s.1 604 n 0)) := by
  unfold xo_i
  rw [zobj_9 H hn]
  rfl
theorem zi_605 (H : zH A h s) (hn : n < 1) : xo_i h (za_9 n) 605 = some (Int32.ofInt (s.1 605 n 0)) := by
  unfold xo_i
  rw [zobj_9 H hn]
  rfl
theorem zi_606 (H : zH A h s) (hn : n < 1) : xo_i h (za_9 n) 606 = some (Int32.ofInt (s.1 606 n 0)) := by
  unfold xo_i
  rw [zobj_9 H hn]
  rfl
theorem zi_607 (H : zH A h s) (hn : n < 1) : xo_i h (za_9 n) 607 = some (Int32.ofInt (s.1 607 n 0)) := by
  unfold xo_i
  rw [zobj_9 H hn]
  rfl
theorem zi_608 (H : zH A h s) (hn : n < 1) : xo_i h (za_9 n) 608 = some (Int32.ofInt (s.1 608 n 0)) := by
  unfold xo_i
  rw [zobj_9 H hn]
  rfl
theorem zi_609 (H : zH A h s) (hn : n < 1) : xo_i h (za_9 n) 609 = some (Int32.ofInt (s.1 609 n 0)) := by
  unfold xo_i
  rw [zobj_9 H hn]
  rfl
theorem zi_610 (H : zH A h s) (hn : n < 1) : xo_i h (za_9 n) 610 = some (Int32.ofInt (s.1 610 n 0)) := by
  unfold xo_i
  rw [zobj_9 H hn]
  rfl
theorem zi_611 (H : zH A h s) (hn : n < 1) : xo_i h (za_9 n) 611 = some (Int32.ofInt (s.1 611 n 0)) := by
  unfold xo_i
  rw [zobj_9 H hn]
  rfl
theorem zr_612 (H : zH A h s) (hn : n < 1) : xo_r h (za_9 n) 612 = some (zy_612 n) := by
  unfold xo_r
  rw [zobj_9 H hn]
  rfl
theorem zr_613 (H : zH A h s) (hn : n < 1) : xo_r h (za_9 n) 613 = some (zy_613 n) := by
  unfold xo_r
  rw [zobj_9 H hn]
  rfl
theorem zr_614 (H : zH A h s) (hn : n < 1) : xo_r h (za_9 n) 614 = some (zy_614 n) := by
  unfold xo_r
  rw [zobj_9 H hn]
  rfl
theorem zr_615 (H : zH A h s) (hn : n < 1) : xo_r h (za_9 n) 615 = some (zy_615 n) := by
  unfold xo_r
  rw [zobj_9 H hn]
  rfl
theorem zr_616 (H : zH A h s) (hn : n < 1) : xo_r h (za_9 n) 616 = some (zy_616 n) := by
  unfold xo_r
  rw [zobj_9 H hn]
  rfl
theorem zr_617 (H : zH A h s) (hn : n < 1) : xo_r h (za_9 n) 617 = some (zy_617 n) := by
  unfold xo_r
  rw [zobj_9 H hn]
  rfl
theorem zr_618 (H : zH A h s) (hn : n < 1) : xo_r h (za_9 n) 618 = some (zy_618 n) := by
  unfold xo_r
  rw [zobj_9 H hn]
  rfl
theorem zr_619 (H : zH A h s) (hn : n < 1) : xo_r h (za_9 n) 619 = some (zy_619 n) := by
  unfold xo_r
  rw [zobj_9 H hn]
  rfl
theorem zi_620 (H : zH A h s) (hn : n < 1) : xo_i h (za_9 n) 620 = some (Int32.ofInt (s.1 620 n 0)) := by
  unfold xo_i
  rw [zobj_9 H hn]
  rfl
theorem zr_621 (H : zH A h s) (hn : n < 1) : xo_r h (za_9 n) 621 = some (zy_621 n) := by
  unfold xo_r
  rw [zobj_9 H hn]
  rfl
theorem zr_622 (H : zH A h s) (hn : n < 1) : xo_r h (za_9 n) 622 = some (zy_622 n) := by
  unfold xo_r
  rw [zobj_9 H hn]
  rfl
theorem zr_623 (H : zH A h s) (hn : n < 1) : xo_r h (za_9 n) 623 = some (zy_623 n) := by
  unfold xo_r
  rw [zobj_9 H hn]
  rfl
theorem zr_624 (H : zH A h s) (hn : n < 1) : xo_r h (za_9 n) 624 = some (zy_624 n) := by
  unfold xo_r
  rw [zobj_9 H hn]
  rfl
theorem zr_625 (H : zH A h s) (hn : n < 1) : xo_r h (za_9 n) 625 = some (zy_625 n) := by
  unfold xo_r
  rw [zobj_9 H hn]
  rfl
theorem zr_626 (H : zH A h s) (hn : n < 1) : xo_r h (za_9 n) 626 = some (zy_626 n) := by
  unfold xo_r
  rw [zobj_9 H hn]
  rfl
theorem zr_627 (H : zH A h s) (hn : n < 1) : xo_r h (za_9 n) 627 = some (zy_627 n) := by
  unfold xo_r
  rw [zobj_9 H hn]
  rfl
theorem zr_628 (H : zH A h s) (hn : n < 1) : xo_r h (za_9 n) 628 = some (zy_628 n) := by
  unfold xo_r
  rw [zobj_9 H hn]
  rfl
theorem zr_629 (H : zH A h s) (hn : n < 1) : xo_r h (za_9 n) 629 = some (zy_629 n) := by
  unfold xo_r
  rw [zobj_9 H hn]
  rfl
theorem zr_630 (H : zH A h s) (hn : n < 1) : xo_r h (za_9 n) 630 = some (zy_630 n) := by
  unfold xo_r
  rw [zobj_9 H hn]
  rfl
theorem zr_631 (H : zH A h s) (hn : n < 1) : xo_r h (za_9 n) 631 = some (zy_631 n) := by
  unfold xo_r
  rw [zobj_9 H hn]
  rfl
theorem zr_632 (H : zH A h s) (hn : n < 1) : xo_r h (za_9 n) 632 = some (zy_632 n) := by
  unfold xo_r
  rw [zobj_9 H hn]
  rfl
theorem zr_633 (H : zH A h s) (hn : n < 1) : xo_r h (za_9 n) 633 = some (zy_633 n) := by
  unfold xo_r
  rw [zobj_9 H hn]
  rfl
theorem zw_0 (H : zH A h s) (hn : n < 3) : xr_M h (zy_0 n) = .inl (.int, (zlB n), .inl fun i => Int32.ofInt (s.1 0 n i)) := by
  match n, hn with
  | 0, _ => exact H.get0 2 _ (by decide) rfl
  | 1, _ => exact H.get0 4 _ (by decide) rfl
  | 2, _ => exact H.get0 37 _ (by decide) rfl
theorem zw_65 (H : zH A h s) (hn : n < 1) : xr_M h (zy_65 n) = .inl (.boolean, 200, .inl fun i => Int32.ofInt (s.1 65 n i)) := by
  match n, hn with
  | 0, _ => exact H.get0 38 _ (by decide) rfl
theorem zw_192 (H : zH A h s) (hn : n < 2) : xr_M h (zy_192 n) = .inl (.int, 200, .inl fun i => Int32.ofInt (s.1 192 n i)) := by
  match n, hn with
  | 0, _ => exact H.get0 13 _ (by decide) rfl
  | 1, _ => exact H.get0 25 _ (by decide) rfl
theorem zw_193 (H : zH A h s) (hn : n < 2) : xr_M h (zy_193 n) = .inl (.int, 200, .inl fun i => Int32.ofInt (s.1 193 n i)) := by
  match n, hn with
  | 0, _ => exact H.get0 14 _ (by decide) rfl
  | 1, _ => exact H.get0 26 _ (by decide) rfl
theorem zw_194 (H : zH A h s) (hn : n < 2) : xr_M h (zy_194 n) = .inl (.int, 200, .inl fun i => Int32.ofInt (s.1 194 n i)) := by
  match n, hn with
  | 0, _ => exact H.get0 15 _ (by decide) rfl
  | 1, _ => exact H.get0 27 _ (by decide) rfl
theorem zw_195 (H : zH A h s) (hn : n < 2) : xr_M h (zy_195 n) = .inl (.int, 200, .inl fun i => Int32.ofInt (s.1 195 n i)) := by
  match n, hn with
  | 0, _ => exact H.get0 16 _ (by decide) rfl
  | 1, _ => exact H.get0 28 _ (by decide) rfl
theorem zw_196 (H : zH A h s) (hn : n < 2) : xr_M h (zy_196 n) = .inl (.int, 200, .inl fun i => Int32.ofInt (s.1 196 n i)) := by
  match n, hn with
  | 0, _ => exact H.get0 17 _ (by decide) rfl
  | 1, _ => exact H.get0 29 _ (by decide) rfl
theorem zw_197 (H : zH A h s) (hn : n < 2) : xr_M h (zy_197 n) = .inl (.int, 200, .inl fun i => Int32.ofInt (s.1 197 n i)) := by
  match n, hn with
  | 0, _ => exact H.get0 18 _ (by decide) rfl
  | 1, _ => exact H.get0 30 _ (by decide) rfl
theorem zw_198 (H : zH A h s) (hn : n < 2) : xr_M h (zy_198 n) = .inl (.int, 200, .inl fun i => Int32.ofInt (s.1 198 n i)) := by
  match n, hn with
  | 0, _ => exact H.get0 19 _ (by decide) rfl
  | 1, _ => exact H.get0 31 _ (by decide) rfl
theorem zw_328 (H : zH A h s) (hn : n < 2) : xr_M h (zy_328 n) = .inl (.int, 48, .inl fun i => Int32.ofInt (s.1 328 n i)) := by
  match n, hn with
  | 0, _ => exact H.get0 20 _ (by decide) rfl
  | 1, _ => exact H.get0 32 _ (by decide) rfl
theorem zw_329 (H : zH A h s) (hn : n < 2) : xr_M h (zy_329 n) = .inl (.int, 48, .inl fun i => Int32.ofInt (s.1 329 n i)) := by
  match n, hn with
  | 0, _ => exact H.get0 21 _ (by decide) rfl
  | 1, _ => exact H.get0 33 _ (by decide) rfl
theorem zw_330 (H : zH A h s) (hn : n < 2) : xr_M h (zy_330 n) = .inl (.int, 48, .inl fun i => Int32.ofInt (s.1 330 n i)) := by
  match n, hn with
  | 0, _ => exact H.get0 22 _ (by decide) rfl
  | 1, _ => exact H.get0 34 _ (by decide) rfl
theorem zw_384 (H : zH A h s) (hn : n < 1) : xr_M h (zy_384 n) = .inl (.int, 4800, .inl fun i => Int32.ofInt (s.1 384 n i)) := by
  match n, hn with
  | 0, _ => exact H.get0 8 _ (by decide) rfl
theorem zw_385 (H : zH A h s) (hn : n < 1) : xr_M h (zy_385 n) = .inl (.int, 30, .inl fun i => Int32.ofInt (s.1 385 n i)) := by
  match n, hn with
  | 0, _ => exact H.get0 9 _ (by decide) rfl
theorem zw_386 (H : zH A h s) (hn : n < 1) : xr_M h (zy_386 n) = .inl (.int, 30, .inl fun i => Int32.ofInt (s.1 386 n i)) := by
  match n, hn with
  | 0, _ => exact H.get0 10 _ (by decide) rfl
theorem zw_452 (H : zH A h s) (hn : n < A) : xr_M h (zy_452 n) = .inl (.int, 6, .inl fun i => Int32.ofInt (s.1 452 n i)) := by
  match n, hn with
  | 0, hn => exact H.get 85 _ (by have := H.1; omega) rfl
  | 1, hn => exact H.get 103 _ (by have := H.1; omega) rfl
  | 2, hn => exact H.get 121 _ (by have := H.1; omega) rfl
  | 3, hn => exact H.get 139 _ (by have := H.1; omega) rfl
  | k + 4, hn => exact absurd (Nat.lt_of_lt_of_le hn H.le4) (by omega)
theorem zw_453 (H : zH A h s) (hn : n < A) : xr_M h (zy_453 n) = .inl (.int, 6, .inl fun i => Int32.ofInt (s.1 453 n i)) := by
  match n, hn with
  | 0, hn => exact H.get 86 _ (by have := H.1; omega) rfl
  | 1, hn => exact H.get 104 _ (by have := H.1; omega) rfl
  | 2, hn => exact H.get 122 _ (by have := H.1; omega) rfl
  | 3, hn => exact H.get 140 _ (by have := H.1; omega) rfl
  | k + 4, hn => exact absurd (Nat.lt_of_lt_of_le hn H.le4) (by omega)
theorem zw_454 (H : zH A h s) (hn : n < A) : xr_M h (zy_454 n) = .inl (.int, 100, .inl fun i => Int32.ofInt (s.1 454 n i)) := by
  match n, hn with
  | 0, hn => exact H.get 87 _ (by have := H.1; omega) rfl
  | 1, hn => exact H.get 105 _ (by have := H.1; omega) rfl
  | 2, hn => exact H.get 123 _ (by have := H.1; omega) rfl
  | 3, hn => exact H.get 141 _ (by have := H.1; omega) rfl
  | k + 4, hn => exact absurd (Nat.lt_of_lt_of_le hn H.le4) (by omega)
theorem zw_455 (H : zH A h s) (hn : n < A) : xr_M h (zy_455 n) = .inl (.int, 100, .inl fun i => Int32.ofInt (s.1 455 n i)) := by
  match n, hn with
  | 0, hn => exact H.get 88 _ (by have := H.1; omega) rfl
  | 1, hn => exact H.get 106 _ (by have := H.1; omega) rfl
  | 2, hn => exact H.get 124 _ (by have := H.1; omega) rfl
  | 3, hn => exact H.get 142 _ (by have := H.1; omega) rfl
  | k + 4, hn => exact absurd (Nat.lt_of_lt_of_le hn H.le4) (by omega)
theorem zw_456 (H : zH A h s) (hn : n < A) : xr_M h (zy_456 n) = .inl (.int, 100, .inl fun i => Int32.ofInt (s.1 456 n i)) := by
  match n, hn with
  | 0, hn => exact H.get 89 _ (by have := H.1; omega) rfl
  | 1, hn => exact H.get 107 _ (by have := H.1; omega) rfl
  | 2, hn => exact H.get 125 _ (by have := H.1; omega) rfl
  | 3, hn => exact H.get 143 _ (by have := H.1; omega) rfl
  | k + 4, hn => exact absurd (Nat.lt_of_lt_of_le hn H.le4) (by omega)
theorem zw_457 (H : zH A h s) (hn : n < A) : xr_M h (zy_457 n) = .inl (.int, 48, .inl fun i => Int32.ofInt (s.1 457 n i)) := by
  match n, hn with
  | 0, hn => exact H.get 90 _ (by have := H.1; omega) rfl
  | 1, hn => exact H.get 108 _ (by have := H.1; omega) rfl
  | 2, hn => exact H.get 126 _ (by have := H.1; omega) rfl
  | 3, hn => exact H.get 144 _ (by have := H.1; omega) rfl
  | k + 4, hn => exact absurd (Nat.lt_of_lt_of_le hn H.le4) (by omega)
theorem zw_458 (H : zH A h s) (hn : n < A) : xr_M h (zy_458 n) = .inl (.int, 48, .inl fun i => Int32.ofInt (s.1 458 n i)) := by
  match n, hn with
  | 0, hn => exact H.get 91 _ (by have := H.1; omega) rfl
  | 1, hn => exact H.get 109 _ (by have := H.1; omega) rfl
  | 2, hn => exact H.get 127 _ (by have := H.1; omega) rfl
  | 3, hn => exact H.get 145 _ (by have := H.1; omega) rfl
  | k + 4, hn => exact absurd (Nat.lt_of_lt_of_le hn H.le4) (by omega)
theorem zw_459 (H : zH A h s) (hn : n < A) : xr_M h (zy_459 n) = .inl (.int, 48, .inl fun i => Int32.ofInt (s.1 459 n i)) := by
  match n, hn with
  | 0, hn => exact H.get 92 _ (by have := H.1; omega) rfl
  | 1, hn => exact H.get 110 _ (by have := H.1; omega) rfl
  | 2, hn => exact H.get 128 _ (by have := H.1; omega) rfl
  | 3, hn => exact H.get 146 _ (by have := H.1; omega) rfl
  | k + 4, hn => exact absurd (Nat.lt_of_lt_of_le hn H.le4) (by omega)
theorem zw_460 (H : zH A h s) (hn : n < A) : xr_M h (zy_460 n) = .inl (.int, 48, .inl fun i => Int32.ofInt (s.1 460 n i)) := by
  match n, hn with
  | 0, hn => exact H.get 93 _ (by have := H.1; omega) rfl
  | 1, hn => exact H.get 111 _ (by have := H.1; omega) rfl
  | 2, hn => exact H.get 129 _ (by have := H.1; omega) rfl
  | 3, hn => exact H.get 147 _ (by have := H.1; omega) rfl
  | k + 4, hn => exact absurd (Nat.lt_of_lt_of_le hn H.le4) (by omega)
theorem zw_461 (H : zH A h s) (hn : n < A) : xr_M h (zy_461 n) = .inl (.int, 48, .inl fun i => Int32.ofInt (s.1 461 n i)) := by
  match n, hn with
  | 0, hn => exact H.get 94 _ (by have := H.1; omega) rfl
  | 1, hn => exact H.get 112 _ (by have := H.1; omega) rfl
  | 2, hn => exact H.get 130 _ (by have := H.1; omega) rfl
  | 3, hn => exact H.get 148 _ (by have := H.1; omega) rfl
  | k + 4, hn => exact absurd (Nat.lt_of_lt_of_le hn H.le4) (by omega)
theorem zw_462 (H : zH A h s) (hn : n < A) : xr_M h (zy_462 n) = .inl (.int, 48, .inl fun i => Int32.ofInt (s.1 462 n i)) := by
  match n, hn with
  | 0, hn => exact H.get 95 _ (by have := H.1; omega) rfl
  | 1, hn => exact H.get 113 _ (by have := H.1; omega) rfl
  | 2, hn => exact H.get 131 _ (by have := H.1; omega) rfl
  | 3, hn => exact H.get 149 _ (by have := H.1; omega) rfl
  | k + 4, hn => exact absurd (Nat.lt_of_lt_of_le hn H.le4) (by omega)
theorem zw_463 (H : zH A h s) (hn : n < A) : xr_M h (zy_463 n) = .inl (.int, 48, .inl fun i => Int32.ofInt (s.1 463 n i)) := by
  match n, hn with
  | 0, hn => exact H.get 96 _ (by have := H.1; omega) rfl
  | 1, hn => exact H.get 114 _ (by have := H.1; omega) rfl
  | 2, hn => exact H.get 132 _ (by have := H.1; omega) rfl
  | 3, hn => exact H.get 150 _ (by have := H.1; omega) rfl
  | k + 4, hn => exact absurd (Nat.lt_of_lt_of_le hn H.le4) (by omega)
theorem zw_464 (H : zH A h s) (hn : n < A) : xr_M h (zy_464 n) = .inl (.int, 48, .inl fun i => Int32.ofInt (s.1 464 n i)) := by
  match n, hn with
  | 0, hn => exact H.get 97 _ (by have := H.1; omega) rfl
  | 1, hn => exact H.get 115 _ (by have := H.1; omega) rfl
  | 2, hn => exact H.get 133 _ (by have := H.1; omega) rfl
  | 3, hn => exact H.get 151 _ (by have := H.1; omega) rfl
  | k + 4, hn => exact absurd (Nat.lt_of_lt_of_le hn H.le4) (by omega)
theorem zw_465 (H : zH A h s) (hn : n < A) : xr_M h (zy_465 n) = .inl (.int, 48, .inl fun i => Int32.ofInt (s.1 465 n i)) := by
  match n, hn with
  | 0, hn => exact H.get 98 _ (by have := H.1; omega) rfl
  | 1, hn => exact H.get 116 _ (by have := H.1; omega) rfl
  | 2, hn => exact H.get 134 _ (by have := H.1; omega) rfl
  | 3, hn => exact H.get 152 _ (by have := H.1; omega) rfl
  | k + 4, hn => exact absurd (Nat.lt_of_lt_of_le hn H.le4) (by omega)
theorem zw_466 (H : zH A h s) (hn : n < A) : xr_M h (zy_466 n) = .inl (.int, 48, .inl fun i => Int32.ofInt (s.1 466 n i)) := by
  match n, hn with
  | 0, hn => exact H.get 99 _ (by have := H.1; omega) rfl
  | 1, hn => exact H.get 117 _ (by have := H.1; omega) rfl
  | 2, hn => exact H.get 135 _ (by have := H.1; omega) rfl
  | 3, hn => exact H.get 153 _ (by have := H.1; omega) rfl
  | k + 4, hn => exact absurd (Nat.lt_of_lt_of_le hn H.le4) (by omega)
theorem zw_467 (H : zH A h s) (hn : n < A) : xr_M h (zy_467 n) = .inl (.int, 48, .inl fun i => Int32.ofInt (s.1 467 n i)) := by
  match n, hn with
  | 0, hn => exact H.get 100 _ (by have := H.1; omega) rfl
  | 1, hn => exact H.get 118 _ (by have := H.1; omega) rfl
  | 2, hn => exact H.get 136 _ (by have := H.1; omega) rfl
  | 3, hn => exact H.get 154 _ (by have := H.1; omega) rfl
  | k + 4, hn => exact absurd (Nat.lt_of_lt_of_le hn H.le4) (by omega)
theorem zw_468 (H : zH A h s) (hn : n < A) : xr_M h (zy_468 n) = .inl (.int, 48, .inl fun i => Int32.ofInt (s.1 468 n i)) := by
  match n, hn with
  | 0, hn => exact H.get 101 _ (by have := H.1; omega) rfl
  | 1, hn => exact H.get 119 _ (by have := H.1; omega) rfl
  | 2, hn => exact H.get 137 _ (by have := H.1; omega) rfl
  | 3, hn => exact H.get 155 _ (by have := H.1; omega) rfl
  | k + 4, hn => exact absurd (Nat.lt_of_lt_of_le hn H.le4) (by omega)
theorem zw_515 (H : zH A h s) (hn : n < 1) : xr_M h (zy_515 n) = .inl (.object RX7, 4, .inr (.inr (.inr (.inr fun i => zT (s.1 515 n i))))) := by
  match n, hn with
  | 0, _ => exact H.get0 6 _ (by decide) rfl
theorem zw_521 (H : zH A h s) (hn : n < 1) : xr_M h (zy_521 n) = .inl (.boolean, 1536, .inl fun i => Int32.ofInt (s.1 521 n i)) := by
  match n, hn with
  | 0, _ => exact H.get0 40 _ (by decide) rfl
theorem zw_578 (H : zH A h s) (hn : n < 1) : xr_M h (zy_578 n) = .inl (.int, 200, .inl fun i => Int32.ofInt (s.1 578 n i)) := by
  match n, hn with
  | 0, _ => exact H.get0 42 _ (by decide) rfl
theorem zw_580 (H : zH A h s) (hn : n < 1) : xr_M h (zy_580 n) = .inl (.int, 4, .inl fun i => Int32.ofInt (s.1 580 n i)) := by
  match n, hn with
  | 0, _ => exact H.get0 43 _ (by decide) rfl
theorem zw_581 (H : zH A h s) (hn : n < 1) : xr_M h (zy_581 n) = .inl (.int, 800, .inl fun i => Int32.ofInt (s.1 581 n i)) := by
  match n, hn with
  | 0, _ => exact H.get0 44 _ (by decide) rfl
theorem zw_582 (H : zH A h s) (hn : n < 1) : xr_M h (zy_582 n) = .inl (.int, 4, .inl fun i => Int32.ofInt (s.1 582 n i)) := by
  match n, hn with
  | 0, _ => exact H.get0 45 _ (by decide) rfl
theorem zw_583 (H : zH A h s) (hn : n < 1) : xr_M h (zy_583 n) = .inl (.int, 104, .inl fun i => Int32.ofInt (s.1 583 n i)) := by
  match n, hn with
  | 0, _ => exact H.get0 46 _ (by decide) rfl
theorem zw_584 (H : zH A h s) (hn : n < 1) : xr_M h (zy_584 n) = .inl (.int, 24, .inl fun i => Int32.ofInt (s.1 584 n i)) := by
  match n, hn with
  | 0, _ => exact H.get0 47 _ (by decide) rfl
theorem zw_585 (H : zH A h s) (hn : n < 1) : xr_M h (zy_585 n) = .inl (.int, 24, .inl fun i => Int32.ofInt (s.1 585 n i)) := by
  match n, hn with
  | 0, _ => exact H.get0 48 _ (by decide) rfl
theorem zw_586 (H : zH A h s) (hn : n < 1) : xr_M h (zy_586 n) = .inl (.int, 192, .inl fun i => Int32.ofInt (s.1 586 n i)) := by
  match n, hn with
  | 0, _ => exact H.get0 49 _ (by decide) rfl
theorem zw_587 (H : zH A h s) (hn : n < 1) : xr_M h (zy_587 n) = .inl (.int, 192, .inl fun i => Int32.ofInt (s.1 587 n i)) := by
  match n, hn with
  | 0, _ => exact H.get0 50 _ (by decide) rfl
theorem zw_588 (H : zH A h s) (hn : n < 1) : xr_M h (zy_588 n) = .inl (.int, 192, .inl fun i => Int32.ofInt (s.1 588 n i)) := by
  match n, hn with
  | 0, _ => exact H.get0 51 _ (by decide) rfl
theorem zw_589 (H : zH A h s) (hn : n < 1) : xr_M h (zy_589 n) = .inl (.int, 192, .inl fun i => Int32.ofInt (s.1 589 n i)) := by
  match n, hn with
  | 0, _ => exact H.get0 52 _ (by decide) rfl
theorem zw_590 (H : zH A h s) (hn : n < 1) : xr_M h (zy_590 n) = .inl (.int, 192, .inl fun i => Int32.ofInt (s.1 590 n i)) := by
  match n, hn with
  | 0, _ => exact H.get0 53 _ (by decide) rfl
theorem zw_591 (H : zH A h s) (hn : n < 1) : xr_M h (zy_591 n) = .inl (.int, 192, .inl fun i => Int32.ofInt (s.1 591 n i)) := by
  match n, hn with
  | 0, _ => exact H.get0 54 _ (by decide) rfl
theorem zw_592 (H : zH A h s) (hn : n < 1) : xr_M h (zy_592 n) = .inl (.int, 192, .inl fun i => Int32.ofInt (s.1 592 n i)) := by
  match n, hn with
  | 0, _ => exact H.get0 55 _ (by decide) rfl
theorem zw_593 (H : zH A h s) (hn : n < 1) : xr_M h (zy_593 n) = .inl (.int, 192, .inl fun i => Int32.ofInt (s.1 593 n i)) := by
  match n, hn with
  | 0, _ => exact H.get0 56 _ (by decide) rfl
theorem zw_595 (H : zH A h s) (hn : n < 1) : xr_M h (zy_595 n) = .inl (.int, 400, .inl fun i => Int32.ofInt (s.1 595 n i)) := by
  match n, hn with
  | 0, _ => exact H.get0 57 _ (by decide) rfl
theorem zw_597 (H : zH A h s) (hn : n < 1) : xr_M h (zy_597 n) = .inl (.int, 400, .inl fun i => Int32.ofInt (s.1 597 n i)) := by
  match n, hn with
  | 0, _ => exact H.get0 58 _ (by decide) rfl
theorem zw_600 (H : zH A h s) (hn : n < 1) : xr_M h (zy_600 n) = .inl (.int, 30, .inl fun i => Int32.ofInt (s.1 600 n i)) := by
  match n, hn with
  | 0, _ => exact H.get0 59 _ (by decide) rfl
theorem zw_601 (H : zH A h s) (hn : n < 1) : xr_M h (zy_601 n) = .inl (.int, 30, .inl fun i => Int32.ofInt (s.1 601 n i)) := by
  match n, hn with
  | 0, _ => exact H.get0 60 _ (by decide) rfl
theorem zw_602 (H : zH A h s) (hn : n < 1) : xr_M h (zy_602 n) = .inl (.int, 4800, .inl fun i => Int32.ofInt (s.1 602 n i)) := by
  match n, hn with
  | 0, _ => exact H.get0 61 _ (by decide) rfl
theorem zw_612 (H : zH A h s) (hn : n < 1) : xr_M h (zy_612 n) = .inl (.int, 201, .inl fun i => Int32.ofInt (s.1 612 n i)) := by
  match n, hn with
  | 0, _ => exact H.get0 62 _ (by decide) rfl
theorem zw_613 (H : zH A h s) (hn : n < 1) : xr_M h (zy_613 n) = .inl (.int, 201, .inl fun i => Int32.ofInt (s.1 613 n i)) := by
  match n, hn with
  | 0, _ => exact H.get0 63 _ (by decide) rfl
theorem zw_614 (H : zH A h s) (hn : n < 1) : xr_M h (zy_614 n) = .inl (.int, 201, .inl fun i => Int32.ofInt (s.1 614 n i)) := by
  match n, hn with
  | 0, _ => exact H.get0 64 _ (by decide) rfl
theorem zw_615 (H : zH A h s) (hn : n < 1) : xr_M h (zy_615 n) = .inl (.int, 201, .inl fun i => Int32.ofInt (s.1 615 n i)) := by
  match n, hn with
  | 0, _ => exact H.get0 65 _ (by decide) rfl
theorem zw_616 (H : zH A h s) (hn : n < 1) : xr_M h (zy_616 n) = .inl (.int, 201, .inl fun i => Int32.ofInt (s.1 616 n i)) := by
  match n, hn with
  | 0, _ => exact H.get0 66 _ (by decide) rfl
theorem zw_617 (H : zH A h s) (hn : n < 1) : xr_M h (zy_617 n) = .inl (.int, 201, .inl fun i => Int32.ofInt (s.1 617 n i)) := by
  match n, hn with
  | 0, _ => exact H.get0 67 _ (by decide) rfl
theorem zw_618 (H : zH A h s) (hn : n < 1) : xr_M h (zy_618 n) = .inl (.int, 201, .inl fun i => Int32.ofInt (s.1 618 n i)) := by
  match n, hn with
  | 0, _ => exact H.get0 68 _ (by decide) rfl
theorem zw_619 (H : zH A h s) (hn : n < 1) : xr_M h (zy_619 n) = .inl (.int, 201, .inl fun i => Int32.ofInt (s.1 619 n i)) := by
  match n, hn with
  | 0, _ => exact H.get0 69 _ (by decide) rfl
theorem zw_621 (H : zH A h s) (hn : n < 1) : xr_M h (zy_621 n) = .inl (.int, 60, .inl fun i => Int32.ofInt (s.1 621 n i)) := by
  match n, hn with
  | 0, _ => exact H.get0 70 _ (by decide) rfl
theorem zw_622 (H : zH A h s) (hn : n < 1) : xr_M h (zy_622 n) = .inl (.int, 60, .inl fun i => Int32.ofInt (s.1 622 n i)) := by
  match n, hn with
  | 0, _ => exact H.get0 71 _ (by decide) rfl
theorem zw_623 (H : zH A h s) (hn : n < 1) : xr_M h (zy_623 n) = .inl (.int, 60, .inl fun i => Int32.ofInt (s.1 623 n i)) := by
  match n, hn with
  | 0, _ => exact H.get0 72 _ (by decide) rfl
theorem zw_624 (H : zH A h s) (hn : n < 1) : xr_M h (zy_624 n) = .inl (.int, 60, .inl fun i => Int32.ofInt (s.1 624 n i)) := by
  match n, hn with
  | 0, _ => exact H.get0 73 _ (by decide) rfl
theorem zw_625 (H : zH A h s) (hn : n < 1) : xr_M h (zy_625 n) = .inl (.int, 60, .inl fun i => Int32.ofInt (s.1 625 n i)) := by
  match n, hn with
  | 0, _ => exact H.get0 74 _ (by decide) rfl
theorem zw_626 (H : zH A h s) (hn : n < 1) : xr_M h (zy_626 n) = .inl (.int, 60, .inl fun i => Int32.ofInt (s.1 626 n i)) := by
  match n, hn with
  | 0, _ => exact H.get0 75 _ (by decide) rfl
theorem zw_627 (H : zH A h s) (hn : n < 1) : xr_M h (zy_627 n) = .inl (.int, 60, .inl fun i => Int32.ofInt (s.1 627 n i)) := by
  match n, hn with
  | 0, _ => exact H.get0 76 _ (by decide) rfl
theorem zw_628 (H : zH A h s) (hn : n < 1) : xr_M h (zy_628 n) = .inl (.int, 60, .inl fun i => Int32.ofInt (s.1 628 n i)) := by
  match n, hn with
  | 0, _ => exact H.get0 77 _ (by decide) rfl
theorem zw_629 (H : zH A h s) (hn : n < 1) : xr_M h (zy_629 n) = .inl (.int, 60, .inl fun i => Int32.ofInt (s.1 629 n i)) := by
  match n, hn with
  | 0, _ => exact H.get0 78 _ (by decide) rfl
theorem zw_630 (H : zH A h s) (hn : n < 1) : xr_M h (zy_630 n) = .inl (.int, 480, .inl fun i => Int32.ofInt (s.1 630 n i)) := by
  match n, hn with
  | 0, _ => exact H.get0 79 _ (by decide) rfl
theorem zw_631 (H : zH A h s) (hn : n < 1) : xr_M h (zy_631 n) = .inl (.int, 201, .inl fun i => Int32.ofInt (s.1 631 n i)) := by
  match n, hn with
  | 0, _ => exact H.get0 80 _ (by decide) rfl
theorem zw_632 (H : zH A h s) (hn : n < 1) : xr_M h (zy_632 n) = .inl (.boolean, 201, .inl fun i => Int32.ofInt (s.1 632 n i)) := by
  match n, hn with
  | 0, _ => exact H.get0 81 _ (by decide) rfl
theorem zw_633 (H : zH A h s) (hn : n < 1) : xr_M h (zy_633 n) = .inl (.int, 1600, .inl fun i => Int32.ofInt (s.1 633 n i)) := by
  match n, hn with
  | 0, _ => exact H.get0 82 _ (by decide) rfl
theorem zw_1000 (H : zH A h s) (hn : n < 1) : xr_M h (zy_1000 n) = .inl (.long, 1, .inr (.inl fun i => Int64.ofInt (s.1 1000 n i))) := by
  match n, hn with
  | 0, _ => exact H.get0 83 _ (by decide) rfl
end
