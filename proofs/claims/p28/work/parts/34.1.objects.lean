/-! the objects and arrays one by one -/
section
variable {A n : Nat} {h : xrH} {s : zS}
set_option maxRecDepth 4000 in
theorem zobj_0 (H : zH A h s) (hn : n < 3) : xr_M h (za_0 n) = .inr (0, [.ref (zy_0 n), .int (Int32.ofInt (s.1 1 n 0))]) := by
  match n, hn with
  | 0, _ => exact H.get0 1 _ (by decide) rfl
  | 1, _ => exact H.get0 3 _ (by decide) rfl
  | 2, _ => exact H.get0 36 _ (by decide) rfl
theorem zc_0 (H : zH A h s) (hn : n < 3) : xo_c h (za_0 n) 0 = true := by
  unfold xo_c
  rw [zobj_0 H hn]
  rfl
set_option maxRecDepth 4000 in
theorem zobj_1 (H : zH A h s) (hn : n < 1) : xr_M h (za_1 n) = .inr (1, [.ref (za_0 2), .ref (zy_65 n)]) := by
  match n, hn with
  | 0, _ => exact H.get0 35 _ (by decide) rfl
theorem zc_1 (H : zH A h s) (hn : n < 1) : xo_c h (za_1 n) 1 = true := by
  unfold xo_c
  rw [zobj_1 H hn]
  rfl
set_option maxRecDepth 4000 in
theorem zobj_2 (H : zH A h s) (hn : n < 1) : xr_M h (za_2 n) = .inr (2, [.int (Int32.ofInt (s.1 128 n 0)), .int (Int32.ofInt (s.1 129 n 0)), .int (Int32.ofInt (s.1 130 n 0))]) := by
  match n, hn with
  | 0, _ => exact H.get0 39 _ (by decide) rfl
theorem zc_2 (H : zH A h s) (hn : n < 1) : xo_c h (za_2 n) 2 = true := by
  unfold xo_c
  rw [zobj_2 H hn]
  rfl
set_option maxRecDepth 4000 in
theorem zobj_3 (H : zH A h s) (hn : n < 2) : xr_M h (za_3 n) = .inr (3, [.ref (zy_192 n), .ref (zy_193 n), .ref (zy_194 n), .ref (zy_195 n), .ref (zy_196 n), .ref (zy_197 n), .ref (zy_198 n), .int (Int32.ofInt (s.1 199 n 0))]) := by
  match n, hn with
  | 0, _ => exact H.get0 12 _ (by decide) rfl
  | 1, _ => exact H.get0 24 _ (by decide) rfl
theorem zc_3 (H : zH A h s) (hn : n < 2) : xo_c h (za_3 n) 3 = true := by
  unfold xo_c
  rw [zobj_3 H hn]
  rfl
set_option maxRecDepth 4000 in
theorem zobj_4 (H : zH A h s) (hn : n < 1) : xr_M h (za_4 n) = .inr (4, [xr_rf (zBc (s.1 256 n 0)), xr_rf (zT (s.1 257 n 0)), .int (Int32.ofInt (s.1 258 n 0)), .int (Int32.ofInt (s.1 259 n 0)), .int (Int32.ofInt (s.1 260 n 0)), .int (Int32.ofInt (s.1 261 n 0))]) := by
  match n, hn with
  | 0, _ => exact H.get0 5 _ (by decide) rfl
theorem zc_4 (H : zH A h s) (hn : n < 1) : xo_c h (za_4 n) 4 = true := by
  unfold xo_c
  rw [zobj_4 H hn]
  rfl
set_option maxRecDepth 4000 in
theorem zobj_5 (H : zH A h s) (hn : n < 2) : xr_M h (za_5 n) = .inr (5, [.ref (za_3 n), xr_rf (zT (s.1 321 n 0)), xr_rf (zBc (s.1 322 n 0)), .int (Int32.ofInt (s.1 323 n 0)), .int (Int32.ofInt (s.1 324 n 0)), .int (Int32.ofInt (s.1 325 n 0)), .int (Int32.ofInt (s.1 326 n 0)), .int (Int32.ofInt (s.1 327 n 0)), .ref (zy_328 n), .ref (zy_329 n), .ref (zy_330 n)]) := by
  match n, hn with
  | 0, _ => exact H.get0 11 _ (by decide) rfl
  | 1, _ => exact H.get0 23 _ (by decide) rfl
theorem zc_5 (H : zH A h s) (hn : n < 2) : xo_c h (za_5 n) 5 = true := by
  unfold xo_c
  rw [zobj_5 H hn]
  rfl
set_option maxRecDepth 4000 in
theorem zobj_6 (H : zH A h s) (hn : n < 1) : xr_M h (za_6 n) = .inr (6, [.ref (zy_384 n), .ref (zy_385 n), .ref (zy_386 n), .int (Int32.ofInt (s.1 387 n 0)), .int (Int32.ofInt (s.1 388 n 0))]) := by
  match n, hn with
  | 0, _ => exact H.get0 7 _ (by decide) rfl
theorem zc_6 (H : zH A h s) (hn : n < 1) : xo_c h (za_6 n) 6 = true := by
  unfold xo_c
  rw [zobj_6 H hn]
  rfl
set_option maxRecDepth 4000 in
theorem zobj_7 (H : zH A h s) (hn : n < A) : xr_M h (za_7 n) = .inr (7, [.int (Int32.ofInt (s.1 448 n 0)), .int (Int32.ofInt (s.1 449 n 0)), .int (Int32.ofInt (s.1 450 n 0)), .int (Int32.ofInt (s.1 451 n 0)), .ref (zy_452 n), .ref (zy_453 n), .ref (zy_454 n), .ref (zy_455 n), .ref (zy_456 n), .ref (zy_457 n), .ref (zy_458 n), .ref (zy_459 n), .ref (zy_460 n), .ref (zy_461 n), .ref (zy_462 n), .ref (zy_463 n), .ref (zy_464 n), .ref (zy_465 n), .ref (zy_466 n), .ref (zy_467 n), .ref (zy_468 n)]) := by
  match n, hn with
  | 0, hn => exact H.get 44 _ (by omega) rfl
  | 1, hn => exact H.get 62 _ (by omega) rfl
  | 2, hn => exact H.get 80 _ (by omega) rfl
  | 3, hn => exact H.get 98 _ (by omega) rfl
  | k + 4, hn => exact absurd (Nat.lt_of_lt_of_le hn H.le4) (by omega)
theorem zc_7 (H : zH A h s) (hn : n < A) : xo_c h (za_7 n) 7 = true := by
  unfold xo_c
  rw [zobj_7 H hn]
  rfl
set_option maxRecDepth 4000 in
theorem zobj_8 (H : zH A h s) (hn : n < 1) : xr_M h (za_8 n) = .inr (8, [.ref (za_0 0), .ref (za_0 1), .ref (za_4 0), .ref (zy_515 n), .ref (za_6 0), .ref (za_5 0), .ref (za_5 1), .ref (za_1 0), .ref (za_2 0), .ref (zy_521 n), .int (Int32.ofInt (s.1 522 n 0)), .int (Int32.ofInt (s.1 523 n 0))]) := by
  match n, hn with
  | 0, _ => exact H.get0 0 _ (by decide) rfl
theorem zc_8 (H : zH A h s) (hn : n < 1) : xo_c h (za_8 n) 8 = true := by
  unfold xo_c
  rw [zobj_8 H hn]
  rfl
theorem zr_0 (H : zH A h s) (hn : n < 3) : xo_r h (za_0 n) 0 = some (zy_0 n) := by
  unfold xo_r
  rw [zobj_0 H hn]
  rfl
theorem zi_1 (H : zH A h s) (hn : n < 3) : xo_i h (za_0 n) 1 = some (Int32.ofInt (s.1 1 n 0)) := by
  unfold xo_i
  rw [zobj_0 H hn]
  rfl
theorem zr_64 (H : zH A h s) (hn : n < 1) : xo_r h (za_1 n) 64 = some (za_0 2) := by
  unfold xo_r
  rw [zobj_1 H hn]
  rfl
theorem zr_65 (H : zH A h s) (hn : n < 1) : xo_r h (za_1 n) 65 = some (zy_65 n) := by
  unfold xo_r
  rw [zobj_1 H hn]
  rfl
theorem zi_128 (H : zH A h s) (hn : n < 1) : xo_i h (za_2 n) 128 = some (Int32.ofInt (s.1 128 n 0)) := by
  unfold xo_i
  rw [zobj_2 H hn]
  rfl
theorem zi_129 (H : zH A h s) (hn : n < 1) : xo_i h (za_2 n) 129 = some (Int32.ofInt (s.1 129 n 0)) := by
  unfold xo_i
  rw [zobj_2 H hn]
  rfl
theorem zi_130 (H : zH A h s) (hn : n < 1) : xo_i h (za_2 n) 130 = some (Int32.ofInt (s.1 130 n 0)) := by
  unfold xo_i
  rw [zobj_2 H hn]
  rfl
theorem zr_192 (H : zH A h s) (hn : n < 2) : xo_r h (za_3 n) 192 = some (zy_192 n) := by
  unfold xo_r
  rw [zobj_3 H hn]
  rfl
theorem zr_193 (H : zH A h s) (hn : n < 2) : xo_r h (za_3 n) 193 = some (zy_193 n) := by
  unfold xo_r
  rw [zobj_3 H hn]
  rfl
theorem zr_194 (H : zH A h s) (hn : n < 2) : xo_r h (za_3 n) 194 = some (zy_194 n) := by
  unfold xo_r
  rw [zobj_3 H hn]
  rfl
theorem zr_195 (H : zH A h s) (hn : n < 2) : xo_r h (za_3 n) 195 = some (zy_195 n) := by
  unfold xo_r
  rw [zobj_3 H hn]
  rfl
theorem zr_196 (H : zH A h s) (hn : n < 2) : xo_r h (za_3 n) 196 = some (zy_196 n) := by
  unfold xo_r
  rw [zobj_3 H hn]
  rfl
theorem zr_197 (H : zH A h s) (hn : n < 2) : xo_r h (za_3 n) 197 = some (zy_197 n) := by
  unfold xo_r
  rw [zobj_3 H hn]
  rfl
theorem zr_198 (H : zH A h s) (hn : n < 2) : xo_r h (za_3 n) 198 = some (zy_198 n) := by
  unfold xo_r
  rw [zobj_3 H hn]
  rfl
theorem zi_199 (H : zH A h s) (hn : n < 2) : xo_i h (za_3 n) 199 = some (Int32.ofInt (s.1 199 n 0)) := by
  unfold xo_i
  rw [zobj_3 H hn]
  rfl
theorem zr_256 (H : zH A h s) (hn : n < 1) (h1 : 1 ≤ s.1 256 n 0 ∧ s.1 256 n 0 ≤ 3) : xo_r h (za_4 n) 256 = some (za_0 ((s.1 256 n 0).toNat - 1)) := by
  unfold xo_r
  have e : zBc (s.1 256 n 0) = some (za_0 ((s.1 256 n 0).toNat - 1)) := by
    unfold zBc
    rw [if_neg (by omega)]
  rw [zobj_4 H hn, e]
  rfl
theorem zo_257 (H : zH A h s) (hn : n < 1) : xo_o h (za_4 n) 257 = some (zT (s.1 257 n 0)) := by
  unfold xo_o
  rw [zobj_4 H hn]
  generalize zT (s.1 257 n 0) = z
  cases z <;> rfl
theorem zi_258 (H : zH A h s) (hn : n < 1) : xo_i h (za_4 n) 258 = some (Int32.ofInt (s.1 258 n 0)) := by
  unfold xo_i
  rw [zobj_4 H hn]
  rfl
theorem zi_259 (H : zH A h s) (hn : n < 1) : xo_i h (za_4 n) 259 = some (Int32.ofInt (s.1 259 n 0)) := by
  unfold xo_i
  rw [zobj_4 H hn]
  rfl
theorem zi_260 (H : zH A h s) (hn : n < 1) : xo_i h (za_4 n) 260 = some (Int32.ofInt (s.1 260 n 0)) := by
  unfold xo_i
  rw [zobj_4 H hn]
  rfl
theorem zi_261 (H : zH A h s) (hn : n < 1) : xo_i h (za_4 n) 261 = some (Int32.ofInt (s.1 261 n 0)) := by
  unfold xo_i
  rw [zobj_4 H hn]
  rfl
theorem zr_320 (H : zH A h s) (hn : n < 2) : xo_r h (za_5 n) 320 = some (za_3 n) := by
  unfold xo_r
  rw [zobj_5 H hn]
  rfl
theorem zo_321 (H : zH A h s) (hn : n < 2) : xo_o h (za_5 n) 321 = some (zT (s.1 321 n 0)) := by
  unfold xo_o
  rw [zobj_5 H hn]
  generalize zT (s.1 321 n 0) = z
  cases z <;> rfl
theorem zr_322 (H : zH A h s) (hn : n < 2) (h1 : 1 ≤ s.1 322 n 0 ∧ s.1 322 n 0 ≤ 3) : xo_r h (za_5 n) 322 = some (za_0 ((s.1 322 n 0).toNat - 1)) := by
  unfold xo_r
  have e : zBc (s.1 322 n 0) = some (za_0 ((s.1 322 n 0).toNat - 1)) := by
    unfold zBc
    rw [if_neg (by omega)]
  rw [zobj_5 H hn, e]
  rfl
theorem zi_323 (H : zH A h s) (hn : n < 2) : xo_i h (za_5 n) 323 = some (Int32.ofInt (s.1 323 n 0)) := by
  unfold xo_i
  rw [zobj_5 H hn]
  rfl
theorem zi_324 (H : zH A h s) (hn : n < 2) : xo_i h (za_5 n) 324 = some (Int32.ofInt (s.1 324 n 0)) := by
  unfold xo_i
  rw [zobj_5 H hn]
  rfl
theorem zi_325 (H : zH A h s) (hn : n < 2) : xo_i h (za_5 n) 325 = some (Int32.ofInt (s.1 325 n 0)) := by
  unfold xo_i
  rw [zobj_5 H hn]
  rfl
theorem zi_326 (H : zH A h s) (hn : n < 2) : xo_i h (za_5 n) 326 = some (Int32.ofInt (s.1 326 n 0)) := by
  unfold xo_i
  rw [zobj_5 H hn]
  rfl
theorem zi_327 (H : zH A h s) (hn : n < 2) : xo_i h (za_5 n) 327 = some (Int32.ofInt (s.1 327 n 0)) := by
  unfold xo_i
  rw [zobj_5 H hn]
  rfl
theorem zr_328 (H : zH A h s) (hn : n < 2) : xo_r h (za_5 n) 328 = some (zy_328 n) := by
  unfold xo_r
  rw [zobj_5 H hn]
  rfl
theorem zr_329 (H : zH A h s) (hn : n < 2) : xo_r h (za_5 n) 329 = some (zy_329 n) := by
  unfold xo_r
  rw [zobj_5 H hn]
  rfl
theorem zr_330 (H : zH A h s) (hn : n < 2) : xo_r h (za_5 n) 330 = some (zy_330 n) := by
  unfold xo_r
  rw [zobj_5 H hn]
  rfl
theorem zr_384 (H : zH A h s) (hn : n < 1) : xo_r h (za_6 n) 384 = some (zy_384 n) := by
  unfold xo_r
  rw [zobj_6 H hn]
  rfl
theorem zr_385 (H : zH A h s) (hn : n < 1) : xo_r h (za_6 n) 385 = some (zy_385 n) := by
  unfold xo_r
  rw [zobj_6 H hn]
  rfl
theorem zr_386 (H : zH A h s) (hn : n < 1) : xo_r h (za_6 n) 386 = some (zy_386 n) := by
  unfold xo_r
  rw [zobj_6 H hn]
  rfl
theorem zi_387 (H : zH A h s) (hn : n < 1) : xo_i h (za_6 n) 387 = some (Int32.ofInt (s.1 387 n 0)) := by
  unfold xo_i
  rw [zobj_6 H hn]
  rfl
theorem zi_388 (H : zH A h s) (hn : n < 1) : xo_i h (za_6 n) 388 = some (Int32.ofInt (s.1 388 n 0)) := by
  unfold xo_i
  rw [zobj_6 H hn]
  rfl
theorem zi_448 (H : zH A h s) (hn : n < A) : xo_i h (za_7 n) 448 = some (Int32.ofInt (s.1 448 n 0)) := by
  unfold xo_i
  rw [zobj_7 H hn]
  rfl
theorem zi_449 (H : zH A h s) (hn : n < A) : xo_i h (za_7 n) 449 = some (Int32.ofInt (s.1 449 n 0)) := by
  unfold xo_i
  rw [zobj_7 H hn]
  rfl
theorem zi_450 (H : zH A h s) (hn : n < A) : xo_i h (za_7 n) 450 = some (Int32.ofInt (s.1 450 n 0)) := by
  unfold xo_i
  rw [zobj_7 H hn]
  rfl
theorem zi_451 (H : zH A h s) (hn : n < A) : xo_i h (za_7 n) 451 = some (Int32.ofInt (s.1 451 n 0)) := by
  unfold xo_i
  rw [zobj_7 H hn]
  rfl
theorem zr_452 (H : zH A h s) (hn : n < A) : xo_r h (za_7 n) 452 = some (zy_452 n) := by
  unfold xo_r
  rw [zobj_7 H hn]
  rfl
theorem zr_453 (H : zH A h s) (hn : n < A) : xo_r h (za_7 n) 453 = some (zy_453 n) := by
  unfold xo_r
  rw [zobj_7 H hn]
  rfl
theorem zr_454 (H : zH A h s) (hn : n < A) : xo_r h (za_7 n) 454 = some (zy_454 n) := by
  unfold xo_r
  rw [zobj_7 H hn]
  rfl
theorem zr_455 (H : zH A h s) (hn : n < A) : xo_r h (za_7 n) 455 = some (zy_455 n) := by
  unfold xo_r
  rw [zobj_7 H hn]
  rfl
theorem zr_456 (H : zH A h s) (hn : n < A) : xo_r h (za_7 n) 456 = some (zy_456 n) := by
  unfold xo_r
  rw [zobj_7 H hn]
  rfl
theorem zr_457 (H : zH A h s) (hn : n < A) : xo_r h (za_7 n) 457 = some (zy_457 n) := by
  unfold xo_r
  rw [zobj_7 H hn]
  rfl
theorem zr_458 (H : zH A h s) (hn : n < A) : xo_r h (za_7 n) 458 = some (zy_458 n) := by
  unfold xo_r
  rw [zobj_7 H hn]
  rfl
theorem zr_459 (H : zH A h s) (hn : n < A) : xo_r h (za_7 n) 459 = some (zy_459 n) := by
  unfold xo_r
  rw [zobj_7 H hn]
  rfl
theorem zr_460 (H : zH A h s) (hn : n < A) : xo_r h (za_7 n) 460 = some (zy_460 n) := by
  unfold xo_r
  rw [zobj_7 H hn]
  rfl
theorem zr_461 (H : zH A h s) (hn : n < A) : xo_r h (za_7 n) 461 = some (zy_461 n) := by
  unfold xo_r
  rw [zobj_7 H hn]
  rfl
theorem zr_462 (H : zH A h s) (hn : n < A) : xo_r h (za_7 n) 462 = some (zy_462 n) := by
  unfold xo_r
  rw [zobj_7 H hn]
  rfl
theorem zr_463 (H : zH A h s) (hn : n < A) : xo_r h (za_7 n) 463 = some (zy_463 n) := by
  unfold xo_r
  rw [zobj_7 H hn]
  rfl
theorem zr_464 (H : zH A h s) (hn : n < A) : xo_r h (za_7 n) 464 = some (zy_464 n) := by
  unfold xo_r
  rw [zobj_7 H hn]
  rfl
theorem zr_465 (H : zH A h s) (hn : n < A) : xo_r h (za_7 n) 465 = some (zy_465 n) := by
  unfold xo_r
  rw [zobj_7 H hn]
  rfl
theorem zr_466 (H : zH A h s) (hn : n < A) : xo_r h (za_7 n) 466 = some (zy_466 n) := by
  unfold xo_r
  rw [zobj_7 H hn]
  rfl
theorem zr_467 (H : zH A h s) (hn : n < A) : xo_r h (za_7 n) 467 = some (zy_467 n) := by
  unfold xo_r
  rw [zobj_7 H hn]
  rfl
theorem zr_468 (H : zH A h s) (hn : n < A) : xo_r h (za_7 n) 468 = some (zy_468 n) := by
  unfold xo_r
  rw [zobj_7 H hn]
  rfl
theorem zr_512 (H : zH A h s) (hn : n < 1) : xo_r h (za_8 n) 512 = some (za_0 0) := by
  unfold xo_r
  rw [zobj_8 H hn]
  rfl
theorem zr_513 (H : zH A h s) (hn : n < 1) : xo_r h (za_8 n) 513 = some (za_0 1) := by
  unfold xo_r
  rw [zobj_8 H hn]
  rfl
theorem zr_514 (H : zH A h s) (hn : n < 1) : xo_r h (za_8 n) 514 = some (za_4 0) := by
  unfold xo_r
  rw [zobj_8 H hn]
  rfl
theorem zr_515 (H : zH A h s) (hn : n < 1) : xo_r h (za_8 n) 515 = some (zy_515 n) := by
  unfold xo_r
  rw [zobj_8 H hn]
  rfl
theorem zr_516 (H : zH A h s) (hn : n < 1) : xo_r h (za_8 n) 516 = some (za_6 0) := by
  unfold xo_r
  rw [zobj_8 H hn]
  rfl
theorem zr_517 (H : zH A h s) (hn : n < 1) : xo_r h (za_8 n) 517 = some (za_5 0) := by
  unfold xo_r
  rw [zobj_8 H hn]
  rfl
theorem zr_518 (H : zH A h s) (hn : n < 1) : xo_r h (za_8 n) 518 = some (za_5 1) := by
  unfold xo_r
  rw [zobj_8 H hn]
  rfl
theorem zr_519 (H : zH A h s) (hn : n < 1) : xo_r h (za_8 n) 519 = some (za_1 0) := by
  unfold xo_r
  rw [zobj_8 H hn]
  rfl
theorem zr_520 (H : zH A h s) (hn : n < 1) : xo_r h (za_8 n) 520 = some (za_2 0) := by
  unfold xo_r
  rw [zobj_8 H hn]
  rfl
theorem zr_521 (H : zH A h s) (hn : n < 1) : xo_r h (za_8 n) 521 = some (zy_521 n) := by
  unfold xo_r
  rw [zobj_8 H hn]
  rfl
theorem zi_522 (H : zH A h s) (hn : n < 1) : xo_i h (za_8 n) 522 = some (Int32.ofInt (s.1 522 n 0)) := by
  unfold xo_i
  rw [zobj_8 H hn]
  rfl
theorem zi_523 (H : zH A h s) (hn : n < 1) : xo_i h (za_8 n) 523 = some (Int32.ofInt (s.1 523 n 0)) := by
  unfold xo_i
  rw [zobj_8 H hn]
  rfl
theorem zw_0 (H : zH A h s) (hn : n < 3) : xr_M h (zy_0 n) = .inl (.int, (zlB n), .inl fun i => Int32.ofInt (s.1 0 n i)) := by
  match n, hn with
  | 0, _ => exact H.get0 2 _ (by decide) rfl
  | 1, _ => exact H.get0 4 _ (by decide) rfl
  | 2, _ => exact H.get0 37 _ (by decide) rfl
theorem zw_65 (H : zH A h s) (hn : n < 1) : xr_M h (zy_65 n) = .inl (.boolean, 200, .inl fun i => Int32.ofInt (s.1 65 n i)) := by
  match n, hn with
  | 0, _ => exact H.get0 38 _ (by decide) rfl
theorem zw_192 (H : zH A h s) (hn : n < 2) : xr_M h (zy_192 n) = .inl (.int, 200, .inl fun i => Int32.ofInt (s.1 192 n i)) := by
  match n, hn with
  | 0, _ => exact H.get0 13 _ (by decide) rfl
  | 1, _ => exact H.get0 25 _ (by decide) rfl
theorem zw_193 (H : zH A h s) (hn : n < 2) : xr_M h (zy_193 n) = .inl (.int, 200, .inl fun i => Int32.ofInt (s.1 193 n i)) := by
  match n, hn with
  | 0, _ => exact H.get0 14 _ (by decide) rfl
  | 1, _ => exact H.get0 26 _ (by decide) rfl
theorem zw_194 (H : zH A h s) (hn : n < 2) : xr_M h (zy_194 n) = .inl (.int, 200, .inl fun i => Int32.ofInt (s.1 194 n i)) := by
  match n, hn with
  | 0, _ => exact H.get0 15 _ (by decide) rfl
  | 1, _ => exact H.get0 27 _ (by decide) rfl
theorem zw_195 (H : zH A h s) (hn : n < 2) : xr_M h (zy_195 n) = .inl (.int, 200, .inl fun i => Int32.ofInt (s.1 195 n i)) := by
  match n, hn with
  | 0, _ => exact H.get0 16 _ (by decide) rfl
  | 1, _ => exact H.get0 28 _ (by decide) rfl
theorem zw_196 (H : zH A h s) (hn : n < 2) : xr_M h (zy_196 n) = .inl (.int, 200, .inl fun i => Int32.ofInt (s.1 196 n i)) := by
  match n, hn with
  | 0, _ => exact H.get0 17 _ (by decide) rfl
  | 1, _ => exact H.get0 29 _ (by decide) rfl
theorem zw_197 (H : zH A h s) (hn : n < 2) : xr_M h (zy_197 n) = .inl (.int, 200, .inl fun i => Int32.ofInt (s.1 197 n i)) := by
  match n, hn with
  | 0, _ => exact H.get0 18 _ (by decide) rfl
  | 1, _ => exact H.get0 30 _ (by decide) rfl
theorem zw_198 (H : zH A h s) (hn : n < 2) : xr_M h (zy_198 n) = .inl (.int, 200, .inl fun i => Int32.ofInt (s.1 198 n i)) := by
  match n, hn with
  | 0, _ => exact H.get0 19 _ (by decide) rfl
  | 1, _ => exact H.get0 31 _ (by decide) rfl
theorem zw_328 (H : zH A h s) (hn : n < 2) : xr_M h (zy_328 n) = .inl (.int, 48, .inl fun i => Int32.ofInt (s.1 328 n i)) := by
  match n, hn with
  | 0, _ => exact H.get0 20 _ (by decide) rfl
  | 1, _ => exact H.get0 32 _ (by decide) rfl
theorem zw_329 (H : zH A h s) (hn : n < 2) : xr_M h (zy_329 n) = .inl (.int, 48, .inl fun i => Int32.ofInt (s.1 329 n i)) := by
  match n, hn with
  | 0, _ => exact H.get0 21 _ (by decide) rfl
  | 1, _ => exact H.get0 33 _ (by decide) rfl
theorem zw_330 (H : zH A h s) (hn : n < 2) : xr_M h (zy_330 n) = .inl (.int, 48, .inl fun i => Int32.ofInt (s.1 330 n i)) := by
  match n, hn with
  | 0, _ => exact H.get0 22 _ (by decide) rfl
  | 1, _ => exact H.get0 34 _ (by decide) rfl
theorem zw_384 (H : zH A h s) (hn : n < 1) : xr_M h (zy_384 n) = .inl (.int, 4800, .inl fun i => Int32.ofInt (s.1 384 n i)) := by
  match n, hn with
  | 0, _ => exact H.get0 8 _ (by decide) rfl
theorem zw_385 (H : zH A h s) (hn : n < 1) : xr_M h (zy_385 n) = .inl (.int, 30, .inl fun i => Int32.ofInt (s.1 385 n i)) := by
  match n, hn with
  | 0, _ => exact H.get0 9 _ (by decide) rfl
theorem zw_386 (H : zH A h s) (hn : n < 1) : xr_M h (zy_386 n) = .inl (.int, 30, .inl fun i => Int32.ofInt (s.1 386 n i)) := by
  match n, hn with
  | 0, _ => exact H.get0 10 _ (by decide) rfl
theorem zw_452 (H : zH A h s) (hn : n < A) : xr_M h (zy_452 n) = .inl (.int, 6, .inl fun i => Int32.ofInt (s.1 452 n i)) := by
  match n, hn with
  | 0, hn => exact H.get 45 _ (by have := H.1; omega) rfl
  | 1, hn => exact H.get 63 _ (by have := H.1; omega) rfl
  | 2, hn => exact H.get 81 _ (by have := H.1; omega) rfl
  | 3, hn => exact H.get 99 _ (by have := H.1; omega) rfl
  | k + 4, hn => exact absurd (Nat.lt_of_lt_of_le hn H.le4) (by omega)
theorem zw_453 (H : zH A h s) (hn : n < A) : xr_M h (zy_453 n) = .inl (.int, 6, .inl fun i => Int32.ofInt (s.1 453 n i)) := by
  match n, hn with
  | 0, hn => exact H.get 46 _ (by have := H.1; omega) rfl
  | 1, hn => exact H.get 64 _ (by have := H.1; omega) rfl
  | 2, hn => exact H.get 82 _ (by have := H.1; omega) rfl
  | 3, hn => exact H.get 100 _ (by have := H.1; omega) rfl
  | k + 4, hn => exact absurd (Nat.lt_of_lt_of_le hn H.le4) (by omega)
theorem zw_454 (H : zH A h s) (hn : n < A) : xr_M h (zy_454 n) = .inl (.int, 100, .inl fun i => Int32.ofInt (s.1 454 n i)) := by
  match n, hn with
  | 0, hn => exact H.get 47 _ (by have := H.1; omega) rfl
  | 1, hn => exact H.get 65 _ (by have := H.1; omega) rfl
  | 2, hn => exact H.get 83 _ (by have := H.1; omega) rfl
  | 3, hn => exact H.get 101 _ (by have := H.1; omega) rfl
  | k + 4, hn => exact absurd (Nat.lt_of_lt_of_le hn H.le4) (by omega)
theorem zw_455 (H : zH A h s) (hn : n < A) : xr_M h (zy_455 n) = .inl (.int, 100, .inl fun i => Int32.ofInt (s.1 455 n i)) := by
  match n, hn with
  | 0, hn => exact H.get 48 _ (by have := H.1; omega) rfl
  | 1, hn => exact H.get 66 _ (by have := H.1; omega) rfl
  | 2, hn => exact H.get 84 _ (by have := H.1; omega) rfl
  | 3, hn => exact H.get 102 _ (by have := H.1; omega) rfl
  | k + 4, hn => exact absurd (Nat.lt_of_lt_of_le hn H.le4) (by omega)
theorem zw_456 (H : zH A h s) (hn : n < A) : xr_M h (zy_456 n) = .inl (.int, 100, .inl fun i => Int32.ofInt (s.1 456 n i)) := by
  match n, hn with
  | 0, hn => exact H.get 49 _ (by have := H.1; omega) rfl
  | 1, hn => exact H.get 67 _ (by have := H.1; omega) rfl
  | 2, hn => exact H.get 85 _ (by have := H.1; omega) rfl
  | 3, hn => exact H.get 103 _ (by have := H.1; omega) rfl
  | k + 4, hn => exact absurd (Nat.lt_of_lt_of_le hn H.le4) (by omega)
theorem zw_457 (H : zH A h s) (hn : n < A) : xr_M h (zy_457 n) = .inl (.int, 48, .inl fun i => Int32.ofInt (s.1 457 n i)) := by
  match n, hn with
  | 0, hn => exact H.get 50 _ (by have := H.1; omega) rfl
  | 1, hn => exact H.get 68 _ (by have := H.1; omega) rfl
  | 2, hn => exact H.get 86 _ (by have := H.1; omega) rfl
  | 3, hn => exact H.get 104 _ (by have := H.1; omega) rfl
  | k + 4, hn => exact absurd (Nat.lt_of_lt_of_le hn H.le4) (by omega)
theorem zw_458 (H : zH A h s) (hn : n < A) : xr_M h (zy_458 n) = .inl (.int, 48, .inl fun i => Int32.ofInt (s.1 458 n i)) := by
  match n, hn with
  | 0, hn => exact H.get 51 _ (by have := H.1; omega) rfl
  | 1, hn => exact H.get 69 _ (by have := H.1; omega) rfl
  | 2, hn => exact H.get 87 _ (by have := H.1; omega) rfl
  | 3, hn => exact H.get 105 _ (by have := H.1; omega) rfl
  | k + 4, hn => exact absurd (Nat.lt_of_lt_of_le hn H.le4) (by omega)
theorem zw_459 (H : zH A h s) (hn : n < A) : xr_M h (zy_459 n) = .inl (.int, 48, .inl fun i => Int32.ofInt (s.1 459 n i)) := by
  match n, hn with
  | 0, hn => exact H.get 52 _ (by have := H.1; omega) rfl
  | 1, hn => exact H.get 70 _ (by have := H.1; omega) rfl
  | 2, hn => exact H.get 88 _ (by have := H.1; omega) rfl
  | 3, hn => exact H.get 106 _ (by have := H.1; omega) rfl
  | k + 4, hn => exact absurd (Nat.lt_of_lt_of_le hn H.le4) (by omega)
theorem zw_460 (H : zH A h s) (hn : n < A) : xr_M h (zy_460 n) = .inl (.int, 48, .inl fun i => Int32.ofInt (s.1 460 n i)) := by
  match n, hn with
  | 0, hn => exact H.get 53 _ (by have := H.1; omega) rfl
  | 1, hn => exact H.get 71 _ (by have := H.1; omega) rfl
  | 2, hn => exact H.get 89 _ (by have := H.1; omega) rfl
  | 3, hn => exact H.get 107 _ (by have := H.1; omega) rfl
  | k + 4, hn => exact absurd (Nat.lt_of_lt_of_le hn H.le4) (by omega)
theorem zw_461 (H : zH A h s) (hn : n < A) : xr_M h (zy_461 n) = .inl (.int, 48, .inl fun i => Int32.ofInt (s.1 461 n i)) := by
  match n, hn with
  | 0, hn => exact H.get 54 _ (by have := H.1; omega) rfl
  | 1, hn => exact H.get 72 _ (by have := H.1; omega) rfl
  | 2, hn => exact H.get 90 _ (by have := H.1; omega) rfl
  | 3, hn => exact H.get 108 _ (by have := H.1; omega) rfl
  | k + 4, hn => exact absurd (Nat.lt_of_lt_of_le hn H.le4) (by omega)
theorem zw_462 (H : zH A h s) (hn : n < A) : xr_M h (zy_462 n) = .inl (.int, 48, .inl fun i => Int32.ofInt (s.1 462 n i)) := by
  match n, hn with
  | 0, hn => exact H.get 55 _ (by have := H.1; omega) rfl
  | 1, hn => exact H.get 73 _ (by have := H.1; omega) rfl
  | 2, hn => exact H.get 91 _ (by have := H.1; omega) rfl
  | 3, hn => exact H.get 109 _ (by have := H.1; omega) rfl
  | k + 4, hn => exact absurd (Nat.lt_of_lt_of_le hn H.le4) (by omega)
theorem zw_463 (H : zH A h s) (hn : n < A) : xr_M h (zy_463 n) = .inl (.int, 48, .inl fun i => Int32.ofInt (s.1 463 n i)) := by
  match n, hn with
  | 0, hn => exact H.get 56 _ (by have := H.1; omega) rfl
  | 1, hn => exact H.get 74 _ (by have := H.1; omega) rfl
  | 2, hn => exact H.get 92 _ (by have := H.1; omega) rfl
  | 3, hn => exact H.get 110 _ (by have := H.1; omega) rfl
  | k + 4, hn => exact absurd (Nat.lt_of_lt_of_le hn H.le4) (by omega)
theorem zw_464 (H : zH A h s) (hn : n < A) : xr_M h (zy_464 n) = .inl (.int, 48, .inl fun i => Int32.ofInt (s.1 464 n i)) := by
  match n, hn with
  | 0, hn => exact H.get 57 _ (by have := H.1; omega) rfl
  | 1, hn => exact H.get 75 _ (by have := H.1; omega) rfl
  | 2, hn => exact H.get 93 _ (by have := H.1; omega) rfl
  | 3, hn => exact H.get 111 _ (by have := H.1; omega) rfl
  | k + 4, hn => exact absurd (Nat.lt_of_lt_of_le hn H.le4) (by omega)
theorem zw_465 (H : zH A h s) (hn : n < A) : xr_M h (zy_465 n) = .inl (.int, 48, .inl fun i => Int32.ofInt (s.1 465 n i)) := by
  match n, hn with
  | 0, hn => exact H.get 58 _ (by have := H.1; omega) rfl
  | 1, hn => exact H.get 76 _ (by have := H.1; omega) rfl
  | 2, hn => exact H.get 94 _ (by have := H.1; omega) rfl
  | 3, hn => exact H.get 112 _ (by have := H.1; omega) rfl
  | k + 4, hn => exact absurd (Nat.lt_of_lt_of_le hn H.le4) (by omega)
theorem zw_466 (H : zH A h s) (hn : n < A) : xr_M h (zy_466 n) = .inl (.int, 48, .inl fun i => Int32.ofInt (s.1 466 n i)) := by
  match n, hn with
  | 0, hn => exact H.get 59 _ (by have := H.1; omega) rfl
  | 1, hn => exact H.get 77 _ (by have := H.1; omega) rfl
  | 2, hn => exact H.get 95 _ (by have := H.1; omega) rfl
  | 3, hn => exact H.get 113 _ (by have := H.1; omega) rfl
  | k + 4, hn => exact absurd (Nat.lt_of_lt_of_le hn H.le4) (by omega)
theorem zw_467 (H : zH A h s) (hn : n < A) : xr_M h (zy_467 n) = .inl (.int, 48, .inl fun i => Int32.ofInt (s.1 467 n i)) := by
  match n, hn with
  | 0, hn => exact H.get 60 _ (by have := H.1; omega) rfl
  | 1, hn => exact H.get 78 _ (by have := H.1; omega) rfl
  | 2, hn => exact H.get 96 _ (by have := H.1; omega) rfl
  | 3, hn => exact H.get 114 _ (by have := H.1; omega) rfl
  | k + 4, hn => exact absurd (Nat.lt_of_lt_of_le hn H.le4) (by omega)
theorem zw_468 (H : zH A h s) (hn : n < A) : xr_M h (zy_468 n) = .inl (.int, 48, .inl fun i => Int32.ofInt (s.1 468 n i)) := by
  match n, hn with
  | 0, hn => exact H.get 61 _ (by have := H.1; omega) rfl
  | 1, hn => exact H.get 79 _ (by have := H.1; omega) rfl
  | 2, hn => exact H.get 97 _ (by have := H.1; omega) rfl
  | 3, hn => exact H.get 115 _ (by have := H.1; omega) rfl
  | k + 4, hn => exact absurd (Nat.lt_of_lt_of_le hn H.le4) (by omega)
theorem zw_515 (H : zH A h s) (hn : n < 1) : xr_M h (zy_515 n) = .inl (.object RX7, 4, .inr (.inr (.inr (.inr fun i => zT (s.1 515 n i))))) := by
  match n, hn with
  | 0, _ => exact H.get0 6 _ (by decide) rfl
theorem zw_521 (H : zH A h s) (hn : n < 1) : xr_M h (zy_521 n) = .inl (.boolean, 1536, .inl fun i => Int32.ofInt (s.1 521 n i)) := by
  match n, hn with
  | 0, _ => exact H.get0 40 _ (by decide) rfl
theorem zw_576 (H : zH A h s) (hn : n < 1) : xr_M h (zy_576 n) = .inl (.int, 21, .inl fun i => Int32.ofInt (s.1 576 n i)) := by
  match n, hn with
  | 0, _ => exact H.get0 41 _ (by decide) rfl
theorem zw_577 (H : zH A h s) (hn : n < 1) : xr_M h (zy_577 n) = .inl (.int, 64, .inl fun i => Int32.ofInt (s.1 577 n i)) := by
  match n, hn with
  | 0, _ => exact H.get0 42 _ (by decide) rfl
theorem zw_578 (H : zH A h s) (hn : n < 1) : xr_M h (zy_578 n) = .inl (.int, 4, .inl fun i => Int32.ofInt (s.1 578 n i)) := by
  match n, hn with
  | 0, _ => exact H.get0 43 _ (by decide) rfl
end
