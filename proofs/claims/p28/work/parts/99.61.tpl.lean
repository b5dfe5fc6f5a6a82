/-! THE TEMPLATE of the law: its text, the tables that the parser makes of it (written by wip/p28/gen_tpl.py) -/
def tpX : List Int := [65, 123, 109, 58, 98, 61, 55, 55, 59, 108, 58, 98, 61, 35, 100, 59, 110, 58, 98, 61, 37, 101, 59, 100, 58, 115, 40, 108, 41, 59, 101, 58, 66, 91, 110, 93, 59, 99, 58, 98, 61, 43, 100, 59, 120, 58, 98, 61, 94, 101, 59, 114, 58, 114, 66, 59, 125, 66, 123, 116, 58, 98, 61, 35, 118, 59, 118, 58, 115, 40, 116, 41, 59, 125]
def tpG : Int → Int := pa_sg (fun i => tpX.getD i.toNat 0) 74
def tpU0 : yT := (pa_all tpG fun _ _ => 0).getD fun _ _ => 0
def tpU : yT := pa_w 448 0 3 tpU0
theorem tp_all : pa_all tpG (fun _ _ => 0) = some tpU0 := by
  have h : (pa_all tpG fun _ _ => 0).isSome = true := by decide +kernel
  unfold tpU0
  cases e : pa_all tpG fun _ _ => 0 with
  | none =>
    rw [e] at h
    cases h
  | some x => rfl
def tpL : List (Nat × Int × Int) := [(448, 0, 3), (449, 0, 2), (450, 0, 3), (451, 0, 2), (452, 0, 0), (452, 1, 1), (453, 0, 8), (453, 1, 2), (454, 0, -2), (454, 1, -3), (454, 2, -1), (455, 0, 43), (455, 1, 43), (455, 2, 43), (456, 0, 1), (456, 1, 1), (457, 0, 12), (457, 1, 11), (457, 2, 13), (457, 3, 3), (457, 4, 4), (457, 5, 2), (457, 6, 23), (457, 7, 17), (457, 8, 19), (457, 9, 21), (458, 0, 98), (458, 1, 98), (458, 2, 98), (458, 3, 115), (458, 4, 91), (458, 5, 98), (458, 6, 98), (458, 7, 114), (458, 8, 98), (458, 9, 115), (459, 0, 8), (459, 1, 8), (459, 2, 8), (459, 3, 8), (459, 5, 8), (459, 6, 8), (459, 7, 8), (459, 8, 8), (459, 9, 8), (461, 3, 0), (461, 4, 1), (461, 9, 2), (462, 3, 1), (462, 4, 2), (462, 9, 3), (463, 4, 0), (463, 7, 1), (464, 4, 1), (464, 7, 2), (465, 4, 43), (467, 0, 61), (467, 1, 35), (467, 2, 37), (467, 3, 0), (467, 4, 0), (467, 5, 43), (467, 6, 94), (467, 7, 0), (467, 8, 35), (467, 9, 0), (468, 0, 77), (468, 1, 3), (468, 2, 4), (468, 5, 3), (468, 6, 4), (468, 8, 9)]
/-- T holds these tables -/
def tpH (T : yT) : Prop := ∀ q ∈ tpL, T q.1 q.2.1 = q.2.2
theorem tpU_H : tpH tpU := by
  unfold tpH
  decide +kernel
section
variable {T : yT}
theorem tpH.f448_0 (h : tpH T) : T 448 0 = 3 := h (448, 0, 3) (by decide +kernel)
theorem tpH.f449_0 (h : tpH T) : T 449 0 = 2 := h (449, 0, 2) (by decide +kernel)
theorem tpH.f450_0 (h : tpH T) : T 450 0 = 3 := h (450, 0, 3) (by decide +kernel)
theorem tpH.f451_0 (h : tpH T) : T 451 0 = 2 := h (451, 0, 2) (by decide +kernel)
theorem tpH.f452_0 (h : tpH T) : T 452 0 = 0 := h (452, 0, 0) (by decide +kernel)
theorem tpH.f452_1 (h : tpH T) : T 452 1 = 1 := h (452, 1, 1) (by decide +kernel)
theorem tpH.f453_0 (h : tpH T) : T 453 0 = 8 := h (453, 0, 8) (by decide +kernel)
theorem tpH.f453_1 (h : tpH T) : T 453 1 = 2 := h (453, 1, 2) (by decide +kernel)
theorem tpH.f454_0 (h : tpH T) : T 454 0 = -2 := h (454, 0, -2) (by decide +kernel)
theorem tpH.f454_1 (h : tpH T) : T 454 1 = -3 := h (454, 1, -3) (by decide +kernel)
theorem tpH.f454_2 (h : tpH T) : T 454 2 = -1 := h (454, 2, -1) (by decide +kernel)
theorem tpH.f455_0 (h : tpH T) : T 455 0 = 43 := h (455, 0, 43) (by decide +kernel)
theorem tpH.f455_1 (h : tpH T) : T 455 1 = 43 := h (455, 1, 43) (by decide +kernel)
theorem tpH.f455_2 (h : tpH T) : T 455 2 = 43 := h (455, 2, 43) (by decide +kernel)
theorem tpH.f456_0 (h : tpH T) : T 456 0 = 1 := h (456, 0, 1) (by decide +kernel)
theorem tpH.f456_1 (h : tpH T) : T 456 1 = 1 := h (456, 1, 1) (by decide +kernel)
theorem tpH.f457_0 (h : tpH T) : T 457 0 = 12 := h (457, 0, 12) (by decide +kernel)
theorem tpH.f457_1 (h : tpH T) : T 457 1 = 11 := h (457, 1, 11) (by decide +kernel)
theorem tpH.f457_2 (h : tpH T) : T 457 2 = 13 := h (457, 2, 13) (by decide +kernel)
theorem tpH.f457_3 (h : tpH T) : T 457 3 = 3 := h (457, 3, 3) (by decide +kernel)
theorem tpH.f457_4 (h : tpH T) : T 457 4 = 4 := h (457, 4, 4) (by decide +kernel)
theorem tpH.f457_5 (h : tpH T) : T 457 5 = 2 := h (457, 5, 2) (by decide +kernel)
theorem tpH.f457_6 (h : tpH T) : T 457 6 = 23 := h (457, 6, 23) (by decide +kernel)
theorem tpH.f457_7 (h : tpH T) : T 457 7 = 17 := h (457, 7, 17) (by decide +kernel)
theorem tpH.f457_8 (h : tpH T) : T 457 8 = 19 := h (457, 8, 19) (by decide +kernel)
theorem tpH.f457_9 (h : tpH T) : T 457 9 = 21 := h (457, 9, 21) (by decide +kernel)
theorem tpH.f458_0 (h : tpH T) : T 458 0 = 98 := h (458, 0, 98) (by decide +kernel)
theorem tpH.f458_1 (h : tpH T) : T 458 1 = 98 := h (458, 1, 98) (by decide +kernel)
theorem tpH.f458_2 (h : tpH T) : T 458 2 = 98 := h (458, 2, 98) (by decide +kernel)
theorem tpH.f458_3 (h : tpH T) : T 458 3 = 115 := h (458, 3, 115) (by decide +kernel)
theorem tpH.f458_4 (h : tpH T) : T 458 4 = 91 := h (458, 4, 91) (by decide +kernel)
theorem tpH.f458_5 (h : tpH T) : T 458 5 = 98 := h (458, 5, 98) (by decide +kernel)
theorem tpH.f458_6 (h : tpH T) : T 458 6 = 98 := h (458, 6, 98) (by decide +kernel)
theorem tpH.f458_7 (h : tpH T) : T 458 7 = 114 := h (458, 7, 114) (by decide +kernel)
theorem tpH.f458_8 (h : tpH T) : T 458 8 = 98 := h (458, 8, 98) (by decide +kernel)
theorem tpH.f458_9 (h : tpH T) : T 458 9 = 115 := h (458, 9, 115) (by decide +kernel)
theorem tpH.f459_0 (h : tpH T) : T 459 0 = 8 := h (459, 0, 8) (by decide +kernel)
theorem tpH.f459_1 (h : tpH T) : T 459 1 = 8 := h (459, 1, 8) (by decide +kernel)
theorem tpH.f459_2 (h : tpH T) : T 459 2 = 8 := h (459, 2, 8) (by decide +kernel)
theorem tpH.f459_3 (h : tpH T) : T 459 3 = 8 := h (459, 3, 8) (by decide +kernel)
theorem tpH.f459_5 (h : tpH T) : T 459 5 = 8 := h (459, 5, 8) (by decide +kernel)
theorem tpH.f459_6 (h : tpH T) : T 459 6 = 8 := h (459, 6, 8) (by decide +kernel)
theorem tpH.f459_7 (h : tpH T) : T 459 7 = 8 := h (459, 7, 8) (by decide +kernel)
theorem tpH.f459_8 (h : tpH T) : T 459 8 = 8 := h (459, 8, 8) (by decide +kernel)
theorem tpH.f459_9 (h : tpH T) : T 459 9 = 8 := h (459, 9, 8) (by decide +kernel)
theorem tpH.f461_3 (h : tpH T) : T 461 3 = 0 := h (461, 3, 0) (by decide +kernel)
theorem tpH.f461_4 (h : tpH T) : T 461 4 = 1 := h (461, 4, 1) (by decide +kernel)
theorem tpH.f461_9 (h : tpH T) : T 461 9 = 2 := h (461, 9, 2) (by decide +kernel)
theorem tpH.f462_3 (h : tpH T) : T 462 3 = 1 := h (462, 3, 1) (by decide +kernel)
theorem tpH.f462_4 (h : tpH T) : T 462 4 = 2 := h (462, 4, 2) (by decide +kernel)
theorem tpH.f462_9 (h : tpH T) : T 462 9 = 3 := h (462, 9, 3) (by decide +kernel)
theorem tpH.f463_4 (h : tpH T) : T 463 4 = 0 := h (463, 4, 0) (by decide +kernel)
theorem tpH.f463_7 (h : tpH T) : T 463 7 = 1 := h (463, 7, 1) (by decide +kernel)
theorem tpH.f464_4 (h : tpH T) : T 464 4 = 1 := h (464, 4, 1) (by decide +kernel)
theorem tpH.f464_7 (h : tpH T) : T 464 7 = 2 := h (464, 7, 2) (by decide +kernel)
theorem tpH.f465_4 (h : tpH T) : T 465 4 = 43 := h (465, 4, 43) (by decide +kernel)
theorem tpH.f467_0 (h : tpH T) : T 467 0 = 61 := h (467, 0, 61) (by decide +kernel)
theorem tpH.f467_1 (h : tpH T) : T 467 1 = 35 := h (467, 1, 35) (by decide +kernel)
theorem tpH.f467_2 (h : tpH T) : T 467 2 = 37 := h (467, 2, 37) (by decide +kernel)
theorem tpH.f467_3 (h : tpH T) : T 467 3 = 0 := h (467, 3, 0) (by decide +kernel)
theorem tpH.f467_4 (h : tpH T) : T 467 4 = 0 := h (467, 4, 0) (by decide +kernel)
theorem tpH.f467_5 (h : tpH T) : T 467 5 = 43 := h (467, 5, 43) (by decide +kernel)
theorem tpH.f467_6 (h : tpH T) : T 467 6 = 94 := h (467, 6, 94) (by decide +kernel)
theorem tpH.f467_7 (h : tpH T) : T 467 7 = 0 := h (467, 7, 0) (by decide +kernel)
theorem tpH.f467_8 (h : tpH T) : T 467 8 = 35 := h (467, 8, 35) (by decide +kernel)
theorem tpH.f467_9 (h : tpH T) : T 467 9 = 0 := h (467, 9, 0) (by decide +kernel)
theorem tpH.f468_0 (h : tpH T) : T 468 0 = 77 := h (468, 0, 77) (by decide +kernel)
theorem tpH.f468_1 (h : tpH T) : T 468 1 = 3 := h (468, 1, 3) (by decide +kernel)
theorem tpH.f468_2 (h : tpH T) : T 468 2 = 4 := h (468, 2, 4) (by decide +kernel)
theorem tpH.f468_5 (h : tpH T) : T 468 5 = 3 := h (468, 5, 3) (by decide +kernel)
theorem tpH.f468_6 (h : tpH T) : T 468 6 = 4 := h (468, 6, 4) (by decide +kernel)
theorem tpH.f468_8 (h : tpH T) : T 468 8 = 9 := h (468, 8, 9) (by decide +kernel)
theorem tp_k {P : Int → Prop} {n : Nat} (h : ∀ i : Nat, i < n → P i) : ∀ k : Int, 0 ≤ k → k < n → P k := fun k k0 k1 => by
  have := h k.toNat (by omega)
  rwa [Int.toNat_of_nonneg k0] at this
theorem tp_wf0 (h : tpH T) : yWF T 0 0 := by
  unfold yWF
  rw [show (8 * 0 + 0 : Int) = 0 from rfl, h.f458_0, h.f457_0, h.f467_0, h.f459_0, h.f468_0]
  exact ⟨by decide, by decide, fun z => absurd z (by decide), fun z => absurd z (by decide), fun z => False.elim (by omega), fun z => absurd z (by decide), fun _ => by decide, fun z => absurd z (by decide), Or.inr ⟨by decide, Or.inl rfl⟩⟩
theorem tp_wf1 (h : tpH T) : yWF T 0 1 := by
  unfold yWF
  rw [show (8 * 0 + 1 : Int) = 1 from rfl, h.f458_1, h.f457_1, h.f467_1, h.f459_1, h.f468_1, h.f453_0]
  exact ⟨by decide, by decide, fun z => absurd z (by decide), fun z => absurd z (by decide), fun z => False.elim (by omega), fun z => absurd z (by decide), fun _ => by decide, fun z => absurd z (by decide), Or.inr ⟨by decide, Or.inr ⟨by decide, by decide, by decide, by decide, fun z => absurd z (by decide)⟩⟩⟩
theorem tp_wf2 (h : tpH T) : yWF T 0 2 := by
  unfold yWF
  rw [show (8 * 0 + 2 : Int) = 2 from rfl, h.f458_2, h.f457_2, h.f467_2, h.f459_2, h.f468_2, h.f453_0]
  exact ⟨by decide, by decide, fun z => absurd z (by decide), fun z => absurd z (by decide), fun z => False.elim (by omega), fun z => absurd z (by decide), fun _ => by decide, fun z => absurd z (by decide), Or.inr ⟨by decide, Or.inr ⟨by decide, by decide, by decide, by decide, fun _ => h.f458_4⟩⟩⟩
theorem tp_wf3 (h : tpH T) : yWF T 0 3 := by
  unfold yWF
  rw [show (8 * 0 + 3 : Int) = 3 from rfl, h.f458_3, h.f457_3, h.f467_3, h.f459_3, h.f461_3, h.f462_3]
  exact ⟨by decide, by decide, fun z => absurd z (by decide), fun z => absurd z (by decide), fun _ => ⟨by decide, by decide, by decide, fun j j1 j2 => by rw [show j = 0 by omega, h.f454_0]; exact ⟨by decide, fun _ => ⟨by decide, by rw [show (8 * 0 + (-1 - (-2)) : Int) = 1 from rfl, h.f458_1]; decide⟩⟩⟩, fun z => absurd z (by decide), fun z => absurd z (by decide), fun z => absurd z (by decide), Or.inl rfl⟩
theorem tp_wf4 (h : tpH T) : yWF T 0 4 := by
  unfold yWF
  rw [show (8 * 0 + 4 : Int) = 4 from rfl, h.f458_4, h.f457_4, h.f467_4, h.f461_4, h.f462_4, h.f463_4, h.f464_4, h.f465_4]
  exact ⟨by decide, by decide, fun _ => ⟨by decide, by decide, by decide, fun j j1 j2 => by rw [show j = 0 by omega, h.f456_0, h.f449_0]; decide⟩, fun _ => by decide, fun _ => ⟨by decide, by decide, by decide, fun j j1 j2 => by rw [show j = 1 by omega, h.f454_1]; exact ⟨by decide, fun _ => ⟨by decide, by rw [show (8 * 0 + (-1 - (-3)) : Int) = 2 from rfl, h.f458_2]; decide⟩⟩⟩, fun z => absurd z (by decide), fun z => absurd z (by decide), fun z => absurd z (by decide), Or.inl rfl⟩
theorem tp_wf5 (h : tpH T) : yWF T 0 5 := by
  unfold yWF
  rw [show (8 * 0 + 5 : Int) = 5 from rfl, h.f458_5, h.f457_5, h.f467_5, h.f459_5, h.f468_5, h.f453_0]
  exact ⟨by decide, by decide, fun z => absurd z (by decide), fun z => absurd z (by decide), fun z => False.elim (by omega), fun z => absurd z (by decide), fun _ => by decide, fun z => absurd z (by decide), Or.inr ⟨by decide, Or.inr ⟨by decide, by decide, by decide, by decide, fun z => absurd z (by decide)⟩⟩⟩
theorem tp_wf6 (h : tpH T) : yWF T 0 6 := by
  unfold yWF
  rw [show (8 * 0 + 6 : Int) = 6 from rfl, h.f458_6, h.f457_6, h.f467_6, h.f459_6, h.f468_6, h.f453_0]
  exact ⟨by decide, by decide, fun z => absurd z (by decide), fun z => absurd z (by decide), fun z => False.elim (by omega), fun z => absurd z (by decide), fun _ => by decide, fun z => absurd z (by decide), Or.inr ⟨by decide, Or.inr ⟨by decide, by decide, by decide, by decide, fun z => absurd z (by decide)⟩⟩⟩
theorem tp_wf7 (h : tpH T) : yWF T 0 7 := by
  unfold yWF
  rw [show (8 * 0 + 7 : Int) = 7 from rfl, h.f458_7, h.f457_7, h.f467_7, h.f459_7, h.f463_7, h.f464_7]
  exact ⟨by decide, by decide, fun _ => ⟨by decide, by decide, by decide, fun j j1 j2 => by rw [show j = 1 by omega, h.f456_1, h.f449_0]; decide⟩, fun z => absurd z (by decide), fun z => False.elim (by omega), fun z => absurd z (by decide), fun _ => by decide, fun z => absurd z (by decide), Or.inl rfl⟩
theorem tp_wf8 (h : tpH T) : yWF T 1 0 := by
  unfold yWF
  rw [show (8 * 1 + 0 : Int) = 8 from rfl, h.f458_8, h.f457_8, h.f467_8, h.f459_8, h.f468_8, h.f453_1]
  exact ⟨by decide, by decide, fun z => absurd z (by decide), fun z => absurd z (by decide), fun z => False.elim (by omega), fun z => absurd z (by decide), fun _ => by decide, fun z => absurd z (by decide), Or.inr ⟨by decide, Or.inr ⟨by decide, by decide, by decide, by decide, fun z => absurd z (by decide)⟩⟩⟩
theorem tp_wf9 (h : tpH T) : yWF T 1 1 := by
  unfold yWF
  rw [show (8 * 1 + 1 : Int) = 9 from rfl, h.f458_9, h.f457_9, h.f467_9, h.f459_9, h.f461_9, h.f462_9]
  exact ⟨by decide, by decide, fun z => absurd z (by decide), fun z => absurd z (by decide), fun _ => ⟨by decide, by decide, by decide, fun j j1 j2 => by rw [show j = 2 by omega, h.f454_2]; exact ⟨by decide, fun _ => ⟨by decide, by rw [show (8 * 1 + (-1 - (-1)) : Int) = 8 from rfl, h.f458_8]; decide⟩⟩⟩, fun z => absurd z (by decide), fun z => absurd z (by decide), fun z => absurd z (by decide), Or.inl rfl⟩
theorem tp_WT (h : tpH T) : yWT T := by
  refine ⟨by rw [h.f449_0]; decide, by rw [h.f449_0]; decide, fun st s0 s1 => ?_⟩
  rw [h.f449_0] at s1
  have c : st = 0 ∨ st = 1 := by omega
  rcases c with rfl | rfl
  · rw [h.f453_0]
    refine ⟨by decide, by decide, tp_k (n := 8) fun i hi => ?_⟩
    match i, hi with
    | 0, _ => exact tp_wf0 h
    | 1, _ => exact tp_wf1 h
    | 2, _ => exact tp_wf2 h
    | 3, _ => exact tp_wf3 h
    | 4, _ => exact tp_wf4 h
    | 5, _ => exact tp_wf5 h
    | 6, _ => exact tp_wf6 h
    | 7, _ => exact tp_wf7 h
  · rw [h.f453_1]
    refine ⟨by decide, by decide, tp_k (n := 2) fun i hi => ?_⟩
    match i, hi with
    | 0, _ => exact tp_wf8 h
    | 1, _ => exact tp_wf9 h
end
theorem tpU_BE : yBE tpU := by
  unfold yBE
  intro st s0 s1
  rw [tpU_H.f449_0] at s1
  have c : st = 0 ∨ st = 1 := by omega
  rcases c with rfl | rfl
  · rw [tpU_H.f453_0]
    refine ⟨by decide +kernel, tp_k (n := 8) fun i hi => ?_⟩
    match i, hi with
    | 0, _ => exact ⟨by decide +kernel, by decide +kernel, by decide +kernel⟩
    | 1, _ => exact ⟨by decide +kernel, by decide +kernel, by decide +kernel⟩
    | 2, _ => exact ⟨by decide +kernel, by decide +kernel, by decide +kernel⟩
    | 3, _ => exact ⟨by decide +kernel, by decide +kernel, by decide +kernel⟩
    | 4, _ => exact ⟨by decide +kernel, by decide +kernel, by decide +kernel⟩
    | 5, _ => exact ⟨by decide +kernel, by decide +kernel, by decide +kernel⟩
    | 6, _ => exact ⟨by decide +kernel, by decide +kernel, by decide +kernel⟩
    | 7, _ => exact ⟨by decide +kernel, by decide +kernel, by decide +kernel⟩
  · rw [tpU_H.f453_1]
    refine ⟨by decide +kernel, tp_k (n := 2) fun i hi => ?_⟩
    match i, hi with
    | 0, _ => exact ⟨by decide +kernel, by decide +kernel, by decide +kernel⟩
    | 1, _ => exact ⟨by decide +kernel, by decide +kernel, by decide +kernel⟩
