/-! THE STORE: what the class and the reference hold, as whole numbers by field, object and index; and what it is to say the same of the runner's heap. Written by wip/whole/gen_z.py. -/
abbrev zS : Type := (Nat → Nat → Int → Int) × Nat × Nat
abbrev zR : Type := Option ((Int ⊕ Nat) × zS)
abbrev zrng (v : Int) : Prop := -2147483648 ≤ v ∧ v ≤ 2147483647
/-- a write: field f of object n, at an index -/
def zp (f n : Nat) (i v : Int) (s : zS) : zS := (fun f' n' i' => if f' = f ∧ n' = n ∧ i' = i then v else s.1 f' n' i', s.2)
def zg (v : Int) (z : zR) : zR := if zrng v then z else none
def zn (i : Int) (len : Nat) (z : zR) : zR := if 0 ≤ i ∧ i < len then z else none
def zP (f n : Nat) (i v : Int) (s : zS) (K : zS → zR) : zR := K (zp f n i v s)
def zPz (f n : Nat) (v : Int) (s : zS) (K : zS → zR) : zR := if v = 0 ∨ v = 1 then K (zp f n 0 v s) else none
def zW (f n len : Nat) (i v : Int) (s : zS) (K : zS → zR) : zR := if 0 ≤ i ∧ i < len then K (zp f n i v s) else none
def zWz (f n len : Nat) (i v : Int) (s : zS) (K : zS → zR) : zR := if (0 ≤ i ∧ i < len) ∧ (v = 0 ∨ v = 1) then K (zp f n i v s) else none
def zC (F : zR) (K : Int → zS → zR) : zR := match F with
  | some (.inl v, s) => K v s
  | some (.inr e, s) => some (.inr e, s)
  | none => none
def zCh (F : zR) (K : Int → zS → zR) (E : Nat → zS → zR) : zR := match F with
  | some (.inl v, s) => K v s
  | some (.inr e, s) => E e s
  | none => none
def zi (v : Int) (s : zS) : zR := some (.inl v, s)
def zz (v : Int) (s : zS) : zR := if v = 0 ∨ v = 1 then some (.inl v, s) else none
def zt (e : Nat) (s : zS) : zR := some (.inr e, (s.1, s.2.1, s.2.2 + 1))
/-- a template by its code (0: null, q + 1: number q) -/
def zO (c : Int) (s : zS) (K : Nat → zR) : zR := if 1 ≤ c ∧ c ≤ s.2.1 then K (c.toNat - 1) else none
def zIf (c : Int) (s : zS) (A : zR) (K : Nat → zR) : zR := if c = 0 then A else zO c s K
/-- a row of bytes by its code (1 tape, 2 file, 3 work) -/
def zB (c : Int) (K : Nat → zR) : zR := if 1 ≤ c ∧ c ≤ 3 then K (c.toNat - 1) else none
def zand (x y : Int) : Int := (Int32.ofInt x &&& Int32.ofInt y).toInt
def zor (x y : Int) : Int := (Int32.ofInt x ||| Int32.ofInt y).toInt
def zxor (x y : Int) : Int := (Int32.ofInt x ^^^ Int32.ofInt y).toInt
def zshl (x y : Int) : Int := (Int32.ofInt x <<< (Int32.ofInt y &&& 31)).toInt
def zshr (x y : Int) : Int := (Int32.ofInt x >>> (Int32.ofInt y &&& 31)).toInt
def zdiv (x y : Int) : Int := (Int32.ofInt x / Int32.ofInt y).toInt
def zrem (x y : Int) : Int := (Int32.ofInt x - Int32.ofInt x / Int32.ofInt y * Int32.ofInt y).toInt
def zmax64 (x y : Int64) : Int64 := if lg_cmp x y < 0 then y else x
def zmin64 (x y : Int64) : Int64 := if lg_cmp x y > 0 then y else x
/-- an Int32 is this whole number -/
abbrev zx (X : Int32) (x : Int) : Prop := X = Int32.ofInt x ∧ zrng x
abbrev zD : Type := (Nat × Nat × Nat × Nat) ⊕ (Nat × List (Nat × Nat × Nat))
def za_0 (n : Nat) : Nat := if n = 0 then 1 else if n = 1 then 3 else 36
def za_1 (n : Nat) : Nat := 35
def za_2 (n : Nat) : Nat := 39
def za_3 (n : Nat) : Nat := 12 + 12 * n
def za_4 (n : Nat) : Nat := 5
def za_5 (n : Nat) : Nat := 11 + 12 * n
def za_6 (n : Nat) : Nat := 7
def za_7 (n : Nat) : Nat := 44 + 18 * n
def za_8 (n : Nat) : Nat := 0
def zy_0 (n : Nat) : Nat := if n = 0 then 2 else if n = 1 then 4 else 37
def zy_65 (n : Nat) : Nat := 38
def zy_192 (n : Nat) : Nat := 13 + 12 * n
def zy_193 (n : Nat) : Nat := 14 + 12 * n
def zy_194 (n : Nat) : Nat := 15 + 12 * n
def zy_195 (n : Nat) : Nat := 16 + 12 * n
def zy_196 (n : Nat) : Nat := 17 + 12 * n
def zy_197 (n : Nat) : Nat := 18 + 12 * n
def zy_198 (n : Nat) : Nat := 19 + 12 * n
def zy_328 (n : Nat) : Nat := 20 + 12 * n
def zy_329 (n : Nat) : Nat := 21 + 12 * n
def zy_330 (n : Nat) : Nat := 22 + 12 * n
def zy_384 (n : Nat) : Nat := 8
def zy_385 (n : Nat) : Nat := 9
def zy_386 (n : Nat) : Nat := 10
def zy_452 (n : Nat) : Nat := 45 + 18 * n
def zy_453 (n : Nat) : Nat := 46 + 18 * n
def zy_454 (n : Nat) : Nat := 47 + 18 * n
def zy_455 (n : Nat) : Nat := 48 + 18 * n
def zy_456 (n : Nat) : Nat := 49 + 18 * n
def zy_457 (n : Nat) : Nat := 50 + 18 * n
def zy_458 (n : Nat) : Nat := 51 + 18 * n
def zy_459 (n : Nat) : Nat := 52 + 18 * n
def zy_460 (n : Nat) : Nat := 53 + 18 * n
def zy_461 (n : Nat) : Nat := 54 + 18 * n
def zy_462 (n : Nat) : Nat := 55 + 18 * n
def zy_463 (n : Nat) : Nat := 56 + 18 * n
def zy_464 (n : Nat) : Nat := 57 + 18 * n
def zy_465 (n : Nat) : Nat := 58 + 18 * n
def zy_466 (n : Nat) : Nat := 59 + 18 * n
def zy_467 (n : Nat) : Nat := 60 + 18 * n
def zy_468 (n : Nat) : Nat := 61 + 18 * n
def zy_515 (n : Nat) : Nat := 6
def zy_521 (n : Nat) : Nat := 40
def zy_576 (n : Nat) : Nat := 41
def zy_577 (n : Nat) : Nat := 42
def zy_578 (n : Nat) : Nat := 43
def zlB (n : Nat) : Nat := if n = 0 then 200 else 160
def zDs : List zD := [.inr (8, [(1, 1, 0), (1, 3, 0), (1, 5, 0), (1, 6, 0), (1, 7, 0), (1, 11, 0), (1, 23, 0), (1, 35, 0), (1, 39, 0), (1, 40, 0), (0, 522, 0), (0, 523, 0)]),
  .inr (0, [(1, 2, 0), (0, 1, 0)]),
  .inl (0, 200, 0, 0),
  .inr (0, [(1, 4, 0), (0, 1, 1)]),
  .inl (0, 160, 0, 1),
  .inr (4, [(3, 256, 0), (2, 257, 0), (0, 258, 0), (0, 259, 0), (0, 260, 0), (0, 261, 0)]),
  .inl (3, 4, 515, 0),
  .inr (6, [(1, 8, 0), (1, 9, 0), (1, 10, 0), (0, 387, 0), (0, 388, 0)]),
  .inl (0, 4800, 384, 0),
  .inl (0, 30, 385, 0),
  .inl (0, 30, 386, 0),
  .inr (5, [(1, 12, 0), (2, 321, 0), (3, 322, 0), (0, 323, 0), (0, 324, 0), (0, 325, 0), (0, 326, 0), (0, 327, 0), (1, 20, 0), (1, 21, 0), (1, 22, 0)]),
  .inr (3, [(1, 13, 0), (1, 14, 0), (1, 15, 0), (1, 16, 0), (1, 17, 0), (1, 18, 0), (1, 19, 0), (0, 199, 0)]),
  .inl (0, 200, 192, 0),
  .inl (0, 200, 193, 0),
  .inl (0, 200, 194, 0),
  .inl (0, 200, 195, 0),
  .inl (0, 200, 196, 0),
  .inl (0, 200, 197, 0),
  .inl (0, 200, 198, 0),
  .inl (0, 48, 328, 0),
  .inl (0, 48, 329, 0),
  .inl (0, 48, 330, 0),
  .inr (5, [(1, 24, 0), (2, 321, 1), (3, 322, 1), (0, 323, 1), (0, 324, 1), (0, 325, 1), (0, 326, 1), (0, 327, 1), (1, 32, 0), (1, 33, 0), (1, 34, 0)]),
  .inr (3, [(1, 25, 0), (1, 26, 0), (1, 27, 0), (1, 28, 0), (1, 29, 0), (1, 30, 0), (1, 31, 0), (0, 199, 1)]),
  .inl (0, 200, 192, 1),
  .inl (0, 200, 193, 1),
  .inl (0, 200, 194, 1),
  .inl (0, 200, 195, 1),
  .inl (0, 200, 196, 1),
  .inl (0, 200, 197, 1),
  .inl (0, 200, 198, 1),
  .inl (0, 48, 328, 1),
  .inl (0, 48, 329, 1),
  .inl (0, 48, 330, 1),
  .inr (1, [(1, 36, 0), (1, 38, 0)]),
  .inr (0, [(1, 37, 0), (0, 1, 2)]),
  .inl (0, 160, 0, 2),
  .inl (1, 200, 65, 0),
  .inr (2, [(0, 128, 0), (0, 129, 0), (0, 130, 0)]),
  .inl (1, 1536, 521, 0),
  .inl (0, 21, 576, 0),
  .inl (0, 64, 577, 0),
  .inl (0, 4, 578, 0),
  .inr (7, [(0, 448, 0), (0, 449, 0), (0, 450, 0), (0, 451, 0), (1, 45, 0), (1, 46, 0), (1, 47, 0), (1, 48, 0), (1, 49, 0), (1, 50, 0), (1, 51, 0), (1, 52, 0), (1, 53, 0), (1, 54, 0), (1, 55, 0), (1, 56, 0), (1, 57, 0), (1, 58, 0), (1, 59, 0), (1, 60, 0), (1, 61, 0)]),
  .inl (0, 6, 452, 0),
  .inl (0, 6, 453, 0),
  .inl (0, 100, 454, 0),
  .inl (0, 100, 455, 0),
  .inl (0, 100, 456, 0),
  .inl (0, 48, 457, 0),
  .inl (0, 48, 458, 0),
  .inl (0, 48, 459, 0),
  .inl (0, 48, 460, 0),
  .inl (0, 48, 461, 0),
  .inl (0, 48, 462, 0),
  .inl (0, 48, 463, 0),
  .inl (0, 48, 464, 0),
  .inl (0, 48, 465, 0),
  .inl (0, 48, 466, 0),
  .inl (0, 48, 467, 0),
  .inl (0, 48, 468, 0),
  .inr (7, [(0, 448, 1), (0, 449, 1), (0, 450, 1), (0, 451, 1), (1, 63, 0), (1, 64, 0), (1, 65, 0), (1, 66, 0), (1, 67, 0), (1, 68, 0), (1, 69, 0), (1, 70, 0), (1, 71, 0), (1, 72, 0), (1, 73, 0), (1, 74, 0), (1, 75, 0), (1, 76, 0), (1, 77, 0), (1, 78, 0), (1, 79, 0)]),
  .inl (0, 6, 452, 1),
  .inl (0, 6, 453, 1),
  .inl (0, 100, 454, 1),
  .inl (0, 100, 455, 1),
  .inl (0, 100, 456, 1),
  .inl (0, 48, 457, 1),
  .inl (0, 48, 458, 1),
  .inl (0, 48, 459, 1),
  .inl (0, 48, 460, 1),
  .inl (0, 48, 461, 1),
  .inl (0, 48, 462, 1),
  .inl (0, 48, 463, 1),
  .inl (0, 48, 464, 1),
  .inl (0, 48, 465, 1),
  .inl (0, 48, 466, 1),
  .inl (0, 48, 467, 1),
  .inl (0, 48, 468, 1),
  .inr (7, [(0, 448, 2), (0, 449, 2), (0, 450, 2), (0, 451, 2), (1, 81, 0), (1, 82, 0), (1, 83, 0), (1, 84, 0), (1, 85, 0), (1, 86, 0), (1, 87, 0), (1, 88, 0), (1, 89, 0), (1, 90, 0), (1, 91, 0), (1, 92, 0), (1, 93, 0), (1, 94, 0), (1, 95, 0), (1, 96, 0), (1, 97, 0)]),
  .inl (0, 6, 452, 2),
  .inl (0, 6, 453, 2),
  .inl (0, 100, 454, 2),
  .inl (0, 100, 455, 2),
  .inl (0, 100, 456, 2),
  .inl (0, 48, 457, 2),
  .inl (0, 48, 458, 2),
  .inl (0, 48, 459, 2),
  .inl (0, 48, 460, 2),
  .inl (0, 48, 461, 2),
  .inl (0, 48, 462, 2),
  .inl (0, 48, 463, 2),
  .inl (0, 48, 464, 2),
  .inl (0, 48, 465, 2),
  .inl (0, 48, 466, 2),
  .inl (0, 48, 467, 2),
  .inl (0, 48, 468, 2),
  .inr (7, [(0, 448, 3), (0, 449, 3), (0, 450, 3), (0, 451, 3), (1, 99, 0), (1, 100, 0), (1, 101, 0), (1, 102, 0), (1, 103, 0), (1, 104, 0), (1, 105, 0), (1, 106, 0), (1, 107, 0), (1, 108, 0), (1, 109, 0), (1, 110, 0), (1, 111, 0), (1, 112, 0), (1, 113, 0), (1, 114, 0), (1, 115, 0)]),
  .inl (0, 6, 452, 3),
  .inl (0, 6, 453, 3),
  .inl (0, 100, 454, 3),
  .inl (0, 100, 455, 3),
  .inl (0, 100, 456, 3),
  .inl (0, 48, 457, 3),
  .inl (0, 48, 458, 3),
  .inl (0, 48, 459, 3),
  .inl (0, 48, 460, 3),
  .inl (0, 48, 461, 3),
  .inl (0, 48, 462, 3),
  .inl (0, 48, 463, 3),
  .inl (0, 48, 464, 3),
  .inl (0, 48, 465, 3),
  .inl (0, 48, 466, 3),
  .inl (0, 48, 467, 3),
  .inl (0, 48, 468, 3)]
def zT (c : Int) : Option Nat := if c = 0 then none else some (za_7 (c.toNat - 1))
def zBc (c : Int) : Option Nat := if c = 0 then none else some (za_0 (c.toNat - 1))
abbrev zo (V : Option Nat) (c : Int) : Prop := V = zT c ∧ zrng c
def zIv (s : zS) (q : Nat × Nat × Nat) : Value := match q.1 with
  | 0 => .int (Int32.ofInt (s.1 q.2.1 q.2.2 0))
  | 1 => .ref q.2.1
  | 2 => xr_rf (zT (s.1 q.2.1 q.2.2 0))
  | _ => xr_rf (zBc (s.1 q.2.1 q.2.2 0))
def zIa (s : zS) (ty m f n : Nat) : xrE := match ty with
  | 0 => .inl (.int, m, .inl (fun i => Int32.ofInt (s.1 f n i)))
  | 1 => .inl (.boolean, m, .inl (fun i => Int32.ofInt (s.1 f n i)))
  | 2 => .inl (.long, m, .inr (.inl (fun i => Int64.ofInt (s.1 f n i))))
  | _ => .inl (.object RX7, m, .inr (.inr (.inr (.inr (fun i => zT (s.1 f n i))))))
def zI (s : zS) (d : zD) : xrE := match d with
  | .inl q => zIa s q.1 q.2.1 q.2.2.1 q.2.2.2
  | .inr q => .inr (q.1, q.2.map (zIv s))
/-- whether something tells of field f of object n -/
def zmen (f n : Nat) (d : zD) : Bool := match d with
  | .inl q => Nat.beq q.2.2.1 f && Nat.beq q.2.2.2 n
  | .inr q => q.2.any fun z => !(Nat.beq z.1 1) && (Nat.beq z.2.1 f && Nat.beq z.2.2 n)
def zfree (f n a : Nat) : Nat → List zD → Bool
  | _, [] => true
  | k, d :: t => (Nat.beq k a || !(zmen f n d)) && zfree f n a (k + 1) t
theorem zfree_s {f n a : Nat} : ∀ (t : List zD) (k : Nat), zfree f n a k t = true → ∀ (j : Nat) (d : zD), t[j]? = some d → k + j ≠ a → zmen f n d = false
  | [], _, _, _, _, hd, _ => by simp at hd
  | d :: t, k, h, j, d', hd, hne => by
    unfold zfree at h
    rw [Bool.and_eq_true] at h
    cases j with
    | zero =>
      simp only [List.getElem?_cons_zero, Option.some.injEq] at hd
      subst hd
      cases hb : Nat.beq k a with
      | true => exact absurd (Nat.eq_of_beq_eq_true hb) hne
      | false =>
        have h1 := h.1
        rw [hb, Bool.false_or] at h1
        simpa using h1
    | succ j =>
      rw [List.getElem?_cons_succ] at hd
      exact zfree_s t (k + 1) h.2 j d' hd (by omega)
theorem zp_ne {f n f' n' : Nat} {i v i' : Int} {s : zS} (h : ¬ (f' = f ∧ n' = n)) : (zp f n i v s).1 f' n' i' = s.1 f' n' i' := if_neg fun z => h ⟨z.1, z.2.1⟩
theorem zIv_ne {f n : Nat} {i v : Int} {s : zS} {z : Nat × Nat × Nat} (h : (!(Nat.beq z.1 1) && (Nat.beq z.2.1 f && Nat.beq z.2.2 n)) = false) : zIv (zp f n i v s) z = zIv s z := by
  obtain ⟨k, f', n'⟩ := z
  have hh : k = 1 ∨ ¬ (f' = f ∧ n' = n) := by
    by_cases h1 : k = 1
    · exact Or.inl h1
    · right
      rintro ⟨rfl, rfl⟩
      have e1 : Nat.beq k 1 = false := by
        cases hb : Nat.beq k 1 with
        | true => exact absurd (Nat.eq_of_beq_eq_true hb) h1
        | false => rfl
      simp [e1] at h
  unfold zIv
  rcases hh with rfl | hh
  · rfl
  · dsimp only
    split
    · rw [zp_ne hh]
    · rfl
    · rw [zp_ne hh]
    · rw [zp_ne hh]
theorem zI_ne {f n : Nat} {i v : Int} {s : zS} {d : zD} (h : zmen f n d = false) : zI (zp f n i v s) d = zI s d := by
  cases d with
  | inl q =>
    obtain ⟨ty, m, f', n'⟩ := q
    have hh : ¬ (f' = f ∧ n' = n) := by
      rintro ⟨rfl, rfl⟩
      simp [zmen] at h
    unfold zI zIa
    dsimp only
    split <;> simp only [zp_ne hh]
  | inr q =>
    unfold zI
    dsimp only
    congr 2
    apply List.map_congr_left
    intro z hz
    apply zIv_ne
    unfold zmen at h
    dsimp only at h
    rw [List.any_eq_false] at h
    exact Bool.eq_false_iff.mpr (h z hz)
/-- the heap is the store's (A templates at least are made) -/
def zH (A : Nat) (h : xrH) (s : zS) : Prop := A ≤ s.2.1 ∧ s.2.1 ≤ 4 ∧ (h.2.2.1 = 44 + 18 * s.2.1 ∧ h.1 = 44 + 18 * s.2.1 + s.2.2 ∧ h.2.1 = 10369 + 909 * s.2.1 + 6 * s.2.2) ∧ (∀ a d, a < h.2.2.1 → zDs[a]? = some d → xr_M h a = zI s d) ∧ (∀ f n i, zrng (s.1 f n i))
theorem zH.le4 {A : Nat} {h : xrH} {s : zS} (H : zH A h s) : A ≤ 4 := Nat.le_trans H.1 H.2.1
theorem zH.rng {A : Nat} {h : xrH} {s : zS} (H : zH A h s) (f n : Nat) (i : Int) : zrng (s.1 f n i) := H.2.2.2.2 f n i
theorem zH.get {A : Nat} {h : xrH} {s : zS} (H : zH A h s) (a : Nat) (d : zD) (ha : a < 44 + 18 * A) (hd : zDs[a]? = some d) : xr_M h a = zI s d := by
  refine H.2.2.2.1 a d ?_ hd
  rw [H.2.2.1.1]
  have := H.1
  omega
theorem zH.get0 {A : Nat} {h : xrH} {s : zS} (H : zH A h s) (a : Nat) (d : zD) (ha : a < 44) (hd : zDs[a]? = some d) : xr_M h a = zI s d := H.get a d (by omega) hd
theorem zH.put {A : Nat} {h : xrH} {s : zS} (H : zH A h s) (a f n : Nat) (i v : Int) (d : zD) (e : xrE) (ha : a < 44 + 18 * A) (hd : zDs[a]? = some d) (hf : zfree f n a 0 zDs = true) (hv : zrng v) (he : e = zI (zp f n i v s) d) : zH A (xr_put h a e) (zp f n i v s) := by
  obtain ⟨h1, h2, h3, h4, h5⟩ := H
  refine ⟨h1, h2, h3, ?_, ?_⟩
  · intro a' d' ha' hd'
    have ha2 : a' < h.2.2.1 := ha'
    show va_up h.2.2.2 a e a' = _
    unfold va_up
    by_cases hx : a' = a
    · subst hx
      rw [hd] at hd'
      cases hd'
      rw [he]
      simp
    · have hne : zmen f n d' = false := zfree_s zDs 0 hf a' d' hd' (by omega)
      rw [zI_ne hne]
      simp only [hx, if_false]
      exact h4 a' d' ha2 hd'
  · intro f' n' i'
    show zrng (if f' = f ∧ n' = n ∧ i' = i then v else s.1 f' n' i')
    split
    · exact hv
    · exact h5 f' n' i'
theorem zx_toNat {I : Int32} {i : Int} (hi : zx I i) (h0 : 0 ≤ i) : I.toNatClampNeg = i.toNat := by
  rw [hi.1, Int32.toNatClampNeg]
  rw [Int32.toInt_ofInt_of_le (by have := hi.2; omega) (by have := hi.2; omega)]
theorem zx_neg {I : Int32} {i : Int} (hi : zx I i) (h0 : 0 ≤ i) : ¬ I < 0 := by
  rw [hi.1, Int32.lt_iff_toInt_lt, Int32.toInt_ofInt_of_le (by have := hi.2; omega) (by have := hi.2; omega)]
  show ¬ i < 0
  omega
theorem zn_in {I : Int32} {i : Int} {m : Nat} (hi : zx I i) (hl : 0 ≤ i ∧ i < (m : Nat)) : ¬ (I < 0 ∨ m ≤ I.toNatClampNeg) := by
  rintro (h | h)
  · exact zx_neg hi hl.1 h
  · rw [zx_toNat hi hl.1] at h
    omega
theorem zap_eq {ty : FieldType} {h : xrH} {a m : Nat} {g : Nat → Int32} {I V : Int32} {i : Int} (e : xr_M h a = .inl (ty, m, .inl g)) (hi : zx I i) (hl : 0 ≤ i ∧ i < (m : Nat)) (hw : ty = .int ∨ (V = 0 ∨ V = 1)) : xo_ap ty h a I V = some (xr_put h a (.inl (ty, m, .inl (upd g I.toNatClampNeg V)))) := by
  unfold xo_ap
  rw [e]
  dsimp only
  rw [if_pos rfl, if_neg (zn_in hi hl), if_pos hw]
theorem zlp_eq {h : xrH} {a m : Nat} {g : Nat → Int64} {I : Int32} {V : Int64} {i : Int} (e : xr_M h a = .inl (.long, m, .inr (.inl g))) (hi : zx I i) (hl : 0 ≤ i ∧ i < (m : Nat)) : xo_lp h a I V = some (xr_put h a (.inl (.long, m, .inr (.inl (vp_updL g I.toNatClampNeg V))))) := by
  unfold xo_lp
  rw [e]
  dsimp only
  rw [if_neg (zn_in hi hl)]
theorem zup {s : zS} {f n : Nat} {i v : Int} {I V : Int32} (hi : zx I i) (hv : zx V v) (h0 : 0 ≤ i) : upd (fun j : Nat => Int32.ofInt (s.1 f n j)) I.toNatClampNeg V = fun j : Nat => Int32.ofInt ((zp f n i v s).1 f n j) := by
  funext j
  rw [zx_toNat hi h0, hv.1]
  show (if j = i.toNat then Int32.ofInt v else Int32.ofInt (s.1 f n j)) = Int32.ofInt (if f = f ∧ n = n ∧ (j : Int) = i then v else s.1 f n j)
  by_cases hj : j = i.toNat
  · rw [if_pos hj, if_pos ⟨rfl, rfl, by omega⟩]
  · rw [if_neg hj, if_neg (fun z => hj (by have := z.2.2; omega))]
theorem zup64 {s : zS} {f n : Nat} {i v : Int} {I V : Int32} (hi : zx I i) (hv : zx V v) (h0 : 0 ≤ i) : vp_updL (fun j : Nat => Int64.ofInt (s.1 f n j)) I.toNatClampNeg V.toInt64 = fun j : Nat => Int64.ofInt ((zp f n i v s).1 f n j) := by
  funext j
  have e : V.toInt64 = Int64.ofInt v := by
    rw [hv.1]
    exact Int32.toInt64_ofInt hv.2.1 hv.2.2
  rw [zx_toNat hi h0, e]
  show (if j = i.toNat then Int64.ofInt v else Int64.ofInt (s.1 f n j)) = Int64.ofInt (if f = f ∧ n = n ∧ (j : Int) = i then v else s.1 f n j)
  by_cases hj : j = i.toNat
  · rw [if_pos hj, if_pos ⟨rfl, rfl, by omega⟩]
  · rw [if_neg hj, if_neg (fun z => hj (by have := z.2.2; omega))]
theorem zap_I0 {s : zS} {m f n : Nat} {i v : Int} {I V : Int32} (hi : zx I i) (hv : zx V v) (h0 : 0 ≤ i) : (.inl (.int, m, .inl (upd (fun j : Nat => Int32.ofInt (s.1 f n j)) I.toNatClampNeg V)) : xrE) = zI (zp f n i v s) (.inl (0, m, f, n)) := by
  rw [zup hi hv h0]
  rfl
theorem zap_I1 {s : zS} {m f n : Nat} {i v : Int} {I V : Int32} (hi : zx I i) (hv : zx V v) (h0 : 0 ≤ i) : (.inl (.boolean, m, .inl (upd (fun j : Nat => Int32.ofInt (s.1 f n j)) I.toNatClampNeg V)) : xrE) = zI (zp f n i v s) (.inl (1, m, f, n)) := by
  rw [zup hi hv h0]
  rfl
theorem zap_I2 {s : zS} {m f n : Nat} {i v : Int} {I V : Int32} (hi : zx I i) (hv : zx V v) (h0 : 0 ≤ i) : (.inl (.long, m, .inr (.inl (vp_updL (fun j : Nat => Int64.ofInt (s.1 f n j)) I.toNatClampNeg V.toInt64))) : xrE) = zI (zp f n i v s) (.inl (2, m, f, n)) := by
  rw [zup64 hi hv h0]
  rfl
theorem zxp_eq {k a f c : Nat} {h : xrH} {v : Value} {fs : List Value} (e : xr_M h a = .inr (c, fs)) (h1 : (Nat.beq c (f / 64) && Nat.blt (f % 64) fs.length) = true) (h2 : xr_tak k v = true) : xo_p k h a f v = some (xr_put h a (.inr (c, fs.set (f % 64) v))) := by
  unfold xo_p
  rw [e]
  dsimp only
  rw [h1, h2]
  rfl
theorem ztak2 (O : Option Nat) : xr_tak 2 (xr_rf O) = true := by cases O <;> rfl
