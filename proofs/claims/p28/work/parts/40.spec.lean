/-! HOW A FILE IS READ, as plain functions. T: a template (by field number 448 .., index); B, n: the bytes; a failure: its kind, its place, how many nodes were made; a success: the place, how many were made, how many relations do not hold, the nodes. -/
abbrev yT : Type := Nat → Int → Int
abbrev yB : Type := Int → Int
/-- a node: by column: 192 kind, 193 name, 194 offset, 195 length, 196 value, 197 parent, 198 field -/
abbrev yN : Type := Nat → Int
abbrev yO : Type := (Int × Int × Int) ⊕ (Int × Int × Int × List yN)
/-- of an array: how many elements, and so on -/
abbrev yA : Type := (Int × Int × Int) ⊕ (Int × Int × Int × Int × List yN)
/-- what is known of the fields: 328 start, 329 length, 330 value -/
abbrev yE : Type := Nat → Int → Int
abbrev yF : Type := (Int × Int × Int) ⊕ (yE × Int × Int × Int × List yN)
def yn (k nm o ln v p fd : Int) : yN := fun f => if f = 192 then k else if f = 193 then nm else if f = 194 then o else if f = 195 then ln else if f = 196 then v else if f = 197 then p else fd
def yeu (E : yE) (k st ln v : Int) : yE := fun c i => if i = k then (if c = 328 then st else if c = 329 then ln else v) else E c i
def yClamp (x : Int) : Int := if x < -99999 then -99999 else if 99999 < x then 99999 else x
def yStep (sg tot x : Int) : Int := if sg = 43 then tot + x else if sg = 45 then tot - x else tot * x
def ySum (T : yT) (V : Int → Int) : Nat → Int → Int → Int
  | 0, _, tot => tot
  | m + 1, k, tot => ySum T V m (k + 1) (yClamp (yStep (T 455 k) tot (if T 454 k < 0 then V (-1 - T 454 k) else T 454 k)))
def yReckon (T : yT) (V : Int → Int) (f : Int) : Int := ySum T V (T 462 f - T 461 f).toNat (T 461 f) 0
def yZ (B : yB) (n : Int) : Nat → Int → Option Int
  | 0, _ => none
  | m + 1, k => if B k = 0 then some k else yZ B n m (k + 1)
def yKd (t : Int) : Int := if t = 110 then 4 else if t = 114 then 3 else if t = 115 then 5 else if t = 122 then 5 else 2
/-- a field without structures: its length and its value, or the fault -/
def yPl (T : yT) (B : yB) (n : Int) (V : Int → Int) (f pos : Int) : Int ⊕ (Int × Int) :=
  if T 458 f = 115 then
    let ln := yReckon T V f
    if ln < 0 ∨ 100 < ln then .inl 3 else if 0 < ln ∧ n < pos + ln then .inl 1 else .inr (ln, if ln = 0 then -1 else B pos)
  else if T 458 f = 122 then
    match yZ B n (n - pos).toNat pos with
    | some k => .inr (k + 1 - pos, B pos)
    | none => .inl 1
  else if T 458 f = 110 then
    if n ≤ pos then .inl 1 else .inr (1, zand (zshr (B pos) (T 460 f)) (zshl 1 (T 459 f) - 1))
  else
    let ln := if T 459 f = 16 then 2 else 1
    if n < pos + ln then .inl 1 else
      let v := if T 459 f = 16 then (if T 458 f = 87 then 256 * B pos + B (pos + 1) else B pos + 256 * B (pos + 1)) else B pos
      if T 467 f = 61 ∧ v ≠ T 468 f then .inl 2 else .inr (ln, v)
section
variable (rs : Int → Int → Int → Int → Int → Int → yO) (T : yT) (B : yB) (n : Int)
/-- of several structures the first one that can be read -/
def yNm (ow pa : Int) : Nat → Int → Int → Int → Int → yO
  | 0, _, pos, made, _ => .inl (0, pos, made)
  | m + 1, k, pos, made, cnt => match rs (T 456 k) ow pa pos made cnt with
    | .inr x => .inr x
    | .inl (c, p, made') => if c = 5 ∨ m = 0 then .inl (c, p, made') else yNm ow pa m (k + 1) pos made' cnt
def yCt (nm : Int → Int → Int → yO) : Nat → Int → Int → Int → yO
  | 0, pos, made, _ => .inr (pos, made, 0, [])
  | m + 1, pos, made, cnt => match nm pos made cnt with
    | .inl e => .inl e
    | .inr (p1, m1, w1, l1) => match yCt nm m p1 m1 (cnt + l1.length) with
      | .inl e => .inl e
      | .inr (p2, m2, w2, l2) => .inr (p2, m2, w1 + w2, l1 ++ l2)
def yAl (nm : Int → Int → Int → yO) : Nat → Int → Int → Int → Int → yA
  | 0, _, pos, made, _ => .inl (5, pos, made)
  | m + 1, k, pos, made, cnt => match nm pos made cnt with
    | .inl (c, p, made') => if c = 5 then .inl (c, p, made') else .inr (k, pos, made', 0, [])
    | .inr (p1, m1, w1, l1) => if p1 = pos then .inr (k, pos, m1, 0, []) else match yAl nm m (k + 1) p1 m1 (cnt + l1.length) with
      | .inl e => .inl e
      | .inr (k2, p2, m2, w2, l2) => .inr (k2, p2, m2, w1 + w2, l1 ++ l2)
def yEn (nm : Int → Int → Int → yO) (e st : Int) : Nat → Int → Int → Int → Int → yA
  | 0, _, pos, made, _ => .inl (5, pos, made)
  | m + 1, k, pos, made, cnt => if pos < n ∧ B pos = e then .inr (k, pos, made, 0, []) else if n ≤ pos then .inl (1, st, made) else match nm pos made cnt with
    | .inl e => .inl e
    | .inr (p1, m1, w1, l1) => if p1 = pos then .inl (1, st, m1) else match yEn nm e st m (k + 1) p1 m1 (cnt + l1.length) with
      | .inl e => .inl e
      | .inr (k2, p2, m2, w2, l2) => .inr (k2, p2, m2, w1 + w2, l1 ++ l2)
/-- how many elements an array has by its sum (42 and 33: 0) -/
def yCn (V : Int → Int) (f : Int) : Int := if T 465 f = 43 then yReckon T V f else if T 465 f = 63 then (if yReckon T V f = 0 then 0 else 1) else 0
def yAr (V : Int → Int) (me f pos made cnt : Int) : yA :=
  if T 465 f = 42 then yAl (yNm rs T (-1) cnt (T 464 f - T 463 f).toNat (T 463 f)) 201 0 pos (made + 1) (cnt + 1)
  else if T 465 f = 33 then yEn B n (yNm rs T (-1) cnt (T 464 f - T 463 f).toNat (T 463 f)) (T 466 f) pos 201 0 pos (made + 1) (cnt + 1)
  else match yCt (yNm rs T (-1) cnt (T 464 f - T 463 f).toNat (T 463 f)) (yCn T V f).toNat pos (made + 1) (cnt + 1) with
    | .inl e => .inl e
    | .inr (p1, m1, w1, l1) => .inr (yCn T V f, p1, m1, w1, l1)
def yFd (me f k : Int) (E : yE) (pos made cnt : Int) : yF :=
  if T 458 f = 65 then match yNm rs T f me (T 464 f - T 463 f).toNat (T 463 f) pos made cnt with
    | .inl e => .inl e
    | .inr (p1, m1, w1, l1) => .inr (yeu E k pos (p1 - pos) 0, p1, m1, w1, l1)
  else if 200 ≤ made then .inl (5, pos, made)
  else if T 458 f = 91 then
    if T 465 f = 43 ∧ (yCn T (E 330) f < 0 ∨ 20 < yCn T (E 330) f) then .inl (3, pos, made + 1)
    else match yAr rs T B n (E 330) me f pos made cnt with
      | .inl e => .inl e
      | .inr (k2, p2, m2, w2, l2) => .inr (yeu E k pos (p2 - pos) k2, p2, m2, w2, yn 1 (T 457 f) pos (p2 - pos) k2 me f :: l2)
  else match yPl T B n (E 330) f pos with
    | .inl c => .inl (c, pos, made + 1)
    | .inr (ln, v) => .inr (yeu E k pos ln v, if T 458 f = 110 ∧ T 460 f ≠ 0 then pos else pos + ln, made + 1, 0, [yn (yKd (T 458 f)) (T 457 f) pos ln v me f])
def yFs (me s : Int) : Nat → Int → yE → Int → Int → Int → yF
  | 0, _, E, pos, made, _ => .inr (E, pos, made, 0, [])
  | m + 1, k, E, pos, made, cnt => match yFd rs T B n me (8 * s + k) k E pos made cnt with
    | .inl e => .inl e
    | .inr (E1, p1, m1, w1, l1) => match yFs me s m (k + 1) E1 p1 m1 (cnt + l1.length) with
      | .inl e => .inl e
      | .inr (E2, p2, m2, w2, l2) => .inr (E2, p2, m2, w1 + w2, l1 ++ l2)
end
/-- bytes in a row, by + or by ^ -/
def yBy (B : yB) (h : Int) : Nat → Int → Int → Int
  | 0, _, v => v
  | m + 1, p, v => yBy B h m (p + 1) (if h = 43 then v + B p else zxor v (B p))
/-- what a relation h tells of bytes, a length, a count -/
def yDue (B : yB) (h off ln els : Int) : Int := if h = 35 then ln else if h = 37 then els else yBy B h ln.toNat off 0
def yCut (v bits : Int) : Int := zand v (zshl 1 bits - 1)
/-- how many relations do not hold in a structure, from field k on -/
def yWr (T : yT) (B : yB) (E : yE) (s : Int) : Nat → Int → Int
  | 0, _ => 0
  | m + 1, k => (if T 467 (8 * s + k) = 0 ∨ T 467 (8 * s + k) = 61 then 0 else if E 330 k = yCut (yDue B (T 467 (8 * s + k)) (E 328 (T 468 (8 * s + k) % 8)) (E 329 (T 468 (8 * s + k) % 8)) (E 330 (T 468 (8 * s + k) % 8))) (T 459 (8 * s + k)) then 0 else 1) + yWr T B E s m (k + 1)
def yS (T : yT) (B : yB) (n : Int) : Nat → Int → Int → Int → Int → Int → Int → yO
  | 0, _, _, _, pos, made, _ => .inl (4, pos, made)
  | d + 1, s, f, p, pos, made, cnt => if 200 ≤ made then .inl (5, pos, made) else match yFs (yS T B n d) T B n cnt s (T 453 s).toNat 0 (fun _ _ => 0) pos (made + 1) (cnt + 1) with
    | .inl e => .inl e
    | .inr (E, p1, m1, w1, l1) => .inr (p1, m1, w1 + yWr T B E s (T 453 s).toNat 0, yn 0 (if f = -1 then T 452 s else T 457 f) pos (p1 - pos) (T 452 s) p f :: l1)
/-- a template as it may be: structures, fields, choices, terms, relations -/
def yWF (T : yT) (st k : Int) : Prop :=
  (T 458 (8 * st + k) = 65 ∨ T 458 (8 * st + k) = 91 ∨ T 458 (8 * st + k) = 98 ∨ T 458 (8 * st + k) = 119 ∨ T 458 (8 * st + k) = 87 ∨ T 458 (8 * st + k) = 114 ∨ T 458 (8 * st + k) = 110 ∨ T 458 (8 * st + k) = 115 ∨ T 458 (8 * st + k) = 122)
  ∧ (0 ≤ T 457 (8 * st + k) ∧ T 457 (8 * st + k) ≤ 25)
  ∧ (T 458 (8 * st + k) = 65 ∨ T 458 (8 * st + k) = 91 ∨ T 458 (8 * st + k) = 114 → 0 ≤ T 463 (8 * st + k) ∧ T 463 (8 * st + k) < T 464 (8 * st + k) ∧ T 464 (8 * st + k) ≤ 100 ∧ ∀ j, T 463 (8 * st + k) ≤ j → j < T 464 (8 * st + k) → 0 ≤ T 456 j ∧ T 456 j < T 449 0)
  ∧ (T 458 (8 * st + k) = 91 → (T 465 (8 * st + k) = 42 ∨ T 465 (8 * st + k) = 33 ∨ T 465 (8 * st + k) = 63 ∨ T 465 (8 * st + k) = 43))
  ∧ (T 458 (8 * st + k) = 115 ∨ (T 458 (8 * st + k) = 91 ∧ (T 465 (8 * st + k) = 63 ∨ T 465 (8 * st + k) = 43)) → 0 ≤ T 461 (8 * st + k) ∧ T 461 (8 * st + k) ≤ T 462 (8 * st + k) ∧ T 462 (8 * st + k) ≤ 100 ∧ ∀ j, T 461 (8 * st + k) ≤ j → j < T 462 (8 * st + k) → T 454 j ≤ 999 ∧ (T 454 j < 0 → -1 - T 454 j < k ∧ T 458 (8 * st + (-1 - T 454 j)) ≠ 65))
  ∧ (T 458 (8 * st + k) = 110 → 1 ≤ T 459 (8 * st + k) ∧ T 459 (8 * st + k) ≤ 8 ∧ 0 ≤ T 460 (8 * st + k) ∧ T 460 (8 * st + k) ≤ 7)
  ∧ (T 458 (8 * st + k) = 98 ∨ T 458 (8 * st + k) = 114 → T 459 (8 * st + k) = 8)
  ∧ (T 458 (8 * st + k) = 119 ∨ T 458 (8 * st + k) = 87 → T 459 (8 * st + k) = 16)
  ∧ (T 467 (8 * st + k) = 0 ∨ ((T 458 (8 * st + k) = 98 ∨ T 458 (8 * st + k) = 119 ∨ T 458 (8 * st + k) = 87) ∧ (T 467 (8 * st + k) = 61 ∨ ((T 467 (8 * st + k) = 35 ∨ T 467 (8 * st + k) = 37 ∨ T 467 (8 * st + k) = 43 ∨ T 467 (8 * st + k) = 94) ∧ 8 * st ≤ T 468 (8 * st + k) ∧ T 468 (8 * st + k) < 8 * st + T 453 st ∧ T 468 (8 * st + k) ≠ 8 * st + k ∧ (T 467 (8 * st + k) = 37 → T 458 (T 468 (8 * st + k)) = 91)))))
def yWT (T : yT) : Prop := 1 ≤ T 449 0 ∧ T 449 0 ≤ 6 ∧ ∀ st, 0 ≤ st → st < T 449 0 → 0 ≤ T 453 st ∧ T 453 st ≤ 8 ∧ ∀ k, 0 ≤ k → k < T 453 st → yWF T st k
/-- the reader r reads the bytes b by the template q -/
def yRd (r q b : Nat) (T : yT) (B : yB) (n : Int) (s : zS) : Prop := s.1 321 r 0 = q + 1 ∧ q < s.2.1 ∧ s.1 322 r 0 = b + 1 ∧ b < 3 ∧ (∀ f i, 448 ≤ f → f < 469 → s.1 f q i = T f i) ∧ s.1 1 b 0 = n ∧ 0 ≤ n ∧ n ≤ 160 ∧ (∀ i, 0 ≤ i → i < n → s.1 0 b i = B i) ∧ ∀ i, 0 ≤ i → i < n → 0 ≤ B i ∧ B i ≤ 255
/-- nothing but what reader r reads has changed -/
def yfr (r : Nat) (s s' : zS) : Prop := (∀ f n i, ¬ (n = r ∧ (192 ≤ f ∧ f < 200 ∨ 323 ≤ f ∧ f < 331)) → s'.1 f n i = s.1 f n i) ∧ s'.2 = s.2
theorem yfr.rf {r : Nat} {s : zS} : yfr r s s := ⟨fun _ _ _ _ => rfl, rfl⟩
theorem yfr.tr {r : Nat} {s t u : zS} (a : yfr r s t) (b : yfr r t u) : yfr r s u := ⟨fun f n i h => (b.1 f n i h).trans (a.1 f n i h), b.2.trans a.2⟩
theorem yfr.pw {r f : Nat} {i v : Int} {s t : zS} (a : yfr r s t) (h : 192 ≤ f ∧ f < 200 ∨ 323 ≤ f ∧ f < 331) : yfr r s (zp f r i v t) := by
  refine ⟨fun f' n' i' hn => ?_, a.2⟩
  rw [zp_ne (fun z => hn ⟨z.2, by rw [z.1]; exact h⟩)]
  exact a.1 f' n' i' hn
theorem yRd.fr {r q b : Nat} {T : yT} {B : yB} {n : Int} {s t : zS} (h : yRd r q b T B n s) (a : yfr r s t) : yRd r q b T B n t := by
  obtain ⟨h1, h2, h3, h4, h5, h6, h7, h8, h9, h10⟩ := h
  refine ⟨?_, ?_, ?_, h4, ?_, ?_, h7, h8, ?_, h10⟩
  · rw [a.1 321 r 0 (by omega)]
    exact h1
  · rw [a.2]
    exact h2
  · rw [a.1 322 r 0 (by omega)]
    exact h3
  · intro f i h1 h2
    rw [a.1 f q i (by omega)]
    exact h5 f i h1 h2
  · rw [a.1 1 b 0 (by omega)]
    exact h6
  · intro i h1 h2
    rw [a.1 0 b i (by omega)]
    exact h9 i h1 h2
