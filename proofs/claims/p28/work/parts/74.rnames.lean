/-! the reference's parser: names, with their counts -/
theorem mNum_p (G : Int → Int) : ∀ (m : Nat) (v p : Int), 0 ≤ v → 0 ≤ (mNum G m v p).1
  | 0, v, p, h => h
  | m + 1, v, p, h => by
    unfold mNum
    split
    · exact mNum_p G m _ _ (by omega)
    · exact h
section
variable {t st n N p w : Int} {X G : Int → Int} {T U : yT} {s u : zS} {o : Option Int}
theorem pa_cnt_b {f : Int} : (pa_cnt G st f U p).map (fun x => x.2) = (pa_cb G st f U (p + 1)).bind fun q => if G q = 93 then some (q + 1) else none := by
  have acc : ∀ z : Option (yT × Int), (pa_acc G 93 z).map (fun x => x.2) = (z.map fun x => x.2).bind fun q => if G q = 93 then some (q + 1) else none := fun z => by
    cases z with
    | none => rfl
    | some y =>
      unfold pa_acc
      dsimp only [Option.bind, Option.map]
      by_cases c : G y.2 = 93
      · rw [if_pos c, if_pos c]
      · rw [if_neg c, if_neg c]
  unfold pa_cnt pa_cb
  by_cases c1 : G (p + 1) = 42
  · rw [if_pos c1, if_pos c1, acc]
    rfl
  · rw [if_neg c1, if_neg c1]
    by_cases c2 : G (p + 1) = 33
    · rw [if_pos c2, if_pos c2]
      unfold pa_int
      by_cases c3 : 48 ≤ G (p + 1 + 1) ∧ G (p + 1 + 1) ≤ 57
      · have := mNum_p G 3 0 (p + 1 + 1) (by decide)
        rw [if_pos c3, if_pos c3, if_neg (by omega), acc]
        rfl
      · rw [if_neg c3, if_neg c3, if_pos rfl]
        rfl
    · rw [if_neg c2, if_neg c2]
      by_cases c3 : G (p + 1) = 63
      · rw [if_pos c3, if_pos c3, acc]
      · rw [if_neg c3, if_neg c3, acc]
/-- names behind the first one, and the count -/
def pa_mc (G : Int → Int) (st f : Int) (m : Nat) (U : yT) (p : Int) : Option (yT × Int) := (pa_more G f m U p).bind fun x => if G x.2 = 91 then pa_cnt G st f x.1 x.2 else some x
end
