section
/-! edits: sums settle (reference), and the file is read once more (both) -/
/-- whether the bytes G can be read and all relations hold -/
def eFi (T : yT) (n : Int) (G : yB) : Int := match yTop T G n 0 0 with
  | .inl _ => 0
  | .inr y => if yWs T G (yNs y.2.2.2) y.2.2.2.length = 0 then 1 else 0
/-- the bytes F behind an edit's settling -/
def eEd (T : yT) (n : Int) (F : yB) : Option yB := match eSt T n 5 F with
  | none => none
  | some G => match yTop T G n 0 0 with
    | .inl _ => none
    | .inr x => match eSu T (yNs x.2.2.2) x.2.2.2.length (eLc T (yNs x.2.2.2) x.2.2.2.length) (eLf T (yNs x.2.2.2)) G with
      | none => none
      | some Z => if eFi T n Z = 1 then some Z else none
section
variable {T : yT} {B C F G : yB} {n L w : Int} {N : Int → yN} {s u : zS} {r q : Nat} {t k v g e : Int} {h : Int → Int}
theorem eRd_z : ∀ (m : Nat) (j : Int), eRd N h e m j = 0 → ∀ i, j ≤ i → i < j + m → ¬ (h i = 1 ∧ N i 194 < e)
  | 0, _, _ => fun i i1 i2 => by omega
  | m + 1, j, z => fun i i1 i2 => by
    unfold eRd at z
    split at z
    · exact absurd z (by decide)
    · rename_i y
      by_cases c : i = j
      · rw [c]
        exact y
      · exact eRd_z m (j + 1) z i (by omega) (by omega)
/-- the one that is the first -/
def eFx (T : yT) (N : Int → yN) (L : Int) (h : Int → Int) : Int := if eFs T N L h L.toNat 0 = -1 then (if ySm h L.toNat 0 = 0 then -1 else -2) else eFs T N L h L.toNat 0
theorem ySm_01 (h01 : ∀ j, h j = 0 ∨ h j = 1) : ∀ (m : Nat) (k : Int), 0 ≤ ySm h m k ∧ ySm h m k ≤ m
  | 0, _ => ⟨Int.le_refl 0, Int.le_refl 0⟩
  | m + 1, k => by
    have := ySm_01 h01 m (k + 1)
    have := h01 k
    show 0 ≤ h k + ySm h m (k + 1) ∧ h k + ySm h m (k + 1) ≤ _
    omega
theorem C20 (hT : yTpl q T s) (W : yWT T) (BE : yBE T) (hF : yFile 2 F n s) : ∃ u, zf_20 0 r ((q : Int) + 1) s = zi (eFi T n F) u ∧ cEf r s u ∧ yFile 2 F n u := by
  obtain ⟨v, u, a1, a2, a3, a4⟩ := C56w (r := r) hT W BE hF
  have f : yFile 2 F n u := by
    obtain ⟨f1, f2, f3, f4, f5, f6⟩ := hF
    exact ⟨f1, (a2.1 1 2 0 (by omega)).trans f2, f3, f4, fun i i1 i2 => (a2.1 0 2 i (by omega)).trans (f5 i i1 i2), f6⟩
  unfold zf_20 eFi
  rw [a1, zC_zi]
  cases hx : yTop T F n 0 0 with
  | inl e =>
    dsimp only
    rw [a3 e hx, if_pos rfl]
    exact ⟨u, rfl, cEf.rd a2, f⟩
  | inr x =>
    dsimp only
    obtain ⟨v1, H⟩ := a4 x hx
    rw [v1, if_neg (show ¬ (1 : Int) = 0 by decide), C80 W H, zC_zi]
    by_cases c : yWs T F (yNs x.2.2.2) x.2.2.2.length = 0
    · rw [if_pos c, if_pos c]
      exact ⟨u, rfl, cEf.rd a2, f⟩
    · rw [if_neg c, if_neg c]
      exact ⟨u, rfl, cEf.rd a2, f⟩
end
end
