/-! all names told are those of structures -/
section
variable {t st n N p b : Int} {X Y G : Int → Int} {T U : yT} {s u v : zS}
theorem pa_sn_c (a : ∀ i, U 452 i = T 452 i) (b : U 449 0 = T 449 0) {c : Int} : pa_sn U c = pa_sn T c := by
  unfold pa_sn
  rw [b, show U 452 = T 452 from funext a]
theorem pa_chs_P : ∀ (m : Nat) (k : Int) (T : yT), (∀ i, k ≤ i → i < k + m → pa_sn T (T 456 i) ≠ -1) → ∃ U, pa_chs m k T = some U ∧ (∀ (g : Nat) (i : Int), g ≠ 456 → U g i = T g i) ∧ (∀ i, k ≤ i → i < k + m → U 456 i = pa_sn T (T 456 i)) ∧ ∀ i, ¬ (k ≤ i ∧ i < k + m) → U 456 i = T 456 i := by
  intro m
  induction m with
  | zero =>
    intro k T h
    exact ⟨T, rfl, fun _ _ _ => rfl, fun i i1 i2 => by omega, fun _ _ => rfl⟩
  | succ m ih =>
    intro k T h
    have e : ∀ c, pa_sn (pa_w 456 k (pa_sn T (T 456 k)) T) c = pa_sn T c := fun c => pa_sn_c (fun i => pa_w_nk (by decide)) (pa_w_nk (by decide))
    obtain ⟨U, h1, h2, h3, h4⟩ := ih (k + 1) (pa_w 456 k (pa_sn T (T 456 k)) T) (fun i i1 i2 => by
      rw [e, pa_w_ni (by omega)]
      exact h i (by omega) (by omega))
    unfold pa_chs
    rw [if_neg (h k (by omega) (by omega))]
    refine ⟨U, h1, fun g i hg => (h2 g i hg).trans (pa_w_nk hg), fun i i1 i2 => ?_, fun i hi => ?_⟩
    · by_cases d : i = k
      · rw [h4 i (by omega), d, pa_w_eq]
      · rw [h3 i (by omega) (by omega), e, pa_w_ni d]
    · rw [h4 i (by omega), pa_w_ni (by omega)]
theorem pa_chs_N : ∀ (m : Nat) (k : Int) (T : yT) (i : Int), k ≤ i → i < k + m → pa_sn T (T 456 i) = -1 → pa_chs m k T = none := by
  intro m
  induction m with
  | zero =>
    intro k T i h1 h2 h
    omega
  | succ m ih =>
    intro k T i h1 h2 h
    unfold pa_chs
    by_cases d : pa_sn T (T 456 k) = -1
    · rw [if_pos d]
    · rw [if_neg d]
      have ne : i ≠ k := fun z => d (by rw [← z]; exact h)
      refine ih (k + 1) _ i (by omega) (by omega) ?_
      rw [pa_w_ni ne, pa_sn_c (T := T) (fun i => pa_w_nk (by decide)) (pa_w_nk (by decide))]
      exact h
end
