/-! the reference's machine: fields without structures -/
/-- the frame K holds the fields of a structure, field k is next -/
def mFF (T : yT) (K st me k dd : Int) (s : zS) : Prop := s.1 620 0 0 = K + 1 ∧ s.1 621 0 K = 0 ∧ s.1 622 0 K = st ∧ s.1 623 0 K = me ∧ s.1 624 0 K = k ∧ s.1 629 0 K = dd ∧ s.1 625 0 K = yBit T st k.toNat
/-- a fault above frame K - 1 -/
def mBad (t K cnt : Int) (N : Nat) (s : zS) (e : Int × Int × Int) : Prop := if e.1 = 5 then (∃ w, mRun t N s w ∧ w.1 620 0 0 = 0 ∧ w.1 608 0 0 = 5 ∧ w.1 609 0 0 = e.2.1 ∧ mfm s w) else ∃ u, mKeep K cnt s u ∧ u.1 620 0 0 = K ∧ u.1 611 0 0 = e.2.2 ∧ ∀ w, mFl K e.1 e.2.1 u w → mRun t N s w
section
variable {t n : Int} {T : yT} {B : yB} {E : yE} {K J pos made cnt st k me dd g ln v : Int} {s u w : zS}
theorem M184_116 (hc : s.1 610 0 0 = cnt + 1) (hp : s.1 607 0 0 = pos) (hk : s.1 624 0 K = k) (hn : s.1 594 0 0 = n) (hB : ∀ i, 0 ≤ i → i < n → s.1 595 0 i = B i) (hn6 : 0 ≤ n ∧ n ≤ 160) (hc0 : 0 ≤ cnt ∧ cnt < 200) (hp0 : 0 ≤ pos ∧ pos ≤ 1000) (hk0 : 0 ≤ k ∧ k ≤ 7) (hK : 0 ≤ K ∧ K < 50) (hl : 0 ≤ ln ∧ ln ≤ 200) (hln : ln = 0 ∨ pos + ln ≤ n) : zf_184_116 0 K ln s = zi 0 (zp 624 0 K (k + 1) (zp 607 0 0 (pos + ln) (zp 616 0 cnt (if ln = 0 then -1 else B pos) (zp 615 0 cnt ln s)))) := by
  have e157 : ∀ x : Int, zf_184_157 0 K ln 0 cnt x (zp 615 0 cnt ln s) = zi 0 (zp 624 0 K (k + 1) (zp 607 0 0 (pos + ln) (zp 616 0 cnt x (zp 615 0 cnt ln s)))) := by
    intro x
    have a1 : (zp 616 0 cnt x (zp 615 0 cnt ln s)).1 607 0 0 = pos := by rw [zp_nn (by omega), zp_nn (by omega)]; exact hp
    have a2 : (zp 607 0 0 (pos + ln) (zp 616 0 cnt x (zp 615 0 cnt ln s))).1 624 0 K = k := by rw [zp_nn (by omega), zp_nn (by omega), zp_nn (by omega)]; exact hk
    unfold zf_184_157
    rw [zW_ok (by omega), a1, zg_ok ⟨by omega, by omega⟩, zP_ok, zn_ok (by omega), a2, zg_ok ⟨by omega, by omega⟩, zW_ok (by omega)]
  unfold zf_184_116
  rw [hc, zg_ok ⟨by omega, by omega⟩, show cnt + 1 - 1 = cnt by omega, zW_ok (by omega), show (zp 615 0 cnt ln s).1 610 0 0 = cnt + 1 from (zp_nn (by omega)).trans hc, show (zp 615 0 cnt ln s).1 607 0 0 = pos from (zp_nn (by omega)).trans hp, zg_ok ⟨by omega, by omega⟩, show cnt + 1 - 1 = cnt by omega]
  by_cases h : ln = 0
  · rw [if_pos h, if_pos h, e157]
  · rw [if_neg h, if_neg h, zn_ok (by omega), zg_ok ⟨by omega, by omega⟩, show (zp 615 0 cnt ln s).1 595 0 pos = B pos from (zp_nn (by omega)).trans (hB pos hp0.1 (by omega)), e157]
/-- of a string: its end, or the fault -/
theorem M184_87 {w : zS} (hw : ¬ (ln ≤ 0 ∨ pos + ln ≤ n) → zf_177 0 1 pos s = zi 0 w) (hc : s.1 610 0 0 = cnt + 1) (hp : s.1 607 0 0 = pos) (hk : s.1 624 0 K = k) (hn : s.1 594 0 0 = n) (hB : ∀ i, 0 ≤ i → i < n → s.1 595 0 i = B i) (hn6 : 0 ≤ n ∧ n ≤ 160) (hc0 : 0 ≤ cnt ∧ cnt < 200) (hp0 : 0 ≤ pos ∧ pos ≤ 1000) (hk0 : 0 ≤ k ∧ k ≤ 7) (hK : 0 ≤ K ∧ K < 50) (hl : 0 ≤ ln ∧ ln ≤ 200) : zf_184_87 0 K ln s = zi 0 (if ln ≤ 0 ∨ pos + ln ≤ n then zp 624 0 K (k + 1) (zp 607 0 0 (pos + ln) (zp 616 0 cnt (if ln = 0 then -1 else B pos) (zp 615 0 cnt ln s))) else w) := by
  unfold zf_184_87
  by_cases h1 : ln ≤ 0
  · rw [if_pos h1, if_pos (Or.inl h1), M184_116 hc hp hk hn hB hn6 hc0 hp0 hk0 hK hl (by omega)]
  · rw [if_neg h1, hp, hn, zg_ok ⟨by omega, by omega⟩]
    by_cases h2 : pos + ln ≤ n
    · rw [if_pos h2, if_pos (Or.inr h2), M184_116 hc hp hk hn hB hn6 hc0 hp0 hk0 hK hl (by omega)]
    · rw [if_neg h2, hw (by omega), zC_zi, if_neg (by omega)]
theorem M184_49 (hp : s.1 607 0 0 = pos) (hn : s.1 594 0 0 = n) (hB : ∀ i, 0 ≤ i → i < n → s.1 595 0 i = B i) (hn6 : 0 ≤ n ∧ n ≤ 160) (hp0 : 0 ≤ pos ∧ pos ≤ 1000) : ∀ (m N : Nat) (j : Int), m < N → 0 ≤ j → j ≤ 1000 → (m = 0 → n ≤ pos + j) → (m ≠ 0 → pos + j + m = n) → zf_184_49 N 0 K j s = zf_184_87 0 K (match yZ B n m (pos + j) with | some z => z + 1 - pos | none => j + m + 1) s := by
  intro m
  induction m with
  | zero =>
    intro N j hN h0 hj h1 h2
    obtain ⟨N, rfl⟩ : ∃ M, N = M + 1 := ⟨N - 1, by omega⟩
    have h1 := h1 rfl
    unfold zf_184_49 yZ
    rw [hp, hn, zg_ok ⟨by omega, by omega⟩, if_pos h1, zg_ok ⟨by omega, by omega⟩]
    dsimp only
    rw [show j + ((0 : Nat) : Int) + 1 = j + 1 by omega]
  | succ m ih =>
    intro N j hN h0 hj h1 h2
    obtain ⟨N, rfl⟩ : ∃ M, N = M + 1 := ⟨N - 1, by omega⟩
    have h2 := h2 (by omega)
    unfold zf_184_49 yZ
    rw [hp, hn, zg_ok ⟨by omega, by omega⟩, if_neg (by omega), zn_ok (by omega), hB _ (by omega) (by omega)]
    by_cases h3 : B (pos + j) = 0
    · rw [if_pos h3, if_pos h3, zg_ok ⟨by omega, by omega⟩]
      dsimp only
      rw [show pos + j + 1 - pos = j + 1 by omega]
    · rw [if_neg h3, if_neg h3, zg_ok ⟨by omega, by omega⟩, ih N (j + 1) (by omega) (by omega) (by omega) (by omega) (by omega), show pos + (j + 1) = pos + j + 1 by omega]
      cases yZ B n m (pos + j + 1) with
      | some z => rfl
      | none =>
        dsimp only
        rw [show j + 1 + (m : Int) + 1 = j + ((m + 1 : Nat) : Int) + 1 by omega]
/-- what mFl comes to at a fields frame -/
theorem mBad.ff {c p m' : Int} {N : Nat} (h5 : c ≠ 5) (K1 : mKeep K cnt s u) (h620 : u.1 620 0 0 = K + 1) (h621 : u.1 621 0 K = 0) (hK : 0 ≤ K ∧ K < 50) (hm : u.1 611 0 0 = m') (h : ∀ w, mFl (K + 1) c p u w → mRun t N s w) : mBad t K cnt N s (c, p, m') := by
  unfold mBad
  rw [if_neg h5]
  refine ⟨zp 620 0 0 K u, K1.pw (by omega), zp_eq, ?_, fun w hw => h w (mFl.pop h620 (by omega) (by omega) hw)⟩
  rw [zp_nn (by omega)]
  exact hm
end
