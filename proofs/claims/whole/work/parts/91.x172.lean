/-! joins -/
section VX172
variable {d L r s : Nat} {xs : Nat → Int32} {S : q_S} {Q : Outcome → q_S → Prop}
theorem v_wcj : ∀ s, s < 34 → decide (v_lv s = 0 ↔ v_wc s = 205) && (decide (v_lv s = 1 ↔ v_wc s = 204) && (decide (v_lv s = 3 ↔ (v_wc s = 43 ∨ v_wc s = 45)) && decide (v_lv s = 4 ↔ v_wc s = 42))) = true := by decide +kernel
theorem v_wcj' (h : s < 34) : (v_lv s = 0 ↔ v_wc s = 205) ∧ (v_lv s = 1 ↔ v_wc s = 204) ∧ (v_lv s = 3 ↔ (v_wc s = 43 ∨ v_wc s = 45)) ∧ (v_lv s = 4 ↔ v_wc s = 42) := by
  have h1 := v_wcj s h
  simp only [Bool.and_eq_true, decide_eq_true_eq] at h1
  exact h1
theorem x172y (hW : w_W (q_S0 L xs) S) (hr : r = 0 ∨ r = 1 ∨ r = 3 ∨ r = 4) (hs : s < 34) (h : v_lv s = r) (k : Q (.returned (some (.int 1))) S) : w_X d 172 [.int (nI r), .int (nI (v_wc s))] S Q := by
  obtain ⟨c0, c1, c3, c4⟩ := v_wcj' hs
  have hw := v_wc_all s
  apply b172_0 hW (by omega) (by omega) <;> intros <;> first | exact k | (exfalso; omega)
theorem x172n (hW : w_W (q_S0 L xs) S) (hr : r = 0 ∨ r = 1 ∨ r = 3 ∨ r = 4) (hs : s < 34) (h : ¬ v_lv s = r) (k : Q (.returned (some (.int 0))) S) : w_X d 172 [.int (nI r), .int (nI (v_wc s))] S Q := by
  obtain ⟨c0, c1, c3, c4⟩ := v_wcj' hs
  have hw := v_wc_all s
  apply b172_0 hW (by omega) (by omega) <;> intros <;> first | exact k | (exfalso; omega)
end VX172
