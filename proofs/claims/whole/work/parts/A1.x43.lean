/-! length and charAt of a spelling -/
section VX43
variable {d L g k : Nat} {xs : Nat → Int32} {S : q_S} {Q : Outcome → q_S → Prop}
theorem v_shr0 : ∀ n, n < 7 → (nI n) >>> ((0 : Int32) &&& 31) = nI n := by decide +kernel
theorem v_i2c0 : ∀ n, n < 128 → w_i2c ((nI n) &&& (255 : Int32)) = nI n := by decide +kernel
theorem v_ncr : ∀ n, n < 128 → narrow .char (.int (nI n)) = .int (nI n) := by decide +kernel
theorem x41 (hW : w_W (q_S0 L xs) S) (hg : g < 34) (kk : Q (.returned (some (.int (nI (v_sl g))))) S) : w_X (d + 1) 41 [.ref (300 + g)] S Q := by
  have h := v_sl_b g
  refine b41_0 hW hg ?_
  rw [v_shr0 _ (by omega)]
  exact kk
theorem x43 (hW : w_W (q_S0 L xs) S) (hg : g < 34) (hk : k < v_sl g) (kk : Q (.returned (some (.int (nI (v_ch g k))))) S) : w_X (d + 3) 43 [.ref (300 + g), .int (nI k)] S Q := by
  have h := v_sl_b g
  have hc := v_ch_b g k
  refine b43_0 hW hk hg (by omega) ?_ ?_
  · rw [v_i2c0 _ hc]; exact v_ncr _ hc
  · rw [v_i2c0 _ hc]; exact kk
end VX43
