/-! TYPES AS NUMBERS. -/
section VTY
variable {d L ki t : Nat} {xs : Nat → Int32} {S : q_S} {Q : Outcome → q_S → Prop}
theorem v_ty90 : ∀ ki, ki < 8 → ((nI ki) <<< ((2 : Int32) &&& 31)) ||| (3 : Int32) = nI (4 * ki + 3) := by decide +kernel
theorem v_ty109 : ∀ t, t < 32 → (nI t) &&& (3 : Int32) = nI (t % 4) := by decide +kernel
theorem v_ty110 : ∀ t, t < 32 → (nI t) >>> ((2 : Int32) &&& 31) = nI (t / 4) := by decide +kernel
theorem x90 (hW : w_W (q_S0 L xs) S) (h : ki < 8) (k : Q (.returned (some (.int (nI (4 * ki + 3))))) S) : w_X d 90 [.int (nI ki)] S Q := b90_0 hW (by omega) (by rw [v_ty90 ki h]; exact k)
theorem x109 (hW : w_W (q_S0 L xs) S) (h : t < 32) (k : Q (.returned (some (.int (nI (t % 4))))) S) : w_X d 109 [.int (nI t)] S Q := b109_0 hW (by omega) (by rw [v_ty109 t h]; exact k)
theorem x110 (hW : w_W (q_S0 L xs) S) (h : t < 32) (k : Q (.returned (some (.int (nI (t / 4))))) S) : w_X d 110 [.int (nI t)] S Q := b110_0 hW (by omega) (by rw [v_ty110 t h]; exact k)
end VTY
