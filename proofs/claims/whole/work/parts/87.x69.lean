/-! attributeOf: a sign of x, y, z is an attribute. -/
section VX69
variable {d L s : Nat} {xs : Nat → Int32} {S : q_S} {Q : Outcome → q_S → Prop}
theorem x69y (hW : w_W (q_S0 L xs) S) (hs : s < 34) (h : v_at s = true) (k : Q (.returned (some (.int (nI (s - 8))))) S) : w_X (d + 1) 69 [.ref s] S Q := by
  obtain ⟨h1, h2⟩ := v_at_ne h
  obtain rfl | rfl | rfl : s = 8 ∨ s = 9 ∨ s = 10 := by omega
  · exact b69_1 hW (by decide) (by decide) k
  · exact b69_2 hW (by decide) (by decide) k
  · exact b69_3 hW (by decide) (by decide) k
theorem v_sw69 : ∀ s, s < 34 → v_at s = false → q_sw (.tableswitch (34) (1) (3) #[28, 30, 32]) 8 (q_swm.getD s 0) = some 42 := by decide +kernel
theorem x69n (hW : w_W (q_S0 L xs) S) (hs : s < 34) (h : v_at s = false) (k : Q (.returned (some (.int (-2)))) S) : w_X (d + 1) 69 [.ref s] S Q :=
  b69_d hW hs rfl (v_sw69 s hs h) (w_re (l := []) rfl trivial (b69_e hW k))
end VX69
