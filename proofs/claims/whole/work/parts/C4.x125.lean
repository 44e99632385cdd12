section VX125
variable {d L s : Nat} {xs : Nat → Int32} {S : q_S} {Q : Outcome → q_S → Prop} {x : Int32}
theorem x125 (hW : w_W (q_S0 L xs) S) (_hs : s < 7) (k : Q (.returned (some (.long (v_w s x)))) S) : w_X d 125 [.int (nI s), .int x] S Q := b125_0 hW k
theorem x129 (hW : w_W (q_S0 L xs) S) (hs : s < 7) (k : Q (.returned (some (.int (nI s)))) S) : w_X d 129 [.long (v_w s x)] S Q := by
  refine b129_0 hW ?_
  rw [v_w_sort hs]
  exact k
theorem x131 (hW : w_W (q_S0 L xs) S) (hs : s < 7) (k : Q (.returned (some (.int x))) S) : w_X d 131 [.long (v_w s x)] S Q := by
  refine b131_0 hW ?_
  rw [v_w_val hs]
  exact k
end VX125
