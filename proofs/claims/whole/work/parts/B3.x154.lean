/-! the reference's characters and words -/
section VX154
variable {d L w : Nat} {xs : Nat → Int32} {S : q_S} {Q : Outcome → q_S → Prop}
theorem x152y (hW : w_W (q_S0 L xs) S) (h : v_dg w = true) (k : Q (.returned (some (.int 1))) S) : w_X (d + 1) 152 [.int (nI w)] S Q := by
  have := v_dg_b h
  exact b152_0 hW (by omega) (fun z => by omega) (fun _ z => by omega) (fun _ _ => k)
theorem x152n (hW : w_W (q_S0 L xs) S) (hw : w < 100000) (h : v_dg w = false) (k : Q (.returned (some (.int 0))) S) : w_X (d + 1) 152 [.int (nI w)] S Q := by
  have := v_dg_n h
  exact b152_0 hW hw (fun _ => k) (fun _ _ => k) (fun z z' => by omega)
theorem x145y (hW : w_W (q_S0 L xs) S) (h : v_le w = true) (k : Q (.returned (some (.int 1))) S) : w_X d 145 [.int (nI w), .int 97, .int 122] S Q := by
  have := v_le_b h
  exact b145_0 hW (by omega) (fun z => by omega) (fun _ z => by omega) (fun _ _ => k)
theorem x145n (hW : w_W (q_S0 L xs) S) (hw : w < 100000) (h : v_le w = false) (k : Q (.returned (some (.int 0))) S) : w_X d 145 [.int (nI w), .int 97, .int 122] S Q := by
  have := v_le_n h
  exact b145_0 hW hw (fun _ => k) (fun _ _ => k) (fun z z' => by omega)
theorem x155y (hW : w_W (q_S0 L xs) S) (h : v_sg w = true) (k : Q (.returned (some (.int 1))) S) : w_X d 155 [.int (nI w)] S Q := by
  have h := of_decide_eq_true h
  apply b155_0 hW (by omega) <;> intros <;> first | exact k | (exfalso; omega)
theorem x155n (hW : w_W (q_S0 L xs) S) (hw : w < 100000) (h : v_sg w = false) (k : Q (.returned (some (.int 0))) S) : w_X d 155 [.int (nI w)] S Q := by
  have h := of_decide_eq_false h
  apply b155_0 hW hw <;> intros <;> first | exact k | (exfalso; omega)
theorem x151 {c : Nat → Nat} {n z j : Nat} (hW : w_W (q_S0 L xs) S) (hs : v_MS S c n z) (hj : j < 10000) (k : Q (.returned (some (.int (nI (v_c1 c n j))))) S) : w_X d 151 [.ref 1097, .int (nI j)] S Q := by
  unfold v_c1 at k
  refine b151_0 hW hs hj (fun h => ?_) (fun h => ?_)
  · rw [if_neg (by omega)] at k; exact k
  · rw [if_pos (by omega)] at k; exact k
set_option maxHeartbeats 4000000 in
theorem x154 (hW : w_W (q_S0 L xs) S) (hw : w < 72057594037927936) (k : Q (.returned (some (.int (nI (v_wo w))))) S) : w_X d 154 [.ref 1097, .long (lN w)] S Q := by
  apply b154_0 hW hw <;> intros <;> first | (exfalso; omega) | (rw [v_wo3 (w := w) (by omega)] at k; exact k) | ((have e : w = 112 := (by omega)); subst e; exact k) | ((have e : w = 114 := (by omega)); subst e; exact k) | ((have e : w = 26990 := (by omega)); subst e; exact k) | ((have e : w = 6840691 := (by omega)); subst e; exact k) | ((have e : w = 1953658213 := (by omega)); subst e; exact k) | ((have e : w = 2003330414 := (by omega)); subst e; exact k) | ((have e : w = 439721161573 := (by omega)); subst e; exact k) | ((have e : w = 112628846455140 := (by omega)); subst e; exact k) | ((have e : w = 123581013780852 := (by omega)); subst e; exact k) | ((have e : w = 129117125440371 := (by omega)); subst e; exact k) | (rcases (show w = 120 ∨ w = 121 ∨ w = 122 by omega) with rfl | rfl | rfl <;> exact k)
end VX154
