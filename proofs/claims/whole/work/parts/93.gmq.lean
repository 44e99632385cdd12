/-! Printed: behind a step. -/
theorem b163_22y {d L : Nat} {xs : Nat → Int32} {S : q_S} {Q : Outcome → q_S → Prop} (hW : w_W (q_S0 L xs) S)
    (k1 : w_R d 163 11 [(0, .ref 1097)] [] S Q) :
    w_R (d) 163 22 [(0, .ref 1097)] [.int 1] S Q :=
  ((w_brT f163_22 rfl rfl (by decide) (w_re (l := [(0, .ref 1097)]) rfl (And.intro rfl trivial) (k1))))
theorem b163_22n {d L : Nat} {xs : Nat → Int32} {S : q_S} {Q : Outcome → q_S → Prop} (hW : w_W (q_S0 L xs) S)
    (k1 : Q (.returned (some (.int 0))) S) :
    w_R (d) 163 22 [(0, .ref 1097)] [.int 0] S Q :=
  ((w_brF f163_22 rfl rfl rfl (by decide) (w_op f163_25 rfl w_c0i rfl (w_ret f163_26 rfl (w_rtZ m163 (by decide)) (k1)))))
theorem b165_42y {d L : Nat} {xs : Nat → Int32} {S : q_S} {Q : Outcome → q_S → Prop} (hW : w_W (q_S0 L xs) S)
    (k1 : Q (.returned (some (.int 1))) S) :
    w_R (d) 165 42 [] [.int 1] S Q :=
  ((w_goto f165_42 rfl rfl (w_ret f165_50 rfl (w_rtZ m165 (by decide)) (k1))))
theorem b165_42n {d L : Nat} {xs : Nat → Int32} {S : q_S} {Q : Outcome → q_S → Prop} (hW : w_W (q_S0 L xs) S)
    (k1 : Q (.returned (some (.int 0))) S) :
    w_R (d) 165 42 [] [.int 0] S Q :=
  ((w_goto f165_42 rfl rfl (w_ret f165_50 rfl (w_rtZ m165 (by decide)) (k1))))
