/-! Printed: a worth, its sort, its value. -/
theorem b125_0 {d L : Nat} {xs : Nat → Int32} {S : q_S} {Q : Outcome → q_S → Prop} {x0 x1 : Int32} (hW : w_W (q_S0 L xs) S)
    (k1 : Q (.returned (some (.long (((x0.toInt64) <<< ((32 : Int32).toInt64 &&& 63)) ||| ((x1.toInt64) &&& (lN 4294967295)))))) S) :
    w_X (d) 125 [.int x0, .int x1] S Q :=
  show w_R (d) 125 0 [(0, .int x0), (1, .int x1)] [] S Q from ((w_rd f125_0 rfl rfl rfl rfl rfl (w_op f125_1 rfl rfl rfl (w_op f125_2 rfl w_c32b rfl (w_op f125_4 rfl rfl rfl (w_rd f125_5 rfl rfl rfl rfl rfl (w_op f125_6 rfl rfl rfl (w_ldl f125_7 rfl rfl rfl (w_op f125_10 rfl rfl rfl (w_op f125_11 rfl rfl rfl (w_ret f125_12 rfl (w_rtJ m125) (k1))))))))))))
theorem b129_0 {d L : Nat} {xs : Nat → Int32} {S : q_S} {Q : Outcome → q_S → Prop} {x0 : Int64} (hW : w_W (q_S0 L xs) S)
    (k1 : Q (.returned (some (.int ((w_lsr x0 (32 : Int32)).toInt32)))) S) :
    w_X (d) 129 [.long x0] S Q :=
  show w_R (d) 129 0 [(0, .long x0)] [] S Q from ((w_rd f129_0 rfl rfl rfl rfl rfl (w_op f129_1 rfl w_c32b rfl (w_op f129_3 rfl rfl rfl (w_op f129_4 rfl rfl rfl (w_ret f129_5 rfl (w_rtI m129) (k1)))))))
theorem b131_0 {d L : Nat} {xs : Nat → Int32} {S : q_S} {Q : Outcome → q_S → Prop} {x0 : Int64} (hW : w_W (q_S0 L xs) S)
    (k1 : Q (.returned (some (.int (x0.toInt32)))) S) :
    w_X (d) 131 [.long x0] S Q :=
  show w_R (d) 131 0 [(0, .long x0)] [] S Q from ((w_rd f131_0 rfl rfl rfl rfl rfl (w_op f131_1 rfl rfl rfl (w_ret f131_2 rfl (w_rtI m131) (k1)))))
