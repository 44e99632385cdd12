/-! Printed: types. -/
theorem b90_0 {d L : Nat} {xs : Nat → Int32} {S : q_S} {Q : Outcome → q_S → Prop} {ki : Nat} (hW : w_W (q_S0 L xs) S) (h1 : ki < 100000)
    (k1 : Q (.returned (some (.int (((nI ki) <<< ((2 : Int32) &&& 31)) ||| (3 : Int32))))) S) :
    w_X (d) 90 [.int (nI ki)] S Q :=
  show w_R (d) 90 0 [(0, .int (nI ki))] [] S Q from ((w_rd f90_0 rfl rfl rfl rfl rfl (w_op f90_1 rfl w_c2i rfl (w_op f90_2 rfl rfl rfl (w_op f90_3 rfl w_c3i rfl (w_op f90_4 rfl rfl rfl (w_ret f90_5 rfl (w_rtI m90) (k1))))))))
theorem b109_0 {d L : Nat} {xs : Nat → Int32} {S : q_S} {Q : Outcome → q_S → Prop} {t : Nat} (hW : w_W (q_S0 L xs) S) (h1 : t < 100000)
    (k1 : Q (.returned (some (.int ((nI t) &&& (3 : Int32))))) S) :
    w_X (d) 109 [.int (nI t)] S Q :=
  show w_R (d) 109 0 [(0, .int (nI t))] [] S Q from ((w_rd f109_0 rfl rfl rfl rfl rfl (w_op f109_1 rfl w_c3i rfl (w_op f109_2 rfl rfl rfl (w_ret f109_3 rfl (w_rtI m109) (k1))))))
theorem b110_0 {d L : Nat} {xs : Nat → Int32} {S : q_S} {Q : Outcome → q_S → Prop} {t : Nat} (hW : w_W (q_S0 L xs) S) (h1 : t < 100000)
    (k1 : Q (.returned (some (.int ((nI t) >>> ((2 : Int32) &&& 31))))) S) :
    w_X (d) 110 [.int (nI t)] S Q :=
  show w_R (d) 110 0 [(0, .int (nI t))] [] S Q from ((w_rd f110_0 rfl rfl rfl rfl rfl (w_op f110_1 rfl w_c2i rfl (w_op f110_2 rfl rfl rfl (w_ret f110_3 rfl (w_rtI m110) (k1))))))
