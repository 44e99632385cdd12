/-! Printed: the reference gives up. -/
theorem e156_63n' {d L : Nat} {xs : Nat → Int32} {S : q_S} {Q : Outcome → q_S → Prop} (hW : w_W (q_S0 L xs) S)
    (k1 : Q (.returned (some (.int 0))) S) :
    w_R (d) 156 63 [(0, .ref 1097)] [.int 0] S Q :=
  ((w_brT f156_63 rfl rfl (by decide) (w_op f156_120 rfl w_c0i rfl (w_ret f156_121 rfl (w_rtZ m156 (by decide)) (k1)))))
theorem e156_71n' {d L : Nat} {xs : Nat → Int32} {S : q_S} {Q : Outcome → q_S → Prop} (hW : w_W (q_S0 L xs) S)
    (k1 : Q (.returned (some (.int 0))) S) :
    w_R (d) 156 71 [(0, .ref 1097)] [.int 0] S Q :=
  ((w_brT f156_71 rfl rfl (by decide) (w_op f156_120 rfl w_c0i rfl (w_ret f156_121 rfl (w_rtZ m156 (by decide)) (k1)))))
theorem e156_80n' {d L : Nat} {xs : Nat → Int32} {S : q_S} {Q : Outcome → q_S → Prop} (hW : w_W (q_S0 L xs) S)
    (k1 : Q (.returned (some (.int 0))) S) :
    w_R (d) 156 80 [(0, .ref 1097)] [.int 0] S Q :=
  ((w_brT f156_80 rfl rfl (by decide) (w_op f156_120 rfl w_c0i rfl (w_ret f156_121 rfl (w_rtZ m156 (by decide)) (k1)))))
theorem e156_87n' {d L : Nat} {xs : Nat → Int32} {S : q_S} {Q : Outcome → q_S → Prop} (hW : w_W (q_S0 L xs) S)
    (k1 : Q (.returned (some (.int 0))) S) :
    w_R (d) 156 87 [(0, .ref 1097)] [.int 0] S Q :=
  ((w_brT f156_87 rfl rfl (by decide) (w_op f156_120 rfl w_c0i rfl (w_ret f156_121 rfl (w_rtZ m156 (by decide)) (k1)))))
theorem e156_96n' {d L : Nat} {xs : Nat → Int32} {S : q_S} {Q : Outcome → q_S → Prop} (hW : w_W (q_S0 L xs) S)
    (k1 : Q (.returned (some (.int 0))) S) :
    w_R (d) 156 96 [(0, .ref 1097)] [.int 0] S Q :=
  ((w_brT f156_96 rfl rfl (by decide) (w_op f156_120 rfl w_c0i rfl (w_ret f156_121 rfl (w_rtZ m156 (by decide)) (k1)))))
theorem e156_104n' {d L : Nat} {xs : Nat → Int32} {S : q_S} {Q : Outcome → q_S → Prop} (hW : w_W (q_S0 L xs) S)
    (k1 : Q (.returned (some (.int 0))) S) :
    w_R (d) 156 104 [(0, .ref 1097)] [.int 0] S Q :=
  ((w_brT f156_104 rfl rfl (by decide) (w_op f156_120 rfl w_c0i rfl (w_ret f156_121 rfl (w_rtZ m156 (by decide)) (k1)))))
theorem e156_113n' {d L : Nat} {xs : Nat → Int32} {S : q_S} {Q : Outcome → q_S → Prop} (hW : w_W (q_S0 L xs) S)
    (k1 : Q (.returned (some (.int 0))) S) :
    w_R (d) 156 113 [] [.int 0] S Q :=
  ((w_brT f156_113 rfl rfl (by decide) (w_op f156_120 rfl w_c0i rfl (w_ret f156_121 rfl (w_rtZ m156 (by decide)) (k1)))))
theorem e148_110n' {d L : Nat} {xs : Nat → Int32} {S : q_S} {Q : Outcome → q_S → Prop} {c : Nat} (hW : w_W (q_S0 L xs) S) (h1 : c < 100000)
    (k1 : Q (.returned (some (.int 0))) S) :
    w_R (d) 148 110 [(0, .ref 1097), (1, .int (nI c))] [.int 0] S Q :=
  ((w_brT f148_110 rfl rfl (by decide) (w_op f148_129 rfl w_c0i rfl (w_ret f148_130 rfl (w_rtZ m148 (by decide)) (k1)))))
theorem e148_117n' {d L : Nat} {xs : Nat → Int32} {S : q_S} {Q : Outcome → q_S → Prop} {c : Nat} (hW : w_W (q_S0 L xs) S) (h1 : c < 100000)
    (k1 : Q (.returned (some (.int 0))) S) :
    w_R (d) 148 117 [(0, .ref 1097), (1, .int (nI c))] [.int 0] S Q :=
  ((w_brT f148_117 rfl rfl (by decide) (w_op f148_129 rfl w_c0i rfl (w_ret f148_130 rfl (w_rtZ m148 (by decide)) (k1)))))
theorem e148_126n' {d L : Nat} {xs : Nat → Int32} {S : q_S} {Q : Outcome → q_S → Prop} {c : Nat} (hW : w_W (q_S0 L xs) S) (h1 : c < 100000)
    (k1 : Q (.returned (some (.int 0))) S) :
    w_R (d) 148 126 [(0, .ref 1097), (1, .int (nI c))] [.int 0] S Q :=
  ((w_brF f148_126 rfl rfl rfl (by decide) (w_op f148_129 rfl w_c0i rfl (w_ret f148_130 rfl (w_rtZ m148 (by decide)) (k1)))))
