/-! Printed: the head of the law. -/
theorem l205_hd {d L : Nat} {xs : Nat → Int32} {S : q_S} {Q : Outcome → q_S → Prop} {t1 : Nat} (hW : w_W (q_S0 L xs) S) {p : Nat} (hpL : p + 6 ≤ L) (hL : L ≤ 3072) (h1 : ¬ (L - 6 < p)) (h2 : q_sw (.tableswitch (1068) (0) (14) #[76, 164, 220, 233, 296, 371, 446, 538, 638, 701, 757, 856, 943, 968, 1043]) 40 ((xs p) &&& (15 : Int32)) = some t1)
    (k1 : w_R d 205 t1 [(0, .ref 999), (1, .ref 1000), (2, .ref 1097), (3, .ref 1139), (4, .int (nI p))] [] S Q) :
    w_R (d) 205 23 [(0, .ref 999), (1, .ref 1000), (2, .ref 1097), (3, .ref 1139), (4, .int (nI p))] [] S Q :=
  ((w_rd f205_23 rfl rfl rfl rfl rfl (w_rd f205_25 rfl rfl rfl rfl rfl (w_len f205_26 rfl (w_oS hW (by decide) rfl) rfl rfl (w_op f205_27 rfl w_c6b rfl (w_op f205_29 rfl (v_opS (a := L) (b := 6) (c := L - 6) (by omega) (by omega)) rfl (w_brF f205_30 rfl rfl rfl (fun z => h1 ((nI_ltI (a := L - 6) (b := p) (by omega) (by omega)).mp z)) (w_rd f205_33 rfl rfl rfl rfl rfl (w_rd f205_34 rfl rfl rfl rfl rfl (w_ialv f205_36 rfl (w_oS hW (by decide) rfl) (j := p) (by omega) (by omega) (y := (xs p)) (v_scr hW) rfl (w_op f205_37 rfl w_c15b rfl (w_op f205_39 rfl rfl rfl (w_sw f205_40 rfl h2 (k1))))))))))))))
theorem l205_ex {d L : Nat} {xs : Nat → Int32} {S : q_S} {Q : Outcome → q_S → Prop} (hW : w_W (q_S0 L xs) S) {p : Nat} (h6 : 6 ≤ L) (hL : L ≤ 3072) (hp9 : p < 4000) (h1 : L - 6 < p)
    (k1 : Q (.returned (some (.int 1))) S) :
    w_R (d) 205 23 [(0, .ref 999), (1, .ref 1000), (2, .ref 1097), (3, .ref 1139), (4, .int (nI p))] [] S Q :=
  ((w_rd f205_23 rfl rfl rfl rfl rfl (w_rd f205_25 rfl rfl rfl rfl rfl (w_len f205_26 rfl (w_oS hW (by decide) rfl) rfl rfl (w_op f205_27 rfl w_c6b rfl (w_op f205_29 rfl (v_opS (a := L) (b := 6) (c := L - 6) (by omega) (by omega)) rfl (w_brT f205_30 rfl rfl ((nI_ltI (a := L - 6) (b := p) (by omega) (by omega)).mpr h1) (w_op f205_1114 rfl w_c1i rfl (w_ret f205_1115 rfl (w_rtZ m205 (by decide)) (k1))))))))))
theorem l205_e0 {d L : Nat} {xs : Nat → Int32} {S : q_S} {Q : Outcome → q_S → Prop} (hW : w_W (q_S0 L xs) S) {p : Nat} (h6 : L < 6) (hL : L ≤ 3072) (hp9 : p < 4000) (h1 : ((nI L) - (6 : Int32)) < (nI p))
    (k1 : Q (.returned (some (.int 1))) S) :
    w_R (d) 205 23 [(0, .ref 999), (1, .ref 1000), (2, .ref 1097), (3, .ref 1139), (4, .int (nI p))] [] S Q :=
  ((w_rd f205_23 rfl rfl rfl rfl rfl (w_rd f205_25 rfl rfl rfl rfl rfl (w_len f205_26 rfl (w_oS hW (by decide) rfl) rfl rfl (w_op f205_27 rfl w_c6b rfl (w_op f205_29 rfl rfl rfl (w_brT f205_30 rfl rfl h1 (w_op f205_1114 rfl w_c1i rfl (w_ret f205_1115 rfl (w_rtZ m205 (by decide)) (k1))))))))))
theorem l205_no {d L : Nat} {xs : Nat → Int32} {S : q_S} {Q : Outcome → q_S → Prop} (hW : w_W (q_S0 L xs) S) {p : Nat} (hpL : p + 6 ≤ L) (hL : L ≤ 3072)
    (k1 : w_R d 205 23 [(0, .ref 999), (1, .ref 1000), (2, .ref 1097), (3, .ref 1139), (4, .int (nI (p + 6)))] [] S Q) :
    w_R (d) 205 1108 [(0, .ref 999), (1, .ref 1000), (2, .ref 1097), (3, .ref 1139), (4, .int (nI p))] [] S Q :=
  ((w_incN (n := p) (c := p + 6) (y := 6) f205_1108 rfl (by omega) rfl (w_goto f205_1111 rfl rfl (w_re (l := [(0, .ref 999), (1, .ref 1000), (2, .ref 1097), (3, .ref 1139), (4, .int (nI (p + 6)))]) rfl (And.intro rfl (And.intro rfl (And.intro rfl (And.intro rfl (And.intro rfl trivial))))) (k1)))))
