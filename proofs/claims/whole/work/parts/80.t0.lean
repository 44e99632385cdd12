theorem b15_0 {d L : Nat} {xs : Nat → Int32} {S : q_S} {Q : Outcome → q_S → Prop} {x1 : Int32} (hW : w_W (q_S0 L xs) S) (h1 : q_ix x1 16 = true)
    (k1 : (q_iv S 1016 x1.toNatClampNeg) = (-2) → Q (.returned (some (.int 0))) (S))
    (k2 : ¬ ((q_iv S 1016 x1.toNatClampNeg) = (-2)) → Q (.returned (some (.int 1))) (S)) :
    w_X (d) 15 [.ref 1015, .int x1] S Q :=
  show w_R (d) 15 0 [(0, .ref 1015), (1, .int x1)] [] S Q from (w_rd f15_0 rfl rfl rfl rfl rfl (w_getR f15_1 rfl rfl rfl (hW.fk (by decide) rfl (by decide) (by decide)) (hW.rv (by decide +kernel)) rfl (w_rd f15_4 rfl rfl rfl rfl rfl (w_ial f15_5 rfl (hW.sh (by decide) rfl (by decide)) h1 rfl (w_op f15_6 rfl (w_cn2b) rfl (w_br f15_8 rfl rfl rfl (fun c2 => (w_op f15_15 rfl (w_c0i) rfl (w_ret f15_16 rfl (w_rtZ m15 (by decide)) (k1 c2)))) (fun c2 => (w_op f15_11 rfl (w_c1i) rfl (w_goto f15_12 rfl rfl (w_ret f15_16 rfl (w_rtZ m15 (by decide)) (k2 c2)))))))))))

theorem b82_0 {d L : Nat} {xs : Nat → Int32} {S : q_S} {Q : Outcome → q_S → Prop} {x1 x2 : Int32} (hW : w_W (q_S0 L xs) S)
    (k1 : w_R d 82 7 [(0, .ref 1015), (2, .int x2), (3, .int (1 <<< (x1 &&& 31))), (4, .int 0)] [] (S) Q) :
    w_X (d) 82 [.ref 1015, .int x1, .int x2] S Q :=
  show w_R (d) 82 0 [(0, .ref 1015), (1, .int x1), (2, .int x2)] [] S Q from (w_op f82_0 rfl (w_c1i) rfl (w_rd f82_1 rfl rfl rfl rfl rfl (w_op f82_2 rfl rfl rfl (w_wr f82_3 rfl rfl rfl (w_op f82_4 rfl (w_c0i) rfl (w_wr f82_5 rfl rfl rfl (w_re rfl ⟨rfl, rfl, rfl, rfl, trivial⟩ (k1))))))))

theorem b82_7 {d L : Nat} {xs : Nat → Int32} {S : q_S} {Q : Outcome → q_S → Prop} {x1 x2 x3 : Int32} (hW : w_W (q_S0 L xs) S)
    (k1 : 16 ≤ x3 → ((x2 >>> (x1 &&& 31)) &&& 1) = 0 → Q (.returned (some (.int 0))) (S))
    (k2 : 16 ≤ x3 → ¬ (((x2 >>> (x1 &&& 31)) &&& 1) = 0) → Q (.returned (some (.int 1))) (S))
    (k3 : ¬ (16 ≤ x3) → w_X d 83 [.ref 1015, .int x2] (S) (w_k (d + 1) 82 16 [(0, .ref 1015), (2, .int x1), (4, .int x3)] [] Q)) :
    w_R (d + 1) 82 7 [(0, .ref 1015), (2, .int x1), (3, .int x2), (4, .int x3)] [] S Q :=
  (w_rd f82_7 rfl rfl rfl rfl rfl (w_op f82_9 rfl (w_c16b) rfl (w_br f82_11 rfl rfl rfl (fun c4 => (w_rd f82_26 rfl rfl rfl rfl rfl (w_rd f82_27 rfl rfl rfl rfl rfl (w_op f82_28 rfl rfl rfl (w_op f82_29 rfl (w_c1i) rfl (w_op f82_30 rfl rfl rfl (w_br f82_31 rfl rfl rfl (fun c5 => (w_op f82_38 rfl (w_c0i) rfl (w_ret f82_39 rfl (w_rtZ m82 (by decide)) (k1 c4 c5)))) (fun c5 => (w_op f82_34 rfl (w_c1i) rfl (w_goto f82_35 rfl rfl (w_ret f82_39 rfl (w_rtZ m82 (by decide)) (k2 c4 c5)))))))))))) (fun c4 => (w_rd f82_14 rfl rfl rfl rfl rfl (w_rd f82_15 rfl rfl rfl rfl rfl (w_re rfl ⟨rfl, rfl, rfl, trivial⟩ (w_call f82_16 rfl rfl rfl m83.1 (as := [.ref 1015, .int x2]) (rest := []) rfl rfl (w_ccR m83 (by decide) (show 2 ≤ 2 from by decide) (show 0 ≤ 8 from by decide) (show 2 ≤ 4 from by decide) rfl (w_rsC hW (by decide) rfl (by decide) (by decide))) (k3 c4)))))))))

theorem b82_19 {d L : Nat} {xs : Nat → Int32} {S : q_S} {Q : Outcome → q_S → Prop} {x1 x2 s3 : Int32} (hW : w_W (q_S0 L xs) S)
    (k1 : w_R d 82 7 [(0, .ref 1015), (2, .int x1), (3, .int s3), (4, .int (x2 + Int32.ofInt (1)))] [] (S) Q) :
    w_R (d) 82 19 [(0, .ref 1015), (2, .int x1), (4, .int x2)] [.int s3] S Q :=
  (w_wr f82_19 rfl rfl rfl (w_inc f82_20 rfl rfl (w_goto f82_23 rfl rfl (w_re rfl ⟨rfl, rfl, rfl, rfl, trivial⟩ (k1)))))

theorem b11_0 {d L : Nat} {xs : Nat → Int32} {S : q_S} {Q : Outcome → q_S → Prop} {x1 x2 : Int32} (hW : w_W (q_S0 L xs) S)
    (k1 : x1 < 0 → Q (.returned (some (.int 0))) (S))
    (k2 : ¬ (x1 < 0) → x2 ≤ x1 → Q (.returned (some (.int 0))) (S))
    (k3 : ¬ (x1 < 0) → ¬ (x2 ≤ x1) → Q (.returned (some (.int 1))) (S)) :
    w_X (d) 11 [.int x1, .int x2] S Q :=
  show w_R (d) 11 0 [(0, .int x1), (1, .int x2)] [] S Q from (w_rd f11_0 rfl rfl rfl rfl rfl (w_br f11_1 rfl rfl rfl (fun c3 => (w_op f11_13 rfl (w_c0i) rfl (w_ret f11_14 rfl (w_rtZ m11 (by decide)) (k1 c3)))) (fun c3 => (w_rd f11_4 rfl rfl rfl rfl rfl (w_rd f11_5 rfl rfl rfl rfl rfl (w_br f11_6 rfl rfl rfl (fun c4 => (w_op f11_13 rfl (w_c0i) rfl (w_ret f11_14 rfl (w_rtZ m11 (by decide)) (k2 c3 c4)))) (fun c4 => (w_op f11_9 rfl (w_c1i) rfl (w_goto f11_10 rfl rfl (w_ret f11_14 rfl (w_rtZ m11 (by decide)) (k3 c3 c4)))))))))))

