set_option maxRecDepth 100000 in
theorem q_k0_0 : q_c0_0.all (q_ck 0 prog_1_method_1_code 2) = true := by decide +kernel
set_option maxRecDepth 100000 in
theorem q_k0_1 : q_c0_1.all (q_ck 0 prog_1_method_1_code 2) = true := by decide +kernel
theorem q_k0 : q_c0.all (q_ck 0 prog_1_method_1_code 2) = true := by
  unfold q_c0
  simp only [List.all_append, q_k0_0, q_k0_1, Bool.and_self]
set_option maxRecDepth 100000 in
theorem q_k1_0 : q_c1_0.all (q_ck 1 prog_7_method_1_code 1) = true := by decide +kernel
set_option maxRecDepth 100000 in
theorem q_k1_1 : q_c1_1.all (q_ck 1 prog_7_method_1_code 1) = true := by decide +kernel
theorem q_k1 : q_c1.all (q_ck 1 prog_7_method_1_code 1) = true := by
  unfold q_c1
  simp only [List.all_append, q_k1_0, q_k1_1, Bool.and_self]
set_option maxRecDepth 100000 in
theorem q_k2 : q_c2.all (q_ck 2 prog_9_method_1_code 1) = true := by decide +kernel
set_option maxRecDepth 100000 in
theorem q_k3 : q_c3.all (q_ck 3 prog_5_method_1_code 2) = true := by decide +kernel
set_option maxRecDepth 100000 in
theorem q_k4 : q_c4.all (q_ck 4 prog_4_method_1_code 1) = true := by decide +kernel
set_option maxRecDepth 100000 in
theorem q_k5 : q_c5.all (q_ck 5 prog_8_method_1_code 2) = true := by decide +kernel
set_option maxRecDepth 100000 in
theorem q_k6 : q_c6.all (q_ck 6 prog_11_method_1_code 1) = true := by decide +kernel
set_option maxRecDepth 100000 in
theorem q_k7 : q_c7.all (q_ck 7 prog_6_method_1_code 3) = true := by decide +kernel
set_option maxRecDepth 100000 in
theorem q_k8 : q_c8.all (q_ck 8 prog_3_method_1_code 4) = true := by decide +kernel
set_option maxRecDepth 100000 in
theorem q_k9 : q_c9.all (q_ck 0 prog_1_method_4_code 1) = true := by decide +kernel
set_option maxRecDepth 100000 in
theorem q_k10 : q_c10.all (q_ck 0 prog_1_method_14_code 2) = true := by decide +kernel
set_option maxRecDepth 100000 in
theorem q_k11 : q_c11.all (q_ck 0 prog_1_method_17_code 2) = true := by decide +kernel
set_option maxRecDepth 100000 in
theorem q_k12 : q_c12.all (q_ck 0 prog_1_method_16_code 2) = true := by decide +kernel
set_option maxRecDepth 100000 in
theorem q_k13 : q_c13.all (q_ck 0 prog_1_method_24_code 3) = true := by decide +kernel
set_option maxRecDepth 100000 in
theorem q_k14 : q_c14.all (q_ck 3 prog_5_method_3_code 3) = true := by decide +kernel
set_option maxRecDepth 100000 in
theorem q_k15 : q_c15.all (q_ck 3 prog_5_method_2_code 2) = true := by decide +kernel
set_option maxRecDepth 100000 in
theorem q_k16 : q_c16.all (q_ck 0 prog_1_method_25_code 3) = true := by decide +kernel
set_option maxRecDepth 100000 in
theorem q_k17 : q_c17.all (q_ck 0 prog_1_method_26_code 3) = true := by decide +kernel
set_option maxRecDepth 100000 in
theorem q_k18 : q_c18.all (q_ck 17 method_3_code 5) = true := by decide +kernel
set_option maxRecDepth 100000 in
theorem q_k19 : q_c19.all (q_ck 0 prog_1_method_2_code 6) = true := by decide +kernel
set_option maxRecDepth 100000 in
theorem q_k20 : q_c20.all (q_ck 0 prog_1_method_21_code 3) = true := by decide +kernel
set_option maxRecDepth 100000 in
theorem q_k21 : q_c21.all (q_ck 0 prog_1_method_22_code 2) = true := by decide +kernel
set_option maxRecDepth 100000 in
theorem q_k22 : q_c22.all (q_ck 17 method_4_code 4) = true := by decide +kernel
set_option maxRecDepth 100000 in
theorem q_k23 : q_c23.all (q_ck 0 prog_1_method_3_code 3) = true := by decide +kernel
set_option maxRecDepth 100000 in
theorem q_k24 : q_c24.all (q_ck 0 prog_1_method_18_code 2) = true := by decide +kernel
set_option maxRecDepth 100000 in
theorem q_k25 : q_c25.all (q_ck 5 prog_8_method_2_code 4) = true := by decide +kernel
set_option maxRecDepth 100000 in
theorem q_k26 : q_c26.all (q_ck 6 prog_11_method_2_code 6) = true := by decide +kernel
set_option maxRecDepth 100000 in
theorem q_k27 : q_c27.all (q_ck 19 prog_20_method_69_code 2) = true := by decide +kernel
set_option maxRecDepth 100000 in
theorem q_k28 : q_c28.all (q_ck 6 prog_11_method_14_code 3) = true := by decide +kernel
set_option maxRecDepth 100000 in
theorem q_k29 : q_c29.all (q_ck 6 prog_11_method_10_code 4) = true := by decide +kernel
set_option maxRecDepth 100000 in
theorem q_k30 : q_c30.all (q_ck 6 prog_11_method_18_code 1) = true := by decide +kernel
set_option maxRecDepth 100000 in
theorem q_k31 : q_c31.all (q_ck 6 prog_11_method_11_code 4) = true := by decide +kernel
set_option maxRecDepth 100000 in
theorem q_k32 : q_c32.all (q_ck 6 prog_11_method_15_code 3) = true := by decide +kernel
set_option maxRecDepth 100000 in
theorem q_k33 : q_c33.all (q_ck 6 prog_11_method_13_code 5) = true := by decide +kernel
set_option maxRecDepth 100000 in
theorem q_k34 : q_c34.all (q_ck 6 prog_11_method_9_code 4) = true := by decide +kernel
set_option maxRecDepth 100000 in
theorem q_k35 : q_c35.all (q_ck 6 prog_11_method_12_code 6) = true := by decide +kernel
set_option maxRecDepth 100000 in
theorem q_k36 : q_c36.all (q_ck 6 prog_11_method_19_code 1) = true := by decide +kernel
set_option maxRecDepth 100000 in
theorem q_k37 : q_c37.all (q_ck 6 prog_11_method_16_code 3) = true := by decide +kernel
set_option maxRecDepth 100000 in
theorem q_k38 : q_c38.all (q_ck 6 prog_11_method_17_code 3) = true := by decide +kernel
set_option maxRecDepth 100000 in
theorem q_k39 : q_c39.all (q_ck 15 prog_10_method_5_code 4) = true := by decide +kernel
set_option maxRecDepth 100000 in
theorem q_k40 : q_c40.all (q_ck 15 prog_10_method_6_code 5) = true := by decide +kernel
set_option maxRecDepth 100000 in
theorem q_k41 : q_c41.all (q_ck 16 prog_22_method_54_code 1) = true := by decide +kernel
set_option maxRecDepth 100000 in
theorem q_k42 : q_c42.all (q_ck 16 prog_22_method_152_code 1) = true := by decide +kernel
set_option maxRecDepth 100000 in
theorem q_k43 : q_c43.all (q_ck 16 prog_22_method_56_code 2) = true := by decide +kernel
set_option maxRecDepth 100000 in
theorem q_k44 : q_c44.all (q_ck 16 prog_22_method_154_code 1) = true := by decide +kernel
set_option maxRecDepth 100000 in
theorem q_k45 : q_c45.all (q_ck 21 prog_23_method_2_code 2) = true := by decide +kernel
set_option maxRecDepth 100000 in
theorem q_k46 : q_c46.all (q_ck 16 prog_22_method_155_code 2) = true := by decide +kernel
set_option maxRecDepth 100000 in
theorem q_k47 : q_c47.all (q_ck 22 prog_28_method_11_code 3) = true := by decide +kernel
set_option maxRecDepth 100000 in
theorem q_k48 : q_c48.all (q_ck 1 prog_7_method_2_code 1) = true := by decide +kernel
set_option maxRecDepth 100000 in
theorem q_k49 : q_c49.all (q_ck 5 prog_8_method_3_code 1) = true := by decide +kernel
set_option maxRecDepth 100000 in
theorem q_k50 : q_c50.all (q_ck 6 prog_11_method_3_code 1) = true := by decide +kernel
set_option maxRecDepth 100000 in
theorem q_k51 : q_c51.all (q_ck 6 prog_11_method_8_code 2) = true := by decide +kernel
set_option maxRecDepth 100000 in
theorem q_k52 : q_c52.all (q_ck 6 prog_11_method_7_code 1) = true := by decide +kernel
set_option maxRecDepth 100000 in
theorem q_k53 : q_c53.all (q_ck 5 prog_8_method_4_code 3) = true := by decide +kernel
set_option maxRecDepth 100000 in
theorem q_k54 : q_c54.all (q_ck 2 prog_9_method_2_code 3) = true := by decide +kernel
set_option maxRecDepth 100000 in
theorem q_k55 : q_c55.all (q_ck 6 prog_11_method_5_code 1) = true := by decide +kernel
set_option maxRecDepth 100000 in
theorem q_k56 : q_c56.all (q_ck 5 prog_8_method_5_code 1) = true := by decide +kernel
set_option maxRecDepth 100000 in
theorem q_k57 : q_c57.all (q_ck 5 prog_8_method_6_code 2) = true := by decide +kernel
set_option maxRecDepth 100000 in
theorem q_k58 : q_c58.all (q_ck 5 prog_8_method_7_code 4) = true := by decide +kernel
set_option maxRecDepth 100000 in
theorem q_k59 : q_c59.all (q_ck 6 prog_11_method_4_code 1) = true := by decide +kernel
set_option maxRecDepth 100000 in
theorem q_k60 : q_c60.all (q_ck 5 prog_8_method_8_code 6) = true := by decide +kernel
set_option maxRecDepth 100000 in
theorem q_k61 : q_c61.all (q_ck 5 prog_8_method_10_code 5) = true := by decide +kernel
set_option maxRecDepth 100000 in
theorem q_k62 : q_c62.all (q_ck 5 prog_8_method_11_code 5) = true := by decide +kernel
set_option maxRecDepth 100000 in
theorem q_k63 : q_c63.all (q_ck 5 prog_8_method_14_code 2) = true := by decide +kernel
set_option maxRecDepth 100000 in
theorem q_k64 : q_c64.all (q_ck 20 prog_16_method_2_code 1) = true := by decide +kernel
set_option maxRecDepth 100000 in
theorem q_k65 : q_c65.all (q_ck 5 prog_8_method_15_code 2) = true := by decide +kernel
set_option maxRecDepth 100000 in
theorem q_k66 : q_c66.all (q_ck 1 prog_7_method_4_code 6) = true := by decide +kernel
