set_option maxRecDepth 100000 in
theorem q_k123_1 : q_c123_1.all (q_ck 7 prog_6_method_3_code 11) = true := by decide +kernel
theorem q_k123 : q_c123.all (q_ck 7 prog_6_method_3_code 11) = true := by
  unfold q_c123
  simp only [List.all_append, q_k123_0, q_k123_1, Bool.and_self]
set_option maxRecDepth 100000 in
theorem q_k124 : q_c124.all (q_ck 7 prog_6_method_13_code 1) = true := by decide +kernel
set_option maxRecDepth 100000 in
theorem q_k125 : q_c125.all (q_ck 7 prog_6_method_14_code 2) = true := by decide +kernel
set_option maxRecDepth 100000 in
theorem q_k126 : q_c126.all (q_ck 7 prog_6_method_6_code 2) = true := by decide +kernel
set_option maxRecDepth 100000 in
theorem q_k127 : q_c127.all (q_ck 7 prog_6_method_12_code 1) = true := by decide +kernel
set_option maxRecDepth 100000 in
theorem q_k128 : q_c128.all (q_ck 7 prog_6_method_17_code 2) = true := by decide +kernel
set_option maxRecDepth 100000 in
theorem q_k129 : q_c129.all (q_ck 7 prog_6_method_15_code 2) = true := by decide +kernel
set_option maxRecDepth 100000 in
theorem q_k130_0 : q_c130_0.all (q_ck 7 prog_6_method_7_code 5) = true := by decide +kernel
set_option maxRecDepth 100000 in
theorem q_k130_1 : q_c130_1.all (q_ck 7 prog_6_method_7_code 5) = true := by decide +kernel
theorem q_k130 : q_c130.all (q_ck 7 prog_6_method_7_code 5) = true := by
  unfold q_c130
  simp only [List.all_append, q_k130_0, q_k130_1, Bool.and_self]
set_option maxRecDepth 100000 in
theorem q_k131 : q_c131.all (q_ck 7 prog_6_method_16_code 2) = true := by decide +kernel
set_option maxRecDepth 100000 in
theorem q_k132 : q_c132.all (q_ck 7 prog_6_method_11_code 2) = true := by decide +kernel
set_option maxRecDepth 100000 in
theorem q_k133 : q_c133.all (q_ck 7 prog_6_method_8_code 4) = true := by decide +kernel
set_option maxRecDepth 100000 in
theorem q_k134 : q_c134.all (q_ck 7 prog_6_method_4_code 3) = true := by decide +kernel
set_option maxRecDepth 100000 in
theorem q_k135 : q_c135.all (q_ck 7 prog_6_method_5_code 2) = true := by decide +kernel
set_option maxRecDepth 100000 in
theorem q_k136_0 : q_c136_0.all (q_ck 7 prog_6_method_9_code 6) = true := by decide +kernel
set_option maxRecDepth 100000 in
theorem q_k136_1 : q_c136_1.all (q_ck 7 prog_6_method_9_code 6) = true := by decide +kernel
theorem q_k136 : q_c136.all (q_ck 7 prog_6_method_9_code 6) = true := by
  unfold q_c136
  simp only [List.all_append, q_k136_0, q_k136_1, Bool.and_self]
set_option maxRecDepth 100000 in
theorem q_k137 : q_c137.all (q_ck 7 prog_6_method_10_code 5) = true := by decide +kernel
set_option maxRecDepth 100000 in
theorem q_k138 : q_c138.all (q_ck 17 method_13_code 6) = true := by decide +kernel
set_option maxRecDepth 100000 in
theorem q_k139_0 : q_c139_0.all (q_ck 0 prog_1_method_13_code 9) = true := by decide +kernel
set_option maxRecDepth 100000 in
theorem q_k139_1 : q_c139_1.all (q_ck 0 prog_1_method_13_code 9) = true := by decide +kernel
theorem q_k139 : q_c139.all (q_ck 0 prog_1_method_13_code 9) = true := by
  unfold q_c139
  simp only [List.all_append, q_k139_0, q_k139_1, Bool.and_self]
set_option maxRecDepth 100000 in
theorem q_k140 : q_c140.all (q_ck 17 method_14_code 5) = true := by decide +kernel
set_option maxRecDepth 100000 in
theorem q_k141 : q_c141.all (q_ck 0 prog_1_method_15_code 3) = true := by decide +kernel
set_option maxRecDepth 100000 in
theorem q_k142_0 : q_c142_0.all (q_ck 9 prog_14_method_1_code 1) = true := by decide +kernel
set_option maxRecDepth 100000 in
theorem q_k142_1 : q_c142_1.all (q_ck 9 prog_14_method_1_code 1) = true := by decide +kernel
set_option maxRecDepth 100000 in
theorem q_k142_2 : q_c142_2.all (q_ck 9 prog_14_method_1_code 1) = true := by decide +kernel
theorem q_k142 : q_c142.all (q_ck 9 prog_14_method_1_code 1) = true := by
  unfold q_c142
  simp only [List.all_append, q_k142_0, q_k142_1, q_k142_2, Bool.and_self]
set_option maxRecDepth 100000 in
theorem q_k143 : q_c143.all (q_ck 9 prog_14_method_2_code 1) = true := by decide +kernel
set_option maxRecDepth 100000 in
theorem q_k144_0 : q_c144_0.all (q_ck 9 prog_14_method_5_code 6) = true := by decide +kernel
set_option maxRecDepth 100000 in
theorem q_k144_1 : q_c144_1.all (q_ck 9 prog_14_method_5_code 6) = true := by decide +kernel
theorem q_k144 : q_c144.all (q_ck 9 prog_14_method_5_code 6) = true := by
  unfold q_c144
  simp only [List.all_append, q_k144_0, q_k144_1, Bool.and_self]
set_option maxRecDepth 100000 in
theorem q_k145 : q_c145.all (q_ck 9 prog_14_method_3_code 3) = true := by decide +kernel
set_option maxRecDepth 100000 in
theorem q_k146 : q_c146.all (q_ck 9 prog_14_method_4_code 2) = true := by decide +kernel
set_option maxRecDepth 100000 in
theorem q_k147 : q_c147.all (q_ck 9 prog_14_method_32_code 3) = true := by decide +kernel
set_option maxRecDepth 100000 in
theorem q_k148_0 : q_c148_0.all (q_ck 9 prog_14_method_20_code 2) = true := by decide +kernel
set_option maxRecDepth 100000 in
theorem q_k148_1 : q_c148_1.all (q_ck 9 prog_14_method_20_code 2) = true := by decide +kernel
theorem q_k148 : q_c148.all (q_ck 9 prog_14_method_20_code 2) = true := by
  unfold q_c148
  simp only [List.all_append, q_k148_0, q_k148_1, Bool.and_self]
set_option maxRecDepth 100000 in
theorem q_k149 : q_c149.all (q_ck 9 prog_14_method_12_code 2) = true := by decide +kernel
set_option maxRecDepth 100000 in
theorem q_k150_0 : q_c150_0.all (q_ck 9 prog_14_method_11_code 8) = true := by decide +kernel
set_option maxRecDepth 100000 in
theorem q_k150_1 : q_c150_1.all (q_ck 9 prog_14_method_11_code 8) = true := by decide +kernel
set_option maxRecDepth 100000 in
theorem q_k150_2 : q_c150_2.all (q_ck 9 prog_14_method_11_code 8) = true := by decide +kernel
set_option maxRecDepth 100000 in
theorem q_k150_3 : q_c150_3.all (q_ck 9 prog_14_method_11_code 8) = true := by decide +kernel
theorem q_k150 : q_c150.all (q_ck 9 prog_14_method_11_code 8) = true := by
  unfold q_c150
  simp only [List.all_append, q_k150_0, q_k150_1, q_k150_2, q_k150_3, Bool.and_self]
set_option maxRecDepth 100000 in
theorem q_k151 : q_c151.all (q_ck 9 prog_14_method_6_code 2) = true := by decide +kernel
set_option maxRecDepth 100000 in
theorem q_k152 : q_c152.all (q_ck 9 prog_14_method_10_code 1) = true := by decide +kernel
set_option maxRecDepth 100000 in
theorem q_k153 : q_c153.all (q_ck 9 prog_14_method_7_code 5) = true := by decide +kernel
set_option maxRecDepth 100000 in
theorem q_k154_0 : q_c154_0.all (q_ck 9 prog_14_method_8_code 7) = true := by decide +kernel
set_option maxRecDepth 100000 in
theorem q_k154_1 : q_c154_1.all (q_ck 9 prog_14_method_8_code 7) = true := by decide +kernel
theorem q_k154 : q_c154.all (q_ck 9 prog_14_method_8_code 7) = true := by
  unfold q_c154
  simp only [List.all_append, q_k154_0, q_k154_1, Bool.and_self]
set_option maxRecDepth 100000 in
theorem q_k155 : q_c155.all (q_ck 9 prog_14_method_9_code 1) = true := by decide +kernel
set_option maxRecDepth 100000 in
theorem q_k156 : q_c156.all (q_ck 9 prog_14_method_19_code 1) = true := by decide +kernel
