theorem q_k199 : q_c199.all (q_ck 9 prog_14_method_57_code 6) = true := by
  unfold q_c199
  simp only [List.all_append, q_k199_0, q_k199_1, Bool.and_self]
set_option maxRecDepth 100000 in
theorem q_k200_0 : q_c200_0.all (q_ck 9 prog_14_method_61_code 7) = true := by decide +kernel
set_option maxRecDepth 100000 in
theorem q_k200_1 : q_c200_1.all (q_ck 9 prog_14_method_61_code 7) = true := by decide +kernel
set_option maxRecDepth 100000 in
theorem q_k200_2 : q_c200_2.all (q_ck 9 prog_14_method_61_code 7) = true := by decide +kernel
set_option maxRecDepth 100000 in
theorem q_k200_3 : q_c200_3.all (q_ck 9 prog_14_method_61_code 7) = true := by decide +kernel
theorem q_k200 : q_c200.all (q_ck 9 prog_14_method_61_code 7) = true := by
  unfold q_c200
  simp only [List.all_append, q_k200_0, q_k200_1, q_k200_2, q_k200_3, Bool.and_self]
set_option maxRecDepth 100000 in
theorem q_k201 : q_c201.all (q_ck 9 prog_14_method_59_code 4) = true := by decide +kernel
set_option maxRecDepth 100000 in
theorem q_k202 : q_c202.all (q_ck 9 prog_14_method_58_code 6) = true := by decide +kernel
set_option maxRecDepth 100000 in
theorem q_k203_0 : q_c203_0.all (q_ck 9 prog_14_method_60_code 9) = true := by decide +kernel
set_option maxRecDepth 100000 in
theorem q_k203_1 : q_c203_1.all (q_ck 9 prog_14_method_60_code 9) = true := by decide +kernel
set_option maxRecDepth 100000 in
theorem q_k203_2 : q_c203_2.all (q_ck 9 prog_14_method_60_code 9) = true := by decide +kernel
theorem q_k203 : q_c203.all (q_ck 9 prog_14_method_60_code 9) = true := by
  unfold q_c203
  simp only [List.all_append, q_k203_0, q_k203_1, q_k203_2, Bool.and_self]
set_option maxRecDepth 100000 in
theorem q_k204_0 : q_c204_0.all (q_ck 9 prog_14_method_63_code 4) = true := by decide +kernel
set_option maxRecDepth 100000 in
theorem q_k204_1 : q_c204_1.all (q_ck 9 prog_14_method_63_code 4) = true := by decide +kernel
theorem q_k204 : q_c204.all (q_ck 9 prog_14_method_63_code 4) = true := by
  unfold q_c204
  simp only [List.all_append, q_k204_0, q_k204_1, Bool.and_self]
set_option maxRecDepth 100000 in
theorem q_k205_0 : q_c205_0.all (q_ck 17 code 7) = true := by decide +kernel
set_option maxRecDepth 100000 in
theorem q_k205_1 : q_c205_1.all (q_ck 17 code 7) = true := by decide +kernel
set_option maxRecDepth 100000 in
theorem q_k205_2 : q_c205_2.all (q_ck 17 code 7) = true := by decide +kernel
set_option maxRecDepth 100000 in
theorem q_k205_3 : q_c205_3.all (q_ck 17 code 7) = true := by decide +kernel
set_option maxRecDepth 100000 in
theorem q_k205_4 : q_c205_4.all (q_ck 17 code 7) = true := by decide +kernel
set_option maxRecDepth 100000 in
theorem q_k205_5 : q_c205_5.all (q_ck 17 code 7) = true := by decide +kernel
set_option maxRecDepth 100000 in
theorem q_k205_6 : q_c205_6.all (q_ck 17 code 7) = true := by decide +kernel
set_option maxRecDepth 100000 in
theorem q_k205_7 : q_c205_7.all (q_ck 17 code 7) = true := by decide +kernel
set_option maxRecDepth 100000 in
theorem q_k205_8 : q_c205_8.all (q_ck 17 code 7) = true := by decide +kernel
set_option maxRecDepth 100000 in
theorem q_k205_9 : q_c205_9.all (q_ck 17 code 7) = true := by decide +kernel
set_option maxRecDepth 100000 in
theorem q_k205_10 : q_c205_10.all (q_ck 17 code 7) = true := by decide +kernel
set_option maxRecDepth 100000 in
theorem q_k205_11 : q_c205_11.all (q_ck 17 code 7) = true := by decide +kernel
theorem q_k205 : q_c205.all (q_ck 17 code 7) = true := by
  unfold q_c205
  simp only [List.all_append, q_k205_0, q_k205_1, q_k205_2, q_k205_3, q_k205_4, q_k205_5, q_k205_6, q_k205_7, q_k205_8, q_k205_9, q_k205_10, q_k205_11, Bool.and_self]
