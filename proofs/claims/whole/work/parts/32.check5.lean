theorem q_k179 : q_c179.all (q_ck 9 prog_14_method_38_code 6) = true := by
  unfold q_c179
  simp only [List.all_append, q_k179_0, q_k179_1, Bool.and_self]
set_option maxRecDepth 100000 in
theorem q_k180 : q_c180.all (q_ck 9 prog_14_method_39_code 6) = true := by decide +kernel
set_option maxRecDepth 100000 in
theorem q_k181_0 : q_c181_0.all (q_ck 9 prog_14_method_40_code 6) = true := by decide +kernel
set_option maxRecDepth 100000 in
theorem q_k181_1 : q_c181_1.all (q_ck 9 prog_14_method_40_code 6) = true := by decide +kernel
theorem q_k181 : q_c181.all (q_ck 9 prog_14_method_40_code 6) = true := by
  unfold q_c181
  simp only [List.all_append, q_k181_0, q_k181_1, Bool.and_self]
set_option maxRecDepth 100000 in
theorem q_k182 : q_c182.all (q_ck 9 prog_14_method_41_code 3) = true := by decide +kernel
set_option maxRecDepth 100000 in
theorem q_k183 : q_c183.all (q_ck 9 prog_14_method_54_code 6) = true := by decide +kernel
set_option maxRecDepth 100000 in
theorem q_k184 : q_c184.all (q_ck 9 prog_14_method_53_code 3) = true := by decide +kernel
set_option maxRecDepth 100000 in
theorem q_k185_0 : q_c185_0.all (q_ck 9 prog_14_method_52_code 8) = true := by decide +kernel
set_option maxRecDepth 100000 in
theorem q_k185_1 : q_c185_1.all (q_ck 9 prog_14_method_52_code 8) = true := by decide +kernel
theorem q_k185 : q_c185.all (q_ck 9 prog_14_method_52_code 8) = true := by
  unfold q_c185
  simp only [List.all_append, q_k185_0, q_k185_1, Bool.and_self]
set_option maxRecDepth 100000 in
theorem q_k186 : q_c186.all (q_ck 9 prog_14_method_51_code 6) = true := by decide +kernel
set_option maxRecDepth 100000 in
theorem q_k187_0 : q_c187_0.all (q_ck 9 prog_14_method_45_code 9) = true := by decide +kernel
set_option maxRecDepth 100000 in
theorem q_k187_1 : q_c187_1.all (q_ck 9 prog_14_method_45_code 9) = true := by decide +kernel
set_option maxRecDepth 100000 in
theorem q_k187_2 : q_c187_2.all (q_ck 9 prog_14_method_45_code 9) = true := by decide +kernel
set_option maxRecDepth 100000 in
theorem q_k187_3 : q_c187_3.all (q_ck 9 prog_14_method_45_code 9) = true := by decide +kernel
theorem q_k187 : q_c187.all (q_ck 9 prog_14_method_45_code 9) = true := by
  unfold q_c187
  simp only [List.all_append, q_k187_0, q_k187_1, q_k187_2, q_k187_3, Bool.and_self]
set_option maxRecDepth 100000 in
theorem q_k188 : q_c188.all (q_ck 9 prog_14_method_43_code 2) = true := by decide +kernel
set_option maxRecDepth 100000 in
theorem q_k189 : q_c189.all (q_ck 9 prog_14_method_46_code 3) = true := by decide +kernel
set_option maxRecDepth 100000 in
theorem q_k190 : q_c190.all (q_ck 9 prog_14_method_42_code 3) = true := by decide +kernel
set_option maxRecDepth 100000 in
theorem q_k191 : q_c191.all (q_ck 9 prog_14_method_44_code 1) = true := by decide +kernel
set_option maxRecDepth 100000 in
theorem q_k192_0 : q_c192_0.all (q_ck 9 prog_14_method_48_code 6) = true := by decide +kernel
set_option maxRecDepth 100000 in
theorem q_k192_1 : q_c192_1.all (q_ck 9 prog_14_method_48_code 6) = true := by decide +kernel
theorem q_k192 : q_c192.all (q_ck 9 prog_14_method_48_code 6) = true := by
  unfold q_c192
  simp only [List.all_append, q_k192_0, q_k192_1, Bool.and_self]
set_option maxRecDepth 100000 in
theorem q_k193 : q_c193.all (q_ck 9 prog_14_method_47_code 4) = true := by decide +kernel
set_option maxRecDepth 100000 in
theorem q_k194 : q_c194.all (q_ck 9 prog_14_method_49_code 3) = true := by decide +kernel
set_option maxRecDepth 100000 in
theorem q_k195_0 : q_c195_0.all (q_ck 9 prog_14_method_50_code 7) = true := by decide +kernel
set_option maxRecDepth 100000 in
theorem q_k195_1 : q_c195_1.all (q_ck 9 prog_14_method_50_code 7) = true := by decide +kernel
set_option maxRecDepth 100000 in
theorem q_k195_2 : q_c195_2.all (q_ck 9 prog_14_method_50_code 7) = true := by decide +kernel
theorem q_k195 : q_c195.all (q_ck 9 prog_14_method_50_code 7) = true := by
  unfold q_c195
  simp only [List.all_append, q_k195_0, q_k195_1, q_k195_2, Bool.and_self]
set_option maxRecDepth 100000 in
theorem q_k196_0 : q_c196_0.all (q_ck 9 prog_14_method_55_code 7) = true := by decide +kernel
set_option maxRecDepth 100000 in
theorem q_k196_1 : q_c196_1.all (q_ck 9 prog_14_method_55_code 7) = true := by decide +kernel
theorem q_k196 : q_c196.all (q_ck 9 prog_14_method_55_code 7) = true := by
  unfold q_c196
  simp only [List.all_append, q_k196_0, q_k196_1, Bool.and_self]
set_option maxRecDepth 100000 in
theorem q_k197 : q_c197.all (q_ck 9 prog_14_method_56_code 2) = true := by decide +kernel
set_option maxRecDepth 100000 in
theorem q_k198_0 : q_c198_0.all (q_ck 9 prog_14_method_62_code 9) = true := by decide +kernel
set_option maxRecDepth 100000 in
theorem q_k198_1 : q_c198_1.all (q_ck 9 prog_14_method_62_code 9) = true := by decide +kernel
set_option maxRecDepth 100000 in
theorem q_k198_2 : q_c198_2.all (q_ck 9 prog_14_method_62_code 9) = true := by decide +kernel
set_option maxRecDepth 100000 in
theorem q_k198_3 : q_c198_3.all (q_ck 9 prog_14_method_62_code 9) = true := by decide +kernel
theorem q_k198 : q_c198.all (q_ck 9 prog_14_method_62_code 9) = true := by
  unfold q_c198
  simp only [List.all_append, q_k198_0, q_k198_1, q_k198_2, q_k198_3, Bool.and_self]
set_option maxRecDepth 100000 in
theorem q_k199_0 : q_c199_0.all (q_ck 9 prog_14_method_57_code 6) = true := by decide +kernel
set_option maxRecDepth 100000 in
theorem q_k199_1 : q_c199_1.all (q_ck 9 prog_14_method_57_code 6) = true := by decide +kernel
