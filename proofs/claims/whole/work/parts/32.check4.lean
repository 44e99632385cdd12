set_option maxRecDepth 100000 in
theorem q_k157 : q_c157.all (q_ck 9 prog_14_method_13_code 1) = true := by decide +kernel
set_option maxRecDepth 100000 in
theorem q_k158 : q_c158.all (q_ck 9 prog_14_method_15_code 1) = true := by decide +kernel
set_option maxRecDepth 100000 in
theorem q_k159 : q_c159.all (q_ck 9 prog_14_method_16_code 2) = true := by decide +kernel
set_option maxRecDepth 100000 in
theorem q_k160_0 : q_c160_0.all (q_ck 9 prog_14_method_17_code 4) = true := by decide +kernel
set_option maxRecDepth 100000 in
theorem q_k160_1 : q_c160_1.all (q_ck 9 prog_14_method_17_code 4) = true := by decide +kernel
theorem q_k160 : q_c160.all (q_ck 9 prog_14_method_17_code 4) = true := by
  unfold q_c160
  simp only [List.all_append, q_k160_0, q_k160_1, Bool.and_self]
set_option maxRecDepth 100000 in
theorem q_k161 : q_c161.all (q_ck 9 prog_14_method_14_code 1) = true := by decide +kernel
set_option maxRecDepth 100000 in
theorem q_k162 : q_c162.all (q_ck 9 prog_14_method_18_code 2) = true := by decide +kernel
set_option maxRecDepth 100000 in
theorem q_k163 : q_c163.all (q_ck 9 prog_14_method_24_code 1) = true := by decide +kernel
set_option maxRecDepth 100000 in
theorem q_k164 : q_c164.all (q_ck 9 prog_14_method_22_code 3) = true := by decide +kernel
set_option maxRecDepth 100000 in
theorem q_k165 : q_c165.all (q_ck 9 prog_14_method_25_code 2) = true := by decide +kernel
set_option maxRecDepth 100000 in
theorem q_k166_0 : q_c166_0.all (q_ck 9 prog_14_method_28_code 4) = true := by decide +kernel
set_option maxRecDepth 100000 in
theorem q_k166_1 : q_c166_1.all (q_ck 9 prog_14_method_28_code 4) = true := by decide +kernel
set_option maxRecDepth 100000 in
theorem q_k166_2 : q_c166_2.all (q_ck 9 prog_14_method_28_code 4) = true := by decide +kernel
theorem q_k166 : q_c166.all (q_ck 9 prog_14_method_28_code 4) = true := by
  unfold q_c166
  simp only [List.all_append, q_k166_0, q_k166_1, q_k166_2, Bool.and_self]
set_option maxRecDepth 100000 in
theorem q_k167 : q_c167.all (q_ck 9 prog_14_method_21_code 7) = true := by decide +kernel
set_option maxRecDepth 100000 in
theorem q_k168 : q_c168.all (q_ck 9 prog_14_method_23_code 2) = true := by decide +kernel
set_option maxRecDepth 100000 in
theorem q_k169_0 : q_c169_0.all (q_ck 9 prog_14_method_29_code 3) = true := by decide +kernel
set_option maxRecDepth 100000 in
theorem q_k169_1 : q_c169_1.all (q_ck 9 prog_14_method_29_code 3) = true := by decide +kernel
theorem q_k169 : q_c169.all (q_ck 9 prog_14_method_29_code 3) = true := by
  unfold q_c169
  simp only [List.all_append, q_k169_0, q_k169_1, Bool.and_self]
set_option maxRecDepth 100000 in
theorem q_k170_0 : q_c170_0.all (q_ck 9 prog_14_method_30_code 4) = true := by decide +kernel
set_option maxRecDepth 100000 in
theorem q_k170_1 : q_c170_1.all (q_ck 9 prog_14_method_30_code 4) = true := by decide +kernel
set_option maxRecDepth 100000 in
theorem q_k170_2 : q_c170_2.all (q_ck 9 prog_14_method_30_code 4) = true := by decide +kernel
theorem q_k170 : q_c170.all (q_ck 9 prog_14_method_30_code 4) = true := by
  unfold q_c170
  simp only [List.all_append, q_k170_0, q_k170_1, q_k170_2, Bool.and_self]
set_option maxRecDepth 100000 in
theorem q_k171_0 : q_c171_0.all (q_ck 9 prog_14_method_27_code 5) = true := by decide +kernel
set_option maxRecDepth 100000 in
theorem q_k171_1 : q_c171_1.all (q_ck 9 prog_14_method_27_code 5) = true := by decide +kernel
theorem q_k171 : q_c171.all (q_ck 9 prog_14_method_27_code 5) = true := by
  unfold q_c171
  simp only [List.all_append, q_k171_0, q_k171_1, Bool.and_self]
set_option maxRecDepth 100000 in
theorem q_k172 : q_c172.all (q_ck 9 prog_14_method_26_code 2) = true := by decide +kernel
set_option maxRecDepth 100000 in
theorem q_k173_0 : q_c173_0.all (q_ck 9 prog_14_method_31_code 3) = true := by decide +kernel
set_option maxRecDepth 100000 in
theorem q_k173_1 : q_c173_1.all (q_ck 9 prog_14_method_31_code 3) = true := by decide +kernel
set_option maxRecDepth 100000 in
theorem q_k173_2 : q_c173_2.all (q_ck 9 prog_14_method_31_code 3) = true := by decide +kernel
set_option maxRecDepth 100000 in
theorem q_k173_3 : q_c173_3.all (q_ck 9 prog_14_method_31_code 3) = true := by decide +kernel
theorem q_k173 : q_c173.all (q_ck 9 prog_14_method_31_code 3) = true := by
  unfold q_c173
  simp only [List.all_append, q_k173_0, q_k173_1, q_k173_2, q_k173_3, Bool.and_self]
set_option maxRecDepth 100000 in
theorem q_k174 : q_c174.all (q_ck 9 prog_14_method_33_code 1) = true := by decide +kernel
set_option maxRecDepth 100000 in
theorem q_k175 : q_c175.all (q_ck 9 prog_14_method_34_code 3) = true := by decide +kernel
set_option maxRecDepth 100000 in
theorem q_k176_0 : q_c176_0.all (q_ck 9 prog_14_method_35_code 5) = true := by decide +kernel
set_option maxRecDepth 100000 in
theorem q_k176_1 : q_c176_1.all (q_ck 9 prog_14_method_35_code 5) = true := by decide +kernel
theorem q_k176 : q_c176.all (q_ck 9 prog_14_method_35_code 5) = true := by
  unfold q_c176
  simp only [List.all_append, q_k176_0, q_k176_1, Bool.and_self]
set_option maxRecDepth 100000 in
theorem q_k177_0 : q_c177_0.all (q_ck 9 prog_14_method_37_code 4) = true := by decide +kernel
set_option maxRecDepth 100000 in
theorem q_k177_1 : q_c177_1.all (q_ck 9 prog_14_method_37_code 4) = true := by decide +kernel
theorem q_k177 : q_c177.all (q_ck 9 prog_14_method_37_code 4) = true := by
  unfold q_c177
  simp only [List.all_append, q_k177_0, q_k177_1, Bool.and_self]
set_option maxRecDepth 100000 in
theorem q_k178 : q_c178.all (q_ck 9 prog_14_method_36_code 5) = true := by decide +kernel
set_option maxRecDepth 100000 in
theorem q_k179_0 : q_c179_0.all (q_ck 9 prog_14_method_38_code 6) = true := by decide +kernel
set_option maxRecDepth 100000 in
theorem q_k179_1 : q_c179_1.all (q_ck 9 prog_14_method_38_code 6) = true := by decide +kernel
