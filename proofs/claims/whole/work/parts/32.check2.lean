set_option maxRecDepth 100000 in
theorem q_k67 : q_c67.all (q_ck 5 prog_8_method_16_code 3) = true := by decide +kernel
set_option maxRecDepth 100000 in
theorem q_k68 : q_c68.all (q_ck 5 prog_8_method_12_code 5) = true := by decide +kernel
set_option maxRecDepth 100000 in
theorem q_k69 : q_c69.all (q_ck 5 prog_8_method_13_code 1) = true := by decide +kernel
set_option maxRecDepth 100000 in
theorem q_k70 : q_c70.all (q_ck 5 prog_8_method_9_code 7) = true := by decide +kernel
set_option maxRecDepth 100000 in
theorem q_k71 : q_c71.all (q_ck 1 prog_7_method_3_code 4) = true := by decide +kernel
set_option maxRecDepth 100000 in
theorem q_k72 : q_c72.all (q_ck 6 prog_11_method_6_code 1) = true := by decide +kernel
set_option maxRecDepth 100000 in
theorem q_k73 : q_c73.all (q_ck 17 method_5_code 4) = true := by decide +kernel
set_option maxRecDepth 100000 in
theorem q_k74 : q_c74.all (q_ck 0 prog_1_method_5_code 3) = true := by decide +kernel
set_option maxRecDepth 100000 in
theorem q_k75 : q_c75.all (q_ck 17 method_6_code 5) = true := by decide +kernel
set_option maxRecDepth 100000 in
theorem q_k76 : q_c76.all (q_ck 0 prog_1_method_6_code 4) = true := by decide +kernel
set_option maxRecDepth 100000 in
theorem q_k77 : q_c77.all (q_ck 3 prog_5_method_4_code 4) = true := by decide +kernel
set_option maxRecDepth 100000 in
theorem q_k78 : q_c78.all (q_ck 3 prog_5_method_8_code 5) = true := by decide +kernel
set_option maxRecDepth 100000 in
theorem q_k79 : q_c79.all (q_ck 17 method_7_code 5) = true := by decide +kernel
set_option maxRecDepth 100000 in
theorem q_k80 : q_c80.all (q_ck 0 prog_1_method_7_code 3) = true := by decide +kernel
set_option maxRecDepth 100000 in
theorem q_k81 : q_c81.all (q_ck 0 prog_1_method_20_code 2) = true := by decide +kernel
set_option maxRecDepth 100000 in
theorem q_k82 : q_c82.all (q_ck 3 prog_5_method_6_code 5) = true := by decide +kernel
set_option maxRecDepth 100000 in
theorem q_k83 : q_c83.all (q_ck 3 prog_5_method_7_code 4) = true := by decide +kernel
set_option maxRecDepth 100000 in
theorem q_k84 : q_c84.all (q_ck 3 prog_5_method_5_code 4) = true := by decide +kernel
set_option maxRecDepth 100000 in
theorem q_k85 : q_c85.all (q_ck 17 method_8_code 7) = true := by decide +kernel
set_option maxRecDepth 100000 in
theorem q_k86 : q_c86.all (q_ck 0 prog_1_method_8_code 6) = true := by decide +kernel
set_option maxRecDepth 100000 in
theorem q_k87 : q_c87.all (q_ck 3 prog_5_method_11_code 3) = true := by decide +kernel
set_option maxRecDepth 100000 in
theorem q_k88 : q_c88.all (q_ck 17 method_9_code 7) = true := by decide +kernel
set_option maxRecDepth 100000 in
theorem q_k89 : q_c89.all (q_ck 0 prog_1_method_9_code 6) = true := by decide +kernel
set_option maxRecDepth 100000 in
theorem q_k90 : q_c90.all (q_ck 18 prog_12_method_3_code 1) = true := by decide +kernel
set_option maxRecDepth 100000 in
theorem q_k91 : q_c91.all (q_ck 18 prog_12_method_2_code 1) = true := by decide +kernel
set_option maxRecDepth 100000 in
theorem q_k92 : q_c92.all (q_ck 4 prog_4_method_2_code 5) = true := by decide +kernel
set_option maxRecDepth 100000 in
theorem q_k93 : q_c93.all (q_ck 17 method_10_code 4) = true := by decide +kernel
set_option maxRecDepth 100000 in
theorem q_k94 : q_c94.all (q_ck 0 prog_1_method_10_code 3) = true := by decide +kernel
set_option maxRecDepth 100000 in
theorem q_k95_0 : q_c95_0.all (q_ck 0 prog_1_method_23_code 6) = true := by decide +kernel
set_option maxRecDepth 100000 in
theorem q_k95_1 : q_c95_1.all (q_ck 0 prog_1_method_23_code 6) = true := by decide +kernel
theorem q_k95 : q_c95.all (q_ck 0 prog_1_method_23_code 6) = true := by
  unfold q_c95
  simp only [List.all_append, q_k95_0, q_k95_1, Bool.and_self]
set_option maxRecDepth 100000 in
theorem q_k96 : q_c96.all (q_ck 3 prog_5_method_9_code 2) = true := by decide +kernel
set_option maxRecDepth 100000 in
theorem q_k97 : q_c97.all (q_ck 4 prog_4_method_3_code 3) = true := by decide +kernel
set_option maxRecDepth 100000 in
theorem q_k98 : q_c98.all (q_ck 4 prog_4_method_4_code 3) = true := by decide +kernel
set_option maxRecDepth 100000 in
theorem q_k99 : q_c99.all (q_ck 3 prog_5_method_12_code 3) = true := by decide +kernel
set_option maxRecDepth 100000 in
theorem q_k100 : q_c100.all (q_ck 3 prog_5_method_10_code 2) = true := by decide +kernel
set_option maxRecDepth 100000 in
theorem q_k101 : q_c101.all (q_ck 17 method_11_code 4) = true := by decide +kernel
set_option maxRecDepth 100000 in
theorem q_k102 : q_c102.all (q_ck 0 prog_1_method_11_code 2) = true := by decide +kernel
set_option maxRecDepth 100000 in
theorem q_k103 : q_c103.all (q_ck 8 prog_3_method_2_code 6) = true := by decide +kernel
set_option maxRecDepth 100000 in
theorem q_k104_0 : q_c104_0.all (q_ck 8 prog_3_method_3_code 9) = true := by decide +kernel
set_option maxRecDepth 100000 in
theorem q_k104_1 : q_c104_1.all (q_ck 8 prog_3_method_3_code 9) = true := by decide +kernel
theorem q_k104 : q_c104.all (q_ck 8 prog_3_method_3_code 9) = true := by
  unfold q_c104
  simp only [List.all_append, q_k104_0, q_k104_1, Bool.and_self]
set_option maxRecDepth 100000 in
theorem q_k105 : q_c105.all (q_ck 8 prog_3_method_4_code 3) = true := by decide +kernel
set_option maxRecDepth 100000 in
theorem q_k106 : q_c106.all (q_ck 8 prog_3_method_5_code 2) = true := by decide +kernel
set_option maxRecDepth 100000 in
theorem q_k107 : q_c107.all (q_ck 2 prog_9_method_4_code 2) = true := by decide +kernel
set_option maxRecDepth 100000 in
theorem q_k108 : q_c108.all (q_ck 8 prog_3_method_6_code 5) = true := by decide +kernel
set_option maxRecDepth 100000 in
theorem q_k109 : q_c109.all (q_ck 18 prog_12_method_4_code 1) = true := by decide +kernel
set_option maxRecDepth 100000 in
theorem q_k110 : q_c110.all (q_ck 18 prog_12_method_5_code 1) = true := by decide +kernel
set_option maxRecDepth 100000 in
theorem q_k111 : q_c111.all (q_ck 8 prog_3_method_7_code 6) = true := by decide +kernel
set_option maxRecDepth 100000 in
theorem q_k112 : q_c112.all (q_ck 4 prog_4_method_6_code 4) = true := by decide +kernel
set_option maxRecDepth 100000 in
theorem q_k113 : q_c113.all (q_ck 8 prog_3_method_10_code 4) = true := by decide +kernel
set_option maxRecDepth 100000 in
theorem q_k114 : q_c114.all (q_ck 4 prog_4_method_5_code 6) = true := by decide +kernel
set_option maxRecDepth 100000 in
theorem q_k115 : q_c115.all (q_ck 8 prog_3_method_9_code 6) = true := by decide +kernel
set_option maxRecDepth 100000 in
theorem q_k116_0 : q_c116_0.all (q_ck 8 prog_3_method_8_code 5) = true := by decide +kernel
set_option maxRecDepth 100000 in
theorem q_k116_1 : q_c116_1.all (q_ck 8 prog_3_method_8_code 5) = true := by decide +kernel
theorem q_k116 : q_c116.all (q_ck 8 prog_3_method_8_code 5) = true := by
  unfold q_c116
  simp only [List.all_append, q_k116_0, q_k116_1, Bool.and_self]
set_option maxRecDepth 100000 in
theorem q_k117 : q_c117.all (q_ck 17 method_12_code 7) = true := by decide +kernel
set_option maxRecDepth 100000 in
theorem q_k118 : q_c118.all (q_ck 0 prog_1_method_12_code 6) = true := by decide +kernel
set_option maxRecDepth 100000 in
theorem q_k119 : q_c119.all (q_ck 0 prog_1_method_19_code 3) = true := by decide +kernel
set_option maxRecDepth 100000 in
theorem q_k120 : q_c120.all (q_ck 7 prog_6_method_2_code 8) = true := by decide +kernel
set_option maxRecDepth 100000 in
theorem q_k121 : q_c121.all (q_ck 1 prog_7_method_5_code 5) = true := by decide +kernel
set_option maxRecDepth 100000 in
theorem q_k122 : q_c122.all (q_ck 2 prog_9_method_3_code 3) = true := by decide +kernel
set_option maxRecDepth 100000 in
theorem q_k123_0 : q_c123_0.all (q_ck 7 prog_6_method_3_code 11) = true := by decide +kernel
