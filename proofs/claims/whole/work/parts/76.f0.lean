/-! the rows of code, one by one -/
theorem f0_0 : q_fetch 0 0 = some (.aload_n 0, 1, 0) := by decide +kernel
theorem f0_1 : q_fetch 0 1 = some (.invokespecial 1, 3, 9999) := by decide +kernel
theorem f0_4 : q_fetch 0 4 = some (.aload_n 0, 1, 0) := by decide +kernel
theorem f0_5 : q_fetch 0 5 = some (.bipush 100, 2, 0) := by decide +kernel
theorem f0_7 : q_fetch 0 7 = some (.newarray .char, 2, 101) := by decide +kernel
theorem f0_9 : q_fetch 0 9 = some (.putfield 9, 3, 1) := by decide +kernel
theorem f0_12 : q_fetch 0 12 = some (.aload_n 0, 1, 0) := by decide +kernel
theorem f0_13 : q_fetch 0 13 = some (.iconst 0, 1, 0) := by decide +kernel
theorem f0_14 : q_fetch 0 14 = some (.putfield 13, 3, 2) := by decide +kernel
theorem f0_17 : q_fetch 0 17 = some (.aload_n 0, 1, 0) := by decide +kernel
theorem f0_18 : q_fetch 0 18 = some (.bipush (-2), 2, 0) := by decide +kernel
theorem f0_20 : q_fetch 0 20 = some (.putfield 17, 3, 4) := by decide +kernel
theorem f0_23 : q_fetch 0 23 = some (.aload_n 0, 1, 0) := by decide +kernel
theorem f0_24 : q_fetch 0 24 = some (.bipush 6, 2, 0) := by decide +kernel
theorem f0_26 : q_fetch 0 26 = some (.anewarray 20, 3, 111) := by decide +kernel
theorem f0_29 : q_fetch 0 29 = some (.putfield 22, 3, 7) := by decide +kernel
theorem f0_32 : q_fetch 0 32 = some (.aload_n 0, 1, 0) := by decide +kernel
theorem f0_33 : q_fetch 0 33 = some (.bipush 6, 2, 0) := by decide +kernel
theorem f0_35 : q_fetch 0 35 = some (.newarray .int, 2, 100) := by decide +kernel
theorem f0_37 : q_fetch 0 37 = some (.putfield 26, 3, 9) := by decide +kernel
theorem f0_40 : q_fetch 0 40 = some (.aload_n 0, 1, 0) := by decide +kernel
theorem f0_41 : q_fetch 0 41 = some (.new 20, 3, 1) := by decide +kernel
theorem f0_44 : q_fetch 0 44 = some (.dup, 1, 0) := by decide +kernel
theorem f0_45 : q_fetch 0 45 = some (.invokespecial 30, 3, 1) := by decide +kernel
theorem f0_48 : q_fetch 0 48 = some (.putfield 31, 3, 11) := by decide +kernel
theorem f0_51 : q_fetch 0 51 = some (.aload_n 0, 1, 0) := by decide +kernel
theorem f0_52 : q_fetch 0 52 = some (.new 35, 3, 3) := by decide +kernel
theorem f0_55 : q_fetch 0 55 = some (.dup, 1, 0) := by decide +kernel
theorem f0_56 : q_fetch 0 56 = some (.invokespecial 37, 3, 3) := by decide +kernel
theorem f0_59 : q_fetch 0 59 = some (.putfield 38, 3, 13) := by decide +kernel
theorem f0_62 : q_fetch 0 62 = some (.aload_n 0, 1, 0) := by decide +kernel
theorem f0_63 : q_fetch 0 63 = some (.new 42, 3, 4) := by decide +kernel
theorem f0_66 : q_fetch 0 66 = some (.dup, 1, 0) := by decide +kernel
theorem f0_67 : q_fetch 0 67 = some (.invokespecial 44, 3, 4) := by decide +kernel
theorem f0_70 : q_fetch 0 70 = some (.putfield 45, 3, 15) := by decide +kernel
theorem f0_73 : q_fetch 0 73 = some (.aload_n 0, 1, 0) := by decide +kernel
theorem f0_74 : q_fetch 0 74 = some (.new 49, 3, 5) := by decide +kernel
theorem f0_77 : q_fetch 0 77 = some (.dup, 1, 0) := by decide +kernel
theorem f0_78 : q_fetch 0 78 = some (.aload_n 0, 1, 0) := by decide +kernel
theorem f0_79 : q_fetch 0 79 = some (.getfield 31, 3, 11) := by decide +kernel
theorem f0_82 : q_fetch 0 82 = some (.invokespecial 51, 3, 5) := by decide +kernel
theorem f0_85 : q_fetch 0 85 = some (.putfield 54, 3, 17) := by decide +kernel
theorem f0_88 : q_fetch 0 88 = some (.aload_n 0, 1, 0) := by decide +kernel
theorem f0_89 : q_fetch 0 89 = some (.new 58, 3, 7) := by decide +kernel
theorem f0_92 : q_fetch 0 92 = some (.dup, 1, 0) := by decide +kernel
theorem f0_93 : q_fetch 0 93 = some (.aload_n 0, 1, 0) := by decide +kernel
theorem f0_94 : q_fetch 0 94 = some (.getfield 38, 3, 13) := by decide +kernel
theorem f0_97 : q_fetch 0 97 = some (.aload_n 0, 1, 0) := by decide +kernel
theorem f0_98 : q_fetch 0 98 = some (.getfield 31, 3, 11) := by decide +kernel
theorem f0_101 : q_fetch 0 101 = some (.invokespecial 60, 3, 7) := by decide +kernel
theorem f0_104 : q_fetch 0 104 = some (.putfield 63, 3, 19) := by decide +kernel
theorem f0_107 : q_fetch 0 107 = some (.aload_n 0, 1, 0) := by decide +kernel
theorem f0_108 : q_fetch 0 108 = some (.new 67, 3, 8) := by decide +kernel
theorem f0_111 : q_fetch 0 111 = some (.dup, 1, 0) := by decide +kernel
theorem f0_112 : q_fetch 0 112 = some (.aload_n 0, 1, 0) := by decide +kernel
theorem f0_113 : q_fetch 0 113 = some (.getfield 38, 3, 13) := by decide +kernel
theorem f0_116 : q_fetch 0 116 = some (.aload_n 0, 1, 0) := by decide +kernel
theorem f0_117 : q_fetch 0 117 = some (.getfield 45, 3, 15) := by decide +kernel
theorem f0_120 : q_fetch 0 120 = some (.aload_n 0, 1, 0) := by decide +kernel
theorem f0_121 : q_fetch 0 121 = some (.getfield 31, 3, 11) := by decide +kernel
theorem f0_124 : q_fetch 0 124 = some (.invokespecial 69, 3, 8) := by decide +kernel
theorem f0_127 : q_fetch 0 127 = some (.putfield 72, 3, 21) := by decide +kernel
theorem f0_130 : q_fetch 0 130 = some (.iconst 0, 1, 0) := by decide +kernel
theorem f0_131 : q_fetch 0 131 = some (.istore_n 1, 1, 0) := by decide +kernel
theorem f0_132 : q_fetch 0 132 = some (.iload_n 1, 1, 0) := by decide +kernel
theorem f0_133 : q_fetch 0 133 = some (.bipush 6, 2, 0) := by decide +kernel
theorem f0_135 : q_fetch 0 135 = some (.if_icmp .ge (22), 3, 157) := by decide +kernel
theorem f0_138 : q_fetch 0 138 = some (.aload_n 0, 1, 0) := by decide +kernel
theorem f0_139 : q_fetch 0 139 = some (.getfield 22, 3, 7) := by decide +kernel
theorem f0_142 : q_fetch 0 142 = some (.iload_n 1, 1, 0) := by decide +kernel
theorem f0_143 : q_fetch 0 143 = some (.new 20, 3, 1) := by decide +kernel
theorem f0_146 : q_fetch 0 146 = some (.dup, 1, 0) := by decide +kernel
theorem f0_147 : q_fetch 0 147 = some (.invokespecial 30, 3, 1) := by decide +kernel
theorem f0_150 : q_fetch 0 150 = some (.aastore, 1, 0) := by decide +kernel
theorem f0_151 : q_fetch 0 151 = some (.iinc 1 1, 3, 0) := by decide +kernel
theorem f0_154 : q_fetch 0 154 = some (.goto (-22), 3, 132) := by decide +kernel
theorem f0_157 : q_fetch 0 157 = some (.return_, 1, 0) := by decide +kernel
theorem f1_0 : q_fetch 1 0 = some (.aload_n 0, 1, 0) := by decide +kernel
theorem f1_1 : q_fetch 1 1 = some (.invokespecial 3, 3, 9999) := by decide +kernel
theorem f1_4 : q_fetch 1 4 = some (.aload_n 0, 1, 0) := by decide +kernel
theorem f1_5 : q_fetch 1 5 = some (.iconst 0, 1, 0) := by decide +kernel
theorem f1_6 : q_fetch 1 6 = some (.putfield 9, 3, 128) := by decide +kernel
theorem f1_9 : q_fetch 1 9 = some (.aload_n 0, 1, 0) := by decide +kernel
theorem f1_10 : q_fetch 1 10 = some (.iconst 0, 1, 0) := by decide +kernel
theorem f1_11 : q_fetch 1 11 = some (.putfield 15, 3, 130) := by decide +kernel
theorem f1_14 : q_fetch 1 14 = some (.aload_n 0, 1, 0) := by decide +kernel
theorem f1_15 : q_fetch 1 15 = some (.new 18, 3, 2) := by decide +kernel
theorem f1_18 : q_fetch 1 18 = some (.dup, 1, 0) := by decide +kernel
theorem f1_19 : q_fetch 1 19 = some (.invokespecial 20, 3, 2) := by decide +kernel
theorem f1_22 : q_fetch 1 22 = some (.putfield 21, 3, 133) := by decide +kernel
theorem f1_25 : q_fetch 1 25 = some (.aload_n 0, 1, 0) := by decide +kernel
theorem f1_26 : q_fetch 1 26 = some (.new 18, 3, 2) := by decide +kernel
theorem f1_29 : q_fetch 1 29 = some (.dup, 1, 0) := by decide +kernel
theorem f1_30 : q_fetch 1 30 = some (.invokespecial 20, 3, 2) := by decide +kernel
theorem f1_33 : q_fetch 1 33 = some (.putfield 25, 3, 135) := by decide +kernel
theorem f1_36 : q_fetch 1 36 = some (.aload_n 0, 1, 0) := by decide +kernel
theorem f1_37 : q_fetch 1 37 = some (.iconst (-1), 1, 0) := by decide +kernel
theorem f1_38 : q_fetch 1 38 = some (.putfield 28, 3, 136) := by decide +kernel
theorem f1_41 : q_fetch 1 41 = some (.aload_n 0, 1, 0) := by decide +kernel
theorem f1_42 : q_fetch 1 42 = some (.iconst 0, 1, 0) := by decide +kernel
theorem f1_43 : q_fetch 1 43 = some (.putfield 32, 3, 138) := by decide +kernel
theorem f1_46 : q_fetch 1 46 = some (.aload_n 0, 1, 0) := by decide +kernel
theorem f1_47 : q_fetch 1 47 = some (.iconst 0, 1, 0) := by decide +kernel
theorem f1_48 : q_fetch 1 48 = some (.putfield 35, 3, 140) := by decide +kernel
theorem f1_51 : q_fetch 1 51 = some (.aload_n 0, 1, 0) := by decide +kernel
theorem f1_52 : q_fetch 1 52 = some (.bipush 12, 2, 0) := by decide +kernel
theorem f1_54 : q_fetch 1 54 = some (.newarray .boolean, 2, 102) := by decide +kernel
theorem f1_56 : q_fetch 1 56 = some (.putfield 38, 3, 143) := by decide +kernel
theorem f1_59 : q_fetch 1 59 = some (.aload_n 0, 1, 0) := by decide +kernel
theorem f1_60 : q_fetch 1 60 = some (.bipush 12, 2, 0) := by decide +kernel
theorem f1_62 : q_fetch 1 62 = some (.newarray .int, 2, 100) := by decide +kernel
theorem f1_64 : q_fetch 1 64 = some (.putfield 42, 3, 145) := by decide +kernel
theorem f1_67 : q_fetch 1 67 = some (.aload_n 0, 1, 0) := by decide +kernel
theorem f1_68 : q_fetch 1 68 = some (.bipush 12, 2, 0) := by decide +kernel
theorem f1_70 : q_fetch 1 70 = some (.newarray .int, 2, 100) := by decide +kernel
theorem f1_72 : q_fetch 1 72 = some (.putfield 46, 3, 147) := by decide +kernel
theorem f1_75 : q_fetch 1 75 = some (.aload_n 0, 1, 0) := by decide +kernel
theorem f1_76 : q_fetch 1 76 = some (.iconst 0, 1, 0) := by decide +kernel
theorem f1_77 : q_fetch 1 77 = some (.putfield 49, 3, 148) := by decide +kernel
theorem f1_80 : q_fetch 1 80 = some (.aload_n 0, 1, 0) := by decide +kernel
theorem f1_81 : q_fetch 1 81 = some (.bipush 100, 2, 0) := by decide +kernel
theorem f1_83 : q_fetch 1 83 = some (.anewarray 52, 3, 125) := by decide +kernel
theorem f1_86 : q_fetch 1 86 = some (.putfield 54, 3, 151) := by decide +kernel
theorem f1_89 : q_fetch 1 89 = some (.aload_n 0, 1, 0) := by decide +kernel
theorem f1_90 : q_fetch 1 90 = some (.bipush 100, 2, 0) := by decide +kernel
theorem f1_92 : q_fetch 1 92 = some (.newarray .int, 2, 100) := by decide +kernel
theorem f1_94 : q_fetch 1 94 = some (.putfield 58, 3, 153) := by decide +kernel
theorem f1_97 : q_fetch 1 97 = some (.aload_n 0, 1, 0) := by decide +kernel
theorem f1_98 : q_fetch 1 98 = some (.bipush 100, 2, 0) := by decide +kernel
theorem f1_100 : q_fetch 1 100 = some (.newarray .int, 2, 100) := by decide +kernel
theorem f1_102 : q_fetch 1 102 = some (.putfield 61, 3, 155) := by decide +kernel
theorem f1_105 : q_fetch 1 105 = some (.aload_n 0, 1, 0) := by decide +kernel
theorem f1_106 : q_fetch 1 106 = some (.bipush 100, 2, 0) := by decide +kernel
theorem f1_108 : q_fetch 1 108 = some (.newarray .int, 2, 100) := by decide +kernel
theorem f1_110 : q_fetch 1 110 = some (.putfield 64, 3, 157) := by decide +kernel
theorem f1_113 : q_fetch 1 113 = some (.aload_n 0, 1, 0) := by decide +kernel
theorem f1_114 : q_fetch 1 114 = some (.bipush 100, 2, 0) := by decide +kernel
theorem f1_116 : q_fetch 1 116 = some (.newarray .int, 2, 100) := by decide +kernel
theorem f1_118 : q_fetch 1 118 = some (.putfield 67, 3, 159) := by decide +kernel
theorem f1_121 : q_fetch 1 121 = some (.return_, 1, 0) := by decide +kernel
theorem f2_0 : q_fetch 2 0 = some (.aload_n 0, 1, 0) := by decide +kernel
theorem f2_1 : q_fetch 2 1 = some (.invokespecial 1, 3, 9999) := by decide +kernel
theorem f2_4 : q_fetch 2 4 = some (.aload_n 0, 1, 0) := by decide +kernel
theorem f2_5 : q_fetch 2 5 = some (.iconst 0, 1, 0) := by decide +kernel
theorem f2_6 : q_fetch 2 6 = some (.putfield 9, 3, 256) := by decide +kernel
theorem f2_9 : q_fetch 2 9 = some (.aload_n 0, 1, 0) := by decide +kernel
theorem f2_10 : q_fetch 2 10 = some (.iconst 0, 1, 0) := by decide +kernel
theorem f2_11 : q_fetch 2 11 = some (.putfield 13, 3, 258) := by decide +kernel
theorem f2_14 : q_fetch 2 14 = some (.return_, 1, 0) := by decide +kernel
theorem f3_0 : q_fetch 3 0 = some (.aload_n 0, 1, 0) := by decide +kernel
theorem f3_1 : q_fetch 3 1 = some (.invokespecial 3, 3, 9999) := by decide +kernel
theorem f3_4 : q_fetch 3 4 = some (.aload_n 0, 1, 0) := by decide +kernel
theorem f3_5 : q_fetch 3 5 = some (.bipush 16, 2, 0) := by decide +kernel
theorem f3_7 : q_fetch 3 7 = some (.newarray .int, 2, 100) := by decide +kernel
theorem f3_9 : q_fetch 3 9 = some (.putfield 9, 3, 385) := by decide +kernel
theorem f3_12 : q_fetch 3 12 = some (.aload_n 0, 1, 0) := by decide +kernel
theorem f3_13 : q_fetch 3 13 = some (.bipush 16, 2, 0) := by decide +kernel
theorem f3_15 : q_fetch 3 15 = some (.newarray .int, 2, 100) := by decide +kernel
theorem f3_17 : q_fetch 3 17 = some (.putfield 15, 3, 387) := by decide +kernel
theorem f3_20 : q_fetch 3 20 = some (.aload_n 0, 1, 0) := by decide +kernel
theorem f3_21 : q_fetch 3 21 = some (.bipush 48, 2, 0) := by decide +kernel
theorem f3_23 : q_fetch 3 23 = some (.newarray .int, 2, 100) := by decide +kernel
theorem f3_25 : q_fetch 3 25 = some (.putfield 18, 3, 389) := by decide +kernel
theorem f3_28 : q_fetch 3 28 = some (.aload_n 0, 1, 0) := by decide +kernel
theorem f3_29 : q_fetch 3 29 = some (.bipush 48, 2, 0) := by decide +kernel
theorem f3_31 : q_fetch 3 31 = some (.newarray .int, 2, 100) := by decide +kernel
theorem f3_33 : q_fetch 3 33 = some (.putfield 21, 3, 391) := by decide +kernel
theorem f3_36 : q_fetch 3 36 = some (.iconst 0, 1, 0) := by decide +kernel
theorem f3_37 : q_fetch 3 37 = some (.istore_n 1, 1, 0) := by decide +kernel
theorem f3_38 : q_fetch 3 38 = some (.iload_n 1, 1, 0) := by decide +kernel
theorem f3_39 : q_fetch 3 39 = some (.bipush 16, 2, 0) := by decide +kernel
theorem f3_41 : q_fetch 3 41 = some (.if_icmp .ge (17), 3, 58) := by decide +kernel
theorem f3_44 : q_fetch 3 44 = some (.aload_n 0, 1, 0) := by decide +kernel
theorem f3_45 : q_fetch 3 45 = some (.getfield 9, 3, 385) := by decide +kernel
theorem f3_48 : q_fetch 3 48 = some (.iload_n 1, 1, 0) := by decide +kernel
theorem f3_49 : q_fetch 3 49 = some (.bipush (-2), 2, 0) := by decide +kernel
theorem f3_51 : q_fetch 3 51 = some (.iastore, 1, 0) := by decide +kernel
theorem f3_52 : q_fetch 3 52 = some (.iinc 1 1, 3, 0) := by decide +kernel
theorem f3_55 : q_fetch 3 55 = some (.goto (-17), 3, 38) := by decide +kernel
theorem f3_58 : q_fetch 3 58 = some (.return_, 1, 0) := by decide +kernel
theorem f4_0 : q_fetch 4 0 = some (.aload_n 0, 1, 0) := by decide +kernel
theorem f4_1 : q_fetch 4 1 = some (.invokespecial 3, 3, 9999) := by decide +kernel
theorem f4_4 : q_fetch 4 4 = some (.aload_n 0, 1, 0) := by decide +kernel
theorem f4_5 : q_fetch 4 5 = some (.bipush 9, 2, 0) := by decide +kernel
theorem f4_7 : q_fetch 4 7 = some (.newarray .int, 2, 100) := by decide +kernel
theorem f4_9 : q_fetch 4 9 = some (.putfield 9, 3, 513) := by decide +kernel
theorem f4_12 : q_fetch 4 12 = some (.aload_n 0, 1, 0) := by decide +kernel
theorem f4_13 : q_fetch 4 13 = some (.bipush 9, 2, 0) := by decide +kernel
theorem f4_15 : q_fetch 4 15 = some (.newarray .boolean, 2, 102) := by decide +kernel
theorem f4_17 : q_fetch 4 17 = some (.putfield 15, 3, 515) := by decide +kernel
theorem f4_20 : q_fetch 4 20 = some (.return_, 1, 0) := by decide +kernel
theorem f5_0 : q_fetch 5 0 = some (.aload_n 0, 1, 0) := by decide +kernel
theorem f5_1 : q_fetch 5 1 = some (.invokespecial 3, 3, 9999) := by decide +kernel
theorem f5_4 : q_fetch 5 4 = some (.aload_n 0, 1, 0) := by decide +kernel
theorem f5_5 : q_fetch 5 5 = some (.new 9, 3, 6) := by decide +kernel
theorem f5_8 : q_fetch 5 8 = some (.dup, 1, 0) := by decide +kernel
theorem f5_9 : q_fetch 5 9 = some (.invokespecial 11, 3, 6) := by decide +kernel
theorem f5_12 : q_fetch 5 12 = some (.putfield 12, 3, 641) := by decide +kernel
theorem f5_15 : q_fetch 5 15 = some (.aload_n 0, 1, 0) := by decide +kernel
theorem f5_16 : q_fetch 5 16 = some (.aload_n 1, 1, 0) := by decide +kernel
theorem f5_17 : q_fetch 5 17 = some (.putfield 18, 3, 643) := by decide +kernel
theorem f5_20 : q_fetch 5 20 = some (.return_, 1, 0) := by decide +kernel
theorem f6_0 : q_fetch 6 0 = some (.aload_n 0, 1, 0) := by decide +kernel
theorem f6_1 : q_fetch 6 1 = some (.invokespecial 3, 3, 9999) := by decide +kernel
theorem f6_4 : q_fetch 6 4 = some (.aload_n 0, 1, 0) := by decide +kernel
theorem f6_5 : q_fetch 6 5 = some (.bipush 101, 2, 0) := by decide +kernel
theorem f6_7 : q_fetch 6 7 = some (.anewarray 9, 3, 125) := by decide +kernel
theorem f6_10 : q_fetch 6 10 = some (.putfield 11, 3, 769) := by decide +kernel
theorem f6_13 : q_fetch 6 13 = some (.aload_n 0, 1, 0) := by decide +kernel
theorem f6_14 : q_fetch 6 14 = some (.bipush 101, 2, 0) := by decide +kernel
theorem f6_16 : q_fetch 6 16 = some (.newarray .int, 2, 100) := by decide +kernel
theorem f6_18 : q_fetch 6 18 = some (.putfield 17, 3, 771) := by decide +kernel
theorem f6_21 : q_fetch 6 21 = some (.aload_n 0, 1, 0) := by decide +kernel
theorem f6_22 : q_fetch 6 22 = some (.bipush 101, 2, 0) := by decide +kernel
theorem f6_24 : q_fetch 6 24 = some (.newarray .int, 2, 100) := by decide +kernel
theorem f6_26 : q_fetch 6 26 = some (.putfield 21, 3, 773) := by decide +kernel
theorem f6_29 : q_fetch 6 29 = some (.aload_n 0, 1, 0) := by decide +kernel
theorem f6_30 : q_fetch 6 30 = some (.iconst 0, 1, 0) := by decide +kernel
theorem f6_31 : q_fetch 6 31 = some (.newarray .char, 2, 101) := by decide +kernel
theorem f6_33 : q_fetch 6 33 = some (.putfield 24, 3, 775) := by decide +kernel
theorem f6_36 : q_fetch 6 36 = some (.aload_n 0, 1, 0) := by decide +kernel
theorem f6_37 : q_fetch 6 37 = some (.iconst 0, 1, 0) := by decide +kernel
theorem f6_38 : q_fetch 6 38 = some (.putfield 28, 3, 776) := by decide +kernel
theorem f6_41 : q_fetch 6 41 = some (.aload_n 0, 1, 0) := by decide +kernel
theorem f6_42 : q_fetch 6 42 = some (.iconst 0, 1, 0) := by decide +kernel
theorem f6_43 : q_fetch 6 43 = some (.putfield 32, 3, 778) := by decide +kernel
theorem f6_46 : q_fetch 6 46 = some (.aload_n 0, 1, 0) := by decide +kernel
theorem f6_47 : q_fetch 6 47 = some (.iconst 0, 1, 0) := by decide +kernel
theorem f6_48 : q_fetch 6 48 = some (.putfield 35, 3, 780) := by decide +kernel
theorem f6_51 : q_fetch 6 51 = some (.aload_n 0, 1, 0) := by decide +kernel
theorem f6_52 : q_fetch 6 52 = some (.getfield 11, 3, 769) := by decide +kernel
theorem f6_55 : q_fetch 6 55 = some (.iconst 0, 1, 0) := by decide +kernel
theorem f6_56 : q_fetch 6 56 = some (.getstatic 38, 3, 32) := by decide +kernel
theorem f6_59 : q_fetch 6 59 = some (.aastore, 1, 0) := by decide +kernel
theorem f6_60 : q_fetch 6 60 = some (.return_, 1, 0) := by decide +kernel
theorem f7_0 : q_fetch 7 0 = some (.aload_n 0, 1, 0) := by decide +kernel
theorem f7_1 : q_fetch 7 1 = some (.invokespecial 3, 3, 9999) := by decide +kernel
theorem f7_4 : q_fetch 7 4 = some (.aload_n 0, 1, 0) := by decide +kernel
theorem f7_5 : q_fetch 7 5 = some (.iconst 0, 1, 0) := by decide +kernel
theorem f7_6 : q_fetch 7 6 = some (.putfield 9, 3, 900) := by decide +kernel
theorem f7_9 : q_fetch 7 9 = some (.aload_n 0, 1, 0) := by decide +kernel
theorem f7_10 : q_fetch 7 10 = some (.iconst 0, 1, 0) := by decide +kernel
theorem f7_11 : q_fetch 7 11 = some (.putfield 15, 3, 902) := by decide +kernel
theorem f7_14 : q_fetch 7 14 = some (.aload_n 0, 1, 0) := by decide +kernel
theorem f7_15 : q_fetch 7 15 = some (.aload_n 1, 1, 0) := by decide +kernel
theorem f7_16 : q_fetch 7 16 = some (.putfield 18, 3, 897) := by decide +kernel
theorem f7_19 : q_fetch 7 19 = some (.aload_n 0, 1, 0) := by decide +kernel
theorem f7_20 : q_fetch 7 20 = some (.aload_n 2, 1, 0) := by decide +kernel
theorem f7_21 : q_fetch 7 21 = some (.putfield 22, 3, 899) := by decide +kernel
theorem f7_24 : q_fetch 7 24 = some (.return_, 1, 0) := by decide +kernel
theorem f8_0 : q_fetch 8 0 = some (.aload_n 0, 1, 0) := by decide +kernel
theorem f8_1 : q_fetch 8 1 = some (.invokespecial 3, 3, 9999) := by decide +kernel
theorem f8_4 : q_fetch 8 4 = some (.aload_n 0, 1, 0) := by decide +kernel
theorem f8_5 : q_fetch 8 5 = some (.bipush (-2), 2, 0) := by decide +kernel
theorem f8_7 : q_fetch 8 7 = some (.putfield 9, 3, 1030) := by decide +kernel
theorem f8_10 : q_fetch 8 10 = some (.aload_n 0, 1, 0) := by decide +kernel
theorem f8_11 : q_fetch 8 11 = some (.aload_n 1, 1, 0) := by decide +kernel
theorem f8_12 : q_fetch 8 12 = some (.putfield 15, 3, 1025) := by decide +kernel
theorem f8_15 : q_fetch 8 15 = some (.aload_n 0, 1, 0) := by decide +kernel
theorem f8_16 : q_fetch 8 16 = some (.aload_n 2, 1, 0) := by decide +kernel
theorem f8_17 : q_fetch 8 17 = some (.putfield 19, 3, 1027) := by decide +kernel
theorem f8_20 : q_fetch 8 20 = some (.aload_n 0, 1, 0) := by decide +kernel
theorem f8_21 : q_fetch 8 21 = some (.aload_n 3, 1, 0) := by decide +kernel
theorem f8_22 : q_fetch 8 22 = some (.putfield 23, 3, 1029) := by decide +kernel
theorem f8_25 : q_fetch 8 25 = some (.return_, 1, 0) := by decide +kernel
theorem f9_0 : q_fetch 9 0 = some (.aload_n 0, 1, 0) := by decide +kernel
theorem f9_1 : q_fetch 9 1 = some (.getfield 17, 3, 4) := by decide +kernel
theorem f9_4 : q_fetch 9 4 = some (.ireturn, 1, 0) := by decide +kernel
theorem f10_0 : q_fetch 10 0 = some (.iload_n 1, 1, 0) := by decide +kernel
theorem f10_1 : q_fetch 10 1 = some (.bipush 6, 2, 0) := by decide +kernel
theorem f10_3 : q_fetch 10 3 = some (.invokestatic 188, 3, 11) := by decide +kernel
theorem f10_6 : q_fetch 10 6 = some (.ifCond .eq (12), 3, 18) := by decide +kernel
theorem f10_9 : q_fetch 10 9 = some (.aload_n 0, 1, 0) := by decide +kernel
theorem f10_10 : q_fetch 10 10 = some (.getfield 26, 3, 9) := by decide +kernel
theorem f10_13 : q_fetch 10 13 = some (.iload_n 1, 1, 0) := by decide +kernel
theorem f10_14 : q_fetch 10 14 = some (.iaload, 1, 0) := by decide +kernel
theorem f10_15 : q_fetch 10 15 = some (.goto 4, 3, 19) := by decide +kernel
theorem f10_18 : q_fetch 10 18 = some (.iconst (-1), 1, 0) := by decide +kernel
theorem f10_19 : q_fetch 10 19 = some (.ireturn, 1, 0) := by decide +kernel
theorem f11_0 : q_fetch 11 0 = some (.iload_n 0, 1, 0) := by decide +kernel
theorem f11_1 : q_fetch 11 1 = some (.ifCond .lt (12), 3, 13) := by decide +kernel
theorem f11_4 : q_fetch 11 4 = some (.iload_n 0, 1, 0) := by decide +kernel
theorem f11_5 : q_fetch 11 5 = some (.iload_n 1, 1, 0) := by decide +kernel
theorem f11_6 : q_fetch 11 6 = some (.if_icmp .ge (7), 3, 13) := by decide +kernel
theorem f11_9 : q_fetch 11 9 = some (.iconst 1, 1, 0) := by decide +kernel
theorem f11_10 : q_fetch 11 10 = some (.goto 4, 3, 14) := by decide +kernel
theorem f11_13 : q_fetch 11 13 = some (.iconst 0, 1, 0) := by decide +kernel
theorem f11_14 : q_fetch 11 14 = some (.ireturn, 1, 0) := by decide +kernel
theorem f12_0 : q_fetch 12 0 = some (.iload_n 1, 1, 0) := by decide +kernel
theorem f12_1 : q_fetch 12 1 = some (.tableswitch (54) (0) (3) #[31, 36, 41, 49], 31, 0) := by decide +kernel
theorem f12_32 : q_fetch 12 32 = some (.aload_n 0, 1, 0) := by decide +kernel
theorem f12_33 : q_fetch 12 33 = some (.getfield 13, 3, 2) := by decide +kernel
theorem f12_36 : q_fetch 12 36 = some (.ireturn, 1, 0) := by decide +kernel
theorem f12_37 : q_fetch 12 37 = some (.aload_n 0, 1, 0) := by decide +kernel
theorem f12_38 : q_fetch 12 38 = some (.invokevirtual 191, 3, 13) := by decide +kernel
theorem f12_41 : q_fetch 12 41 = some (.ireturn, 1, 0) := by decide +kernel
theorem f12_42 : q_fetch 12 42 = some (.aload_n 0, 1, 0) := by decide +kernel
theorem f12_43 : q_fetch 12 43 = some (.getfield 38, 3, 13) := by decide +kernel
theorem f12_46 : q_fetch 12 46 = some (.invokevirtual 195, 3, 14) := by decide +kernel
theorem f12_49 : q_fetch 12 49 = some (.ireturn, 1, 0) := by decide +kernel
theorem f12_50 : q_fetch 12 50 = some (.aload_n 0, 1, 0) := by decide +kernel
theorem f12_51 : q_fetch 12 51 = some (.invokevirtual 198, 3, 16) := by decide +kernel
theorem f12_54 : q_fetch 12 54 = some (.ireturn, 1, 0) := by decide +kernel
theorem f12_55 : q_fetch 12 55 = some (.aload_n 0, 1, 0) := by decide +kernel
theorem f12_56 : q_fetch 12 56 = some (.iload_n 1, 1, 0) := by decide +kernel
theorem f12_57 : q_fetch 12 57 = some (.invokevirtual 201, 3, 17) := by decide +kernel
theorem f12_60 : q_fetch 12 60 = some (.ireturn, 1, 0) := by decide +kernel
theorem f13_0 : q_fetch 13 0 = some (.iconst 0, 1, 0) := by decide +kernel
theorem f13_1 : q_fetch 13 1 = some (.istore_n 1, 1, 0) := by decide +kernel
theorem f13_2 : q_fetch 13 2 = some (.iconst 0, 1, 0) := by decide +kernel
theorem f13_3 : q_fetch 13 3 = some (.istore_n 2, 1, 0) := by decide +kernel
theorem f13_4 : q_fetch 13 4 = some (.iload_n 2, 1, 0) := by decide +kernel
theorem f13_5 : q_fetch 13 5 = some (.bipush 6, 2, 0) := by decide +kernel
theorem f13_7 : q_fetch 13 7 = some (.if_icmp .ge (29), 3, 36) := by decide +kernel
theorem f13_10 : q_fetch 13 10 = some (.iload_n 1, 1, 0) := by decide +kernel
theorem f13_11 : q_fetch 13 11 = some (.aload_n 0, 1, 0) := by decide +kernel
theorem f13_12 : q_fetch 13 12 = some (.getfield 22, 3, 7) := by decide +kernel
theorem f13_15 : q_fetch 13 15 = some (.iload_n 2, 1, 0) := by decide +kernel
theorem f13_16 : q_fetch 13 16 = some (.aaload, 1, 0) := by decide +kernel
theorem f13_17 : q_fetch 13 17 = some (.getfield 106, 3, 128) := by decide +kernel
theorem f13_20 : q_fetch 13 20 = some (.ifCond .eq (7), 3, 27) := by decide +kernel
theorem f13_23 : q_fetch 13 23 = some (.iconst 1, 1, 0) := by decide +kernel
theorem f13_24 : q_fetch 13 24 = some (.goto 4, 3, 28) := by decide +kernel
theorem f13_27 : q_fetch 13 27 = some (.iconst 0, 1, 0) := by decide +kernel
theorem f13_28 : q_fetch 13 28 = some (.iadd, 1, 0) := by decide +kernel
theorem f13_29 : q_fetch 13 29 = some (.istore_n 1, 1, 0) := by decide +kernel
theorem f13_30 : q_fetch 13 30 = some (.iinc 2 1, 3, 0) := by decide +kernel
theorem f13_33 : q_fetch 13 33 = some (.goto (-29), 3, 4) := by decide +kernel
theorem f13_36 : q_fetch 13 36 = some (.iload_n 1, 1, 0) := by decide +kernel
theorem f13_37 : q_fetch 13 37 = some (.ireturn, 1, 0) := by decide +kernel
theorem f14_0 : q_fetch 14 0 = some (.iconst 0, 1, 0) := by decide +kernel
theorem f14_1 : q_fetch 14 1 = some (.istore_n 1, 1, 0) := by decide +kernel
theorem f14_2 : q_fetch 14 2 = some (.iconst 0, 1, 0) := by decide +kernel
theorem f14_3 : q_fetch 14 3 = some (.istore_n 2, 1, 0) := by decide +kernel
theorem f14_4 : q_fetch 14 4 = some (.iload_n 2, 1, 0) := by decide +kernel
theorem f14_5 : q_fetch 14 5 = some (.bipush 16, 2, 0) := by decide +kernel
theorem f14_7 : q_fetch 14 7 = some (.if_icmp .ge (25), 3, 32) := by decide +kernel
theorem f14_10 : q_fetch 14 10 = some (.iload_n 1, 1, 0) := by decide +kernel
theorem f14_11 : q_fetch 14 11 = some (.aload_n 0, 1, 0) := by decide +kernel
theorem f14_12 : q_fetch 14 12 = some (.iload_n 2, 1, 0) := by decide +kernel
theorem f14_13 : q_fetch 14 13 = some (.invokevirtual 24, 3, 15) := by decide +kernel
theorem f14_16 : q_fetch 14 16 = some (.ifCond .eq (7), 3, 23) := by decide +kernel
theorem f14_19 : q_fetch 14 19 = some (.iconst 1, 1, 0) := by decide +kernel
theorem f14_20 : q_fetch 14 20 = some (.goto 4, 3, 24) := by decide +kernel
theorem f14_23 : q_fetch 14 23 = some (.iconst 0, 1, 0) := by decide +kernel
theorem f14_24 : q_fetch 14 24 = some (.iadd, 1, 0) := by decide +kernel
theorem f14_25 : q_fetch 14 25 = some (.istore_n 1, 1, 0) := by decide +kernel
theorem f14_26 : q_fetch 14 26 = some (.iinc 2 1, 3, 0) := by decide +kernel
theorem f14_29 : q_fetch 14 29 = some (.goto (-25), 3, 4) := by decide +kernel
theorem f14_32 : q_fetch 14 32 = some (.iload_n 1, 1, 0) := by decide +kernel
theorem f14_33 : q_fetch 14 33 = some (.ireturn, 1, 0) := by decide +kernel
theorem f15_0 : q_fetch 15 0 = some (.aload_n 0, 1, 0) := by decide +kernel
theorem f15_1 : q_fetch 15 1 = some (.getfield 9, 3, 385) := by decide +kernel
theorem f15_4 : q_fetch 15 4 = some (.iload_n 1, 1, 0) := by decide +kernel
theorem f15_5 : q_fetch 15 5 = some (.iaload, 1, 0) := by decide +kernel
theorem f15_6 : q_fetch 15 6 = some (.bipush (-2), 2, 0) := by decide +kernel
theorem f15_8 : q_fetch 15 8 = some (.if_icmp .eq (7), 3, 15) := by decide +kernel
theorem f15_11 : q_fetch 15 11 = some (.iconst 1, 1, 0) := by decide +kernel
theorem f15_12 : q_fetch 15 12 = some (.goto 4, 3, 16) := by decide +kernel
theorem f15_15 : q_fetch 15 15 = some (.iconst 0, 1, 0) := by decide +kernel
theorem f15_16 : q_fetch 15 16 = some (.ireturn, 1, 0) := by decide +kernel
theorem f16_0 : q_fetch 16 0 = some (.iconst 0, 1, 0) := by decide +kernel
theorem f16_1 : q_fetch 16 1 = some (.istore_n 1, 1, 0) := by decide +kernel
theorem f16_2 : q_fetch 16 2 = some (.iconst 0, 1, 0) := by decide +kernel
theorem f16_3 : q_fetch 16 3 = some (.istore_n 2, 1, 0) := by decide +kernel
theorem f16_4 : q_fetch 16 4 = some (.iload_n 2, 1, 0) := by decide +kernel
theorem f16_5 : q_fetch 16 5 = some (.bipush 6, 2, 0) := by decide +kernel
theorem f16_7 : q_fetch 16 7 = some (.if_icmp .ge (27), 3, 34) := by decide +kernel
theorem f16_10 : q_fetch 16 10 = some (.iload_n 1, 1, 0) := by decide +kernel
theorem f16_11 : q_fetch 16 11 = some (.aload_n 0, 1, 0) := by decide +kernel
theorem f16_12 : q_fetch 16 12 = some (.getfield 26, 3, 9) := by decide +kernel
theorem f16_15 : q_fetch 16 15 = some (.iload_n 2, 1, 0) := by decide +kernel
theorem f16_16 : q_fetch 16 16 = some (.iaload, 1, 0) := by decide +kernel
theorem f16_17 : q_fetch 16 17 = some (.iconst 2, 1, 0) := by decide +kernel
theorem f16_18 : q_fetch 16 18 = some (.if_icmp .lt (7), 3, 25) := by decide +kernel
theorem f16_21 : q_fetch 16 21 = some (.iconst 1, 1, 0) := by decide +kernel
theorem f16_22 : q_fetch 16 22 = some (.goto 4, 3, 26) := by decide +kernel
theorem f16_25 : q_fetch 16 25 = some (.iconst 0, 1, 0) := by decide +kernel
theorem f16_26 : q_fetch 16 26 = some (.iadd, 1, 0) := by decide +kernel
theorem f16_27 : q_fetch 16 27 = some (.istore_n 1, 1, 0) := by decide +kernel
theorem f16_28 : q_fetch 16 28 = some (.iinc 2 1, 3, 0) := by decide +kernel
theorem f16_31 : q_fetch 16 31 = some (.goto (-27), 3, 4) := by decide +kernel
theorem f16_34 : q_fetch 16 34 = some (.iload_n 1, 1, 0) := by decide +kernel
theorem f16_35 : q_fetch 16 35 = some (.ireturn, 1, 0) := by decide +kernel
theorem f17_0 : q_fetch 17 0 = some (.iload_n 1, 1, 0) := by decide +kernel
theorem f17_1 : q_fetch 17 1 = some (.bipush 10, 2, 0) := by decide +kernel
theorem f17_3 : q_fetch 17 3 = some (.if_icmp .lt (9), 3, 12) := by decide +kernel
theorem f17_6 : q_fetch 17 6 = some (.iload_n 1, 1, 0) := by decide +kernel
theorem f17_7 : q_fetch 17 7 = some (.bipush 16, 2, 0) := by decide +kernel
theorem f17_9 : q_fetch 17 9 = some (.if_icmp .lt (5), 3, 14) := by decide +kernel
theorem f17_12 : q_fetch 17 12 = some (.iconst (-1), 1, 0) := by decide +kernel
theorem f17_13 : q_fetch 17 13 = some (.ireturn, 1, 0) := by decide +kernel
theorem f17_14 : q_fetch 17 14 = some (.aload_n 0, 1, 0) := by decide +kernel
theorem f17_15 : q_fetch 17 15 = some (.getfield 22, 3, 7) := by decide +kernel
theorem f17_18 : q_fetch 17 18 = some (.iload_n 1, 1, 0) := by decide +kernel
theorem f17_19 : q_fetch 17 19 = some (.bipush 10, 2, 0) := by decide +kernel
theorem f17_21 : q_fetch 17 21 = some (.isub, 1, 0) := by decide +kernel
theorem f17_22 : q_fetch 17 22 = some (.aaload, 1, 0) := by decide +kernel
theorem f17_23 : q_fetch 17 23 = some (.astore_n 2, 1, 0) := by decide +kernel
theorem f17_24 : q_fetch 17 24 = some (.aload_n 2, 1, 0) := by decide +kernel
theorem f17_25 : q_fetch 17 25 = some (.getfield 106, 3, 128) := by decide +kernel
theorem f17_28 : q_fetch 17 28 = some (.ifCond .eq (10), 3, 38) := by decide +kernel
theorem f17_31 : q_fetch 17 31 = some (.aload_n 2, 1, 0) := by decide +kernel
theorem f17_32 : q_fetch 17 32 = some (.getfield 110, 3, 138) := by decide +kernel
theorem f17_35 : q_fetch 17 35 = some (.goto 5, 3, 40) := by decide +kernel
theorem f17_38 : q_fetch 17 38 = some (.bipush (-2), 2, 0) := by decide +kernel
theorem f17_40 : q_fetch 17 40 = some (.ireturn, 1, 0) := by decide +kernel
theorem f18_0 : q_fetch 18 0 = some (.aload_n 3, 1, 0) := by decide +kernel
theorem f18_1 : q_fetch 18 1 = some (.iconst 0, 1, 0) := by decide +kernel
theorem f18_2 : q_fetch 18 2 = some (.aload_n 0, 1, 0) := by decide +kernel
theorem f18_3 : q_fetch 18 3 = some (.lload_n 1, 1, 0) := by decide +kernel
theorem f18_4 : q_fetch 18 4 = some (.invokevirtual 7, 3, 19) := by decide +kernel
theorem f18_7 : q_fetch 18 7 = some (.i2l, 1, 0) := by decide +kernel
theorem f18_8 : q_fetch 18 8 = some (.lastore, 1, 0) := by decide +kernel
theorem f18_9 : q_fetch 18 9 = some (.goto 11, 3, 20) := by decide +kernel
theorem f18_12 : q_fetch 18 12 = some (.astore 4, 2, 0) := by decide +kernel
theorem f18_14 : q_fetch 18 14 = some (.iconst 1, 1, 0) := by decide +kernel
theorem f18_15 : q_fetch 18 15 = some (.ireturn, 1, 0) := by decide +kernel
theorem f18_16 : q_fetch 18 16 = some (.astore 4, 2, 0) := by decide +kernel
theorem f18_18 : q_fetch 18 18 = some (.iconst 2, 1, 0) := by decide +kernel
theorem f18_19 : q_fetch 18 19 = some (.ireturn, 1, 0) := by decide +kernel
theorem f18_20 : q_fetch 18 20 = some (.iconst 0, 1, 0) := by decide +kernel
theorem f18_21 : q_fetch 18 21 = some (.ireturn, 1, 0) := by decide +kernel
theorem f19_0 : q_fetch 19 0 = some (.iconst 0, 1, 0) := by decide +kernel
theorem f19_1 : q_fetch 19 1 = some (.istore_n 3, 1, 0) := by decide +kernel
theorem f19_2 : q_fetch 19 2 = some (.bipush 56, 2, 0) := by decide +kernel
theorem f19_4 : q_fetch 19 4 = some (.istore 4, 2, 0) := by decide +kernel
theorem f19_6 : q_fetch 19 6 = some (.iload 4, 2, 0) := by decide +kernel
theorem f19_8 : q_fetch 19 8 = some (.ifCond .lt (59), 3, 67) := by decide +kernel
theorem f19_11 : q_fetch 19 11 = some (.lload_n 1, 1, 0) := by decide +kernel
theorem f19_12 : q_fetch 19 12 = some (.iload 4, 2, 0) := by decide +kernel
theorem f19_14 : q_fetch 19 14 = some (.invokestatic 76, 3, 20) := by decide +kernel
theorem f19_17 : q_fetch 19 17 = some (.istore 5, 2, 0) := by decide +kernel
theorem f19_19 : q_fetch 19 19 = some (.iload 5, 2, 0) := by decide +kernel
theorem f19_21 : q_fetch 19 21 = some (.ifCond .eq (27), 3, 48) := by decide +kernel
theorem f19_24 : q_fetch 19 24 = some (.iload 5, 2, 0) := by decide +kernel
theorem f19_26 : q_fetch 19 26 = some (.bipush 32, 2, 0) := by decide +kernel
theorem f19_28 : q_fetch 19 28 = some (.if_icmp .lt (10), 3, 38) := by decide +kernel
theorem f19_31 : q_fetch 19 31 = some (.iload 5, 2, 0) := by decide +kernel
theorem f19_33 : q_fetch 19 33 = some (.bipush 126, 2, 0) := by decide +kernel
theorem f19_35 : q_fetch 19 35 = some (.if_icmp .le (13), 3, 48) := by decide +kernel
theorem f19_38 : q_fetch 19 38 = some (.new 80, 3, 10) := by decide +kernel
theorem f19_41 : q_fetch 19 41 = some (.dup, 1, 0) := by decide +kernel
theorem f19_42 : q_fetch 19 42 = some (.ldc 82, 2, 40) := by decide +kernel
theorem f19_44 : q_fetch 19 44 = some (.invokespecial 84, 3, 5010) := by decide +kernel
theorem f19_47 : q_fetch 19 47 = some (.athrow, 1, 0) := by decide +kernel
theorem f19_48 : q_fetch 19 48 = some (.iload_n 3, 1, 0) := by decide +kernel
theorem f19_49 : q_fetch 19 49 = some (.iload 5, 2, 0) := by decide +kernel
theorem f19_51 : q_fetch 19 51 = some (.ifCond .ne (7), 3, 58) := by decide +kernel
theorem f19_54 : q_fetch 19 54 = some (.iconst 0, 1, 0) := by decide +kernel
theorem f19_55 : q_fetch 19 55 = some (.goto 4, 3, 59) := by decide +kernel
theorem f19_58 : q_fetch 19 58 = some (.iconst 1, 1, 0) := by decide +kernel
theorem f19_59 : q_fetch 19 59 = some (.iadd, 1, 0) := by decide +kernel
theorem f19_60 : q_fetch 19 60 = some (.istore_n 3, 1, 0) := by decide +kernel
theorem f19_61 : q_fetch 19 61 = some (.iinc 4 (-8), 3, 0) := by decide +kernel
theorem f19_64 : q_fetch 19 64 = some (.goto (-58), 3, 6) := by decide +kernel
theorem f19_67 : q_fetch 19 67 = some (.aload_n 0, 1, 0) := by decide +kernel
theorem f19_68 : q_fetch 19 68 = some (.getfield 13, 3, 2) := by decide +kernel
theorem f19_71 : q_fetch 19 71 = some (.iload_n 3, 1, 0) := by decide +kernel
theorem f19_72 : q_fetch 19 72 = some (.iadd, 1, 0) := by decide +kernel
theorem f19_73 : q_fetch 19 73 = some (.bipush 100, 2, 0) := by decide +kernel
theorem f19_75 : q_fetch 19 75 = some (.if_icmp .le (13), 3, 88) := by decide +kernel
theorem f19_78 : q_fetch 19 78 = some (.new 87, 3, 11) := by decide +kernel
theorem f19_81 : q_fetch 19 81 = some (.dup, 1, 0) := by decide +kernel
theorem f19_82 : q_fetch 19 82 = some (.ldc 89, 2, 41) := by decide +kernel
theorem f19_84 : q_fetch 19 84 = some (.invokespecial 91, 3, 5011) := by decide +kernel
theorem f19_87 : q_fetch 19 87 = some (.athrow, 1, 0) := by decide +kernel
theorem f19_88 : q_fetch 19 88 = some (.bipush 56, 2, 0) := by decide +kernel
theorem f19_90 : q_fetch 19 90 = some (.istore 4, 2, 0) := by decide +kernel
theorem f19_92 : q_fetch 19 92 = some (.iload 4, 2, 0) := by decide +kernel
theorem f19_94 : q_fetch 19 94 = some (.ifCond .lt (19), 3, 113) := by decide +kernel
theorem f19_97 : q_fetch 19 97 = some (.aload_n 0, 1, 0) := by decide +kernel
theorem f19_98 : q_fetch 19 98 = some (.lload_n 1, 1, 0) := by decide +kernel
theorem f19_99 : q_fetch 19 99 = some (.iload 4, 2, 0) := by decide +kernel
theorem f19_101 : q_fetch 19 101 = some (.invokestatic 76, 3, 20) := by decide +kernel
theorem f19_104 : q_fetch 19 104 = some (.invokevirtual 92, 3, 21) := by decide +kernel
theorem f19_107 : q_fetch 19 107 = some (.iinc 4 (-8), 3, 0) := by decide +kernel
theorem f19_110 : q_fetch 19 110 = some (.goto (-18), 3, 92) := by decide +kernel
theorem f19_113 : q_fetch 19 113 = some (.aload_n 0, 1, 0) := by decide +kernel
theorem f19_114 : q_fetch 19 114 = some (.getfield 13, 3, 2) := by decide +kernel
theorem f19_117 : q_fetch 19 117 = some (.ireturn, 1, 0) := by decide +kernel
theorem f20_0 : q_fetch 20 0 = some (.lload_n 0, 1, 0) := by decide +kernel
theorem f20_1 : q_fetch 20 1 = some (.iload_n 2, 1, 0) := by decide +kernel
theorem f20_2 : q_fetch 20 2 = some (.lushr, 1, 0) := by decide +kernel
theorem f20_3 : q_fetch 20 3 = some (.l2i, 1, 0) := by decide +kernel
theorem f20_4 : q_fetch 20 4 = some (.sipush 255, 3, 0) := by decide +kernel
theorem f20_7 : q_fetch 20 7 = some (.iand, 1, 0) := by decide +kernel
theorem f20_8 : q_fetch 20 8 = some (.ireturn, 1, 0) := by decide +kernel
theorem f21_0 : q_fetch 21 0 = some (.iload_n 1, 1, 0) := by decide +kernel
theorem f21_1 : q_fetch 21 1 = some (.ifCond .eq (33), 3, 34) := by decide +kernel
theorem f21_4 : q_fetch 21 4 = some (.aload_n 0, 1, 0) := by decide +kernel
theorem f21_5 : q_fetch 21 5 = some (.getfield 13, 3, 2) := by decide +kernel
theorem f21_8 : q_fetch 21 8 = some (.bipush 100, 2, 0) := by decide +kernel
theorem f21_10 : q_fetch 21 10 = some (.if_icmp .ge (24), 3, 34) := by decide +kernel
theorem f21_13 : q_fetch 21 13 = some (.aload_n 0, 1, 0) := by decide +kernel
theorem f21_14 : q_fetch 21 14 = some (.getfield 9, 3, 1) := by decide +kernel
theorem f21_17 : q_fetch 21 17 = some (.aload_n 0, 1, 0) := by decide +kernel
theorem f21_18 : q_fetch 21 18 = some (.getfield 13, 3, 2) := by decide +kernel
theorem f21_21 : q_fetch 21 21 = some (.iload_n 1, 1, 0) := by decide +kernel
theorem f21_22 : q_fetch 21 22 = some (.i2c, 1, 0) := by decide +kernel
theorem f21_23 : q_fetch 21 23 = some (.castore, 1, 0) := by decide +kernel
theorem f21_24 : q_fetch 21 24 = some (.aload_n 0, 1, 0) := by decide +kernel
theorem f21_25 : q_fetch 21 25 = some (.dup, 1, 0) := by decide +kernel
theorem f21_26 : q_fetch 21 26 = some (.getfield 13, 3, 2) := by decide +kernel
theorem f21_29 : q_fetch 21 29 = some (.iconst 1, 1, 0) := by decide +kernel
theorem f21_30 : q_fetch 21 30 = some (.iadd, 1, 0) := by decide +kernel
theorem f21_31 : q_fetch 21 31 = some (.putfield 13, 3, 2) := by decide +kernel
theorem f21_34 : q_fetch 21 34 = some (.return_, 1, 0) := by decide +kernel
theorem f22_0 : q_fetch 22 0 = some (.aload_n 2, 1, 0) := by decide +kernel
theorem f22_1 : q_fetch 22 1 = some (.iconst 0, 1, 0) := by decide +kernel
theorem f22_2 : q_fetch 22 2 = some (.aload_n 0, 1, 0) := by decide +kernel
theorem f22_3 : q_fetch 22 3 = some (.iload_n 1, 1, 0) := by decide +kernel
theorem f22_4 : q_fetch 22 4 = some (.invokevirtual 17, 3, 23) := by decide +kernel
theorem f22_7 : q_fetch 22 7 = some (.i2l, 1, 0) := by decide +kernel
theorem f22_8 : q_fetch 22 8 = some (.lastore, 1, 0) := by decide +kernel
theorem f22_9 : q_fetch 22 9 = some (.goto 6, 3, 15) := by decide +kernel
theorem f22_12 : q_fetch 22 12 = some (.astore_n 3, 1, 0) := by decide +kernel
theorem f22_13 : q_fetch 22 13 = some (.iconst 1, 1, 0) := by decide +kernel
theorem f22_14 : q_fetch 22 14 = some (.ireturn, 1, 0) := by decide +kernel
theorem f22_15 : q_fetch 22 15 = some (.iconst 0, 1, 0) := by decide +kernel
theorem f22_16 : q_fetch 22 16 = some (.ireturn, 1, 0) := by decide +kernel
theorem f23_0 : q_fetch 23 0 = some (.aload_n 0, 1, 0) := by decide +kernel
theorem f23_1 : q_fetch 23 1 = some (.bipush (-2), 2, 0) := by decide +kernel
theorem f23_3 : q_fetch 23 3 = some (.putfield 17, 3, 4) := by decide +kernel
theorem f23_6 : q_fetch 23 6 = some (.iload_n 1, 1, 0) := by decide +kernel
theorem f23_7 : q_fetch 23 7 = some (.bipush 6, 2, 0) := by decide +kernel
theorem f23_9 : q_fetch 23 9 = some (.invokestatic 96, 3, 24) := by decide +kernel
theorem f23_12 : q_fetch 23 12 = some (.aload_n 0, 1, 0) := by decide +kernel
theorem f23_13 : q_fetch 23 13 = some (.aload_n 0, 1, 0) := by decide +kernel
theorem f23_14 : q_fetch 23 14 = some (.getfield 54, 3, 17) := by decide +kernel
theorem f23_17 : q_fetch 23 17 = some (.aload_n 0, 1, 0) := by decide +kernel
theorem f23_18 : q_fetch 23 18 = some (.getfield 31, 3, 11) := by decide +kernel
theorem f23_21 : q_fetch 23 21 = some (.aload_n 0, 1, 0) := by decide +kernel
theorem f23_22 : q_fetch 23 22 = some (.getfield 9, 3, 1) := by decide +kernel
theorem f23_25 : q_fetch 23 25 = some (.aload_n 0, 1, 0) := by decide +kernel
theorem f23_26 : q_fetch 23 26 = some (.getfield 13, 3, 2) := by decide +kernel
theorem f23_29 : q_fetch 23 29 = some (.invokevirtual 100, 3, 25) := by decide +kernel
theorem f23_32 : q_fetch 23 32 = some (.putfield 17, 3, 4) := by decide +kernel
theorem f23_35 : q_fetch 23 35 = some (.aload_n 0, 1, 0) := by decide +kernel
theorem f23_36 : q_fetch 23 36 = some (.iconst 0, 1, 0) := by decide +kernel
theorem f23_37 : q_fetch 23 37 = some (.putfield 13, 3, 2) := by decide +kernel
theorem f23_40 : q_fetch 23 40 = some (.aload_n 0, 1, 0) := by decide +kernel
theorem f23_41 : q_fetch 23 41 = some (.getfield 17, 3, 4) := by decide +kernel
theorem f23_44 : q_fetch 23 44 = some (.bipush (-2), 2, 0) := by decide +kernel
theorem f23_46 : q_fetch 23 46 = some (.if_icmp .eq (13), 3, 59) := by decide +kernel
theorem f23_49 : q_fetch 23 49 = some (.new 80, 3, 10) := by decide +kernel
theorem f23_52 : q_fetch 23 52 = some (.dup, 1, 0) := by decide +kernel
theorem f23_53 : q_fetch 23 53 = some (.ldc 104, 2, 43) := by decide +kernel
theorem f23_55 : q_fetch 23 55 = some (.invokespecial 84, 3, 5010) := by decide +kernel
theorem f23_58 : q_fetch 23 58 = some (.athrow, 1, 0) := by decide +kernel
theorem f23_59 : q_fetch 23 59 = some (.aload_n 0, 1, 0) := by decide +kernel
theorem f23_60 : q_fetch 23 60 = some (.getfield 22, 3, 7) := by decide +kernel
theorem f23_63 : q_fetch 23 63 = some (.iload_n 1, 1, 0) := by decide +kernel
theorem f23_64 : q_fetch 23 64 = some (.aaload, 1, 0) := by decide +kernel
theorem f23_65 : q_fetch 23 65 = some (.astore_n 2, 1, 0) := by decide +kernel
theorem f23_66 : q_fetch 23 66 = some (.aload_n 0, 1, 0) := by decide +kernel
theorem f23_67 : q_fetch 23 67 = some (.getfield 22, 3, 7) := by decide +kernel
theorem f23_70 : q_fetch 23 70 = some (.iload_n 1, 1, 0) := by decide +kernel
theorem f23_71 : q_fetch 23 71 = some (.aload_n 0, 1, 0) := by decide +kernel
theorem f23_72 : q_fetch 23 72 = some (.getfield 31, 3, 11) := by decide +kernel
theorem f23_75 : q_fetch 23 75 = some (.aastore, 1, 0) := by decide +kernel
theorem f23_76 : q_fetch 23 76 = some (.aload_n 0, 1, 0) := by decide +kernel
theorem f23_77 : q_fetch 23 77 = some (.getfield 22, 3, 7) := by decide +kernel
theorem f23_80 : q_fetch 23 80 = some (.iload_n 1, 1, 0) := by decide +kernel
theorem f23_81 : q_fetch 23 81 = some (.aaload, 1, 0) := by decide +kernel
theorem f23_82 : q_fetch 23 82 = some (.iconst 1, 1, 0) := by decide +kernel
theorem f23_83 : q_fetch 23 83 = some (.putfield 106, 3, 128) := by decide +kernel
theorem f23_86 : q_fetch 23 86 = some (.aload_n 0, 1, 0) := by decide +kernel
theorem f23_87 : q_fetch 23 87 = some (.aload_n 2, 1, 0) := by decide +kernel
theorem f23_88 : q_fetch 23 88 = some (.putfield 31, 3, 11) := by decide +kernel
theorem f23_91 : q_fetch 23 91 = some (.aload_n 0, 1, 0) := by decide +kernel
theorem f23_92 : q_fetch 23 92 = some (.getfield 22, 3, 7) := by decide +kernel
theorem f23_95 : q_fetch 23 95 = some (.iload_n 1, 1, 0) := by decide +kernel
theorem f23_96 : q_fetch 23 96 = some (.aaload, 1, 0) := by decide +kernel
theorem f23_97 : q_fetch 23 97 = some (.getfield 110, 3, 138) := by decide +kernel
theorem f23_100 : q_fetch 23 100 = some (.ireturn, 1, 0) := by decide +kernel
theorem f24_0 : q_fetch 24 0 = some (.iload_n 0, 1, 0) := by decide +kernel
theorem f24_1 : q_fetch 24 1 = some (.iload_n 1, 1, 0) := by decide +kernel
theorem f24_2 : q_fetch 24 2 = some (.invokestatic 188, 3, 11) := by decide +kernel
theorem f24_5 : q_fetch 24 5 = some (.ifCond .ne (13), 3, 18) := by decide +kernel
theorem f24_8 : q_fetch 24 8 = some (.new 80, 3, 10) := by decide +kernel
theorem f24_11 : q_fetch 24 11 = some (.dup, 1, 0) := by decide +kernel
theorem f24_12 : q_fetch 24 12 = some (.ldc 204, 2, 42) := by decide +kernel
theorem f24_14 : q_fetch 24 14 = some (.invokespecial 84, 3, 5010) := by decide +kernel
theorem f24_17 : q_fetch 24 17 = some (.athrow, 1, 0) := by decide +kernel
theorem f24_18 : q_fetch 24 18 = some (.return_, 1, 0) := by decide +kernel
theorem f25_0 : q_fetch 25 0 = some (.aload_n 0, 1, 0) := by decide +kernel
theorem f25_1 : q_fetch 25 1 = some (.getfield 12, 3, 641) := by decide +kernel
theorem f25_4 : q_fetch 25 4 = some (.aload_n 2, 1, 0) := by decide +kernel
theorem f25_5 : q_fetch 25 5 = some (.iload_n 3, 1, 0) := by decide +kernel
theorem f25_6 : q_fetch 25 6 = some (.invokevirtual 22, 3, 26) := by decide +kernel
theorem f25_9 : q_fetch 25 9 = some (.aload_n 0, 1, 0) := by decide +kernel
theorem f25_10 : q_fetch 25 10 = some (.aload_n 1, 1, 0) := by decide +kernel
theorem f25_11 : q_fetch 25 11 = some (.putfield 18, 3, 643) := by decide +kernel
theorem f25_14 : q_fetch 25 14 = some (.aload_n 0, 1, 0) := by decide +kernel
theorem f25_15 : q_fetch 25 15 = some (.getfield 18, 3, 643) := by decide +kernel
theorem f25_18 : q_fetch 25 18 = some (.invokevirtual 26, 3, 48) := by decide +kernel
theorem f25_21 : q_fetch 25 21 = some (.aload_n 0, 1, 0) := by decide +kernel
theorem f25_22 : q_fetch 25 22 = some (.invokevirtual 31, 3, 49) := by decide +kernel
theorem f25_25 : q_fetch 25 25 = some (.ifCond .eq (27), 3, 52) := by decide +kernel
theorem f25_28 : q_fetch 25 28 = some (.aload_n 0, 1, 0) := by decide +kernel
theorem f25_29 : q_fetch 25 29 = some (.invokevirtual 35, 3, 57) := by decide +kernel
theorem f25_32 : q_fetch 25 32 = some (.ifCond .eq (20), 3, 52) := by decide +kernel
theorem f25_35 : q_fetch 25 35 = some (.aload_n 0, 1, 0) := by decide +kernel
theorem f25_36 : q_fetch 25 36 = some (.getfield 18, 3, 643) := by decide +kernel
theorem f25_39 : q_fetch 25 39 = some (.aload_n 0, 1, 0) := by decide +kernel
theorem f25_40 : q_fetch 25 40 = some (.getfield 12, 3, 641) := by decide +kernel
theorem f25_43 : q_fetch 25 43 = some (.invokevirtual 38, 3, 72) := by decide +kernel
theorem f25_46 : q_fetch 25 46 = some (.putfield 42, 3, 138) := by decide +kernel
theorem f25_49 : q_fetch 25 49 = some (.bipush (-2), 2, 0) := by decide +kernel
theorem f25_51 : q_fetch 25 51 = some (.ireturn, 1, 0) := by decide +kernel
theorem f25_52 : q_fetch 25 52 = some (.aload_n 0, 1, 0) := by decide +kernel
theorem f25_53 : q_fetch 25 53 = some (.getfield 12, 3, 641) := by decide +kernel
theorem f25_56 : q_fetch 25 56 = some (.invokevirtual 46, 3, 59) := by decide +kernel
theorem f25_59 : q_fetch 25 59 = some (.ireturn, 1, 0) := by decide +kernel
theorem f26_0 : q_fetch 26 0 = some (.aload_n 0, 1, 0) := by decide +kernel
theorem f26_1 : q_fetch 26 1 = some (.aload_n 1, 1, 0) := by decide +kernel
theorem f26_2 : q_fetch 26 2 = some (.putfield 24, 3, 775) := by decide +kernel
theorem f26_5 : q_fetch 26 5 = some (.aload_n 0, 1, 0) := by decide +kernel
theorem f26_6 : q_fetch 26 6 = some (.iload_n 2, 1, 0) := by decide +kernel
theorem f26_7 : q_fetch 26 7 = some (.bipush 100, 2, 0) := by decide +kernel
theorem f26_9 : q_fetch 26 9 = some (.invokestatic 42, 3, 27) := by decide +kernel
theorem f26_12 : q_fetch 26 12 = some (.putfield 28, 3, 776) := by decide +kernel
theorem f26_15 : q_fetch 26 15 = some (.aload_n 0, 1, 0) := by decide +kernel
theorem f26_16 : q_fetch 26 16 = some (.iconst 0, 1, 0) := by decide +kernel
theorem f26_17 : q_fetch 26 17 = some (.putfield 35, 3, 780) := by decide +kernel
theorem f26_20 : q_fetch 26 20 = some (.aload_n 0, 1, 0) := by decide +kernel
theorem f26_21 : q_fetch 26 21 = some (.iconst 0, 1, 0) := by decide +kernel
theorem f26_22 : q_fetch 26 22 = some (.putfield 32, 3, 778) := by decide +kernel
theorem f26_25 : q_fetch 26 25 = some (.aload_n 0, 1, 0) := by decide +kernel
theorem f26_26 : q_fetch 26 26 = some (.iconst 0, 1, 0) := by decide +kernel
theorem f26_27 : q_fetch 26 27 = some (.invokevirtual 48, 3, 28) := by decide +kernel
theorem f26_30 : q_fetch 26 30 = some (.istore_n 3, 1, 0) := by decide +kernel
theorem f26_31 : q_fetch 26 31 = some (.iconst 0, 1, 0) := by decide +kernel
theorem f26_32 : q_fetch 26 32 = some (.istore 4, 2, 0) := by decide +kernel
theorem f26_34 : q_fetch 26 34 = some (.iload 4, 2, 0) := by decide +kernel
theorem f26_36 : q_fetch 26 36 = some (.bipush 100, 2, 0) := by decide +kernel
theorem f26_38 : q_fetch 26 38 = some (.if_icmp .ge (57), 3, 95) := by decide +kernel
theorem f26_41 : q_fetch 26 41 = some (.iload_n 3, 1, 0) := by decide +kernel
theorem f26_42 : q_fetch 26 42 = some (.aload_n 0, 1, 0) := by decide +kernel
theorem f26_43 : q_fetch 26 43 = some (.getfield 28, 3, 776) := by decide +kernel
theorem f26_46 : q_fetch 26 46 = some (.if_icmp .ge (49), 3, 95) := by decide +kernel
theorem f26_49 : q_fetch 26 49 = some (.aload_n 0, 1, 0) := by decide +kernel
theorem f26_50 : q_fetch 26 50 = some (.iload_n 3, 1, 0) := by decide +kernel
theorem f26_51 : q_fetch 26 51 = some (.invokevirtual 52, 3, 29) := by decide +kernel
theorem f26_54 : q_fetch 26 54 = some (.istore 5, 2, 0) := by decide +kernel
theorem f26_56 : q_fetch 26 56 = some (.aload_n 0, 1, 0) := by decide +kernel
theorem f26_57 : q_fetch 26 57 = some (.getfield 11, 3, 769) := by decide +kernel
theorem f26_60 : q_fetch 26 60 = some (.aload_n 0, 1, 0) := by decide +kernel
theorem f26_61 : q_fetch 26 61 = some (.getfield 32, 3, 778) := by decide +kernel
theorem f26_64 : q_fetch 26 64 = some (.aaload, 1, 0) := by decide +kernel
theorem f26_65 : q_fetch 26 65 = some (.getstatic 55, 3, 33) := by decide +kernel
theorem f26_68 : q_fetch 26 68 = some (.if_acmp .ne (4), 3, 72) := by decide +kernel
theorem f26_71 : q_fetch 26 71 = some (.return_, 1, 0) := by decide +kernel
theorem f26_72 : q_fetch 26 72 = some (.aload_n 0, 1, 0) := by decide +kernel
theorem f26_73 : q_fetch 26 73 = some (.dup, 1, 0) := by decide +kernel
theorem f26_74 : q_fetch 26 74 = some (.getfield 32, 3, 778) := by decide +kernel
theorem f26_77 : q_fetch 26 77 = some (.iconst 1, 1, 0) := by decide +kernel
theorem f26_78 : q_fetch 26 78 = some (.iadd, 1, 0) := by decide +kernel
theorem f26_79 : q_fetch 26 79 = some (.putfield 32, 3, 778) := by decide +kernel
theorem f26_82 : q_fetch 26 82 = some (.aload_n 0, 1, 0) := by decide +kernel
theorem f26_83 : q_fetch 26 83 = some (.iload 5, 2, 0) := by decide +kernel
theorem f26_85 : q_fetch 26 85 = some (.invokevirtual 48, 3, 28) := by decide +kernel
theorem f26_88 : q_fetch 26 88 = some (.istore_n 3, 1, 0) := by decide +kernel
theorem f26_89 : q_fetch 26 89 = some (.iinc 4 1, 3, 0) := by decide +kernel
theorem f26_92 : q_fetch 26 92 = some (.goto (-58), 3, 34) := by decide +kernel
theorem f26_95 : q_fetch 26 95 = some (.aload_n 0, 1, 0) := by decide +kernel
theorem f26_96 : q_fetch 26 96 = some (.getstatic 38, 3, 32) := by decide +kernel
theorem f26_99 : q_fetch 26 99 = some (.aload_n 0, 1, 0) := by decide +kernel
theorem f26_100 : q_fetch 26 100 = some (.getfield 28, 3, 776) := by decide +kernel
theorem f26_103 : q_fetch 26 103 = some (.iconst 0, 1, 0) := by decide +kernel
theorem f26_104 : q_fetch 26 104 = some (.invokevirtual 58, 3, 34) := by decide +kernel
theorem f26_107 : q_fetch 26 107 = some (.return_, 1, 0) := by decide +kernel
theorem f27_0 : q_fetch 27 0 = some (.iload_n 0, 1, 0) := by decide +kernel
theorem f27_1 : q_fetch 27 1 = some (.iload_n 1, 1, 0) := by decide +kernel
theorem f27_2 : q_fetch 27 2 = some (.if_icmp .gt (7), 3, 9) := by decide +kernel
theorem f27_5 : q_fetch 27 5 = some (.iload_n 0, 1, 0) := by decide +kernel
theorem f27_6 : q_fetch 27 6 = some (.goto 4, 3, 10) := by decide +kernel
theorem f27_9 : q_fetch 27 9 = some (.iload_n 1, 1, 0) := by decide +kernel
theorem f27_10 : q_fetch 27 10 = some (.ireturn, 1, 0) := by decide +kernel
theorem f28_0 : q_fetch 28 0 = some (.iload_n 1, 1, 0) := by decide +kernel
theorem f28_1 : q_fetch 28 1 = some (.istore_n 2, 1, 0) := by decide +kernel
theorem f28_2 : q_fetch 28 2 = some (.iload_n 2, 1, 0) := by decide +kernel
theorem f28_3 : q_fetch 28 3 = some (.aload_n 0, 1, 0) := by decide +kernel
theorem f28_4 : q_fetch 28 4 = some (.getfield 28, 3, 776) := by decide +kernel
theorem f28_7 : q_fetch 28 7 = some (.if_icmp .ge (20), 3, 27) := by decide +kernel
theorem f28_10 : q_fetch 28 10 = some (.aload_n 0, 1, 0) := by decide +kernel
theorem f28_11 : q_fetch 28 11 = some (.getfield 24, 3, 775) := by decide +kernel
theorem f28_14 : q_fetch 28 14 = some (.iload_n 2, 1, 0) := by decide +kernel
theorem f28_15 : q_fetch 28 15 = some (.caload, 1, 0) := by decide +kernel
theorem f28_16 : q_fetch 28 16 = some (.bipush 32, 2, 0) := by decide +kernel
theorem f28_18 : q_fetch 28 18 = some (.if_icmp .ne (9), 3, 27) := by decide +kernel
theorem f28_21 : q_fetch 28 21 = some (.iinc 2 1, 3, 0) := by decide +kernel
theorem f28_24 : q_fetch 28 24 = some (.goto (-22), 3, 2) := by decide +kernel
theorem f28_27 : q_fetch 28 27 = some (.iload_n 2, 1, 0) := by decide +kernel
theorem f28_28 : q_fetch 28 28 = some (.ireturn, 1, 0) := by decide +kernel
theorem f29_0 : q_fetch 29 0 = some (.aload_n 0, 1, 0) := by decide +kernel
theorem f29_1 : q_fetch 29 1 = some (.getfield 24, 3, 775) := by decide +kernel
theorem f29_4 : q_fetch 29 4 = some (.iload_n 1, 1, 0) := by decide +kernel
theorem f29_5 : q_fetch 29 5 = some (.caload, 1, 0) := by decide +kernel
theorem f29_6 : q_fetch 29 6 = some (.istore_n 2, 1, 0) := by decide +kernel
theorem f29_7 : q_fetch 29 7 = some (.iload_n 2, 1, 0) := by decide +kernel
theorem f29_8 : q_fetch 29 8 = some (.invokestatic 69, 3, 30) := by decide +kernel
theorem f29_11 : q_fetch 29 11 = some (.ifCond .eq (9), 3, 20) := by decide +kernel
theorem f29_14 : q_fetch 29 14 = some (.aload_n 0, 1, 0) := by decide +kernel
theorem f29_15 : q_fetch 29 15 = some (.iload_n 1, 1, 0) := by decide +kernel
theorem f29_16 : q_fetch 29 16 = some (.invokevirtual 73, 3, 31) := by decide +kernel
theorem f29_19 : q_fetch 29 19 = some (.ireturn, 1, 0) := by decide +kernel
theorem f29_20 : q_fetch 29 20 = some (.iload_n 2, 1, 0) := by decide +kernel
theorem f29_21 : q_fetch 29 21 = some (.bipush 64, 2, 0) := by decide +kernel
theorem f29_23 : q_fetch 29 23 = some (.if_icmp .ne (9), 3, 32) := by decide +kernel
theorem f29_26 : q_fetch 29 26 = some (.aload_n 0, 1, 0) := by decide +kernel
theorem f29_27 : q_fetch 29 27 = some (.iload_n 1, 1, 0) := by decide +kernel
theorem f29_28 : q_fetch 29 28 = some (.invokevirtual 76, 3, 35) := by decide +kernel
theorem f29_31 : q_fetch 29 31 = some (.ireturn, 1, 0) := by decide +kernel
theorem f29_32 : q_fetch 29 32 = some (.iload_n 2, 1, 0) := by decide +kernel
theorem f29_33 : q_fetch 29 33 = some (.invokestatic 79, 3, 36) := by decide +kernel
theorem f29_36 : q_fetch 29 36 = some (.ifCond .eq (11), 3, 47) := by decide +kernel
theorem f29_39 : q_fetch 29 39 = some (.aload_n 0, 1, 0) := by decide +kernel
theorem f29_40 : q_fetch 29 40 = some (.iload_n 1, 1, 0) := by decide +kernel
theorem f29_41 : q_fetch 29 41 = some (.invokevirtual 82, 3, 37) := by decide +kernel
theorem f29_44 : q_fetch 29 44 = some (.goto 8, 3, 52) := by decide +kernel
theorem f29_47 : q_fetch 29 47 = some (.aload_n 0, 1, 0) := by decide +kernel
theorem f29_48 : q_fetch 29 48 = some (.iload_n 1, 1, 0) := by decide +kernel
theorem f29_49 : q_fetch 29 49 = some (.invokevirtual 85, 3, 38) := by decide +kernel
theorem f29_52 : q_fetch 29 52 = some (.istore_n 3, 1, 0) := by decide +kernel
theorem f29_53 : q_fetch 29 53 = some (.aload_n 0, 1, 0) := by decide +kernel
theorem f29_54 : q_fetch 29 54 = some (.aload_n 0, 1, 0) := by decide +kernel
theorem f29_55 : q_fetch 29 55 = some (.getfield 24, 3, 775) := by decide +kernel
theorem f29_58 : q_fetch 29 58 = some (.iload_n 1, 1, 0) := by decide +kernel
theorem f29_59 : q_fetch 29 59 = some (.iload_n 3, 1, 0) := by decide +kernel
theorem f29_60 : q_fetch 29 60 = some (.invokestatic 88, 3, 39) := by decide +kernel
theorem f29_63 : q_fetch 29 63 = some (.iload_n 1, 1, 0) := by decide +kernel
theorem f29_64 : q_fetch 29 64 = some (.iconst 0, 1, 0) := by decide +kernel
theorem f29_65 : q_fetch 29 65 = some (.invokevirtual 58, 3, 34) := by decide +kernel
theorem f29_68 : q_fetch 29 68 = some (.iload_n 3, 1, 0) := by decide +kernel
theorem f29_69 : q_fetch 29 69 = some (.ireturn, 1, 0) := by decide +kernel
theorem f30_0 : q_fetch 30 0 = some (.iload_n 0, 1, 0) := by decide +kernel
theorem f30_1 : q_fetch 30 1 = some (.bipush 48, 2, 0) := by decide +kernel
theorem f30_3 : q_fetch 30 3 = some (.if_icmp .lt (13), 3, 16) := by decide +kernel
theorem f30_6 : q_fetch 30 6 = some (.iload_n 0, 1, 0) := by decide +kernel
theorem f30_7 : q_fetch 30 7 = some (.bipush 57, 2, 0) := by decide +kernel
theorem f30_9 : q_fetch 30 9 = some (.if_icmp .gt (7), 3, 16) := by decide +kernel
theorem f30_12 : q_fetch 30 12 = some (.iconst 1, 1, 0) := by decide +kernel
theorem f30_13 : q_fetch 30 13 = some (.goto 4, 3, 17) := by decide +kernel
theorem f30_16 : q_fetch 30 16 = some (.iconst 0, 1, 0) := by decide +kernel
theorem f30_17 : q_fetch 30 17 = some (.ireturn, 1, 0) := by decide +kernel
theorem f31_0 : q_fetch 31 0 = some (.aload_n 0, 1, 0) := by decide +kernel
theorem f31_1 : q_fetch 31 1 = some (.iload_n 1, 1, 0) := by decide +kernel
theorem f31_2 : q_fetch 31 2 = some (.invokevirtual 92, 3, 32) := by decide +kernel
theorem f31_5 : q_fetch 31 5 = some (.istore_n 2, 1, 0) := by decide +kernel
theorem f31_6 : q_fetch 31 6 = some (.iload_n 2, 1, 0) := by decide +kernel
theorem f31_7 : q_fetch 31 7 = some (.iload_n 1, 1, 0) := by decide +kernel
theorem f31_8 : q_fetch 31 8 = some (.isub, 1, 0) := by decide +kernel
theorem f31_9 : q_fetch 31 9 = some (.bipush 6, 2, 0) := by decide +kernel
theorem f31_11 : q_fetch 31 11 = some (.if_icmp .gt (7), 3, 18) := by decide +kernel
theorem f31_14 : q_fetch 31 14 = some (.iconst 1, 1, 0) := by decide +kernel
theorem f31_15 : q_fetch 31 15 = some (.goto 4, 3, 19) := by decide +kernel
theorem f31_18 : q_fetch 31 18 = some (.iconst 0, 1, 0) := by decide +kernel
theorem f31_19 : q_fetch 31 19 = some (.istore_n 3, 1, 0) := by decide +kernel
theorem f31_20 : q_fetch 31 20 = some (.aload_n 0, 1, 0) := by decide +kernel
theorem f31_21 : q_fetch 31 21 = some (.iload_n 3, 1, 0) := by decide +kernel
theorem f31_22 : q_fetch 31 22 = some (.ifCond .eq (9), 3, 31) := by decide +kernel
theorem f31_25 : q_fetch 31 25 = some (.getstatic 95, 3, 30) := by decide +kernel
theorem f31_28 : q_fetch 31 28 = some (.goto 6, 3, 34) := by decide +kernel
theorem f31_31 : q_fetch 31 31 = some (.getstatic 55, 3, 33) := by decide +kernel
theorem f31_34 : q_fetch 31 34 = some (.iload_n 1, 1, 0) := by decide +kernel
theorem f31_35 : q_fetch 31 35 = some (.iload_n 3, 1, 0) := by decide +kernel
theorem f31_36 : q_fetch 31 36 = some (.ifCond .eq (12), 3, 48) := by decide +kernel
theorem f31_39 : q_fetch 31 39 = some (.aload_n 0, 1, 0) := by decide +kernel
theorem f31_40 : q_fetch 31 40 = some (.iload_n 1, 1, 0) := by decide +kernel
theorem f31_41 : q_fetch 31 41 = some (.iload_n 2, 1, 0) := by decide +kernel
theorem f31_42 : q_fetch 31 42 = some (.invokevirtual 98, 3, 33) := by decide +kernel
theorem f31_45 : q_fetch 31 45 = some (.goto 4, 3, 49) := by decide +kernel
theorem f31_48 : q_fetch 31 48 = some (.iconst 0, 1, 0) := by decide +kernel
theorem f31_49 : q_fetch 31 49 = some (.invokevirtual 58, 3, 34) := by decide +kernel
theorem f31_52 : q_fetch 31 52 = some (.iload_n 2, 1, 0) := by decide +kernel
theorem f31_53 : q_fetch 31 53 = some (.ireturn, 1, 0) := by decide +kernel
theorem f32_0 : q_fetch 32 0 = some (.iload_n 1, 1, 0) := by decide +kernel
theorem f32_1 : q_fetch 32 1 = some (.istore_n 2, 1, 0) := by decide +kernel
theorem f32_2 : q_fetch 32 2 = some (.iload_n 2, 1, 0) := by decide +kernel
theorem f32_3 : q_fetch 32 3 = some (.aload_n 0, 1, 0) := by decide +kernel
theorem f32_4 : q_fetch 32 4 = some (.getfield 28, 3, 776) := by decide +kernel
theorem f32_7 : q_fetch 32 7 = some (.if_icmp .ge (21), 3, 28) := by decide +kernel
theorem f32_10 : q_fetch 32 10 = some (.aload_n 0, 1, 0) := by decide +kernel
theorem f32_11 : q_fetch 32 11 = some (.getfield 24, 3, 775) := by decide +kernel
theorem f32_14 : q_fetch 32 14 = some (.iload_n 2, 1, 0) := by decide +kernel
theorem f32_15 : q_fetch 32 15 = some (.caload, 1, 0) := by decide +kernel
theorem f32_16 : q_fetch 32 16 = some (.invokestatic 69, 3, 30) := by decide +kernel
theorem f32_19 : q_fetch 32 19 = some (.ifCond .eq (9), 3, 28) := by decide +kernel
theorem f32_22 : q_fetch 32 22 = some (.iinc 2 1, 3, 0) := by decide +kernel
theorem f32_25 : q_fetch 32 25 = some (.goto (-23), 3, 2) := by decide +kernel
theorem f32_28 : q_fetch 32 28 = some (.iload_n 2, 1, 0) := by decide +kernel
theorem f32_29 : q_fetch 32 29 = some (.ireturn, 1, 0) := by decide +kernel
theorem f33_0 : q_fetch 33 0 = some (.iconst 0, 1, 0) := by decide +kernel
theorem f33_1 : q_fetch 33 1 = some (.istore_n 3, 1, 0) := by decide +kernel
theorem f33_2 : q_fetch 33 2 = some (.iload_n 1, 1, 0) := by decide +kernel
theorem f33_3 : q_fetch 33 3 = some (.istore 4, 2, 0) := by decide +kernel
theorem f33_5 : q_fetch 33 5 = some (.iload 4, 2, 0) := by decide +kernel
theorem f33_7 : q_fetch 33 7 = some (.iload_n 2, 1, 0) := by decide +kernel
theorem f33_8 : q_fetch 33 8 = some (.if_icmp .ge (25), 3, 33) := by decide +kernel
theorem f33_11 : q_fetch 33 11 = some (.iload_n 3, 1, 0) := by decide +kernel
theorem f33_12 : q_fetch 33 12 = some (.bipush 10, 2, 0) := by decide +kernel
theorem f33_14 : q_fetch 33 14 = some (.imul, 1, 0) := by decide +kernel
theorem f33_15 : q_fetch 33 15 = some (.aload_n 0, 1, 0) := by decide +kernel
theorem f33_16 : q_fetch 33 16 = some (.getfield 24, 3, 775) := by decide +kernel
theorem f33_19 : q_fetch 33 19 = some (.iload 4, 2, 0) := by decide +kernel
theorem f33_21 : q_fetch 33 21 = some (.caload, 1, 0) := by decide +kernel
theorem f33_22 : q_fetch 33 22 = some (.bipush 48, 2, 0) := by decide +kernel
theorem f33_24 : q_fetch 33 24 = some (.isub, 1, 0) := by decide +kernel
theorem f33_25 : q_fetch 33 25 = some (.iadd, 1, 0) := by decide +kernel
theorem f33_26 : q_fetch 33 26 = some (.istore_n 3, 1, 0) := by decide +kernel
theorem f33_27 : q_fetch 33 27 = some (.iinc 4 1, 3, 0) := by decide +kernel
theorem f33_30 : q_fetch 33 30 = some (.goto (-25), 3, 5) := by decide +kernel
theorem f33_33 : q_fetch 33 33 = some (.iload_n 3, 1, 0) := by decide +kernel
theorem f33_34 : q_fetch 33 34 = some (.ireturn, 1, 0) := by decide +kernel
theorem f34_0 : q_fetch 34 0 = some (.aload_n 0, 1, 0) := by decide +kernel
theorem f34_1 : q_fetch 34 1 = some (.getfield 11, 3, 769) := by decide +kernel
theorem f34_4 : q_fetch 34 4 = some (.aload_n 0, 1, 0) := by decide +kernel
theorem f34_5 : q_fetch 34 5 = some (.getfield 32, 3, 778) := by decide +kernel
theorem f34_8 : q_fetch 34 8 = some (.aload_n 1, 1, 0) := by decide +kernel
theorem f34_9 : q_fetch 34 9 = some (.aastore, 1, 0) := by decide +kernel
theorem f34_10 : q_fetch 34 10 = some (.aload_n 0, 1, 0) := by decide +kernel
theorem f34_11 : q_fetch 34 11 = some (.getfield 17, 3, 771) := by decide +kernel
theorem f34_14 : q_fetch 34 14 = some (.aload_n 0, 1, 0) := by decide +kernel
theorem f34_15 : q_fetch 34 15 = some (.getfield 32, 3, 778) := by decide +kernel
theorem f34_18 : q_fetch 34 18 = some (.iload_n 2, 1, 0) := by decide +kernel
theorem f34_19 : q_fetch 34 19 = some (.iastore, 1, 0) := by decide +kernel
theorem f34_20 : q_fetch 34 20 = some (.aload_n 0, 1, 0) := by decide +kernel
theorem f34_21 : q_fetch 34 21 = some (.getfield 21, 3, 773) := by decide +kernel
theorem f34_24 : q_fetch 34 24 = some (.aload_n 0, 1, 0) := by decide +kernel
theorem f34_25 : q_fetch 34 25 = some (.getfield 32, 3, 778) := by decide +kernel
theorem f34_28 : q_fetch 34 28 = some (.iload_n 3, 1, 0) := by decide +kernel
theorem f34_29 : q_fetch 34 29 = some (.iastore, 1, 0) := by decide +kernel
theorem f34_30 : q_fetch 34 30 = some (.return_, 1, 0) := by decide +kernel
theorem f35_0 : q_fetch 35 0 = some (.aload_n 0, 1, 0) := by decide +kernel
theorem f35_1 : q_fetch 35 1 = some (.iload_n 1, 1, 0) := by decide +kernel
theorem f35_2 : q_fetch 35 2 = some (.iconst 1, 1, 0) := by decide +kernel
theorem f35_3 : q_fetch 35 3 = some (.iadd, 1, 0) := by decide +kernel
theorem f35_4 : q_fetch 35 4 = some (.invokevirtual 92, 3, 32) := by decide +kernel
theorem f35_7 : q_fetch 35 7 = some (.istore_n 2, 1, 0) := by decide +kernel
theorem f35_8 : q_fetch 35 8 = some (.iload_n 2, 1, 0) := by decide +kernel
theorem f35_9 : q_fetch 35 9 = some (.iload_n 1, 1, 0) := by decide +kernel
theorem f35_10 : q_fetch 35 10 = some (.isub, 1, 0) := by decide +kernel
theorem f35_11 : q_fetch 35 11 = some (.iconst 1, 1, 0) := by decide +kernel
theorem f35_12 : q_fetch 35 12 = some (.isub, 1, 0) := by decide +kernel
theorem f35_13 : q_fetch 35 13 = some (.istore_n 3, 1, 0) := by decide +kernel
theorem f35_14 : q_fetch 35 14 = some (.iload_n 3, 1, 0) := by decide +kernel
theorem f35_15 : q_fetch 35 15 = some (.iconst 2, 1, 0) := by decide +kernel
theorem f35_16 : q_fetch 35 16 = some (.if_icmp .gt (14), 3, 30) := by decide +kernel
theorem f35_19 : q_fetch 35 19 = some (.aload_n 0, 1, 0) := by decide +kernel
theorem f35_20 : q_fetch 35 20 = some (.iload_n 1, 1, 0) := by decide +kernel
theorem f35_21 : q_fetch 35 21 = some (.iconst 1, 1, 0) := by decide +kernel
theorem f35_22 : q_fetch 35 22 = some (.iadd, 1, 0) := by decide +kernel
theorem f35_23 : q_fetch 35 23 = some (.iload_n 2, 1, 0) := by decide +kernel
theorem f35_24 : q_fetch 35 24 = some (.invokevirtual 98, 3, 33) := by decide +kernel
theorem f35_27 : q_fetch 35 27 = some (.goto 5, 3, 32) := by decide +kernel
theorem f35_30 : q_fetch 35 30 = some (.bipush 16, 2, 0) := by decide +kernel
theorem f35_32 : q_fetch 35 32 = some (.istore 4, 2, 0) := by decide +kernel
theorem f35_34 : q_fetch 35 34 = some (.iload_n 3, 1, 0) := by decide +kernel
theorem f35_35 : q_fetch 35 35 = some (.ifCond .le (14), 3, 49) := by decide +kernel
theorem f35_38 : q_fetch 35 38 = some (.iload 4, 2, 0) := by decide +kernel
theorem f35_40 : q_fetch 35 40 = some (.bipush 16, 2, 0) := by decide +kernel
theorem f35_42 : q_fetch 35 42 = some (.if_icmp .ge (7), 3, 49) := by decide +kernel
theorem f35_45 : q_fetch 35 45 = some (.iconst 1, 1, 0) := by decide +kernel
theorem f35_46 : q_fetch 35 46 = some (.goto 4, 3, 50) := by decide +kernel
theorem f35_49 : q_fetch 35 49 = some (.iconst 0, 1, 0) := by decide +kernel
theorem f35_50 : q_fetch 35 50 = some (.istore 5, 2, 0) := by decide +kernel
theorem f35_52 : q_fetch 35 52 = some (.aload_n 0, 1, 0) := by decide +kernel
theorem f35_53 : q_fetch 35 53 = some (.iload 5, 2, 0) := by decide +kernel
theorem f35_55 : q_fetch 35 55 = some (.ifCond .eq (9), 3, 64) := by decide +kernel
theorem f35_58 : q_fetch 35 58 = some (.getstatic 101, 3, 31) := by decide +kernel
theorem f35_61 : q_fetch 35 61 = some (.goto 6, 3, 67) := by decide +kernel
theorem f35_64 : q_fetch 35 64 = some (.getstatic 55, 3, 33) := by decide +kernel
theorem f35_67 : q_fetch 35 67 = some (.iload_n 1, 1, 0) := by decide +kernel
theorem f35_68 : q_fetch 35 68 = some (.iload 5, 2, 0) := by decide +kernel
theorem f35_70 : q_fetch 35 70 = some (.ifCond .eq (8), 3, 78) := by decide +kernel
theorem f35_73 : q_fetch 35 73 = some (.iload 4, 2, 0) := by decide +kernel
theorem f35_75 : q_fetch 35 75 = some (.goto 4, 3, 79) := by decide +kernel
theorem f35_78 : q_fetch 35 78 = some (.iconst 0, 1, 0) := by decide +kernel
theorem f35_79 : q_fetch 35 79 = some (.invokevirtual 58, 3, 34) := by decide +kernel
theorem f35_82 : q_fetch 35 82 = some (.iload_n 2, 1, 0) := by decide +kernel
theorem f35_83 : q_fetch 35 83 = some (.ireturn, 1, 0) := by decide +kernel
theorem f36_0 : q_fetch 36 0 = some (.iload_n 0, 1, 0) := by decide +kernel
theorem f36_1 : q_fetch 36 1 = some (.bipush 97, 2, 0) := by decide +kernel
theorem f36_3 : q_fetch 36 3 = some (.if_icmp .lt (13), 3, 16) := by decide +kernel
theorem f36_6 : q_fetch 36 6 = some (.iload_n 0, 1, 0) := by decide +kernel
theorem f36_7 : q_fetch 36 7 = some (.bipush 122, 2, 0) := by decide +kernel
theorem f36_9 : q_fetch 36 9 = some (.if_icmp .gt (7), 3, 16) := by decide +kernel
theorem f36_12 : q_fetch 36 12 = some (.iconst 1, 1, 0) := by decide +kernel
theorem f36_13 : q_fetch 36 13 = some (.goto 4, 3, 17) := by decide +kernel
theorem f36_16 : q_fetch 36 16 = some (.iconst 0, 1, 0) := by decide +kernel
theorem f36_17 : q_fetch 36 17 = some (.ireturn, 1, 0) := by decide +kernel
theorem f37_0 : q_fetch 37 0 = some (.iload_n 1, 1, 0) := by decide +kernel
theorem f37_1 : q_fetch 37 1 = some (.istore_n 2, 1, 0) := by decide +kernel
theorem f37_2 : q_fetch 37 2 = some (.iload_n 2, 1, 0) := by decide +kernel
theorem f37_3 : q_fetch 37 3 = some (.aload_n 0, 1, 0) := by decide +kernel
theorem f37_4 : q_fetch 37 4 = some (.getfield 28, 3, 776) := by decide +kernel
theorem f37_7 : q_fetch 37 7 = some (.if_icmp .ge (21), 3, 28) := by decide +kernel
theorem f37_10 : q_fetch 37 10 = some (.aload_n 0, 1, 0) := by decide +kernel
theorem f37_11 : q_fetch 37 11 = some (.getfield 24, 3, 775) := by decide +kernel
theorem f37_14 : q_fetch 37 14 = some (.iload_n 2, 1, 0) := by decide +kernel
theorem f37_15 : q_fetch 37 15 = some (.caload, 1, 0) := by decide +kernel
theorem f37_16 : q_fetch 37 16 = some (.invokestatic 79, 3, 36) := by decide +kernel
theorem f37_19 : q_fetch 37 19 = some (.ifCond .eq (9), 3, 28) := by decide +kernel
theorem f37_22 : q_fetch 37 22 = some (.iinc 2 1, 3, 0) := by decide +kernel
theorem f37_25 : q_fetch 37 25 = some (.goto (-23), 3, 2) := by decide +kernel
theorem f37_28 : q_fetch 37 28 = some (.iload_n 2, 1, 0) := by decide +kernel
theorem f37_29 : q_fetch 37 29 = some (.ireturn, 1, 0) := by decide +kernel
theorem f38_0 : q_fetch 38 0 = some (.iload_n 1, 1, 0) := by decide +kernel
theorem f38_1 : q_fetch 38 1 = some (.iconst 2, 1, 0) := by decide +kernel
theorem f38_2 : q_fetch 38 2 = some (.iadd, 1, 0) := by decide +kernel
theorem f38_3 : q_fetch 38 3 = some (.aload_n 0, 1, 0) := by decide +kernel
theorem f38_4 : q_fetch 38 4 = some (.getfield 28, 3, 776) := by decide +kernel
theorem f38_7 : q_fetch 38 7 = some (.if_icmp .gt (24), 3, 31) := by decide +kernel
theorem f38_10 : q_fetch 38 10 = some (.aload_n 0, 1, 0) := by decide +kernel
theorem f38_11 : q_fetch 38 11 = some (.getfield 24, 3, 775) := by decide +kernel
theorem f38_14 : q_fetch 38 14 = some (.iload_n 1, 1, 0) := by decide +kernel
theorem f38_15 : q_fetch 38 15 = some (.iload_n 1, 1, 0) := by decide +kernel
theorem f38_16 : q_fetch 38 16 = some (.iconst 2, 1, 0) := by decide +kernel
theorem f38_17 : q_fetch 38 17 = some (.iadd, 1, 0) := by decide +kernel
theorem f38_18 : q_fetch 38 18 = some (.invokestatic 88, 3, 39) := by decide +kernel
theorem f38_21 : q_fetch 38 21 = some (.getstatic 55, 3, 33) := by decide +kernel
theorem f38_24 : q_fetch 38 24 = some (.if_acmp .eq (7), 3, 31) := by decide +kernel
theorem f38_27 : q_fetch 38 27 = some (.iconst 1, 1, 0) := by decide +kernel
theorem f38_28 : q_fetch 38 28 = some (.goto 4, 3, 32) := by decide +kernel
theorem f38_31 : q_fetch 38 31 = some (.iconst 0, 1, 0) := by decide +kernel
theorem f38_32 : q_fetch 38 32 = some (.istore_n 2, 1, 0) := by decide +kernel
theorem f38_33 : q_fetch 38 33 = some (.iload_n 2, 1, 0) := by decide +kernel
theorem f38_34 : q_fetch 38 34 = some (.ifCond .eq (9), 3, 43) := by decide +kernel
theorem f38_37 : q_fetch 38 37 = some (.iload_n 1, 1, 0) := by decide +kernel
theorem f38_38 : q_fetch 38 38 = some (.iconst 2, 1, 0) := by decide +kernel
theorem f38_39 : q_fetch 38 39 = some (.iadd, 1, 0) := by decide +kernel
theorem f38_40 : q_fetch 38 40 = some (.goto 6, 3, 46) := by decide +kernel
theorem f38_43 : q_fetch 38 43 = some (.iload_n 1, 1, 0) := by decide +kernel
theorem f38_44 : q_fetch 38 44 = some (.iconst 1, 1, 0) := by decide +kernel
theorem f38_45 : q_fetch 38 45 = some (.iadd, 1, 0) := by decide +kernel
theorem f38_46 : q_fetch 38 46 = some (.ireturn, 1, 0) := by decide +kernel
theorem f39_0 : q_fetch 39 0 = some (.iconst 0, 1, 0) := by decide +kernel
theorem f39_1 : q_fetch 39 1 = some (.istore_n 3, 1, 0) := by decide +kernel
theorem f39_2 : q_fetch 39 2 = some (.iload_n 3, 1, 0) := by decide +kernel
theorem f39_3 : q_fetch 39 3 = some (.getstatic 136, 3, 34) := by decide +kernel
theorem f39_6 : q_fetch 39 6 = some (.arraylength, 1, 0) := by decide +kernel
theorem f39_7 : q_fetch 39 7 = some (.if_icmp .ge (34), 3, 41) := by decide +kernel
theorem f39_10 : q_fetch 39 10 = some (.iload_n 1, 1, 0) := by decide +kernel
theorem f39_11 : q_fetch 39 11 = some (.iload_n 2, 1, 0) := by decide +kernel
theorem f39_12 : q_fetch 39 12 = some (.if_icmp .ge (23), 3, 35) := by decide +kernel
theorem f39_15 : q_fetch 39 15 = some (.getstatic 136, 3, 34) := by decide +kernel
theorem f39_18 : q_fetch 39 18 = some (.iload_n 3, 1, 0) := by decide +kernel
theorem f39_19 : q_fetch 39 19 = some (.aaload, 1, 0) := by decide +kernel
theorem f39_20 : q_fetch 39 20 = some (.aload_n 0, 1, 0) := by decide +kernel
theorem f39_21 : q_fetch 39 21 = some (.iload_n 1, 1, 0) := by decide +kernel
theorem f39_22 : q_fetch 39 22 = some (.iload_n 2, 1, 0) := by decide +kernel
theorem f39_23 : q_fetch 39 23 = some (.invokevirtual 139, 3, 40) := by decide +kernel
theorem f39_26 : q_fetch 39 26 = some (.ifCond .eq (9), 3, 35) := by decide +kernel
theorem f39_29 : q_fetch 39 29 = some (.getstatic 136, 3, 34) := by decide +kernel
theorem f39_32 : q_fetch 39 32 = some (.iload_n 3, 1, 0) := by decide +kernel
theorem f39_33 : q_fetch 39 33 = some (.aaload, 1, 0) := by decide +kernel
theorem f39_34 : q_fetch 39 34 = some (.areturn, 1, 0) := by decide +kernel
theorem f39_35 : q_fetch 39 35 = some (.iinc 3 1, 3, 0) := by decide +kernel
theorem f39_38 : q_fetch 39 38 = some (.goto (-36), 3, 2) := by decide +kernel
theorem f39_41 : q_fetch 39 41 = some (.getstatic 103, 3, 33) := by decide +kernel
theorem f39_44 : q_fetch 39 44 = some (.areturn, 1, 0) := by decide +kernel
theorem f40_0 : q_fetch 40 0 = some (.iload_n 3, 1, 0) := by decide +kernel
theorem f40_1 : q_fetch 40 1 = some (.aload_n 1, 1, 0) := by decide +kernel
theorem f40_2 : q_fetch 40 2 = some (.arraylength, 1, 0) := by decide +kernel
theorem f40_3 : q_fetch 40 3 = some (.if_icmp .gt (16), 3, 19) := by decide +kernel
theorem f40_6 : q_fetch 40 6 = some (.iload_n 3, 1, 0) := by decide +kernel
theorem f40_7 : q_fetch 40 7 = some (.iload_n 2, 1, 0) := by decide +kernel
theorem f40_8 : q_fetch 40 8 = some (.isub, 1, 0) := by decide +kernel
theorem f40_9 : q_fetch 40 9 = some (.aload_n 0, 1, 0) := by decide +kernel
theorem f40_10 : q_fetch 40 10 = some (.getfield 128, 3, 1923) := by decide +kernel
theorem f40_13 : q_fetch 40 13 = some (.invokevirtual 143, 3, 41) := by decide +kernel
theorem f40_16 : q_fetch 40 16 = some (.if_icmp .eq (5), 3, 21) := by decide +kernel
theorem f40_19 : q_fetch 40 19 = some (.iconst 0, 1, 0) := by decide +kernel
theorem f40_20 : q_fetch 40 20 = some (.ireturn, 1, 0) := by decide +kernel
theorem f40_21 : q_fetch 40 21 = some (.iconst 0, 1, 0) := by decide +kernel
theorem f40_22 : q_fetch 40 22 = some (.istore 4, 2, 0) := by decide +kernel
theorem f40_24 : q_fetch 40 24 = some (.iload 4, 2, 0) := by decide +kernel
theorem f40_26 : q_fetch 40 26 = some (.aload_n 0, 1, 0) := by decide +kernel
theorem f40_27 : q_fetch 40 27 = some (.getfield 128, 3, 1923) := by decide +kernel
theorem f40_30 : q_fetch 40 30 = some (.invokevirtual 143, 3, 41) := by decide +kernel
theorem f40_33 : q_fetch 40 33 = some (.if_icmp .ge (29), 3, 62) := by decide +kernel
theorem f40_36 : q_fetch 40 36 = some (.aload_n 1, 1, 0) := by decide +kernel
theorem f40_37 : q_fetch 40 37 = some (.iload_n 2, 1, 0) := by decide +kernel
theorem f40_38 : q_fetch 40 38 = some (.iload 4, 2, 0) := by decide +kernel
theorem f40_40 : q_fetch 40 40 = some (.iadd, 1, 0) := by decide +kernel
theorem f40_41 : q_fetch 40 41 = some (.caload, 1, 0) := by decide +kernel
theorem f40_42 : q_fetch 40 42 = some (.aload_n 0, 1, 0) := by decide +kernel
theorem f40_43 : q_fetch 40 43 = some (.getfield 128, 3, 1923) := by decide +kernel
theorem f40_46 : q_fetch 40 46 = some (.iload 4, 2, 0) := by decide +kernel
theorem f40_48 : q_fetch 40 48 = some (.invokevirtual 149, 3, 43) := by decide +kernel
theorem f40_51 : q_fetch 40 51 = some (.if_icmp .eq (5), 3, 56) := by decide +kernel
theorem f40_54 : q_fetch 40 54 = some (.iconst 0, 1, 0) := by decide +kernel
theorem f40_55 : q_fetch 40 55 = some (.ireturn, 1, 0) := by decide +kernel
theorem f40_56 : q_fetch 40 56 = some (.iinc 4 1, 3, 0) := by decide +kernel
theorem f40_59 : q_fetch 40 59 = some (.goto (-35), 3, 24) := by decide +kernel
theorem f40_62 : q_fetch 40 62 = some (.iconst 1, 1, 0) := by decide +kernel
theorem f40_63 : q_fetch 40 63 = some (.ireturn, 1, 0) := by decide +kernel
theorem f41_0 : q_fetch 41 0 = some (.aload_n 0, 1, 0) := by decide +kernel
theorem f41_1 : q_fetch 41 1 = some (.getfield 9, 3, 2049) := by decide +kernel
theorem f41_4 : q_fetch 41 4 = some (.arraylength, 1, 0) := by decide +kernel
theorem f41_5 : q_fetch 41 5 = some (.aload_n 0, 1, 0) := by decide +kernel
theorem f41_6 : q_fetch 41 6 = some (.invokevirtual 335, 3, 42) := by decide +kernel
theorem f41_9 : q_fetch 41 9 = some (.ishr, 1, 0) := by decide +kernel
theorem f41_10 : q_fetch 41 10 = some (.ireturn, 1, 0) := by decide +kernel
theorem f42_0 : q_fetch 42 0 = some (.getstatic 38, 3, 36) := by decide +kernel
theorem f42_3 : q_fetch 42 3 = some (.ifCond .eq (10), 3, 13) := by decide +kernel
theorem f42_6 : q_fetch 42 6 = some (.aload_n 0, 1, 0) := by decide +kernel
theorem f42_7 : q_fetch 42 7 = some (.getfield 15, 3, 2050) := by decide +kernel
theorem f42_10 : q_fetch 42 10 = some (.goto 4, 3, 14) := by decide +kernel
theorem f42_13 : q_fetch 42 13 = some (.iconst 1, 1, 0) := by decide +kernel
theorem f42_14 : q_fetch 42 14 = some (.ireturn, 1, 0) := by decide +kernel
theorem f43_0 : q_fetch 43 0 = some (.aload_n 0, 1, 0) := by decide +kernel
theorem f43_1 : q_fetch 43 1 = some (.invokevirtual 492, 3, 44) := by decide +kernel
theorem f43_4 : q_fetch 43 4 = some (.ifCond .eq (12), 3, 16) := by decide +kernel
theorem f43_7 : q_fetch 43 7 = some (.aload_n 0, 1, 0) := by decide +kernel
theorem f43_8 : q_fetch 43 8 = some (.getfield 9, 3, 2049) := by decide +kernel
theorem f43_11 : q_fetch 43 11 = some (.iload_n 1, 1, 0) := by decide +kernel
theorem f43_12 : q_fetch 43 12 = some (.invokestatic 495, 3, 45) := by decide +kernel
theorem f43_15 : q_fetch 43 15 = some (.ireturn, 1, 0) := by decide +kernel
theorem f43_16 : q_fetch 43 16 = some (.aload_n 0, 1, 0) := by decide +kernel
theorem f43_17 : q_fetch 43 17 = some (.getfield 9, 3, 2049) := by decide +kernel
theorem f43_20 : q_fetch 43 20 = some (.iload_n 1, 1, 0) := by decide +kernel
theorem f43_21 : q_fetch 43 21 = some (.invokestatic 498, 3, 9998) := by decide +kernel
theorem f43_24 : q_fetch 43 24 = some (.ireturn, 1, 0) := by decide +kernel
theorem f44_0 : q_fetch 44 0 = some (.getstatic 38, 3, 36) := by decide +kernel
theorem f44_3 : q_fetch 44 3 = some (.ifCond .eq (14), 3, 17) := by decide +kernel
theorem f44_6 : q_fetch 44 6 = some (.aload_n 0, 1, 0) := by decide +kernel
theorem f44_7 : q_fetch 44 7 = some (.getfield 15, 3, 2050) := by decide +kernel
theorem f44_10 : q_fetch 44 10 = some (.ifCond .ne (7), 3, 17) := by decide +kernel
theorem f44_13 : q_fetch 44 13 = some (.iconst 1, 1, 0) := by decide +kernel
theorem f44_14 : q_fetch 44 14 = some (.goto 4, 3, 18) := by decide +kernel
theorem f44_17 : q_fetch 44 17 = some (.iconst 0, 1, 0) := by decide +kernel
theorem f44_18 : q_fetch 44 18 = some (.ireturn, 1, 0) := by decide +kernel
theorem f45_0 : q_fetch 45 0 = some (.iload_n 1, 1, 0) := by decide +kernel
theorem f45_1 : q_fetch 45 1 = some (.aload_n 0, 1, 0) := by decide +kernel
theorem f45_2 : q_fetch 45 2 = some (.arraylength, 1, 0) := by decide +kernel
theorem f45_3 : q_fetch 45 3 = some (.invokestatic 9, 3, 46) := by decide +kernel
theorem f45_6 : q_fetch 45 6 = some (.aload_n 0, 1, 0) := by decide +kernel
theorem f45_7 : q_fetch 45 7 = some (.iload_n 1, 1, 0) := by decide +kernel
theorem f45_8 : q_fetch 45 8 = some (.baload, 1, 0) := by decide +kernel
theorem f45_9 : q_fetch 45 9 = some (.sipush 255, 3, 0) := by decide +kernel
theorem f45_12 : q_fetch 45 12 = some (.iand, 1, 0) := by decide +kernel
theorem f45_13 : q_fetch 45 13 = some (.i2c, 1, 0) := by decide +kernel
theorem f45_14 : q_fetch 45 14 = some (.ireturn, 1, 0) := by decide +kernel
theorem f46_0 : q_fetch 46 0 = some (.iload_n 0, 1, 0) := by decide +kernel
theorem f46_1 : q_fetch 46 1 = some (.iload_n 1, 1, 0) := by decide +kernel
theorem f46_2 : q_fetch 46 2 = some (.getstatic 1053, 3, 37) := by decide +kernel
theorem f46_5 : q_fetch 46 5 = some (.invokestatic 1059, 3, 47) := by decide +kernel
theorem f46_8 : q_fetch 46 8 = some (.pop, 1, 0) := by decide +kernel
theorem f46_9 : q_fetch 46 9 = some (.return_, 1, 0) := by decide +kernel
theorem f47_0 : q_fetch 47 0 = some (.iload_n 0, 1, 0) := by decide +kernel
theorem f47_1 : q_fetch 47 1 = some (.ifCond .lt (8), 3, 9) := by decide +kernel
theorem f47_4 : q_fetch 47 4 = some (.iload_n 0, 1, 0) := by decide +kernel
theorem f47_5 : q_fetch 47 5 = some (.iload_n 1, 1, 0) := by decide +kernel
theorem f47_6 : q_fetch 47 6 = some (.if_icmp .lt (10), 3, 16) := by decide +kernel
theorem f47_9 : q_fetch 47 9 = some (.aload_n 2, 1, 0) := by decide +kernel
theorem f47_10 : q_fetch 47 10 = some (.iload_n 0, 1, 0) := by decide +kernel
theorem f47_11 : q_fetch 47 11 = some (.iload_n 1, 1, 0) := by decide +kernel
theorem f47_12 : q_fetch 47 12 = some (.invokestatic 95, 3, 9998) := by decide +kernel
theorem f47_15 : q_fetch 47 15 = some (.athrow, 1, 0) := by decide +kernel
theorem f47_16 : q_fetch 47 16 = some (.iload_n 0, 1, 0) := by decide +kernel
theorem f47_17 : q_fetch 47 17 = some (.ireturn, 1, 0) := by decide +kernel
theorem f48_0 : q_fetch 48 0 = some (.aload_n 0, 1, 0) := by decide +kernel
theorem f48_1 : q_fetch 48 1 = some (.iconst 0, 1, 0) := by decide +kernel
theorem f48_2 : q_fetch 48 2 = some (.putfield 35, 3, 140) := by decide +kernel
theorem f48_5 : q_fetch 48 5 = some (.aload_n 0, 1, 0) := by decide +kernel
theorem f48_6 : q_fetch 48 6 = some (.iconst 0, 1, 0) := by decide +kernel
theorem f48_7 : q_fetch 48 7 = some (.putfield 49, 3, 148) := by decide +kernel
theorem f48_10 : q_fetch 48 10 = some (.return_, 1, 0) := by decide +kernel
theorem f49_0 : q_fetch 49 0 = some (.aload_n 0, 1, 0) := by decide +kernel
theorem f49_1 : q_fetch 49 1 = some (.getfield 18, 3, 643) := by decide +kernel
theorem f49_4 : q_fetch 49 4 = some (.aload_n 0, 1, 0) := by decide +kernel
theorem f49_5 : q_fetch 49 5 = some (.getfield 12, 3, 641) := by decide +kernel
theorem f49_8 : q_fetch 49 8 = some (.invokevirtual 49, 3, 50) := by decide +kernel
theorem f49_11 : q_fetch 49 11 = some (.getstatic 53, 3, 0) := by decide +kernel
theorem f49_14 : q_fetch 49 14 = some (.if_acmp .ne (7), 3, 21) := by decide +kernel
theorem f49_17 : q_fetch 49 17 = some (.iconst 1, 1, 0) := by decide +kernel
theorem f49_18 : q_fetch 49 18 = some (.goto 4, 3, 22) := by decide +kernel
theorem f49_21 : q_fetch 49 21 = some (.iconst 0, 1, 0) := by decide +kernel
theorem f49_22 : q_fetch 49 22 = some (.putfield 59, 3, 130) := by decide +kernel
theorem f49_25 : q_fetch 49 25 = some (.aload_n 0, 1, 0) := by decide +kernel
theorem f49_26 : q_fetch 49 26 = some (.getfield 12, 3, 641) := by decide +kernel
theorem f49_29 : q_fetch 49 29 = some (.getstatic 53, 3, 0) := by decide +kernel
theorem f49_32 : q_fetch 49 32 = some (.invokevirtual 63, 3, 51) := by decide +kernel
theorem f49_35 : q_fetch 49 35 = some (.ifCond .ne (16), 3, 51) := by decide +kernel
theorem f49_38 : q_fetch 49 38 = some (.aload_n 0, 1, 0) := by decide +kernel
theorem f49_39 : q_fetch 49 39 = some (.getfield 12, 3, 641) := by decide +kernel
theorem f49_42 : q_fetch 49 42 = some (.getstatic 67, 3, 1) := by decide +kernel
theorem f49_45 : q_fetch 49 45 = some (.invokevirtual 63, 3, 51) := by decide +kernel
theorem f49_48 : q_fetch 49 48 = some (.ifCond .eq (94), 3, 142) := by decide +kernel
theorem f49_51 : q_fetch 49 51 = some (.aload_n 0, 1, 0) := by decide +kernel
theorem f49_52 : q_fetch 49 52 = some (.getfield 12, 3, 641) := by decide +kernel
theorem f49_55 : q_fetch 49 55 = some (.getstatic 70, 3, 11) := by decide +kernel
theorem f49_58 : q_fetch 49 58 = some (.invokevirtual 63, 3, 51) := by decide +kernel
theorem f49_61 : q_fetch 49 61 = some (.ifCond .eq (81), 3, 142) := by decide +kernel
theorem f49_64 : q_fetch 49 64 = some (.aload_n 0, 1, 0) := by decide +kernel
theorem f49_65 : q_fetch 49 65 = some (.aload_n 0, 1, 0) := by decide +kernel
theorem f49_66 : q_fetch 49 66 = some (.getfield 18, 3, 643) := by decide +kernel
theorem f49_69 : q_fetch 49 69 = some (.getfield 73, 3, 133) := by decide +kernel
theorem f49_72 : q_fetch 49 72 = some (.invokevirtual 77, 3, 53) := by decide +kernel
theorem f49_75 : q_fetch 49 75 = some (.ifCond .eq (67), 3, 142) := by decide +kernel
theorem f49_78 : q_fetch 49 78 = some (.aload_n 0, 1, 0) := by decide +kernel
theorem f49_79 : q_fetch 49 79 = some (.getfield 12, 3, 641) := by decide +kernel
theorem f49_82 : q_fetch 49 82 = some (.getstatic 81, 3, 15) := by decide +kernel
theorem f49_85 : q_fetch 49 85 = some (.invokevirtual 63, 3, 51) := by decide +kernel
theorem f49_88 : q_fetch 49 88 = some (.ifCond .eq (54), 3, 142) := by decide +kernel
theorem f49_91 : q_fetch 49 91 = some (.aload_n 0, 1, 0) := by decide +kernel
theorem f49_92 : q_fetch 49 92 = some (.invokevirtual 84, 3, 56) := by decide +kernel
theorem f49_95 : q_fetch 49 95 = some (.ifCond .eq (47), 3, 142) := by decide +kernel
theorem f49_98 : q_fetch 49 98 = some (.aload_n 0, 1, 0) := by decide +kernel
theorem f49_99 : q_fetch 49 99 = some (.getfield 12, 3, 641) := by decide +kernel
theorem f49_102 : q_fetch 49 102 = some (.getstatic 81, 3, 15) := by decide +kernel
theorem f49_105 : q_fetch 49 105 = some (.invokevirtual 63, 3, 51) := by decide +kernel
theorem f49_108 : q_fetch 49 108 = some (.ifCond .eq (34), 3, 142) := by decide +kernel
theorem f49_111 : q_fetch 49 111 = some (.aload_n 0, 1, 0) := by decide +kernel
theorem f49_112 : q_fetch 49 112 = some (.aload_n 0, 1, 0) := by decide +kernel
theorem f49_113 : q_fetch 49 113 = some (.getfield 18, 3, 643) := by decide +kernel
theorem f49_116 : q_fetch 49 116 = some (.getfield 87, 3, 135) := by decide +kernel
theorem f49_119 : q_fetch 49 119 = some (.invokevirtual 77, 3, 53) := by decide +kernel
theorem f49_122 : q_fetch 49 122 = some (.ifCond .eq (20), 3, 142) := by decide +kernel
theorem f49_125 : q_fetch 49 125 = some (.aload_n 0, 1, 0) := by decide +kernel
theorem f49_126 : q_fetch 49 126 = some (.getfield 12, 3, 641) := by decide +kernel
theorem f49_129 : q_fetch 49 129 = some (.getstatic 90, 3, 12) := by decide +kernel
theorem f49_132 : q_fetch 49 132 = some (.invokevirtual 63, 3, 51) := by decide +kernel
theorem f49_135 : q_fetch 49 135 = some (.ifCond .eq (7), 3, 142) := by decide +kernel
theorem f49_138 : q_fetch 49 138 = some (.iconst 1, 1, 0) := by decide +kernel
theorem f49_139 : q_fetch 49 139 = some (.goto 4, 3, 143) := by decide +kernel
theorem f49_142 : q_fetch 49 142 = some (.iconst 0, 1, 0) := by decide +kernel
theorem f49_143 : q_fetch 49 143 = some (.ireturn, 1, 0) := by decide +kernel
theorem f50_0 : q_fetch 50 0 = some (.aload_n 0, 1, 0) := by decide +kernel
theorem f50_1 : q_fetch 50 1 = some (.getfield 11, 3, 769) := by decide +kernel
theorem f50_4 : q_fetch 50 4 = some (.aload_n 0, 1, 0) := by decide +kernel
theorem f50_5 : q_fetch 50 5 = some (.getfield 35, 3, 780) := by decide +kernel
theorem f50_8 : q_fetch 50 8 = some (.aaload, 1, 0) := by decide +kernel
theorem f50_9 : q_fetch 50 9 = some (.areturn, 1, 0) := by decide +kernel
theorem f51_0 : q_fetch 51 0 = some (.aload_n 0, 1, 0) := by decide +kernel
theorem f51_1 : q_fetch 51 1 = some (.invokevirtual 62, 3, 50) := by decide +kernel
theorem f51_4 : q_fetch 51 4 = some (.aload_n 1, 1, 0) := by decide +kernel
theorem f51_5 : q_fetch 51 5 = some (.if_acmp .eq (5), 3, 10) := by decide +kernel
theorem f51_8 : q_fetch 51 8 = some (.iconst 0, 1, 0) := by decide +kernel
theorem f51_9 : q_fetch 51 9 = some (.ireturn, 1, 0) := by decide +kernel
theorem f51_10 : q_fetch 51 10 = some (.aload_n 0, 1, 0) := by decide +kernel
theorem f51_11 : q_fetch 51 11 = some (.invokevirtual 66, 3, 52) := by decide +kernel
theorem f51_14 : q_fetch 51 14 = some (.iconst 1, 1, 0) := by decide +kernel
theorem f51_15 : q_fetch 51 15 = some (.ireturn, 1, 0) := by decide +kernel
theorem f52_0 : q_fetch 52 0 = some (.aload_n 0, 1, 0) := by decide +kernel
theorem f52_1 : q_fetch 52 1 = some (.getfield 35, 3, 780) := by decide +kernel
theorem f52_4 : q_fetch 52 4 = some (.aload_n 0, 1, 0) := by decide +kernel
theorem f52_5 : q_fetch 52 5 = some (.getfield 32, 3, 778) := by decide +kernel
theorem f52_8 : q_fetch 52 8 = some (.if_icmp .ge (13), 3, 21) := by decide +kernel
theorem f52_11 : q_fetch 52 11 = some (.aload_n 0, 1, 0) := by decide +kernel
theorem f52_12 : q_fetch 52 12 = some (.dup, 1, 0) := by decide +kernel
theorem f52_13 : q_fetch 52 13 = some (.getfield 35, 3, 780) := by decide +kernel
theorem f52_16 : q_fetch 52 16 = some (.iconst 1, 1, 0) := by decide +kernel
theorem f52_17 : q_fetch 52 17 = some (.iadd, 1, 0) := by decide +kernel
theorem f52_18 : q_fetch 52 18 = some (.putfield 35, 3, 780) := by decide +kernel
theorem f52_21 : q_fetch 52 21 = some (.return_, 1, 0) := by decide +kernel
theorem f53_0 : q_fetch 53 0 = some (.aload_n 0, 1, 0) := by decide +kernel
theorem f53_1 : q_fetch 53 1 = some (.getfield 12, 3, 641) := by decide +kernel
theorem f53_4 : q_fetch 53 4 = some (.getstatic 93, 3, 17) := by decide +kernel
theorem f53_7 : q_fetch 53 7 = some (.invokevirtual 63, 3, 51) := by decide +kernel
theorem f53_10 : q_fetch 53 10 = some (.ifCond .eq (11), 3, 21) := by decide +kernel
theorem f53_13 : q_fetch 53 13 = some (.aload_n 1, 1, 0) := by decide +kernel
theorem f53_14 : q_fetch 53 14 = some (.iconst 0, 1, 0) := by decide +kernel
theorem f53_15 : q_fetch 53 15 = some (.iconst 0, 1, 0) := by decide +kernel
theorem f53_16 : q_fetch 53 16 = some (.invokevirtual 98, 3, 54) := by decide +kernel
theorem f53_19 : q_fetch 53 19 = some (.iconst 1, 1, 0) := by decide +kernel
theorem f53_20 : q_fetch 53 20 = some (.ireturn, 1, 0) := by decide +kernel
theorem f53_21 : q_fetch 53 21 = some (.aload_n 0, 1, 0) := by decide +kernel
theorem f53_22 : q_fetch 53 22 = some (.getfield 12, 3, 641) := by decide +kernel
theorem f53_25 : q_fetch 53 25 = some (.getstatic 102, 3, 25) := by decide +kernel
theorem f53_28 : q_fetch 53 28 = some (.invokevirtual 63, 3, 51) := by decide +kernel
theorem f53_31 : q_fetch 53 31 = some (.ifCond .eq (7), 3, 38) := by decide +kernel
theorem f53_34 : q_fetch 53 34 = some (.iconst 2, 1, 0) := by decide +kernel
theorem f53_35 : q_fetch 53 35 = some (.goto 4, 3, 39) := by decide +kernel
theorem f53_38 : q_fetch 53 38 = some (.iconst 1, 1, 0) := by decide +kernel
theorem f53_39 : q_fetch 53 39 = some (.istore_n 2, 1, 0) := by decide +kernel
theorem f53_40 : q_fetch 53 40 = some (.aload_n 1, 1, 0) := by decide +kernel
theorem f53_41 : q_fetch 53 41 = some (.iload_n 2, 1, 0) := by decide +kernel
theorem f53_42 : q_fetch 53 42 = some (.aload_n 0, 1, 0) := by decide +kernel
theorem f53_43 : q_fetch 53 43 = some (.getfield 12, 3, 641) := by decide +kernel
theorem f53_46 : q_fetch 53 46 = some (.invokevirtual 105, 3, 55) := by decide +kernel
theorem f53_49 : q_fetch 53 49 = some (.invokevirtual 98, 3, 54) := by decide +kernel
theorem f53_52 : q_fetch 53 52 = some (.aload_n 0, 1, 0) := by decide +kernel
theorem f53_53 : q_fetch 53 53 = some (.getfield 12, 3, 641) := by decide +kernel
theorem f53_56 : q_fetch 53 56 = some (.getstatic 108, 3, 31) := by decide +kernel
theorem f53_59 : q_fetch 53 59 = some (.invokevirtual 63, 3, 51) := by decide +kernel
theorem f53_62 : q_fetch 53 62 = some (.ireturn, 1, 0) := by decide +kernel
theorem f54_0 : q_fetch 54 0 = some (.aload_n 0, 1, 0) := by decide +kernel
theorem f54_1 : q_fetch 54 1 = some (.iload_n 1, 1, 0) := by decide +kernel
theorem f54_2 : q_fetch 54 2 = some (.putfield 9, 3, 256) := by decide +kernel
theorem f54_5 : q_fetch 54 5 = some (.aload_n 0, 1, 0) := by decide +kernel
theorem f54_6 : q_fetch 54 6 = some (.iload_n 2, 1, 0) := by decide +kernel
theorem f54_7 : q_fetch 54 7 = some (.putfield 13, 3, 258) := by decide +kernel
theorem f54_10 : q_fetch 54 10 = some (.return_, 1, 0) := by decide +kernel
theorem f55_0 : q_fetch 55 0 = some (.aload_n 0, 1, 0) := by decide +kernel
theorem f55_1 : q_fetch 55 1 = some (.getfield 21, 3, 773) := by decide +kernel
theorem f55_4 : q_fetch 55 4 = some (.aload_n 0, 1, 0) := by decide +kernel
theorem f55_5 : q_fetch 55 5 = some (.getfield 35, 3, 780) := by decide +kernel
theorem f55_8 : q_fetch 55 8 = some (.iaload, 1, 0) := by decide +kernel
theorem f55_9 : q_fetch 55 9 = some (.ireturn, 1, 0) := by decide +kernel
theorem f56_0 : q_fetch 56 0 = some (.aload_n 0, 1, 0) := by decide +kernel
theorem f56_1 : q_fetch 56 1 = some (.getfield 12, 3, 641) := by decide +kernel
theorem f56_4 : q_fetch 56 4 = some (.getstatic 93, 3, 17) := by decide +kernel
theorem f56_7 : q_fetch 56 7 = some (.invokevirtual 63, 3, 51) := by decide +kernel
theorem f56_10 : q_fetch 56 10 = some (.ifCond .eq (13), 3, 23) := by decide +kernel
theorem f56_13 : q_fetch 56 13 = some (.aload_n 0, 1, 0) := by decide +kernel
theorem f56_14 : q_fetch 56 14 = some (.getfield 18, 3, 643) := by decide +kernel
theorem f56_17 : q_fetch 56 17 = some (.iconst (-1), 1, 0) := by decide +kernel
theorem f56_18 : q_fetch 56 18 = some (.putfield 111, 3, 136) := by decide +kernel
theorem f56_21 : q_fetch 56 21 = some (.iconst 1, 1, 0) := by decide +kernel
theorem f56_22 : q_fetch 56 22 = some (.ireturn, 1, 0) := by decide +kernel
theorem f56_23 : q_fetch 56 23 = some (.aload_n 0, 1, 0) := by decide +kernel
theorem f56_24 : q_fetch 56 24 = some (.getfield 18, 3, 643) := by decide +kernel
theorem f56_27 : q_fetch 56 27 = some (.aload_n 0, 1, 0) := by decide +kernel
theorem f56_28 : q_fetch 56 28 = some (.getfield 12, 3, 641) := by decide +kernel
theorem f56_31 : q_fetch 56 31 = some (.invokevirtual 105, 3, 55) := by decide +kernel
theorem f56_34 : q_fetch 56 34 = some (.putfield 111, 3, 136) := by decide +kernel
theorem f56_37 : q_fetch 56 37 = some (.aload_n 0, 1, 0) := by decide +kernel
theorem f56_38 : q_fetch 56 38 = some (.getfield 18, 3, 643) := by decide +kernel
theorem f56_41 : q_fetch 56 41 = some (.getfield 111, 3, 136) := by decide +kernel
theorem f56_44 : q_fetch 56 44 = some (.bipush 10, 2, 0) := by decide +kernel
theorem f56_46 : q_fetch 56 46 = some (.if_icmp .ge (20), 3, 66) := by decide +kernel
theorem f56_49 : q_fetch 56 49 = some (.aload_n 0, 1, 0) := by decide +kernel
theorem f56_50 : q_fetch 56 50 = some (.getfield 12, 3, 641) := by decide +kernel
theorem f56_53 : q_fetch 56 53 = some (.getstatic 114, 3, 30) := by decide +kernel
theorem f56_56 : q_fetch 56 56 = some (.invokevirtual 63, 3, 51) := by decide +kernel
theorem f56_59 : q_fetch 56 59 = some (.ifCond .eq (7), 3, 66) := by decide +kernel
theorem f56_62 : q_fetch 56 62 = some (.iconst 1, 1, 0) := by decide +kernel
theorem f56_63 : q_fetch 56 63 = some (.goto 4, 3, 67) := by decide +kernel
theorem f56_66 : q_fetch 56 66 = some (.iconst 0, 1, 0) := by decide +kernel
theorem f56_67 : q_fetch 56 67 = some (.ireturn, 1, 0) := by decide +kernel
theorem f57_0 : q_fetch 57 0 = some (.iconst 0, 1, 0) := by decide +kernel
theorem f57_1 : q_fetch 57 1 = some (.istore_n 1, 1, 0) := by decide +kernel
theorem f57_2 : q_fetch 57 2 = some (.iload_n 1, 1, 0) := by decide +kernel
theorem f57_3 : q_fetch 57 3 = some (.bipush 100, 2, 0) := by decide +kernel
theorem f57_5 : q_fetch 57 5 = some (.if_icmp .ge (31), 3, 36) := by decide +kernel
theorem f57_8 : q_fetch 57 8 = some (.aload_n 0, 1, 0) := by decide +kernel
theorem f57_9 : q_fetch 57 9 = some (.getfield 12, 3, 641) := by decide +kernel
theorem f57_12 : q_fetch 57 12 = some (.invokevirtual 49, 3, 50) := by decide +kernel
theorem f57_15 : q_fetch 57 15 = some (.getstatic 117, 3, 32) := by decide +kernel
theorem f57_18 : q_fetch 57 18 = some (.if_acmp .eq (18), 3, 36) := by decide +kernel
theorem f57_21 : q_fetch 57 21 = some (.aload_n 0, 1, 0) := by decide +kernel
theorem f57_22 : q_fetch 57 22 = some (.invokevirtual 120, 3, 58) := by decide +kernel
theorem f57_25 : q_fetch 57 25 = some (.ifCond .ne (5), 3, 30) := by decide +kernel
theorem f57_28 : q_fetch 57 28 = some (.iconst 0, 1, 0) := by decide +kernel
theorem f57_29 : q_fetch 57 29 = some (.ireturn, 1, 0) := by decide +kernel
theorem f57_30 : q_fetch 57 30 = some (.iinc 1 1, 3, 0) := by decide +kernel
theorem f57_33 : q_fetch 57 33 = some (.goto (-31), 3, 2) := by decide +kernel
theorem f57_36 : q_fetch 57 36 = some (.aload_n 0, 1, 0) := by decide +kernel
theorem f57_37 : q_fetch 57 37 = some (.getfield 12, 3, 641) := by decide +kernel
theorem f57_40 : q_fetch 57 40 = some (.invokevirtual 49, 3, 50) := by decide +kernel
theorem f57_43 : q_fetch 57 43 = some (.getstatic 117, 3, 32) := by decide +kernel
theorem f57_46 : q_fetch 57 46 = some (.if_acmp .ne (7), 3, 53) := by decide +kernel
theorem f57_49 : q_fetch 57 49 = some (.iconst 1, 1, 0) := by decide +kernel
theorem f57_50 : q_fetch 57 50 = some (.goto 4, 3, 54) := by decide +kernel
theorem f57_53 : q_fetch 57 53 = some (.iconst 0, 1, 0) := by decide +kernel
theorem f57_54 : q_fetch 57 54 = some (.ireturn, 1, 0) := by decide +kernel
theorem f58_0 : q_fetch 58 0 = some (.aload_n 0, 1, 0) := by decide +kernel
theorem f58_1 : q_fetch 58 1 = some (.getfield 12, 3, 641) := by decide +kernel
theorem f58_4 : q_fetch 58 4 = some (.invokevirtual 49, 3, 50) := by decide +kernel
theorem f58_7 : q_fetch 58 7 = some (.getstatic 123, 3, 2) := by decide +kernel
theorem f58_10 : q_fetch 58 10 = some (.if_acmp .ne (7), 3, 17) := by decide +kernel
theorem f58_13 : q_fetch 58 13 = some (.iconst 1, 1, 0) := by decide +kernel
theorem f58_14 : q_fetch 58 14 = some (.goto 4, 3, 18) := by decide +kernel
theorem f58_17 : q_fetch 58 17 = some (.iconst 0, 1, 0) := by decide +kernel
theorem f58_18 : q_fetch 58 18 = some (.istore_n 1, 1, 0) := by decide +kernel
theorem f58_19 : q_fetch 58 19 = some (.aload_n 0, 1, 0) := by decide +kernel
theorem f58_20 : q_fetch 58 20 = some (.getfield 12, 3, 641) := by decide +kernel
theorem f58_23 : q_fetch 58 23 = some (.invokevirtual 46, 3, 59) := by decide +kernel
theorem f58_26 : q_fetch 58 26 = some (.istore_n 2, 1, 0) := by decide +kernel
theorem f58_27 : q_fetch 58 27 = some (.aload_n 0, 1, 0) := by decide +kernel
theorem f58_28 : q_fetch 58 28 = some (.getfield 12, 3, 641) := by decide +kernel
theorem f58_31 : q_fetch 58 31 = some (.getstatic 123, 3, 2) := by decide +kernel
theorem f58_34 : q_fetch 58 34 = some (.invokevirtual 63, 3, 51) := by decide +kernel
theorem f58_37 : q_fetch 58 37 = some (.ifCond .ne (16), 3, 53) := by decide +kernel
theorem f58_40 : q_fetch 58 40 = some (.aload_n 0, 1, 0) := by decide +kernel
theorem f58_41 : q_fetch 58 41 = some (.getfield 12, 3, 641) := by decide +kernel
theorem f58_44 : q_fetch 58 44 = some (.getstatic 126, 3, 3) := by decide +kernel
theorem f58_47 : q_fetch 58 47 = some (.invokevirtual 63, 3, 51) := by decide +kernel
theorem f58_50 : q_fetch 58 50 = some (.ifCond .eq (16), 3, 66) := by decide +kernel
theorem f58_53 : q_fetch 58 53 = some (.aload_n 0, 1, 0) := by decide +kernel
theorem f58_54 : q_fetch 58 54 = some (.getfield 12, 3, 641) := by decide +kernel
theorem f58_57 : q_fetch 58 57 = some (.getstatic 129, 3, 13) := by decide +kernel
theorem f58_60 : q_fetch 58 60 = some (.invokevirtual 63, 3, 51) := by decide +kernel
theorem f58_63 : q_fetch 58 63 = some (.ifCond .ne (5), 3, 68) := by decide +kernel
theorem f58_66 : q_fetch 58 66 = some (.iconst 0, 1, 0) := by decide +kernel
theorem f58_67 : q_fetch 58 67 = some (.ireturn, 1, 0) := by decide +kernel
theorem f58_68 : q_fetch 58 68 = some (.aload_n 0, 1, 0) := by decide +kernel
theorem f58_69 : q_fetch 58 69 = some (.iconst 0, 1, 0) := by decide +kernel
theorem f58_70 : q_fetch 58 70 = some (.iconst 0, 1, 0) := by decide +kernel
theorem f58_71 : q_fetch 58 71 = some (.invokevirtual 132, 3, 60) := by decide +kernel
theorem f58_74 : q_fetch 58 74 = some (.istore_n 3, 1, 0) := by decide +kernel
theorem f58_75 : q_fetch 58 75 = some (.iload_n 3, 1, 0) := by decide +kernel
theorem f58_76 : q_fetch 58 76 = some (.iconst (-1), 1, 0) := by decide +kernel
theorem f58_77 : q_fetch 58 77 = some (.if_icmp .eq (33), 3, 110) := by decide +kernel
theorem f58_80 : q_fetch 58 80 = some (.aload_n 0, 1, 0) := by decide +kernel
theorem f58_81 : q_fetch 58 81 = some (.getfield 12, 3, 641) := by decide +kernel
theorem f58_84 : q_fetch 58 84 = some (.getstatic 136, 3, 14) := by decide +kernel
theorem f58_87 : q_fetch 58 87 = some (.invokevirtual 63, 3, 51) := by decide +kernel
theorem f58_90 : q_fetch 58 90 = some (.ifCond .eq (20), 3, 110) := by decide +kernel
theorem f58_93 : q_fetch 58 93 = some (.aload_n 0, 1, 0) := by decide +kernel
theorem f58_94 : q_fetch 58 94 = some (.getfield 18, 3, 643) := by decide +kernel
theorem f58_97 : q_fetch 58 97 = some (.iload_n 1, 1, 0) := by decide +kernel
theorem f58_98 : q_fetch 58 98 = some (.iload_n 2, 1, 0) := by decide +kernel
theorem f58_99 : q_fetch 58 99 = some (.iload_n 3, 1, 0) := by decide +kernel
theorem f58_100 : q_fetch 58 100 = some (.invokevirtual 139, 3, 71) := by decide +kernel
theorem f58_103 : q_fetch 58 103 = some (.ifCond .eq (7), 3, 110) := by decide +kernel
theorem f58_106 : q_fetch 58 106 = some (.iconst 1, 1, 0) := by decide +kernel
theorem f58_107 : q_fetch 58 107 = some (.goto 4, 3, 111) := by decide +kernel
theorem f58_110 : q_fetch 58 110 = some (.iconst 0, 1, 0) := by decide +kernel
theorem f58_111 : q_fetch 58 111 = some (.ireturn, 1, 0) := by decide +kernel
theorem f59_0 : q_fetch 59 0 = some (.aload_n 0, 1, 0) := by decide +kernel
theorem f59_1 : q_fetch 59 1 = some (.getfield 17, 3, 771) := by decide +kernel
theorem f59_4 : q_fetch 59 4 = some (.aload_n 0, 1, 0) := by decide +kernel
theorem f59_5 : q_fetch 59 5 = some (.getfield 35, 3, 780) := by decide +kernel
theorem f59_8 : q_fetch 59 8 = some (.iaload, 1, 0) := by decide +kernel
theorem f59_9 : q_fetch 59 9 = some (.ireturn, 1, 0) := by decide +kernel
theorem f60_0 : q_fetch 60 0 = some (.iload_n 1, 1, 0) := by decide +kernel
theorem f60_1 : q_fetch 60 1 = some (.iconst 5, 1, 0) := by decide +kernel
theorem f60_2 : q_fetch 60 2 = some (.if_icmp .lt (9), 3, 11) := by decide +kernel
theorem f60_5 : q_fetch 60 5 = some (.aload_n 0, 1, 0) := by decide +kernel
theorem f60_6 : q_fetch 60 6 = some (.iload_n 2, 1, 0) := by decide +kernel
theorem f60_7 : q_fetch 60 7 = some (.invokevirtual 143, 3, 61) := by decide +kernel
theorem f60_10 : q_fetch 60 10 = some (.ireturn, 1, 0) := by decide +kernel
theorem f60_11 : q_fetch 60 11 = some (.aload_n 0, 1, 0) := by decide +kernel
theorem f60_12 : q_fetch 60 12 = some (.iload_n 1, 1, 0) := by decide +kernel
theorem f60_13 : q_fetch 60 13 = some (.iconst 1, 1, 0) := by decide +kernel
theorem f60_14 : q_fetch 60 14 = some (.iadd, 1, 0) := by decide +kernel
theorem f60_15 : q_fetch 60 15 = some (.iload_n 2, 1, 0) := by decide +kernel
theorem f60_16 : q_fetch 60 16 = some (.invokevirtual 132, 3, 60) := by decide +kernel
theorem f60_19 : q_fetch 60 19 = some (.istore_n 3, 1, 0) := by decide +kernel
theorem f60_20 : q_fetch 60 20 = some (.iload_n 1, 1, 0) := by decide +kernel
theorem f60_21 : q_fetch 60 21 = some (.iconst 2, 1, 0) := by decide +kernel
theorem f60_22 : q_fetch 60 22 = some (.if_icmp .ne (7), 3, 29) := by decide +kernel
theorem f60_25 : q_fetch 60 25 = some (.iconst 1, 1, 0) := by decide +kernel
theorem f60_26 : q_fetch 60 26 = some (.goto 5, 3, 31) := by decide +kernel
theorem f60_29 : q_fetch 60 29 = some (.bipush 100, 2, 0) := by decide +kernel
theorem f60_31 : q_fetch 60 31 = some (.istore 4, 2, 0) := by decide +kernel
theorem f60_33 : q_fetch 60 33 = some (.iconst 0, 1, 0) := by decide +kernel
theorem f60_34 : q_fetch 60 34 = some (.istore 5, 2, 0) := by decide +kernel
theorem f60_36 : q_fetch 60 36 = some (.iload 5, 2, 0) := by decide +kernel
theorem f60_38 : q_fetch 60 38 = some (.iload 4, 2, 0) := by decide +kernel
theorem f60_40 : q_fetch 60 40 = some (.if_icmp .ge (36), 3, 76) := by decide +kernel
theorem f60_43 : q_fetch 60 43 = some (.iload_n 3, 1, 0) := by decide +kernel
theorem f60_44 : q_fetch 60 44 = some (.iconst (-1), 1, 0) := by decide +kernel
theorem f60_45 : q_fetch 60 45 = some (.if_icmp .eq (31), 3, 76) := by decide +kernel
theorem f60_48 : q_fetch 60 48 = some (.aload_n 0, 1, 0) := by decide +kernel
theorem f60_49 : q_fetch 60 49 = some (.getfield 12, 3, 641) := by decide +kernel
theorem f60_52 : q_fetch 60 52 = some (.invokevirtual 49, 3, 50) := by decide +kernel
theorem f60_55 : q_fetch 60 55 = some (.getfield 147, 3, 1924) := by decide +kernel
theorem f60_58 : q_fetch 60 58 = some (.iload_n 1, 1, 0) := by decide +kernel
theorem f60_59 : q_fetch 60 59 = some (.if_icmp .ne (17), 3, 76) := by decide +kernel
theorem f60_62 : q_fetch 60 62 = some (.aload_n 0, 1, 0) := by decide +kernel
theorem f60_63 : q_fetch 60 63 = some (.iload_n 3, 1, 0) := by decide +kernel
theorem f60_64 : q_fetch 60 64 = some (.iload_n 1, 1, 0) := by decide +kernel
theorem f60_65 : q_fetch 60 65 = some (.iload_n 2, 1, 0) := by decide +kernel
theorem f60_66 : q_fetch 60 66 = some (.invokevirtual 150, 3, 70) := by decide +kernel
theorem f60_69 : q_fetch 60 69 = some (.istore_n 3, 1, 0) := by decide +kernel
theorem f60_70 : q_fetch 60 70 = some (.iinc 5 1, 3, 0) := by decide +kernel
theorem f60_73 : q_fetch 60 73 = some (.goto (-37), 3, 36) := by decide +kernel
theorem f60_76 : q_fetch 60 76 = some (.iload_n 3, 1, 0) := by decide +kernel
theorem f60_77 : q_fetch 60 77 = some (.ireturn, 1, 0) := by decide +kernel
theorem f61_0 : q_fetch 61 0 = some (.aload_n 0, 1, 0) := by decide +kernel
theorem f61_1 : q_fetch 61 1 = some (.getfield 12, 3, 641) := by decide +kernel
theorem f61_4 : q_fetch 61 4 = some (.invokevirtual 49, 3, 50) := by decide +kernel
theorem f61_7 : q_fetch 61 7 = some (.astore_n 2, 1, 0) := by decide +kernel
theorem f61_8 : q_fetch 61 8 = some (.iload_n 1, 1, 0) := by decide +kernel
theorem f61_9 : q_fetch 61 9 = some (.bipush 7, 2, 0) := by decide +kernel
theorem f61_11 : q_fetch 61 11 = some (.if_icmp .lt (5), 3, 16) := by decide +kernel
theorem f61_14 : q_fetch 61 14 = some (.iconst (-1), 1, 0) := by decide +kernel
theorem f61_15 : q_fetch 61 15 = some (.ireturn, 1, 0) := by decide +kernel
theorem f61_16 : q_fetch 61 16 = some (.aload_n 2, 1, 0) := by decide +kernel
theorem f61_17 : q_fetch 61 17 = some (.getstatic 168, 3, 18) := by decide +kernel
theorem f61_20 : q_fetch 61 20 = some (.if_acmp .eq (16), 3, 36) := by decide +kernel
theorem f61_23 : q_fetch 61 23 = some (.aload_n 2, 1, 0) := by decide +kernel
theorem f61_24 : q_fetch 61 24 = some (.getstatic 171, 3, 28) := by decide +kernel
theorem f61_27 : q_fetch 61 27 = some (.if_acmp .eq (9), 3, 36) := by decide +kernel
theorem f61_30 : q_fetch 61 30 = some (.aload_n 0, 1, 0) := by decide +kernel
theorem f61_31 : q_fetch 61 31 = some (.iload_n 1, 1, 0) := by decide +kernel
theorem f61_32 : q_fetch 61 32 = some (.invokevirtual 174, 3, 62) := by decide +kernel
theorem f61_35 : q_fetch 61 35 = some (.ireturn, 1, 0) := by decide +kernel
theorem f61_36 : q_fetch 61 36 = some (.aload_n 0, 1, 0) := by decide +kernel
