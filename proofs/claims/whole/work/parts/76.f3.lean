/-! the rows of code, one by one -/
theorem f151_12 : q_fetch 151 12 = some (.iload_n 1, 1, 0) := by decide +kernel
theorem f151_13 : q_fetch 151 13 = some (.iaload, 1, 0) := by decide +kernel
theorem f151_14 : q_fetch 151 14 = some (.goto 4, 3, 18) := by decide +kernel
theorem f151_17 : q_fetch 151 17 = some (.iconst 0, 1, 0) := by decide +kernel
theorem f151_18 : q_fetch 151 18 = some (.ireturn, 1, 0) := by decide +kernel
theorem f152_0 : q_fetch 152 0 = some (.iload_n 0, 1, 0) := by decide +kernel
theorem f152_1 : q_fetch 152 1 = some (.bipush 48, 2, 0) := by decide +kernel
theorem f152_3 : q_fetch 152 3 = some (.bipush 57, 2, 0) := by decide +kernel
theorem f152_5 : q_fetch 152 5 = some (.invokestatic 141, 3, 145) := by decide +kernel
theorem f152_8 : q_fetch 152 8 = some (.ireturn, 1, 0) := by decide +kernel
theorem f153_0 : q_fetch 153 0 = some (.sipush 606, 3, 0) := by decide +kernel
theorem f153_3 : q_fetch 153 3 = some (.aload_n 0, 1, 0) := by decide +kernel
theorem f153_4 : q_fetch 153 4 = some (.getfield 26, 3, 1167) := by decide +kernel
theorem f153_7 : q_fetch 153 7 = some (.bipush 6, 2, 0) := by decide +kernel
theorem f153_9 : q_fetch 153 9 = some (.iaload, 1, 0) := by decide +kernel
theorem f153_10 : q_fetch 153 10 = some (.iadd, 1, 0) := by decide +kernel
theorem f153_11 : q_fetch 153 11 = some (.istore 4, 2, 0) := by decide +kernel
theorem f153_13 : q_fetch 153 13 = some (.aload_n 0, 1, 0) := by decide +kernel
theorem f153_14 : q_fetch 153 14 = some (.getfield 17, 3, 1161) := by decide +kernel
theorem f153_17 : q_fetch 153 17 = some (.iload 4, 2, 0) := by decide +kernel
theorem f153_19 : q_fetch 153 19 = some (.iload_n 1, 1, 0) := by decide +kernel
theorem f153_20 : q_fetch 153 20 = some (.iastore, 1, 0) := by decide +kernel
theorem f153_21 : q_fetch 153 21 = some (.aload_n 0, 1, 0) := by decide +kernel
theorem f153_22 : q_fetch 153 22 = some (.getfield 20, 3, 1163) := by decide +kernel
theorem f153_25 : q_fetch 153 25 = some (.iload 4, 2, 0) := by decide +kernel
theorem f153_27 : q_fetch 153 27 = some (.iload_n 2, 1, 0) := by decide +kernel
theorem f153_28 : q_fetch 153 28 = some (.iastore, 1, 0) := by decide +kernel
theorem f153_29 : q_fetch 153 29 = some (.aload_n 0, 1, 0) := by decide +kernel
theorem f153_30 : q_fetch 153 30 = some (.getfield 23, 3, 1165) := by decide +kernel
theorem f153_33 : q_fetch 153 33 = some (.iload 4, 2, 0) := by decide +kernel
theorem f153_35 : q_fetch 153 35 = some (.iload_n 3, 1, 0) := by decide +kernel
theorem f153_36 : q_fetch 153 36 = some (.iastore, 1, 0) := by decide +kernel
theorem f153_37 : q_fetch 153 37 = some (.aload_n 0, 1, 0) := by decide +kernel
theorem f153_38 : q_fetch 153 38 = some (.getfield 26, 3, 1167) := by decide +kernel
theorem f153_41 : q_fetch 153 41 = some (.bipush 6, 2, 0) := by decide +kernel
theorem f153_43 : q_fetch 153 43 = some (.dup2, 1, 0) := by decide +kernel
theorem f153_44 : q_fetch 153 44 = some (.iaload, 1, 0) := by decide +kernel
theorem f153_45 : q_fetch 153 45 = some (.iconst 1, 1, 0) := by decide +kernel
theorem f153_46 : q_fetch 153 46 = some (.iadd, 1, 0) := by decide +kernel
theorem f153_47 : q_fetch 153 47 = some (.iastore, 1, 0) := by decide +kernel
theorem f153_48 : q_fetch 153 48 = some (.return_, 1, 0) := by decide +kernel
theorem f154_0 : q_fetch 154 0 = some (.lload_n 1, 1, 0) := by decide +kernel
theorem f154_1 : q_fetch 154 1 = some (.ldc2_w 152, 3, 1) := by decide +kernel
theorem f154_4 : q_fetch 154 4 = some (.lcmp, 1, 0) := by decide +kernel
theorem f154_5 : q_fetch 154 5 = some (.ifCond .ne (7), 3, 12) := by decide +kernel
theorem f154_8 : q_fetch 154 8 = some (.sipush 308, 3, 0) := by decide +kernel
theorem f154_11 : q_fetch 154 11 = some (.ireturn, 1, 0) := by decide +kernel
theorem f154_12 : q_fetch 154 12 = some (.lload_n 1, 1, 0) := by decide +kernel
theorem f154_13 : q_fetch 154 13 = some (.ldc2_w 154, 3, 2) := by decide +kernel
theorem f154_16 : q_fetch 154 16 = some (.lcmp, 1, 0) := by decide +kernel
theorem f154_17 : q_fetch 154 17 = some (.ifCond .ne (7), 3, 24) := by decide +kernel
theorem f154_20 : q_fetch 154 20 = some (.sipush 309, 3, 0) := by decide +kernel
theorem f154_23 : q_fetch 154 23 = some (.ireturn, 1, 0) := by decide +kernel
theorem f154_24 : q_fetch 154 24 = some (.lload_n 1, 1, 0) := by decide +kernel
theorem f154_25 : q_fetch 154 25 = some (.ldc2_w 156, 3, 3) := by decide +kernel
theorem f154_28 : q_fetch 154 28 = some (.lcmp, 1, 0) := by decide +kernel
theorem f154_29 : q_fetch 154 29 = some (.ifCond .lt (22), 3, 51) := by decide +kernel
theorem f154_32 : q_fetch 154 32 = some (.lload_n 1, 1, 0) := by decide +kernel
theorem f154_33 : q_fetch 154 33 = some (.ldc2_w 158, 3, 4) := by decide +kernel
theorem f154_36 : q_fetch 154 36 = some (.lcmp, 1, 0) := by decide +kernel
theorem f154_37 : q_fetch 154 37 = some (.ifCond .gt (14), 3, 51) := by decide +kernel
theorem f154_40 : q_fetch 154 40 = some (.sipush 310, 3, 0) := by decide +kernel
theorem f154_43 : q_fetch 154 43 = some (.lload_n 1, 1, 0) := by decide +kernel
theorem f154_44 : q_fetch 154 44 = some (.ldc2_w 156, 3, 3) := by decide +kernel
theorem f154_47 : q_fetch 154 47 = some (.lsub, 1, 0) := by decide +kernel
theorem f154_48 : q_fetch 154 48 = some (.l2i, 1, 0) := by decide +kernel
theorem f154_49 : q_fetch 154 49 = some (.iadd, 1, 0) := by decide +kernel
theorem f154_50 : q_fetch 154 50 = some (.ireturn, 1, 0) := by decide +kernel
theorem f154_51 : q_fetch 154 51 = some (.lload_n 1, 1, 0) := by decide +kernel
theorem f154_52 : q_fetch 154 52 = some (.ldc2_w 160, 3, 5) := by decide +kernel
theorem f154_55 : q_fetch 154 55 = some (.lcmp, 1, 0) := by decide +kernel
theorem f154_56 : q_fetch 154 56 = some (.ifCond .ne (7), 3, 63) := by decide +kernel
theorem f154_59 : q_fetch 154 59 = some (.sipush 304, 3, 0) := by decide +kernel
theorem f154_62 : q_fetch 154 62 = some (.ireturn, 1, 0) := by decide +kernel
theorem f154_63 : q_fetch 154 63 = some (.lload_n 1, 1, 0) := by decide +kernel
theorem f154_64 : q_fetch 154 64 = some (.ldc2_w 162, 3, 6) := by decide +kernel
theorem f154_67 : q_fetch 154 67 = some (.lcmp, 1, 0) := by decide +kernel
theorem f154_68 : q_fetch 154 68 = some (.ifCond .ne (7), 3, 75) := by decide +kernel
theorem f154_71 : q_fetch 154 71 = some (.sipush 305, 3, 0) := by decide +kernel
theorem f154_74 : q_fetch 154 74 = some (.ireturn, 1, 0) := by decide +kernel
theorem f154_75 : q_fetch 154 75 = some (.lload_n 1, 1, 0) := by decide +kernel
theorem f154_76 : q_fetch 154 76 = some (.ldc2_w 164, 3, 7) := by decide +kernel
theorem f154_79 : q_fetch 154 79 = some (.lcmp, 1, 0) := by decide +kernel
theorem f154_80 : q_fetch 154 80 = some (.ifCond .ne (7), 3, 87) := by decide +kernel
theorem f154_83 : q_fetch 154 83 = some (.sipush 302, 3, 0) := by decide +kernel
theorem f154_86 : q_fetch 154 86 = some (.ireturn, 1, 0) := by decide +kernel
theorem f154_87 : q_fetch 154 87 = some (.lload_n 1, 1, 0) := by decide +kernel
theorem f154_88 : q_fetch 154 88 = some (.ldc2_w 166, 3, 8) := by decide +kernel
theorem f154_91 : q_fetch 154 91 = some (.lcmp, 1, 0) := by decide +kernel
theorem f154_92 : q_fetch 154 92 = some (.ifCond .ne (7), 3, 99) := by decide +kernel
theorem f154_95 : q_fetch 154 95 = some (.sipush 306, 3, 0) := by decide +kernel
theorem f154_98 : q_fetch 154 98 = some (.ireturn, 1, 0) := by decide +kernel
theorem f154_99 : q_fetch 154 99 = some (.lload_n 1, 1, 0) := by decide +kernel
theorem f154_100 : q_fetch 154 100 = some (.bipush 16, 2, 0) := by decide +kernel
theorem f154_102 : q_fetch 154 102 = some (.lushr, 1, 0) := by decide +kernel
theorem f154_103 : q_fetch 154 103 = some (.lstore_n 3, 1, 0) := by decide +kernel
theorem f154_104 : q_fetch 154 104 = some (.lload_n 3, 1, 0) := by decide +kernel
theorem f154_105 : q_fetch 154 105 = some (.ldc2_w 168, 3, 9) := by decide +kernel
theorem f154_108 : q_fetch 154 108 = some (.lcmp, 1, 0) := by decide +kernel
theorem f154_109 : q_fetch 154 109 = some (.ifCond .ne (19), 3, 128) := by decide +kernel
theorem f154_112 : q_fetch 154 112 = some (.lload_n 1, 1, 0) := by decide +kernel
theorem f154_113 : q_fetch 154 113 = some (.ldc2_w 170, 3, 10) := by decide +kernel
theorem f154_116 : q_fetch 154 116 = some (.land, 1, 0) := by decide +kernel
theorem f154_117 : q_fetch 154 117 = some (.ldc2_w 172, 3, 11) := by decide +kernel
theorem f154_120 : q_fetch 154 120 = some (.lcmp, 1, 0) := by decide +kernel
theorem f154_121 : q_fetch 154 121 = some (.ifCond .ne (7), 3, 128) := by decide +kernel
theorem f154_124 : q_fetch 154 124 = some (.sipush 307, 3, 0) := by decide +kernel
theorem f154_127 : q_fetch 154 127 = some (.ireturn, 1, 0) := by decide +kernel
theorem f154_128 : q_fetch 154 128 = some (.lload_n 1, 1, 0) := by decide +kernel
theorem f154_129 : q_fetch 154 129 = some (.ldc2_w 174, 3, 12) := by decide +kernel
theorem f154_132 : q_fetch 154 132 = some (.land, 1, 0) := by decide +kernel
theorem f154_133 : q_fetch 154 133 = some (.lstore 5, 2, 0) := by decide +kernel
theorem f154_135 : q_fetch 154 135 = some (.lload_n 1, 1, 0) := by decide +kernel
theorem f154_136 : q_fetch 154 136 = some (.bipush 24, 2, 0) := by decide +kernel
theorem f154_138 : q_fetch 154 138 = some (.lushr, 1, 0) := by decide +kernel
theorem f154_139 : q_fetch 154 139 = some (.ldc2_w 176, 3, 13) := by decide +kernel
theorem f154_142 : q_fetch 154 142 = some (.lcmp, 1, 0) := by decide +kernel
theorem f154_143 : q_fetch 154 143 = some (.ifCond .ne (16), 3, 159) := by decide +kernel
theorem f154_146 : q_fetch 154 146 = some (.lload 5, 2, 0) := by decide +kernel
theorem f154_148 : q_fetch 154 148 = some (.ldc2_w 178, 3, 14) := by decide +kernel
theorem f154_151 : q_fetch 154 151 = some (.lcmp, 1, 0) := by decide +kernel
theorem f154_152 : q_fetch 154 152 = some (.ifCond .ne (7), 3, 159) := by decide +kernel
theorem f154_155 : q_fetch 154 155 = some (.sipush 300, 3, 0) := by decide +kernel
theorem f154_158 : q_fetch 154 158 = some (.ireturn, 1, 0) := by decide +kernel
theorem f154_159 : q_fetch 154 159 = some (.lload_n 1, 1, 0) := by decide +kernel
theorem f154_160 : q_fetch 154 160 = some (.bipush 24, 2, 0) := by decide +kernel
theorem f154_162 : q_fetch 154 162 = some (.lushr, 1, 0) := by decide +kernel
theorem f154_163 : q_fetch 154 163 = some (.ldc2_w 180, 3, 15) := by decide +kernel
theorem f154_166 : q_fetch 154 166 = some (.lcmp, 1, 0) := by decide +kernel
theorem f154_167 : q_fetch 154 167 = some (.ifCond .ne (16), 3, 183) := by decide +kernel
theorem f154_170 : q_fetch 154 170 = some (.lload 5, 2, 0) := by decide +kernel
theorem f154_172 : q_fetch 154 172 = some (.ldc2_w 182, 3, 16) := by decide +kernel
theorem f154_175 : q_fetch 154 175 = some (.lcmp, 1, 0) := by decide +kernel
theorem f154_176 : q_fetch 154 176 = some (.ifCond .ne (7), 3, 183) := by decide +kernel
theorem f154_179 : q_fetch 154 179 = some (.sipush 301, 3, 0) := by decide +kernel
theorem f154_182 : q_fetch 154 182 = some (.ireturn, 1, 0) := by decide +kernel
theorem f154_183 : q_fetch 154 183 = some (.lload_n 1, 1, 0) := by decide +kernel
theorem f154_184 : q_fetch 154 184 = some (.bipush 24, 2, 0) := by decide +kernel
theorem f154_186 : q_fetch 154 186 = some (.lushr, 1, 0) := by decide +kernel
theorem f154_187 : q_fetch 154 187 = some (.ldc2_w 184, 3, 17) := by decide +kernel
theorem f154_190 : q_fetch 154 190 = some (.lcmp, 1, 0) := by decide +kernel
theorem f154_191 : q_fetch 154 191 = some (.ifCond .ne (18), 3, 209) := by decide +kernel
theorem f154_194 : q_fetch 154 194 = some (.lload 5, 2, 0) := by decide +kernel
theorem f154_196 : q_fetch 154 196 = some (.ldc2_w 186, 3, 18) := by decide +kernel
theorem f154_199 : q_fetch 154 199 = some (.lcmp, 1, 0) := by decide +kernel
theorem f154_200 : q_fetch 154 200 = some (.ifCond .ne (9), 3, 209) := by decide +kernel
theorem f154_203 : q_fetch 154 203 = some (.sipush 303, 3, 0) := by decide +kernel
theorem f154_206 : q_fetch 154 206 = some (.goto 4, 3, 210) := by decide +kernel
theorem f154_209 : q_fetch 154 209 = some (.iconst 3, 1, 0) := by decide +kernel
theorem f154_210 : q_fetch 154 210 = some (.ireturn, 1, 0) := by decide +kernel
theorem f155_0 : q_fetch 155 0 = some (.iload_n 0, 1, 0) := by decide +kernel
theorem f155_1 : q_fetch 155 1 = some (.bipush 40, 2, 0) := by decide +kernel
theorem f155_3 : q_fetch 155 3 = some (.if_icmp .eq (57), 3, 60) := by decide +kernel
theorem f155_6 : q_fetch 155 6 = some (.iload_n 0, 1, 0) := by decide +kernel
theorem f155_7 : q_fetch 155 7 = some (.bipush 41, 2, 0) := by decide +kernel
theorem f155_9 : q_fetch 155 9 = some (.if_icmp .eq (51), 3, 60) := by decide +kernel
theorem f155_12 : q_fetch 155 12 = some (.iload_n 0, 1, 0) := by decide +kernel
theorem f155_13 : q_fetch 155 13 = some (.bipush 123, 2, 0) := by decide +kernel
theorem f155_15 : q_fetch 155 15 = some (.if_icmp .eq (45), 3, 60) := by decide +kernel
theorem f155_18 : q_fetch 155 18 = some (.iload_n 0, 1, 0) := by decide +kernel
theorem f155_19 : q_fetch 155 19 = some (.bipush 125, 2, 0) := by decide +kernel
theorem f155_21 : q_fetch 155 21 = some (.if_icmp .eq (39), 3, 60) := by decide +kernel
theorem f155_24 : q_fetch 155 24 = some (.iload_n 0, 1, 0) := by decide +kernel
theorem f155_25 : q_fetch 155 25 = some (.bipush 44, 2, 0) := by decide +kernel
theorem f155_27 : q_fetch 155 27 = some (.if_icmp .eq (33), 3, 60) := by decide +kernel
theorem f155_30 : q_fetch 155 30 = some (.iload_n 0, 1, 0) := by decide +kernel
theorem f155_31 : q_fetch 155 31 = some (.bipush 46, 2, 0) := by decide +kernel
theorem f155_33 : q_fetch 155 33 = some (.if_icmp .eq (27), 3, 60) := by decide +kernel
theorem f155_36 : q_fetch 155 36 = some (.iload_n 0, 1, 0) := by decide +kernel
theorem f155_37 : q_fetch 155 37 = some (.bipush 95, 2, 0) := by decide +kernel
theorem f155_39 : q_fetch 155 39 = some (.if_icmp .eq (21), 3, 60) := by decide +kernel
theorem f155_42 : q_fetch 155 42 = some (.iload_n 0, 1, 0) := by decide +kernel
theorem f155_43 : q_fetch 155 43 = some (.bipush 43, 2, 0) := by decide +kernel
theorem f155_45 : q_fetch 155 45 = some (.if_icmp .eq (15), 3, 60) := by decide +kernel
theorem f155_48 : q_fetch 155 48 = some (.iload_n 0, 1, 0) := by decide +kernel
theorem f155_49 : q_fetch 155 49 = some (.bipush 45, 2, 0) := by decide +kernel
theorem f155_51 : q_fetch 155 51 = some (.if_icmp .eq (9), 3, 60) := by decide +kernel
theorem f155_54 : q_fetch 155 54 = some (.iload_n 0, 1, 0) := by decide +kernel
theorem f155_55 : q_fetch 155 55 = some (.bipush 42, 2, 0) := by decide +kernel
theorem f155_57 : q_fetch 155 57 = some (.if_icmp .ne (7), 3, 64) := by decide +kernel
theorem f155_60 : q_fetch 155 60 = some (.iconst 1, 1, 0) := by decide +kernel
theorem f155_61 : q_fetch 155 61 = some (.goto 4, 3, 65) := by decide +kernel
theorem f155_64 : q_fetch 155 64 = some (.iconst 0, 1, 0) := by decide +kernel
theorem f155_65 : q_fetch 155 65 = some (.ireturn, 1, 0) := by decide +kernel
theorem f156_0 : q_fetch 156 0 = some (.aload_n 0, 1, 0) := by decide +kernel
theorem f156_1 : q_fetch 156 1 = some (.invokevirtual 212, 3, 157) := by decide +kernel
theorem f156_4 : q_fetch 156 4 = some (.sipush 300, 3, 0) := by decide +kernel
theorem f156_7 : q_fetch 156 7 = some (.if_icmp .eq (18), 3, 25) := by decide +kernel
theorem f156_10 : q_fetch 156 10 = some (.aload_n 0, 1, 0) := by decide +kernel
theorem f156_11 : q_fetch 156 11 = some (.invokevirtual 212, 3, 157) := by decide +kernel
theorem f156_14 : q_fetch 156 14 = some (.sipush 301, 3, 0) := by decide +kernel
theorem f156_17 : q_fetch 156 17 = some (.if_icmp .eq (8), 3, 25) := by decide +kernel
theorem f156_20 : q_fetch 156 20 = some (.aload_n 0, 1, 0) := by decide +kernel
theorem f156_21 : q_fetch 156 21 = some (.invokevirtual 216, 3, 158) := by decide +kernel
theorem f156_24 : q_fetch 156 24 = some (.ireturn, 1, 0) := by decide +kernel
theorem f156_25 : q_fetch 156 25 = some (.aload_n 0, 1, 0) := by decide +kernel
theorem f156_26 : q_fetch 156 26 = some (.getfield 51, 3, 1183) := by decide +kernel
theorem f156_29 : q_fetch 156 29 = some (.bipush 6, 2, 0) := by decide +kernel
theorem f156_31 : q_fetch 156 31 = some (.aload_n 0, 1, 0) := by decide +kernel
theorem f156_32 : q_fetch 156 32 = some (.invokevirtual 212, 3, 157) := by decide +kernel
theorem f156_35 : q_fetch 156 35 = some (.sipush 300, 3, 0) := by decide +kernel
theorem f156_38 : q_fetch 156 38 = some (.if_icmp .ne (7), 3, 45) := by decide +kernel
theorem f156_41 : q_fetch 156 41 = some (.iconst 1, 1, 0) := by decide +kernel
theorem f156_42 : q_fetch 156 42 = some (.goto 4, 3, 46) := by decide +kernel
theorem f156_45 : q_fetch 156 45 = some (.iconst 0, 1, 0) := by decide +kernel
theorem f156_46 : q_fetch 156 46 = some (.bastore, 1, 0) := by decide +kernel
theorem f156_47 : q_fetch 156 47 = some (.aload_n 0, 1, 0) := by decide +kernel
theorem f156_48 : q_fetch 156 48 = some (.dup, 1, 0) := by decide +kernel
theorem f156_49 : q_fetch 156 49 = some (.getfield 209, 3, 1216) := by decide +kernel
theorem f156_52 : q_fetch 156 52 = some (.iconst 1, 1, 0) := by decide +kernel
theorem f156_53 : q_fetch 156 53 = some (.iadd, 1, 0) := by decide +kernel
theorem f156_54 : q_fetch 156 54 = some (.putfield 209, 3, 1216) := by decide +kernel
theorem f156_57 : q_fetch 156 57 = some (.aload_n 0, 1, 0) := by decide +kernel
theorem f156_58 : q_fetch 156 58 = some (.bipush 40, 2, 0) := by decide +kernel
theorem f156_60 : q_fetch 156 60 = some (.invokevirtual 223, 3, 159) := by decide +kernel
theorem f156_63 : q_fetch 156 63 = some (.ifCond .eq (57), 3, 120) := by decide +kernel
theorem f156_66 : q_fetch 156 66 = some (.aload_n 0, 1, 0) := by decide +kernel
theorem f156_67 : q_fetch 156 67 = some (.iconst 0, 1, 0) := by decide +kernel
theorem f156_68 : q_fetch 156 68 = some (.invokevirtual 226, 3, 160) := by decide +kernel
theorem f156_71 : q_fetch 156 71 = some (.ifCond .eq (49), 3, 120) := by decide +kernel
theorem f156_74 : q_fetch 156 74 = some (.aload_n 0, 1, 0) := by decide +kernel
theorem f156_75 : q_fetch 156 75 = some (.bipush 44, 2, 0) := by decide +kernel
theorem f156_77 : q_fetch 156 77 = some (.invokevirtual 223, 3, 159) := by decide +kernel
theorem f156_80 : q_fetch 156 80 = some (.ifCond .eq (40), 3, 120) := by decide +kernel
theorem f156_83 : q_fetch 156 83 = some (.aload_n 0, 1, 0) := by decide +kernel
theorem f156_84 : q_fetch 156 84 = some (.invokevirtual 229, 3, 162) := by decide +kernel
theorem f156_87 : q_fetch 156 87 = some (.ifCond .eq (33), 3, 120) := by decide +kernel
theorem f156_90 : q_fetch 156 90 = some (.aload_n 0, 1, 0) := by decide +kernel
theorem f156_91 : q_fetch 156 91 = some (.bipush 44, 2, 0) := by decide +kernel
theorem f156_93 : q_fetch 156 93 = some (.invokevirtual 223, 3, 159) := by decide +kernel
theorem f156_96 : q_fetch 156 96 = some (.ifCond .eq (24), 3, 120) := by decide +kernel
theorem f156_99 : q_fetch 156 99 = some (.aload_n 0, 1, 0) := by decide +kernel
theorem f156_100 : q_fetch 156 100 = some (.iconst 1, 1, 0) := by decide +kernel
theorem f156_101 : q_fetch 156 101 = some (.invokevirtual 226, 3, 160) := by decide +kernel
theorem f156_104 : q_fetch 156 104 = some (.ifCond .eq (16), 3, 120) := by decide +kernel
theorem f156_107 : q_fetch 156 107 = some (.aload_n 0, 1, 0) := by decide +kernel
theorem f156_108 : q_fetch 156 108 = some (.bipush 41, 2, 0) := by decide +kernel
theorem f156_110 : q_fetch 156 110 = some (.invokevirtual 223, 3, 159) := by decide +kernel
theorem f156_113 : q_fetch 156 113 = some (.ifCond .eq (7), 3, 120) := by decide +kernel
theorem f156_116 : q_fetch 156 116 = some (.iconst 1, 1, 0) := by decide +kernel
theorem f156_117 : q_fetch 156 117 = some (.goto 4, 3, 121) := by decide +kernel
theorem f156_120 : q_fetch 156 120 = some (.iconst 0, 1, 0) := by decide +kernel
theorem f156_121 : q_fetch 156 121 = some (.ireturn, 1, 0) := by decide +kernel
theorem f157_0 : q_fetch 157 0 = some (.aload_n 0, 1, 0) := by decide +kernel
theorem f157_1 : q_fetch 157 1 = some (.getfield 209, 3, 1216) := by decide +kernel
theorem f157_4 : q_fetch 157 4 = some (.aload_n 0, 1, 0) := by decide +kernel
theorem f157_5 : q_fetch 157 5 = some (.getfield 26, 3, 1167) := by decide +kernel
theorem f157_8 : q_fetch 157 8 = some (.bipush 6, 2, 0) := by decide +kernel
theorem f157_10 : q_fetch 157 10 = some (.iaload, 1, 0) := by decide +kernel
theorem f157_11 : q_fetch 157 11 = some (.if_icmp .ge (19), 3, 30) := by decide +kernel
theorem f157_14 : q_fetch 157 14 = some (.aload_n 0, 1, 0) := by decide +kernel
theorem f157_15 : q_fetch 157 15 = some (.getfield 17, 3, 1161) := by decide +kernel
theorem f157_18 : q_fetch 157 18 = some (.sipush 606, 3, 0) := by decide +kernel
theorem f157_21 : q_fetch 157 21 = some (.aload_n 0, 1, 0) := by decide +kernel
theorem f157_22 : q_fetch 157 22 = some (.getfield 209, 3, 1216) := by decide +kernel
theorem f157_25 : q_fetch 157 25 = some (.iadd, 1, 0) := by decide +kernel
theorem f157_26 : q_fetch 157 26 = some (.iaload, 1, 0) := by decide +kernel
theorem f157_27 : q_fetch 157 27 = some (.goto 4, 3, 31) := by decide +kernel
theorem f157_30 : q_fetch 157 30 = some (.iconst 0, 1, 0) := by decide +kernel
theorem f157_31 : q_fetch 157 31 = some (.ireturn, 1, 0) := by decide +kernel
theorem f158_0 : q_fetch 158 0 = some (.aload_n 0, 1, 0) := by decide +kernel
theorem f158_1 : q_fetch 158 1 = some (.aload_n 0, 1, 0) := by decide +kernel
theorem f158_2 : q_fetch 158 2 = some (.getfield 209, 3, 1216) := by decide +kernel
theorem f158_5 : q_fetch 158 5 = some (.aload_n 0, 1, 0) := by decide +kernel
theorem f158_6 : q_fetch 158 6 = some (.getfield 26, 3, 1167) := by decide +kernel
theorem f158_9 : q_fetch 158 9 = some (.bipush 6, 2, 0) := by decide +kernel
theorem f158_11 : q_fetch 158 11 = some (.iaload, 1, 0) := by decide +kernel
theorem f158_12 : q_fetch 158 12 = some (.if_icmp .ge (19), 3, 31) := by decide +kernel
theorem f158_15 : q_fetch 158 15 = some (.aload_n 0, 1, 0) := by decide +kernel
theorem f158_16 : q_fetch 158 16 = some (.getfield 23, 3, 1165) := by decide +kernel
theorem f158_19 : q_fetch 158 19 = some (.sipush 606, 3, 0) := by decide +kernel
theorem f158_22 : q_fetch 158 22 = some (.aload_n 0, 1, 0) := by decide +kernel
theorem f158_23 : q_fetch 158 23 = some (.getfield 209, 3, 1216) := by decide +kernel
theorem f158_26 : q_fetch 158 26 = some (.iadd, 1, 0) := by decide +kernel
theorem f158_27 : q_fetch 158 27 = some (.iaload, 1, 0) := by decide +kernel
theorem f158_28 : q_fetch 158 28 = some (.goto 7, 3, 35) := by decide +kernel
theorem f158_31 : q_fetch 158 31 = some (.aload_n 0, 1, 0) := by decide +kernel
theorem f158_32 : q_fetch 158 32 = some (.getfield 149, 3, 1158) := by decide +kernel
theorem f158_35 : q_fetch 158 35 = some (.putfield 9, 3, 1154) := by decide +kernel
theorem f158_38 : q_fetch 158 38 = some (.iconst 0, 1, 0) := by decide +kernel
theorem f158_39 : q_fetch 158 39 = some (.ireturn, 1, 0) := by decide +kernel
theorem f159_0 : q_fetch 159 0 = some (.aload_n 0, 1, 0) := by decide +kernel
theorem f159_1 : q_fetch 159 1 = some (.invokevirtual 212, 3, 157) := by decide +kernel
theorem f159_4 : q_fetch 159 4 = some (.iload_n 1, 1, 0) := by decide +kernel
theorem f159_5 : q_fetch 159 5 = some (.if_icmp .eq (8), 3, 13) := by decide +kernel
theorem f159_8 : q_fetch 159 8 = some (.aload_n 0, 1, 0) := by decide +kernel
theorem f159_9 : q_fetch 159 9 = some (.invokevirtual 216, 3, 158) := by decide +kernel
theorem f159_12 : q_fetch 159 12 = some (.ireturn, 1, 0) := by decide +kernel
theorem f159_13 : q_fetch 159 13 = some (.aload_n 0, 1, 0) := by decide +kernel
theorem f159_14 : q_fetch 159 14 = some (.dup, 1, 0) := by decide +kernel
theorem f159_15 : q_fetch 159 15 = some (.getfield 209, 3, 1216) := by decide +kernel
theorem f159_18 : q_fetch 159 18 = some (.iconst 1, 1, 0) := by decide +kernel
theorem f159_19 : q_fetch 159 19 = some (.iadd, 1, 0) := by decide +kernel
theorem f159_20 : q_fetch 159 20 = some (.putfield 209, 3, 1216) := by decide +kernel
theorem f159_23 : q_fetch 159 23 = some (.iconst 1, 1, 0) := by decide +kernel
theorem f159_24 : q_fetch 159 24 = some (.ireturn, 1, 0) := by decide +kernel
theorem f160_0 : q_fetch 160 0 = some (.aload_n 0, 1, 0) := by decide +kernel
theorem f160_1 : q_fetch 160 1 = some (.invokevirtual 212, 3, 157) := by decide +kernel
theorem f160_4 : q_fetch 160 4 = some (.istore_n 2, 1, 0) := by decide +kernel
theorem f160_5 : q_fetch 160 5 = some (.bipush 12, 2, 0) := by decide +kernel
theorem f160_7 : q_fetch 160 7 = some (.iload_n 1, 1, 0) := by decide +kernel
theorem f160_8 : q_fetch 160 8 = some (.iadd, 1, 0) := by decide +kernel
theorem f160_9 : q_fetch 160 9 = some (.istore_n 3, 1, 0) := by decide +kernel
theorem f160_10 : q_fetch 160 10 = some (.aload_n 0, 1, 0) := by decide +kernel
theorem f160_11 : q_fetch 160 11 = some (.getfield 54, 3, 1185) := by decide +kernel
theorem f160_14 : q_fetch 160 14 = some (.iload_n 3, 1, 0) := by decide +kernel
theorem f160_15 : q_fetch 160 15 = some (.iload_n 2, 1, 0) := by decide +kernel
theorem f160_16 : q_fetch 160 16 = some (.bipush 95, 2, 0) := by decide +kernel
theorem f160_18 : q_fetch 160 18 = some (.if_icmp .ne (7), 3, 25) := by decide +kernel
theorem f160_21 : q_fetch 160 21 = some (.iconst 0, 1, 0) := by decide +kernel
theorem f160_22 : q_fetch 160 22 = some (.goto 15, 3, 37) := by decide +kernel
theorem f160_25 : q_fetch 160 25 = some (.iload_n 2, 1, 0) := by decide +kernel
theorem f160_26 : q_fetch 160 26 = some (.sipush 304, 3, 0) := by decide +kernel
theorem f160_29 : q_fetch 160 29 = some (.if_icmp .ne (7), 3, 36) := by decide +kernel
theorem f160_32 : q_fetch 160 32 = some (.iconst 2, 1, 0) := by decide +kernel
theorem f160_33 : q_fetch 160 33 = some (.goto 4, 3, 37) := by decide +kernel
theorem f160_36 : q_fetch 160 36 = some (.iconst 1, 1, 0) := by decide +kernel
theorem f160_37 : q_fetch 160 37 = some (.iastore, 1, 0) := by decide +kernel
theorem f160_38 : q_fetch 160 38 = some (.iload_n 2, 1, 0) := by decide +kernel
theorem f160_39 : q_fetch 160 39 = some (.sipush 304, 3, 0) := by decide +kernel
theorem f160_42 : q_fetch 160 42 = some (.if_icmp .ne (13), 3, 55) := by decide +kernel
theorem f160_45 : q_fetch 160 45 = some (.aload_n 0, 1, 0) := by decide +kernel
theorem f160_46 : q_fetch 160 46 = some (.dup, 1, 0) := by decide +kernel
theorem f160_47 : q_fetch 160 47 = some (.getfield 209, 3, 1216) := by decide +kernel
theorem f160_50 : q_fetch 160 50 = some (.iconst 1, 1, 0) := by decide +kernel
theorem f160_51 : q_fetch 160 51 = some (.iadd, 1, 0) := by decide +kernel
theorem f160_52 : q_fetch 160 52 = some (.putfield 209, 3, 1216) := by decide +kernel
theorem f160_55 : q_fetch 160 55 = some (.aload_n 0, 1, 0) := by decide +kernel
theorem f160_56 : q_fetch 160 56 = some (.invokevirtual 212, 3, 157) := by decide +kernel
theorem f160_59 : q_fetch 160 59 = some (.iconst 2, 1, 0) := by decide +kernel
theorem f160_60 : q_fetch 160 60 = some (.if_icmp .eq (17), 3, 77) := by decide +kernel
theorem f160_63 : q_fetch 160 63 = some (.aload_n 0, 1, 0) := by decide +kernel
theorem f160_64 : q_fetch 160 64 = some (.getfield 54, 3, 1185) := by decide +kernel
theorem f160_67 : q_fetch 160 67 = some (.iload_n 3, 1, 0) := by decide +kernel
theorem f160_68 : q_fetch 160 68 = some (.iaload, 1, 0) := by decide +kernel
theorem f160_69 : q_fetch 160 69 = some (.ifCond .eq (8), 3, 77) := by decide +kernel
theorem f160_72 : q_fetch 160 72 = some (.aload_n 0, 1, 0) := by decide +kernel
theorem f160_73 : q_fetch 160 73 = some (.invokevirtual 216, 3, 158) := by decide +kernel
theorem f160_76 : q_fetch 160 76 = some (.ireturn, 1, 0) := by decide +kernel
theorem f160_77 : q_fetch 160 77 = some (.aload_n 0, 1, 0) := by decide +kernel
theorem f160_78 : q_fetch 160 78 = some (.getfield 57, 3, 1187) := by decide +kernel
theorem f160_81 : q_fetch 160 81 = some (.iload_n 3, 1, 0) := by decide +kernel
theorem f160_82 : q_fetch 160 82 = some (.aload_n 0, 1, 0) := by decide +kernel
theorem f160_83 : q_fetch 160 83 = some (.getfield 54, 3, 1185) := by decide +kernel
theorem f160_86 : q_fetch 160 86 = some (.iload_n 3, 1, 0) := by decide +kernel
theorem f160_87 : q_fetch 160 87 = some (.iaload, 1, 0) := by decide +kernel
theorem f160_88 : q_fetch 160 88 = some (.ifCond .ne (7), 3, 95) := by decide +kernel
theorem f160_91 : q_fetch 160 91 = some (.iconst 0, 1, 0) := by decide +kernel
theorem f160_92 : q_fetch 160 92 = some (.goto 7, 3, 99) := by decide +kernel
theorem f160_95 : q_fetch 160 95 = some (.aload_n 0, 1, 0) := by decide +kernel
theorem f160_96 : q_fetch 160 96 = some (.invokevirtual 220, 3, 161) := by decide +kernel
theorem f160_99 : q_fetch 160 99 = some (.iastore, 1, 0) := by decide +kernel
theorem f160_100 : q_fetch 160 100 = some (.aload_n 0, 1, 0) := by decide +kernel
theorem f160_101 : q_fetch 160 101 = some (.dup, 1, 0) := by decide +kernel
theorem f160_102 : q_fetch 160 102 = some (.getfield 209, 3, 1216) := by decide +kernel
theorem f160_105 : q_fetch 160 105 = some (.iconst 1, 1, 0) := by decide +kernel
theorem f160_106 : q_fetch 160 106 = some (.iadd, 1, 0) := by decide +kernel
theorem f160_107 : q_fetch 160 107 = some (.putfield 209, 3, 1216) := by decide +kernel
theorem f160_110 : q_fetch 160 110 = some (.iconst 1, 1, 0) := by decide +kernel
theorem f160_111 : q_fetch 160 111 = some (.ireturn, 1, 0) := by decide +kernel
theorem f161_0 : q_fetch 161 0 = some (.aload_n 0, 1, 0) := by decide +kernel
theorem f161_1 : q_fetch 161 1 = some (.getfield 20, 3, 1163) := by decide +kernel
theorem f161_4 : q_fetch 161 4 = some (.sipush 606, 3, 0) := by decide +kernel
theorem f161_7 : q_fetch 161 7 = some (.aload_n 0, 1, 0) := by decide +kernel
theorem f161_8 : q_fetch 161 8 = some (.getfield 209, 3, 1216) := by decide +kernel
theorem f161_11 : q_fetch 161 11 = some (.iadd, 1, 0) := by decide +kernel
theorem f161_12 : q_fetch 161 12 = some (.iaload, 1, 0) := by decide +kernel
theorem f161_13 : q_fetch 161 13 = some (.ireturn, 1, 0) := by decide +kernel
theorem f162_0 : q_fetch 162 0 = some (.aload_n 0, 1, 0) := by decide +kernel
theorem f162_1 : q_fetch 162 1 = some (.invokevirtual 212, 3, 157) := by decide +kernel
theorem f162_4 : q_fetch 162 4 = some (.istore_n 1, 1, 0) := by decide +kernel
theorem f162_5 : q_fetch 162 5 = some (.iload_n 1, 1, 0) := by decide +kernel
theorem f162_6 : q_fetch 162 6 = some (.bipush 95, 2, 0) := by decide +kernel
theorem f162_8 : q_fetch 162 8 = some (.if_icmp .eq (22), 3, 30) := by decide +kernel
theorem f162_11 : q_fetch 162 11 = some (.iload_n 1, 1, 0) := by decide +kernel
theorem f162_12 : q_fetch 162 12 = some (.iconst 1, 1, 0) := by decide +kernel
theorem f162_13 : q_fetch 162 13 = some (.if_icmp .ne (12), 3, 25) := by decide +kernel
theorem f162_16 : q_fetch 162 16 = some (.aload_n 0, 1, 0) := by decide +kernel
theorem f162_17 : q_fetch 162 17 = some (.invokevirtual 220, 3, 161) := by decide +kernel
theorem f162_20 : q_fetch 162 20 = some (.bipush 9, 2, 0) := by decide +kernel
theorem f162_22 : q_fetch 162 22 = some (.if_icmp .le (8), 3, 30) := by decide +kernel
theorem f162_25 : q_fetch 162 25 = some (.aload_n 0, 1, 0) := by decide +kernel
theorem f162_26 : q_fetch 162 26 = some (.invokevirtual 216, 3, 158) := by decide +kernel
theorem f162_29 : q_fetch 162 29 = some (.ireturn, 1, 0) := by decide +kernel
theorem f162_30 : q_fetch 162 30 = some (.aload_n 0, 1, 0) := by decide +kernel
theorem f162_31 : q_fetch 162 31 = some (.getfield 60, 3, 1189) := by decide +kernel
theorem f162_34 : q_fetch 162 34 = some (.bipush 6, 2, 0) := by decide +kernel
theorem f162_36 : q_fetch 162 36 = some (.iload_n 1, 1, 0) := by decide +kernel
theorem f162_37 : q_fetch 162 37 = some (.bipush 95, 2, 0) := by decide +kernel
theorem f162_39 : q_fetch 162 39 = some (.if_icmp .ne (7), 3, 46) := by decide +kernel
theorem f162_42 : q_fetch 162 42 = some (.iconst (-1), 1, 0) := by decide +kernel
theorem f162_43 : q_fetch 162 43 = some (.goto 7, 3, 50) := by decide +kernel
theorem f162_46 : q_fetch 162 46 = some (.aload_n 0, 1, 0) := by decide +kernel
theorem f162_47 : q_fetch 162 47 = some (.invokevirtual 220, 3, 161) := by decide +kernel
theorem f162_50 : q_fetch 162 50 = some (.iastore, 1, 0) := by decide +kernel
theorem f162_51 : q_fetch 162 51 = some (.aload_n 0, 1, 0) := by decide +kernel
theorem f162_52 : q_fetch 162 52 = some (.dup, 1, 0) := by decide +kernel
theorem f162_53 : q_fetch 162 53 = some (.getfield 209, 3, 1216) := by decide +kernel
theorem f162_56 : q_fetch 162 56 = some (.iconst 1, 1, 0) := by decide +kernel
theorem f162_57 : q_fetch 162 57 = some (.iadd, 1, 0) := by decide +kernel
theorem f162_58 : q_fetch 162 58 = some (.putfield 209, 3, 1216) := by decide +kernel
theorem f162_61 : q_fetch 162 61 = some (.iconst 1, 1, 0) := by decide +kernel
theorem f162_62 : q_fetch 162 62 = some (.ireturn, 1, 0) := by decide +kernel
theorem f163_0 : q_fetch 163 0 = some (.aload_n 0, 1, 0) := by decide +kernel
theorem f163_1 : q_fetch 163 1 = some (.iconst 0, 1, 0) := by decide +kernel
theorem f163_2 : q_fetch 163 2 = some (.putfield 244, 3, 1222) := by decide +kernel
theorem f163_5 : q_fetch 163 5 = some (.aload_n 0, 1, 0) := by decide +kernel
theorem f163_6 : q_fetch 163 6 = some (.iconst 0, 1, 0) := by decide +kernel
theorem f163_7 : q_fetch 163 7 = some (.iconst 0, 1, 0) := by decide +kernel
theorem f163_8 : q_fetch 163 8 = some (.invokevirtual 247, 3, 164) := by decide +kernel
theorem f163_11 : q_fetch 163 11 = some (.aload_n 0, 1, 0) := by decide +kernel
theorem f163_12 : q_fetch 163 12 = some (.getfield 244, 3, 1222) := by decide +kernel
theorem f163_15 : q_fetch 163 15 = some (.ifCond .le (12), 3, 27) := by decide +kernel
theorem f163_18 : q_fetch 163 18 = some (.aload_n 0, 1, 0) := by decide +kernel
theorem f163_19 : q_fetch 163 19 = some (.invokevirtual 251, 3, 165) := by decide +kernel
theorem f163_22 : q_fetch 163 22 = some (.ifCond .ne (-11), 3, 11) := by decide +kernel
theorem f163_25 : q_fetch 163 25 = some (.iconst 0, 1, 0) := by decide +kernel
theorem f163_26 : q_fetch 163 26 = some (.ireturn, 1, 0) := by decide +kernel
theorem f163_27 : q_fetch 163 27 = some (.iconst 1, 1, 0) := by decide +kernel
theorem f163_28 : q_fetch 163 28 = some (.ireturn, 1, 0) := by decide +kernel
theorem f164_0 : q_fetch 164 0 = some (.aload_n 0, 1, 0) := by decide +kernel
theorem f164_1 : q_fetch 164 1 = some (.getfield 99, 3, 1225) := by decide +kernel
theorem f164_4 : q_fetch 164 4 = some (.aload_n 0, 1, 0) := by decide +kernel
theorem f164_5 : q_fetch 164 5 = some (.getfield 244, 3, 1222) := by decide +kernel
theorem f164_8 : q_fetch 164 8 = some (.iload_n 1, 1, 0) := by decide +kernel
theorem f164_9 : q_fetch 164 9 = some (.iastore, 1, 0) := by decide +kernel
theorem f164_10 : q_fetch 164 10 = some (.aload_n 0, 1, 0) := by decide +kernel
theorem f164_11 : q_fetch 164 11 = some (.getfield 102, 3, 1227) := by decide +kernel
theorem f164_14 : q_fetch 164 14 = some (.aload_n 0, 1, 0) := by decide +kernel
theorem f164_15 : q_fetch 164 15 = some (.getfield 244, 3, 1222) := by decide +kernel
theorem f164_18 : q_fetch 164 18 = some (.iconst 0, 1, 0) := by decide +kernel
theorem f164_19 : q_fetch 164 19 = some (.iastore, 1, 0) := by decide +kernel
theorem f164_20 : q_fetch 164 20 = some (.aload_n 0, 1, 0) := by decide +kernel
theorem f164_21 : q_fetch 164 21 = some (.getfield 105, 3, 1229) := by decide +kernel
theorem f164_24 : q_fetch 164 24 = some (.aload_n 0, 1, 0) := by decide +kernel
theorem f164_25 : q_fetch 164 25 = some (.getfield 244, 3, 1222) := by decide +kernel
theorem f164_28 : q_fetch 164 28 = some (.iconst (-1), 1, 0) := by decide +kernel
theorem f164_29 : q_fetch 164 29 = some (.iastore, 1, 0) := by decide +kernel
theorem f164_30 : q_fetch 164 30 = some (.aload_n 0, 1, 0) := by decide +kernel
theorem f164_31 : q_fetch 164 31 = some (.getfield 108, 3, 1231) := by decide +kernel
theorem f164_34 : q_fetch 164 34 = some (.aload_n 0, 1, 0) := by decide +kernel
theorem f164_35 : q_fetch 164 35 = some (.getfield 244, 3, 1222) := by decide +kernel
theorem f164_38 : q_fetch 164 38 = some (.iload_n 2, 1, 0) := by decide +kernel
theorem f164_39 : q_fetch 164 39 = some (.iastore, 1, 0) := by decide +kernel
theorem f164_40 : q_fetch 164 40 = some (.aload_n 0, 1, 0) := by decide +kernel
theorem f164_41 : q_fetch 164 41 = some (.dup, 1, 0) := by decide +kernel
theorem f164_42 : q_fetch 164 42 = some (.getfield 244, 3, 1222) := by decide +kernel
theorem f164_45 : q_fetch 164 45 = some (.iconst 1, 1, 0) := by decide +kernel
theorem f164_46 : q_fetch 164 46 = some (.iadd, 1, 0) := by decide +kernel
theorem f164_47 : q_fetch 164 47 = some (.putfield 244, 3, 1222) := by decide +kernel
theorem f164_50 : q_fetch 164 50 = some (.return_, 1, 0) := by decide +kernel
theorem f165_0 : q_fetch 165 0 = some (.aload_n 0, 1, 0) := by decide +kernel
theorem f165_1 : q_fetch 165 1 = some (.getfield 99, 3, 1225) := by decide +kernel
theorem f165_4 : q_fetch 165 4 = some (.aload_n 0, 1, 0) := by decide +kernel
theorem f165_5 : q_fetch 165 5 = some (.getfield 244, 3, 1222) := by decide +kernel
theorem f165_8 : q_fetch 165 8 = some (.iconst 1, 1, 0) := by decide +kernel
theorem f165_9 : q_fetch 165 9 = some (.isub, 1, 0) := by decide +kernel
theorem f165_10 : q_fetch 165 10 = some (.iaload, 1, 0) := by decide +kernel
theorem f165_11 : q_fetch 165 11 = some (.istore_n 1, 1, 0) := by decide +kernel
theorem f165_12 : q_fetch 165 12 = some (.iload_n 1, 1, 0) := by decide +kernel
theorem f165_13 : q_fetch 165 13 = some (.iconst 2, 1, 0) := by decide +kernel
theorem f165_14 : q_fetch 165 14 = some (.if_icmp .ne (8), 3, 22) := by decide +kernel
theorem f165_17 : q_fetch 165 17 = some (.aload_n 0, 1, 0) := by decide +kernel
theorem f165_18 : q_fetch 165 18 = some (.invokevirtual 254, 3, 166) := by decide +kernel
theorem f165_21 : q_fetch 165 21 = some (.ireturn, 1, 0) := by decide +kernel
theorem f165_22 : q_fetch 165 22 = some (.iload_n 1, 1, 0) := by decide +kernel
theorem f165_23 : q_fetch 165 23 = some (.iconst 5, 1, 0) := by decide +kernel
theorem f165_24 : q_fetch 165 24 = some (.if_icmp .ne (8), 3, 32) := by decide +kernel
theorem f165_27 : q_fetch 165 27 = some (.aload_n 0, 1, 0) := by decide +kernel
theorem f165_28 : q_fetch 165 28 = some (.invokevirtual 257, 3, 169) := by decide +kernel
theorem f165_31 : q_fetch 165 31 = some (.ireturn, 1, 0) := by decide +kernel
theorem f165_32 : q_fetch 165 32 = some (.iload_n 1, 1, 0) := by decide +kernel
theorem f165_33 : q_fetch 165 33 = some (.bipush 6, 2, 0) := by decide +kernel
theorem f165_35 : q_fetch 165 35 = some (.if_icmp .ne (10), 3, 45) := by decide +kernel
theorem f165_38 : q_fetch 165 38 = some (.aload_n 0, 1, 0) := by decide +kernel
theorem f165_39 : q_fetch 165 39 = some (.invokevirtual 260, 3, 170) := by decide +kernel
theorem f165_42 : q_fetch 165 42 = some (.goto 8, 3, 50) := by decide +kernel
theorem f165_45 : q_fetch 165 45 = some (.aload_n 0, 1, 0) := by decide +kernel
theorem f165_46 : q_fetch 165 46 = some (.iload_n 1, 1, 0) := by decide +kernel
theorem f165_47 : q_fetch 165 47 = some (.invokevirtual 263, 3, 171) := by decide +kernel
theorem f165_50 : q_fetch 165 50 = some (.ireturn, 1, 0) := by decide +kernel
theorem f166_0 : q_fetch 166 0 = some (.aload_n 0, 1, 0) := by decide +kernel
theorem f166_1 : q_fetch 166 1 = some (.getfield 244, 3, 1222) := by decide +kernel
theorem f166_4 : q_fetch 166 4 = some (.iconst 1, 1, 0) := by decide +kernel
theorem f166_5 : q_fetch 166 5 = some (.isub, 1, 0) := by decide +kernel
theorem f166_6 : q_fetch 166 6 = some (.istore_n 1, 1, 0) := by decide +kernel
theorem f166_7 : q_fetch 166 7 = some (.aload_n 0, 1, 0) := by decide +kernel
theorem f166_8 : q_fetch 166 8 = some (.invokevirtual 212, 3, 157) := by decide +kernel
theorem f166_11 : q_fetch 166 11 = some (.istore_n 2, 1, 0) := by decide +kernel
theorem f166_12 : q_fetch 166 12 = some (.aload_n 0, 1, 0) := by decide +kernel
theorem f166_13 : q_fetch 166 13 = some (.getfield 102, 3, 1227) := by decide +kernel
theorem f166_16 : q_fetch 166 16 = some (.iload_n 1, 1, 0) := by decide +kernel
theorem f166_17 : q_fetch 166 17 = some (.iaload, 1, 0) := by decide +kernel
theorem f166_18 : q_fetch 166 18 = some (.ifCond .ne (24), 3, 42) := by decide +kernel
theorem f166_21 : q_fetch 166 21 = some (.aload_n 0, 1, 0) := by decide +kernel
theorem f166_22 : q_fetch 166 22 = some (.getfield 102, 3, 1227) := by decide +kernel
theorem f166_25 : q_fetch 166 25 = some (.iload_n 1, 1, 0) := by decide +kernel
theorem f166_26 : q_fetch 166 26 = some (.iconst 1, 1, 0) := by decide +kernel
theorem f166_27 : q_fetch 166 27 = some (.iastore, 1, 0) := by decide +kernel
theorem f166_28 : q_fetch 166 28 = some (.aload_n 0, 1, 0) := by decide +kernel
theorem f166_29 : q_fetch 166 29 = some (.iconst 3, 1, 0) := by decide +kernel
theorem f166_30 : q_fetch 166 30 = some (.aload_n 0, 1, 0) := by decide +kernel
theorem f166_31 : q_fetch 166 31 = some (.getfield 108, 3, 1231) := by decide +kernel
theorem f166_34 : q_fetch 166 34 = some (.iload_n 1, 1, 0) := by decide +kernel
theorem f166_35 : q_fetch 166 35 = some (.iaload, 1, 0) := by decide +kernel
theorem f166_36 : q_fetch 166 36 = some (.invokevirtual 247, 3, 164) := by decide +kernel
theorem f166_39 : q_fetch 166 39 = some (.goto 245, 3, 284) := by decide +kernel
theorem f166_42 : q_fetch 166 42 = some (.aload_n 0, 1, 0) := by decide +kernel
theorem f166_43 : q_fetch 166 43 = some (.getfield 102, 3, 1227) := by decide +kernel
theorem f166_46 : q_fetch 166 46 = some (.iload_n 1, 1, 0) := by decide +kernel
theorem f166_47 : q_fetch 166 47 = some (.iaload, 1, 0) := by decide +kernel
theorem f166_48 : q_fetch 166 48 = some (.iconst 1, 1, 0) := by decide +kernel
theorem f166_49 : q_fetch 166 49 = some (.if_icmp .ne (195), 3, 244) := by decide +kernel
theorem f166_52 : q_fetch 166 52 = some (.aload_n 0, 1, 0) := by decide +kernel
theorem f166_53 : q_fetch 166 53 = some (.getfield 105, 3, 1229) := by decide +kernel
theorem f166_56 : q_fetch 166 56 = some (.iload_n 1, 1, 0) := by decide +kernel
theorem f166_57 : q_fetch 166 57 = some (.aload_n 0, 1, 0) := by decide +kernel
theorem f166_58 : q_fetch 166 58 = some (.getfield 241, 3, 1218) := by decide +kernel
theorem f166_61 : q_fetch 166 61 = some (.iastore, 1, 0) := by decide +kernel
theorem f166_62 : q_fetch 166 62 = some (.iload_n 2, 1, 0) := by decide +kernel
theorem f166_63 : q_fetch 166 63 = some (.sipush 305, 3, 0) := by decide +kernel
theorem f166_66 : q_fetch 166 66 = some (.if_icmp .ne (91), 3, 157) := by decide +kernel
theorem f166_69 : q_fetch 166 69 = some (.aload_n 0, 1, 0) := by decide +kernel
theorem f166_70 : q_fetch 166 70 = some (.getfield 111, 3, 1233) := by decide +kernel
theorem f166_73 : q_fetch 166 73 = some (.iload_n 1, 1, 0) := by decide +kernel
theorem f166_74 : q_fetch 166 74 = some (.aload_n 0, 1, 0) := by decide +kernel
theorem f166_75 : q_fetch 166 75 = some (.getfield 209, 3, 1216) := by decide +kernel
theorem f166_78 : q_fetch 166 78 = some (.iastore, 1, 0) := by decide +kernel
theorem f166_79 : q_fetch 166 79 = some (.aload_n 0, 1, 0) := by decide +kernel
theorem f166_80 : q_fetch 166 80 = some (.dup, 1, 0) := by decide +kernel
theorem f166_81 : q_fetch 166 81 = some (.getfield 209, 3, 1216) := by decide +kernel
theorem f166_84 : q_fetch 166 84 = some (.iconst 1, 1, 0) := by decide +kernel
theorem f166_85 : q_fetch 166 85 = some (.iadd, 1, 0) := by decide +kernel
theorem f166_86 : q_fetch 166 86 = some (.putfield 209, 3, 1216) := by decide +kernel
theorem f166_89 : q_fetch 166 89 = some (.aload_n 0, 1, 0) := by decide +kernel
theorem f166_90 : q_fetch 166 90 = some (.invokevirtual 212, 3, 157) := by decide +kernel
theorem f166_93 : q_fetch 166 93 = some (.sipush 310, 3, 0) := by decide +kernel
theorem f166_96 : q_fetch 166 96 = some (.sipush 312, 3, 0) := by decide +kernel
theorem f166_99 : q_fetch 166 99 = some (.invokestatic 141, 3, 145) := by decide +kernel
theorem f166_102 : q_fetch 166 102 = some (.ifCond .ne (8), 3, 110) := by decide +kernel
theorem f166_105 : q_fetch 166 105 = some (.aload_n 0, 1, 0) := by decide +kernel
theorem f166_106 : q_fetch 166 106 = some (.invokevirtual 216, 3, 158) := by decide +kernel
theorem f166_109 : q_fetch 166 109 = some (.ireturn, 1, 0) := by decide +kernel
theorem f166_110 : q_fetch 166 110 = some (.aload_n 0, 1, 0) := by decide +kernel
theorem f166_111 : q_fetch 166 111 = some (.invokevirtual 212, 3, 157) := by decide +kernel
theorem f166_114 : q_fetch 166 114 = some (.sipush 310, 3, 0) := by decide +kernel
theorem f166_117 : q_fetch 166 117 = some (.isub, 1, 0) := by decide +kernel
theorem f166_118 : q_fetch 166 118 = some (.istore_n 3, 1, 0) := by decide +kernel
theorem f166_119 : q_fetch 166 119 = some (.aload_n 0, 1, 0) := by decide +kernel
theorem f166_120 : q_fetch 166 120 = some (.dup, 1, 0) := by decide +kernel
theorem f166_121 : q_fetch 166 121 = some (.getfield 209, 3, 1216) := by decide +kernel
theorem f166_124 : q_fetch 166 124 = some (.iconst 1, 1, 0) := by decide +kernel
theorem f166_125 : q_fetch 166 125 = some (.iadd, 1, 0) := by decide +kernel
theorem f166_126 : q_fetch 166 126 = some (.putfield 209, 3, 1216) := by decide +kernel
theorem f166_129 : q_fetch 166 129 = some (.aload_n 0, 1, 0) := by decide +kernel
theorem f166_130 : q_fetch 166 130 = some (.aload_n 0, 1, 0) := by decide +kernel
theorem f166_131 : q_fetch 166 131 = some (.sipush 305, 3, 0) := by decide +kernel
theorem f166_134 : q_fetch 166 134 = some (.aload_n 0, 1, 0) := by decide +kernel
theorem f166_135 : q_fetch 166 135 = some (.getfield 105, 3, 1229) := by decide +kernel
theorem f166_138 : q_fetch 166 138 = some (.iload_n 1, 1, 0) := by decide +kernel
theorem f166_139 : q_fetch 166 139 = some (.iaload, 1, 0) := by decide +kernel
theorem f166_140 : q_fetch 166 140 = some (.iconst (-1), 1, 0) := by decide +kernel
theorem f166_141 : q_fetch 166 141 = some (.iload_n 3, 1, 0) := by decide +kernel
theorem f166_142 : q_fetch 166 142 = some (.aload_n 0, 1, 0) := by decide +kernel
theorem f166_143 : q_fetch 166 143 = some (.getfield 111, 3, 1233) := by decide +kernel
theorem f166_146 : q_fetch 166 146 = some (.iload_n 1, 1, 0) := by decide +kernel
theorem f166_147 : q_fetch 166 147 = some (.iaload, 1, 0) := by decide +kernel
theorem f166_148 : q_fetch 166 148 = some (.invokevirtual 266, 3, 167) := by decide +kernel
theorem f166_151 : q_fetch 166 151 = some (.invokevirtual 274, 3, 168) := by decide +kernel
theorem f166_154 : q_fetch 166 154 = some (.goto 130, 3, 284) := by decide +kernel
theorem f166_157 : q_fetch 166 157 = some (.iload_n 2, 1, 0) := by decide +kernel
theorem f166_158 : q_fetch 166 158 = some (.sipush 200, 3, 0) := by decide +kernel
theorem f166_161 : q_fetch 166 161 = some (.if_icmp .eq (31), 3, 192) := by decide +kernel
theorem f166_164 : q_fetch 166 164 = some (.iload_n 2, 1, 0) := by decide +kernel
theorem f166_165 : q_fetch 166 165 = some (.sipush 201, 3, 0) := by decide +kernel
theorem f166_168 : q_fetch 166 168 = some (.if_icmp .eq (24), 3, 192) := by decide +kernel
theorem f166_171 : q_fetch 166 171 = some (.iload_n 2, 1, 0) := by decide +kernel
theorem f166_172 : q_fetch 166 172 = some (.sipush 202, 3, 0) := by decide +kernel
theorem f166_175 : q_fetch 166 175 = some (.if_icmp .eq (17), 3, 192) := by decide +kernel
theorem f166_178 : q_fetch 166 178 = some (.iload_n 2, 1, 0) := by decide +kernel
theorem f166_179 : q_fetch 166 179 = some (.sipush 203, 3, 0) := by decide +kernel
theorem f166_182 : q_fetch 166 182 = some (.if_icmp .eq (10), 3, 192) := by decide +kernel
theorem f166_185 : q_fetch 166 185 = some (.iload_n 2, 1, 0) := by decide +kernel
theorem f166_186 : q_fetch 166 186 = some (.sipush 304, 3, 0) := by decide +kernel
theorem f166_189 : q_fetch 166 189 = some (.if_icmp .ne (44), 3, 233) := by decide +kernel
theorem f166_192 : q_fetch 166 192 = some (.aload_n 0, 1, 0) := by decide +kernel
theorem f166_193 : q_fetch 166 193 = some (.getfield 111, 3, 1233) := by decide +kernel
theorem f166_196 : q_fetch 166 196 = some (.iload_n 1, 1, 0) := by decide +kernel
theorem f166_197 : q_fetch 166 197 = some (.aload_n 0, 1, 0) := by decide +kernel
theorem f166_198 : q_fetch 166 198 = some (.getfield 209, 3, 1216) := by decide +kernel
theorem f166_201 : q_fetch 166 201 = some (.iastore, 1, 0) := by decide +kernel
theorem f166_202 : q_fetch 166 202 = some (.aload_n 0, 1, 0) := by decide +kernel
theorem f166_203 : q_fetch 166 203 = some (.dup, 1, 0) := by decide +kernel
theorem f166_204 : q_fetch 166 204 = some (.getfield 209, 3, 1216) := by decide +kernel
theorem f166_207 : q_fetch 166 207 = some (.iconst 1, 1, 0) := by decide +kernel
theorem f166_208 : q_fetch 166 208 = some (.iadd, 1, 0) := by decide +kernel
theorem f166_209 : q_fetch 166 209 = some (.putfield 209, 3, 1216) := by decide +kernel
theorem f166_212 : q_fetch 166 212 = some (.aload_n 0, 1, 0) := by decide +kernel
theorem f166_213 : q_fetch 166 213 = some (.getfield 102, 3, 1227) := by decide +kernel
theorem f166_216 : q_fetch 166 216 = some (.iload_n 1, 1, 0) := by decide +kernel
theorem f166_217 : q_fetch 166 217 = some (.iconst 2, 1, 0) := by decide +kernel
theorem f166_218 : q_fetch 166 218 = some (.iastore, 1, 0) := by decide +kernel
theorem f166_219 : q_fetch 166 219 = some (.aload_n 0, 1, 0) := by decide +kernel
theorem f166_220 : q_fetch 166 220 = some (.iconst 3, 1, 0) := by decide +kernel
theorem f166_221 : q_fetch 166 221 = some (.aload_n 0, 1, 0) := by decide +kernel
theorem f166_222 : q_fetch 166 222 = some (.getfield 108, 3, 1231) := by decide +kernel
theorem f166_225 : q_fetch 166 225 = some (.iload_n 1, 1, 0) := by decide +kernel
theorem f166_226 : q_fetch 166 226 = some (.iaload, 1, 0) := by decide +kernel
theorem f166_227 : q_fetch 166 227 = some (.invokevirtual 247, 3, 164) := by decide +kernel
theorem f166_230 : q_fetch 166 230 = some (.goto 54, 3, 284) := by decide +kernel
theorem f166_233 : q_fetch 166 233 = some (.aload_n 0, 1, 0) := by decide +kernel
theorem f166_234 : q_fetch 166 234 = some (.aload_n 0, 1, 0) := by decide +kernel
theorem f166_235 : q_fetch 166 235 = some (.getfield 241, 3, 1218) := by decide +kernel
theorem f166_238 : q_fetch 166 238 = some (.invokevirtual 274, 3, 168) := by decide +kernel
theorem f166_241 : q_fetch 166 241 = some (.goto 43, 3, 284) := by decide +kernel
theorem f166_244 : q_fetch 166 244 = some (.aload_n 0, 1, 0) := by decide +kernel
theorem f166_245 : q_fetch 166 245 = some (.aload_n 0, 1, 0) := by decide +kernel
theorem f166_246 : q_fetch 166 246 = some (.aload_n 0, 1, 0) := by decide +kernel
theorem f166_247 : q_fetch 166 247 = some (.getfield 17, 3, 1161) := by decide +kernel
theorem f166_250 : q_fetch 166 250 = some (.sipush 606, 3, 0) := by decide +kernel
theorem f166_253 : q_fetch 166 253 = some (.aload_n 0, 1, 0) := by decide +kernel
theorem f166_254 : q_fetch 166 254 = some (.getfield 111, 3, 1233) := by decide +kernel
theorem f166_257 : q_fetch 166 257 = some (.iload_n 1, 1, 0) := by decide +kernel
theorem f166_258 : q_fetch 166 258 = some (.iaload, 1, 0) := by decide +kernel
theorem f166_259 : q_fetch 166 259 = some (.iadd, 1, 0) := by decide +kernel
theorem f166_260 : q_fetch 166 260 = some (.iaload, 1, 0) := by decide +kernel
theorem f166_261 : q_fetch 166 261 = some (.aload_n 0, 1, 0) := by decide +kernel
theorem f166_262 : q_fetch 166 262 = some (.getfield 105, 3, 1229) := by decide +kernel
theorem f166_265 : q_fetch 166 265 = some (.iload_n 1, 1, 0) := by decide +kernel
theorem f166_266 : q_fetch 166 266 = some (.iaload, 1, 0) := by decide +kernel
theorem f166_267 : q_fetch 166 267 = some (.aload_n 0, 1, 0) := by decide +kernel
theorem f166_268 : q_fetch 166 268 = some (.getfield 241, 3, 1218) := by decide +kernel
theorem f166_271 : q_fetch 166 271 = some (.iconst 0, 1, 0) := by decide +kernel
theorem f166_272 : q_fetch 166 272 = some (.aload_n 0, 1, 0) := by decide +kernel
theorem f166_273 : q_fetch 166 273 = some (.getfield 111, 3, 1233) := by decide +kernel
theorem f166_276 : q_fetch 166 276 = some (.iload_n 1, 1, 0) := by decide +kernel
theorem f166_277 : q_fetch 166 277 = some (.iaload, 1, 0) := by decide +kernel
theorem f166_278 : q_fetch 166 278 = some (.invokevirtual 266, 3, 167) := by decide +kernel
theorem f166_281 : q_fetch 166 281 = some (.invokevirtual 274, 3, 168) := by decide +kernel
theorem f166_284 : q_fetch 166 284 = some (.iconst 1, 1, 0) := by decide +kernel
theorem f166_285 : q_fetch 166 285 = some (.ireturn, 1, 0) := by decide +kernel
theorem f167_0 : q_fetch 167 0 = some (.sipush 606, 3, 0) := by decide +kernel
theorem f167_3 : q_fetch 167 3 = some (.aload_n 0, 1, 0) := by decide +kernel
theorem f167_4 : q_fetch 167 4 = some (.getfield 44, 3, 1179) := by decide +kernel
theorem f167_7 : q_fetch 167 7 = some (.bipush 6, 2, 0) := by decide +kernel
theorem f167_9 : q_fetch 167 9 = some (.iaload, 1, 0) := by decide +kernel
theorem f167_10 : q_fetch 167 10 = some (.iadd, 1, 0) := by decide +kernel
theorem f167_11 : q_fetch 167 11 = some (.istore 6, 2, 0) := by decide +kernel
theorem f167_13 : q_fetch 167 13 = some (.aload_n 0, 1, 0) := by decide +kernel
theorem f167_14 : q_fetch 167 14 = some (.getfield 29, 3, 1169) := by decide +kernel
theorem f167_17 : q_fetch 167 17 = some (.iload 6, 2, 0) := by decide +kernel
theorem f167_19 : q_fetch 167 19 = some (.iload_n 1, 1, 0) := by decide +kernel
theorem f167_20 : q_fetch 167 20 = some (.iastore, 1, 0) := by decide +kernel
theorem f167_21 : q_fetch 167 21 = some (.aload_n 0, 1, 0) := by decide +kernel
theorem f167_22 : q_fetch 167 22 = some (.getfield 32, 3, 1171) := by decide +kernel
theorem f167_25 : q_fetch 167 25 = some (.iload 6, 2, 0) := by decide +kernel
theorem f167_27 : q_fetch 167 27 = some (.iload_n 2, 1, 0) := by decide +kernel
theorem f167_28 : q_fetch 167 28 = some (.iastore, 1, 0) := by decide +kernel
theorem f167_29 : q_fetch 167 29 = some (.aload_n 0, 1, 0) := by decide +kernel
theorem f167_30 : q_fetch 167 30 = some (.getfield 35, 3, 1173) := by decide +kernel
theorem f167_33 : q_fetch 167 33 = some (.iload 6, 2, 0) := by decide +kernel
theorem f167_35 : q_fetch 167 35 = some (.iload_n 3, 1, 0) := by decide +kernel
theorem f167_36 : q_fetch 167 36 = some (.iastore, 1, 0) := by decide +kernel
theorem f167_37 : q_fetch 167 37 = some (.aload_n 0, 1, 0) := by decide +kernel
theorem f167_38 : q_fetch 167 38 = some (.getfield 38, 3, 1175) := by decide +kernel
theorem f167_41 : q_fetch 167 41 = some (.iload 6, 2, 0) := by decide +kernel
theorem f167_43 : q_fetch 167 43 = some (.iload 4, 2, 0) := by decide +kernel
theorem f167_45 : q_fetch 167 45 = some (.iastore, 1, 0) := by decide +kernel
theorem f167_46 : q_fetch 167 46 = some (.aload_n 0, 1, 0) := by decide +kernel
theorem f167_47 : q_fetch 167 47 = some (.getfield 41, 3, 1177) := by decide +kernel
theorem f167_50 : q_fetch 167 50 = some (.iload 6, 2, 0) := by decide +kernel
theorem f167_52 : q_fetch 167 52 = some (.iload 5, 2, 0) := by decide +kernel
theorem f167_54 : q_fetch 167 54 = some (.iastore, 1, 0) := by decide +kernel
theorem f167_55 : q_fetch 167 55 = some (.aload_n 0, 1, 0) := by decide +kernel
theorem f167_56 : q_fetch 167 56 = some (.getfield 44, 3, 1179) := by decide +kernel
theorem f167_59 : q_fetch 167 59 = some (.bipush 6, 2, 0) := by decide +kernel
theorem f167_61 : q_fetch 167 61 = some (.dup2, 1, 0) := by decide +kernel
theorem f167_62 : q_fetch 167 62 = some (.iaload, 1, 0) := by decide +kernel
theorem f167_63 : q_fetch 167 63 = some (.iconst 1, 1, 0) := by decide +kernel
theorem f167_64 : q_fetch 167 64 = some (.iadd, 1, 0) := by decide +kernel
theorem f167_65 : q_fetch 167 65 = some (.iastore, 1, 0) := by decide +kernel
theorem f167_66 : q_fetch 167 66 = some (.aload_n 0, 1, 0) := by decide +kernel
theorem f167_67 : q_fetch 167 67 = some (.getfield 44, 3, 1179) := by decide +kernel
theorem f167_70 : q_fetch 167 70 = some (.bipush 6, 2, 0) := by decide +kernel
theorem f167_72 : q_fetch 167 72 = some (.iaload, 1, 0) := by decide +kernel
theorem f167_73 : q_fetch 167 73 = some (.iconst 1, 1, 0) := by decide +kernel
theorem f167_74 : q_fetch 167 74 = some (.isub, 1, 0) := by decide +kernel
theorem f167_75 : q_fetch 167 75 = some (.ireturn, 1, 0) := by decide +kernel
theorem f168_0 : q_fetch 168 0 = some (.aload_n 0, 1, 0) := by decide +kernel
theorem f168_1 : q_fetch 168 1 = some (.dup, 1, 0) := by decide +kernel
theorem f168_2 : q_fetch 168 2 = some (.getfield 244, 3, 1222) := by decide +kernel
theorem f168_5 : q_fetch 168 5 = some (.iconst 1, 1, 0) := by decide +kernel
theorem f168_6 : q_fetch 168 6 = some (.isub, 1, 0) := by decide +kernel
theorem f168_7 : q_fetch 168 7 = some (.putfield 244, 3, 1222) := by decide +kernel
theorem f168_10 : q_fetch 168 10 = some (.aload_n 0, 1, 0) := by decide +kernel
theorem f168_11 : q_fetch 168 11 = some (.iload_n 1, 1, 0) := by decide +kernel
theorem f168_12 : q_fetch 168 12 = some (.putfield 241, 3, 1218) := by decide +kernel
theorem f168_15 : q_fetch 168 15 = some (.return_, 1, 0) := by decide +kernel
theorem f169_0 : q_fetch 169 0 = some (.aload_n 0, 1, 0) := by decide +kernel
theorem f169_1 : q_fetch 169 1 = some (.getfield 244, 3, 1222) := by decide +kernel
theorem f169_4 : q_fetch 169 4 = some (.iconst 1, 1, 0) := by decide +kernel
theorem f169_5 : q_fetch 169 5 = some (.isub, 1, 0) := by decide +kernel
theorem f169_6 : q_fetch 169 6 = some (.istore_n 1, 1, 0) := by decide +kernel
theorem f169_7 : q_fetch 169 7 = some (.aload_n 0, 1, 0) := by decide +kernel
theorem f169_8 : q_fetch 169 8 = some (.invokevirtual 212, 3, 157) := by decide +kernel
theorem f169_11 : q_fetch 169 11 = some (.istore_n 2, 1, 0) := by decide +kernel
theorem f169_12 : q_fetch 169 12 = some (.aload_n 0, 1, 0) := by decide +kernel
theorem f169_13 : q_fetch 169 13 = some (.getfield 102, 3, 1227) := by decide +kernel
theorem f169_16 : q_fetch 169 16 = some (.iload_n 1, 1, 0) := by decide +kernel
theorem f169_17 : q_fetch 169 17 = some (.iaload, 1, 0) := by decide +kernel
theorem f169_18 : q_fetch 169 18 = some (.iconst 1, 1, 0) := by decide +kernel
theorem f169_19 : q_fetch 169 19 = some (.if_icmp .ne (41), 3, 60) := by decide +kernel
theorem f169_22 : q_fetch 169 22 = some (.aload_n 0, 1, 0) := by decide +kernel
theorem f169_23 : q_fetch 169 23 = some (.aload_n 0, 1, 0) := by decide +kernel
theorem f169_24 : q_fetch 169 24 = some (.aload_n 0, 1, 0) := by decide +kernel
theorem f169_25 : q_fetch 169 25 = some (.getfield 17, 3, 1161) := by decide +kernel
theorem f169_28 : q_fetch 169 28 = some (.sipush 606, 3, 0) := by decide +kernel
theorem f169_31 : q_fetch 169 31 = some (.aload_n 0, 1, 0) := by decide +kernel
theorem f169_32 : q_fetch 169 32 = some (.getfield 111, 3, 1233) := by decide +kernel
theorem f169_35 : q_fetch 169 35 = some (.iload_n 1, 1, 0) := by decide +kernel
theorem f169_36 : q_fetch 169 36 = some (.iaload, 1, 0) := by decide +kernel
theorem f169_37 : q_fetch 169 37 = some (.iadd, 1, 0) := by decide +kernel
theorem f169_38 : q_fetch 169 38 = some (.iaload, 1, 0) := by decide +kernel
theorem f169_39 : q_fetch 169 39 = some (.aload_n 0, 1, 0) := by decide +kernel
theorem f169_40 : q_fetch 169 40 = some (.getfield 241, 3, 1218) := by decide +kernel
theorem f169_43 : q_fetch 169 43 = some (.iconst (-1), 1, 0) := by decide +kernel
theorem f169_44 : q_fetch 169 44 = some (.iconst 0, 1, 0) := by decide +kernel
theorem f169_45 : q_fetch 169 45 = some (.aload_n 0, 1, 0) := by decide +kernel
theorem f169_46 : q_fetch 169 46 = some (.getfield 111, 3, 1233) := by decide +kernel
theorem f169_49 : q_fetch 169 49 = some (.iload_n 1, 1, 0) := by decide +kernel
theorem f169_50 : q_fetch 169 50 = some (.iaload, 1, 0) := by decide +kernel
theorem f169_51 : q_fetch 169 51 = some (.invokevirtual 266, 3, 167) := by decide +kernel
theorem f169_54 : q_fetch 169 54 = some (.invokevirtual 274, 3, 168) := by decide +kernel
theorem f169_57 : q_fetch 169 57 = some (.goto 114, 3, 171) := by decide +kernel
theorem f169_60 : q_fetch 169 60 = some (.aload_n 0, 1, 0) := by decide +kernel
theorem f169_61 : q_fetch 169 61 = some (.getfield 102, 3, 1227) := by decide +kernel
theorem f169_64 : q_fetch 169 64 = some (.iload_n 1, 1, 0) := by decide +kernel
theorem f169_65 : q_fetch 169 65 = some (.iaload, 1, 0) := by decide +kernel
theorem f169_66 : q_fetch 169 66 = some (.iconst 2, 1, 0) := by decide +kernel
theorem f169_67 : q_fetch 169 67 = some (.if_icmp .ne (14), 3, 81) := by decide +kernel
theorem f169_70 : q_fetch 169 70 = some (.aload_n 0, 1, 0) := by decide +kernel
theorem f169_71 : q_fetch 169 71 = some (.aload_n 0, 1, 0) := by decide +kernel
theorem f169_72 : q_fetch 169 72 = some (.getfield 241, 3, 1218) := by decide +kernel
theorem f169_75 : q_fetch 169 75 = some (.invokevirtual 274, 3, 168) := by decide +kernel
theorem f169_78 : q_fetch 169 78 = some (.goto 93, 3, 171) := by decide +kernel
theorem f169_81 : q_fetch 169 81 = some (.aload_n 0, 1, 0) := by decide +kernel
theorem f169_82 : q_fetch 169 82 = some (.getfield 108, 3, 1231) := by decide +kernel
theorem f169_85 : q_fetch 169 85 = some (.iload_n 1, 1, 0) := by decide +kernel
theorem f169_86 : q_fetch 169 86 = some (.iaload, 1, 0) := by decide +kernel
theorem f169_87 : q_fetch 169 87 = some (.bipush 7, 2, 0) := by decide +kernel
theorem f169_89 : q_fetch 169 89 = some (.if_icmp .ne (8), 3, 97) := by decide +kernel
theorem f169_92 : q_fetch 169 92 = some (.aload_n 0, 1, 0) := by decide +kernel
theorem f169_93 : q_fetch 169 93 = some (.invokevirtual 216, 3, 158) := by decide +kernel
theorem f169_96 : q_fetch 169 96 = some (.ireturn, 1, 0) := by decide +kernel
theorem f169_97 : q_fetch 169 97 = some (.iload_n 2, 1, 0) := by decide +kernel
theorem f169_98 : q_fetch 169 98 = some (.bipush 33, 2, 0) := by decide +kernel
theorem f169_100 : q_fetch 169 100 = some (.if_icmp .eq (9), 3, 109) := by decide +kernel
theorem f169_103 : q_fetch 169 103 = some (.iload_n 2, 1, 0) := by decide +kernel
theorem f169_104 : q_fetch 169 104 = some (.bipush 45, 2, 0) := by decide +kernel
theorem f169_106 : q_fetch 169 106 = some (.if_icmp .ne (46), 3, 152) := by decide +kernel
theorem f169_109 : q_fetch 169 109 = some (.aload_n 0, 1, 0) := by decide +kernel
theorem f169_110 : q_fetch 169 110 = some (.getfield 111, 3, 1233) := by decide +kernel
theorem f169_113 : q_fetch 169 113 = some (.iload_n 1, 1, 0) := by decide +kernel
theorem f169_114 : q_fetch 169 114 = some (.aload_n 0, 1, 0) := by decide +kernel
theorem f169_115 : q_fetch 169 115 = some (.getfield 209, 3, 1216) := by decide +kernel
theorem f169_118 : q_fetch 169 118 = some (.iastore, 1, 0) := by decide +kernel
theorem f169_119 : q_fetch 169 119 = some (.aload_n 0, 1, 0) := by decide +kernel
theorem f169_120 : q_fetch 169 120 = some (.dup, 1, 0) := by decide +kernel
theorem f169_121 : q_fetch 169 121 = some (.getfield 209, 3, 1216) := by decide +kernel
theorem f169_124 : q_fetch 169 124 = some (.iconst 1, 1, 0) := by decide +kernel
theorem f169_125 : q_fetch 169 125 = some (.iadd, 1, 0) := by decide +kernel
theorem f169_126 : q_fetch 169 126 = some (.putfield 209, 3, 1216) := by decide +kernel
theorem f169_129 : q_fetch 169 129 = some (.aload_n 0, 1, 0) := by decide +kernel
theorem f169_130 : q_fetch 169 130 = some (.getfield 102, 3, 1227) := by decide +kernel
theorem f169_133 : q_fetch 169 133 = some (.iload_n 1, 1, 0) := by decide +kernel
theorem f169_134 : q_fetch 169 134 = some (.iconst 1, 1, 0) := by decide +kernel
theorem f169_135 : q_fetch 169 135 = some (.iastore, 1, 0) := by decide +kernel
theorem f169_136 : q_fetch 169 136 = some (.aload_n 0, 1, 0) := by decide +kernel
theorem f169_137 : q_fetch 169 137 = some (.iconst 5, 1, 0) := by decide +kernel
theorem f169_138 : q_fetch 169 138 = some (.aload_n 0, 1, 0) := by decide +kernel
theorem f169_139 : q_fetch 169 139 = some (.getfield 108, 3, 1231) := by decide +kernel
theorem f169_142 : q_fetch 169 142 = some (.iload_n 1, 1, 0) := by decide +kernel
theorem f169_143 : q_fetch 169 143 = some (.iaload, 1, 0) := by decide +kernel
theorem f169_144 : q_fetch 169 144 = some (.iconst 1, 1, 0) := by decide +kernel
theorem f169_145 : q_fetch 169 145 = some (.iadd, 1, 0) := by decide +kernel
theorem f169_146 : q_fetch 169 146 = some (.invokevirtual 247, 3, 164) := by decide +kernel
theorem f169_149 : q_fetch 169 149 = some (.goto 22, 3, 171) := by decide +kernel
theorem f169_152 : q_fetch 169 152 = some (.aload_n 0, 1, 0) := by decide +kernel
theorem f169_153 : q_fetch 169 153 = some (.getfield 102, 3, 1227) := by decide +kernel
theorem f169_156 : q_fetch 169 156 = some (.iload_n 1, 1, 0) := by decide +kernel
theorem f169_157 : q_fetch 169 157 = some (.iconst 2, 1, 0) := by decide +kernel
theorem f169_158 : q_fetch 169 158 = some (.iastore, 1, 0) := by decide +kernel
theorem f169_159 : q_fetch 169 159 = some (.aload_n 0, 1, 0) := by decide +kernel
theorem f169_160 : q_fetch 169 160 = some (.bipush 6, 2, 0) := by decide +kernel
theorem f169_162 : q_fetch 169 162 = some (.aload_n 0, 1, 0) := by decide +kernel
theorem f169_163 : q_fetch 169 163 = some (.getfield 108, 3, 1231) := by decide +kernel
theorem f169_166 : q_fetch 169 166 = some (.iload_n 1, 1, 0) := by decide +kernel
theorem f169_167 : q_fetch 169 167 = some (.iaload, 1, 0) := by decide +kernel
theorem f169_168 : q_fetch 169 168 = some (.invokevirtual 247, 3, 164) := by decide +kernel
theorem f169_171 : q_fetch 169 171 = some (.iconst 1, 1, 0) := by decide +kernel
theorem f169_172 : q_fetch 169 172 = some (.ireturn, 1, 0) := by decide +kernel
theorem f170_0 : q_fetch 170 0 = some (.aload_n 0, 1, 0) := by decide +kernel
theorem f170_1 : q_fetch 170 1 = some (.getfield 244, 3, 1222) := by decide +kernel
theorem f170_4 : q_fetch 170 4 = some (.iconst 1, 1, 0) := by decide +kernel
theorem f170_5 : q_fetch 170 5 = some (.isub, 1, 0) := by decide +kernel
theorem f170_6 : q_fetch 170 6 = some (.istore_n 1, 1, 0) := by decide +kernel
theorem f170_7 : q_fetch 170 7 = some (.aload_n 0, 1, 0) := by decide +kernel
theorem f170_8 : q_fetch 170 8 = some (.invokevirtual 212, 3, 157) := by decide +kernel
theorem f170_11 : q_fetch 170 11 = some (.istore_n 2, 1, 0) := by decide +kernel
theorem f170_12 : q_fetch 170 12 = some (.aload_n 0, 1, 0) := by decide +kernel
theorem f170_13 : q_fetch 170 13 = some (.getfield 102, 3, 1227) := by decide +kernel
theorem f170_16 : q_fetch 170 16 = some (.iload_n 1, 1, 0) := by decide +kernel
theorem f170_17 : q_fetch 170 17 = some (.iaload, 1, 0) := by decide +kernel
theorem f170_18 : q_fetch 170 18 = some (.ifCond .ne (118), 3, 136) := by decide +kernel
theorem f170_21 : q_fetch 170 21 = some (.iload_n 2, 1, 0) := by decide +kernel
theorem f170_22 : q_fetch 170 22 = some (.bipush 40, 2, 0) := by decide +kernel
theorem f170_24 : q_fetch 170 24 = some (.if_icmp .ne (35), 3, 59) := by decide +kernel
theorem f170_27 : q_fetch 170 27 = some (.aload_n 0, 1, 0) := by decide +kernel
theorem f170_28 : q_fetch 170 28 = some (.dup, 1, 0) := by decide +kernel
theorem f170_29 : q_fetch 170 29 = some (.getfield 209, 3, 1216) := by decide +kernel
theorem f170_32 : q_fetch 170 32 = some (.iconst 1, 1, 0) := by decide +kernel
theorem f170_33 : q_fetch 170 33 = some (.iadd, 1, 0) := by decide +kernel
theorem f170_34 : q_fetch 170 34 = some (.putfield 209, 3, 1216) := by decide +kernel
theorem f170_37 : q_fetch 170 37 = some (.aload_n 0, 1, 0) := by decide +kernel
theorem f170_38 : q_fetch 170 38 = some (.getfield 102, 3, 1227) := by decide +kernel
theorem f170_41 : q_fetch 170 41 = some (.iload_n 1, 1, 0) := by decide +kernel
theorem f170_42 : q_fetch 170 42 = some (.iconst 1, 1, 0) := by decide +kernel
theorem f170_43 : q_fetch 170 43 = some (.iastore, 1, 0) := by decide +kernel
theorem f170_44 : q_fetch 170 44 = some (.aload_n 0, 1, 0) := by decide +kernel
theorem f170_45 : q_fetch 170 45 = some (.iconst 0, 1, 0) := by decide +kernel
theorem f170_46 : q_fetch 170 46 = some (.aload_n 0, 1, 0) := by decide +kernel
theorem f170_47 : q_fetch 170 47 = some (.getfield 108, 3, 1231) := by decide +kernel
theorem f170_50 : q_fetch 170 50 = some (.iload_n 1, 1, 0) := by decide +kernel
theorem f170_51 : q_fetch 170 51 = some (.iaload, 1, 0) := by decide +kernel
theorem f170_52 : q_fetch 170 52 = some (.iconst 1, 1, 0) := by decide +kernel
theorem f170_53 : q_fetch 170 53 = some (.iadd, 1, 0) := by decide +kernel
theorem f170_54 : q_fetch 170 54 = some (.invokevirtual 247, 3, 164) := by decide +kernel
theorem f170_57 : q_fetch 170 57 = some (.iconst 1, 1, 0) := by decide +kernel
theorem f170_58 : q_fetch 170 58 = some (.ireturn, 1, 0) := by decide +kernel
theorem f170_59 : q_fetch 170 59 = some (.iload_n 2, 1, 0) := by decide +kernel
theorem f170_60 : q_fetch 170 60 = some (.iconst 1, 1, 0) := by decide +kernel
theorem f170_61 : q_fetch 170 61 = some (.if_icmp .eq (41), 3, 102) := by decide +kernel
theorem f170_64 : q_fetch 170 64 = some (.iload_n 2, 1, 0) := by decide +kernel
theorem f170_65 : q_fetch 170 65 = some (.iconst 2, 1, 0) := by decide +kernel
theorem f170_66 : q_fetch 170 66 = some (.if_icmp .eq (36), 3, 102) := by decide +kernel
theorem f170_69 : q_fetch 170 69 = some (.iload_n 2, 1, 0) := by decide +kernel
theorem f170_70 : q_fetch 170 70 = some (.sipush 306, 3, 0) := by decide +kernel
theorem f170_73 : q_fetch 170 73 = some (.if_icmp .eq (29), 3, 102) := by decide +kernel
theorem f170_76 : q_fetch 170 76 = some (.iload_n 2, 1, 0) := by decide +kernel
theorem f170_77 : q_fetch 170 77 = some (.sipush 307, 3, 0) := by decide +kernel
theorem f170_80 : q_fetch 170 80 = some (.if_icmp .eq (22), 3, 102) := by decide +kernel
theorem f170_83 : q_fetch 170 83 = some (.iload_n 2, 1, 0) := by decide +kernel
theorem f170_84 : q_fetch 170 84 = some (.sipush 308, 3, 0) := by decide +kernel
theorem f170_87 : q_fetch 170 87 = some (.if_icmp .eq (15), 3, 102) := by decide +kernel
theorem f170_90 : q_fetch 170 90 = some (.iload_n 2, 1, 0) := by decide +kernel
theorem f170_91 : q_fetch 170 91 = some (.sipush 309, 3, 0) := by decide +kernel
theorem f170_94 : q_fetch 170 94 = some (.if_icmp .eq (8), 3, 102) := by decide +kernel
theorem f170_97 : q_fetch 170 97 = some (.aload_n 0, 1, 0) := by decide +kernel
theorem f170_98 : q_fetch 170 98 = some (.invokevirtual 216, 3, 158) := by decide +kernel
theorem f170_101 : q_fetch 170 101 = some (.ireturn, 1, 0) := by decide +kernel
theorem f170_102 : q_fetch 170 102 = some (.aload_n 0, 1, 0) := by decide +kernel
theorem f170_103 : q_fetch 170 103 = some (.getfield 105, 3, 1229) := by decide +kernel
theorem f170_106 : q_fetch 170 106 = some (.iload_n 1, 1, 0) := by decide +kernel
theorem f170_107 : q_fetch 170 107 = some (.aload_n 0, 1, 0) := by decide +kernel
theorem f170_108 : q_fetch 170 108 = some (.iload_n 2, 1, 0) := by decide +kernel
theorem f170_109 : q_fetch 170 109 = some (.iconst (-1), 1, 0) := by decide +kernel
theorem f170_110 : q_fetch 170 110 = some (.iconst (-1), 1, 0) := by decide +kernel
theorem f170_111 : q_fetch 170 111 = some (.aload_n 0, 1, 0) := by decide +kernel
theorem f170_112 : q_fetch 170 112 = some (.invokevirtual 220, 3, 161) := by decide +kernel
theorem f170_115 : q_fetch 170 115 = some (.aload_n 0, 1, 0) := by decide +kernel
theorem f170_116 : q_fetch 170 116 = some (.getfield 209, 3, 1216) := by decide +kernel
theorem f170_119 : q_fetch 170 119 = some (.invokevirtual 266, 3, 167) := by decide +kernel
theorem f170_122 : q_fetch 170 122 = some (.iastore, 1, 0) := by decide +kernel
theorem f170_123 : q_fetch 170 123 = some (.aload_n 0, 1, 0) := by decide +kernel
theorem f170_124 : q_fetch 170 124 = some (.dup, 1, 0) := by decide +kernel
theorem f170_125 : q_fetch 170 125 = some (.getfield 209, 3, 1216) := by decide +kernel
theorem f170_128 : q_fetch 170 128 = some (.iconst 1, 1, 0) := by decide +kernel
theorem f170_129 : q_fetch 170 129 = some (.iadd, 1, 0) := by decide +kernel
theorem f170_130 : q_fetch 170 130 = some (.putfield 209, 3, 1216) := by decide +kernel
theorem f170_133 : q_fetch 170 133 = some (.goto 24, 3, 157) := by decide +kernel
theorem f170_136 : q_fetch 170 136 = some (.aload_n 0, 1, 0) := by decide +kernel
theorem f170_137 : q_fetch 170 137 = some (.bipush 41, 2, 0) := by decide +kernel
theorem f170_139 : q_fetch 170 139 = some (.invokevirtual 223, 3, 159) := by decide +kernel
theorem f170_142 : q_fetch 170 142 = some (.ifCond .ne (5), 3, 147) := by decide +kernel
theorem f170_145 : q_fetch 170 145 = some (.iconst 0, 1, 0) := by decide +kernel
theorem f170_146 : q_fetch 170 146 = some (.ireturn, 1, 0) := by decide +kernel
theorem f170_147 : q_fetch 170 147 = some (.aload_n 0, 1, 0) := by decide +kernel
theorem f170_148 : q_fetch 170 148 = some (.getfield 105, 3, 1229) := by decide +kernel
theorem f170_151 : q_fetch 170 151 = some (.iload_n 1, 1, 0) := by decide +kernel
theorem f170_152 : q_fetch 170 152 = some (.aload_n 0, 1, 0) := by decide +kernel
theorem f170_153 : q_fetch 170 153 = some (.getfield 241, 3, 1218) := by decide +kernel
theorem f170_156 : q_fetch 170 156 = some (.iastore, 1, 0) := by decide +kernel
theorem f170_157 : q_fetch 170 157 = some (.aload_n 0, 1, 0) := by decide +kernel
theorem f170_158 : q_fetch 170 158 = some (.invokevirtual 212, 3, 157) := by decide +kernel
theorem f170_161 : q_fetch 170 161 = some (.bipush 46, 2, 0) := by decide +kernel
theorem f170_163 : q_fetch 170 163 = some (.if_icmp .ne (80), 3, 243) := by decide +kernel
theorem f170_166 : q_fetch 170 166 = some (.aload_n 0, 1, 0) := by decide +kernel
theorem f170_167 : q_fetch 170 167 = some (.getfield 209, 3, 1216) := by decide +kernel
theorem f170_170 : q_fetch 170 170 = some (.istore_n 3, 1, 0) := by decide +kernel
theorem f170_171 : q_fetch 170 171 = some (.aload_n 0, 1, 0) := by decide +kernel
theorem f170_172 : q_fetch 170 172 = some (.dup, 1, 0) := by decide +kernel
theorem f170_173 : q_fetch 170 173 = some (.getfield 209, 3, 1216) := by decide +kernel
theorem f170_176 : q_fetch 170 176 = some (.iconst 1, 1, 0) := by decide +kernel
theorem f170_177 : q_fetch 170 177 = some (.iadd, 1, 0) := by decide +kernel
theorem f170_178 : q_fetch 170 178 = some (.putfield 209, 3, 1216) := by decide +kernel
theorem f170_181 : q_fetch 170 181 = some (.aload_n 0, 1, 0) := by decide +kernel
theorem f170_182 : q_fetch 170 182 = some (.invokevirtual 212, 3, 157) := by decide +kernel
theorem f170_185 : q_fetch 170 185 = some (.sipush 310, 3, 0) := by decide +kernel
theorem f170_188 : q_fetch 170 188 = some (.sipush 312, 3, 0) := by decide +kernel
theorem f170_191 : q_fetch 170 191 = some (.invokestatic 141, 3, 145) := by decide +kernel
theorem f170_194 : q_fetch 170 194 = some (.ifCond .ne (8), 3, 202) := by decide +kernel
theorem f170_197 : q_fetch 170 197 = some (.aload_n 0, 1, 0) := by decide +kernel
theorem f170_198 : q_fetch 170 198 = some (.invokevirtual 216, 3, 158) := by decide +kernel
theorem f170_201 : q_fetch 170 201 = some (.ireturn, 1, 0) := by decide +kernel
theorem f170_202 : q_fetch 170 202 = some (.aload_n 0, 1, 0) := by decide +kernel
theorem f170_203 : q_fetch 170 203 = some (.getfield 105, 3, 1229) := by decide +kernel
theorem f170_206 : q_fetch 170 206 = some (.iload_n 1, 1, 0) := by decide +kernel
theorem f170_207 : q_fetch 170 207 = some (.aload_n 0, 1, 0) := by decide +kernel
theorem f170_208 : q_fetch 170 208 = some (.bipush 46, 2, 0) := by decide +kernel
theorem f170_210 : q_fetch 170 210 = some (.aload_n 0, 1, 0) := by decide +kernel
theorem f170_211 : q_fetch 170 211 = some (.getfield 105, 3, 1229) := by decide +kernel
theorem f170_214 : q_fetch 170 214 = some (.iload_n 1, 1, 0) := by decide +kernel
theorem f170_215 : q_fetch 170 215 = some (.iaload, 1, 0) := by decide +kernel
theorem f170_216 : q_fetch 170 216 = some (.iconst (-1), 1, 0) := by decide +kernel
theorem f170_217 : q_fetch 170 217 = some (.aload_n 0, 1, 0) := by decide +kernel
theorem f170_218 : q_fetch 170 218 = some (.invokevirtual 212, 3, 157) := by decide +kernel
theorem f170_221 : q_fetch 170 221 = some (.sipush 310, 3, 0) := by decide +kernel
theorem f170_224 : q_fetch 170 224 = some (.isub, 1, 0) := by decide +kernel
theorem f170_225 : q_fetch 170 225 = some (.iload_n 3, 1, 0) := by decide +kernel
theorem f170_226 : q_fetch 170 226 = some (.invokevirtual 266, 3, 167) := by decide +kernel
theorem f170_229 : q_fetch 170 229 = some (.iastore, 1, 0) := by decide +kernel
theorem f170_230 : q_fetch 170 230 = some (.aload_n 0, 1, 0) := by decide +kernel
theorem f170_231 : q_fetch 170 231 = some (.dup, 1, 0) := by decide +kernel
theorem f170_232 : q_fetch 170 232 = some (.getfield 209, 3, 1216) := by decide +kernel
theorem f170_235 : q_fetch 170 235 = some (.iconst 1, 1, 0) := by decide +kernel
theorem f170_236 : q_fetch 170 236 = some (.iadd, 1, 0) := by decide +kernel
theorem f170_237 : q_fetch 170 237 = some (.putfield 209, 3, 1216) := by decide +kernel
theorem f170_240 : q_fetch 170 240 = some (.goto (-83), 3, 157) := by decide +kernel
theorem f170_243 : q_fetch 170 243 = some (.aload_n 0, 1, 0) := by decide +kernel
theorem f170_244 : q_fetch 170 244 = some (.aload_n 0, 1, 0) := by decide +kernel
theorem f170_245 : q_fetch 170 245 = some (.getfield 105, 3, 1229) := by decide +kernel
theorem f170_248 : q_fetch 170 248 = some (.iload_n 1, 1, 0) := by decide +kernel
theorem f170_249 : q_fetch 170 249 = some (.iaload, 1, 0) := by decide +kernel
theorem f170_250 : q_fetch 170 250 = some (.invokevirtual 274, 3, 168) := by decide +kernel
theorem f170_253 : q_fetch 170 253 = some (.iconst 1, 1, 0) := by decide +kernel
theorem f170_254 : q_fetch 170 254 = some (.ireturn, 1, 0) := by decide +kernel
theorem f171_0 : q_fetch 171 0 = some (.aload_n 0, 1, 0) := by decide +kernel
theorem f171_1 : q_fetch 171 1 = some (.getfield 244, 3, 1222) := by decide +kernel
theorem f171_4 : q_fetch 171 4 = some (.iconst 1, 1, 0) := by decide +kernel
theorem f171_5 : q_fetch 171 5 = some (.isub, 1, 0) := by decide +kernel
theorem f171_6 : q_fetch 171 6 = some (.istore_n 2, 1, 0) := by decide +kernel
theorem f171_7 : q_fetch 171 7 = some (.aload_n 0, 1, 0) := by decide +kernel
theorem f171_8 : q_fetch 171 8 = some (.getfield 108, 3, 1231) := by decide +kernel
theorem f171_11 : q_fetch 171 11 = some (.iload_n 2, 1, 0) := by decide +kernel
theorem f171_12 : q_fetch 171 12 = some (.iaload, 1, 0) := by decide +kernel
theorem f171_13 : q_fetch 171 13 = some (.istore_n 3, 1, 0) := by decide +kernel
theorem f171_14 : q_fetch 171 14 = some (.aload_n 0, 1, 0) := by decide +kernel
theorem f171_15 : q_fetch 171 15 = some (.getfield 102, 3, 1227) := by decide +kernel
theorem f171_18 : q_fetch 171 18 = some (.iload_n 2, 1, 0) := by decide +kernel
theorem f171_19 : q_fetch 171 19 = some (.iaload, 1, 0) := by decide +kernel
theorem f171_20 : q_fetch 171 20 = some (.ifCond .ne (35), 3, 55) := by decide +kernel
theorem f171_23 : q_fetch 171 23 = some (.iload_n 1, 1, 0) := by decide +kernel
theorem f171_24 : q_fetch 171 24 = some (.ifCond .ne (14), 3, 38) := by decide +kernel
theorem f171_27 : q_fetch 171 27 = some (.iload_n 3, 1, 0) := by decide +kernel
theorem f171_28 : q_fetch 171 28 = some (.bipush 7, 2, 0) := by decide +kernel
theorem f171_30 : q_fetch 171 30 = some (.if_icmp .ne (8), 3, 38) := by decide +kernel
theorem f171_33 : q_fetch 171 33 = some (.aload_n 0, 1, 0) := by decide +kernel
theorem f171_34 : q_fetch 171 34 = some (.invokevirtual 216, 3, 158) := by decide +kernel
theorem f171_37 : q_fetch 171 37 = some (.ireturn, 1, 0) := by decide +kernel
theorem f171_38 : q_fetch 171 38 = some (.aload_n 0, 1, 0) := by decide +kernel
theorem f171_39 : q_fetch 171 39 = some (.getfield 102, 3, 1227) := by decide +kernel
theorem f171_42 : q_fetch 171 42 = some (.iload_n 2, 1, 0) := by decide +kernel
theorem f171_43 : q_fetch 171 43 = some (.iconst 1, 1, 0) := by decide +kernel
theorem f171_44 : q_fetch 171 44 = some (.iastore, 1, 0) := by decide +kernel
theorem f171_45 : q_fetch 171 45 = some (.aload_n 0, 1, 0) := by decide +kernel
theorem f171_46 : q_fetch 171 46 = some (.iload_n 1, 1, 0) := by decide +kernel
theorem f171_47 : q_fetch 171 47 = some (.iconst 1, 1, 0) := by decide +kernel
theorem f171_48 : q_fetch 171 48 = some (.iadd, 1, 0) := by decide +kernel
theorem f171_49 : q_fetch 171 49 = some (.iload_n 3, 1, 0) := by decide +kernel
theorem f171_50 : q_fetch 171 50 = some (.invokevirtual 247, 3, 164) := by decide +kernel
theorem f171_53 : q_fetch 171 53 = some (.iconst 1, 1, 0) := by decide +kernel
theorem f171_54 : q_fetch 171 54 = some (.ireturn, 1, 0) := by decide +kernel
theorem f171_55 : q_fetch 171 55 = some (.aload_n 0, 1, 0) := by decide +kernel
theorem f171_56 : q_fetch 171 56 = some (.getfield 105, 3, 1229) := by decide +kernel
theorem f171_59 : q_fetch 171 59 = some (.iload_n 2, 1, 0) := by decide +kernel
theorem f171_60 : q_fetch 171 60 = some (.iaload, 1, 0) := by decide +kernel
theorem f171_61 : q_fetch 171 61 = some (.ifCond .ge (16), 3, 77) := by decide +kernel
theorem f171_64 : q_fetch 171 64 = some (.aload_n 0, 1, 0) := by decide +kernel
theorem f171_65 : q_fetch 171 65 = some (.getfield 105, 3, 1229) := by decide +kernel
theorem f171_68 : q_fetch 171 68 = some (.iload_n 2, 1, 0) := by decide +kernel
theorem f171_69 : q_fetch 171 69 = some (.aload_n 0, 1, 0) := by decide +kernel
theorem f171_70 : q_fetch 171 70 = some (.getfield 241, 3, 1218) := by decide +kernel
theorem f171_73 : q_fetch 171 73 = some (.iastore, 1, 0) := by decide +kernel
theorem f171_74 : q_fetch 171 74 = some (.goto 62, 3, 136) := by decide +kernel
theorem f171_77 : q_fetch 171 77 = some (.aload_n 0, 1, 0) := by decide +kernel
theorem f171_78 : q_fetch 171 78 = some (.getfield 17, 3, 1161) := by decide +kernel
theorem f171_81 : q_fetch 171 81 = some (.sipush 606, 3, 0) := by decide +kernel
theorem f171_84 : q_fetch 171 84 = some (.aload_n 0, 1, 0) := by decide +kernel
theorem f171_85 : q_fetch 171 85 = some (.getfield 111, 3, 1233) := by decide +kernel
theorem f171_88 : q_fetch 171 88 = some (.iload_n 2, 1, 0) := by decide +kernel
theorem f171_89 : q_fetch 171 89 = some (.iaload, 1, 0) := by decide +kernel
theorem f171_90 : q_fetch 171 90 = some (.iadd, 1, 0) := by decide +kernel
theorem f171_91 : q_fetch 171 91 = some (.iaload, 1, 0) := by decide +kernel
theorem f171_92 : q_fetch 171 92 = some (.istore 4, 2, 0) := by decide +kernel
theorem f171_94 : q_fetch 171 94 = some (.aload_n 0, 1, 0) := by decide +kernel
theorem f171_95 : q_fetch 171 95 = some (.getfield 105, 3, 1229) := by decide +kernel
theorem f171_98 : q_fetch 171 98 = some (.iload_n 2, 1, 0) := by decide +kernel
theorem f171_99 : q_fetch 171 99 = some (.aload_n 0, 1, 0) := by decide +kernel
theorem f171_100 : q_fetch 171 100 = some (.iload 4, 2, 0) := by decide +kernel
theorem f171_102 : q_fetch 171 102 = some (.bipush 45, 2, 0) := by decide +kernel
theorem f171_104 : q_fetch 171 104 = some (.if_icmp .ne (9), 3, 113) := by decide +kernel
theorem f171_107 : q_fetch 171 107 = some (.sipush 1045, 3, 0) := by decide +kernel
theorem f171_110 : q_fetch 171 110 = some (.goto 5, 3, 115) := by decide +kernel
theorem f171_113 : q_fetch 171 113 = some (.iload 4, 2, 0) := by decide +kernel
theorem f171_115 : q_fetch 171 115 = some (.aload_n 0, 1, 0) := by decide +kernel
theorem f171_116 : q_fetch 171 116 = some (.getfield 105, 3, 1229) := by decide +kernel
theorem f171_119 : q_fetch 171 119 = some (.iload_n 2, 1, 0) := by decide +kernel
theorem f171_120 : q_fetch 171 120 = some (.iaload, 1, 0) := by decide +kernel
theorem f171_121 : q_fetch 171 121 = some (.aload_n 0, 1, 0) := by decide +kernel
theorem f171_122 : q_fetch 171 122 = some (.getfield 241, 3, 1218) := by decide +kernel
theorem f171_125 : q_fetch 171 125 = some (.iconst 0, 1, 0) := by decide +kernel
theorem f171_126 : q_fetch 171 126 = some (.aload_n 0, 1, 0) := by decide +kernel
theorem f171_127 : q_fetch 171 127 = some (.getfield 111, 3, 1233) := by decide +kernel
theorem f171_130 : q_fetch 171 130 = some (.iload_n 2, 1, 0) := by decide +kernel
theorem f171_131 : q_fetch 171 131 = some (.iaload, 1, 0) := by decide +kernel
theorem f171_132 : q_fetch 171 132 = some (.invokevirtual 266, 3, 167) := by decide +kernel
theorem f171_135 : q_fetch 171 135 = some (.iastore, 1, 0) := by decide +kernel
theorem f171_136 : q_fetch 171 136 = some (.iload_n 1, 1, 0) := by decide +kernel
theorem f171_137 : q_fetch 171 137 = some (.aload_n 0, 1, 0) := by decide +kernel
theorem f171_138 : q_fetch 171 138 = some (.invokevirtual 212, 3, 157) := by decide +kernel
theorem f171_141 : q_fetch 171 141 = some (.invokestatic 270, 3, 172) := by decide +kernel
theorem f171_144 : q_fetch 171 144 = some (.ifCond .ne (15), 3, 159) := by decide +kernel
theorem f171_147 : q_fetch 171 147 = some (.aload_n 0, 1, 0) := by decide +kernel
theorem f171_148 : q_fetch 171 148 = some (.aload_n 0, 1, 0) := by decide +kernel
theorem f171_149 : q_fetch 171 149 = some (.getfield 105, 3, 1229) := by decide +kernel
theorem f171_152 : q_fetch 171 152 = some (.iload_n 2, 1, 0) := by decide +kernel
theorem f171_153 : q_fetch 171 153 = some (.iaload, 1, 0) := by decide +kernel
theorem f171_154 : q_fetch 171 154 = some (.invokevirtual 274, 3, 168) := by decide +kernel
theorem f171_157 : q_fetch 171 157 = some (.iconst 1, 1, 0) := by decide +kernel
theorem f171_158 : q_fetch 171 158 = some (.ireturn, 1, 0) := by decide +kernel
theorem f171_159 : q_fetch 171 159 = some (.aload_n 0, 1, 0) := by decide +kernel
theorem f171_160 : q_fetch 171 160 = some (.getfield 111, 3, 1233) := by decide +kernel
theorem f171_163 : q_fetch 171 163 = some (.iload_n 2, 1, 0) := by decide +kernel
theorem f171_164 : q_fetch 171 164 = some (.aload_n 0, 1, 0) := by decide +kernel
theorem f171_165 : q_fetch 171 165 = some (.getfield 209, 3, 1216) := by decide +kernel
theorem f171_168 : q_fetch 171 168 = some (.iastore, 1, 0) := by decide +kernel
theorem f171_169 : q_fetch 171 169 = some (.aload_n 0, 1, 0) := by decide +kernel
theorem f171_170 : q_fetch 171 170 = some (.dup, 1, 0) := by decide +kernel
theorem f171_171 : q_fetch 171 171 = some (.getfield 209, 3, 1216) := by decide +kernel
theorem f171_174 : q_fetch 171 174 = some (.iconst 1, 1, 0) := by decide +kernel
theorem f171_175 : q_fetch 171 175 = some (.iadd, 1, 0) := by decide +kernel
theorem f171_176 : q_fetch 171 176 = some (.putfield 209, 3, 1216) := by decide +kernel
theorem f171_179 : q_fetch 171 179 = some (.aload_n 0, 1, 0) := by decide +kernel
theorem f171_180 : q_fetch 171 180 = some (.iload_n 1, 1, 0) := by decide +kernel
theorem f171_181 : q_fetch 171 181 = some (.iconst 1, 1, 0) := by decide +kernel
theorem f171_182 : q_fetch 171 182 = some (.iadd, 1, 0) := by decide +kernel
theorem f171_183 : q_fetch 171 183 = some (.iload_n 3, 1, 0) := by decide +kernel
theorem f171_184 : q_fetch 171 184 = some (.invokevirtual 247, 3, 164) := by decide +kernel
theorem f171_187 : q_fetch 171 187 = some (.iconst 1, 1, 0) := by decide +kernel
theorem f171_188 : q_fetch 171 188 = some (.ireturn, 1, 0) := by decide +kernel
theorem f172_0 : q_fetch 172 0 = some (.iload_n 0, 1, 0) := by decide +kernel
theorem f172_1 : q_fetch 172 1 = some (.ifCond .ne (18), 3, 19) := by decide +kernel
theorem f172_4 : q_fetch 172 4 = some (.iload_n 1, 1, 0) := by decide +kernel
theorem f172_5 : q_fetch 172 5 = some (.sipush 205, 3, 0) := by decide +kernel
theorem f172_8 : q_fetch 172 8 = some (.if_icmp .ne (7), 3, 15) := by decide +kernel
theorem f172_11 : q_fetch 172 11 = some (.iconst 1, 1, 0) := by decide +kernel
theorem f172_12 : q_fetch 172 12 = some (.goto 63, 3, 75) := by decide +kernel
theorem f172_15 : q_fetch 172 15 = some (.iconst 0, 1, 0) := by decide +kernel
theorem f172_16 : q_fetch 172 16 = some (.goto 59, 3, 75) := by decide +kernel
theorem f172_19 : q_fetch 172 19 = some (.iload_n 0, 1, 0) := by decide +kernel
theorem f172_20 : q_fetch 172 20 = some (.iconst 1, 1, 0) := by decide +kernel
theorem f172_21 : q_fetch 172 21 = some (.if_icmp .ne (18), 3, 39) := by decide +kernel
theorem f172_24 : q_fetch 172 24 = some (.iload_n 1, 1, 0) := by decide +kernel
theorem f172_25 : q_fetch 172 25 = some (.sipush 204, 3, 0) := by decide +kernel
theorem f172_28 : q_fetch 172 28 = some (.if_icmp .ne (7), 3, 35) := by decide +kernel
theorem f172_31 : q_fetch 172 31 = some (.iconst 1, 1, 0) := by decide +kernel
theorem f172_32 : q_fetch 172 32 = some (.goto 43, 3, 75) := by decide +kernel
theorem f172_35 : q_fetch 172 35 = some (.iconst 0, 1, 0) := by decide +kernel
theorem f172_36 : q_fetch 172 36 = some (.goto 39, 3, 75) := by decide +kernel
theorem f172_39 : q_fetch 172 39 = some (.iload_n 0, 1, 0) := by decide +kernel
theorem f172_40 : q_fetch 172 40 = some (.iconst 3, 1, 0) := by decide +kernel
theorem f172_41 : q_fetch 172 41 = some (.if_icmp .ne (23), 3, 64) := by decide +kernel
theorem f172_44 : q_fetch 172 44 = some (.iload_n 1, 1, 0) := by decide +kernel
theorem f172_45 : q_fetch 172 45 = some (.bipush 43, 2, 0) := by decide +kernel
theorem f172_47 : q_fetch 172 47 = some (.if_icmp .eq (9), 3, 56) := by decide +kernel
theorem f172_50 : q_fetch 172 50 = some (.iload_n 1, 1, 0) := by decide +kernel
theorem f172_51 : q_fetch 172 51 = some (.bipush 45, 2, 0) := by decide +kernel
theorem f172_53 : q_fetch 172 53 = some (.if_icmp .ne (7), 3, 60) := by decide +kernel
theorem f172_56 : q_fetch 172 56 = some (.iconst 1, 1, 0) := by decide +kernel
theorem f172_57 : q_fetch 172 57 = some (.goto 18, 3, 75) := by decide +kernel
theorem f172_60 : q_fetch 172 60 = some (.iconst 0, 1, 0) := by decide +kernel
theorem f172_61 : q_fetch 172 61 = some (.goto 14, 3, 75) := by decide +kernel
theorem f172_64 : q_fetch 172 64 = some (.iload_n 1, 1, 0) := by decide +kernel
theorem f172_65 : q_fetch 172 65 = some (.bipush 42, 2, 0) := by decide +kernel
theorem f172_67 : q_fetch 172 67 = some (.if_icmp .ne (7), 3, 74) := by decide +kernel
theorem f172_70 : q_fetch 172 70 = some (.iconst 1, 1, 0) := by decide +kernel
theorem f172_71 : q_fetch 172 71 = some (.goto 4, 3, 75) := by decide +kernel
theorem f172_74 : q_fetch 172 74 = some (.iconst 0, 1, 0) := by decide +kernel
theorem f172_75 : q_fetch 172 75 = some (.ireturn, 1, 0) := by decide +kernel
theorem f173_0 : q_fetch 173 0 = some (.iconst 0, 1, 0) := by decide +kernel
theorem f173_1 : q_fetch 173 1 = some (.istore_n 2, 1, 0) := by decide +kernel
theorem f173_2 : q_fetch 173 2 = some (.iload_n 2, 1, 0) := by decide +kernel
theorem f173_3 : q_fetch 173 3 = some (.bipush 101, 2, 0) := by decide +kernel
theorem f173_5 : q_fetch 173 5 = some (.if_icmp .ge (156), 3, 161) := by decide +kernel
theorem f173_8 : q_fetch 173 8 = some (.aload_n 0, 1, 0) := by decide +kernel
theorem f173_9 : q_fetch 173 9 = some (.getfield 17, 3, 1161) := by decide +kernel
theorem f173_12 : q_fetch 173 12 = some (.bipush 101, 2, 0) := by decide +kernel
theorem f173_14 : q_fetch 173 14 = some (.iload_n 1, 1, 0) := by decide +kernel
theorem f173_15 : q_fetch 173 15 = some (.imul, 1, 0) := by decide +kernel
theorem f173_16 : q_fetch 173 16 = some (.iload_n 2, 1, 0) := by decide +kernel
theorem f173_17 : q_fetch 173 17 = some (.iadd, 1, 0) := by decide +kernel
theorem f173_18 : q_fetch 173 18 = some (.aload_n 0, 1, 0) := by decide +kernel
theorem f173_19 : q_fetch 173 19 = some (.getfield 17, 3, 1161) := by decide +kernel
theorem f173_22 : q_fetch 173 22 = some (.sipush 606, 3, 0) := by decide +kernel
theorem f173_25 : q_fetch 173 25 = some (.iload_n 2, 1, 0) := by decide +kernel
theorem f173_26 : q_fetch 173 26 = some (.iadd, 1, 0) := by decide +kernel
theorem f173_27 : q_fetch 173 27 = some (.iaload, 1, 0) := by decide +kernel
theorem f173_28 : q_fetch 173 28 = some (.iastore, 1, 0) := by decide +kernel
theorem f173_29 : q_fetch 173 29 = some (.aload_n 0, 1, 0) := by decide +kernel
theorem f173_30 : q_fetch 173 30 = some (.getfield 23, 3, 1165) := by decide +kernel
theorem f173_33 : q_fetch 173 33 = some (.bipush 101, 2, 0) := by decide +kernel
theorem f173_35 : q_fetch 173 35 = some (.iload_n 1, 1, 0) := by decide +kernel
theorem f173_36 : q_fetch 173 36 = some (.imul, 1, 0) := by decide +kernel
theorem f173_37 : q_fetch 173 37 = some (.iload_n 2, 1, 0) := by decide +kernel
theorem f173_38 : q_fetch 173 38 = some (.iadd, 1, 0) := by decide +kernel
theorem f173_39 : q_fetch 173 39 = some (.aload_n 0, 1, 0) := by decide +kernel
theorem f173_40 : q_fetch 173 40 = some (.getfield 23, 3, 1165) := by decide +kernel
theorem f173_43 : q_fetch 173 43 = some (.sipush 606, 3, 0) := by decide +kernel
theorem f173_46 : q_fetch 173 46 = some (.iload_n 2, 1, 0) := by decide +kernel
theorem f173_47 : q_fetch 173 47 = some (.iadd, 1, 0) := by decide +kernel
theorem f173_48 : q_fetch 173 48 = some (.iaload, 1, 0) := by decide +kernel
theorem f173_49 : q_fetch 173 49 = some (.iastore, 1, 0) := by decide +kernel
theorem f173_50 : q_fetch 173 50 = some (.aload_n 0, 1, 0) := by decide +kernel
theorem f173_51 : q_fetch 173 51 = some (.getfield 29, 3, 1169) := by decide +kernel
theorem f173_54 : q_fetch 173 54 = some (.bipush 101, 2, 0) := by decide +kernel
theorem f173_56 : q_fetch 173 56 = some (.iload_n 1, 1, 0) := by decide +kernel
theorem f173_57 : q_fetch 173 57 = some (.imul, 1, 0) := by decide +kernel
theorem f173_58 : q_fetch 173 58 = some (.iload_n 2, 1, 0) := by decide +kernel
theorem f173_59 : q_fetch 173 59 = some (.iadd, 1, 0) := by decide +kernel
theorem f173_60 : q_fetch 173 60 = some (.aload_n 0, 1, 0) := by decide +kernel
theorem f173_61 : q_fetch 173 61 = some (.getfield 29, 3, 1169) := by decide +kernel
theorem f173_64 : q_fetch 173 64 = some (.sipush 606, 3, 0) := by decide +kernel
theorem f173_67 : q_fetch 173 67 = some (.iload_n 2, 1, 0) := by decide +kernel
theorem f173_68 : q_fetch 173 68 = some (.iadd, 1, 0) := by decide +kernel
theorem f173_69 : q_fetch 173 69 = some (.iaload, 1, 0) := by decide +kernel
theorem f173_70 : q_fetch 173 70 = some (.iastore, 1, 0) := by decide +kernel
theorem f173_71 : q_fetch 173 71 = some (.aload_n 0, 1, 0) := by decide +kernel
theorem f173_72 : q_fetch 173 72 = some (.getfield 32, 3, 1171) := by decide +kernel
theorem f173_75 : q_fetch 173 75 = some (.bipush 101, 2, 0) := by decide +kernel
theorem f173_77 : q_fetch 173 77 = some (.iload_n 1, 1, 0) := by decide +kernel
theorem f173_78 : q_fetch 173 78 = some (.imul, 1, 0) := by decide +kernel
theorem f173_79 : q_fetch 173 79 = some (.iload_n 2, 1, 0) := by decide +kernel
theorem f173_80 : q_fetch 173 80 = some (.iadd, 1, 0) := by decide +kernel
theorem f173_81 : q_fetch 173 81 = some (.aload_n 0, 1, 0) := by decide +kernel
theorem f173_82 : q_fetch 173 82 = some (.getfield 32, 3, 1171) := by decide +kernel
theorem f173_85 : q_fetch 173 85 = some (.sipush 606, 3, 0) := by decide +kernel
theorem f173_88 : q_fetch 173 88 = some (.iload_n 2, 1, 0) := by decide +kernel
theorem f173_89 : q_fetch 173 89 = some (.iadd, 1, 0) := by decide +kernel
theorem f173_90 : q_fetch 173 90 = some (.iaload, 1, 0) := by decide +kernel
theorem f173_91 : q_fetch 173 91 = some (.iastore, 1, 0) := by decide +kernel
theorem f173_92 : q_fetch 173 92 = some (.aload_n 0, 1, 0) := by decide +kernel
theorem f173_93 : q_fetch 173 93 = some (.getfield 35, 3, 1173) := by decide +kernel
theorem f173_96 : q_fetch 173 96 = some (.bipush 101, 2, 0) := by decide +kernel
theorem f173_98 : q_fetch 173 98 = some (.iload_n 1, 1, 0) := by decide +kernel
theorem f173_99 : q_fetch 173 99 = some (.imul, 1, 0) := by decide +kernel
theorem f173_100 : q_fetch 173 100 = some (.iload_n 2, 1, 0) := by decide +kernel
theorem f173_101 : q_fetch 173 101 = some (.iadd, 1, 0) := by decide +kernel
theorem f173_102 : q_fetch 173 102 = some (.aload_n 0, 1, 0) := by decide +kernel
theorem f173_103 : q_fetch 173 103 = some (.getfield 35, 3, 1173) := by decide +kernel
theorem f173_106 : q_fetch 173 106 = some (.sipush 606, 3, 0) := by decide +kernel
theorem f173_109 : q_fetch 173 109 = some (.iload_n 2, 1, 0) := by decide +kernel
theorem f173_110 : q_fetch 173 110 = some (.iadd, 1, 0) := by decide +kernel
theorem f173_111 : q_fetch 173 111 = some (.iaload, 1, 0) := by decide +kernel
theorem f173_112 : q_fetch 173 112 = some (.iastore, 1, 0) := by decide +kernel
theorem f173_113 : q_fetch 173 113 = some (.aload_n 0, 1, 0) := by decide +kernel
theorem f173_114 : q_fetch 173 114 = some (.getfield 38, 3, 1175) := by decide +kernel
theorem f173_117 : q_fetch 173 117 = some (.bipush 101, 2, 0) := by decide +kernel
theorem f173_119 : q_fetch 173 119 = some (.iload_n 1, 1, 0) := by decide +kernel
theorem f173_120 : q_fetch 173 120 = some (.imul, 1, 0) := by decide +kernel
theorem f173_121 : q_fetch 173 121 = some (.iload_n 2, 1, 0) := by decide +kernel
theorem f173_122 : q_fetch 173 122 = some (.iadd, 1, 0) := by decide +kernel
theorem f173_123 : q_fetch 173 123 = some (.aload_n 0, 1, 0) := by decide +kernel
theorem f173_124 : q_fetch 173 124 = some (.getfield 38, 3, 1175) := by decide +kernel
theorem f173_127 : q_fetch 173 127 = some (.sipush 606, 3, 0) := by decide +kernel
theorem f173_130 : q_fetch 173 130 = some (.iload_n 2, 1, 0) := by decide +kernel
theorem f173_131 : q_fetch 173 131 = some (.iadd, 1, 0) := by decide +kernel
theorem f173_132 : q_fetch 173 132 = some (.iaload, 1, 0) := by decide +kernel
theorem f173_133 : q_fetch 173 133 = some (.iastore, 1, 0) := by decide +kernel
theorem f173_134 : q_fetch 173 134 = some (.aload_n 0, 1, 0) := by decide +kernel
theorem f173_135 : q_fetch 173 135 = some (.getfield 41, 3, 1177) := by decide +kernel
theorem f173_138 : q_fetch 173 138 = some (.bipush 101, 2, 0) := by decide +kernel
theorem f173_140 : q_fetch 173 140 = some (.iload_n 1, 1, 0) := by decide +kernel
theorem f173_141 : q_fetch 173 141 = some (.imul, 1, 0) := by decide +kernel
theorem f173_142 : q_fetch 173 142 = some (.iload_n 2, 1, 0) := by decide +kernel
theorem f173_143 : q_fetch 173 143 = some (.iadd, 1, 0) := by decide +kernel
theorem f173_144 : q_fetch 173 144 = some (.aload_n 0, 1, 0) := by decide +kernel
theorem f173_145 : q_fetch 173 145 = some (.getfield 41, 3, 1177) := by decide +kernel
theorem f173_148 : q_fetch 173 148 = some (.sipush 606, 3, 0) := by decide +kernel
theorem f173_151 : q_fetch 173 151 = some (.iload_n 2, 1, 0) := by decide +kernel
theorem f173_152 : q_fetch 173 152 = some (.iadd, 1, 0) := by decide +kernel
theorem f173_153 : q_fetch 173 153 = some (.iaload, 1, 0) := by decide +kernel
theorem f173_154 : q_fetch 173 154 = some (.iastore, 1, 0) := by decide +kernel
theorem f173_155 : q_fetch 173 155 = some (.iinc 2 1, 3, 0) := by decide +kernel
theorem f173_158 : q_fetch 173 158 = some (.goto (-156), 3, 2) := by decide +kernel
theorem f173_161 : q_fetch 173 161 = some (.iconst 0, 1, 0) := by decide +kernel
theorem f173_162 : q_fetch 173 162 = some (.istore_n 2, 1, 0) := by decide +kernel
theorem f173_163 : q_fetch 173 163 = some (.iload_n 2, 1, 0) := by decide +kernel
theorem f173_164 : q_fetch 173 164 = some (.bipush 20, 2, 0) := by decide +kernel
theorem f173_166 : q_fetch 173 166 = some (.if_icmp .ge (49), 3, 215) := by decide +kernel
theorem f173_169 : q_fetch 173 169 = some (.aload_n 0, 1, 0) := by decide +kernel
theorem f173_170 : q_fetch 173 170 = some (.getfield 66, 3, 1193) := by decide +kernel
theorem f173_173 : q_fetch 173 173 = some (.bipush 20, 2, 0) := by decide +kernel
theorem f173_175 : q_fetch 173 175 = some (.iload_n 1, 1, 0) := by decide +kernel
theorem f173_176 : q_fetch 173 176 = some (.imul, 1, 0) := by decide +kernel
theorem f173_177 : q_fetch 173 177 = some (.iload_n 2, 1, 0) := by decide +kernel
theorem f173_178 : q_fetch 173 178 = some (.iadd, 1, 0) := by decide +kernel
theorem f173_179 : q_fetch 173 179 = some (.aload_n 0, 1, 0) := by decide +kernel
theorem f173_180 : q_fetch 173 180 = some (.getfield 66, 3, 1193) := by decide +kernel
theorem f173_183 : q_fetch 173 183 = some (.bipush 120, 2, 0) := by decide +kernel
theorem f173_185 : q_fetch 173 185 = some (.iload_n 2, 1, 0) := by decide +kernel
theorem f173_186 : q_fetch 173 186 = some (.iadd, 1, 0) := by decide +kernel
theorem f173_187 : q_fetch 173 187 = some (.iaload, 1, 0) := by decide +kernel
theorem f173_188 : q_fetch 173 188 = some (.iastore, 1, 0) := by decide +kernel
theorem f173_189 : q_fetch 173 189 = some (.aload_n 0, 1, 0) := by decide +kernel
theorem f173_190 : q_fetch 173 190 = some (.getfield 69, 3, 1195) := by decide +kernel
theorem f173_193 : q_fetch 173 193 = some (.bipush 20, 2, 0) := by decide +kernel
theorem f173_195 : q_fetch 173 195 = some (.iload_n 1, 1, 0) := by decide +kernel
theorem f173_196 : q_fetch 173 196 = some (.imul, 1, 0) := by decide +kernel
theorem f173_197 : q_fetch 173 197 = some (.iload_n 2, 1, 0) := by decide +kernel
theorem f173_198 : q_fetch 173 198 = some (.iadd, 1, 0) := by decide +kernel
theorem f173_199 : q_fetch 173 199 = some (.aload_n 0, 1, 0) := by decide +kernel
theorem f173_200 : q_fetch 173 200 = some (.getfield 69, 3, 1195) := by decide +kernel
theorem f173_203 : q_fetch 173 203 = some (.bipush 120, 2, 0) := by decide +kernel
theorem f173_205 : q_fetch 173 205 = some (.iload_n 2, 1, 0) := by decide +kernel
theorem f173_206 : q_fetch 173 206 = some (.iadd, 1, 0) := by decide +kernel
theorem f173_207 : q_fetch 173 207 = some (.iaload, 1, 0) := by decide +kernel
theorem f173_208 : q_fetch 173 208 = some (.iastore, 1, 0) := by decide +kernel
theorem f173_209 : q_fetch 173 209 = some (.iinc 2 1, 3, 0) := by decide +kernel
theorem f173_212 : q_fetch 173 212 = some (.goto (-49), 3, 163) := by decide +kernel
theorem f173_215 : q_fetch 173 215 = some (.iconst 0, 1, 0) := by decide +kernel
theorem f173_216 : q_fetch 173 216 = some (.istore_n 2, 1, 0) := by decide +kernel
theorem f173_217 : q_fetch 173 217 = some (.iload_n 2, 1, 0) := by decide +kernel
theorem f173_218 : q_fetch 173 218 = some (.iconst 2, 1, 0) := by decide +kernel
theorem f173_219 : q_fetch 173 219 = some (.if_icmp .ge (47), 3, 266) := by decide +kernel
theorem f173_222 : q_fetch 173 222 = some (.aload_n 0, 1, 0) := by decide +kernel
theorem f173_223 : q_fetch 173 223 = some (.getfield 54, 3, 1185) := by decide +kernel
theorem f173_226 : q_fetch 173 226 = some (.iconst 2, 1, 0) := by decide +kernel
theorem f173_227 : q_fetch 173 227 = some (.iload_n 1, 1, 0) := by decide +kernel
theorem f173_228 : q_fetch 173 228 = some (.imul, 1, 0) := by decide +kernel
theorem f173_229 : q_fetch 173 229 = some (.iload_n 2, 1, 0) := by decide +kernel
theorem f173_230 : q_fetch 173 230 = some (.iadd, 1, 0) := by decide +kernel
theorem f173_231 : q_fetch 173 231 = some (.aload_n 0, 1, 0) := by decide +kernel
theorem f173_232 : q_fetch 173 232 = some (.getfield 54, 3, 1185) := by decide +kernel
theorem f173_235 : q_fetch 173 235 = some (.bipush 12, 2, 0) := by decide +kernel
theorem f173_237 : q_fetch 173 237 = some (.iload_n 2, 1, 0) := by decide +kernel
theorem f173_238 : q_fetch 173 238 = some (.iadd, 1, 0) := by decide +kernel
theorem f173_239 : q_fetch 173 239 = some (.iaload, 1, 0) := by decide +kernel
theorem f173_240 : q_fetch 173 240 = some (.iastore, 1, 0) := by decide +kernel
theorem f173_241 : q_fetch 173 241 = some (.aload_n 0, 1, 0) := by decide +kernel
theorem f173_242 : q_fetch 173 242 = some (.getfield 57, 3, 1187) := by decide +kernel
theorem f173_245 : q_fetch 173 245 = some (.iconst 2, 1, 0) := by decide +kernel
theorem f173_246 : q_fetch 173 246 = some (.iload_n 1, 1, 0) := by decide +kernel
theorem f173_247 : q_fetch 173 247 = some (.imul, 1, 0) := by decide +kernel
theorem f173_248 : q_fetch 173 248 = some (.iload_n 2, 1, 0) := by decide +kernel
theorem f173_249 : q_fetch 173 249 = some (.iadd, 1, 0) := by decide +kernel
theorem f173_250 : q_fetch 173 250 = some (.aload_n 0, 1, 0) := by decide +kernel
theorem f173_251 : q_fetch 173 251 = some (.getfield 57, 3, 1187) := by decide +kernel
theorem f173_254 : q_fetch 173 254 = some (.bipush 12, 2, 0) := by decide +kernel
theorem f173_256 : q_fetch 173 256 = some (.iload_n 2, 1, 0) := by decide +kernel
theorem f173_257 : q_fetch 173 257 = some (.iadd, 1, 0) := by decide +kernel
theorem f173_258 : q_fetch 173 258 = some (.iaload, 1, 0) := by decide +kernel
theorem f173_259 : q_fetch 173 259 = some (.iastore, 1, 0) := by decide +kernel
theorem f173_260 : q_fetch 173 260 = some (.iinc 2 1, 3, 0) := by decide +kernel
theorem f173_263 : q_fetch 173 263 = some (.goto (-46), 3, 217) := by decide +kernel
theorem f173_266 : q_fetch 173 266 = some (.aload_n 0, 1, 0) := by decide +kernel
theorem f173_267 : q_fetch 173 267 = some (.getfield 26, 3, 1167) := by decide +kernel
theorem f173_270 : q_fetch 173 270 = some (.iload_n 1, 1, 0) := by decide +kernel
theorem f173_271 : q_fetch 173 271 = some (.aload_n 0, 1, 0) := by decide +kernel
theorem f173_272 : q_fetch 173 272 = some (.getfield 26, 3, 1167) := by decide +kernel
theorem f173_275 : q_fetch 173 275 = some (.bipush 6, 2, 0) := by decide +kernel
theorem f173_277 : q_fetch 173 277 = some (.iaload, 1, 0) := by decide +kernel
theorem f173_278 : q_fetch 173 278 = some (.iastore, 1, 0) := by decide +kernel
theorem f173_279 : q_fetch 173 279 = some (.aload_n 0, 1, 0) := by decide +kernel
theorem f173_280 : q_fetch 173 280 = some (.getfield 44, 3, 1179) := by decide +kernel
theorem f173_283 : q_fetch 173 283 = some (.iload_n 1, 1, 0) := by decide +kernel
theorem f173_284 : q_fetch 173 284 = some (.aload_n 0, 1, 0) := by decide +kernel
theorem f173_285 : q_fetch 173 285 = some (.getfield 44, 3, 1179) := by decide +kernel
theorem f173_288 : q_fetch 173 288 = some (.bipush 6, 2, 0) := by decide +kernel
theorem f173_290 : q_fetch 173 290 = some (.iaload, 1, 0) := by decide +kernel
theorem f173_291 : q_fetch 173 291 = some (.iastore, 1, 0) := by decide +kernel
theorem f173_292 : q_fetch 173 292 = some (.aload_n 0, 1, 0) := by decide +kernel
theorem f173_293 : q_fetch 173 293 = some (.getfield 63, 3, 1191) := by decide +kernel
theorem f173_296 : q_fetch 173 296 = some (.iload_n 1, 1, 0) := by decide +kernel
theorem f173_297 : q_fetch 173 297 = some (.aload_n 0, 1, 0) := by decide +kernel
theorem f173_298 : q_fetch 173 298 = some (.getfield 63, 3, 1191) := by decide +kernel
theorem f173_301 : q_fetch 173 301 = some (.bipush 6, 2, 0) := by decide +kernel
theorem f173_303 : q_fetch 173 303 = some (.iaload, 1, 0) := by decide +kernel
theorem f173_304 : q_fetch 173 304 = some (.iastore, 1, 0) := by decide +kernel
theorem f173_305 : q_fetch 173 305 = some (.aload_n 0, 1, 0) := by decide +kernel
theorem f173_306 : q_fetch 173 306 = some (.getfield 51, 3, 1183) := by decide +kernel
theorem f173_309 : q_fetch 173 309 = some (.iload_n 1, 1, 0) := by decide +kernel
theorem f173_310 : q_fetch 173 310 = some (.aload_n 0, 1, 0) := by decide +kernel
theorem f173_311 : q_fetch 173 311 = some (.getfield 51, 3, 1183) := by decide +kernel
theorem f173_314 : q_fetch 173 314 = some (.bipush 6, 2, 0) := by decide +kernel
theorem f173_316 : q_fetch 173 316 = some (.baload, 1, 0) := by decide +kernel
theorem f173_317 : q_fetch 173 317 = some (.bastore, 1, 0) := by decide +kernel
theorem f173_318 : q_fetch 173 318 = some (.aload_n 0, 1, 0) := by decide +kernel
theorem f173_319 : q_fetch 173 319 = some (.getfield 60, 3, 1189) := by decide +kernel
theorem f173_322 : q_fetch 173 322 = some (.iload_n 1, 1, 0) := by decide +kernel
theorem f173_323 : q_fetch 173 323 = some (.aload_n 0, 1, 0) := by decide +kernel
theorem f173_324 : q_fetch 173 324 = some (.getfield 60, 3, 1189) := by decide +kernel
theorem f173_327 : q_fetch 173 327 = some (.bipush 6, 2, 0) := by decide +kernel
theorem f173_329 : q_fetch 173 329 = some (.iaload, 1, 0) := by decide +kernel
theorem f173_330 : q_fetch 173 330 = some (.iastore, 1, 0) := by decide +kernel
theorem f173_331 : q_fetch 173 331 = some (.aload_n 0, 1, 0) := by decide +kernel
theorem f173_332 : q_fetch 173 332 = some (.getfield 47, 3, 1181) := by decide +kernel
theorem f173_335 : q_fetch 173 335 = some (.iload_n 1, 1, 0) := by decide +kernel
theorem f173_336 : q_fetch 173 336 = some (.iconst 1, 1, 0) := by decide +kernel
theorem f173_337 : q_fetch 173 337 = some (.bastore, 1, 0) := by decide +kernel
theorem f173_338 : q_fetch 173 338 = some (.return_, 1, 0) := by decide +kernel
theorem f174_0 : q_fetch 174 0 = some (.aload_n 0, 1, 0) := by decide +kernel
theorem f174_1 : q_fetch 174 1 = some (.iconst 0, 1, 0) := by decide +kernel
theorem f174_2 : q_fetch 174 2 = some (.putfield 138, 3, 1152) := by decide +kernel
theorem f174_5 : q_fetch 174 5 = some (.aload_n 0, 1, 0) := by decide +kernel
theorem f174_6 : q_fetch 174 6 = some (.getfield 9, 3, 1154) := by decide +kernel
theorem f174_9 : q_fetch 174 9 = some (.ireturn, 1, 0) := by decide +kernel
theorem f175_0 : q_fetch 175 0 = some (.aload_n 0, 1, 0) := by decide +kernel
theorem f175_1 : q_fetch 175 1 = some (.iload_n 1, 1, 0) := by decide +kernel
theorem f175_2 : q_fetch 175 2 = some (.iconst 0, 1, 0) := by decide +kernel
theorem f175_3 : q_fetch 175 3 = some (.iconst 5, 1, 0) := by decide +kernel
theorem f175_4 : q_fetch 175 4 = some (.invokestatic 141, 3, 145) := by decide +kernel
theorem f175_7 : q_fetch 175 7 = some (.ifCond .eq (7), 3, 14) := by decide +kernel
theorem f175_10 : q_fetch 175 10 = some (.iconst 0, 1, 0) := by decide +kernel
theorem f175_11 : q_fetch 175 11 = some (.goto 4, 3, 15) := by decide +kernel
theorem f175_14 : q_fetch 175 14 = some (.iconst 1, 1, 0) := by decide +kernel
theorem f175_15 : q_fetch 175 15 = some (.putfield 138, 3, 1152) := by decide +kernel
theorem f175_18 : q_fetch 175 18 = some (.aload_n 0, 1, 0) := by decide +kernel
theorem f175_19 : q_fetch 175 19 = some (.getfield 138, 3, 1152) := by decide +kernel
theorem f175_22 : q_fetch 175 22 = some (.ifCond .le (5), 3, 27) := by decide +kernel
theorem f175_25 : q_fetch 175 25 = some (.iconst 0, 1, 0) := by decide +kernel
theorem f175_26 : q_fetch 175 26 = some (.ireturn, 1, 0) := by decide +kernel
theorem f175_27 : q_fetch 175 27 = some (.aload_n 0, 1, 0) := by decide +kernel
theorem f175_28 : q_fetch 175 28 = some (.getfield 47, 3, 1181) := by decide +kernel
theorem f175_31 : q_fetch 175 31 = some (.iload_n 1, 1, 0) := by decide +kernel
theorem f175_32 : q_fetch 175 32 = some (.baload, 1, 0) := by decide +kernel
theorem f175_33 : q_fetch 175 33 = some (.istore_n 2, 1, 0) := by decide +kernel
theorem f175_34 : q_fetch 175 34 = some (.aload_n 0, 1, 0) := by decide +kernel
theorem f175_35 : q_fetch 175 35 = some (.getfield 47, 3, 1181) := by decide +kernel
theorem f175_38 : q_fetch 175 38 = some (.iload_n 1, 1, 0) := by decide +kernel
theorem f175_39 : q_fetch 175 39 = some (.iconst 0, 1, 0) := by decide +kernel
theorem f175_40 : q_fetch 175 40 = some (.bastore, 1, 0) := by decide +kernel
theorem f175_41 : q_fetch 175 41 = some (.iload_n 2, 1, 0) := by decide +kernel
theorem f175_42 : q_fetch 175 42 = some (.ireturn, 1, 0) := by decide +kernel
theorem f176_0 : q_fetch 176 0 = some (.aload_n 0, 1, 0) := by decide +kernel
theorem f176_1 : q_fetch 176 1 = some (.iload_n 1, 1, 0) := by decide +kernel
theorem f176_2 : q_fetch 176 2 = some (.iconst 0, 1, 0) := by decide +kernel
theorem f176_3 : q_fetch 176 3 = some (.bipush 15, 2, 0) := by decide +kernel
theorem f176_5 : q_fetch 176 5 = some (.invokestatic 141, 3, 145) := by decide +kernel
theorem f176_8 : q_fetch 176 8 = some (.ifCond .eq (16), 3, 24) := by decide +kernel
theorem f176_11 : q_fetch 176 11 = some (.iload_n 2, 1, 0) := by decide +kernel
theorem f176_12 : q_fetch 176 12 = some (.iconst 0, 1, 0) := by decide +kernel
theorem f176_13 : q_fetch 176 13 = some (.iconst 2, 1, 0) := by decide +kernel
theorem f176_14 : q_fetch 176 14 = some (.invokestatic 141, 3, 145) := by decide +kernel
theorem f176_17 : q_fetch 176 17 = some (.ifCond .eq (7), 3, 24) := by decide +kernel
theorem f176_20 : q_fetch 176 20 = some (.iconst 0, 1, 0) := by decide +kernel
theorem f176_21 : q_fetch 176 21 = some (.goto 4, 3, 25) := by decide +kernel
theorem f176_24 : q_fetch 176 24 = some (.iconst 1, 1, 0) := by decide +kernel
theorem f176_25 : q_fetch 176 25 = some (.putfield 138, 3, 1152) := by decide +kernel
theorem f176_28 : q_fetch 176 28 = some (.aload_n 0, 1, 0) := by decide +kernel
theorem f176_29 : q_fetch 176 29 = some (.getfield 138, 3, 1152) := by decide +kernel
theorem f176_32 : q_fetch 176 32 = some (.ifCond .le (5), 3, 37) := by decide +kernel
theorem f176_35 : q_fetch 176 35 = some (.iconst 0, 1, 0) := by decide +kernel
theorem f176_36 : q_fetch 176 36 = some (.ireturn, 1, 0) := by decide +kernel
theorem f176_37 : q_fetch 176 37 = some (.aload_n 0, 1, 0) := by decide +kernel
theorem f176_38 : q_fetch 176 38 = some (.getfield 72, 3, 1197) := by decide +kernel
theorem f176_41 : q_fetch 176 41 = some (.iload_n 1, 1, 0) := by decide +kernel
theorem f176_42 : q_fetch 176 42 = some (.baload, 1, 0) := by decide +kernel
theorem f176_43 : q_fetch 176 43 = some (.istore_n 3, 1, 0) := by decide +kernel
theorem f176_44 : q_fetch 176 44 = some (.aload_n 0, 1, 0) := by decide +kernel
theorem f176_45 : q_fetch 176 45 = some (.getfield 72, 3, 1197) := by decide +kernel
theorem f176_48 : q_fetch 176 48 = some (.iload_n 1, 1, 0) := by decide +kernel
theorem f176_49 : q_fetch 176 49 = some (.iconst 1, 1, 0) := by decide +kernel
theorem f176_50 : q_fetch 176 50 = some (.bastore, 1, 0) := by decide +kernel
theorem f176_51 : q_fetch 176 51 = some (.aload_n 0, 1, 0) := by decide +kernel
theorem f176_52 : q_fetch 176 52 = some (.getfield 75, 3, 1199) := by decide +kernel
