/-! the rows of code, one by one -/
theorem f176_55 : q_fetch 176 55 = some (.iload_n 1, 1, 0) := by decide +kernel
theorem f176_56 : q_fetch 176 56 = some (.iload_n 2, 1, 0) := by decide +kernel
theorem f176_57 : q_fetch 176 57 = some (.iastore, 1, 0) := by decide +kernel
theorem f176_58 : q_fetch 176 58 = some (.aload_n 0, 1, 0) := by decide +kernel
theorem f176_59 : q_fetch 176 59 = some (.getfield 78, 3, 1201) := by decide +kernel
theorem f176_62 : q_fetch 176 62 = some (.iload_n 1, 1, 0) := by decide +kernel
theorem f176_63 : q_fetch 176 63 = some (.iconst 0, 1, 0) := by decide +kernel
theorem f176_64 : q_fetch 176 64 = some (.iastore, 1, 0) := by decide +kernel
theorem f176_65 : q_fetch 176 65 = some (.iconst 0, 1, 0) := by decide +kernel
theorem f176_66 : q_fetch 176 66 = some (.istore 4, 2, 0) := by decide +kernel
theorem f176_68 : q_fetch 176 68 = some (.iload 4, 2, 0) := by decide +kernel
theorem f176_70 : q_fetch 176 70 = some (.iconst 3, 1, 0) := by decide +kernel
theorem f176_71 : q_fetch 176 71 = some (.if_icmp .ge (21), 3, 92) := by decide +kernel
theorem f176_74 : q_fetch 176 74 = some (.aload_n 0, 1, 0) := by decide +kernel
theorem f176_75 : q_fetch 176 75 = some (.getfield 81, 3, 1203) := by decide +kernel
theorem f176_78 : q_fetch 176 78 = some (.iconst 3, 1, 0) := by decide +kernel
theorem f176_79 : q_fetch 176 79 = some (.iload_n 1, 1, 0) := by decide +kernel
theorem f176_80 : q_fetch 176 80 = some (.imul, 1, 0) := by decide +kernel
theorem f176_81 : q_fetch 176 81 = some (.iload 4, 2, 0) := by decide +kernel
theorem f176_83 : q_fetch 176 83 = some (.iadd, 1, 0) := by decide +kernel
theorem f176_84 : q_fetch 176 84 = some (.iconst 0, 1, 0) := by decide +kernel
theorem f176_85 : q_fetch 176 85 = some (.iastore, 1, 0) := by decide +kernel
theorem f176_86 : q_fetch 176 86 = some (.iinc 4 1, 3, 0) := by decide +kernel
theorem f176_89 : q_fetch 176 89 = some (.goto (-21), 3, 68) := by decide +kernel
theorem f176_92 : q_fetch 176 92 = some (.iload_n 3, 1, 0) := by decide +kernel
theorem f176_93 : q_fetch 176 93 = some (.ifCond .ne (7), 3, 100) := by decide +kernel
theorem f176_96 : q_fetch 176 96 = some (.iconst 1, 1, 0) := by decide +kernel
theorem f176_97 : q_fetch 176 97 = some (.goto 4, 3, 101) := by decide +kernel
theorem f176_100 : q_fetch 176 100 = some (.iconst 0, 1, 0) := by decide +kernel
theorem f176_101 : q_fetch 176 101 = some (.ireturn, 1, 0) := by decide +kernel
theorem f177_0 : q_fetch 177 0 = some (.aload_n 0, 1, 0) := by decide +kernel
theorem f177_1 : q_fetch 177 1 = some (.iload_n 1, 1, 0) := by decide +kernel
theorem f177_2 : q_fetch 177 2 = some (.iconst 0, 1, 0) := by decide +kernel
theorem f177_3 : q_fetch 177 3 = some (.bipush 15, 2, 0) := by decide +kernel
theorem f177_5 : q_fetch 177 5 = some (.invokestatic 141, 3, 145) := by decide +kernel
theorem f177_8 : q_fetch 177 8 = some (.ifCond .eq (13), 3, 21) := by decide +kernel
theorem f177_11 : q_fetch 177 11 = some (.iload_n 2, 1, 0) := by decide +kernel
theorem f177_12 : q_fetch 177 12 = some (.iconst 0, 1, 0) := by decide +kernel
theorem f177_13 : q_fetch 177 13 = some (.bipush 15, 2, 0) := by decide +kernel
theorem f177_15 : q_fetch 177 15 = some (.invokestatic 141, 3, 145) := by decide +kernel
theorem f177_18 : q_fetch 177 18 = some (.ifCond .ne (7), 3, 25) := by decide +kernel
theorem f177_21 : q_fetch 177 21 = some (.iconst 1, 1, 0) := by decide +kernel
theorem f177_22 : q_fetch 177 22 = some (.goto 43, 3, 65) := by decide +kernel
theorem f177_25 : q_fetch 177 25 = some (.aload_n 0, 1, 0) := by decide +kernel
theorem f177_26 : q_fetch 177 26 = some (.getfield 72, 3, 1197) := by decide +kernel
theorem f177_29 : q_fetch 177 29 = some (.iload_n 1, 1, 0) := by decide +kernel
theorem f177_30 : q_fetch 177 30 = some (.baload, 1, 0) := by decide +kernel
theorem f177_31 : q_fetch 177 31 = some (.ifCond .eq (12), 3, 43) := by decide +kernel
theorem f177_34 : q_fetch 177 34 = some (.aload_n 0, 1, 0) := by decide +kernel
theorem f177_35 : q_fetch 177 35 = some (.getfield 72, 3, 1197) := by decide +kernel
theorem f177_38 : q_fetch 177 38 = some (.iload_n 2, 1, 0) := by decide +kernel
theorem f177_39 : q_fetch 177 39 = some (.baload, 1, 0) := by decide +kernel
theorem f177_40 : q_fetch 177 40 = some (.ifCond .ne (7), 3, 47) := by decide +kernel
theorem f177_43 : q_fetch 177 43 = some (.iconst 2, 1, 0) := by decide +kernel
theorem f177_44 : q_fetch 177 44 = some (.goto 21, 3, 65) := by decide +kernel
theorem f177_47 : q_fetch 177 47 = some (.aload_n 0, 1, 0) := by decide +kernel
theorem f177_48 : q_fetch 177 48 = some (.iload_n 2, 1, 0) := by decide +kernel
theorem f177_49 : q_fetch 177 49 = some (.invokevirtual 284, 3, 178) := by decide +kernel
theorem f177_52 : q_fetch 177 52 = some (.iload_n 1, 1, 0) := by decide +kernel
theorem f177_53 : q_fetch 177 53 = some (.ishr, 1, 0) := by decide +kernel
theorem f177_54 : q_fetch 177 54 = some (.iconst 1, 1, 0) := by decide +kernel
theorem f177_55 : q_fetch 177 55 = some (.iand, 1, 0) := by decide +kernel
theorem f177_56 : q_fetch 177 56 = some (.iconst 1, 1, 0) := by decide +kernel
theorem f177_57 : q_fetch 177 57 = some (.if_icmp .ne (7), 3, 64) := by decide +kernel
theorem f177_60 : q_fetch 177 60 = some (.iconst 3, 1, 0) := by decide +kernel
theorem f177_61 : q_fetch 177 61 = some (.goto 4, 3, 65) := by decide +kernel
theorem f177_64 : q_fetch 177 64 = some (.iconst 0, 1, 0) := by decide +kernel
theorem f177_65 : q_fetch 177 65 = some (.putfield 138, 3, 1152) := by decide +kernel
theorem f177_68 : q_fetch 177 68 = some (.aload_n 0, 1, 0) := by decide +kernel
theorem f177_69 : q_fetch 177 69 = some (.getfield 138, 3, 1152) := by decide +kernel
theorem f177_72 : q_fetch 177 72 = some (.ifCond .le (5), 3, 77) := by decide +kernel
theorem f177_75 : q_fetch 177 75 = some (.iconst 0, 1, 0) := by decide +kernel
theorem f177_76 : q_fetch 177 76 = some (.ireturn, 1, 0) := by decide +kernel
theorem f177_77 : q_fetch 177 77 = some (.aload_n 0, 1, 0) := by decide +kernel
theorem f177_78 : q_fetch 177 78 = some (.getfield 78, 3, 1201) := by decide +kernel
theorem f177_81 : q_fetch 177 81 = some (.iload_n 1, 1, 0) := by decide +kernel
theorem f177_82 : q_fetch 177 82 = some (.iaload, 1, 0) := by decide +kernel
theorem f177_83 : q_fetch 177 83 = some (.iload_n 2, 1, 0) := by decide +kernel
theorem f177_84 : q_fetch 177 84 = some (.ishr, 1, 0) := by decide +kernel
theorem f177_85 : q_fetch 177 85 = some (.iconst 1, 1, 0) := by decide +kernel
theorem f177_86 : q_fetch 177 86 = some (.iand, 1, 0) := by decide +kernel
theorem f177_87 : q_fetch 177 87 = some (.iconst 1, 1, 0) := by decide +kernel
theorem f177_88 : q_fetch 177 88 = some (.if_icmp .ne (7), 3, 95) := by decide +kernel
theorem f177_91 : q_fetch 177 91 = some (.iconst 1, 1, 0) := by decide +kernel
theorem f177_92 : q_fetch 177 92 = some (.goto 4, 3, 96) := by decide +kernel
theorem f177_95 : q_fetch 177 95 = some (.iconst 0, 1, 0) := by decide +kernel
theorem f177_96 : q_fetch 177 96 = some (.istore_n 3, 1, 0) := by decide +kernel
theorem f177_97 : q_fetch 177 97 = some (.aload_n 0, 1, 0) := by decide +kernel
theorem f177_98 : q_fetch 177 98 = some (.getfield 78, 3, 1201) := by decide +kernel
theorem f177_101 : q_fetch 177 101 = some (.iload_n 1, 1, 0) := by decide +kernel
theorem f177_102 : q_fetch 177 102 = some (.dup2, 1, 0) := by decide +kernel
theorem f177_103 : q_fetch 177 103 = some (.iaload, 1, 0) := by decide +kernel
theorem f177_104 : q_fetch 177 104 = some (.iconst 1, 1, 0) := by decide +kernel
theorem f177_105 : q_fetch 177 105 = some (.iload_n 2, 1, 0) := by decide +kernel
theorem f177_106 : q_fetch 177 106 = some (.ishl, 1, 0) := by decide +kernel
theorem f177_107 : q_fetch 177 107 = some (.ior, 1, 0) := by decide +kernel
theorem f177_108 : q_fetch 177 108 = some (.iastore, 1, 0) := by decide +kernel
theorem f177_109 : q_fetch 177 109 = some (.iload_n 3, 1, 0) := by decide +kernel
theorem f177_110 : q_fetch 177 110 = some (.ifCond .ne (7), 3, 117) := by decide +kernel
theorem f177_113 : q_fetch 177 113 = some (.iconst 1, 1, 0) := by decide +kernel
theorem f177_114 : q_fetch 177 114 = some (.goto 4, 3, 118) := by decide +kernel
theorem f177_117 : q_fetch 177 117 = some (.iconst 0, 1, 0) := by decide +kernel
theorem f177_118 : q_fetch 177 118 = some (.ireturn, 1, 0) := by decide +kernel
theorem f178_0 : q_fetch 178 0 = some (.iconst 1, 1, 0) := by decide +kernel
theorem f178_1 : q_fetch 178 1 = some (.iload_n 1, 1, 0) := by decide +kernel
theorem f178_2 : q_fetch 178 2 = some (.ishl, 1, 0) := by decide +kernel
theorem f178_3 : q_fetch 178 3 = some (.istore_n 2, 1, 0) := by decide +kernel
theorem f178_4 : q_fetch 178 4 = some (.iconst 0, 1, 0) := by decide +kernel
theorem f178_5 : q_fetch 178 5 = some (.istore_n 3, 1, 0) := by decide +kernel
theorem f178_6 : q_fetch 178 6 = some (.iload_n 2, 1, 0) := by decide +kernel
theorem f178_7 : q_fetch 178 7 = some (.iload_n 3, 1, 0) := by decide +kernel
theorem f178_8 : q_fetch 178 8 = some (.if_icmp .eq (44), 3, 52) := by decide +kernel
theorem f178_11 : q_fetch 178 11 = some (.iload_n 2, 1, 0) := by decide +kernel
theorem f178_12 : q_fetch 178 12 = some (.istore_n 3, 1, 0) := by decide +kernel
theorem f178_13 : q_fetch 178 13 = some (.iconst 0, 1, 0) := by decide +kernel
theorem f178_14 : q_fetch 178 14 = some (.istore 4, 2, 0) := by decide +kernel
theorem f178_16 : q_fetch 178 16 = some (.iload 4, 2, 0) := by decide +kernel
theorem f178_18 : q_fetch 178 18 = some (.bipush 16, 2, 0) := by decide +kernel
theorem f178_20 : q_fetch 178 20 = some (.if_icmp .ge (29), 3, 49) := by decide +kernel
theorem f178_23 : q_fetch 178 23 = some (.iload_n 3, 1, 0) := by decide +kernel
theorem f178_24 : q_fetch 178 24 = some (.iload 4, 2, 0) := by decide +kernel
theorem f178_26 : q_fetch 178 26 = some (.ishr, 1, 0) := by decide +kernel
theorem f178_27 : q_fetch 178 27 = some (.iconst 1, 1, 0) := by decide +kernel
theorem f178_28 : q_fetch 178 28 = some (.iand, 1, 0) := by decide +kernel
theorem f178_29 : q_fetch 178 29 = some (.iconst 1, 1, 0) := by decide +kernel
theorem f178_30 : q_fetch 178 30 = some (.if_icmp .ne (13), 3, 43) := by decide +kernel
theorem f178_33 : q_fetch 178 33 = some (.iload_n 2, 1, 0) := by decide +kernel
theorem f178_34 : q_fetch 178 34 = some (.aload_n 0, 1, 0) := by decide +kernel
theorem f178_35 : q_fetch 178 35 = some (.getfield 78, 3, 1201) := by decide +kernel
theorem f178_38 : q_fetch 178 38 = some (.iload 4, 2, 0) := by decide +kernel
theorem f178_40 : q_fetch 178 40 = some (.iaload, 1, 0) := by decide +kernel
theorem f178_41 : q_fetch 178 41 = some (.ior, 1, 0) := by decide +kernel
theorem f178_42 : q_fetch 178 42 = some (.istore_n 2, 1, 0) := by decide +kernel
theorem f178_43 : q_fetch 178 43 = some (.iinc 4 1, 3, 0) := by decide +kernel
theorem f178_46 : q_fetch 178 46 = some (.goto (-30), 3, 16) := by decide +kernel
theorem f178_49 : q_fetch 178 49 = some (.goto (-43), 3, 6) := by decide +kernel
theorem f178_52 : q_fetch 178 52 = some (.iload_n 2, 1, 0) := by decide +kernel
theorem f178_53 : q_fetch 178 53 = some (.ireturn, 1, 0) := by decide +kernel
theorem f179_0 : q_fetch 179 0 = some (.iload_n 1, 1, 0) := by decide +kernel
theorem f179_1 : q_fetch 179 1 = some (.iconst 0, 1, 0) := by decide +kernel
theorem f179_2 : q_fetch 179 2 = some (.bipush 15, 2, 0) := by decide +kernel
theorem f179_4 : q_fetch 179 4 = some (.invokestatic 141, 3, 145) := by decide +kernel
theorem f179_7 : q_fetch 179 7 = some (.ifCond .eq (37), 3, 44) := by decide +kernel
theorem f179_10 : q_fetch 179 10 = some (.iload_n 2, 1, 0) := by decide +kernel
theorem f179_11 : q_fetch 179 11 = some (.iconst 0, 1, 0) := by decide +kernel
theorem f179_12 : q_fetch 179 12 = some (.iconst 2, 1, 0) := by decide +kernel
theorem f179_13 : q_fetch 179 13 = some (.invokestatic 141, 3, 145) := by decide +kernel
theorem f179_16 : q_fetch 179 16 = some (.ifCond .eq (28), 3, 44) := by decide +kernel
theorem f179_19 : q_fetch 179 19 = some (.iload_n 3, 1, 0) := by decide +kernel
theorem f179_20 : q_fetch 179 20 = some (.iconst 0, 1, 0) := by decide +kernel
theorem f179_21 : q_fetch 179 21 = some (.iconst 3, 1, 0) := by decide +kernel
theorem f179_22 : q_fetch 179 22 = some (.invokestatic 141, 3, 145) := by decide +kernel
theorem f179_25 : q_fetch 179 25 = some (.ifCond .eq (19), 3, 44) := by decide +kernel
theorem f179_28 : q_fetch 179 28 = some (.iload_n 3, 1, 0) := by decide +kernel
theorem f179_29 : q_fetch 179 29 = some (.iconst 3, 1, 0) := by decide +kernel
theorem f179_30 : q_fetch 179 30 = some (.if_icmp .ne (20), 3, 50) := by decide +kernel
theorem f179_33 : q_fetch 179 33 = some (.iload 4, 2, 0) := by decide +kernel
theorem f179_35 : q_fetch 179 35 = some (.iconst 0, 1, 0) := by decide +kernel
theorem f179_36 : q_fetch 179 36 = some (.bipush 15, 2, 0) := by decide +kernel
theorem f179_38 : q_fetch 179 38 = some (.invokestatic 141, 3, 145) := by decide +kernel
theorem f179_41 : q_fetch 179 41 = some (.ifCond .ne (9), 3, 50) := by decide +kernel
theorem f179_44 : q_fetch 179 44 = some (.aload_n 0, 1, 0) := by decide +kernel
theorem f179_45 : q_fetch 179 45 = some (.iconst 1, 1, 0) := by decide +kernel
theorem f179_46 : q_fetch 179 46 = some (.invokevirtual 145, 3, 146) := by decide +kernel
theorem f179_49 : q_fetch 179 49 = some (.ireturn, 1, 0) := by decide +kernel
theorem f179_50 : q_fetch 179 50 = some (.aload_n 0, 1, 0) := by decide +kernel
theorem f179_51 : q_fetch 179 51 = some (.getfield 72, 3, 1197) := by decide +kernel
theorem f179_54 : q_fetch 179 54 = some (.iload_n 1, 1, 0) := by decide +kernel
theorem f179_55 : q_fetch 179 55 = some (.baload, 1, 0) := by decide +kernel
theorem f179_56 : q_fetch 179 56 = some (.ifCond .ne (9), 3, 65) := by decide +kernel
theorem f179_59 : q_fetch 179 59 = some (.aload_n 0, 1, 0) := by decide +kernel
theorem f179_60 : q_fetch 179 60 = some (.iconst 2, 1, 0) := by decide +kernel
theorem f179_61 : q_fetch 179 61 = some (.invokevirtual 145, 3, 146) := by decide +kernel
theorem f179_64 : q_fetch 179 64 = some (.ireturn, 1, 0) := by decide +kernel
theorem f179_65 : q_fetch 179 65 = some (.aload_n 0, 1, 0) := by decide +kernel
theorem f179_66 : q_fetch 179 66 = some (.iconst 0, 1, 0) := by decide +kernel
theorem f179_67 : q_fetch 179 67 = some (.putfield 138, 3, 1152) := by decide +kernel
theorem f179_70 : q_fetch 179 70 = some (.aload_n 0, 1, 0) := by decide +kernel
theorem f179_71 : q_fetch 179 71 = some (.getfield 81, 3, 1203) := by decide +kernel
theorem f179_74 : q_fetch 179 74 = some (.iconst 3, 1, 0) := by decide +kernel
theorem f179_75 : q_fetch 179 75 = some (.iload_n 1, 1, 0) := by decide +kernel
theorem f179_76 : q_fetch 179 76 = some (.imul, 1, 0) := by decide +kernel
theorem f179_77 : q_fetch 179 77 = some (.iload_n 2, 1, 0) := by decide +kernel
theorem f179_78 : q_fetch 179 78 = some (.iadd, 1, 0) := by decide +kernel
theorem f179_79 : q_fetch 179 79 = some (.iaload, 1, 0) := by decide +kernel
theorem f179_80 : q_fetch 179 80 = some (.istore 5, 2, 0) := by decide +kernel
theorem f179_82 : q_fetch 179 82 = some (.aload_n 0, 1, 0) := by decide +kernel
theorem f179_83 : q_fetch 179 83 = some (.getfield 81, 3, 1203) := by decide +kernel
theorem f179_86 : q_fetch 179 86 = some (.iconst 3, 1, 0) := by decide +kernel
theorem f179_87 : q_fetch 179 87 = some (.iload_n 1, 1, 0) := by decide +kernel
theorem f179_88 : q_fetch 179 88 = some (.imul, 1, 0) := by decide +kernel
theorem f179_89 : q_fetch 179 89 = some (.iload_n 2, 1, 0) := by decide +kernel
theorem f179_90 : q_fetch 179 90 = some (.iadd, 1, 0) := by decide +kernel
theorem f179_91 : q_fetch 179 91 = some (.iload_n 3, 1, 0) := by decide +kernel
theorem f179_92 : q_fetch 179 92 = some (.iastore, 1, 0) := by decide +kernel
theorem f179_93 : q_fetch 179 93 = some (.aload_n 0, 1, 0) := by decide +kernel
theorem f179_94 : q_fetch 179 94 = some (.getfield 84, 3, 1205) := by decide +kernel
theorem f179_97 : q_fetch 179 97 = some (.iconst 3, 1, 0) := by decide +kernel
theorem f179_98 : q_fetch 179 98 = some (.iload_n 1, 1, 0) := by decide +kernel
theorem f179_99 : q_fetch 179 99 = some (.imul, 1, 0) := by decide +kernel
theorem f179_100 : q_fetch 179 100 = some (.iload_n 2, 1, 0) := by decide +kernel
theorem f179_101 : q_fetch 179 101 = some (.iadd, 1, 0) := by decide +kernel
theorem f179_102 : q_fetch 179 102 = some (.iload_n 3, 1, 0) := by decide +kernel
theorem f179_103 : q_fetch 179 103 = some (.iconst 2, 1, 0) := by decide +kernel
theorem f179_104 : q_fetch 179 104 = some (.if_icmp .ne (16), 3, 120) := by decide +kernel
theorem f179_107 : q_fetch 179 107 = some (.iload 4, 2, 0) := by decide +kernel
theorem f179_109 : q_fetch 179 109 = some (.ifCond .eq (7), 3, 116) := by decide +kernel
theorem f179_112 : q_fetch 179 112 = some (.iconst 1, 1, 0) := by decide +kernel
theorem f179_113 : q_fetch 179 113 = some (.goto 9, 3, 122) := by decide +kernel
theorem f179_116 : q_fetch 179 116 = some (.iconst 0, 1, 0) := by decide +kernel
theorem f179_117 : q_fetch 179 117 = some (.goto 5, 3, 122) := by decide +kernel
theorem f179_120 : q_fetch 179 120 = some (.iload 4, 2, 0) := by decide +kernel
theorem f179_122 : q_fetch 179 122 = some (.iastore, 1, 0) := by decide +kernel
theorem f179_123 : q_fetch 179 123 = some (.iload 5, 2, 0) := by decide +kernel
theorem f179_125 : q_fetch 179 125 = some (.ireturn, 1, 0) := by decide +kernel
theorem f180_0 : q_fetch 180 0 = some (.aload_n 0, 1, 0) := by decide +kernel
theorem f180_1 : q_fetch 180 1 = some (.iload_n 1, 1, 0) := by decide +kernel
theorem f180_2 : q_fetch 180 2 = some (.iconst 0, 1, 0) := by decide +kernel
theorem f180_3 : q_fetch 180 3 = some (.iconst 2, 1, 0) := by decide +kernel
theorem f180_4 : q_fetch 180 4 = some (.invokestatic 141, 3, 145) := by decide +kernel
theorem f180_7 : q_fetch 180 7 = some (.ifCond .eq (40), 3, 47) := by decide +kernel
theorem f180_10 : q_fetch 180 10 = some (.iload_n 2, 1, 0) := by decide +kernel
theorem f180_11 : q_fetch 180 11 = some (.iconst 0, 1, 0) := by decide +kernel
theorem f180_12 : q_fetch 180 12 = some (.iconst 2, 1, 0) := by decide +kernel
theorem f180_13 : q_fetch 180 13 = some (.invokestatic 141, 3, 145) := by decide +kernel
theorem f180_16 : q_fetch 180 16 = some (.ifCond .eq (31), 3, 47) := by decide +kernel
theorem f180_19 : q_fetch 180 19 = some (.iload_n 3, 1, 0) := by decide +kernel
theorem f180_20 : q_fetch 180 20 = some (.iconst 0, 1, 0) := by decide +kernel
theorem f180_21 : q_fetch 180 21 = some (.iconst 3, 1, 0) := by decide +kernel
theorem f180_22 : q_fetch 180 22 = some (.invokestatic 141, 3, 145) := by decide +kernel
theorem f180_25 : q_fetch 180 25 = some (.ifCond .eq (22), 3, 47) := by decide +kernel
theorem f180_28 : q_fetch 180 28 = some (.iload_n 3, 1, 0) := by decide +kernel
theorem f180_29 : q_fetch 180 29 = some (.iconst 3, 1, 0) := by decide +kernel
theorem f180_30 : q_fetch 180 30 = some (.if_icmp .ne (13), 3, 43) := by decide +kernel
theorem f180_33 : q_fetch 180 33 = some (.iload 4, 2, 0) := by decide +kernel
theorem f180_35 : q_fetch 180 35 = some (.iconst 0, 1, 0) := by decide +kernel
theorem f180_36 : q_fetch 180 36 = some (.iconst 2, 1, 0) := by decide +kernel
theorem f180_37 : q_fetch 180 37 = some (.invokestatic 141, 3, 145) := by decide +kernel
theorem f180_40 : q_fetch 180 40 = some (.ifCond .eq (7), 3, 47) := by decide +kernel
theorem f180_43 : q_fetch 180 43 = some (.iconst 0, 1, 0) := by decide +kernel
theorem f180_44 : q_fetch 180 44 = some (.goto 4, 3, 48) := by decide +kernel
theorem f180_47 : q_fetch 180 47 = some (.iconst 1, 1, 0) := by decide +kernel
theorem f180_48 : q_fetch 180 48 = some (.putfield 138, 3, 1152) := by decide +kernel
theorem f180_51 : q_fetch 180 51 = some (.aload_n 0, 1, 0) := by decide +kernel
theorem f180_52 : q_fetch 180 52 = some (.getfield 138, 3, 1152) := by decide +kernel
theorem f180_55 : q_fetch 180 55 = some (.ifCond .le (4), 3, 59) := by decide +kernel
theorem f180_58 : q_fetch 180 58 = some (.return_, 1, 0) := by decide +kernel
theorem f180_59 : q_fetch 180 59 = some (.aload_n 0, 1, 0) := by decide +kernel
theorem f180_60 : q_fetch 180 60 = some (.getfield 87, 3, 1207) := by decide +kernel
theorem f180_63 : q_fetch 180 63 = some (.iconst 3, 1, 0) := by decide +kernel
theorem f180_64 : q_fetch 180 64 = some (.iload_n 1, 1, 0) := by decide +kernel
theorem f180_65 : q_fetch 180 65 = some (.imul, 1, 0) := by decide +kernel
theorem f180_66 : q_fetch 180 66 = some (.iload_n 2, 1, 0) := by decide +kernel
theorem f180_67 : q_fetch 180 67 = some (.iadd, 1, 0) := by decide +kernel
theorem f180_68 : q_fetch 180 68 = some (.iload_n 3, 1, 0) := by decide +kernel
theorem f180_69 : q_fetch 180 69 = some (.iastore, 1, 0) := by decide +kernel
theorem f180_70 : q_fetch 180 70 = some (.aload_n 0, 1, 0) := by decide +kernel
theorem f180_71 : q_fetch 180 71 = some (.getfield 90, 3, 1209) := by decide +kernel
theorem f180_74 : q_fetch 180 74 = some (.iconst 3, 1, 0) := by decide +kernel
theorem f180_75 : q_fetch 180 75 = some (.iload_n 1, 1, 0) := by decide +kernel
theorem f180_76 : q_fetch 180 76 = some (.imul, 1, 0) := by decide +kernel
theorem f180_77 : q_fetch 180 77 = some (.iload_n 2, 1, 0) := by decide +kernel
theorem f180_78 : q_fetch 180 78 = some (.iadd, 1, 0) := by decide +kernel
theorem f180_79 : q_fetch 180 79 = some (.iload 4, 2, 0) := by decide +kernel
theorem f180_81 : q_fetch 180 81 = some (.iastore, 1, 0) := by decide +kernel
theorem f180_82 : q_fetch 180 82 = some (.aload_n 0, 1, 0) := by decide +kernel
theorem f180_83 : q_fetch 180 83 = some (.getfield 93, 3, 1211) := by decide +kernel
theorem f180_86 : q_fetch 180 86 = some (.iconst 3, 1, 0) := by decide +kernel
theorem f180_87 : q_fetch 180 87 = some (.iload_n 1, 1, 0) := by decide +kernel
theorem f180_88 : q_fetch 180 88 = some (.imul, 1, 0) := by decide +kernel
theorem f180_89 : q_fetch 180 89 = some (.iload_n 2, 1, 0) := by decide +kernel
theorem f180_90 : q_fetch 180 90 = some (.iadd, 1, 0) := by decide +kernel
theorem f180_91 : q_fetch 180 91 = some (.iload 5, 2, 0) := by decide +kernel
theorem f180_93 : q_fetch 180 93 = some (.bastore, 1, 0) := by decide +kernel
theorem f180_94 : q_fetch 180 94 = some (.return_, 1, 0) := by decide +kernel
theorem f181_0 : q_fetch 181 0 = some (.aload_n 0, 1, 0) := by decide +kernel
theorem f181_1 : q_fetch 181 1 = some (.iload_n 1, 1, 0) := by decide +kernel
theorem f181_2 : q_fetch 181 2 = some (.iconst 0, 1, 0) := by decide +kernel
theorem f181_3 : q_fetch 181 3 = some (.bipush 15, 2, 0) := by decide +kernel
theorem f181_5 : q_fetch 181 5 = some (.invokestatic 141, 3, 145) := by decide +kernel
theorem f181_8 : q_fetch 181 8 = some (.ifCond .eq (7), 3, 15) := by decide +kernel
theorem f181_11 : q_fetch 181 11 = some (.iconst 0, 1, 0) := by decide +kernel
theorem f181_12 : q_fetch 181 12 = some (.goto 4, 3, 16) := by decide +kernel
theorem f181_15 : q_fetch 181 15 = some (.iconst 1, 1, 0) := by decide +kernel
theorem f181_16 : q_fetch 181 16 = some (.putfield 138, 3, 1152) := by decide +kernel
theorem f181_19 : q_fetch 181 19 = some (.aload_n 0, 1, 0) := by decide +kernel
theorem f181_20 : q_fetch 181 20 = some (.getfield 138, 3, 1152) := by decide +kernel
theorem f181_23 : q_fetch 181 23 = some (.ifCond .gt (12), 3, 35) := by decide +kernel
theorem f181_26 : q_fetch 181 26 = some (.aload_n 0, 1, 0) := by decide +kernel
theorem f181_27 : q_fetch 181 27 = some (.getfield 72, 3, 1197) := by decide +kernel
theorem f181_30 : q_fetch 181 30 = some (.iload_n 1, 1, 0) := by decide +kernel
theorem f181_31 : q_fetch 181 31 = some (.baload, 1, 0) := by decide +kernel
theorem f181_32 : q_fetch 181 32 = some (.ifCond .ne (5), 3, 37) := by decide +kernel
theorem f181_35 : q_fetch 181 35 = some (.iconst 0, 1, 0) := by decide +kernel
theorem f181_36 : q_fetch 181 36 = some (.ireturn, 1, 0) := by decide +kernel
theorem f181_37 : q_fetch 181 37 = some (.iconst 0, 1, 0) := by decide +kernel
theorem f181_38 : q_fetch 181 38 = some (.istore_n 2, 1, 0) := by decide +kernel
theorem f181_39 : q_fetch 181 39 = some (.iload_n 2, 1, 0) := by decide +kernel
theorem f181_40 : q_fetch 181 40 = some (.iconst 3, 1, 0) := by decide +kernel
theorem f181_41 : q_fetch 181 41 = some (.if_icmp .ge (114), 3, 155) := by decide +kernel
theorem f181_44 : q_fetch 181 44 = some (.iconst 3, 1, 0) := by decide +kernel
theorem f181_45 : q_fetch 181 45 = some (.aload_n 0, 1, 0) := by decide +kernel
theorem f181_46 : q_fetch 181 46 = some (.getfield 75, 3, 1199) := by decide +kernel
theorem f181_49 : q_fetch 181 49 = some (.iload_n 1, 1, 0) := by decide +kernel
theorem f181_50 : q_fetch 181 50 = some (.iaload, 1, 0) := by decide +kernel
theorem f181_51 : q_fetch 181 51 = some (.imul, 1, 0) := by decide +kernel
theorem f181_52 : q_fetch 181 52 = some (.iload_n 2, 1, 0) := by decide +kernel
theorem f181_53 : q_fetch 181 53 = some (.iadd, 1, 0) := by decide +kernel
theorem f181_54 : q_fetch 181 54 = some (.istore_n 3, 1, 0) := by decide +kernel
theorem f181_55 : q_fetch 181 55 = some (.aload_n 0, 1, 0) := by decide +kernel
theorem f181_56 : q_fetch 181 56 = some (.getfield 81, 3, 1203) := by decide +kernel
theorem f181_59 : q_fetch 181 59 = some (.iconst 3, 1, 0) := by decide +kernel
theorem f181_60 : q_fetch 181 60 = some (.iload_n 1, 1, 0) := by decide +kernel
theorem f181_61 : q_fetch 181 61 = some (.imul, 1, 0) := by decide +kernel
theorem f181_62 : q_fetch 181 62 = some (.iload_n 2, 1, 0) := by decide +kernel
theorem f181_63 : q_fetch 181 63 = some (.iadd, 1, 0) := by decide +kernel
theorem f181_64 : q_fetch 181 64 = some (.iaload, 1, 0) := by decide +kernel
theorem f181_65 : q_fetch 181 65 = some (.istore 4, 2, 0) := by decide +kernel
theorem f181_67 : q_fetch 181 67 = some (.aload_n 0, 1, 0) := by decide +kernel
theorem f181_68 : q_fetch 181 68 = some (.getfield 84, 3, 1205) := by decide +kernel
theorem f181_71 : q_fetch 181 71 = some (.iconst 3, 1, 0) := by decide +kernel
theorem f181_72 : q_fetch 181 72 = some (.iload_n 1, 1, 0) := by decide +kernel
theorem f181_73 : q_fetch 181 73 = some (.imul, 1, 0) := by decide +kernel
theorem f181_74 : q_fetch 181 74 = some (.iload_n 2, 1, 0) := by decide +kernel
theorem f181_75 : q_fetch 181 75 = some (.iadd, 1, 0) := by decide +kernel
theorem f181_76 : q_fetch 181 76 = some (.iaload, 1, 0) := by decide +kernel
theorem f181_77 : q_fetch 181 77 = some (.istore 5, 2, 0) := by decide +kernel
theorem f181_79 : q_fetch 181 79 = some (.iload 4, 2, 0) := by decide +kernel
theorem f181_81 : q_fetch 181 81 = some (.ifCond .ne (23), 3, 104) := by decide +kernel
theorem f181_84 : q_fetch 181 84 = some (.aload_n 0, 1, 0) := by decide +kernel
theorem f181_85 : q_fetch 181 85 = some (.getfield 87, 3, 1207) := by decide +kernel
theorem f181_88 : q_fetch 181 88 = some (.iload_n 3, 1, 0) := by decide +kernel
theorem f181_89 : q_fetch 181 89 = some (.iaload, 1, 0) := by decide +kernel
theorem f181_90 : q_fetch 181 90 = some (.ifCond .le (59), 3, 149) := by decide +kernel
theorem f181_93 : q_fetch 181 93 = some (.aload_n 0, 1, 0) := by decide +kernel
theorem f181_94 : q_fetch 181 94 = some (.getfield 93, 3, 1211) := by decide +kernel
theorem f181_97 : q_fetch 181 97 = some (.iload_n 3, 1, 0) := by decide +kernel
theorem f181_98 : q_fetch 181 98 = some (.baload, 1, 0) := by decide +kernel
theorem f181_99 : q_fetch 181 99 = some (.ifCond .eq (50), 3, 149) := by decide +kernel
theorem f181_102 : q_fetch 181 102 = some (.iconst 0, 1, 0) := by decide +kernel
theorem f181_103 : q_fetch 181 103 = some (.ireturn, 1, 0) := by decide +kernel
theorem f181_104 : q_fetch 181 104 = some (.iload 4, 2, 0) := by decide +kernel
theorem f181_106 : q_fetch 181 106 = some (.aload_n 0, 1, 0) := by decide +kernel
theorem f181_107 : q_fetch 181 107 = some (.getfield 87, 3, 1207) := by decide +kernel
theorem f181_110 : q_fetch 181 110 = some (.iload_n 3, 1, 0) := by decide +kernel
theorem f181_111 : q_fetch 181 111 = some (.iaload, 1, 0) := by decide +kernel
theorem f181_112 : q_fetch 181 112 = some (.if_icmp .ne (35), 3, 147) := by decide +kernel
theorem f181_115 : q_fetch 181 115 = some (.iload 4, 2, 0) := by decide +kernel
theorem f181_117 : q_fetch 181 117 = some (.iconst 3, 1, 0) := by decide +kernel
theorem f181_118 : q_fetch 181 118 = some (.if_icmp .ne (31), 3, 149) := by decide +kernel
theorem f181_121 : q_fetch 181 121 = some (.aload_n 0, 1, 0) := by decide +kernel
theorem f181_122 : q_fetch 181 122 = some (.getfield 72, 3, 1197) := by decide +kernel
theorem f181_125 : q_fetch 181 125 = some (.iload 5, 2, 0) := by decide +kernel
theorem f181_127 : q_fetch 181 127 = some (.baload, 1, 0) := by decide +kernel
theorem f181_128 : q_fetch 181 128 = some (.ifCond .eq (19), 3, 147) := by decide +kernel
theorem f181_131 : q_fetch 181 131 = some (.aload_n 0, 1, 0) := by decide +kernel
theorem f181_132 : q_fetch 181 132 = some (.getfield 75, 3, 1199) := by decide +kernel
theorem f181_135 : q_fetch 181 135 = some (.iload 5, 2, 0) := by decide +kernel
theorem f181_137 : q_fetch 181 137 = some (.iaload, 1, 0) := by decide +kernel
theorem f181_138 : q_fetch 181 138 = some (.aload_n 0, 1, 0) := by decide +kernel
theorem f181_139 : q_fetch 181 139 = some (.getfield 90, 3, 1209) := by decide +kernel
theorem f181_142 : q_fetch 181 142 = some (.iload_n 3, 1, 0) := by decide +kernel
theorem f181_143 : q_fetch 181 143 = some (.iaload, 1, 0) := by decide +kernel
theorem f181_144 : q_fetch 181 144 = some (.if_icmp .eq (5), 3, 149) := by decide +kernel
theorem f181_147 : q_fetch 181 147 = some (.iconst 0, 1, 0) := by decide +kernel
theorem f181_148 : q_fetch 181 148 = some (.ireturn, 1, 0) := by decide +kernel
theorem f181_149 : q_fetch 181 149 = some (.iinc 2 1, 3, 0) := by decide +kernel
theorem f181_152 : q_fetch 181 152 = some (.goto (-113), 3, 39) := by decide +kernel
theorem f181_155 : q_fetch 181 155 = some (.iconst 1, 1, 0) := by decide +kernel
theorem f181_156 : q_fetch 181 156 = some (.ireturn, 1, 0) := by decide +kernel
theorem f182_0 : q_fetch 182 0 = some (.aload_n 0, 1, 0) := by decide +kernel
theorem f182_1 : q_fetch 182 1 = some (.iload_n 1, 1, 0) := by decide +kernel
theorem f182_2 : q_fetch 182 2 = some (.iconst 0, 1, 0) := by decide +kernel
theorem f182_3 : q_fetch 182 3 = some (.bipush 15, 2, 0) := by decide +kernel
theorem f182_5 : q_fetch 182 5 = some (.invokestatic 141, 3, 145) := by decide +kernel
theorem f182_8 : q_fetch 182 8 = some (.ifCond .eq (17), 3, 25) := by decide +kernel
theorem f182_11 : q_fetch 182 11 = some (.iload_n 2, 1, 0) := by decide +kernel
theorem f182_12 : q_fetch 182 12 = some (.iconst 0, 1, 0) := by decide +kernel
theorem f182_13 : q_fetch 182 13 = some (.bipush 15, 2, 0) := by decide +kernel
theorem f182_15 : q_fetch 182 15 = some (.invokestatic 141, 3, 145) := by decide +kernel
theorem f182_18 : q_fetch 182 18 = some (.ifCond .eq (7), 3, 25) := by decide +kernel
theorem f182_21 : q_fetch 182 21 = some (.iconst 0, 1, 0) := by decide +kernel
theorem f182_22 : q_fetch 182 22 = some (.goto 4, 3, 26) := by decide +kernel
theorem f182_25 : q_fetch 182 25 = some (.iconst 1, 1, 0) := by decide +kernel
theorem f182_26 : q_fetch 182 26 = some (.putfield 138, 3, 1152) := by decide +kernel
theorem f182_29 : q_fetch 182 29 = some (.aload_n 0, 1, 0) := by decide +kernel
theorem f182_30 : q_fetch 182 30 = some (.getfield 138, 3, 1152) := by decide +kernel
theorem f182_33 : q_fetch 182 33 = some (.ifCond .ne (20), 3, 53) := by decide +kernel
theorem f182_36 : q_fetch 182 36 = some (.aload_n 0, 1, 0) := by decide +kernel
theorem f182_37 : q_fetch 182 37 = some (.iload_n 1, 1, 0) := by decide +kernel
theorem f182_38 : q_fetch 182 38 = some (.invokevirtual 284, 3, 178) := by decide +kernel
theorem f182_41 : q_fetch 182 41 = some (.iload_n 2, 1, 0) := by decide +kernel
theorem f182_42 : q_fetch 182 42 = some (.ishr, 1, 0) := by decide +kernel
theorem f182_43 : q_fetch 182 43 = some (.iconst 1, 1, 0) := by decide +kernel
theorem f182_44 : q_fetch 182 44 = some (.iand, 1, 0) := by decide +kernel
theorem f182_45 : q_fetch 182 45 = some (.iconst 1, 1, 0) := by decide +kernel
theorem f182_46 : q_fetch 182 46 = some (.if_icmp .ne (7), 3, 53) := by decide +kernel
theorem f182_49 : q_fetch 182 49 = some (.iconst 1, 1, 0) := by decide +kernel
theorem f182_50 : q_fetch 182 50 = some (.goto 4, 3, 54) := by decide +kernel
theorem f182_53 : q_fetch 182 53 = some (.iconst 0, 1, 0) := by decide +kernel
theorem f182_54 : q_fetch 182 54 = some (.ireturn, 1, 0) := by decide +kernel
theorem f183_0 : q_fetch 183 0 = some (.aload_n 0, 1, 0) := by decide +kernel
theorem f183_1 : q_fetch 183 1 = some (.iload_n 1, 1, 0) := by decide +kernel
theorem f183_2 : q_fetch 183 2 = some (.iconst 0, 1, 0) := by decide +kernel
theorem f183_3 : q_fetch 183 3 = some (.iconst 5, 1, 0) := by decide +kernel
theorem f183_4 : q_fetch 183 4 = some (.invokestatic 141, 3, 145) := by decide +kernel
theorem f183_7 : q_fetch 183 7 = some (.ifCond .eq (13), 3, 20) := by decide +kernel
theorem f183_10 : q_fetch 183 10 = some (.iload_n 2, 1, 0) := by decide +kernel
theorem f183_11 : q_fetch 183 11 = some (.iload_n 3, 1, 0) := by decide +kernel
theorem f183_12 : q_fetch 183 12 = some (.iload 4, 2, 0) := by decide +kernel
theorem f183_14 : q_fetch 183 14 = some (.invokestatic 329, 3, 184) := by decide +kernel
theorem f183_17 : q_fetch 183 17 = some (.ifCond .ne (7), 3, 24) := by decide +kernel
theorem f183_20 : q_fetch 183 20 = some (.iconst 1, 1, 0) := by decide +kernel
theorem f183_21 : q_fetch 183 21 = some (.goto 17, 3, 38) := by decide +kernel
theorem f183_24 : q_fetch 183 24 = some (.aload_n 0, 1, 0) := by decide +kernel
theorem f183_25 : q_fetch 183 25 = some (.getfield 47, 3, 1181) := by decide +kernel
theorem f183_28 : q_fetch 183 28 = some (.iload_n 1, 1, 0) := by decide +kernel
theorem f183_29 : q_fetch 183 29 = some (.baload, 1, 0) := by decide +kernel
theorem f183_30 : q_fetch 183 30 = some (.ifCond .eq (7), 3, 37) := by decide +kernel
theorem f183_33 : q_fetch 183 33 = some (.iconst 0, 1, 0) := by decide +kernel
theorem f183_34 : q_fetch 183 34 = some (.goto 4, 3, 38) := by decide +kernel
theorem f183_37 : q_fetch 183 37 = some (.iconst 2, 1, 0) := by decide +kernel
theorem f183_38 : q_fetch 183 38 = some (.putfield 138, 3, 1152) := by decide +kernel
theorem f183_41 : q_fetch 183 41 = some (.aload_n 0, 1, 0) := by decide +kernel
theorem f183_42 : q_fetch 183 42 = some (.getfield 138, 3, 1152) := by decide +kernel
theorem f183_45 : q_fetch 183 45 = some (.ifCond .le (5), 3, 50) := by decide +kernel
theorem f183_48 : q_fetch 183 48 = some (.iconst 0, 1, 0) := by decide +kernel
theorem f183_49 : q_fetch 183 49 = some (.ireturn, 1, 0) := by decide +kernel
theorem f183_50 : q_fetch 183 50 = some (.aload_n 0, 1, 0) := by decide +kernel
theorem f183_51 : q_fetch 183 51 = some (.iload_n 1, 1, 0) := by decide +kernel
theorem f183_52 : q_fetch 183 52 = some (.iload_n 2, 1, 0) := by decide +kernel
theorem f183_53 : q_fetch 183 53 = some (.iload_n 3, 1, 0) := by decide +kernel
theorem f183_54 : q_fetch 183 54 = some (.iload 4, 2, 0) := by decide +kernel
theorem f183_56 : q_fetch 183 56 = some (.invokevirtual 332, 3, 185) := by decide +kernel
theorem f183_59 : q_fetch 183 59 = some (.istore 5, 2, 0) := by decide +kernel
theorem f183_61 : q_fetch 183 61 = some (.iload 5, 2, 0) := by decide +kernel
theorem f183_63 : q_fetch 183 63 = some (.iconst 3, 1, 0) := by decide +kernel
theorem f183_64 : q_fetch 183 64 = some (.if_icmp .le (11), 3, 75) := by decide +kernel
theorem f183_67 : q_fetch 183 67 = some (.aload_n 0, 1, 0) := by decide +kernel
theorem f183_68 : q_fetch 183 68 = some (.iload 5, 2, 0) := by decide +kernel
theorem f183_70 : q_fetch 183 70 = some (.iconst 1, 1, 0) := by decide +kernel
theorem f183_71 : q_fetch 183 71 = some (.isub, 1, 0) := by decide +kernel
theorem f183_72 : q_fetch 183 72 = some (.putfield 138, 3, 1152) := by decide +kernel
theorem f183_75 : q_fetch 183 75 = some (.iload 5, 2, 0) := by decide +kernel
theorem f183_77 : q_fetch 183 77 = some (.iconst 3, 1, 0) := by decide +kernel
theorem f183_78 : q_fetch 183 78 = some (.if_icmp .ne (7), 3, 85) := by decide +kernel
theorem f183_81 : q_fetch 183 81 = some (.iconst 1, 1, 0) := by decide +kernel
theorem f183_82 : q_fetch 183 82 = some (.goto 4, 3, 86) := by decide +kernel
theorem f183_85 : q_fetch 183 85 = some (.iconst 0, 1, 0) := by decide +kernel
theorem f183_86 : q_fetch 183 86 = some (.ireturn, 1, 0) := by decide +kernel
theorem f184_0 : q_fetch 184 0 = some (.iload_n 0, 1, 0) := by decide +kernel
theorem f184_1 : q_fetch 184 1 = some (.iconst 0, 1, 0) := by decide +kernel
theorem f184_2 : q_fetch 184 2 = some (.bipush 15, 2, 0) := by decide +kernel
theorem f184_4 : q_fetch 184 4 = some (.invokestatic 141, 3, 145) := by decide +kernel
theorem f184_7 : q_fetch 184 7 = some (.ifCond .eq (27), 3, 34) := by decide +kernel
theorem f184_10 : q_fetch 184 10 = some (.iload_n 1, 1, 0) := by decide +kernel
theorem f184_11 : q_fetch 184 11 = some (.iconst 0, 1, 0) := by decide +kernel
theorem f184_12 : q_fetch 184 12 = some (.bipush 9, 2, 0) := by decide +kernel
theorem f184_14 : q_fetch 184 14 = some (.invokestatic 141, 3, 145) := by decide +kernel
theorem f184_17 : q_fetch 184 17 = some (.ifCond .eq (17), 3, 34) := by decide +kernel
theorem f184_20 : q_fetch 184 20 = some (.iload_n 2, 1, 0) := by decide +kernel
theorem f184_21 : q_fetch 184 21 = some (.iconst 0, 1, 0) := by decide +kernel
theorem f184_22 : q_fetch 184 22 = some (.bipush 15, 2, 0) := by decide +kernel
theorem f184_24 : q_fetch 184 24 = some (.invokestatic 141, 3, 145) := by decide +kernel
theorem f184_27 : q_fetch 184 27 = some (.ifCond .eq (7), 3, 34) := by decide +kernel
theorem f184_30 : q_fetch 184 30 = some (.iconst 1, 1, 0) := by decide +kernel
theorem f184_31 : q_fetch 184 31 = some (.goto 4, 3, 35) := by decide +kernel
theorem f184_34 : q_fetch 184 34 = some (.iconst 0, 1, 0) := by decide +kernel
theorem f184_35 : q_fetch 184 35 = some (.ireturn, 1, 0) := by decide +kernel
theorem f185_0 : q_fetch 185 0 = some (.aload_n 0, 1, 0) := by decide +kernel
theorem f185_1 : q_fetch 185 1 = some (.iload_n 1, 1, 0) := by decide +kernel
theorem f185_2 : q_fetch 185 2 = some (.iconst 0, 1, 0) := by decide +kernel
theorem f185_3 : q_fetch 185 3 = some (.iload_n 2, 1, 0) := by decide +kernel
theorem f185_4 : q_fetch 185 4 = some (.invokevirtual 323, 3, 186) := by decide +kernel
theorem f185_7 : q_fetch 185 7 = some (.ifCond .eq (33), 3, 40) := by decide +kernel
theorem f185_10 : q_fetch 185 10 = some (.aload_n 0, 1, 0) := by decide +kernel
theorem f185_11 : q_fetch 185 11 = some (.iload_n 1, 1, 0) := by decide +kernel
theorem f185_12 : q_fetch 185 12 = some (.iconst 1, 1, 0) := by decide +kernel
theorem f185_13 : q_fetch 185 13 = some (.iload 4, 2, 0) := by decide +kernel
theorem f185_15 : q_fetch 185 15 = some (.invokevirtual 323, 3, 186) := by decide +kernel
theorem f185_18 : q_fetch 185 18 = some (.ifCond .eq (22), 3, 40) := by decide +kernel
theorem f185_21 : q_fetch 185 21 = some (.aload_n 0, 1, 0) := by decide +kernel
theorem f185_22 : q_fetch 185 22 = some (.getfield 60, 3, 1189) := by decide +kernel
theorem f185_25 : q_fetch 185 25 = some (.iload_n 1, 1, 0) := by decide +kernel
theorem f185_26 : q_fetch 185 26 = some (.iaload, 1, 0) := by decide +kernel
theorem f185_27 : q_fetch 185 27 = some (.ifCond .lt (15), 3, 42) := by decide +kernel
theorem f185_30 : q_fetch 185 30 = some (.aload_n 0, 1, 0) := by decide +kernel
theorem f185_31 : q_fetch 185 31 = some (.getfield 60, 3, 1189) := by decide +kernel
theorem f185_34 : q_fetch 185 34 = some (.iload_n 1, 1, 0) := by decide +kernel
theorem f185_35 : q_fetch 185 35 = some (.iaload, 1, 0) := by decide +kernel
theorem f185_36 : q_fetch 185 36 = some (.iload_n 3, 1, 0) := by decide +kernel
theorem f185_37 : q_fetch 185 37 = some (.if_icmp .eq (5), 3, 42) := by decide +kernel
theorem f185_40 : q_fetch 185 40 = some (.iconst 1, 1, 0) := by decide +kernel
theorem f185_41 : q_fetch 185 41 = some (.ireturn, 1, 0) := by decide +kernel
theorem f185_42 : q_fetch 185 42 = some (.aload_n 0, 1, 0) := by decide +kernel
theorem f185_43 : q_fetch 185 43 = some (.iload_n 2, 1, 0) := by decide +kernel
theorem f185_44 : q_fetch 185 44 = some (.putfield 314, 3, 1246) := by decide +kernel
theorem f185_47 : q_fetch 185 47 = some (.aload_n 0, 1, 0) := by decide +kernel
theorem f185_48 : q_fetch 185 48 = some (.iload 4, 2, 0) := by decide +kernel
theorem f185_50 : q_fetch 185 50 = some (.putfield 317, 3, 1248) := by decide +kernel
theorem f185_53 : q_fetch 185 53 = some (.bipush 20, 2, 0) := by decide +kernel
theorem f185_55 : q_fetch 185 55 = some (.iload_n 1, 1, 0) := by decide +kernel
theorem f185_56 : q_fetch 185 56 = some (.imul, 1, 0) := by decide +kernel
theorem f185_57 : q_fetch 185 57 = some (.istore 5, 2, 0) := by decide +kernel
theorem f185_59 : q_fetch 185 59 = some (.iload 5, 2, 0) := by decide +kernel
theorem f185_61 : q_fetch 185 61 = some (.bipush 20, 2, 0) := by decide +kernel
theorem f185_63 : q_fetch 185 63 = some (.iload_n 1, 1, 0) := by decide +kernel
theorem f185_64 : q_fetch 185 64 = some (.imul, 1, 0) := by decide +kernel
theorem f185_65 : q_fetch 185 65 = some (.aload_n 0, 1, 0) := by decide +kernel
theorem f185_66 : q_fetch 185 66 = some (.getfield 63, 3, 1191) := by decide +kernel
theorem f185_69 : q_fetch 185 69 = some (.iload_n 1, 1, 0) := by decide +kernel
theorem f185_70 : q_fetch 185 70 = some (.iaload, 1, 0) := by decide +kernel
theorem f185_71 : q_fetch 185 71 = some (.iadd, 1, 0) := by decide +kernel
theorem f185_72 : q_fetch 185 72 = some (.if_icmp .ge (98), 3, 170) := by decide +kernel
theorem f185_75 : q_fetch 185 75 = some (.aload_n 0, 1, 0) := by decide +kernel
theorem f185_76 : q_fetch 185 76 = some (.bipush 101, 2, 0) := by decide +kernel
theorem f185_78 : q_fetch 185 78 = some (.iload_n 1, 1, 0) := by decide +kernel
theorem f185_79 : q_fetch 185 79 = some (.imul, 1, 0) := by decide +kernel
theorem f185_80 : q_fetch 185 80 = some (.aload_n 0, 1, 0) := by decide +kernel
theorem f185_81 : q_fetch 185 81 = some (.getfield 69, 3, 1195) := by decide +kernel
theorem f185_84 : q_fetch 185 84 = some (.iload 5, 2, 0) := by decide +kernel
theorem f185_86 : q_fetch 185 86 = some (.iaload, 1, 0) := by decide +kernel
theorem f185_87 : q_fetch 185 87 = some (.invokevirtual 326, 3, 187) := by decide +kernel
theorem f185_90 : q_fetch 185 90 = some (.istore 6, 2, 0) := by decide +kernel
theorem f185_92 : q_fetch 185 92 = some (.iload 6, 2, 0) := by decide +kernel
theorem f185_94 : q_fetch 185 94 = some (.ifCond .le (6), 3, 100) := by decide +kernel
theorem f185_97 : q_fetch 185 97 = some (.iload 6, 2, 0) := by decide +kernel
theorem f185_99 : q_fetch 185 99 = some (.ireturn, 1, 0) := by decide +kernel
theorem f185_100 : q_fetch 185 100 = some (.aload_n 0, 1, 0) := by decide +kernel
theorem f185_101 : q_fetch 185 101 = some (.getfield 120, 3, 1239) := by decide +kernel
theorem f185_104 : q_fetch 185 104 = some (.iconst 0, 1, 0) := by decide +kernel
theorem f185_105 : q_fetch 185 105 = some (.iaload, 1, 0) := by decide +kernel
theorem f185_106 : q_fetch 185 106 = some (.iconst 2, 1, 0) := by decide +kernel
theorem f185_107 : q_fetch 185 107 = some (.if_icmp .eq (5), 3, 112) := by decide +kernel
theorem f185_110 : q_fetch 185 110 = some (.iconst 4, 1, 0) := by decide +kernel
theorem f185_111 : q_fetch 185 111 = some (.ireturn, 1, 0) := by decide +kernel
theorem f185_112 : q_fetch 185 112 = some (.aload_n 0, 1, 0) := by decide +kernel
theorem f185_113 : q_fetch 185 113 = some (.getfield 17, 3, 1161) := by decide +kernel
theorem f185_116 : q_fetch 185 116 = some (.bipush 101, 2, 0) := by decide +kernel
theorem f185_118 : q_fetch 185 118 = some (.iload_n 1, 1, 0) := by decide +kernel
theorem f185_119 : q_fetch 185 119 = some (.imul, 1, 0) := by decide +kernel
theorem f185_120 : q_fetch 185 120 = some (.aload_n 0, 1, 0) := by decide +kernel
theorem f185_121 : q_fetch 185 121 = some (.getfield 66, 3, 1193) := by decide +kernel
theorem f185_124 : q_fetch 185 124 = some (.iload 5, 2, 0) := by decide +kernel
theorem f185_126 : q_fetch 185 126 = some (.iaload, 1, 0) := by decide +kernel
theorem f185_127 : q_fetch 185 127 = some (.iadd, 1, 0) := by decide +kernel
theorem f185_128 : q_fetch 185 128 = some (.iaload, 1, 0) := by decide +kernel
theorem f185_129 : q_fetch 185 129 = some (.sipush 302, 3, 0) := by decide +kernel
theorem f185_132 : q_fetch 185 132 = some (.if_icmp .ne (7), 3, 139) := by decide +kernel
theorem f185_135 : q_fetch 185 135 = some (.iconst 1, 1, 0) := by decide +kernel
theorem f185_136 : q_fetch 185 136 = some (.goto 4, 3, 140) := by decide +kernel
theorem f185_139 : q_fetch 185 139 = some (.iconst 0, 1, 0) := by decide +kernel
theorem f185_140 : q_fetch 185 140 = some (.istore 7, 2, 0) := by decide +kernel
theorem f185_142 : q_fetch 185 142 = some (.aload_n 0, 1, 0) := by decide +kernel
theorem f185_143 : q_fetch 185 143 = some (.getfield 123, 3, 1241) := by decide +kernel
theorem f185_146 : q_fetch 185 146 = some (.iconst 0, 1, 0) := by decide +kernel
theorem f185_147 : q_fetch 185 147 = some (.iaload, 1, 0) := by decide +kernel
theorem f185_148 : q_fetch 185 148 = some (.iconst 1, 1, 0) := by decide +kernel
theorem f185_149 : q_fetch 185 149 = some (.if_icmp .ne (7), 3, 156) := by decide +kernel
theorem f185_152 : q_fetch 185 152 = some (.iconst 1, 1, 0) := by decide +kernel
theorem f185_153 : q_fetch 185 153 = some (.goto 4, 3, 157) := by decide +kernel
theorem f185_156 : q_fetch 185 156 = some (.iconst 0, 1, 0) := by decide +kernel
theorem f185_157 : q_fetch 185 157 = some (.iload 7, 2, 0) := by decide +kernel
theorem f185_159 : q_fetch 185 159 = some (.if_icmp .eq (5), 3, 164) := by decide +kernel
theorem f185_162 : q_fetch 185 162 = some (.iconst 2, 1, 0) := by decide +kernel
theorem f185_163 : q_fetch 185 163 = some (.ireturn, 1, 0) := by decide +kernel
theorem f185_164 : q_fetch 185 164 = some (.iinc 5 1, 3, 0) := by decide +kernel
theorem f185_167 : q_fetch 185 167 = some (.goto (-108), 3, 59) := by decide +kernel
theorem f185_170 : q_fetch 185 170 = some (.iconst 3, 1, 0) := by decide +kernel
theorem f185_171 : q_fetch 185 171 = some (.ireturn, 1, 0) := by decide +kernel
theorem f186_0 : q_fetch 186 0 = some (.aload_n 0, 1, 0) := by decide +kernel
theorem f186_1 : q_fetch 186 1 = some (.getfield 54, 3, 1185) := by decide +kernel
theorem f186_4 : q_fetch 186 4 = some (.iconst 2, 1, 0) := by decide +kernel
theorem f186_5 : q_fetch 186 5 = some (.iload_n 1, 1, 0) := by decide +kernel
theorem f186_6 : q_fetch 186 6 = some (.imul, 1, 0) := by decide +kernel
theorem f186_7 : q_fetch 186 7 = some (.iload_n 2, 1, 0) := by decide +kernel
theorem f186_8 : q_fetch 186 8 = some (.iadd, 1, 0) := by decide +kernel
theorem f186_9 : q_fetch 186 9 = some (.iaload, 1, 0) := by decide +kernel
theorem f186_10 : q_fetch 186 10 = some (.istore 4, 2, 0) := by decide +kernel
theorem f186_12 : q_fetch 186 12 = some (.aload_n 0, 1, 0) := by decide +kernel
theorem f186_13 : q_fetch 186 13 = some (.getfield 57, 3, 1187) := by decide +kernel
theorem f186_16 : q_fetch 186 16 = some (.iconst 2, 1, 0) := by decide +kernel
theorem f186_17 : q_fetch 186 17 = some (.iload_n 1, 1, 0) := by decide +kernel
theorem f186_18 : q_fetch 186 18 = some (.imul, 1, 0) := by decide +kernel
theorem f186_19 : q_fetch 186 19 = some (.iload_n 2, 1, 0) := by decide +kernel
theorem f186_20 : q_fetch 186 20 = some (.iadd, 1, 0) := by decide +kernel
theorem f186_21 : q_fetch 186 21 = some (.iaload, 1, 0) := by decide +kernel
theorem f186_22 : q_fetch 186 22 = some (.istore 5, 2, 0) := by decide +kernel
theorem f186_24 : q_fetch 186 24 = some (.iload 4, 2, 0) := by decide +kernel
theorem f186_26 : q_fetch 186 26 = some (.ifCond .eq (32), 3, 58) := by decide +kernel
theorem f186_29 : q_fetch 186 29 = some (.iload 4, 2, 0) := by decide +kernel
theorem f186_31 : q_fetch 186 31 = some (.iconst 1, 1, 0) := by decide +kernel
theorem f186_32 : q_fetch 186 32 = some (.if_icmp .ne (12), 3, 44) := by decide +kernel
theorem f186_35 : q_fetch 186 35 = some (.iload_n 3, 1, 0) := by decide +kernel
theorem f186_36 : q_fetch 186 36 = some (.iload 5, 2, 0) := by decide +kernel
theorem f186_38 : q_fetch 186 38 = some (.if_icmp .ne (24), 3, 62) := by decide +kernel
theorem f186_41 : q_fetch 186 41 = some (.goto 17, 3, 58) := by decide +kernel
theorem f186_44 : q_fetch 186 44 = some (.aload_n 0, 1, 0) := by decide +kernel
theorem f186_45 : q_fetch 186 45 = some (.iload_n 3, 1, 0) := by decide +kernel
theorem f186_46 : q_fetch 186 46 = some (.invokevirtual 284, 3, 178) := by decide +kernel
theorem f186_49 : q_fetch 186 49 = some (.iload 5, 2, 0) := by decide +kernel
theorem f186_51 : q_fetch 186 51 = some (.ishr, 1, 0) := by decide +kernel
theorem f186_52 : q_fetch 186 52 = some (.iconst 1, 1, 0) := by decide +kernel
theorem f186_53 : q_fetch 186 53 = some (.iand, 1, 0) := by decide +kernel
theorem f186_54 : q_fetch 186 54 = some (.iconst 1, 1, 0) := by decide +kernel
theorem f186_55 : q_fetch 186 55 = some (.if_icmp .ne (7), 3, 62) := by decide +kernel
theorem f186_58 : q_fetch 186 58 = some (.iconst 1, 1, 0) := by decide +kernel
theorem f186_59 : q_fetch 186 59 = some (.goto 4, 3, 63) := by decide +kernel
theorem f186_62 : q_fetch 186 62 = some (.iconst 0, 1, 0) := by decide +kernel
theorem f186_63 : q_fetch 186 63 = some (.ireturn, 1, 0) := by decide +kernel
theorem f187_0 : q_fetch 187 0 = some (.aload_n 0, 1, 0) := by decide +kernel
theorem f187_1 : q_fetch 187 1 = some (.iconst 0, 1, 0) := by decide +kernel
theorem f187_2 : q_fetch 187 2 = some (.putfield 290, 3, 1242) := by decide +kernel
theorem f187_5 : q_fetch 187 5 = some (.aload_n 0, 1, 0) := by decide +kernel
theorem f187_6 : q_fetch 187 6 = some (.iconst 0, 1, 0) := by decide +kernel
theorem f187_7 : q_fetch 187 7 = some (.putfield 287, 3, 1244) := by decide +kernel
theorem f187_10 : q_fetch 187 10 = some (.aload_n 0, 1, 0) := by decide +kernel
theorem f187_11 : q_fetch 187 11 = some (.iload_n 2, 1, 0) := by decide +kernel
theorem f187_12 : q_fetch 187 12 = some (.invokevirtual 293, 3, 188) := by decide +kernel
theorem f187_15 : q_fetch 187 15 = some (.aload_n 0, 1, 0) := by decide +kernel
theorem f187_16 : q_fetch 187 16 = some (.getfield 290, 3, 1242) := by decide +kernel
theorem f187_19 : q_fetch 187 19 = some (.ifCond .le (322), 3, 341) := by decide +kernel
theorem f187_22 : q_fetch 187 22 = some (.iload_n 1, 1, 0) := by decide +kernel
theorem f187_23 : q_fetch 187 23 = some (.aload_n 0, 1, 0) := by decide +kernel
theorem f187_24 : q_fetch 187 24 = some (.getfield 114, 3, 1235) := by decide +kernel
theorem f187_27 : q_fetch 187 27 = some (.aload_n 0, 1, 0) := by decide +kernel
theorem f187_28 : q_fetch 187 28 = some (.getfield 290, 3, 1242) := by decide +kernel
theorem f187_31 : q_fetch 187 31 = some (.iconst 1, 1, 0) := by decide +kernel
theorem f187_32 : q_fetch 187 32 = some (.isub, 1, 0) := by decide +kernel
theorem f187_33 : q_fetch 187 33 = some (.iaload, 1, 0) := by decide +kernel
theorem f187_34 : q_fetch 187 34 = some (.iadd, 1, 0) := by decide +kernel
theorem f187_35 : q_fetch 187 35 = some (.istore_n 3, 1, 0) := by decide +kernel
theorem f187_36 : q_fetch 187 36 = some (.aload_n 0, 1, 0) := by decide +kernel
theorem f187_37 : q_fetch 187 37 = some (.getfield 29, 3, 1169) := by decide +kernel
theorem f187_40 : q_fetch 187 40 = some (.iload_n 3, 1, 0) := by decide +kernel
theorem f187_41 : q_fetch 187 41 = some (.iaload, 1, 0) := by decide +kernel
theorem f187_42 : q_fetch 187 42 = some (.istore 4, 2, 0) := by decide +kernel
theorem f187_44 : q_fetch 187 44 = some (.aload_n 0, 1, 0) := by decide +kernel
theorem f187_45 : q_fetch 187 45 = some (.getfield 117, 3, 1237) := by decide +kernel
theorem f187_48 : q_fetch 187 48 = some (.aload_n 0, 1, 0) := by decide +kernel
theorem f187_49 : q_fetch 187 49 = some (.getfield 290, 3, 1242) := by decide +kernel
theorem f187_52 : q_fetch 187 52 = some (.iconst 1, 1, 0) := by decide +kernel
theorem f187_53 : q_fetch 187 53 = some (.isub, 1, 0) := by decide +kernel
theorem f187_54 : q_fetch 187 54 = some (.iaload, 1, 0) := by decide +kernel
theorem f187_55 : q_fetch 187 55 = some (.istore 5, 2, 0) := by decide +kernel
theorem f187_57 : q_fetch 187 57 = some (.iconst 0, 1, 0) := by decide +kernel
theorem f187_58 : q_fetch 187 58 = some (.istore 6, 2, 0) := by decide +kernel
theorem f187_60 : q_fetch 187 60 = some (.aload_n 0, 1, 0) := by decide +kernel
theorem f187_61 : q_fetch 187 61 = some (.getfield 117, 3, 1237) := by decide +kernel
theorem f187_64 : q_fetch 187 64 = some (.aload_n 0, 1, 0) := by decide +kernel
theorem f187_65 : q_fetch 187 65 = some (.getfield 290, 3, 1242) := by decide +kernel
theorem f187_68 : q_fetch 187 68 = some (.iconst 1, 1, 0) := by decide +kernel
theorem f187_69 : q_fetch 187 69 = some (.isub, 1, 0) := by decide +kernel
theorem f187_70 : q_fetch 187 70 = some (.dup2, 1, 0) := by decide +kernel
theorem f187_71 : q_fetch 187 71 = some (.iaload, 1, 0) := by decide +kernel
theorem f187_72 : q_fetch 187 72 = some (.iconst 1, 1, 0) := by decide +kernel
theorem f187_73 : q_fetch 187 73 = some (.iadd, 1, 0) := by decide +kernel
theorem f187_74 : q_fetch 187 74 = some (.iastore, 1, 0) := by decide +kernel
theorem f187_75 : q_fetch 187 75 = some (.aload_n 0, 1, 0) := by decide +kernel
theorem f187_76 : q_fetch 187 76 = some (.getfield 32, 3, 1171) := by decide +kernel
theorem f187_79 : q_fetch 187 79 = some (.iload_n 3, 1, 0) := by decide +kernel
theorem f187_80 : q_fetch 187 80 = some (.iaload, 1, 0) := by decide +kernel
theorem f187_81 : q_fetch 187 81 = some (.ifCond .ge (23), 3, 104) := by decide +kernel
theorem f187_84 : q_fetch 187 84 = some (.aload_n 0, 1, 0) := by decide +kernel
theorem f187_85 : q_fetch 187 85 = some (.dup, 1, 0) := by decide +kernel
theorem f187_86 : q_fetch 187 86 = some (.getfield 290, 3, 1242) := by decide +kernel
theorem f187_89 : q_fetch 187 89 = some (.iconst 1, 1, 0) := by decide +kernel
theorem f187_90 : q_fetch 187 90 = some (.isub, 1, 0) := by decide +kernel
theorem f187_91 : q_fetch 187 91 = some (.putfield 290, 3, 1242) := by decide +kernel
theorem f187_94 : q_fetch 187 94 = some (.aload_n 0, 1, 0) := by decide +kernel
theorem f187_95 : q_fetch 187 95 = some (.iload_n 3, 1, 0) := by decide +kernel
theorem f187_96 : q_fetch 187 96 = some (.iload 4, 2, 0) := by decide +kernel
theorem f187_98 : q_fetch 187 98 = some (.invokevirtual 295, 3, 189) := by decide +kernel
theorem f187_101 : q_fetch 187 101 = some (.goto 229, 3, 330) := by decide +kernel
theorem f187_104 : q_fetch 187 104 = some (.iload 5, 2, 0) := by decide +kernel
theorem f187_106 : q_fetch 187 106 = some (.ifCond .ne (16), 3, 122) := by decide +kernel
theorem f187_109 : q_fetch 187 109 = some (.aload_n 0, 1, 0) := by decide +kernel
theorem f187_110 : q_fetch 187 110 = some (.aload_n 0, 1, 0) := by decide +kernel
theorem f187_111 : q_fetch 187 111 = some (.getfield 32, 3, 1171) := by decide +kernel
theorem f187_114 : q_fetch 187 114 = some (.iload_n 3, 1, 0) := by decide +kernel
theorem f187_115 : q_fetch 187 115 = some (.iaload, 1, 0) := by decide +kernel
theorem f187_116 : q_fetch 187 116 = some (.invokevirtual 293, 3, 188) := by decide +kernel
theorem f187_119 : q_fetch 187 119 = some (.goto 211, 3, 330) := by decide +kernel
theorem f187_122 : q_fetch 187 122 = some (.iload 4, 2, 0) := by decide +kernel
theorem f187_124 : q_fetch 187 124 = some (.invokestatic 298, 3, 191) := by decide +kernel
theorem f187_127 : q_fetch 187 127 = some (.ifCond .eq (25), 3, 152) := by decide +kernel
theorem f187_130 : q_fetch 187 130 = some (.aload_n 0, 1, 0) := by decide +kernel
theorem f187_131 : q_fetch 187 131 = some (.dup, 1, 0) := by decide +kernel
theorem f187_132 : q_fetch 187 132 = some (.getfield 290, 3, 1242) := by decide +kernel
theorem f187_135 : q_fetch 187 135 = some (.iconst 1, 1, 0) := by decide +kernel
theorem f187_136 : q_fetch 187 136 = some (.isub, 1, 0) := by decide +kernel
theorem f187_137 : q_fetch 187 137 = some (.putfield 290, 3, 1242) := by decide +kernel
theorem f187_140 : q_fetch 187 140 = some (.aload_n 0, 1, 0) := by decide +kernel
theorem f187_141 : q_fetch 187 141 = some (.iload_n 3, 1, 0) := by decide +kernel
theorem f187_142 : q_fetch 187 142 = some (.iload 4, 2, 0) := by decide +kernel
theorem f187_144 : q_fetch 187 144 = some (.invokevirtual 301, 3, 192) := by decide +kernel
theorem f187_147 : q_fetch 187 147 = some (.istore 6, 2, 0) := by decide +kernel
theorem f187_149 : q_fetch 187 149 = some (.goto 181, 3, 330) := by decide +kernel
theorem f187_152 : q_fetch 187 152 = some (.iload 5, 2, 0) := by decide +kernel
theorem f187_154 : q_fetch 187 154 = some (.iconst 1, 1, 0) := by decide +kernel
theorem f187_155 : q_fetch 187 155 = some (.if_icmp .ne (125), 3, 280) := by decide +kernel
theorem f187_158 : q_fetch 187 158 = some (.iload 4, 2, 0) := by decide +kernel
theorem f187_160 : q_fetch 187 160 = some (.sipush 204, 3, 0) := by decide +kernel
theorem f187_163 : q_fetch 187 163 = some (.if_icmp .eq (11), 3, 174) := by decide +kernel
theorem f187_166 : q_fetch 187 166 = some (.iload 4, 2, 0) := by decide +kernel
theorem f187_168 : q_fetch 187 168 = some (.sipush 205, 3, 0) := by decide +kernel
theorem f187_171 : q_fetch 187 171 = some (.if_icmp .ne (7), 3, 178) := by decide +kernel
theorem f187_174 : q_fetch 187 174 = some (.iconst 1, 1, 0) := by decide +kernel
theorem f187_175 : q_fetch 187 175 = some (.goto 4, 3, 179) := by decide +kernel
theorem f187_178 : q_fetch 187 178 = some (.iconst 0, 1, 0) := by decide +kernel
theorem f187_179 : q_fetch 187 179 = some (.istore 7, 2, 0) := by decide +kernel
theorem f187_181 : q_fetch 187 181 = some (.iload 7, 2, 0) := by decide +kernel
theorem f187_183 : q_fetch 187 183 = some (.ifCond .eq (17), 3, 200) := by decide +kernel
theorem f187_186 : q_fetch 187 186 = some (.aload_n 0, 1, 0) := by decide +kernel
theorem f187_187 : q_fetch 187 187 = some (.iload 4, 2, 0) := by decide +kernel
theorem f187_189 : q_fetch 187 189 = some (.aload_n 0, 1, 0) := by decide +kernel
theorem f187_190 : q_fetch 187 190 = some (.getfield 287, 3, 1244) := by decide +kernel
theorem f187_193 : q_fetch 187 193 = some (.iconst 1, 1, 0) := by decide +kernel
theorem f187_194 : q_fetch 187 194 = some (.isub, 1, 0) := by decide +kernel
theorem f187_195 : q_fetch 187 195 = some (.invokevirtual 305, 3, 193) := by decide +kernel
theorem f187_198 : q_fetch 187 198 = some (.istore 6, 2, 0) := by decide +kernel
theorem f187_200 : q_fetch 187 200 = some (.iload 7, 2, 0) := by decide +kernel
theorem f187_202 : q_fetch 187 202 = some (.ifCond .eq (39), 3, 241) := by decide +kernel
theorem f187_205 : q_fetch 187 205 = some (.iload 6, 2, 0) := by decide +kernel
theorem f187_207 : q_fetch 187 207 = some (.ifCond .ne (34), 3, 241) := by decide +kernel
theorem f187_210 : q_fetch 187 210 = some (.aload_n 0, 1, 0) := by decide +kernel
theorem f187_211 : q_fetch 187 211 = some (.getfield 123, 3, 1241) := by decide +kernel
theorem f187_214 : q_fetch 187 214 = some (.aload_n 0, 1, 0) := by decide +kernel
theorem f187_215 : q_fetch 187 215 = some (.getfield 287, 3, 1244) := by decide +kernel
theorem f187_218 : q_fetch 187 218 = some (.iconst 1, 1, 0) := by decide +kernel
theorem f187_219 : q_fetch 187 219 = some (.isub, 1, 0) := by decide +kernel
theorem f187_220 : q_fetch 187 220 = some (.iaload, 1, 0) := by decide +kernel
theorem f187_221 : q_fetch 187 221 = some (.iload 4, 2, 0) := by decide +kernel
theorem f187_223 : q_fetch 187 223 = some (.sipush 204, 3, 0) := by decide +kernel
theorem f187_226 : q_fetch 187 226 = some (.if_icmp .ne (7), 3, 233) := by decide +kernel
theorem f187_229 : q_fetch 187 229 = some (.iconst 0, 1, 0) := by decide +kernel
theorem f187_230 : q_fetch 187 230 = some (.goto 4, 3, 234) := by decide +kernel
theorem f187_233 : q_fetch 187 233 = some (.iconst 1, 1, 0) := by decide +kernel
theorem f187_234 : q_fetch 187 234 = some (.if_icmp .ne (7), 3, 241) := by decide +kernel
theorem f187_237 : q_fetch 187 237 = some (.iconst 1, 1, 0) := by decide +kernel
theorem f187_238 : q_fetch 187 238 = some (.goto 4, 3, 242) := by decide +kernel
theorem f187_241 : q_fetch 187 241 = some (.iconst 0, 1, 0) := by decide +kernel
theorem f187_242 : q_fetch 187 242 = some (.istore 8, 2, 0) := by decide +kernel
theorem f187_244 : q_fetch 187 244 = some (.iload 8, 2, 0) := by decide +kernel
theorem f187_246 : q_fetch 187 246 = some (.ifCond .eq (16), 3, 262) := by decide +kernel
theorem f187_249 : q_fetch 187 249 = some (.aload_n 0, 1, 0) := by decide +kernel
theorem f187_250 : q_fetch 187 250 = some (.dup, 1, 0) := by decide +kernel
theorem f187_251 : q_fetch 187 251 = some (.getfield 290, 3, 1242) := by decide +kernel
theorem f187_254 : q_fetch 187 254 = some (.iconst 1, 1, 0) := by decide +kernel
theorem f187_255 : q_fetch 187 255 = some (.isub, 1, 0) := by decide +kernel
theorem f187_256 : q_fetch 187 256 = some (.putfield 290, 3, 1242) := by decide +kernel
theorem f187_259 : q_fetch 187 259 = some (.goto 18, 3, 277) := by decide +kernel
theorem f187_262 : q_fetch 187 262 = some (.iload 6, 2, 0) := by decide +kernel
theorem f187_264 : q_fetch 187 264 = some (.ifCond .ne (13), 3, 277) := by decide +kernel
theorem f187_267 : q_fetch 187 267 = some (.aload_n 0, 1, 0) := by decide +kernel
theorem f187_268 : q_fetch 187 268 = some (.aload_n 0, 1, 0) := by decide +kernel
theorem f187_269 : q_fetch 187 269 = some (.getfield 35, 3, 1173) := by decide +kernel
theorem f187_272 : q_fetch 187 272 = some (.iload_n 3, 1, 0) := by decide +kernel
theorem f187_273 : q_fetch 187 273 = some (.iaload, 1, 0) := by decide +kernel
theorem f187_274 : q_fetch 187 274 = some (.invokevirtual 293, 3, 188) := by decide +kernel
theorem f187_277 : q_fetch 187 277 = some (.goto 53, 3, 330) := by decide +kernel
theorem f187_280 : q_fetch 187 280 = some (.aload_n 0, 1, 0) := by decide +kernel
theorem f187_281 : q_fetch 187 281 = some (.dup, 1, 0) := by decide +kernel
theorem f187_282 : q_fetch 187 282 = some (.getfield 290, 3, 1242) := by decide +kernel
theorem f187_285 : q_fetch 187 285 = some (.iconst 1, 1, 0) := by decide +kernel
theorem f187_286 : q_fetch 187 286 = some (.isub, 1, 0) := by decide +kernel
theorem f187_287 : q_fetch 187 287 = some (.putfield 290, 3, 1242) := by decide +kernel
theorem f187_290 : q_fetch 187 290 = some (.aload_n 0, 1, 0) := by decide +kernel
theorem f187_291 : q_fetch 187 291 = some (.iload 4, 2, 0) := by decide +kernel
theorem f187_293 : q_fetch 187 293 = some (.aload_n 0, 1, 0) := by decide +kernel
theorem f187_294 : q_fetch 187 294 = some (.getfield 287, 3, 1244) := by decide +kernel
theorem f187_297 : q_fetch 187 297 = some (.iconst 2, 1, 0) := by decide +kernel
theorem f187_298 : q_fetch 187 298 = some (.isub, 1, 0) := by decide +kernel
theorem f187_299 : q_fetch 187 299 = some (.invokevirtual 305, 3, 193) := by decide +kernel
theorem f187_302 : q_fetch 187 302 = some (.aload_n 0, 1, 0) := by decide +kernel
theorem f187_303 : q_fetch 187 303 = some (.iload 4, 2, 0) := by decide +kernel
theorem f187_305 : q_fetch 187 305 = some (.aload_n 0, 1, 0) := by decide +kernel
theorem f187_306 : q_fetch 187 306 = some (.getfield 287, 3, 1244) := by decide +kernel
theorem f187_309 : q_fetch 187 309 = some (.iconst 1, 1, 0) := by decide +kernel
theorem f187_310 : q_fetch 187 310 = some (.isub, 1, 0) := by decide +kernel
theorem f187_311 : q_fetch 187 311 = some (.invokevirtual 305, 3, 193) := by decide +kernel
theorem f187_314 : q_fetch 187 314 = some (.iadd, 1, 0) := by decide +kernel
theorem f187_315 : q_fetch 187 315 = some (.ifCond .le (7), 3, 322) := by decide +kernel
theorem f187_318 : q_fetch 187 318 = some (.iconst 4, 1, 0) := by decide +kernel
theorem f187_319 : q_fetch 187 319 = some (.goto 9, 3, 328) := by decide +kernel
theorem f187_322 : q_fetch 187 322 = some (.aload_n 0, 1, 0) := by decide +kernel
theorem f187_323 : q_fetch 187 323 = some (.iload 4, 2, 0) := by decide +kernel
theorem f187_325 : q_fetch 187 325 = some (.invokevirtual 308, 3, 195) := by decide +kernel
theorem f187_328 : q_fetch 187 328 = some (.istore 6, 2, 0) := by decide +kernel
theorem f187_330 : q_fetch 187 330 = some (.iload 6, 2, 0) := by decide +kernel
theorem f187_332 : q_fetch 187 332 = some (.ifCond .le (6), 3, 338) := by decide +kernel
theorem f187_335 : q_fetch 187 335 = some (.iload 6, 2, 0) := by decide +kernel
theorem f187_337 : q_fetch 187 337 = some (.ireturn, 1, 0) := by decide +kernel
theorem f187_338 : q_fetch 187 338 = some (.goto (-323), 3, 15) := by decide +kernel
theorem f187_341 : q_fetch 187 341 = some (.iconst 0, 1, 0) := by decide +kernel
theorem f187_342 : q_fetch 187 342 = some (.ireturn, 1, 0) := by decide +kernel
theorem f188_0 : q_fetch 188 0 = some (.aload_n 0, 1, 0) := by decide +kernel
theorem f188_1 : q_fetch 188 1 = some (.getfield 114, 3, 1235) := by decide +kernel
theorem f188_4 : q_fetch 188 4 = some (.aload_n 0, 1, 0) := by decide +kernel
theorem f188_5 : q_fetch 188 5 = some (.getfield 290, 3, 1242) := by decide +kernel
theorem f188_8 : q_fetch 188 8 = some (.iload_n 1, 1, 0) := by decide +kernel
theorem f188_9 : q_fetch 188 9 = some (.iastore, 1, 0) := by decide +kernel
theorem f188_10 : q_fetch 188 10 = some (.aload_n 0, 1, 0) := by decide +kernel
theorem f188_11 : q_fetch 188 11 = some (.getfield 117, 3, 1237) := by decide +kernel
theorem f188_14 : q_fetch 188 14 = some (.aload_n 0, 1, 0) := by decide +kernel
theorem f188_15 : q_fetch 188 15 = some (.getfield 290, 3, 1242) := by decide +kernel
theorem f188_18 : q_fetch 188 18 = some (.iconst 0, 1, 0) := by decide +kernel
theorem f188_19 : q_fetch 188 19 = some (.iastore, 1, 0) := by decide +kernel
theorem f188_20 : q_fetch 188 20 = some (.aload_n 0, 1, 0) := by decide +kernel
theorem f188_21 : q_fetch 188 21 = some (.dup, 1, 0) := by decide +kernel
theorem f188_22 : q_fetch 188 22 = some (.getfield 290, 3, 1242) := by decide +kernel
theorem f188_25 : q_fetch 188 25 = some (.iconst 1, 1, 0) := by decide +kernel
theorem f188_26 : q_fetch 188 26 = some (.iadd, 1, 0) := by decide +kernel
theorem f188_27 : q_fetch 188 27 = some (.putfield 290, 3, 1242) := by decide +kernel
theorem f188_30 : q_fetch 188 30 = some (.return_, 1, 0) := by decide +kernel
theorem f189_0 : q_fetch 189 0 = some (.iload_n 2, 1, 0) := by decide +kernel
theorem f189_1 : q_fetch 189 1 = some (.iconst 1, 1, 0) := by decide +kernel
theorem f189_2 : q_fetch 189 2 = some (.if_icmp .ne (17), 3, 19) := by decide +kernel
theorem f189_5 : q_fetch 189 5 = some (.aload_n 0, 1, 0) := by decide +kernel
theorem f189_6 : q_fetch 189 6 = some (.iconst 1, 1, 0) := by decide +kernel
theorem f189_7 : q_fetch 189 7 = some (.aload_n 0, 1, 0) := by decide +kernel
theorem f189_8 : q_fetch 189 8 = some (.getfield 38, 3, 1175) := by decide +kernel
theorem f189_11 : q_fetch 189 11 = some (.iload_n 1, 1, 0) := by decide +kernel
theorem f189_12 : q_fetch 189 12 = some (.iaload, 1, 0) := by decide +kernel
theorem f189_13 : q_fetch 189 13 = some (.invokevirtual 311, 3, 190) := by decide +kernel
theorem f189_16 : q_fetch 189 16 = some (.goto 76, 3, 92) := by decide +kernel
theorem f189_19 : q_fetch 189 19 = some (.iload_n 2, 1, 0) := by decide +kernel
theorem f189_20 : q_fetch 189 20 = some (.sipush 306, 3, 0) := by decide +kernel
theorem f189_23 : q_fetch 189 23 = some (.if_icmp .eq (10), 3, 33) := by decide +kernel
theorem f189_26 : q_fetch 189 26 = some (.iload_n 2, 1, 0) := by decide +kernel
theorem f189_27 : q_fetch 189 27 = some (.sipush 307, 3, 0) := by decide +kernel
theorem f189_30 : q_fetch 189 30 = some (.if_icmp .ne (23), 3, 53) := by decide +kernel
theorem f189_33 : q_fetch 189 33 = some (.aload_n 0, 1, 0) := by decide +kernel
theorem f189_34 : q_fetch 189 34 = some (.iconst 2, 1, 0) := by decide +kernel
theorem f189_35 : q_fetch 189 35 = some (.iload_n 2, 1, 0) := by decide +kernel
theorem f189_36 : q_fetch 189 36 = some (.sipush 306, 3, 0) := by decide +kernel
theorem f189_39 : q_fetch 189 39 = some (.if_icmp .ne (7), 3, 46) := by decide +kernel
theorem f189_42 : q_fetch 189 42 = some (.iconst 1, 1, 0) := by decide +kernel
theorem f189_43 : q_fetch 189 43 = some (.goto 4, 3, 47) := by decide +kernel
theorem f189_46 : q_fetch 189 46 = some (.iconst 0, 1, 0) := by decide +kernel
theorem f189_47 : q_fetch 189 47 = some (.invokevirtual 311, 3, 190) := by decide +kernel
theorem f189_50 : q_fetch 189 50 = some (.goto 42, 3, 92) := by decide +kernel
theorem f189_53 : q_fetch 189 53 = some (.aload_n 0, 1, 0) := by decide +kernel
theorem f189_54 : q_fetch 189 54 = some (.iconst 3, 1, 0) := by decide +kernel
theorem f189_55 : q_fetch 189 55 = some (.iload_n 2, 1, 0) := by decide +kernel
theorem f189_56 : q_fetch 189 56 = some (.sipush 308, 3, 0) := by decide +kernel
theorem f189_59 : q_fetch 189 59 = some (.if_icmp .ne (10), 3, 69) := by decide +kernel
theorem f189_62 : q_fetch 189 62 = some (.aload_n 0, 1, 0) := by decide +kernel
theorem f189_63 : q_fetch 189 63 = some (.getfield 314, 3, 1246) := by decide +kernel
theorem f189_66 : q_fetch 189 66 = some (.goto 23, 3, 89) := by decide +kernel
theorem f189_69 : q_fetch 189 69 = some (.iload_n 2, 1, 0) := by decide +kernel
theorem f189_70 : q_fetch 189 70 = some (.sipush 309, 3, 0) := by decide +kernel
theorem f189_73 : q_fetch 189 73 = some (.if_icmp .ne (10), 3, 83) := by decide +kernel
theorem f189_76 : q_fetch 189 76 = some (.aload_n 0, 1, 0) := by decide +kernel
theorem f189_77 : q_fetch 189 77 = some (.getfield 317, 3, 1248) := by decide +kernel
theorem f189_80 : q_fetch 189 80 = some (.goto 9, 3, 89) := by decide +kernel
theorem f189_83 : q_fetch 189 83 = some (.aload_n 0, 1, 0) := by decide +kernel
theorem f189_84 : q_fetch 189 84 = some (.getfield 38, 3, 1175) := by decide +kernel
theorem f189_87 : q_fetch 189 87 = some (.iload_n 1, 1, 0) := by decide +kernel
theorem f189_88 : q_fetch 189 88 = some (.iaload, 1, 0) := by decide +kernel
theorem f189_89 : q_fetch 189 89 = some (.invokevirtual 311, 3, 190) := by decide +kernel
theorem f189_92 : q_fetch 189 92 = some (.return_, 1, 0) := by decide +kernel
theorem f190_0 : q_fetch 190 0 = some (.aload_n 0, 1, 0) := by decide +kernel
theorem f190_1 : q_fetch 190 1 = some (.getfield 120, 3, 1239) := by decide +kernel
theorem f190_4 : q_fetch 190 4 = some (.aload_n 0, 1, 0) := by decide +kernel
theorem f190_5 : q_fetch 190 5 = some (.getfield 287, 3, 1244) := by decide +kernel
theorem f190_8 : q_fetch 190 8 = some (.iload_n 1, 1, 0) := by decide +kernel
theorem f190_9 : q_fetch 190 9 = some (.iastore, 1, 0) := by decide +kernel
theorem f190_10 : q_fetch 190 10 = some (.aload_n 0, 1, 0) := by decide +kernel
theorem f190_11 : q_fetch 190 11 = some (.getfield 123, 3, 1241) := by decide +kernel
theorem f190_14 : q_fetch 190 14 = some (.aload_n 0, 1, 0) := by decide +kernel
theorem f190_15 : q_fetch 190 15 = some (.getfield 287, 3, 1244) := by decide +kernel
theorem f190_18 : q_fetch 190 18 = some (.iload_n 2, 1, 0) := by decide +kernel
theorem f190_19 : q_fetch 190 19 = some (.iastore, 1, 0) := by decide +kernel
theorem f190_20 : q_fetch 190 20 = some (.aload_n 0, 1, 0) := by decide +kernel
theorem f190_21 : q_fetch 190 21 = some (.dup, 1, 0) := by decide +kernel
theorem f190_22 : q_fetch 190 22 = some (.getfield 287, 3, 1244) := by decide +kernel
theorem f190_25 : q_fetch 190 25 = some (.iconst 1, 1, 0) := by decide +kernel
theorem f190_26 : q_fetch 190 26 = some (.iadd, 1, 0) := by decide +kernel
theorem f190_27 : q_fetch 190 27 = some (.putfield 287, 3, 1244) := by decide +kernel
theorem f190_30 : q_fetch 190 30 = some (.return_, 1, 0) := by decide +kernel
theorem f191_0 : q_fetch 191 0 = some (.iload_n 0, 1, 0) := by decide +kernel
theorem f191_1 : q_fetch 191 1 = some (.bipush 33, 2, 0) := by decide +kernel
theorem f191_3 : q_fetch 191 3 = some (.if_icmp .eq (22), 3, 25) := by decide +kernel
theorem f191_6 : q_fetch 191 6 = some (.iload_n 0, 1, 0) := by decide +kernel
theorem f191_7 : q_fetch 191 7 = some (.bipush 45, 2, 0) := by decide +kernel
theorem f191_9 : q_fetch 191 9 = some (.if_icmp .eq (16), 3, 25) := by decide +kernel
theorem f191_12 : q_fetch 191 12 = some (.iload_n 0, 1, 0) := by decide +kernel
theorem f191_13 : q_fetch 191 13 = some (.sipush 305, 3, 0) := by decide +kernel
theorem f191_16 : q_fetch 191 16 = some (.if_icmp .eq (9), 3, 25) := by decide +kernel
theorem f191_19 : q_fetch 191 19 = some (.iload_n 0, 1, 0) := by decide +kernel
theorem f191_20 : q_fetch 191 20 = some (.bipush 46, 2, 0) := by decide +kernel
theorem f191_22 : q_fetch 191 22 = some (.if_icmp .ne (7), 3, 29) := by decide +kernel
theorem f191_25 : q_fetch 191 25 = some (.iconst 1, 1, 0) := by decide +kernel
theorem f191_26 : q_fetch 191 26 = some (.goto 4, 3, 30) := by decide +kernel
theorem f191_29 : q_fetch 191 29 = some (.iconst 0, 1, 0) := by decide +kernel
theorem f191_30 : q_fetch 191 30 = some (.ireturn, 1, 0) := by decide +kernel
theorem f192_0 : q_fetch 192 0 = some (.aload_n 0, 1, 0) := by decide +kernel
theorem f192_1 : q_fetch 192 1 = some (.iload_n 2, 1, 0) := by decide +kernel
theorem f192_2 : q_fetch 192 2 = some (.aload_n 0, 1, 0) := by decide +kernel
theorem f192_3 : q_fetch 192 3 = some (.getfield 287, 3, 1244) := by decide +kernel
theorem f192_6 : q_fetch 192 6 = some (.iconst 1, 1, 0) := by decide +kernel
theorem f192_7 : q_fetch 192 7 = some (.isub, 1, 0) := by decide +kernel
theorem f192_8 : q_fetch 192 8 = some (.invokevirtual 305, 3, 193) := by decide +kernel
theorem f192_11 : q_fetch 192 11 = some (.ifCond .le (5), 3, 16) := by decide +kernel
theorem f192_14 : q_fetch 192 14 = some (.iconst 4, 1, 0) := by decide +kernel
theorem f192_15 : q_fetch 192 15 = some (.ireturn, 1, 0) := by decide +kernel
theorem f192_16 : q_fetch 192 16 = some (.aload_n 0, 1, 0) := by decide +kernel
theorem f192_17 : q_fetch 192 17 = some (.dup, 1, 0) := by decide +kernel
theorem f192_18 : q_fetch 192 18 = some (.getfield 287, 3, 1244) := by decide +kernel
theorem f192_21 : q_fetch 192 21 = some (.iconst 1, 1, 0) := by decide +kernel
theorem f192_22 : q_fetch 192 22 = some (.isub, 1, 0) := by decide +kernel
theorem f192_23 : q_fetch 192 23 = some (.putfield 287, 3, 1244) := by decide +kernel
theorem f192_26 : q_fetch 192 26 = some (.aload_n 0, 1, 0) := by decide +kernel
theorem f192_27 : q_fetch 192 27 = some (.getfield 123, 3, 1241) := by decide +kernel
theorem f192_30 : q_fetch 192 30 = some (.aload_n 0, 1, 0) := by decide +kernel
theorem f192_31 : q_fetch 192 31 = some (.getfield 287, 3, 1244) := by decide +kernel
theorem f192_34 : q_fetch 192 34 = some (.iaload, 1, 0) := by decide +kernel
theorem f192_35 : q_fetch 192 35 = some (.istore_n 3, 1, 0) := by decide +kernel
theorem f192_36 : q_fetch 192 36 = some (.iconst 3, 1, 0) := by decide +kernel
theorem f192_37 : q_fetch 192 37 = some (.iload_n 3, 1, 0) := by decide +kernel
theorem f192_38 : q_fetch 192 38 = some (.imul, 1, 0) := by decide +kernel
theorem f192_39 : q_fetch 192 39 = some (.aload_n 0, 1, 0) := by decide +kernel
theorem f192_40 : q_fetch 192 40 = some (.getfield 38, 3, 1175) := by decide +kernel
theorem f192_43 : q_fetch 192 43 = some (.iload_n 1, 1, 0) := by decide +kernel
theorem f192_44 : q_fetch 192 44 = some (.iaload, 1, 0) := by decide +kernel
theorem f192_45 : q_fetch 192 45 = some (.iadd, 1, 0) := by decide +kernel
theorem f192_46 : q_fetch 192 46 = some (.istore 4, 2, 0) := by decide +kernel
theorem f192_48 : q_fetch 192 48 = some (.iload_n 2, 1, 0) := by decide +kernel
theorem f192_49 : q_fetch 192 49 = some (.bipush 33, 2, 0) := by decide +kernel
theorem f192_51 : q_fetch 192 51 = some (.if_icmp .ne (14), 3, 65) := by decide +kernel
theorem f192_54 : q_fetch 192 54 = some (.aload_n 0, 1, 0) := by decide +kernel
theorem f192_55 : q_fetch 192 55 = some (.iconst 2, 1, 0) := by decide +kernel
theorem f192_56 : q_fetch 192 56 = some (.iconst 1, 1, 0) := by decide +kernel
theorem f192_57 : q_fetch 192 57 = some (.iload_n 3, 1, 0) := by decide +kernel
theorem f192_58 : q_fetch 192 58 = some (.isub, 1, 0) := by decide +kernel
theorem f192_59 : q_fetch 192 59 = some (.invokevirtual 311, 3, 190) := by decide +kernel
theorem f192_62 : q_fetch 192 62 = some (.goto 84, 3, 146) := by decide +kernel
theorem f192_65 : q_fetch 192 65 = some (.iload_n 2, 1, 0) := by decide +kernel
theorem f192_66 : q_fetch 192 66 = some (.bipush 45, 2, 0) := by decide +kernel
theorem f192_68 : q_fetch 192 68 = some (.if_icmp .ne (11), 3, 79) := by decide +kernel
theorem f192_71 : q_fetch 192 71 = some (.aload_n 0, 1, 0) := by decide +kernel
theorem f192_72 : q_fetch 192 72 = some (.iload_n 3, 1, 0) := by decide +kernel
theorem f192_73 : q_fetch 192 73 = some (.i2l, 1, 0) := by decide +kernel
theorem f192_74 : q_fetch 192 74 = some (.lneg, 1, 0) := by decide +kernel
theorem f192_75 : q_fetch 192 75 = some (.invokevirtual 320, 3, 194) := by decide +kernel
theorem f192_78 : q_fetch 192 78 = some (.ireturn, 1, 0) := by decide +kernel
theorem f192_79 : q_fetch 192 79 = some (.aload_n 0, 1, 0) := by decide +kernel
theorem f192_80 : q_fetch 192 80 = some (.getfield 72, 3, 1197) := by decide +kernel
theorem f192_83 : q_fetch 192 83 = some (.iload_n 3, 1, 0) := by decide +kernel
theorem f192_84 : q_fetch 192 84 = some (.baload, 1, 0) := by decide +kernel
theorem f192_85 : q_fetch 192 85 = some (.ifCond .eq (13), 3, 98) := by decide +kernel
theorem f192_88 : q_fetch 192 88 = some (.aload_n 0, 1, 0) := by decide +kernel
theorem f192_89 : q_fetch 192 89 = some (.getfield 81, 3, 1203) := by decide +kernel
theorem f192_92 : q_fetch 192 92 = some (.iload 4, 2, 0) := by decide +kernel
theorem f192_94 : q_fetch 192 94 = some (.iaload, 1, 0) := by decide +kernel
theorem f192_95 : q_fetch 192 95 = some (.goto 4, 3, 99) := by decide +kernel
theorem f192_98 : q_fetch 192 98 = some (.iconst 0, 1, 0) := by decide +kernel
theorem f192_99 : q_fetch 192 99 = some (.istore 5, 2, 0) := by decide +kernel
theorem f192_101 : q_fetch 192 101 = some (.iload_n 2, 1, 0) := by decide +kernel
theorem f192_102 : q_fetch 192 102 = some (.sipush 305, 3, 0) := by decide +kernel
theorem f192_105 : q_fetch 192 105 = some (.if_icmp .ne (21), 3, 126) := by decide +kernel
theorem f192_108 : q_fetch 192 108 = some (.aload_n 0, 1, 0) := by decide +kernel
theorem f192_109 : q_fetch 192 109 = some (.iconst 2, 1, 0) := by decide +kernel
theorem f192_110 : q_fetch 192 110 = some (.iload 5, 2, 0) := by decide +kernel
theorem f192_112 : q_fetch 192 112 = some (.ifCond .le (7), 3, 119) := by decide +kernel
theorem f192_115 : q_fetch 192 115 = some (.iconst 1, 1, 0) := by decide +kernel
theorem f192_116 : q_fetch 192 116 = some (.goto 4, 3, 120) := by decide +kernel
theorem f192_119 : q_fetch 192 119 = some (.iconst 0, 1, 0) := by decide +kernel
theorem f192_120 : q_fetch 192 120 = some (.invokevirtual 311, 3, 190) := by decide +kernel
theorem f192_123 : q_fetch 192 123 = some (.goto 23, 3, 146) := by decide +kernel
theorem f192_126 : q_fetch 192 126 = some (.iload 5, 2, 0) := by decide +kernel
theorem f192_128 : q_fetch 192 128 = some (.ifCond .ne (5), 3, 133) := by decide +kernel
theorem f192_131 : q_fetch 192 131 = some (.iconst 5, 1, 0) := by decide +kernel
theorem f192_132 : q_fetch 192 132 = some (.ireturn, 1, 0) := by decide +kernel
theorem f192_133 : q_fetch 192 133 = some (.aload_n 0, 1, 0) := by decide +kernel
theorem f192_134 : q_fetch 192 134 = some (.iload 5, 2, 0) := by decide +kernel
theorem f192_136 : q_fetch 192 136 = some (.aload_n 0, 1, 0) := by decide +kernel
theorem f192_137 : q_fetch 192 137 = some (.getfield 84, 3, 1205) := by decide +kernel
theorem f192_140 : q_fetch 192 140 = some (.iload 4, 2, 0) := by decide +kernel
theorem f192_142 : q_fetch 192 142 = some (.iaload, 1, 0) := by decide +kernel
theorem f192_143 : q_fetch 192 143 = some (.invokevirtual 311, 3, 190) := by decide +kernel
theorem f192_146 : q_fetch 192 146 = some (.iconst 0, 1, 0) := by decide +kernel
theorem f192_147 : q_fetch 192 147 = some (.ireturn, 1, 0) := by decide +kernel
theorem f193_0 : q_fetch 193 0 = some (.aload_n 0, 1, 0) := by decide +kernel
theorem f193_1 : q_fetch 193 1 = some (.getfield 120, 3, 1239) := by decide +kernel
theorem f193_4 : q_fetch 193 4 = some (.iload_n 2, 1, 0) := by decide +kernel
theorem f193_5 : q_fetch 193 5 = some (.iaload, 1, 0) := by decide +kernel
theorem f193_6 : q_fetch 193 6 = some (.istore_n 3, 1, 0) := by decide +kernel
theorem f193_7 : q_fetch 193 7 = some (.iload_n 1, 1, 0) := by decide +kernel
theorem f193_8 : q_fetch 193 8 = some (.sipush 200, 3, 0) := by decide +kernel
theorem f193_11 : q_fetch 193 11 = some (.if_icmp .eq (10), 3, 21) := by decide +kernel
theorem f193_14 : q_fetch 193 14 = some (.iload_n 1, 1, 0) := by decide +kernel
theorem f193_15 : q_fetch 193 15 = some (.sipush 201, 3, 0) := by decide +kernel
theorem f193_18 : q_fetch 193 18 = some (.if_icmp .ne (5), 3, 23) := by decide +kernel
theorem f193_21 : q_fetch 193 21 = some (.iconst 0, 1, 0) := by decide +kernel
theorem f193_22 : q_fetch 193 22 = some (.ireturn, 1, 0) := by decide +kernel
theorem f193_23 : q_fetch 193 23 = some (.iload_n 3, 1, 0) := by decide +kernel
theorem f193_24 : q_fetch 193 24 = some (.iload_n 1, 1, 0) := by decide +kernel
theorem f193_25 : q_fetch 193 25 = some (.sipush 204, 3, 0) := by decide +kernel
theorem f193_28 : q_fetch 193 28 = some (.if_icmp .eq (16), 3, 44) := by decide +kernel
theorem f193_31 : q_fetch 193 31 = some (.iload_n 1, 1, 0) := by decide +kernel
theorem f193_32 : q_fetch 193 32 = some (.sipush 205, 3, 0) := by decide +kernel
theorem f193_35 : q_fetch 193 35 = some (.if_icmp .eq (9), 3, 44) := by decide +kernel
theorem f193_38 : q_fetch 193 38 = some (.iload_n 1, 1, 0) := by decide +kernel
theorem f193_39 : q_fetch 193 39 = some (.bipush 33, 2, 0) := by decide +kernel
theorem f193_41 : q_fetch 193 41 = some (.if_icmp .ne (7), 3, 48) := by decide +kernel
theorem f193_44 : q_fetch 193 44 = some (.iconst 2, 1, 0) := by decide +kernel
theorem f193_45 : q_fetch 193 45 = some (.goto 28, 3, 73) := by decide +kernel
theorem f193_48 : q_fetch 193 48 = some (.iload_n 1, 1, 0) := by decide +kernel
theorem f193_49 : q_fetch 193 49 = some (.sipush 304, 3, 0) := by decide +kernel
theorem f193_52 : q_fetch 193 52 = some (.if_icmp .eq (16), 3, 68) := by decide +kernel
theorem f193_55 : q_fetch 193 55 = some (.iload_n 1, 1, 0) := by decide +kernel
theorem f193_56 : q_fetch 193 56 = some (.sipush 305, 3, 0) := by decide +kernel
theorem f193_59 : q_fetch 193 59 = some (.if_icmp .eq (9), 3, 68) := by decide +kernel
theorem f193_62 : q_fetch 193 62 = some (.iload_n 1, 1, 0) := by decide +kernel
theorem f193_63 : q_fetch 193 63 = some (.bipush 46, 2, 0) := by decide +kernel
theorem f193_65 : q_fetch 193 65 = some (.if_icmp .ne (7), 3, 72) := by decide +kernel
theorem f193_68 : q_fetch 193 68 = some (.iconst 3, 1, 0) := by decide +kernel
theorem f193_69 : q_fetch 193 69 = some (.goto 4, 3, 73) := by decide +kernel
theorem f193_72 : q_fetch 193 72 = some (.iconst 1, 1, 0) := by decide +kernel
theorem f193_73 : q_fetch 193 73 = some (.if_icmp .ne (7), 3, 80) := by decide +kernel
theorem f193_76 : q_fetch 193 76 = some (.iconst 0, 1, 0) := by decide +kernel
theorem f193_77 : q_fetch 193 77 = some (.goto 4, 3, 81) := by decide +kernel
theorem f193_80 : q_fetch 193 80 = some (.iconst 4, 1, 0) := by decide +kernel
theorem f193_81 : q_fetch 193 81 = some (.ireturn, 1, 0) := by decide +kernel
theorem f194_0 : q_fetch 194 0 = some (.lload_n 1, 1, 0) := by decide +kernel
theorem f194_1 : q_fetch 194 1 = some (.lload_n 1, 1, 0) := by decide +kernel
theorem f194_2 : q_fetch 194 2 = some (.l2i, 1, 0) := by decide +kernel
theorem f194_3 : q_fetch 194 3 = some (.i2l, 1, 0) := by decide +kernel
theorem f194_4 : q_fetch 194 4 = some (.lcmp, 1, 0) := by decide +kernel
theorem f194_5 : q_fetch 194 5 = some (.ifCond .eq (6), 3, 11) := by decide +kernel
theorem f194_8 : q_fetch 194 8 = some (.bipush 6, 2, 0) := by decide +kernel
theorem f194_10 : q_fetch 194 10 = some (.ireturn, 1, 0) := by decide +kernel
theorem f194_11 : q_fetch 194 11 = some (.aload_n 0, 1, 0) := by decide +kernel
theorem f194_12 : q_fetch 194 12 = some (.iconst 1, 1, 0) := by decide +kernel
theorem f194_13 : q_fetch 194 13 = some (.lload_n 1, 1, 0) := by decide +kernel
theorem f194_14 : q_fetch 194 14 = some (.l2i, 1, 0) := by decide +kernel
theorem f194_15 : q_fetch 194 15 = some (.invokevirtual 311, 3, 190) := by decide +kernel
theorem f194_18 : q_fetch 194 18 = some (.iconst 0, 1, 0) := by decide +kernel
theorem f194_19 : q_fetch 194 19 = some (.ireturn, 1, 0) := by decide +kernel
theorem f195_0 : q_fetch 195 0 = some (.aload_n 0, 1, 0) := by decide +kernel
theorem f195_1 : q_fetch 195 1 = some (.dup, 1, 0) := by decide +kernel
theorem f195_2 : q_fetch 195 2 = some (.getfield 287, 3, 1244) := by decide +kernel
theorem f195_5 : q_fetch 195 5 = some (.iconst 2, 1, 0) := by decide +kernel
theorem f195_6 : q_fetch 195 6 = some (.isub, 1, 0) := by decide +kernel
theorem f195_7 : q_fetch 195 7 = some (.putfield 287, 3, 1244) := by decide +kernel
theorem f195_10 : q_fetch 195 10 = some (.aload_n 0, 1, 0) := by decide +kernel
theorem f195_11 : q_fetch 195 11 = some (.getfield 120, 3, 1239) := by decide +kernel
theorem f195_14 : q_fetch 195 14 = some (.aload_n 0, 1, 0) := by decide +kernel
theorem f195_15 : q_fetch 195 15 = some (.getfield 287, 3, 1244) := by decide +kernel
theorem f195_18 : q_fetch 195 18 = some (.iaload, 1, 0) := by decide +kernel
theorem f195_19 : q_fetch 195 19 = some (.istore_n 2, 1, 0) := by decide +kernel
theorem f195_20 : q_fetch 195 20 = some (.aload_n 0, 1, 0) := by decide +kernel
theorem f195_21 : q_fetch 195 21 = some (.getfield 120, 3, 1239) := by decide +kernel
theorem f195_24 : q_fetch 195 24 = some (.aload_n 0, 1, 0) := by decide +kernel
theorem f195_25 : q_fetch 195 25 = some (.getfield 287, 3, 1244) := by decide +kernel
theorem f195_28 : q_fetch 195 28 = some (.iconst 1, 1, 0) := by decide +kernel
theorem f195_29 : q_fetch 195 29 = some (.iadd, 1, 0) := by decide +kernel
theorem f195_30 : q_fetch 195 30 = some (.iaload, 1, 0) := by decide +kernel
theorem f195_31 : q_fetch 195 31 = some (.istore_n 3, 1, 0) := by decide +kernel
theorem f195_32 : q_fetch 195 32 = some (.aload_n 0, 1, 0) := by decide +kernel
theorem f195_33 : q_fetch 195 33 = some (.getfield 123, 3, 1241) := by decide +kernel
theorem f195_36 : q_fetch 195 36 = some (.aload_n 0, 1, 0) := by decide +kernel
theorem f195_37 : q_fetch 195 37 = some (.getfield 287, 3, 1244) := by decide +kernel
theorem f195_40 : q_fetch 195 40 = some (.iaload, 1, 0) := by decide +kernel
theorem f195_41 : q_fetch 195 41 = some (.istore 4, 2, 0) := by decide +kernel
theorem f195_43 : q_fetch 195 43 = some (.aload_n 0, 1, 0) := by decide +kernel
theorem f195_44 : q_fetch 195 44 = some (.getfield 123, 3, 1241) := by decide +kernel
theorem f195_47 : q_fetch 195 47 = some (.aload_n 0, 1, 0) := by decide +kernel
theorem f195_48 : q_fetch 195 48 = some (.getfield 287, 3, 1244) := by decide +kernel
theorem f195_51 : q_fetch 195 51 = some (.iconst 1, 1, 0) := by decide +kernel
theorem f195_52 : q_fetch 195 52 = some (.iadd, 1, 0) := by decide +kernel
theorem f195_53 : q_fetch 195 53 = some (.iaload, 1, 0) := by decide +kernel
theorem f195_54 : q_fetch 195 54 = some (.istore 5, 2, 0) := by decide +kernel
theorem f195_56 : q_fetch 195 56 = some (.iload_n 2, 1, 0) := by decide +kernel
theorem f195_57 : q_fetch 195 57 = some (.iload_n 3, 1, 0) := by decide +kernel
theorem f195_58 : q_fetch 195 58 = some (.if_icmp .ne (14), 3, 72) := by decide +kernel
theorem f195_61 : q_fetch 195 61 = some (.iload 4, 2, 0) := by decide +kernel
theorem f195_63 : q_fetch 195 63 = some (.iload 5, 2, 0) := by decide +kernel
theorem f195_65 : q_fetch 195 65 = some (.if_icmp .ne (7), 3, 72) := by decide +kernel
theorem f195_68 : q_fetch 195 68 = some (.iconst 1, 1, 0) := by decide +kernel
theorem f195_69 : q_fetch 195 69 = some (.goto 4, 3, 73) := by decide +kernel
theorem f195_72 : q_fetch 195 72 = some (.iconst 0, 1, 0) := by decide +kernel
theorem f195_73 : q_fetch 195 73 = some (.istore 6, 2, 0) := by decide +kernel
theorem f195_75 : q_fetch 195 75 = some (.iload_n 1, 1, 0) := by decide +kernel
theorem f195_76 : q_fetch 195 76 = some (.lookupswitch (197) #[(43, 173), (200, 93), (201, 93), (202, 122), (203, 122), (204, 84), (205, 84), (304, 155), (1045, 185)], 84, 0) := by decide +kernel
theorem f195_160 : q_fetch 195 160 = some (.aload_n 0, 1, 0) := by decide +kernel
theorem f195_161 : q_fetch 195 161 = some (.iconst 2, 1, 0) := by decide +kernel
theorem f195_162 : q_fetch 195 162 = some (.iload 5, 2, 0) := by decide +kernel
theorem f195_164 : q_fetch 195 164 = some (.invokevirtual 311, 3, 190) := by decide +kernel
theorem f195_167 : q_fetch 195 167 = some (.iconst 0, 1, 0) := by decide +kernel
theorem f195_168 : q_fetch 195 168 = some (.ireturn, 1, 0) := by decide +kernel
theorem f195_169 : q_fetch 195 169 = some (.aload_n 0, 1, 0) := by decide +kernel
theorem f195_170 : q_fetch 195 170 = some (.iconst 2, 1, 0) := by decide +kernel
theorem f195_171 : q_fetch 195 171 = some (.iload 6, 2, 0) := by decide +kernel
theorem f195_173 : q_fetch 195 173 = some (.iload_n 1, 1, 0) := by decide +kernel
theorem f195_174 : q_fetch 195 174 = some (.sipush 200, 3, 0) := by decide +kernel
theorem f195_177 : q_fetch 195 177 = some (.if_icmp .ne (7), 3, 184) := by decide +kernel
theorem f195_180 : q_fetch 195 180 = some (.iconst 1, 1, 0) := by decide +kernel
theorem f195_181 : q_fetch 195 181 = some (.goto 4, 3, 185) := by decide +kernel
theorem f195_184 : q_fetch 195 184 = some (.iconst 0, 1, 0) := by decide +kernel
theorem f195_185 : q_fetch 195 185 = some (.if_icmp .ne (7), 3, 192) := by decide +kernel
theorem f195_188 : q_fetch 195 188 = some (.iconst 1, 1, 0) := by decide +kernel
theorem f195_189 : q_fetch 195 189 = some (.goto 4, 3, 193) := by decide +kernel
theorem f195_192 : q_fetch 195 192 = some (.iconst 0, 1, 0) := by decide +kernel
theorem f195_193 : q_fetch 195 193 = some (.invokevirtual 311, 3, 190) := by decide +kernel
theorem f195_196 : q_fetch 195 196 = some (.iconst 0, 1, 0) := by decide +kernel
theorem f195_197 : q_fetch 195 197 = some (.ireturn, 1, 0) := by decide +kernel
theorem f195_198 : q_fetch 195 198 = some (.aload_n 0, 1, 0) := by decide +kernel
theorem f195_199 : q_fetch 195 199 = some (.iconst 2, 1, 0) := by decide +kernel
theorem f195_200 : q_fetch 195 200 = some (.iload 4, 2, 0) := by decide +kernel
theorem f195_202 : q_fetch 195 202 = some (.iload 5, 2, 0) := by decide +kernel
theorem f195_204 : q_fetch 195 204 = some (.if_icmp .lt (17), 3, 221) := by decide +kernel
theorem f195_207 : q_fetch 195 207 = some (.iload_n 1, 1, 0) := by decide +kernel
theorem f195_208 : q_fetch 195 208 = some (.sipush 203, 3, 0) := by decide +kernel
theorem f195_211 : q_fetch 195 211 = some (.if_icmp .ne (14), 3, 225) := by decide +kernel
theorem f195_214 : q_fetch 195 214 = some (.iload 4, 2, 0) := by decide +kernel
theorem f195_216 : q_fetch 195 216 = some (.iload 5, 2, 0) := by decide +kernel
theorem f195_218 : q_fetch 195 218 = some (.if_icmp .ne (7), 3, 225) := by decide +kernel
theorem f195_221 : q_fetch 195 221 = some (.iconst 1, 1, 0) := by decide +kernel
theorem f195_222 : q_fetch 195 222 = some (.goto 4, 3, 226) := by decide +kernel
theorem f195_225 : q_fetch 195 225 = some (.iconst 0, 1, 0) := by decide +kernel
theorem f195_226 : q_fetch 195 226 = some (.invokevirtual 311, 3, 190) := by decide +kernel
theorem f195_229 : q_fetch 195 229 = some (.iconst 0, 1, 0) := by decide +kernel
theorem f195_230 : q_fetch 195 230 = some (.ireturn, 1, 0) := by decide +kernel
theorem f195_231 : q_fetch 195 231 = some (.aload_n 0, 1, 0) := by decide +kernel
theorem f195_232 : q_fetch 195 232 = some (.iconst 2, 1, 0) := by decide +kernel
theorem f195_233 : q_fetch 195 233 = some (.aload_n 0, 1, 0) := by decide +kernel
theorem f195_234 : q_fetch 195 234 = some (.iload 4, 2, 0) := by decide +kernel
theorem f195_236 : q_fetch 195 236 = some (.invokevirtual 284, 3, 178) := by decide +kernel
theorem f195_239 : q_fetch 195 239 = some (.iload 5, 2, 0) := by decide +kernel
theorem f195_241 : q_fetch 195 241 = some (.ishr, 1, 0) := by decide +kernel
theorem f195_242 : q_fetch 195 242 = some (.iconst 1, 1, 0) := by decide +kernel
theorem f195_243 : q_fetch 195 243 = some (.iand, 1, 0) := by decide +kernel
theorem f195_244 : q_fetch 195 244 = some (.invokevirtual 311, 3, 190) := by decide +kernel
theorem f195_247 : q_fetch 195 247 = some (.iconst 0, 1, 0) := by decide +kernel
theorem f195_248 : q_fetch 195 248 = some (.ireturn, 1, 0) := by decide +kernel
theorem f195_249 : q_fetch 195 249 = some (.aload_n 0, 1, 0) := by decide +kernel
theorem f195_250 : q_fetch 195 250 = some (.iload 4, 2, 0) := by decide +kernel
theorem f195_252 : q_fetch 195 252 = some (.i2l, 1, 0) := by decide +kernel
theorem f195_253 : q_fetch 195 253 = some (.iload 5, 2, 0) := by decide +kernel
theorem f195_255 : q_fetch 195 255 = some (.i2l, 1, 0) := by decide +kernel
theorem f195_256 : q_fetch 195 256 = some (.ladd, 1, 0) := by decide +kernel
theorem f195_257 : q_fetch 195 257 = some (.invokevirtual 320, 3, 194) := by decide +kernel
theorem f195_260 : q_fetch 195 260 = some (.ireturn, 1, 0) := by decide +kernel
theorem f195_261 : q_fetch 195 261 = some (.aload_n 0, 1, 0) := by decide +kernel
theorem f195_262 : q_fetch 195 262 = some (.iload 4, 2, 0) := by decide +kernel
theorem f195_264 : q_fetch 195 264 = some (.i2l, 1, 0) := by decide +kernel
theorem f195_265 : q_fetch 195 265 = some (.iload 5, 2, 0) := by decide +kernel
theorem f195_267 : q_fetch 195 267 = some (.i2l, 1, 0) := by decide +kernel
theorem f195_268 : q_fetch 195 268 = some (.lsub, 1, 0) := by decide +kernel
theorem f195_269 : q_fetch 195 269 = some (.invokevirtual 320, 3, 194) := by decide +kernel
theorem f195_272 : q_fetch 195 272 = some (.ireturn, 1, 0) := by decide +kernel
theorem f195_273 : q_fetch 195 273 = some (.aload_n 0, 1, 0) := by decide +kernel
theorem f195_274 : q_fetch 195 274 = some (.iload 4, 2, 0) := by decide +kernel
theorem f195_276 : q_fetch 195 276 = some (.i2l, 1, 0) := by decide +kernel
theorem f195_277 : q_fetch 195 277 = some (.iload 5, 2, 0) := by decide +kernel
theorem f195_279 : q_fetch 195 279 = some (.i2l, 1, 0) := by decide +kernel
theorem f195_280 : q_fetch 195 280 = some (.lmul, 1, 0) := by decide +kernel
theorem f195_281 : q_fetch 195 281 = some (.invokevirtual 320, 3, 194) := by decide +kernel
theorem f195_284 : q_fetch 195 284 = some (.ireturn, 1, 0) := by decide +kernel
theorem f196_0 : q_fetch 196 0 = some (.aload_n 0, 1, 0) := by decide +kernel
theorem f196_1 : q_fetch 196 1 = some (.iload_n 1, 1, 0) := by decide +kernel
theorem f196_2 : q_fetch 196 2 = some (.iload_n 2, 1, 0) := by decide +kernel
theorem f196_3 : q_fetch 196 3 = some (.iload_n 3, 1, 0) := by decide +kernel
theorem f196_4 : q_fetch 196 4 = some (.invokestatic 329, 3, 184) := by decide +kernel
theorem f196_7 : q_fetch 196 7 = some (.ifCond .eq (7), 3, 14) := by decide +kernel
theorem f196_10 : q_fetch 196 10 = some (.iconst 0, 1, 0) := by decide +kernel
theorem f196_11 : q_fetch 196 11 = some (.goto 4, 3, 15) := by decide +kernel
theorem f196_14 : q_fetch 196 14 = some (.iconst 1, 1, 0) := by decide +kernel
theorem f196_15 : q_fetch 196 15 = some (.putfield 138, 3, 1152) := by decide +kernel
theorem f196_18 : q_fetch 196 18 = some (.aload_n 0, 1, 0) := by decide +kernel
theorem f196_19 : q_fetch 196 19 = some (.getfield 138, 3, 1152) := by decide +kernel
theorem f196_22 : q_fetch 196 22 = some (.ifCond .le (5), 3, 27) := by decide +kernel
theorem f196_25 : q_fetch 196 25 = some (.iconst 0, 1, 0) := by decide +kernel
theorem f196_26 : q_fetch 196 26 = some (.ireturn, 1, 0) := by decide +kernel
theorem f196_27 : q_fetch 196 27 = some (.iconst 0, 1, 0) := by decide +kernel
theorem f196_28 : q_fetch 196 28 = some (.istore 4, 2, 0) := by decide +kernel
theorem f196_30 : q_fetch 196 30 = some (.iconst 0, 1, 0) := by decide +kernel
theorem f196_31 : q_fetch 196 31 = some (.istore 5, 2, 0) := by decide +kernel
theorem f196_33 : q_fetch 196 33 = some (.aload_n 0, 1, 0) := by decide +kernel
theorem f196_34 : q_fetch 196 34 = some (.iconst 0, 1, 0) := by decide +kernel
theorem f196_35 : q_fetch 196 35 = some (.putfield 336, 3, 1214) := by decide +kernel
theorem f196_38 : q_fetch 196 38 = some (.iconst 0, 1, 0) := by decide +kernel
theorem f196_39 : q_fetch 196 39 = some (.istore 6, 2, 0) := by decide +kernel
theorem f196_41 : q_fetch 196 41 = some (.iload 6, 2, 0) := by decide +kernel
theorem f196_43 : q_fetch 196 43 = some (.bipush 6, 2, 0) := by decide +kernel
theorem f196_45 : q_fetch 196 45 = some (.if_icmp .ge (108), 3, 153) := by decide +kernel
theorem f196_48 : q_fetch 196 48 = some (.aload_n 0, 1, 0) := by decide +kernel
theorem f196_49 : q_fetch 196 49 = some (.getfield 96, 3, 1213) := by decide +kernel
theorem f196_52 : q_fetch 196 52 = some (.iload 6, 2, 0) := by decide +kernel
theorem f196_54 : q_fetch 196 54 = some (.aload_n 0, 1, 0) := by decide +kernel
theorem f196_55 : q_fetch 196 55 = some (.getfield 47, 3, 1181) := by decide +kernel
theorem f196_58 : q_fetch 196 58 = some (.iload 6, 2, 0) := by decide +kernel
theorem f196_60 : q_fetch 196 60 = some (.baload, 1, 0) := by decide +kernel
theorem f196_61 : q_fetch 196 61 = some (.ifCond .eq (15), 3, 76) := by decide +kernel
theorem f196_64 : q_fetch 196 64 = some (.aload_n 0, 1, 0) := by decide +kernel
theorem f196_65 : q_fetch 196 65 = some (.iload 6, 2, 0) := by decide +kernel
theorem f196_67 : q_fetch 196 67 = some (.iload_n 1, 1, 0) := by decide +kernel
theorem f196_68 : q_fetch 196 68 = some (.iload_n 2, 1, 0) := by decide +kernel
theorem f196_69 : q_fetch 196 69 = some (.iload_n 3, 1, 0) := by decide +kernel
theorem f196_70 : q_fetch 196 70 = some (.invokevirtual 332, 3, 185) := by decide +kernel
theorem f196_73 : q_fetch 196 73 = some (.goto 4, 3, 77) := by decide +kernel
theorem f196_76 : q_fetch 196 76 = some (.iconst 0, 1, 0) := by decide +kernel
theorem f196_77 : q_fetch 196 77 = some (.iastore, 1, 0) := by decide +kernel
theorem f196_78 : q_fetch 196 78 = some (.aload_n 0, 1, 0) := by decide +kernel
theorem f196_79 : q_fetch 196 79 = some (.getfield 96, 3, 1213) := by decide +kernel
theorem f196_82 : q_fetch 196 82 = some (.iload 6, 2, 0) := by decide +kernel
theorem f196_84 : q_fetch 196 84 = some (.iaload, 1, 0) := by decide +kernel
theorem f196_85 : q_fetch 196 85 = some (.iconst 1, 1, 0) := by decide +kernel
theorem f196_86 : q_fetch 196 86 = some (.if_icmp .le (13), 3, 99) := by decide +kernel
theorem f196_89 : q_fetch 196 89 = some (.aload_n 0, 1, 0) := by decide +kernel
theorem f196_90 : q_fetch 196 90 = some (.dup, 1, 0) := by decide +kernel
theorem f196_91 : q_fetch 196 91 = some (.getfield 336, 3, 1214) := by decide +kernel
theorem f196_94 : q_fetch 196 94 = some (.iconst 1, 1, 0) := by decide +kernel
theorem f196_95 : q_fetch 196 95 = some (.iadd, 1, 0) := by decide +kernel
theorem f196_96 : q_fetch 196 96 = some (.putfield 336, 3, 1214) := by decide +kernel
theorem f196_99 : q_fetch 196 99 = some (.aload_n 0, 1, 0) := by decide +kernel
theorem f196_100 : q_fetch 196 100 = some (.getfield 96, 3, 1213) := by decide +kernel
theorem f196_103 : q_fetch 196 103 = some (.iload 6, 2, 0) := by decide +kernel
theorem f196_105 : q_fetch 196 105 = some (.iaload, 1, 0) := by decide +kernel
theorem f196_106 : q_fetch 196 106 = some (.iconst 3, 1, 0) := by decide +kernel
theorem f196_107 : q_fetch 196 107 = some (.if_icmp .ne (16), 3, 123) := by decide +kernel
theorem f196_110 : q_fetch 196 110 = some (.aload_n 0, 1, 0) := by decide +kernel
theorem f196_111 : q_fetch 196 111 = some (.getfield 51, 3, 1183) := by decide +kernel
theorem f196_114 : q_fetch 196 114 = some (.iload 6, 2, 0) := by decide +kernel
theorem f196_116 : q_fetch 196 116 = some (.baload, 1, 0) := by decide +kernel
theorem f196_117 : q_fetch 196 117 = some (.ifCond .eq (6), 3, 123) := by decide +kernel
theorem f196_120 : q_fetch 196 120 = some (.iconst 1, 1, 0) := by decide +kernel
theorem f196_121 : q_fetch 196 121 = some (.istore 4, 2, 0) := by decide +kernel
theorem f196_123 : q_fetch 196 123 = some (.aload_n 0, 1, 0) := by decide +kernel
theorem f196_124 : q_fetch 196 124 = some (.getfield 96, 3, 1213) := by decide +kernel
theorem f196_127 : q_fetch 196 127 = some (.iload 6, 2, 0) := by decide +kernel
theorem f196_129 : q_fetch 196 129 = some (.iaload, 1, 0) := by decide +kernel
theorem f196_130 : q_fetch 196 130 = some (.iconst 3, 1, 0) := by decide +kernel
theorem f196_131 : q_fetch 196 131 = some (.if_icmp .ne (16), 3, 147) := by decide +kernel
theorem f196_134 : q_fetch 196 134 = some (.aload_n 0, 1, 0) := by decide +kernel
theorem f196_135 : q_fetch 196 135 = some (.getfield 51, 3, 1183) := by decide +kernel
theorem f196_138 : q_fetch 196 138 = some (.iload 6, 2, 0) := by decide +kernel
theorem f196_140 : q_fetch 196 140 = some (.baload, 1, 0) := by decide +kernel
theorem f196_141 : q_fetch 196 141 = some (.ifCond .ne (6), 3, 147) := by decide +kernel
theorem f196_144 : q_fetch 196 144 = some (.iconst 1, 1, 0) := by decide +kernel
theorem f196_145 : q_fetch 196 145 = some (.istore 5, 2, 0) := by decide +kernel
theorem f196_147 : q_fetch 196 147 = some (.iinc 6 1, 3, 0) := by decide +kernel
theorem f196_150 : q_fetch 196 150 = some (.goto (-109), 3, 41) := by decide +kernel
theorem f196_153 : q_fetch 196 153 = some (.iload 4, 2, 0) := by decide +kernel
theorem f196_155 : q_fetch 196 155 = some (.ifCond .eq (12), 3, 167) := by decide +kernel
theorem f196_158 : q_fetch 196 158 = some (.iload 5, 2, 0) := by decide +kernel
theorem f196_160 : q_fetch 196 160 = some (.ifCond .ne (7), 3, 167) := by decide +kernel
theorem f196_163 : q_fetch 196 163 = some (.iconst 1, 1, 0) := by decide +kernel
theorem f196_164 : q_fetch 196 164 = some (.goto 4, 3, 168) := by decide +kernel
theorem f196_167 : q_fetch 196 167 = some (.iconst 0, 1, 0) := by decide +kernel
theorem f196_168 : q_fetch 196 168 = some (.ireturn, 1, 0) := by decide +kernel
theorem f197_0 : q_fetch 197 0 = some (.aload_n 0, 1, 0) := by decide +kernel
theorem f197_1 : q_fetch 197 1 = some (.iconst 0, 1, 0) := by decide +kernel
theorem f197_2 : q_fetch 197 2 = some (.putfield 138, 3, 1152) := by decide +kernel
theorem f197_5 : q_fetch 197 5 = some (.iload_n 1, 1, 0) := by decide +kernel
theorem f197_6 : q_fetch 197 6 = some (.iconst 0, 1, 0) := by decide +kernel
theorem f197_7 : q_fetch 197 7 = some (.iconst 5, 1, 0) := by decide +kernel
theorem f197_8 : q_fetch 197 8 = some (.invokestatic 141, 3, 145) := by decide +kernel
theorem f197_11 : q_fetch 197 11 = some (.ifCond .eq (12), 3, 23) := by decide +kernel
theorem f197_14 : q_fetch 197 14 = some (.aload_n 0, 1, 0) := by decide +kernel
theorem f197_15 : q_fetch 197 15 = some (.getfield 96, 3, 1213) := by decide +kernel
theorem f197_18 : q_fetch 197 18 = some (.iload_n 1, 1, 0) := by decide +kernel
theorem f197_19 : q_fetch 197 19 = some (.iaload, 1, 0) := by decide +kernel
theorem f197_20 : q_fetch 197 20 = some (.goto 4, 3, 24) := by decide +kernel
theorem f197_23 : q_fetch 197 23 = some (.iconst (-1), 1, 0) := by decide +kernel
theorem f197_24 : q_fetch 197 24 = some (.ireturn, 1, 0) := by decide +kernel
theorem f198_0 : q_fetch 198 0 = some (.iload_n 1, 1, 0) := by decide +kernel
theorem f198_1 : q_fetch 198 1 = some (.iconst 0, 1, 0) := by decide +kernel
theorem f198_2 : q_fetch 198 2 = some (.iconst 5, 1, 0) := by decide +kernel
theorem f198_3 : q_fetch 198 3 = some (.invokestatic 141, 3, 145) := by decide +kernel
theorem f198_6 : q_fetch 198 6 = some (.ifCond .ne (9), 3, 15) := by decide +kernel
theorem f198_9 : q_fetch 198 9 = some (.aload_n 0, 1, 0) := by decide +kernel
theorem f198_10 : q_fetch 198 10 = some (.iconst 1, 1, 0) := by decide +kernel
theorem f198_11 : q_fetch 198 11 = some (.invokevirtual 145, 3, 146) := by decide +kernel
theorem f198_14 : q_fetch 198 14 = some (.ireturn, 1, 0) := by decide +kernel
theorem f198_15 : q_fetch 198 15 = some (.aload_n 0, 1, 0) := by decide +kernel
theorem f198_16 : q_fetch 198 16 = some (.getfield 47, 3, 1181) := by decide +kernel
theorem f198_19 : q_fetch 198 19 = some (.iload_n 1, 1, 0) := by decide +kernel
theorem f198_20 : q_fetch 198 20 = some (.baload, 1, 0) := by decide +kernel
theorem f198_21 : q_fetch 198 21 = some (.ifCond .ne (9), 3, 30) := by decide +kernel
theorem f198_24 : q_fetch 198 24 = some (.aload_n 0, 1, 0) := by decide +kernel
theorem f198_25 : q_fetch 198 25 = some (.iconst 2, 1, 0) := by decide +kernel
theorem f198_26 : q_fetch 198 26 = some (.invokevirtual 145, 3, 146) := by decide +kernel
theorem f198_29 : q_fetch 198 29 = some (.ireturn, 1, 0) := by decide +kernel
theorem f198_30 : q_fetch 198 30 = some (.aload_n 0, 1, 0) := by decide +kernel
theorem f198_31 : q_fetch 198 31 = some (.iconst 0, 1, 0) := by decide +kernel
theorem f198_32 : q_fetch 198 32 = some (.putfield 138, 3, 1152) := by decide +kernel
theorem f198_35 : q_fetch 198 35 = some (.bipush 101, 2, 0) := by decide +kernel
theorem f198_37 : q_fetch 198 37 = some (.iload_n 1, 1, 0) := by decide +kernel
theorem f198_38 : q_fetch 198 38 = some (.imul, 1, 0) := by decide +kernel
theorem f198_39 : q_fetch 198 39 = some (.istore_n 2, 1, 0) := by decide +kernel
theorem f198_40 : q_fetch 198 40 = some (.iconst 0, 1, 0) := by decide +kernel
theorem f198_41 : q_fetch 198 41 = some (.istore_n 3, 1, 0) := by decide +kernel
theorem f198_42 : q_fetch 198 42 = some (.iconst 0, 1, 0) := by decide +kernel
theorem f198_43 : q_fetch 198 43 = some (.istore 4, 2, 0) := by decide +kernel
theorem f198_45 : q_fetch 198 45 = some (.bipush 20, 2, 0) := by decide +kernel
theorem f198_47 : q_fetch 198 47 = some (.iload_n 1, 1, 0) := by decide +kernel
theorem f198_48 : q_fetch 198 48 = some (.imul, 1, 0) := by decide +kernel
theorem f198_49 : q_fetch 198 49 = some (.istore 5, 2, 0) := by decide +kernel
theorem f198_51 : q_fetch 198 51 = some (.iload 5, 2, 0) := by decide +kernel
theorem f198_53 : q_fetch 198 53 = some (.bipush 20, 2, 0) := by decide +kernel
theorem f198_55 : q_fetch 198 55 = some (.iload_n 1, 1, 0) := by decide +kernel
theorem f198_56 : q_fetch 198 56 = some (.imul, 1, 0) := by decide +kernel
theorem f198_57 : q_fetch 198 57 = some (.aload_n 0, 1, 0) := by decide +kernel
theorem f198_58 : q_fetch 198 58 = some (.getfield 63, 3, 1191) := by decide +kernel
theorem f198_61 : q_fetch 198 61 = some (.iload_n 1, 1, 0) := by decide +kernel
theorem f198_62 : q_fetch 198 62 = some (.iaload, 1, 0) := by decide +kernel
theorem f198_63 : q_fetch 198 63 = some (.iadd, 1, 0) := by decide +kernel
theorem f198_64 : q_fetch 198 64 = some (.if_icmp .ge (320), 3, 384) := by decide +kernel
theorem f198_67 : q_fetch 198 67 = some (.aload_n 0, 1, 0) := by decide +kernel
theorem f198_68 : q_fetch 198 68 = some (.getfield 69, 3, 1195) := by decide +kernel
theorem f198_71 : q_fetch 198 71 = some (.iload 5, 2, 0) := by decide +kernel
theorem f198_73 : q_fetch 198 73 = some (.iaload, 1, 0) := by decide +kernel
theorem f198_74 : q_fetch 198 74 = some (.istore 6, 2, 0) := by decide +kernel
theorem f198_76 : q_fetch 198 76 = some (.iload_n 3, 1, 0) := by decide +kernel
theorem f198_77 : q_fetch 198 77 = some (.istore 7, 2, 0) := by decide +kernel
theorem f198_79 : q_fetch 198 79 = some (.iload 7, 2, 0) := by decide +kernel
theorem f198_81 : q_fetch 198 81 = some (.iload 6, 2, 0) := by decide +kernel
theorem f198_83 : q_fetch 198 83 = some (.if_icmp .gt (43), 3, 126) := by decide +kernel
theorem f198_86 : q_fetch 198 86 = some (.aload_n 0, 1, 0) := by decide +kernel
theorem f198_87 : q_fetch 198 87 = some (.getfield 132, 3, 1255) := by decide +kernel
theorem f198_90 : q_fetch 198 90 = some (.iload_n 2, 1, 0) := by decide +kernel
theorem f198_91 : q_fetch 198 91 = some (.iload 7, 2, 0) := by decide +kernel
theorem f198_93 : q_fetch 198 93 = some (.iadd, 1, 0) := by decide +kernel
theorem f198_94 : q_fetch 198 94 = some (.aload_n 0, 1, 0) := by decide +kernel
theorem f198_95 : q_fetch 198 95 = some (.getfield 32, 3, 1171) := by decide +kernel
theorem f198_98 : q_fetch 198 98 = some (.iload_n 2, 1, 0) := by decide +kernel
theorem f198_99 : q_fetch 198 99 = some (.iload 7, 2, 0) := by decide +kernel
theorem f198_101 : q_fetch 198 101 = some (.iadd, 1, 0) := by decide +kernel
theorem f198_102 : q_fetch 198 102 = some (.iaload, 1, 0) := by decide +kernel
theorem f198_103 : q_fetch 198 103 = some (.ifCond .ge (7), 3, 110) := by decide +kernel
theorem f198_106 : q_fetch 198 106 = some (.iconst 0, 1, 0) := by decide +kernel
theorem f198_107 : q_fetch 198 107 = some (.goto 12, 3, 119) := by decide +kernel
theorem f198_110 : q_fetch 198 110 = some (.aload_n 0, 1, 0) := by decide +kernel
theorem f198_111 : q_fetch 198 111 = some (.iload_n 2, 1, 0) := by decide +kernel
theorem f198_112 : q_fetch 198 112 = some (.iload_n 2, 1, 0) := by decide +kernel
theorem f198_113 : q_fetch 198 113 = some (.iload 7, 2, 0) := by decide +kernel
theorem f198_115 : q_fetch 198 115 = some (.iadd, 1, 0) := by decide +kernel
theorem f198_116 : q_fetch 198 116 = some (.invokevirtual 349, 3, 199) := by decide +kernel
theorem f198_119 : q_fetch 198 119 = some (.iastore, 1, 0) := by decide +kernel
theorem f198_120 : q_fetch 198 120 = some (.iinc 7 1, 3, 0) := by decide +kernel
theorem f198_123 : q_fetch 198 123 = some (.goto (-44), 3, 79) := by decide +kernel
theorem f198_126 : q_fetch 198 126 = some (.aload_n 0, 1, 0) := by decide +kernel
theorem f198_127 : q_fetch 198 127 = some (.getfield 135, 3, 1257) := by decide +kernel
theorem f198_130 : q_fetch 198 130 = some (.iload_n 2, 1, 0) := by decide +kernel
theorem f198_131 : q_fetch 198 131 = some (.iload 6, 2, 0) := by decide +kernel
theorem f198_133 : q_fetch 198 133 = some (.iadd, 1, 0) := by decide +kernel
theorem f198_134 : q_fetch 198 134 = some (.iload 4, 2, 0) := by decide +kernel
theorem f198_136 : q_fetch 198 136 = some (.iastore, 1, 0) := by decide +kernel
theorem f198_137 : q_fetch 198 137 = some (.iload 6, 2, 0) := by decide +kernel
theorem f198_139 : q_fetch 198 139 = some (.istore 7, 2, 0) := by decide +kernel
theorem f198_141 : q_fetch 198 141 = some (.iload 7, 2, 0) := by decide +kernel
theorem f198_143 : q_fetch 198 143 = some (.iload_n 3, 1, 0) := by decide +kernel
theorem f198_144 : q_fetch 198 144 = some (.if_icmp .lt (112), 3, 256) := by decide +kernel
theorem f198_147 : q_fetch 198 147 = some (.iload_n 2, 1, 0) := by decide +kernel
theorem f198_148 : q_fetch 198 148 = some (.iload 7, 2, 0) := by decide +kernel
theorem f198_150 : q_fetch 198 150 = some (.iadd, 1, 0) := by decide +kernel
theorem f198_151 : q_fetch 198 151 = some (.istore 8, 2, 0) := by decide +kernel
theorem f198_153 : q_fetch 198 153 = some (.aload_n 0, 1, 0) := by decide +kernel
theorem f198_154 : q_fetch 198 154 = some (.getfield 32, 3, 1171) := by decide +kernel
theorem f198_157 : q_fetch 198 157 = some (.iload 8, 2, 0) := by decide +kernel
theorem f198_159 : q_fetch 198 159 = some (.iaload, 1, 0) := by decide +kernel
theorem f198_160 : q_fetch 198 160 = some (.ifCond .ge (6), 3, 166) := by decide +kernel
theorem f198_163 : q_fetch 198 163 = some (.goto 87, 3, 250) := by decide +kernel
theorem f198_166 : q_fetch 198 166 = some (.aload_n 0, 1, 0) := by decide +kernel
theorem f198_167 : q_fetch 198 167 = some (.getfield 135, 3, 1257) := by decide +kernel
theorem f198_170 : q_fetch 198 170 = some (.iload_n 2, 1, 0) := by decide +kernel
theorem f198_171 : q_fetch 198 171 = some (.aload_n 0, 1, 0) := by decide +kernel
theorem f198_172 : q_fetch 198 172 = some (.getfield 32, 3, 1171) := by decide +kernel
theorem f198_175 : q_fetch 198 175 = some (.iload 8, 2, 0) := by decide +kernel
theorem f198_177 : q_fetch 198 177 = some (.iaload, 1, 0) := by decide +kernel
theorem f198_178 : q_fetch 198 178 = some (.iadd, 1, 0) := by decide +kernel
theorem f198_179 : q_fetch 198 179 = some (.aload_n 0, 1, 0) := by decide +kernel
theorem f198_180 : q_fetch 198 180 = some (.getfield 135, 3, 1257) := by decide +kernel
theorem f198_183 : q_fetch 198 183 = some (.iload 8, 2, 0) := by decide +kernel
theorem f198_185 : q_fetch 198 185 = some (.iaload, 1, 0) := by decide +kernel
theorem f198_186 : q_fetch 198 186 = some (.iastore, 1, 0) := by decide +kernel
theorem f198_187 : q_fetch 198 187 = some (.aload_n 0, 1, 0) := by decide +kernel
theorem f198_188 : q_fetch 198 188 = some (.getfield 35, 3, 1173) := by decide +kernel
theorem f198_191 : q_fetch 198 191 = some (.iload 8, 2, 0) := by decide +kernel
theorem f198_193 : q_fetch 198 193 = some (.iaload, 1, 0) := by decide +kernel
theorem f198_194 : q_fetch 198 194 = some (.ifCond .lt (56), 3, 250) := by decide +kernel
