/-! the rows of code, one by one -/
theorem f117_24 : q_fetch 117 24 = some (.astore 6, 2, 0) := by decide +kernel
theorem f117_26 : q_fetch 117 26 = some (.iconst 1, 1, 0) := by decide +kernel
theorem f117_27 : q_fetch 117 27 = some (.ireturn, 1, 0) := by decide +kernel
theorem f117_28 : q_fetch 117 28 = some (.astore 6, 2, 0) := by decide +kernel
theorem f117_30 : q_fetch 117 30 = some (.iconst 2, 1, 0) := by decide +kernel
theorem f117_31 : q_fetch 117 31 = some (.ireturn, 1, 0) := by decide +kernel
theorem f117_32 : q_fetch 117 32 = some (.astore 6, 2, 0) := by decide +kernel
theorem f117_34 : q_fetch 117 34 = some (.iconst 3, 1, 0) := by decide +kernel
theorem f117_35 : q_fetch 117 35 = some (.ireturn, 1, 0) := by decide +kernel
theorem f117_36 : q_fetch 117 36 = some (.astore 6, 2, 0) := by decide +kernel
theorem f117_38 : q_fetch 117 38 = some (.iconst 4, 1, 0) := by decide +kernel
theorem f117_39 : q_fetch 117 39 = some (.ireturn, 1, 0) := by decide +kernel
theorem f117_40 : q_fetch 117 40 = some (.astore 6, 2, 0) := by decide +kernel
theorem f117_42 : q_fetch 117 42 = some (.iconst 5, 1, 0) := by decide +kernel
theorem f117_43 : q_fetch 117 43 = some (.ireturn, 1, 0) := by decide +kernel
theorem f117_44 : q_fetch 117 44 = some (.iconst 0, 1, 0) := by decide +kernel
theorem f117_45 : q_fetch 117 45 = some (.ireturn, 1, 0) := by decide +kernel
theorem f118_0 : q_fetch 118 0 = some (.iload_n 1, 1, 0) := by decide +kernel
theorem f118_1 : q_fetch 118 1 = some (.bipush 6, 2, 0) := by decide +kernel
theorem f118_3 : q_fetch 118 3 = some (.invokestatic 96, 3, 24) := by decide +kernel
theorem f118_6 : q_fetch 118 6 = some (.iload_n 2, 1, 0) := by decide +kernel
theorem f118_7 : q_fetch 118 7 = some (.iload_n 3, 1, 0) := by decide +kernel
theorem f118_8 : q_fetch 118 8 = some (.iload 4, 2, 0) := by decide +kernel
theorem f118_10 : q_fetch 118 10 = some (.invokestatic 165, 3, 119) := by decide +kernel
theorem f118_13 : q_fetch 118 13 = some (.aload_n 0, 1, 0) := by decide +kernel
theorem f118_14 : q_fetch 118 14 = some (.getfield 22, 3, 7) := by decide +kernel
theorem f118_17 : q_fetch 118 17 = some (.iload_n 1, 1, 0) := by decide +kernel
theorem f118_18 : q_fetch 118 18 = some (.aaload, 1, 0) := by decide +kernel
theorem f118_19 : q_fetch 118 19 = some (.getfield 106, 3, 128) := by decide +kernel
theorem f118_22 : q_fetch 118 22 = some (.ifCond .ne (13), 3, 35) := by decide +kernel
theorem f118_25 : q_fetch 118 25 = some (.new 87, 3, 11) := by decide +kernel
theorem f118_28 : q_fetch 118 28 = some (.dup, 1, 0) := by decide +kernel
theorem f118_29 : q_fetch 118 29 = some (.ldc 158, 2, 46) := by decide +kernel
theorem f118_31 : q_fetch 118 31 = some (.invokespecial 91, 3, 5011) := by decide +kernel
theorem f118_34 : q_fetch 118 34 = some (.athrow, 1, 0) := by decide +kernel
theorem f118_35 : q_fetch 118 35 = some (.aload_n 0, 1, 0) := by decide +kernel
theorem f118_36 : q_fetch 118 36 = some (.getfield 63, 3, 19) := by decide +kernel
theorem f118_39 : q_fetch 118 39 = some (.aload_n 0, 1, 0) := by decide +kernel
theorem f118_40 : q_fetch 118 40 = some (.getfield 22, 3, 7) := by decide +kernel
theorem f118_43 : q_fetch 118 43 = some (.iload_n 1, 1, 0) := by decide +kernel
theorem f118_44 : q_fetch 118 44 = some (.aaload, 1, 0) := by decide +kernel
theorem f118_45 : q_fetch 118 45 = some (.iload_n 2, 1, 0) := by decide +kernel
theorem f118_46 : q_fetch 118 46 = some (.iload_n 3, 1, 0) := by decide +kernel
theorem f118_47 : q_fetch 118 47 = some (.iload 4, 2, 0) := by decide +kernel
theorem f118_49 : q_fetch 118 49 = some (.invokevirtual 169, 3, 120) := by decide +kernel
theorem f118_52 : q_fetch 118 52 = some (.istore 5, 2, 0) := by decide +kernel
theorem f118_54 : q_fetch 118 54 = some (.iload 5, 2, 0) := by decide +kernel
theorem f118_56 : q_fetch 118 56 = some (.iconst 4, 1, 0) := by decide +kernel
theorem f118_57 : q_fetch 118 57 = some (.if_icmp .ne (13), 3, 70) := by decide +kernel
theorem f118_60 : q_fetch 118 60 = some (.new 173, 3, 13) := by decide +kernel
theorem f118_63 : q_fetch 118 63 = some (.dup, 1, 0) := by decide +kernel
theorem f118_64 : q_fetch 118 64 = some (.ldc 175, 2, 47) := by decide +kernel
theorem f118_66 : q_fetch 118 66 = some (.invokespecial 177, 3, 5013) := by decide +kernel
theorem f118_69 : q_fetch 118 69 = some (.athrow, 1, 0) := by decide +kernel
theorem f118_70 : q_fetch 118 70 = some (.iload 5, 2, 0) := by decide +kernel
theorem f118_72 : q_fetch 118 72 = some (.iconst 5, 1, 0) := by decide +kernel
theorem f118_73 : q_fetch 118 73 = some (.if_icmp .ne (13), 3, 86) := by decide +kernel
theorem f118_76 : q_fetch 118 76 = some (.new 156, 3, 12) := by decide +kernel
theorem f118_79 : q_fetch 118 79 = some (.dup, 1, 0) := by decide +kernel
theorem f118_80 : q_fetch 118 80 = some (.ldc 178, 2, 48) := by decide +kernel
theorem f118_82 : q_fetch 118 82 = some (.invokespecial 160, 3, 5012) := by decide +kernel
theorem f118_85 : q_fetch 118 85 = some (.athrow, 1, 0) := by decide +kernel
theorem f118_86 : q_fetch 118 86 = some (.iload 5, 2, 0) := by decide +kernel
theorem f118_88 : q_fetch 118 88 = some (.bipush 6, 2, 0) := by decide +kernel
theorem f118_90 : q_fetch 118 90 = some (.if_icmp .ne (13), 3, 103) := by decide +kernel
theorem f118_93 : q_fetch 118 93 = some (.new 180, 3, 14) := by decide +kernel
theorem f118_96 : q_fetch 118 96 = some (.dup, 1, 0) := by decide +kernel
theorem f118_97 : q_fetch 118 97 = some (.ldc 182, 2, 49) := by decide +kernel
theorem f118_99 : q_fetch 118 99 = some (.invokespecial 184, 3, 5014) := by decide +kernel
theorem f118_102 : q_fetch 118 102 = some (.athrow, 1, 0) := by decide +kernel
theorem f118_103 : q_fetch 118 103 = some (.iload 5, 2, 0) := by decide +kernel
theorem f118_105 : q_fetch 118 105 = some (.iconst 3, 1, 0) := by decide +kernel
theorem f118_106 : q_fetch 118 106 = some (.if_icmp .ne (7), 3, 113) := by decide +kernel
theorem f118_109 : q_fetch 118 109 = some (.iconst 1, 1, 0) := by decide +kernel
theorem f118_110 : q_fetch 118 110 = some (.goto 4, 3, 114) := by decide +kernel
theorem f118_113 : q_fetch 118 113 = some (.iconst 0, 1, 0) := by decide +kernel
theorem f118_114 : q_fetch 118 114 = some (.ireturn, 1, 0) := by decide +kernel
theorem f119_0 : q_fetch 119 0 = some (.iload_n 0, 1, 0) := by decide +kernel
theorem f119_1 : q_fetch 119 1 = some (.bipush 16, 2, 0) := by decide +kernel
theorem f119_3 : q_fetch 119 3 = some (.invokestatic 96, 3, 24) := by decide +kernel
theorem f119_6 : q_fetch 119 6 = some (.iload_n 1, 1, 0) := by decide +kernel
theorem f119_7 : q_fetch 119 7 = some (.bipush 10, 2, 0) := by decide +kernel
theorem f119_9 : q_fetch 119 9 = some (.invokestatic 96, 3, 24) := by decide +kernel
theorem f119_12 : q_fetch 119 12 = some (.iload_n 2, 1, 0) := by decide +kernel
theorem f119_13 : q_fetch 119 13 = some (.bipush 16, 2, 0) := by decide +kernel
theorem f119_15 : q_fetch 119 15 = some (.invokestatic 96, 3, 24) := by decide +kernel
theorem f119_18 : q_fetch 119 18 = some (.return_, 1, 0) := by decide +kernel
theorem f120_0 : q_fetch 120 0 = some (.aload_n 0, 1, 0) := by decide +kernel
theorem f120_1 : q_fetch 120 1 = some (.aload_n 1, 1, 0) := by decide +kernel
theorem f120_2 : q_fetch 120 2 = some (.putfield 22, 3, 899) := by decide +kernel
theorem f120_5 : q_fetch 120 5 = some (.aload_n 0, 1, 0) := by decide +kernel
theorem f120_6 : q_fetch 120 6 = some (.iload_n 2, 1, 0) := by decide +kernel
theorem f120_7 : q_fetch 120 7 = some (.putfield 9, 3, 900) := by decide +kernel
theorem f120_10 : q_fetch 120 10 = some (.aload_n 0, 1, 0) := by decide +kernel
theorem f120_11 : q_fetch 120 11 = some (.iload 4, 2, 0) := by decide +kernel
theorem f120_13 : q_fetch 120 13 = some (.putfield 15, 3, 902) := by decide +kernel
theorem f120_16 : q_fetch 120 16 = some (.aload_n 1, 1, 0) := by decide +kernel
theorem f120_17 : q_fetch 120 17 = some (.iload_n 2, 1, 0) := by decide +kernel
theorem f120_18 : q_fetch 120 18 = some (.iload_n 3, 1, 0) := by decide +kernel
theorem f120_19 : q_fetch 120 19 = some (.iload 4, 2, 0) := by decide +kernel
theorem f120_21 : q_fetch 120 21 = some (.aload_n 0, 1, 0) := by decide +kernel
theorem f120_22 : q_fetch 120 22 = some (.getfield 18, 3, 897) := by decide +kernel
theorem f120_25 : q_fetch 120 25 = some (.invokevirtual 26, 3, 121) := by decide +kernel
theorem f120_28 : q_fetch 120 28 = some (.ifCond .ne (5), 3, 33) := by decide +kernel
theorem f120_31 : q_fetch 120 31 = some (.iconst 1, 1, 0) := by decide +kernel
theorem f120_32 : q_fetch 120 32 = some (.ireturn, 1, 0) := by decide +kernel
theorem f120_33 : q_fetch 120 33 = some (.iconst 0, 1, 0) := by decide +kernel
theorem f120_34 : q_fetch 120 34 = some (.istore 5, 2, 0) := by decide +kernel
theorem f120_36 : q_fetch 120 36 = some (.iload 5, 2, 0) := by decide +kernel
theorem f120_38 : q_fetch 120 38 = some (.aload_n 1, 1, 0) := by decide +kernel
theorem f120_39 : q_fetch 120 39 = some (.getfield 32, 3, 140) := by decide +kernel
theorem f120_42 : q_fetch 120 42 = some (.if_icmp .ge (65), 3, 107) := by decide +kernel
theorem f120_45 : q_fetch 120 45 = some (.aload_n 0, 1, 0) := by decide +kernel
theorem f120_46 : q_fetch 120 46 = some (.aload_n 1, 1, 0) := by decide +kernel
theorem f120_47 : q_fetch 120 47 = some (.getfield 35, 3, 147) := by decide +kernel
theorem f120_50 : q_fetch 120 50 = some (.iload 5, 2, 0) := by decide +kernel
theorem f120_52 : q_fetch 120 52 = some (.iaload, 1, 0) := by decide +kernel
theorem f120_53 : q_fetch 120 53 = some (.iconst 0, 1, 0) := by decide +kernel
theorem f120_54 : q_fetch 120 54 = some (.invokevirtual 39, 3, 123) := by decide +kernel
theorem f120_57 : q_fetch 120 57 = some (.invokestatic 43, 3, 135) := by decide +kernel
theorem f120_60 : q_fetch 120 60 = some (.lstore 6, 2, 0) := by decide +kernel
theorem f120_62 : q_fetch 120 62 = some (.lload 6, 2, 0) := by decide +kernel
theorem f120_64 : q_fetch 120 64 = some (.invokestatic 47, 3, 128) := by decide +kernel
theorem f120_67 : q_fetch 120 67 = some (.ifCond .eq (9), 3, 76) := by decide +kernel
theorem f120_70 : q_fetch 120 70 = some (.lload 6, 2, 0) := by decide +kernel
theorem f120_72 : q_fetch 120 72 = some (.invokestatic 51, 3, 129) := by decide +kernel
theorem f120_75 : q_fetch 120 75 = some (.ireturn, 1, 0) := by decide +kernel
theorem f120_76 : q_fetch 120 76 = some (.lload 6, 2, 0) := by decide +kernel
theorem f120_78 : q_fetch 120 78 = some (.invokestatic 55, 3, 131) := by decide +kernel
theorem f120_81 : q_fetch 120 81 = some (.aload_n 1, 1, 0) := by decide +kernel
theorem f120_82 : q_fetch 120 82 = some (.getfield 58, 3, 143) := by decide +kernel
theorem f120_85 : q_fetch 120 85 = some (.iload 5, 2, 0) := by decide +kernel
theorem f120_87 : q_fetch 120 87 = some (.baload, 1, 0) := by decide +kernel
theorem f120_88 : q_fetch 120 88 = some (.ifCond .eq (7), 3, 95) := by decide +kernel
theorem f120_91 : q_fetch 120 91 = some (.iconst 1, 1, 0) := by decide +kernel
theorem f120_92 : q_fetch 120 92 = some (.goto 4, 3, 96) := by decide +kernel
theorem f120_95 : q_fetch 120 95 = some (.iconst 0, 1, 0) := by decide +kernel
theorem f120_96 : q_fetch 120 96 = some (.if_icmp .eq (5), 3, 101) := by decide +kernel
theorem f120_99 : q_fetch 120 99 = some (.iconst 2, 1, 0) := by decide +kernel
theorem f120_100 : q_fetch 120 100 = some (.ireturn, 1, 0) := by decide +kernel
theorem f120_101 : q_fetch 120 101 = some (.iinc 5 1, 3, 0) := by decide +kernel
theorem f120_104 : q_fetch 120 104 = some (.goto (-68), 3, 36) := by decide +kernel
theorem f120_107 : q_fetch 120 107 = some (.iconst 3, 1, 0) := by decide +kernel
theorem f120_108 : q_fetch 120 108 = some (.ireturn, 1, 0) := by decide +kernel
theorem f121_0 : q_fetch 121 0 = some (.aload_n 0, 1, 0) := by decide +kernel
theorem f121_1 : q_fetch 121 1 = some (.getfield 21, 3, 133) := by decide +kernel
theorem f121_4 : q_fetch 121 4 = some (.iload_n 1, 1, 0) := by decide +kernel
theorem f121_5 : q_fetch 121 5 = some (.aload 4, 2, 0) := by decide +kernel
theorem f121_7 : q_fetch 121 7 = some (.invokevirtual 70, 3, 122) := by decide +kernel
theorem f121_10 : q_fetch 121 10 = some (.ifCond .eq (36), 3, 46) := by decide +kernel
theorem f121_13 : q_fetch 121 13 = some (.aload_n 0, 1, 0) := by decide +kernel
theorem f121_14 : q_fetch 121 14 = some (.getfield 25, 3, 135) := by decide +kernel
theorem f121_17 : q_fetch 121 17 = some (.iload_n 3, 1, 0) := by decide +kernel
theorem f121_18 : q_fetch 121 18 = some (.aload 4, 2, 0) := by decide +kernel
theorem f121_20 : q_fetch 121 20 = some (.invokevirtual 70, 3, 122) := by decide +kernel
theorem f121_23 : q_fetch 121 23 = some (.ifCond .eq (23), 3, 46) := by decide +kernel
theorem f121_26 : q_fetch 121 26 = some (.aload_n 0, 1, 0) := by decide +kernel
theorem f121_27 : q_fetch 121 27 = some (.getfield 28, 3, 136) := by decide +kernel
theorem f121_30 : q_fetch 121 30 = some (.iconst (-1), 1, 0) := by decide +kernel
theorem f121_31 : q_fetch 121 31 = some (.if_icmp .eq (11), 3, 42) := by decide +kernel
theorem f121_34 : q_fetch 121 34 = some (.aload_n 0, 1, 0) := by decide +kernel
theorem f121_35 : q_fetch 121 35 = some (.getfield 28, 3, 136) := by decide +kernel
theorem f121_38 : q_fetch 121 38 = some (.iload_n 2, 1, 0) := by decide +kernel
theorem f121_39 : q_fetch 121 39 = some (.if_icmp .ne (7), 3, 46) := by decide +kernel
theorem f121_42 : q_fetch 121 42 = some (.iconst 1, 1, 0) := by decide +kernel
theorem f121_43 : q_fetch 121 43 = some (.goto 4, 3, 47) := by decide +kernel
theorem f121_46 : q_fetch 121 46 = some (.iconst 0, 1, 0) := by decide +kernel
theorem f121_47 : q_fetch 121 47 = some (.ireturn, 1, 0) := by decide +kernel
theorem f122_0 : q_fetch 122 0 = some (.aload_n 0, 1, 0) := by decide +kernel
theorem f122_1 : q_fetch 122 1 = some (.getfield 9, 3, 256) := by decide +kernel
theorem f122_4 : q_fetch 122 4 = some (.iconst 1, 1, 0) := by decide +kernel
theorem f122_5 : q_fetch 122 5 = some (.if_icmp .ne (17), 3, 22) := by decide +kernel
theorem f122_8 : q_fetch 122 8 = some (.iload_n 1, 1, 0) := by decide +kernel
theorem f122_9 : q_fetch 122 9 = some (.aload_n 0, 1, 0) := by decide +kernel
theorem f122_10 : q_fetch 122 10 = some (.getfield 13, 3, 258) := by decide +kernel
theorem f122_13 : q_fetch 122 13 = some (.if_icmp .ne (7), 3, 20) := by decide +kernel
theorem f122_16 : q_fetch 122 16 = some (.iconst 1, 1, 0) := by decide +kernel
theorem f122_17 : q_fetch 122 17 = some (.goto 4, 3, 21) := by decide +kernel
theorem f122_20 : q_fetch 122 20 = some (.iconst 0, 1, 0) := by decide +kernel
theorem f122_21 : q_fetch 122 21 = some (.ireturn, 1, 0) := by decide +kernel
theorem f122_22 : q_fetch 122 22 = some (.aload_n 0, 1, 0) := by decide +kernel
theorem f122_23 : q_fetch 122 23 = some (.getfield 9, 3, 256) := by decide +kernel
theorem f122_26 : q_fetch 122 26 = some (.ifCond .eq (15), 3, 41) := by decide +kernel
theorem f122_29 : q_fetch 122 29 = some (.aload_n 2, 1, 0) := by decide +kernel
theorem f122_30 : q_fetch 122 30 = some (.iload_n 1, 1, 0) := by decide +kernel
theorem f122_31 : q_fetch 122 31 = some (.aload_n 0, 1, 0) := by decide +kernel
theorem f122_32 : q_fetch 122 32 = some (.getfield 13, 3, 258) := by decide +kernel
theorem f122_35 : q_fetch 122 35 = some (.invokevirtual 16, 3, 82) := by decide +kernel
theorem f122_38 : q_fetch 122 38 = some (.ifCond .eq (7), 3, 45) := by decide +kernel
theorem f122_41 : q_fetch 122 41 = some (.iconst 1, 1, 0) := by decide +kernel
theorem f122_42 : q_fetch 122 42 = some (.goto 4, 3, 46) := by decide +kernel
theorem f122_45 : q_fetch 122 45 = some (.iconst 0, 1, 0) := by decide +kernel
theorem f122_46 : q_fetch 122 46 = some (.ireturn, 1, 0) := by decide +kernel
theorem f123_0 : q_fetch 123 0 = some (.iload_n 2, 1, 0) := by decide +kernel
theorem f123_1 : q_fetch 123 1 = some (.bipush 50, 2, 0) := by decide +kernel
theorem f123_3 : q_fetch 123 3 = some (.if_icmp .le (8), 3, 11) := by decide +kernel
theorem f123_6 : q_fetch 123 6 = some (.iconst 4, 1, 0) := by decide +kernel
theorem f123_7 : q_fetch 123 7 = some (.invokestatic 62, 3, 124) := by decide +kernel
theorem f123_10 : q_fetch 123 10 = some (.lreturn, 1, 0) := by decide +kernel
theorem f123_11 : q_fetch 123 11 = some (.aload_n 0, 1, 0) := by decide +kernel
theorem f123_12 : q_fetch 123 12 = some (.getfield 22, 3, 899) := by decide +kernel
theorem f123_15 : q_fetch 123 15 = some (.getfield 66, 3, 157) := by decide +kernel
theorem f123_18 : q_fetch 123 18 = some (.iload_n 1, 1, 0) := by decide +kernel
theorem f123_19 : q_fetch 123 19 = some (.iaload, 1, 0) := by decide +kernel
theorem f123_20 : q_fetch 123 20 = some (.istore_n 3, 1, 0) := by decide +kernel
theorem f123_21 : q_fetch 123 21 = some (.aload_n 0, 1, 0) := by decide +kernel
theorem f123_22 : q_fetch 123 22 = some (.getfield 22, 3, 899) := by decide +kernel
theorem f123_25 : q_fetch 123 25 = some (.getfield 69, 3, 159) := by decide +kernel
theorem f123_28 : q_fetch 123 28 = some (.iload_n 1, 1, 0) := by decide +kernel
theorem f123_29 : q_fetch 123 29 = some (.iaload, 1, 0) := by decide +kernel
theorem f123_30 : q_fetch 123 30 = some (.istore 4, 2, 0) := by decide +kernel
theorem f123_32 : q_fetch 123 32 = some (.iload_n 3, 1, 0) := by decide +kernel
theorem f123_33 : q_fetch 123 33 = some (.iconst (-1), 1, 0) := by decide +kernel
theorem f123_34 : q_fetch 123 34 = some (.if_icmp .ne (9), 3, 43) := by decide +kernel
theorem f123_37 : q_fetch 123 37 = some (.aload_n 0, 1, 0) := by decide +kernel
theorem f123_38 : q_fetch 123 38 = some (.iload_n 1, 1, 0) := by decide +kernel
theorem f123_39 : q_fetch 123 39 = some (.invokevirtual 72, 3, 126) := by decide +kernel
theorem f123_42 : q_fetch 123 42 = some (.lreturn, 1, 0) := by decide +kernel
theorem f123_43 : q_fetch 123 43 = some (.aload_n 0, 1, 0) := by decide +kernel
theorem f123_44 : q_fetch 123 44 = some (.iload_n 3, 1, 0) := by decide +kernel
theorem f123_45 : q_fetch 123 45 = some (.iload_n 2, 1, 0) := by decide +kernel
theorem f123_46 : q_fetch 123 46 = some (.iconst 1, 1, 0) := by decide +kernel
theorem f123_47 : q_fetch 123 47 = some (.iadd, 1, 0) := by decide +kernel
theorem f123_48 : q_fetch 123 48 = some (.invokevirtual 39, 3, 123) := by decide +kernel
theorem f123_51 : q_fetch 123 51 = some (.lstore 5, 2, 0) := by decide +kernel
theorem f123_53 : q_fetch 123 53 = some (.lload 5, 2, 0) := by decide +kernel
theorem f123_55 : q_fetch 123 55 = some (.invokestatic 47, 3, 128) := by decide +kernel
theorem f123_58 : q_fetch 123 58 = some (.ifCond .eq (6), 3, 64) := by decide +kernel
theorem f123_61 : q_fetch 123 61 = some (.lload 5, 2, 0) := by decide +kernel
theorem f123_63 : q_fetch 123 63 = some (.lreturn, 1, 0) := by decide +kernel
theorem f123_64 : q_fetch 123 64 = some (.iload 4, 2, 0) := by decide +kernel
theorem f123_66 : q_fetch 123 66 = some (.iconst (-1), 1, 0) := by decide +kernel
theorem f123_67 : q_fetch 123 67 = some (.if_icmp .ne (11), 3, 78) := by decide +kernel
theorem f123_70 : q_fetch 123 70 = some (.aload_n 0, 1, 0) := by decide +kernel
theorem f123_71 : q_fetch 123 71 = some (.iload_n 1, 1, 0) := by decide +kernel
theorem f123_72 : q_fetch 123 72 = some (.lload 5, 2, 0) := by decide +kernel
theorem f123_74 : q_fetch 123 74 = some (.invokevirtual 75, 3, 130) := by decide +kernel
theorem f123_77 : q_fetch 123 77 = some (.lreturn, 1, 0) := by decide +kernel
theorem f123_78 : q_fetch 123 78 = some (.aload_n 0, 1, 0) := by decide +kernel
theorem f123_79 : q_fetch 123 79 = some (.getfield 22, 3, 899) := by decide +kernel
theorem f123_82 : q_fetch 123 82 = some (.getfield 79, 3, 151) := by decide +kernel
theorem f123_85 : q_fetch 123 85 = some (.iload_n 1, 1, 0) := by decide +kernel
theorem f123_86 : q_fetch 123 86 = some (.aaload, 1, 0) := by decide +kernel
theorem f123_87 : q_fetch 123 87 = some (.astore 7, 2, 0) := by decide +kernel
theorem f123_89 : q_fetch 123 89 = some (.aload 7, 2, 0) := by decide +kernel
theorem f123_91 : q_fetch 123 91 = some (.getstatic 83, 3, 20) := by decide +kernel
theorem f123_94 : q_fetch 123 94 = some (.if_acmp .eq (11), 3, 105) := by decide +kernel
theorem f123_97 : q_fetch 123 97 = some (.aload 7, 2, 0) := by decide +kernel
theorem f123_99 : q_fetch 123 99 = some (.getstatic 89, 3, 19) := by decide +kernel
theorem f123_102 : q_fetch 123 102 = some (.if_acmp .ne (7), 3, 109) := by decide +kernel
theorem f123_105 : q_fetch 123 105 = some (.iconst 1, 1, 0) := by decide +kernel
theorem f123_106 : q_fetch 123 106 = some (.goto 4, 3, 110) := by decide +kernel
theorem f123_109 : q_fetch 123 109 = some (.iconst 0, 1, 0) := by decide +kernel
theorem f123_110 : q_fetch 123 110 = some (.istore 8, 2, 0) := by decide +kernel
theorem f123_112 : q_fetch 123 112 = some (.iload 8, 2, 0) := by decide +kernel
theorem f123_114 : q_fetch 123 114 = some (.ifCond .eq (19), 3, 133) := by decide +kernel
theorem f123_117 : q_fetch 123 117 = some (.aload 7, 2, 0) := by decide +kernel
theorem f123_119 : q_fetch 123 119 = some (.lload 5, 2, 0) := by decide +kernel
theorem f123_121 : q_fetch 123 121 = some (.invokestatic 92, 3, 134) := by decide +kernel
theorem f123_124 : q_fetch 123 124 = some (.ifCond .eq (9), 3, 133) := by decide +kernel
theorem f123_127 : q_fetch 123 127 = some (.lload 5, 2, 0) := by decide +kernel
theorem f123_129 : q_fetch 123 129 = some (.invokestatic 43, 3, 135) := by decide +kernel
theorem f123_132 : q_fetch 123 132 = some (.lreturn, 1, 0) := by decide +kernel
theorem f123_133 : q_fetch 123 133 = some (.aload_n 0, 1, 0) := by decide +kernel
theorem f123_134 : q_fetch 123 134 = some (.iload 4, 2, 0) := by decide +kernel
theorem f123_136 : q_fetch 123 136 = some (.iload_n 2, 1, 0) := by decide +kernel
theorem f123_137 : q_fetch 123 137 = some (.iconst 1, 1, 0) := by decide +kernel
theorem f123_138 : q_fetch 123 138 = some (.iadd, 1, 0) := by decide +kernel
theorem f123_139 : q_fetch 123 139 = some (.invokevirtual 39, 3, 123) := by decide +kernel
theorem f123_142 : q_fetch 123 142 = some (.lstore 9, 2, 0) := by decide +kernel
theorem f123_144 : q_fetch 123 144 = some (.lload 9, 2, 0) := by decide +kernel
theorem f123_146 : q_fetch 123 146 = some (.invokestatic 47, 3, 128) := by decide +kernel
theorem f123_149 : q_fetch 123 149 = some (.ifCond .eq (6), 3, 155) := by decide +kernel
theorem f123_152 : q_fetch 123 152 = some (.lload 9, 2, 0) := by decide +kernel
theorem f123_154 : q_fetch 123 154 = some (.lreturn, 1, 0) := by decide +kernel
theorem f123_155 : q_fetch 123 155 = some (.iload 8, 2, 0) := by decide +kernel
theorem f123_157 : q_fetch 123 157 = some (.ifCond .eq (11), 3, 168) := by decide +kernel
theorem f123_160 : q_fetch 123 160 = some (.lload 9, 2, 0) := by decide +kernel
theorem f123_162 : q_fetch 123 162 = some (.invokestatic 43, 3, 135) := by decide +kernel
theorem f123_165 : q_fetch 123 165 = some (.goto 13, 3, 178) := by decide +kernel
theorem f123_168 : q_fetch 123 168 = some (.aload_n 0, 1, 0) := by decide +kernel
theorem f123_169 : q_fetch 123 169 = some (.aload 7, 2, 0) := by decide +kernel
theorem f123_171 : q_fetch 123 171 = some (.lload 5, 2, 0) := by decide +kernel
theorem f123_173 : q_fetch 123 173 = some (.lload 9, 2, 0) := by decide +kernel
theorem f123_175 : q_fetch 123 175 = some (.invokevirtual 96, 3, 136) := by decide +kernel
theorem f123_178 : q_fetch 123 178 = some (.lreturn, 1, 0) := by decide +kernel
theorem f124_0 : q_fetch 124 0 = some (.iload_n 0, 1, 0) := by decide +kernel
theorem f124_1 : q_fetch 124 1 = some (.iconst 0, 1, 0) := by decide +kernel
theorem f124_2 : q_fetch 124 2 = some (.invokestatic 113, 3, 125) := by decide +kernel
theorem f124_5 : q_fetch 124 5 = some (.lreturn, 1, 0) := by decide +kernel
theorem f125_0 : q_fetch 125 0 = some (.iload_n 0, 1, 0) := by decide +kernel
theorem f125_1 : q_fetch 125 1 = some (.i2l, 1, 0) := by decide +kernel
theorem f125_2 : q_fetch 125 2 = some (.bipush 32, 2, 0) := by decide +kernel
theorem f125_4 : q_fetch 125 4 = some (.lshl, 1, 0) := by decide +kernel
theorem f125_5 : q_fetch 125 5 = some (.iload_n 1, 1, 0) := by decide +kernel
theorem f125_6 : q_fetch 125 6 = some (.i2l, 1, 0) := by decide +kernel
theorem f125_7 : q_fetch 125 7 = some (.ldc2_w 141, 3, 0) := by decide +kernel
theorem f125_10 : q_fetch 125 10 = some (.land, 1, 0) := by decide +kernel
theorem f125_11 : q_fetch 125 11 = some (.lor, 1, 0) := by decide +kernel
theorem f125_12 : q_fetch 125 12 = some (.lreturn, 1, 0) := by decide +kernel
theorem f126_0 : q_fetch 126 0 = some (.getstatic 100, 3, 35) := by decide +kernel
theorem f126_3 : q_fetch 126 3 = some (.aload_n 0, 1, 0) := by decide +kernel
theorem f126_4 : q_fetch 126 4 = some (.getfield 22, 3, 899) := by decide +kernel
theorem f126_7 : q_fetch 126 7 = some (.getfield 79, 3, 151) := by decide +kernel
theorem f126_10 : q_fetch 126 10 = some (.iload_n 1, 1, 0) := by decide +kernel
theorem f126_11 : q_fetch 126 11 = some (.aaload, 1, 0) := by decide +kernel
theorem f126_12 : q_fetch 126 12 = some (.invokevirtual 105, 3, 64) := by decide +kernel
theorem f126_15 : q_fetch 126 15 = some (.iaload, 1, 0) := by decide +kernel
theorem f126_16 : q_fetch 126 16 = some (.tableswitch (78) (5) (9) #[36, 41, 64, 46, 55], 36, 0) := by decide +kernel
theorem f126_52 : q_fetch 126 52 = some (.iconst 1, 1, 0) := by decide +kernel
theorem f126_53 : q_fetch 126 53 = some (.invokestatic 109, 3, 127) := by decide +kernel
theorem f126_56 : q_fetch 126 56 = some (.lreturn, 1, 0) := by decide +kernel
theorem f126_57 : q_fetch 126 57 = some (.iconst 0, 1, 0) := by decide +kernel
theorem f126_58 : q_fetch 126 58 = some (.invokestatic 109, 3, 127) := by decide +kernel
theorem f126_61 : q_fetch 126 61 = some (.lreturn, 1, 0) := by decide +kernel
theorem f126_62 : q_fetch 126 62 = some (.iconst 3, 1, 0) := by decide +kernel
theorem f126_63 : q_fetch 126 63 = some (.aload_n 0, 1, 0) := by decide +kernel
theorem f126_64 : q_fetch 126 64 = some (.getfield 9, 3, 900) := by decide +kernel
theorem f126_67 : q_fetch 126 67 = some (.invokestatic 113, 3, 125) := by decide +kernel
theorem f126_70 : q_fetch 126 70 = some (.lreturn, 1, 0) := by decide +kernel
theorem f126_71 : q_fetch 126 71 = some (.iconst 3, 1, 0) := by decide +kernel
theorem f126_72 : q_fetch 126 72 = some (.aload_n 0, 1, 0) := by decide +kernel
theorem f126_73 : q_fetch 126 73 = some (.getfield 15, 3, 902) := by decide +kernel
theorem f126_76 : q_fetch 126 76 = some (.invokestatic 113, 3, 125) := by decide +kernel
theorem f126_79 : q_fetch 126 79 = some (.lreturn, 1, 0) := by decide +kernel
theorem f126_80 : q_fetch 126 80 = some (.iconst 3, 1, 0) := by decide +kernel
theorem f126_81 : q_fetch 126 81 = some (.aload_n 0, 1, 0) := by decide +kernel
theorem f126_82 : q_fetch 126 82 = some (.getfield 22, 3, 899) := by decide +kernel
theorem f126_85 : q_fetch 126 85 = some (.getfield 116, 3, 155) := by decide +kernel
theorem f126_88 : q_fetch 126 88 = some (.iload_n 1, 1, 0) := by decide +kernel
theorem f126_89 : q_fetch 126 89 = some (.iaload, 1, 0) := by decide +kernel
theorem f126_90 : q_fetch 126 90 = some (.invokestatic 113, 3, 125) := by decide +kernel
theorem f126_93 : q_fetch 126 93 = some (.lreturn, 1, 0) := by decide +kernel
theorem f126_94 : q_fetch 126 94 = some (.iconst 1, 1, 0) := by decide +kernel
theorem f126_95 : q_fetch 126 95 = some (.aload_n 0, 1, 0) := by decide +kernel
theorem f126_96 : q_fetch 126 96 = some (.getfield 22, 3, 899) := by decide +kernel
theorem f126_99 : q_fetch 126 99 = some (.getfield 116, 3, 155) := by decide +kernel
theorem f126_102 : q_fetch 126 102 = some (.iload_n 1, 1, 0) := by decide +kernel
theorem f126_103 : q_fetch 126 103 = some (.iaload, 1, 0) := by decide +kernel
theorem f126_104 : q_fetch 126 104 = some (.invokestatic 113, 3, 125) := by decide +kernel
theorem f126_107 : q_fetch 126 107 = some (.lreturn, 1, 0) := by decide +kernel
theorem f127_0 : q_fetch 127 0 = some (.iconst 2, 1, 0) := by decide +kernel
theorem f127_1 : q_fetch 127 1 = some (.iload_n 0, 1, 0) := by decide +kernel
theorem f127_2 : q_fetch 127 2 = some (.ifCond .eq (7), 3, 9) := by decide +kernel
theorem f127_5 : q_fetch 127 5 = some (.iconst 1, 1, 0) := by decide +kernel
theorem f127_6 : q_fetch 127 6 = some (.goto 4, 3, 10) := by decide +kernel
theorem f127_9 : q_fetch 127 9 = some (.iconst 0, 1, 0) := by decide +kernel
theorem f127_10 : q_fetch 127 10 = some (.invokestatic 113, 3, 125) := by decide +kernel
theorem f127_13 : q_fetch 127 13 = some (.lreturn, 1, 0) := by decide +kernel
theorem f128_0 : q_fetch 128 0 = some (.lload_n 0, 1, 0) := by decide +kernel
theorem f128_1 : q_fetch 128 1 = some (.invokestatic 51, 3, 129) := by decide +kernel
theorem f128_4 : q_fetch 128 4 = some (.iconst 4, 1, 0) := by decide +kernel
theorem f128_5 : q_fetch 128 5 = some (.if_icmp .lt (7), 3, 12) := by decide +kernel
theorem f128_8 : q_fetch 128 8 = some (.iconst 1, 1, 0) := by decide +kernel
theorem f128_9 : q_fetch 128 9 = some (.goto 4, 3, 13) := by decide +kernel
theorem f128_12 : q_fetch 128 12 = some (.iconst 0, 1, 0) := by decide +kernel
theorem f128_13 : q_fetch 128 13 = some (.ireturn, 1, 0) := by decide +kernel
theorem f129_0 : q_fetch 129 0 = some (.lload_n 0, 1, 0) := by decide +kernel
theorem f129_1 : q_fetch 129 1 = some (.bipush 32, 2, 0) := by decide +kernel
theorem f129_3 : q_fetch 129 3 = some (.lushr, 1, 0) := by decide +kernel
theorem f129_4 : q_fetch 129 4 = some (.l2i, 1, 0) := by decide +kernel
theorem f129_5 : q_fetch 129 5 = some (.ireturn, 1, 0) := by decide +kernel
theorem f130_0 : q_fetch 130 0 = some (.lload_n 2, 1, 0) := by decide +kernel
theorem f130_1 : q_fetch 130 1 = some (.invokestatic 51, 3, 129) := by decide +kernel
theorem f130_4 : q_fetch 130 4 = some (.istore 4, 2, 0) := by decide +kernel
theorem f130_6 : q_fetch 130 6 = some (.getstatic 100, 3, 35) := by decide +kernel
theorem f130_9 : q_fetch 130 9 = some (.aload_n 0, 1, 0) := by decide +kernel
theorem f130_10 : q_fetch 130 10 = some (.getfield 22, 3, 899) := by decide +kernel
theorem f130_13 : q_fetch 130 13 = some (.getfield 79, 3, 151) := by decide +kernel
theorem f130_16 : q_fetch 130 16 = some (.iload_n 1, 1, 0) := by decide +kernel
theorem f130_17 : q_fetch 130 17 = some (.aaload, 1, 0) := by decide +kernel
theorem f130_18 : q_fetch 130 18 = some (.invokevirtual 105, 3, 64) := by decide +kernel
theorem f130_21 : q_fetch 130 21 = some (.iaload, 1, 0) := by decide +kernel
theorem f130_22 : q_fetch 130 22 = some (.tableswitch (123) (11) (13) #[26, 55, 78], 26, 0) := by decide +kernel
theorem f130_48 : q_fetch 130 48 = some (.iload 4, 2, 0) := by decide +kernel
theorem f130_50 : q_fetch 130 50 = some (.iconst 2, 1, 0) := by decide +kernel
theorem f130_51 : q_fetch 130 51 = some (.if_icmp .ne (21), 3, 72) := by decide +kernel
theorem f130_54 : q_fetch 130 54 = some (.lload_n 2, 1, 0) := by decide +kernel
theorem f130_55 : q_fetch 130 55 = some (.invokestatic 55, 3, 131) := by decide +kernel
theorem f130_58 : q_fetch 130 58 = some (.ifCond .ne (7), 3, 65) := by decide +kernel
theorem f130_61 : q_fetch 130 61 = some (.iconst 1, 1, 0) := by decide +kernel
theorem f130_62 : q_fetch 130 62 = some (.goto 4, 3, 66) := by decide +kernel
theorem f130_65 : q_fetch 130 65 = some (.iconst 0, 1, 0) := by decide +kernel
theorem f130_66 : q_fetch 130 66 = some (.invokestatic 109, 3, 127) := by decide +kernel
theorem f130_69 : q_fetch 130 69 = some (.goto 7, 3, 76) := by decide +kernel
theorem f130_72 : q_fetch 130 72 = some (.iconst 4, 1, 0) := by decide +kernel
theorem f130_73 : q_fetch 130 73 = some (.invokestatic 62, 3, 124) := by decide +kernel
theorem f130_76 : q_fetch 130 76 = some (.lreturn, 1, 0) := by decide +kernel
theorem f130_77 : q_fetch 130 77 = some (.iload 4, 2, 0) := by decide +kernel
theorem f130_79 : q_fetch 130 79 = some (.iconst 1, 1, 0) := by decide +kernel
theorem f130_80 : q_fetch 130 80 = some (.if_icmp .ne (15), 3, 95) := by decide +kernel
theorem f130_83 : q_fetch 130 83 = some (.lload_n 2, 1, 0) := by decide +kernel
theorem f130_84 : q_fetch 130 84 = some (.invokestatic 55, 3, 131) := by decide +kernel
theorem f130_87 : q_fetch 130 87 = some (.i2l, 1, 0) := by decide +kernel
theorem f130_88 : q_fetch 130 88 = some (.lneg, 1, 0) := by decide +kernel
theorem f130_89 : q_fetch 130 89 = some (.invokestatic 119, 3, 132) := by decide +kernel
theorem f130_92 : q_fetch 130 92 = some (.goto 7, 3, 99) := by decide +kernel
theorem f130_95 : q_fetch 130 95 = some (.iconst 4, 1, 0) := by decide +kernel
theorem f130_96 : q_fetch 130 96 = some (.invokestatic 62, 3, 124) := by decide +kernel
theorem f130_99 : q_fetch 130 99 = some (.lreturn, 1, 0) := by decide +kernel
theorem f130_100 : q_fetch 130 100 = some (.iload 4, 2, 0) := by decide +kernel
theorem f130_102 : q_fetch 130 102 = some (.iconst 3, 1, 0) := by decide +kernel
theorem f130_103 : q_fetch 130 103 = some (.if_icmp .ne (37), 3, 140) := by decide +kernel
theorem f130_106 : q_fetch 130 106 = some (.aload_n 0, 1, 0) := by decide +kernel
theorem f130_107 : q_fetch 130 107 = some (.getfield 18, 3, 897) := by decide +kernel
theorem f130_110 : q_fetch 130 110 = some (.lload_n 2, 1, 0) := by decide +kernel
theorem f130_111 : q_fetch 130 111 = some (.invokestatic 55, 3, 131) := by decide +kernel
theorem f130_114 : q_fetch 130 114 = some (.aload_n 0, 1, 0) := by decide +kernel
theorem f130_115 : q_fetch 130 115 = some (.getfield 22, 3, 899) := by decide +kernel
theorem f130_118 : q_fetch 130 118 = some (.getfield 116, 3, 155) := by decide +kernel
theorem f130_121 : q_fetch 130 121 = some (.iload_n 1, 1, 0) := by decide +kernel
theorem f130_122 : q_fetch 130 122 = some (.iaload, 1, 0) := by decide +kernel
theorem f130_123 : q_fetch 130 123 = some (.invokevirtual 122, 3, 87) := by decide +kernel
theorem f130_126 : q_fetch 130 126 = some (.ifCond .eq (7), 3, 133) := by decide +kernel
theorem f130_129 : q_fetch 130 129 = some (.iconst 1, 1, 0) := by decide +kernel
theorem f130_130 : q_fetch 130 130 = some (.goto 4, 3, 134) := by decide +kernel
theorem f130_133 : q_fetch 130 133 = some (.iconst 0, 1, 0) := by decide +kernel
theorem f130_134 : q_fetch 130 134 = some (.invokestatic 109, 3, 127) := by decide +kernel
theorem f130_137 : q_fetch 130 137 = some (.goto 7, 3, 144) := by decide +kernel
theorem f130_140 : q_fetch 130 140 = some (.iconst 4, 1, 0) := by decide +kernel
theorem f130_141 : q_fetch 130 141 = some (.invokestatic 62, 3, 124) := by decide +kernel
theorem f130_144 : q_fetch 130 144 = some (.lreturn, 1, 0) := by decide +kernel
theorem f130_145 : q_fetch 130 145 = some (.iload 4, 2, 0) := by decide +kernel
theorem f130_147 : q_fetch 130 147 = some (.iconst 3, 1, 0) := by decide +kernel
theorem f130_148 : q_fetch 130 148 = some (.if_icmp .ne (23), 3, 171) := by decide +kernel
theorem f130_151 : q_fetch 130 151 = some (.aload_n 0, 1, 0) := by decide +kernel
theorem f130_152 : q_fetch 130 152 = some (.lload_n 2, 1, 0) := by decide +kernel
theorem f130_153 : q_fetch 130 153 = some (.invokestatic 55, 3, 131) := by decide +kernel
theorem f130_156 : q_fetch 130 156 = some (.aload_n 0, 1, 0) := by decide +kernel
theorem f130_157 : q_fetch 130 157 = some (.getfield 22, 3, 899) := by decide +kernel
theorem f130_160 : q_fetch 130 160 = some (.getfield 116, 3, 155) := by decide +kernel
theorem f130_163 : q_fetch 130 163 = some (.iload_n 1, 1, 0) := by decide +kernel
theorem f130_164 : q_fetch 130 164 = some (.iaload, 1, 0) := by decide +kernel
theorem f130_165 : q_fetch 130 165 = some (.invokevirtual 128, 3, 133) := by decide +kernel
theorem f130_168 : q_fetch 130 168 = some (.goto 7, 3, 175) := by decide +kernel
theorem f130_171 : q_fetch 130 171 = some (.iconst 4, 1, 0) := by decide +kernel
theorem f130_172 : q_fetch 130 172 = some (.invokestatic 62, 3, 124) := by decide +kernel
theorem f130_175 : q_fetch 130 175 = some (.lreturn, 1, 0) := by decide +kernel
theorem f131_0 : q_fetch 131 0 = some (.lload_n 0, 1, 0) := by decide +kernel
theorem f131_1 : q_fetch 131 1 = some (.l2i, 1, 0) := by decide +kernel
theorem f131_2 : q_fetch 131 2 = some (.ireturn, 1, 0) := by decide +kernel
theorem f132_0 : q_fetch 132 0 = some (.lload_n 0, 1, 0) := by decide +kernel
theorem f132_1 : q_fetch 132 1 = some (.lload_n 0, 1, 0) := by decide +kernel
theorem f132_2 : q_fetch 132 2 = some (.l2i, 1, 0) := by decide +kernel
theorem f132_3 : q_fetch 132 3 = some (.i2l, 1, 0) := by decide +kernel
theorem f132_4 : q_fetch 132 4 = some (.lcmp, 1, 0) := by decide +kernel
theorem f132_5 : q_fetch 132 5 = some (.ifCond .ne (12), 3, 17) := by decide +kernel
theorem f132_8 : q_fetch 132 8 = some (.iconst 1, 1, 0) := by decide +kernel
theorem f132_9 : q_fetch 132 9 = some (.lload_n 0, 1, 0) := by decide +kernel
theorem f132_10 : q_fetch 132 10 = some (.l2i, 1, 0) := by decide +kernel
theorem f132_11 : q_fetch 132 11 = some (.invokestatic 113, 3, 125) := by decide +kernel
theorem f132_14 : q_fetch 132 14 = some (.goto 8, 3, 22) := by decide +kernel
theorem f132_17 : q_fetch 132 17 = some (.bipush 6, 2, 0) := by decide +kernel
theorem f132_19 : q_fetch 132 19 = some (.invokestatic 62, 3, 124) := by decide +kernel
theorem f132_22 : q_fetch 132 22 = some (.lreturn, 1, 0) := by decide +kernel
theorem f133_0 : q_fetch 133 0 = some (.aload_n 0, 1, 0) := by decide +kernel
theorem f133_1 : q_fetch 133 1 = some (.getfield 18, 3, 897) := by decide +kernel
theorem f133_4 : q_fetch 133 4 = some (.iload_n 1, 1, 0) := by decide +kernel
theorem f133_5 : q_fetch 133 5 = some (.iload_n 2, 1, 0) := by decide +kernel
theorem f133_6 : q_fetch 133 6 = some (.invokevirtual 122, 3, 87) := by decide +kernel
theorem f133_9 : q_fetch 133 9 = some (.istore_n 3, 1, 0) := by decide +kernel
theorem f133_10 : q_fetch 133 10 = some (.iload_n 3, 1, 0) := by decide +kernel
theorem f133_11 : q_fetch 133 11 = some (.ifCond .ne (10), 3, 21) := by decide +kernel
theorem f133_14 : q_fetch 133 14 = some (.iconst 5, 1, 0) := by decide +kernel
theorem f133_15 : q_fetch 133 15 = some (.invokestatic 62, 3, 124) := by decide +kernel
theorem f133_18 : q_fetch 133 18 = some (.goto 16, 3, 34) := by decide +kernel
theorem f133_21 : q_fetch 133 21 = some (.iload_n 3, 1, 0) := by decide +kernel
theorem f133_22 : q_fetch 133 22 = some (.aload_n 0, 1, 0) := by decide +kernel
theorem f133_23 : q_fetch 133 23 = some (.getfield 18, 3, 897) := by decide +kernel
theorem f133_26 : q_fetch 133 26 = some (.iload_n 1, 1, 0) := by decide +kernel
theorem f133_27 : q_fetch 133 27 = some (.iload_n 2, 1, 0) := by decide +kernel
theorem f133_28 : q_fetch 133 28 = some (.invokevirtual 131, 3, 99) := by decide +kernel
theorem f133_31 : q_fetch 133 31 = some (.invokestatic 113, 3, 125) := by decide +kernel
theorem f133_34 : q_fetch 133 34 = some (.lreturn, 1, 0) := by decide +kernel
theorem f134_0 : q_fetch 134 0 = some (.lload_n 1, 1, 0) := by decide +kernel
theorem f134_1 : q_fetch 134 1 = some (.invokestatic 51, 3, 129) := by decide +kernel
theorem f134_4 : q_fetch 134 4 = some (.iconst 2, 1, 0) := by decide +kernel
theorem f134_5 : q_fetch 134 5 = some (.if_icmp .ne (22), 3, 27) := by decide +kernel
theorem f134_8 : q_fetch 134 8 = some (.lload_n 1, 1, 0) := by decide +kernel
theorem f134_9 : q_fetch 134 9 = some (.invokestatic 55, 3, 131) := by decide +kernel
theorem f134_12 : q_fetch 134 12 = some (.aload_n 0, 1, 0) := by decide +kernel
theorem f134_13 : q_fetch 134 13 = some (.getstatic 89, 3, 19) := by decide +kernel
theorem f134_16 : q_fetch 134 16 = some (.if_acmp .ne (7), 3, 23) := by decide +kernel
theorem f134_19 : q_fetch 134 19 = some (.iconst 1, 1, 0) := by decide +kernel
theorem f134_20 : q_fetch 134 20 = some (.goto 4, 3, 24) := by decide +kernel
theorem f134_23 : q_fetch 134 23 = some (.iconst 0, 1, 0) := by decide +kernel
theorem f134_24 : q_fetch 134 24 = some (.if_icmp .ne (7), 3, 31) := by decide +kernel
theorem f134_27 : q_fetch 134 27 = some (.iconst 1, 1, 0) := by decide +kernel
theorem f134_28 : q_fetch 134 28 = some (.goto 4, 3, 32) := by decide +kernel
theorem f134_31 : q_fetch 134 31 = some (.iconst 0, 1, 0) := by decide +kernel
theorem f134_32 : q_fetch 134 32 = some (.ireturn, 1, 0) := by decide +kernel
theorem f135_0 : q_fetch 135 0 = some (.lload_n 0, 1, 0) := by decide +kernel
theorem f135_1 : q_fetch 135 1 = some (.invokestatic 47, 3, 128) := by decide +kernel
theorem f135_4 : q_fetch 135 4 = some (.ifCond .ne (11), 3, 15) := by decide +kernel
theorem f135_7 : q_fetch 135 7 = some (.lload_n 0, 1, 0) := by decide +kernel
theorem f135_8 : q_fetch 135 8 = some (.invokestatic 51, 3, 129) := by decide +kernel
theorem f135_11 : q_fetch 135 11 = some (.iconst 2, 1, 0) := by decide +kernel
theorem f135_12 : q_fetch 135 12 = some (.if_icmp .ne (7), 3, 19) := by decide +kernel
theorem f135_15 : q_fetch 135 15 = some (.lload_n 0, 1, 0) := by decide +kernel
theorem f135_16 : q_fetch 135 16 = some (.goto 7, 3, 23) := by decide +kernel
theorem f135_19 : q_fetch 135 19 = some (.iconst 4, 1, 0) := by decide +kernel
theorem f135_20 : q_fetch 135 20 = some (.invokestatic 62, 3, 124) := by decide +kernel
theorem f135_23 : q_fetch 135 23 = some (.lreturn, 1, 0) := by decide +kernel
theorem f136_0 : q_fetch 136 0 = some (.getstatic 100, 3, 35) := by decide +kernel
theorem f136_3 : q_fetch 136 3 = some (.aload_n 1, 1, 0) := by decide +kernel
theorem f136_4 : q_fetch 136 4 = some (.invokevirtual 105, 3, 64) := by decide +kernel
theorem f136_7 : q_fetch 136 7 = some (.iaload, 1, 0) := by decide +kernel
theorem f136_8 : q_fetch 136 8 = some (.tableswitch (104) (14) (16) #[28, 44, 60], 28, 0) := by decide +kernel
theorem f136_36 : q_fetch 136 36 = some (.lload_n 2, 1, 0) := by decide +kernel
theorem f136_37 : q_fetch 136 37 = some (.lload 4, 2, 0) := by decide +kernel
theorem f136_39 : q_fetch 136 39 = some (.lcmp, 1, 0) := by decide +kernel
theorem f136_40 : q_fetch 136 40 = some (.ifCond .ne (7), 3, 47) := by decide +kernel
theorem f136_43 : q_fetch 136 43 = some (.iconst 1, 1, 0) := by decide +kernel
theorem f136_44 : q_fetch 136 44 = some (.goto 4, 3, 48) := by decide +kernel
theorem f136_47 : q_fetch 136 47 = some (.iconst 0, 1, 0) := by decide +kernel
theorem f136_48 : q_fetch 136 48 = some (.invokestatic 109, 3, 127) := by decide +kernel
theorem f136_51 : q_fetch 136 51 = some (.lreturn, 1, 0) := by decide +kernel
theorem f136_52 : q_fetch 136 52 = some (.lload_n 2, 1, 0) := by decide +kernel
theorem f136_53 : q_fetch 136 53 = some (.lload 4, 2, 0) := by decide +kernel
theorem f136_55 : q_fetch 136 55 = some (.lcmp, 1, 0) := by decide +kernel
theorem f136_56 : q_fetch 136 56 = some (.ifCond .eq (7), 3, 63) := by decide +kernel
theorem f136_59 : q_fetch 136 59 = some (.iconst 1, 1, 0) := by decide +kernel
theorem f136_60 : q_fetch 136 60 = some (.goto 4, 3, 64) := by decide +kernel
theorem f136_63 : q_fetch 136 63 = some (.iconst 0, 1, 0) := by decide +kernel
theorem f136_64 : q_fetch 136 64 = some (.invokestatic 109, 3, 127) := by decide +kernel
theorem f136_67 : q_fetch 136 67 = some (.lreturn, 1, 0) := by decide +kernel
theorem f136_68 : q_fetch 136 68 = some (.lload_n 2, 1, 0) := by decide +kernel
theorem f136_69 : q_fetch 136 69 = some (.invokestatic 51, 3, 129) := by decide +kernel
theorem f136_72 : q_fetch 136 72 = some (.iconst 3, 1, 0) := by decide +kernel
theorem f136_73 : q_fetch 136 73 = some (.if_icmp .ne (34), 3, 107) := by decide +kernel
theorem f136_76 : q_fetch 136 76 = some (.lload 4, 2, 0) := by decide +kernel
theorem f136_78 : q_fetch 136 78 = some (.invokestatic 51, 3, 129) := by decide +kernel
theorem f136_81 : q_fetch 136 81 = some (.iconst 3, 1, 0) := by decide +kernel
theorem f136_82 : q_fetch 136 82 = some (.if_icmp .ne (25), 3, 107) := by decide +kernel
theorem f136_85 : q_fetch 136 85 = some (.aload_n 0, 1, 0) := by decide +kernel
theorem f136_86 : q_fetch 136 86 = some (.getfield 18, 3, 897) := by decide +kernel
theorem f136_89 : q_fetch 136 89 = some (.lload_n 2, 1, 0) := by decide +kernel
theorem f136_90 : q_fetch 136 90 = some (.invokestatic 55, 3, 131) := by decide +kernel
theorem f136_93 : q_fetch 136 93 = some (.lload 4, 2, 0) := by decide +kernel
theorem f136_95 : q_fetch 136 95 = some (.invokestatic 55, 3, 131) := by decide +kernel
theorem f136_98 : q_fetch 136 98 = some (.invokevirtual 134, 3, 82) := by decide +kernel
theorem f136_101 : q_fetch 136 101 = some (.invokestatic 109, 3, 127) := by decide +kernel
theorem f136_104 : q_fetch 136 104 = some (.goto 7, 3, 111) := by decide +kernel
theorem f136_107 : q_fetch 136 107 = some (.iconst 4, 1, 0) := by decide +kernel
theorem f136_108 : q_fetch 136 108 = some (.invokestatic 62, 3, 124) := by decide +kernel
theorem f136_111 : q_fetch 136 111 = some (.lreturn, 1, 0) := by decide +kernel
theorem f136_112 : q_fetch 136 112 = some (.lload_n 2, 1, 0) := by decide +kernel
theorem f136_113 : q_fetch 136 113 = some (.invokestatic 51, 3, 129) := by decide +kernel
theorem f136_116 : q_fetch 136 116 = some (.iconst 1, 1, 0) := by decide +kernel
theorem f136_117 : q_fetch 136 117 = some (.if_icmp .ne (30), 3, 147) := by decide +kernel
theorem f136_120 : q_fetch 136 120 = some (.lload 4, 2, 0) := by decide +kernel
theorem f136_122 : q_fetch 136 122 = some (.invokestatic 51, 3, 129) := by decide +kernel
theorem f136_125 : q_fetch 136 125 = some (.iconst 1, 1, 0) := by decide +kernel
theorem f136_126 : q_fetch 136 126 = some (.if_icmp .ne (21), 3, 147) := by decide +kernel
theorem f136_129 : q_fetch 136 129 = some (.aload_n 1, 1, 0) := by decide +kernel
theorem f136_130 : q_fetch 136 130 = some (.lload_n 2, 1, 0) := by decide +kernel
theorem f136_131 : q_fetch 136 131 = some (.invokestatic 55, 3, 131) := by decide +kernel
theorem f136_134 : q_fetch 136 134 = some (.i2l, 1, 0) := by decide +kernel
theorem f136_135 : q_fetch 136 135 = some (.lload 4, 2, 0) := by decide +kernel
theorem f136_137 : q_fetch 136 137 = some (.invokestatic 55, 3, 131) := by decide +kernel
theorem f136_140 : q_fetch 136 140 = some (.i2l, 1, 0) := by decide +kernel
theorem f136_141 : q_fetch 136 141 = some (.invokestatic 138, 3, 137) := by decide +kernel
theorem f136_144 : q_fetch 136 144 = some (.goto 7, 3, 151) := by decide +kernel
theorem f136_147 : q_fetch 136 147 = some (.iconst 4, 1, 0) := by decide +kernel
theorem f136_148 : q_fetch 136 148 = some (.invokestatic 62, 3, 124) := by decide +kernel
theorem f136_151 : q_fetch 136 151 = some (.lreturn, 1, 0) := by decide +kernel
theorem f137_0 : q_fetch 137 0 = some (.getstatic 100, 3, 35) := by decide +kernel
theorem f137_3 : q_fetch 137 3 = some (.aload_n 0, 1, 0) := by decide +kernel
theorem f137_4 : q_fetch 137 4 = some (.invokevirtual 105, 3, 64) := by decide +kernel
theorem f137_7 : q_fetch 137 7 = some (.iaload, 1, 0) := by decide +kernel
theorem f137_8 : q_fetch 137 8 = some (.tableswitch (92) (12) (19) #[85, 92, 92, 92, 92, 48, 63, 78], 48, 0) := by decide +kernel
theorem f137_56 : q_fetch 137 56 = some (.lload_n 1, 1, 0) := by decide +kernel
theorem f137_57 : q_fetch 137 57 = some (.lload_n 3, 1, 0) := by decide +kernel
theorem f137_58 : q_fetch 137 58 = some (.lcmp, 1, 0) := by decide +kernel
theorem f137_59 : q_fetch 137 59 = some (.ifCond .ge (7), 3, 66) := by decide +kernel
theorem f137_62 : q_fetch 137 62 = some (.iconst 1, 1, 0) := by decide +kernel
theorem f137_63 : q_fetch 137 63 = some (.goto 4, 3, 67) := by decide +kernel
theorem f137_66 : q_fetch 137 66 = some (.iconst 0, 1, 0) := by decide +kernel
theorem f137_67 : q_fetch 137 67 = some (.invokestatic 109, 3, 127) := by decide +kernel
theorem f137_70 : q_fetch 137 70 = some (.lreturn, 1, 0) := by decide +kernel
theorem f137_71 : q_fetch 137 71 = some (.lload_n 1, 1, 0) := by decide +kernel
theorem f137_72 : q_fetch 137 72 = some (.lload_n 3, 1, 0) := by decide +kernel
theorem f137_73 : q_fetch 137 73 = some (.lcmp, 1, 0) := by decide +kernel
theorem f137_74 : q_fetch 137 74 = some (.ifCond .gt (7), 3, 81) := by decide +kernel
theorem f137_77 : q_fetch 137 77 = some (.iconst 1, 1, 0) := by decide +kernel
theorem f137_78 : q_fetch 137 78 = some (.goto 4, 3, 82) := by decide +kernel
theorem f137_81 : q_fetch 137 81 = some (.iconst 0, 1, 0) := by decide +kernel
theorem f137_82 : q_fetch 137 82 = some (.invokestatic 109, 3, 127) := by decide +kernel
theorem f137_85 : q_fetch 137 85 = some (.lreturn, 1, 0) := by decide +kernel
theorem f137_86 : q_fetch 137 86 = some (.lload_n 1, 1, 0) := by decide +kernel
theorem f137_87 : q_fetch 137 87 = some (.lload_n 3, 1, 0) := by decide +kernel
theorem f137_88 : q_fetch 137 88 = some (.ladd, 1, 0) := by decide +kernel
theorem f137_89 : q_fetch 137 89 = some (.invokestatic 119, 3, 132) := by decide +kernel
theorem f137_92 : q_fetch 137 92 = some (.lreturn, 1, 0) := by decide +kernel
theorem f137_93 : q_fetch 137 93 = some (.lload_n 1, 1, 0) := by decide +kernel
theorem f137_94 : q_fetch 137 94 = some (.lload_n 3, 1, 0) := by decide +kernel
theorem f137_95 : q_fetch 137 95 = some (.lsub, 1, 0) := by decide +kernel
theorem f137_96 : q_fetch 137 96 = some (.invokestatic 119, 3, 132) := by decide +kernel
theorem f137_99 : q_fetch 137 99 = some (.lreturn, 1, 0) := by decide +kernel
theorem f137_100 : q_fetch 137 100 = some (.lload_n 1, 1, 0) := by decide +kernel
theorem f137_101 : q_fetch 137 101 = some (.lload_n 3, 1, 0) := by decide +kernel
theorem f137_102 : q_fetch 137 102 = some (.lmul, 1, 0) := by decide +kernel
theorem f137_103 : q_fetch 137 103 = some (.invokestatic 119, 3, 132) := by decide +kernel
theorem f137_106 : q_fetch 137 106 = some (.lreturn, 1, 0) := by decide +kernel
theorem f138_0 : q_fetch 138 0 = some (.aload 4, 2, 0) := by decide +kernel
theorem f138_2 : q_fetch 138 2 = some (.iconst 0, 1, 0) := by decide +kernel
theorem f138_3 : q_fetch 138 3 = some (.aload_n 0, 1, 0) := by decide +kernel
theorem f138_4 : q_fetch 138 4 = some (.iload_n 1, 1, 0) := by decide +kernel
theorem f138_5 : q_fetch 138 5 = some (.iload_n 2, 1, 0) := by decide +kernel
theorem f138_6 : q_fetch 138 6 = some (.iload_n 3, 1, 0) := by decide +kernel
theorem f138_7 : q_fetch 138 7 = some (.invokevirtual 56, 3, 139) := by decide +kernel
theorem f138_10 : q_fetch 138 10 = some (.ifCond .eq (7), 3, 17) := by decide +kernel
theorem f138_13 : q_fetch 138 13 = some (.lconst 1, 1, 0) := by decide +kernel
theorem f138_14 : q_fetch 138 14 = some (.goto 4, 3, 18) := by decide +kernel
theorem f138_17 : q_fetch 138 17 = some (.lconst 0, 1, 0) := by decide +kernel
theorem f138_18 : q_fetch 138 18 = some (.lastore, 1, 0) := by decide +kernel
theorem f138_19 : q_fetch 138 19 = some (.goto 7, 3, 26) := by decide +kernel
theorem f138_22 : q_fetch 138 22 = some (.astore 5, 2, 0) := by decide +kernel
theorem f138_24 : q_fetch 138 24 = some (.iconst 1, 1, 0) := by decide +kernel
theorem f138_25 : q_fetch 138 25 = some (.ireturn, 1, 0) := by decide +kernel
theorem f138_26 : q_fetch 138 26 = some (.iconst 0, 1, 0) := by decide +kernel
theorem f138_27 : q_fetch 138 27 = some (.ireturn, 1, 0) := by decide +kernel
theorem f139_0 : q_fetch 139 0 = some (.iload_n 1, 1, 0) := by decide +kernel
theorem f139_1 : q_fetch 139 1 = some (.iload_n 2, 1, 0) := by decide +kernel
theorem f139_2 : q_fetch 139 2 = some (.iload_n 3, 1, 0) := by decide +kernel
theorem f139_3 : q_fetch 139 3 = some (.invokestatic 165, 3, 119) := by decide +kernel
theorem f139_6 : q_fetch 139 6 = some (.iconst 0, 1, 0) := by decide +kernel
theorem f139_7 : q_fetch 139 7 = some (.istore 4, 2, 0) := by decide +kernel
theorem f139_9 : q_fetch 139 9 = some (.iconst 0, 1, 0) := by decide +kernel
theorem f139_10 : q_fetch 139 10 = some (.istore 5, 2, 0) := by decide +kernel
theorem f139_12 : q_fetch 139 12 = some (.iconst 0, 1, 0) := by decide +kernel
theorem f139_13 : q_fetch 139 13 = some (.istore 6, 2, 0) := by decide +kernel
theorem f139_15 : q_fetch 139 15 = some (.iload 6, 2, 0) := by decide +kernel
theorem f139_17 : q_fetch 139 17 = some (.bipush 6, 2, 0) := by decide +kernel
theorem f139_19 : q_fetch 139 19 = some (.if_icmp .ge (117), 3, 136) := by decide +kernel
theorem f139_22 : q_fetch 139 22 = some (.aload_n 0, 1, 0) := by decide +kernel
theorem f139_23 : q_fetch 139 23 = some (.getfield 22, 3, 7) := by decide +kernel
theorem f139_26 : q_fetch 139 26 = some (.iload 6, 2, 0) := by decide +kernel
theorem f139_28 : q_fetch 139 28 = some (.aaload, 1, 0) := by decide +kernel
theorem f139_29 : q_fetch 139 29 = some (.astore 7, 2, 0) := by decide +kernel
theorem f139_31 : q_fetch 139 31 = some (.aload_n 0, 1, 0) := by decide +kernel
theorem f139_32 : q_fetch 139 32 = some (.getfield 26, 3, 9) := by decide +kernel
theorem f139_35 : q_fetch 139 35 = some (.iload 6, 2, 0) := by decide +kernel
theorem f139_37 : q_fetch 139 37 = some (.aload 7, 2, 0) := by decide +kernel
theorem f139_39 : q_fetch 139 39 = some (.getfield 106, 3, 128) := by decide +kernel
theorem f139_42 : q_fetch 139 42 = some (.ifCond .eq (18), 3, 60) := by decide +kernel
theorem f139_45 : q_fetch 139 45 = some (.aload_n 0, 1, 0) := by decide +kernel
theorem f139_46 : q_fetch 139 46 = some (.getfield 63, 3, 19) := by decide +kernel
theorem f139_49 : q_fetch 139 49 = some (.aload 7, 2, 0) := by decide +kernel
theorem f139_51 : q_fetch 139 51 = some (.iload_n 1, 1, 0) := by decide +kernel
theorem f139_52 : q_fetch 139 52 = some (.iload_n 2, 1, 0) := by decide +kernel
theorem f139_53 : q_fetch 139 53 = some (.iload_n 3, 1, 0) := by decide +kernel
theorem f139_54 : q_fetch 139 54 = some (.invokevirtual 169, 3, 120) := by decide +kernel
theorem f139_57 : q_fetch 139 57 = some (.goto 4, 3, 61) := by decide +kernel
theorem f139_60 : q_fetch 139 60 = some (.iconst 0, 1, 0) := by decide +kernel
theorem f139_61 : q_fetch 139 61 = some (.iastore, 1, 0) := by decide +kernel
theorem f139_62 : q_fetch 139 62 = some (.aload_n 0, 1, 0) := by decide +kernel
theorem f139_63 : q_fetch 139 63 = some (.getfield 26, 3, 9) := by decide +kernel
theorem f139_66 : q_fetch 139 66 = some (.iload 6, 2, 0) := by decide +kernel
theorem f139_68 : q_fetch 139 68 = some (.iaload, 1, 0) := by decide +kernel
theorem f139_69 : q_fetch 139 69 = some (.iconst 3, 1, 0) := by decide +kernel
theorem f139_70 : q_fetch 139 70 = some (.if_icmp .ne (7), 3, 77) := by decide +kernel
theorem f139_73 : q_fetch 139 73 = some (.iconst 1, 1, 0) := by decide +kernel
theorem f139_74 : q_fetch 139 74 = some (.goto 4, 3, 78) := by decide +kernel
theorem f139_77 : q_fetch 139 77 = some (.iconst 0, 1, 0) := by decide +kernel
theorem f139_78 : q_fetch 139 78 = some (.istore 8, 2, 0) := by decide +kernel
theorem f139_80 : q_fetch 139 80 = some (.iload 4, 2, 0) := by decide +kernel
theorem f139_82 : q_fetch 139 82 = some (.ifCond .ne (16), 3, 98) := by decide +kernel
theorem f139_85 : q_fetch 139 85 = some (.iload 8, 2, 0) := by decide +kernel
theorem f139_87 : q_fetch 139 87 = some (.ifCond .eq (15), 3, 102) := by decide +kernel
theorem f139_90 : q_fetch 139 90 = some (.aload 7, 2, 0) := by decide +kernel
theorem f139_92 : q_fetch 139 92 = some (.getfield 185, 3, 130) := by decide +kernel
theorem f139_95 : q_fetch 139 95 = some (.ifCond .eq (7), 3, 102) := by decide +kernel
theorem f139_98 : q_fetch 139 98 = some (.iconst 1, 1, 0) := by decide +kernel
theorem f139_99 : q_fetch 139 99 = some (.goto 4, 3, 103) := by decide +kernel
theorem f139_102 : q_fetch 139 102 = some (.iconst 0, 1, 0) := by decide +kernel
theorem f139_103 : q_fetch 139 103 = some (.istore 4, 2, 0) := by decide +kernel
theorem f139_105 : q_fetch 139 105 = some (.iload 5, 2, 0) := by decide +kernel
theorem f139_107 : q_fetch 139 107 = some (.ifCond .ne (16), 3, 123) := by decide +kernel
theorem f139_110 : q_fetch 139 110 = some (.iload 8, 2, 0) := by decide +kernel
theorem f139_112 : q_fetch 139 112 = some (.ifCond .eq (15), 3, 127) := by decide +kernel
theorem f139_115 : q_fetch 139 115 = some (.aload 7, 2, 0) := by decide +kernel
theorem f139_117 : q_fetch 139 117 = some (.getfield 185, 3, 130) := by decide +kernel
theorem f139_120 : q_fetch 139 120 = some (.ifCond .ne (7), 3, 127) := by decide +kernel
theorem f139_123 : q_fetch 139 123 = some (.iconst 1, 1, 0) := by decide +kernel
theorem f139_124 : q_fetch 139 124 = some (.goto 4, 3, 128) := by decide +kernel
theorem f139_127 : q_fetch 139 127 = some (.iconst 0, 1, 0) := by decide +kernel
theorem f139_128 : q_fetch 139 128 = some (.istore 5, 2, 0) := by decide +kernel
theorem f139_130 : q_fetch 139 130 = some (.iinc 6 1, 3, 0) := by decide +kernel
theorem f139_133 : q_fetch 139 133 = some (.goto (-118), 3, 15) := by decide +kernel
theorem f139_136 : q_fetch 139 136 = some (.iload 4, 2, 0) := by decide +kernel
theorem f139_138 : q_fetch 139 138 = some (.ifCond .eq (12), 3, 150) := by decide +kernel
theorem f139_141 : q_fetch 139 141 = some (.iload 5, 2, 0) := by decide +kernel
theorem f139_143 : q_fetch 139 143 = some (.ifCond .ne (7), 3, 150) := by decide +kernel
theorem f139_146 : q_fetch 139 146 = some (.iconst 1, 1, 0) := by decide +kernel
theorem f139_147 : q_fetch 139 147 = some (.goto 4, 3, 151) := by decide +kernel
theorem f139_150 : q_fetch 139 150 = some (.iconst 0, 1, 0) := by decide +kernel
theorem f139_151 : q_fetch 139 151 = some (.ireturn, 1, 0) := by decide +kernel
theorem f140_0 : q_fetch 140 0 = some (.aload_n 3, 1, 0) := by decide +kernel
theorem f140_1 : q_fetch 140 1 = some (.iconst 0, 1, 0) := by decide +kernel
theorem f140_2 : q_fetch 140 2 = some (.aload_n 0, 1, 0) := by decide +kernel
theorem f140_3 : q_fetch 140 3 = some (.iload_n 1, 1, 0) := by decide +kernel
theorem f140_4 : q_fetch 140 4 = some (.iload_n 2, 1, 0) := by decide +kernel
theorem f140_5 : q_fetch 140 5 = some (.invokevirtual 60, 3, 141) := by decide +kernel
theorem f140_8 : q_fetch 140 8 = some (.ifCond .eq (7), 3, 15) := by decide +kernel
theorem f140_11 : q_fetch 140 11 = some (.lconst 1, 1, 0) := by decide +kernel
theorem f140_12 : q_fetch 140 12 = some (.goto 4, 3, 16) := by decide +kernel
theorem f140_15 : q_fetch 140 15 = some (.lconst 0, 1, 0) := by decide +kernel
theorem f140_16 : q_fetch 140 16 = some (.lastore, 1, 0) := by decide +kernel
theorem f140_17 : q_fetch 140 17 = some (.goto 7, 3, 24) := by decide +kernel
theorem f140_20 : q_fetch 140 20 = some (.astore 4, 2, 0) := by decide +kernel
theorem f140_22 : q_fetch 140 22 = some (.iconst 1, 1, 0) := by decide +kernel
theorem f140_23 : q_fetch 140 23 = some (.ireturn, 1, 0) := by decide +kernel
theorem f140_24 : q_fetch 140 24 = some (.iconst 0, 1, 0) := by decide +kernel
theorem f140_25 : q_fetch 140 25 = some (.ireturn, 1, 0) := by decide +kernel
theorem f141_0 : q_fetch 141 0 = some (.iload_n 1, 1, 0) := by decide +kernel
theorem f141_1 : q_fetch 141 1 = some (.bipush 16, 2, 0) := by decide +kernel
theorem f141_3 : q_fetch 141 3 = some (.invokestatic 96, 3, 24) := by decide +kernel
theorem f141_6 : q_fetch 141 6 = some (.iload_n 2, 1, 0) := by decide +kernel
theorem f141_7 : q_fetch 141 7 = some (.bipush 16, 2, 0) := by decide +kernel
theorem f141_9 : q_fetch 141 9 = some (.invokestatic 96, 3, 24) := by decide +kernel
theorem f141_12 : q_fetch 141 12 = some (.aload_n 0, 1, 0) := by decide +kernel
theorem f141_13 : q_fetch 141 13 = some (.getfield 38, 3, 13) := by decide +kernel
theorem f141_16 : q_fetch 141 16 = some (.iload_n 1, 1, 0) := by decide +kernel
theorem f141_17 : q_fetch 141 17 = some (.iload_n 2, 1, 0) := by decide +kernel
theorem f141_18 : q_fetch 141 18 = some (.invokevirtual 123, 3, 82) := by decide +kernel
theorem f141_21 : q_fetch 141 21 = some (.ireturn, 1, 0) := by decide +kernel
theorem f142_0 : q_fetch 142 0 = some (.aload_n 0, 1, 0) := by decide +kernel
theorem f142_1 : q_fetch 142 1 = some (.invokespecial 1, 3, 9999) := by decide +kernel
theorem f142_4 : q_fetch 142 4 = some (.aload_n 0, 1, 0) := by decide +kernel
theorem f142_5 : q_fetch 142 5 = some (.bipush (-2), 2, 0) := by decide +kernel
theorem f142_7 : q_fetch 142 7 = some (.putfield 9, 3, 1154) := by decide +kernel
theorem f142_10 : q_fetch 142 10 = some (.aload_n 0, 1, 0) := by decide +kernel
theorem f142_11 : q_fetch 142 11 = some (.bipush 100, 2, 0) := by decide +kernel
theorem f142_13 : q_fetch 142 13 = some (.newarray .int, 2, 100) := by decide +kernel
theorem f142_15 : q_fetch 142 15 = some (.putfield 13, 3, 1157) := by decide +kernel
theorem f142_18 : q_fetch 142 18 = some (.aload_n 0, 1, 0) := by decide +kernel
theorem f142_19 : q_fetch 142 19 = some (.sipush 707, 3, 0) := by decide +kernel
theorem f142_22 : q_fetch 142 22 = some (.newarray .int, 2, 100) := by decide +kernel
theorem f142_24 : q_fetch 142 24 = some (.putfield 17, 3, 1161) := by decide +kernel
theorem f142_27 : q_fetch 142 27 = some (.aload_n 0, 1, 0) := by decide +kernel
theorem f142_28 : q_fetch 142 28 = some (.sipush 707, 3, 0) := by decide +kernel
theorem f142_31 : q_fetch 142 31 = some (.newarray .int, 2, 100) := by decide +kernel
theorem f142_33 : q_fetch 142 33 = some (.putfield 20, 3, 1163) := by decide +kernel
theorem f142_36 : q_fetch 142 36 = some (.aload_n 0, 1, 0) := by decide +kernel
theorem f142_37 : q_fetch 142 37 = some (.sipush 707, 3, 0) := by decide +kernel
theorem f142_40 : q_fetch 142 40 = some (.newarray .int, 2, 100) := by decide +kernel
theorem f142_42 : q_fetch 142 42 = some (.putfield 23, 3, 1165) := by decide +kernel
theorem f142_45 : q_fetch 142 45 = some (.aload_n 0, 1, 0) := by decide +kernel
theorem f142_46 : q_fetch 142 46 = some (.bipush 7, 2, 0) := by decide +kernel
theorem f142_48 : q_fetch 142 48 = some (.newarray .int, 2, 100) := by decide +kernel
theorem f142_50 : q_fetch 142 50 = some (.putfield 26, 3, 1167) := by decide +kernel
theorem f142_53 : q_fetch 142 53 = some (.aload_n 0, 1, 0) := by decide +kernel
theorem f142_54 : q_fetch 142 54 = some (.sipush 707, 3, 0) := by decide +kernel
theorem f142_57 : q_fetch 142 57 = some (.newarray .int, 2, 100) := by decide +kernel
theorem f142_59 : q_fetch 142 59 = some (.putfield 29, 3, 1169) := by decide +kernel
theorem f142_62 : q_fetch 142 62 = some (.aload_n 0, 1, 0) := by decide +kernel
theorem f142_63 : q_fetch 142 63 = some (.sipush 707, 3, 0) := by decide +kernel
theorem f142_66 : q_fetch 142 66 = some (.newarray .int, 2, 100) := by decide +kernel
theorem f142_68 : q_fetch 142 68 = some (.putfield 32, 3, 1171) := by decide +kernel
theorem f142_71 : q_fetch 142 71 = some (.aload_n 0, 1, 0) := by decide +kernel
theorem f142_72 : q_fetch 142 72 = some (.sipush 707, 3, 0) := by decide +kernel
theorem f142_75 : q_fetch 142 75 = some (.newarray .int, 2, 100) := by decide +kernel
theorem f142_77 : q_fetch 142 77 = some (.putfield 35, 3, 1173) := by decide +kernel
theorem f142_80 : q_fetch 142 80 = some (.aload_n 0, 1, 0) := by decide +kernel
theorem f142_81 : q_fetch 142 81 = some (.sipush 707, 3, 0) := by decide +kernel
theorem f142_84 : q_fetch 142 84 = some (.newarray .int, 2, 100) := by decide +kernel
theorem f142_86 : q_fetch 142 86 = some (.putfield 38, 3, 1175) := by decide +kernel
theorem f142_89 : q_fetch 142 89 = some (.aload_n 0, 1, 0) := by decide +kernel
theorem f142_90 : q_fetch 142 90 = some (.sipush 707, 3, 0) := by decide +kernel
theorem f142_93 : q_fetch 142 93 = some (.newarray .int, 2, 100) := by decide +kernel
theorem f142_95 : q_fetch 142 95 = some (.putfield 41, 3, 1177) := by decide +kernel
theorem f142_98 : q_fetch 142 98 = some (.aload_n 0, 1, 0) := by decide +kernel
theorem f142_99 : q_fetch 142 99 = some (.bipush 7, 2, 0) := by decide +kernel
theorem f142_101 : q_fetch 142 101 = some (.newarray .int, 2, 100) := by decide +kernel
theorem f142_103 : q_fetch 142 103 = some (.putfield 44, 3, 1179) := by decide +kernel
theorem f142_106 : q_fetch 142 106 = some (.aload_n 0, 1, 0) := by decide +kernel
theorem f142_107 : q_fetch 142 107 = some (.bipush 7, 2, 0) := by decide +kernel
theorem f142_109 : q_fetch 142 109 = some (.newarray .boolean, 2, 102) := by decide +kernel
theorem f142_111 : q_fetch 142 111 = some (.putfield 47, 3, 1181) := by decide +kernel
theorem f142_114 : q_fetch 142 114 = some (.aload_n 0, 1, 0) := by decide +kernel
theorem f142_115 : q_fetch 142 115 = some (.bipush 7, 2, 0) := by decide +kernel
theorem f142_117 : q_fetch 142 117 = some (.newarray .boolean, 2, 102) := by decide +kernel
theorem f142_119 : q_fetch 142 119 = some (.putfield 51, 3, 1183) := by decide +kernel
theorem f142_122 : q_fetch 142 122 = some (.aload_n 0, 1, 0) := by decide +kernel
theorem f142_123 : q_fetch 142 123 = some (.bipush 14, 2, 0) := by decide +kernel
theorem f142_125 : q_fetch 142 125 = some (.newarray .int, 2, 100) := by decide +kernel
theorem f142_127 : q_fetch 142 127 = some (.putfield 54, 3, 1185) := by decide +kernel
theorem f142_130 : q_fetch 142 130 = some (.aload_n 0, 1, 0) := by decide +kernel
theorem f142_131 : q_fetch 142 131 = some (.bipush 14, 2, 0) := by decide +kernel
theorem f142_133 : q_fetch 142 133 = some (.newarray .int, 2, 100) := by decide +kernel
theorem f142_135 : q_fetch 142 135 = some (.putfield 57, 3, 1187) := by decide +kernel
theorem f142_138 : q_fetch 142 138 = some (.aload_n 0, 1, 0) := by decide +kernel
theorem f142_139 : q_fetch 142 139 = some (.bipush 7, 2, 0) := by decide +kernel
theorem f142_141 : q_fetch 142 141 = some (.newarray .int, 2, 100) := by decide +kernel
theorem f142_143 : q_fetch 142 143 = some (.putfield 60, 3, 1189) := by decide +kernel
theorem f142_146 : q_fetch 142 146 = some (.aload_n 0, 1, 0) := by decide +kernel
theorem f142_147 : q_fetch 142 147 = some (.bipush 7, 2, 0) := by decide +kernel
theorem f142_149 : q_fetch 142 149 = some (.newarray .int, 2, 100) := by decide +kernel
theorem f142_151 : q_fetch 142 151 = some (.putfield 63, 3, 1191) := by decide +kernel
theorem f142_154 : q_fetch 142 154 = some (.aload_n 0, 1, 0) := by decide +kernel
theorem f142_155 : q_fetch 142 155 = some (.sipush 140, 3, 0) := by decide +kernel
theorem f142_158 : q_fetch 142 158 = some (.newarray .int, 2, 100) := by decide +kernel
theorem f142_160 : q_fetch 142 160 = some (.putfield 66, 3, 1193) := by decide +kernel
theorem f142_163 : q_fetch 142 163 = some (.aload_n 0, 1, 0) := by decide +kernel
theorem f142_164 : q_fetch 142 164 = some (.sipush 140, 3, 0) := by decide +kernel
theorem f142_167 : q_fetch 142 167 = some (.newarray .int, 2, 100) := by decide +kernel
theorem f142_169 : q_fetch 142 169 = some (.putfield 69, 3, 1195) := by decide +kernel
theorem f142_172 : q_fetch 142 172 = some (.aload_n 0, 1, 0) := by decide +kernel
theorem f142_173 : q_fetch 142 173 = some (.bipush 16, 2, 0) := by decide +kernel
theorem f142_175 : q_fetch 142 175 = some (.newarray .boolean, 2, 102) := by decide +kernel
theorem f142_177 : q_fetch 142 177 = some (.putfield 72, 3, 1197) := by decide +kernel
theorem f142_180 : q_fetch 142 180 = some (.aload_n 0, 1, 0) := by decide +kernel
theorem f142_181 : q_fetch 142 181 = some (.bipush 16, 2, 0) := by decide +kernel
theorem f142_183 : q_fetch 142 183 = some (.newarray .int, 2, 100) := by decide +kernel
theorem f142_185 : q_fetch 142 185 = some (.putfield 75, 3, 1199) := by decide +kernel
theorem f142_188 : q_fetch 142 188 = some (.aload_n 0, 1, 0) := by decide +kernel
theorem f142_189 : q_fetch 142 189 = some (.bipush 16, 2, 0) := by decide +kernel
theorem f142_191 : q_fetch 142 191 = some (.newarray .int, 2, 100) := by decide +kernel
theorem f142_193 : q_fetch 142 193 = some (.putfield 78, 3, 1201) := by decide +kernel
theorem f142_196 : q_fetch 142 196 = some (.aload_n 0, 1, 0) := by decide +kernel
theorem f142_197 : q_fetch 142 197 = some (.bipush 48, 2, 0) := by decide +kernel
theorem f142_199 : q_fetch 142 199 = some (.newarray .int, 2, 100) := by decide +kernel
theorem f142_201 : q_fetch 142 201 = some (.putfield 81, 3, 1203) := by decide +kernel
theorem f142_204 : q_fetch 142 204 = some (.aload_n 0, 1, 0) := by decide +kernel
theorem f142_205 : q_fetch 142 205 = some (.bipush 48, 2, 0) := by decide +kernel
theorem f142_207 : q_fetch 142 207 = some (.newarray .int, 2, 100) := by decide +kernel
theorem f142_209 : q_fetch 142 209 = some (.putfield 84, 3, 1205) := by decide +kernel
theorem f142_212 : q_fetch 142 212 = some (.aload_n 0, 1, 0) := by decide +kernel
theorem f142_213 : q_fetch 142 213 = some (.bipush 9, 2, 0) := by decide +kernel
theorem f142_215 : q_fetch 142 215 = some (.newarray .int, 2, 100) := by decide +kernel
theorem f142_217 : q_fetch 142 217 = some (.putfield 87, 3, 1207) := by decide +kernel
theorem f142_220 : q_fetch 142 220 = some (.aload_n 0, 1, 0) := by decide +kernel
theorem f142_221 : q_fetch 142 221 = some (.bipush 9, 2, 0) := by decide +kernel
theorem f142_223 : q_fetch 142 223 = some (.newarray .int, 2, 100) := by decide +kernel
theorem f142_225 : q_fetch 142 225 = some (.putfield 90, 3, 1209) := by decide +kernel
theorem f142_228 : q_fetch 142 228 = some (.aload_n 0, 1, 0) := by decide +kernel
theorem f142_229 : q_fetch 142 229 = some (.bipush 9, 2, 0) := by decide +kernel
theorem f142_231 : q_fetch 142 231 = some (.newarray .boolean, 2, 102) := by decide +kernel
theorem f142_233 : q_fetch 142 233 = some (.putfield 93, 3, 1211) := by decide +kernel
theorem f142_236 : q_fetch 142 236 = some (.aload_n 0, 1, 0) := by decide +kernel
theorem f142_237 : q_fetch 142 237 = some (.bipush 6, 2, 0) := by decide +kernel
theorem f142_239 : q_fetch 142 239 = some (.newarray .int, 2, 100) := by decide +kernel
theorem f142_241 : q_fetch 142 241 = some (.putfield 96, 3, 1213) := by decide +kernel
theorem f142_244 : q_fetch 142 244 = some (.aload_n 0, 1, 0) := by decide +kernel
theorem f142_245 : q_fetch 142 245 = some (.bipush 120, 2, 0) := by decide +kernel
theorem f142_247 : q_fetch 142 247 = some (.newarray .int, 2, 100) := by decide +kernel
theorem f142_249 : q_fetch 142 249 = some (.putfield 99, 3, 1225) := by decide +kernel
theorem f142_252 : q_fetch 142 252 = some (.aload_n 0, 1, 0) := by decide +kernel
theorem f142_253 : q_fetch 142 253 = some (.bipush 120, 2, 0) := by decide +kernel
theorem f142_255 : q_fetch 142 255 = some (.newarray .int, 2, 100) := by decide +kernel
theorem f142_257 : q_fetch 142 257 = some (.putfield 102, 3, 1227) := by decide +kernel
theorem f142_260 : q_fetch 142 260 = some (.aload_n 0, 1, 0) := by decide +kernel
theorem f142_261 : q_fetch 142 261 = some (.bipush 120, 2, 0) := by decide +kernel
theorem f142_263 : q_fetch 142 263 = some (.newarray .int, 2, 100) := by decide +kernel
theorem f142_265 : q_fetch 142 265 = some (.putfield 105, 3, 1229) := by decide +kernel
theorem f142_268 : q_fetch 142 268 = some (.aload_n 0, 1, 0) := by decide +kernel
theorem f142_269 : q_fetch 142 269 = some (.bipush 120, 2, 0) := by decide +kernel
theorem f142_271 : q_fetch 142 271 = some (.newarray .int, 2, 100) := by decide +kernel
theorem f142_273 : q_fetch 142 273 = some (.putfield 108, 3, 1231) := by decide +kernel
theorem f142_276 : q_fetch 142 276 = some (.aload_n 0, 1, 0) := by decide +kernel
theorem f142_277 : q_fetch 142 277 = some (.bipush 120, 2, 0) := by decide +kernel
theorem f142_279 : q_fetch 142 279 = some (.newarray .int, 2, 100) := by decide +kernel
theorem f142_281 : q_fetch 142 281 = some (.putfield 111, 3, 1233) := by decide +kernel
theorem f142_284 : q_fetch 142 284 = some (.aload_n 0, 1, 0) := by decide +kernel
theorem f142_285 : q_fetch 142 285 = some (.bipush 120, 2, 0) := by decide +kernel
theorem f142_287 : q_fetch 142 287 = some (.newarray .int, 2, 100) := by decide +kernel
theorem f142_289 : q_fetch 142 289 = some (.putfield 114, 3, 1235) := by decide +kernel
theorem f142_292 : q_fetch 142 292 = some (.aload_n 0, 1, 0) := by decide +kernel
theorem f142_293 : q_fetch 142 293 = some (.bipush 120, 2, 0) := by decide +kernel
theorem f142_295 : q_fetch 142 295 = some (.newarray .int, 2, 100) := by decide +kernel
theorem f142_297 : q_fetch 142 297 = some (.putfield 117, 3, 1237) := by decide +kernel
theorem f142_300 : q_fetch 142 300 = some (.aload_n 0, 1, 0) := by decide +kernel
theorem f142_301 : q_fetch 142 301 = some (.bipush 120, 2, 0) := by decide +kernel
theorem f142_303 : q_fetch 142 303 = some (.newarray .int, 2, 100) := by decide +kernel
theorem f142_305 : q_fetch 142 305 = some (.putfield 120, 3, 1239) := by decide +kernel
theorem f142_308 : q_fetch 142 308 = some (.aload_n 0, 1, 0) := by decide +kernel
theorem f142_309 : q_fetch 142 309 = some (.bipush 120, 2, 0) := by decide +kernel
theorem f142_311 : q_fetch 142 311 = some (.newarray .int, 2, 100) := by decide +kernel
theorem f142_313 : q_fetch 142 313 = some (.putfield 123, 3, 1241) := by decide +kernel
theorem f142_316 : q_fetch 142 316 = some (.aload_n 0, 1, 0) := by decide +kernel
theorem f142_317 : q_fetch 142 317 = some (.sipush 707, 3, 0) := by decide +kernel
theorem f142_320 : q_fetch 142 320 = some (.newarray .int, 2, 100) := by decide +kernel
theorem f142_322 : q_fetch 142 322 = some (.putfield 126, 3, 1251) := by decide +kernel
theorem f142_325 : q_fetch 142 325 = some (.aload_n 0, 1, 0) := by decide +kernel
theorem f142_326 : q_fetch 142 326 = some (.sipush 707, 3, 0) := by decide +kernel
theorem f142_329 : q_fetch 142 329 = some (.newarray .int, 2, 100) := by decide +kernel
theorem f142_331 : q_fetch 142 331 = some (.putfield 129, 3, 1253) := by decide +kernel
theorem f142_334 : q_fetch 142 334 = some (.aload_n 0, 1, 0) := by decide +kernel
theorem f142_335 : q_fetch 142 335 = some (.sipush 707, 3, 0) := by decide +kernel
theorem f142_338 : q_fetch 142 338 = some (.newarray .int, 2, 100) := by decide +kernel
theorem f142_340 : q_fetch 142 340 = some (.putfield 132, 3, 1255) := by decide +kernel
theorem f142_343 : q_fetch 142 343 = some (.aload_n 0, 1, 0) := by decide +kernel
theorem f142_344 : q_fetch 142 344 = some (.sipush 707, 3, 0) := by decide +kernel
theorem f142_347 : q_fetch 142 347 = some (.newarray .int, 2, 100) := by decide +kernel
theorem f142_349 : q_fetch 142 349 = some (.putfield 135, 3, 1257) := by decide +kernel
theorem f142_352 : q_fetch 142 352 = some (.return_, 1, 0) := by decide +kernel
theorem f143_0 : q_fetch 143 0 = some (.aload_n 0, 1, 0) := by decide +kernel
theorem f143_1 : q_fetch 143 1 = some (.getfield 138, 3, 1152) := by decide +kernel
theorem f143_4 : q_fetch 143 4 = some (.ireturn, 1, 0) := by decide +kernel
theorem f144_0 : q_fetch 144 0 = some (.iconst 0, 1, 0) := by decide +kernel
theorem f144_1 : q_fetch 144 1 = some (.istore_n 3, 1, 0) := by decide +kernel
theorem f144_2 : q_fetch 144 2 = some (.aload_n 0, 1, 0) := by decide +kernel
theorem f144_3 : q_fetch 144 3 = some (.iconst 0, 1, 0) := by decide +kernel
theorem f144_4 : q_fetch 144 4 = some (.putfield 138, 3, 1152) := by decide +kernel
theorem f144_7 : q_fetch 144 7 = some (.iconst 0, 1, 0) := by decide +kernel
theorem f144_8 : q_fetch 144 8 = some (.istore 4, 2, 0) := by decide +kernel
theorem f144_10 : q_fetch 144 10 = some (.iload 4, 2, 0) := by decide +kernel
theorem f144_12 : q_fetch 144 12 = some (.bipush 8, 2, 0) := by decide +kernel
theorem f144_14 : q_fetch 144 14 = some (.if_icmp .ge (54), 3, 68) := by decide +kernel
theorem f144_17 : q_fetch 144 17 = some (.lload_n 1, 1, 0) := by decide +kernel
theorem f144_18 : q_fetch 144 18 = some (.bipush 8, 2, 0) := by decide +kernel
theorem f144_20 : q_fetch 144 20 = some (.iload 4, 2, 0) := by decide +kernel
theorem f144_22 : q_fetch 144 22 = some (.imul, 1, 0) := by decide +kernel
theorem f144_23 : q_fetch 144 23 = some (.lushr, 1, 0) := by decide +kernel
theorem f144_24 : q_fetch 144 24 = some (.l2i, 1, 0) := by decide +kernel
theorem f144_25 : q_fetch 144 25 = some (.sipush 255, 3, 0) := by decide +kernel
theorem f144_28 : q_fetch 144 28 = some (.iand, 1, 0) := by decide +kernel
theorem f144_29 : q_fetch 144 29 = some (.istore 5, 2, 0) := by decide +kernel
theorem f144_31 : q_fetch 144 31 = some (.iload 5, 2, 0) := by decide +kernel
theorem f144_33 : q_fetch 144 33 = some (.ifCond .eq (21), 3, 54) := by decide +kernel
theorem f144_36 : q_fetch 144 36 = some (.iload 5, 2, 0) := by decide +kernel
theorem f144_38 : q_fetch 144 38 = some (.bipush 32, 2, 0) := by decide +kernel
theorem f144_40 : q_fetch 144 40 = some (.bipush 126, 2, 0) := by decide +kernel
theorem f144_42 : q_fetch 144 42 = some (.invokestatic 141, 3, 145) := by decide +kernel
theorem f144_45 : q_fetch 144 45 = some (.ifCond .ne (9), 3, 54) := by decide +kernel
theorem f144_48 : q_fetch 144 48 = some (.aload_n 0, 1, 0) := by decide +kernel
theorem f144_49 : q_fetch 144 49 = some (.iconst 1, 1, 0) := by decide +kernel
theorem f144_50 : q_fetch 144 50 = some (.invokevirtual 145, 3, 146) := by decide +kernel
theorem f144_53 : q_fetch 144 53 = some (.ireturn, 1, 0) := by decide +kernel
theorem f144_54 : q_fetch 144 54 = some (.iload 5, 2, 0) := by decide +kernel
theorem f144_56 : q_fetch 144 56 = some (.ifCond .eq (6), 3, 62) := by decide +kernel
theorem f144_59 : q_fetch 144 59 = some (.iinc 3 1, 3, 0) := by decide +kernel
theorem f144_62 : q_fetch 144 62 = some (.iinc 4 1, 3, 0) := by decide +kernel
theorem f144_65 : q_fetch 144 65 = some (.goto (-55), 3, 10) := by decide +kernel
theorem f144_68 : q_fetch 144 68 = some (.aload_n 0, 1, 0) := by decide +kernel
theorem f144_69 : q_fetch 144 69 = some (.getfield 149, 3, 1158) := by decide +kernel
theorem f144_72 : q_fetch 144 72 = some (.iload_n 3, 1, 0) := by decide +kernel
theorem f144_73 : q_fetch 144 73 = some (.iadd, 1, 0) := by decide +kernel
theorem f144_74 : q_fetch 144 74 = some (.bipush 100, 2, 0) := by decide +kernel
theorem f144_76 : q_fetch 144 76 = some (.if_icmp .le (9), 3, 85) := by decide +kernel
theorem f144_79 : q_fetch 144 79 = some (.aload_n 0, 1, 0) := by decide +kernel
theorem f144_80 : q_fetch 144 80 = some (.iconst 2, 1, 0) := by decide +kernel
theorem f144_81 : q_fetch 144 81 = some (.invokevirtual 145, 3, 146) := by decide +kernel
theorem f144_84 : q_fetch 144 84 = some (.ireturn, 1, 0) := by decide +kernel
theorem f144_85 : q_fetch 144 85 = some (.bipush 7, 2, 0) := by decide +kernel
theorem f144_87 : q_fetch 144 87 = some (.istore 4, 2, 0) := by decide +kernel
theorem f144_89 : q_fetch 144 89 = some (.iload 4, 2, 0) := by decide +kernel
theorem f144_91 : q_fetch 144 91 = some (.ifCond .lt (52), 3, 143) := by decide +kernel
theorem f144_94 : q_fetch 144 94 = some (.lload_n 1, 1, 0) := by decide +kernel
theorem f144_95 : q_fetch 144 95 = some (.bipush 8, 2, 0) := by decide +kernel
theorem f144_97 : q_fetch 144 97 = some (.iload 4, 2, 0) := by decide +kernel
theorem f144_99 : q_fetch 144 99 = some (.imul, 1, 0) := by decide +kernel
theorem f144_100 : q_fetch 144 100 = some (.lushr, 1, 0) := by decide +kernel
theorem f144_101 : q_fetch 144 101 = some (.l2i, 1, 0) := by decide +kernel
theorem f144_102 : q_fetch 144 102 = some (.sipush 255, 3, 0) := by decide +kernel
theorem f144_105 : q_fetch 144 105 = some (.iand, 1, 0) := by decide +kernel
theorem f144_106 : q_fetch 144 106 = some (.istore 5, 2, 0) := by decide +kernel
theorem f144_108 : q_fetch 144 108 = some (.iload 5, 2, 0) := by decide +kernel
theorem f144_110 : q_fetch 144 110 = some (.ifCond .ne (6), 3, 116) := by decide +kernel
theorem f144_113 : q_fetch 144 113 = some (.goto 24, 3, 137) := by decide +kernel
theorem f144_116 : q_fetch 144 116 = some (.aload_n 0, 1, 0) := by decide +kernel
theorem f144_117 : q_fetch 144 117 = some (.getfield 13, 3, 1157) := by decide +kernel
theorem f144_120 : q_fetch 144 120 = some (.aload_n 0, 1, 0) := by decide +kernel
theorem f144_121 : q_fetch 144 121 = some (.getfield 149, 3, 1158) := by decide +kernel
theorem f144_124 : q_fetch 144 124 = some (.iload 5, 2, 0) := by decide +kernel
theorem f144_126 : q_fetch 144 126 = some (.iastore, 1, 0) := by decide +kernel
theorem f144_127 : q_fetch 144 127 = some (.aload_n 0, 1, 0) := by decide +kernel
theorem f144_128 : q_fetch 144 128 = some (.dup, 1, 0) := by decide +kernel
theorem f144_129 : q_fetch 144 129 = some (.getfield 149, 3, 1158) := by decide +kernel
theorem f144_132 : q_fetch 144 132 = some (.iconst 1, 1, 0) := by decide +kernel
theorem f144_133 : q_fetch 144 133 = some (.iadd, 1, 0) := by decide +kernel
theorem f144_134 : q_fetch 144 134 = some (.putfield 149, 3, 1158) := by decide +kernel
theorem f144_137 : q_fetch 144 137 = some (.iinc 4 (-1), 3, 0) := by decide +kernel
theorem f144_140 : q_fetch 144 140 = some (.goto (-51), 3, 89) := by decide +kernel
theorem f144_143 : q_fetch 144 143 = some (.aload_n 0, 1, 0) := by decide +kernel
theorem f144_144 : q_fetch 144 144 = some (.getfield 149, 3, 1158) := by decide +kernel
theorem f144_147 : q_fetch 144 147 = some (.ireturn, 1, 0) := by decide +kernel
theorem f145_0 : q_fetch 145 0 = some (.iload_n 0, 1, 0) := by decide +kernel
theorem f145_1 : q_fetch 145 1 = some (.iload_n 1, 1, 0) := by decide +kernel
theorem f145_2 : q_fetch 145 2 = some (.if_icmp .lt (12), 3, 14) := by decide +kernel
theorem f145_5 : q_fetch 145 5 = some (.iload_n 0, 1, 0) := by decide +kernel
theorem f145_6 : q_fetch 145 6 = some (.iload_n 2, 1, 0) := by decide +kernel
theorem f145_7 : q_fetch 145 7 = some (.if_icmp .gt (7), 3, 14) := by decide +kernel
theorem f145_10 : q_fetch 145 10 = some (.iconst 1, 1, 0) := by decide +kernel
theorem f145_11 : q_fetch 145 11 = some (.goto 4, 3, 15) := by decide +kernel
theorem f145_14 : q_fetch 145 14 = some (.iconst 0, 1, 0) := by decide +kernel
theorem f145_15 : q_fetch 145 15 = some (.ireturn, 1, 0) := by decide +kernel
theorem f146_0 : q_fetch 146 0 = some (.aload_n 0, 1, 0) := by decide +kernel
theorem f146_1 : q_fetch 146 1 = some (.iload_n 1, 1, 0) := by decide +kernel
theorem f146_2 : q_fetch 146 2 = some (.putfield 138, 3, 1152) := by decide +kernel
theorem f146_5 : q_fetch 146 5 = some (.iconst 0, 1, 0) := by decide +kernel
theorem f146_6 : q_fetch 146 6 = some (.ireturn, 1, 0) := by decide +kernel
theorem f147_0 : q_fetch 147 0 = some (.aload_n 0, 1, 0) := by decide +kernel
theorem f147_1 : q_fetch 147 1 = some (.bipush (-2), 2, 0) := by decide +kernel
theorem f147_3 : q_fetch 147 3 = some (.putfield 9, 3, 1154) := by decide +kernel
theorem f147_6 : q_fetch 147 6 = some (.aload_n 0, 1, 0) := by decide +kernel
theorem f147_7 : q_fetch 147 7 = some (.iconst 1, 1, 0) := by decide +kernel
theorem f147_8 : q_fetch 147 8 = some (.putfield 138, 3, 1152) := by decide +kernel
theorem f147_11 : q_fetch 147 11 = some (.iload_n 1, 1, 0) := by decide +kernel
theorem f147_12 : q_fetch 147 12 = some (.iconst 0, 1, 0) := by decide +kernel
theorem f147_13 : q_fetch 147 13 = some (.iconst 5, 1, 0) := by decide +kernel
theorem f147_14 : q_fetch 147 14 = some (.invokestatic 141, 3, 145) := by decide +kernel
theorem f147_17 : q_fetch 147 17 = some (.ifCond .ne (5), 3, 22) := by decide +kernel
theorem f147_20 : q_fetch 147 20 = some (.iconst 0, 1, 0) := by decide +kernel
theorem f147_21 : q_fetch 147 21 = some (.ireturn, 1, 0) := by decide +kernel
theorem f147_22 : q_fetch 147 22 = some (.aload_n 0, 1, 0) := by decide +kernel
theorem f147_23 : q_fetch 147 23 = some (.invokevirtual 278, 3, 148) := by decide +kernel
theorem f147_26 : q_fetch 147 26 = some (.istore_n 2, 1, 0) := by decide +kernel
theorem f147_27 : q_fetch 147 27 = some (.aload_n 0, 1, 0) := by decide +kernel
theorem f147_28 : q_fetch 147 28 = some (.iconst 0, 1, 0) := by decide +kernel
theorem f147_29 : q_fetch 147 29 = some (.putfield 149, 3, 1158) := by decide +kernel
theorem f147_32 : q_fetch 147 32 = some (.iload_n 2, 1, 0) := by decide +kernel
theorem f147_33 : q_fetch 147 33 = some (.ifCond .ne (5), 3, 38) := by decide +kernel
theorem f147_36 : q_fetch 147 36 = some (.iconst 0, 1, 0) := by decide +kernel
theorem f147_37 : q_fetch 147 37 = some (.ireturn, 1, 0) := by decide +kernel
theorem f147_38 : q_fetch 147 38 = some (.aload_n 0, 1, 0) := by decide +kernel
theorem f147_39 : q_fetch 147 39 = some (.iconst 0, 1, 0) := by decide +kernel
theorem f147_40 : q_fetch 147 40 = some (.putfield 138, 3, 1152) := by decide +kernel
theorem f147_43 : q_fetch 147 43 = some (.aload_n 0, 1, 0) := by decide +kernel
theorem f147_44 : q_fetch 147 44 = some (.iload_n 1, 1, 0) := by decide +kernel
theorem f147_45 : q_fetch 147 45 = some (.invokevirtual 281, 3, 173) := by decide +kernel
theorem f147_48 : q_fetch 147 48 = some (.aload_n 0, 1, 0) := by decide +kernel
theorem f147_49 : q_fetch 147 49 = some (.getfield 26, 3, 1167) := by decide +kernel
theorem f147_52 : q_fetch 147 52 = some (.iload_n 1, 1, 0) := by decide +kernel
theorem f147_53 : q_fetch 147 53 = some (.iaload, 1, 0) := by decide +kernel
theorem f147_54 : q_fetch 147 54 = some (.ireturn, 1, 0) := by decide +kernel
theorem f148_0 : q_fetch 148 0 = some (.aload_n 0, 1, 0) := by decide +kernel
theorem f148_1 : q_fetch 148 1 = some (.invokevirtual 232, 3, 149) := by decide +kernel
theorem f148_4 : q_fetch 148 4 = some (.aload_n 0, 1, 0) := by decide +kernel
theorem f148_5 : q_fetch 148 5 = some (.iconst 0, 1, 0) := by decide +kernel
theorem f148_6 : q_fetch 148 6 = some (.putfield 209, 3, 1216) := by decide +kernel
theorem f148_9 : q_fetch 148 9 = some (.aload_n 0, 1, 0) := by decide +kernel
theorem f148_10 : q_fetch 148 10 = some (.getfield 44, 3, 1179) := by decide +kernel
theorem f148_13 : q_fetch 148 13 = some (.bipush 6, 2, 0) := by decide +kernel
theorem f148_15 : q_fetch 148 15 = some (.iconst 0, 1, 0) := by decide +kernel
theorem f148_16 : q_fetch 148 16 = some (.iastore, 1, 0) := by decide +kernel
theorem f148_17 : q_fetch 148 17 = some (.aload_n 0, 1, 0) := by decide +kernel
theorem f148_18 : q_fetch 148 18 = some (.getfield 63, 3, 1191) := by decide +kernel
theorem f148_21 : q_fetch 148 21 = some (.bipush 6, 2, 0) := by decide +kernel
theorem f148_23 : q_fetch 148 23 = some (.iconst 0, 1, 0) := by decide +kernel
theorem f148_24 : q_fetch 148 24 = some (.iastore, 1, 0) := by decide +kernel
theorem f148_25 : q_fetch 148 25 = some (.aload_n 0, 1, 0) := by decide +kernel
theorem f148_26 : q_fetch 148 26 = some (.invokevirtual 235, 3, 156) := by decide +kernel
theorem f148_29 : q_fetch 148 29 = some (.ifCond .ne (5), 3, 34) := by decide +kernel
theorem f148_32 : q_fetch 148 32 = some (.iconst 0, 1, 0) := by decide +kernel
theorem f148_33 : q_fetch 148 33 = some (.ireturn, 1, 0) := by decide +kernel
theorem f148_34 : q_fetch 148 34 = some (.aload_n 0, 1, 0) := by decide +kernel
theorem f148_35 : q_fetch 148 35 = some (.getfield 209, 3, 1216) := by decide +kernel
theorem f148_38 : q_fetch 148 38 = some (.aload_n 0, 1, 0) := by decide +kernel
theorem f148_39 : q_fetch 148 39 = some (.getfield 26, 3, 1167) := by decide +kernel
theorem f148_42 : q_fetch 148 42 = some (.bipush 6, 2, 0) := by decide +kernel
theorem f148_44 : q_fetch 148 44 = some (.iaload, 1, 0) := by decide +kernel
theorem f148_45 : q_fetch 148 45 = some (.if_icmp .ge (110), 3, 155) := by decide +kernel
theorem f148_48 : q_fetch 148 48 = some (.aload_n 0, 1, 0) := by decide +kernel
theorem f148_49 : q_fetch 148 49 = some (.invokevirtual 212, 3, 157) := by decide +kernel
theorem f148_52 : q_fetch 148 52 = some (.sipush 302, 3, 0) := by decide +kernel
theorem f148_55 : q_fetch 148 55 = some (.if_icmp .eq (18), 3, 73) := by decide +kernel
theorem f148_58 : q_fetch 148 58 = some (.aload_n 0, 1, 0) := by decide +kernel
theorem f148_59 : q_fetch 148 59 = some (.invokevirtual 212, 3, 157) := by decide +kernel
theorem f148_62 : q_fetch 148 62 = some (.sipush 303, 3, 0) := by decide +kernel
theorem f148_65 : q_fetch 148 65 = some (.if_icmp .eq (8), 3, 73) := by decide +kernel
theorem f148_68 : q_fetch 148 68 = some (.aload_n 0, 1, 0) := by decide +kernel
theorem f148_69 : q_fetch 148 69 = some (.invokevirtual 216, 3, 158) := by decide +kernel
theorem f148_72 : q_fetch 148 72 = some (.ireturn, 1, 0) := by decide +kernel
theorem f148_73 : q_fetch 148 73 = some (.bipush 120, 2, 0) := by decide +kernel
theorem f148_75 : q_fetch 148 75 = some (.aload_n 0, 1, 0) := by decide +kernel
theorem f148_76 : q_fetch 148 76 = some (.getfield 63, 3, 1191) := by decide +kernel
theorem f148_79 : q_fetch 148 79 = some (.bipush 6, 2, 0) := by decide +kernel
theorem f148_81 : q_fetch 148 81 = some (.iaload, 1, 0) := by decide +kernel
theorem f148_82 : q_fetch 148 82 = some (.iadd, 1, 0) := by decide +kernel
theorem f148_83 : q_fetch 148 83 = some (.istore_n 1, 1, 0) := by decide +kernel
theorem f148_84 : q_fetch 148 84 = some (.aload_n 0, 1, 0) := by decide +kernel
theorem f148_85 : q_fetch 148 85 = some (.getfield 66, 3, 1193) := by decide +kernel
theorem f148_88 : q_fetch 148 88 = some (.iload_n 1, 1, 0) := by decide +kernel
theorem f148_89 : q_fetch 148 89 = some (.aload_n 0, 1, 0) := by decide +kernel
theorem f148_90 : q_fetch 148 90 = some (.getfield 209, 3, 1216) := by decide +kernel
theorem f148_93 : q_fetch 148 93 = some (.iastore, 1, 0) := by decide +kernel
theorem f148_94 : q_fetch 148 94 = some (.aload_n 0, 1, 0) := by decide +kernel
theorem f148_95 : q_fetch 148 95 = some (.dup, 1, 0) := by decide +kernel
theorem f148_96 : q_fetch 148 96 = some (.getfield 209, 3, 1216) := by decide +kernel
theorem f148_99 : q_fetch 148 99 = some (.iconst 1, 1, 0) := by decide +kernel
theorem f148_100 : q_fetch 148 100 = some (.iadd, 1, 0) := by decide +kernel
theorem f148_101 : q_fetch 148 101 = some (.putfield 209, 3, 1216) := by decide +kernel
theorem f148_104 : q_fetch 148 104 = some (.aload_n 0, 1, 0) := by decide +kernel
theorem f148_105 : q_fetch 148 105 = some (.bipush 123, 2, 0) := by decide +kernel
theorem f148_107 : q_fetch 148 107 = some (.invokevirtual 223, 3, 159) := by decide +kernel
theorem f148_110 : q_fetch 148 110 = some (.ifCond .eq (19), 3, 129) := by decide +kernel
theorem f148_113 : q_fetch 148 113 = some (.aload_n 0, 1, 0) := by decide +kernel
theorem f148_114 : q_fetch 148 114 = some (.invokevirtual 238, 3, 163) := by decide +kernel
theorem f148_117 : q_fetch 148 117 = some (.ifCond .eq (12), 3, 129) := by decide +kernel
theorem f148_120 : q_fetch 148 120 = some (.aload_n 0, 1, 0) := by decide +kernel
theorem f148_121 : q_fetch 148 121 = some (.bipush 125, 2, 0) := by decide +kernel
theorem f148_123 : q_fetch 148 123 = some (.invokevirtual 223, 3, 159) := by decide +kernel
theorem f148_126 : q_fetch 148 126 = some (.ifCond .ne (5), 3, 131) := by decide +kernel
theorem f148_129 : q_fetch 148 129 = some (.iconst 0, 1, 0) := by decide +kernel
theorem f148_130 : q_fetch 148 130 = some (.ireturn, 1, 0) := by decide +kernel
theorem f148_131 : q_fetch 148 131 = some (.aload_n 0, 1, 0) := by decide +kernel
theorem f148_132 : q_fetch 148 132 = some (.getfield 69, 3, 1195) := by decide +kernel
theorem f148_135 : q_fetch 148 135 = some (.iload_n 1, 1, 0) := by decide +kernel
theorem f148_136 : q_fetch 148 136 = some (.aload_n 0, 1, 0) := by decide +kernel
theorem f148_137 : q_fetch 148 137 = some (.getfield 241, 3, 1218) := by decide +kernel
theorem f148_140 : q_fetch 148 140 = some (.iastore, 1, 0) := by decide +kernel
theorem f148_141 : q_fetch 148 141 = some (.aload_n 0, 1, 0) := by decide +kernel
theorem f148_142 : q_fetch 148 142 = some (.getfield 63, 3, 1191) := by decide +kernel
theorem f148_145 : q_fetch 148 145 = some (.bipush 6, 2, 0) := by decide +kernel
theorem f148_147 : q_fetch 148 147 = some (.dup2, 1, 0) := by decide +kernel
theorem f148_148 : q_fetch 148 148 = some (.iaload, 1, 0) := by decide +kernel
theorem f148_149 : q_fetch 148 149 = some (.iconst 1, 1, 0) := by decide +kernel
theorem f148_150 : q_fetch 148 150 = some (.iadd, 1, 0) := by decide +kernel
theorem f148_151 : q_fetch 148 151 = some (.iastore, 1, 0) := by decide +kernel
theorem f148_152 : q_fetch 148 152 = some (.goto (-118), 3, 34) := by decide +kernel
theorem f148_155 : q_fetch 148 155 = some (.iconst 1, 1, 0) := by decide +kernel
theorem f148_156 : q_fetch 148 156 = some (.ireturn, 1, 0) := by decide +kernel
theorem f149_0 : q_fetch 149 0 = some (.iconst 0, 1, 0) := by decide +kernel
theorem f149_1 : q_fetch 149 1 = some (.istore_n 1, 1, 0) := by decide +kernel
theorem f149_2 : q_fetch 149 2 = some (.aload_n 0, 1, 0) := by decide +kernel
theorem f149_3 : q_fetch 149 3 = some (.getfield 26, 3, 1167) := by decide +kernel
theorem f149_6 : q_fetch 149 6 = some (.bipush 6, 2, 0) := by decide +kernel
theorem f149_8 : q_fetch 149 8 = some (.iconst 0, 1, 0) := by decide +kernel
theorem f149_9 : q_fetch 149 9 = some (.iastore, 1, 0) := by decide +kernel
theorem f149_10 : q_fetch 149 10 = some (.iload_n 1, 1, 0) := by decide +kernel
theorem f149_11 : q_fetch 149 11 = some (.aload_n 0, 1, 0) := by decide +kernel
theorem f149_12 : q_fetch 149 12 = some (.getfield 149, 3, 1158) := by decide +kernel
theorem f149_15 : q_fetch 149 15 = some (.if_icmp .ge (56), 3, 71) := by decide +kernel
theorem f149_18 : q_fetch 149 18 = some (.aload_n 0, 1, 0) := by decide +kernel
theorem f149_19 : q_fetch 149 19 = some (.getfield 13, 3, 1157) := by decide +kernel
theorem f149_22 : q_fetch 149 22 = some (.iload_n 1, 1, 0) := by decide +kernel
theorem f149_23 : q_fetch 149 23 = some (.iaload, 1, 0) := by decide +kernel
theorem f149_24 : q_fetch 149 24 = some (.bipush 32, 2, 0) := by decide +kernel
theorem f149_26 : q_fetch 149 26 = some (.if_icmp .ne (9), 3, 35) := by decide +kernel
theorem f149_29 : q_fetch 149 29 = some (.iinc 1 1, 3, 0) := by decide +kernel
theorem f149_32 : q_fetch 149 32 = some (.goto (-22), 3, 10) := by decide +kernel
theorem f149_35 : q_fetch 149 35 = some (.aload_n 0, 1, 0) := by decide +kernel
theorem f149_36 : q_fetch 149 36 = some (.iload_n 1, 1, 0) := by decide +kernel
theorem f149_37 : q_fetch 149 37 = some (.invokevirtual 206, 3, 150) := by decide +kernel
theorem f149_40 : q_fetch 149 40 = some (.istore_n 1, 1, 0) := by decide +kernel
theorem f149_41 : q_fetch 149 41 = some (.aload_n 0, 1, 0) := by decide +kernel
theorem f149_42 : q_fetch 149 42 = some (.getfield 17, 3, 1161) := by decide +kernel
theorem f149_45 : q_fetch 149 45 = some (.sipush 606, 3, 0) := by decide +kernel
theorem f149_48 : q_fetch 149 48 = some (.aload_n 0, 1, 0) := by decide +kernel
theorem f149_49 : q_fetch 149 49 = some (.getfield 26, 3, 1167) := by decide +kernel
theorem f149_52 : q_fetch 149 52 = some (.bipush 6, 2, 0) := by decide +kernel
theorem f149_54 : q_fetch 149 54 = some (.iaload, 1, 0) := by decide +kernel
theorem f149_55 : q_fetch 149 55 = some (.iadd, 1, 0) := by decide +kernel
theorem f149_56 : q_fetch 149 56 = some (.iconst 1, 1, 0) := by decide +kernel
theorem f149_57 : q_fetch 149 57 = some (.isub, 1, 0) := by decide +kernel
theorem f149_58 : q_fetch 149 58 = some (.iaload, 1, 0) := by decide +kernel
theorem f149_59 : q_fetch 149 59 = some (.iconst 3, 1, 0) := by decide +kernel
theorem f149_60 : q_fetch 149 60 = some (.if_icmp .ne (-50), 3, 10) := by decide +kernel
theorem f149_63 : q_fetch 149 63 = some (.aload_n 0, 1, 0) := by decide +kernel
theorem f149_64 : q_fetch 149 64 = some (.getfield 149, 3, 1158) := by decide +kernel
theorem f149_67 : q_fetch 149 67 = some (.istore_n 1, 1, 0) := by decide +kernel
theorem f149_68 : q_fetch 149 68 = some (.goto (-58), 3, 10) := by decide +kernel
theorem f149_71 : q_fetch 149 71 = some (.return_, 1, 0) := by decide +kernel
theorem f150_0 : q_fetch 150 0 = some (.aload_n 0, 1, 0) := by decide +kernel
theorem f150_1 : q_fetch 150 1 = some (.iload_n 1, 1, 0) := by decide +kernel
theorem f150_2 : q_fetch 150 2 = some (.invokevirtual 188, 3, 151) := by decide +kernel
theorem f150_5 : q_fetch 150 5 = some (.istore_n 2, 1, 0) := by decide +kernel
theorem f150_6 : q_fetch 150 6 = some (.aload_n 0, 1, 0) := by decide +kernel
theorem f150_7 : q_fetch 150 7 = some (.iload_n 1, 1, 0) := by decide +kernel
theorem f150_8 : q_fetch 150 8 = some (.iconst 1, 1, 0) := by decide +kernel
theorem f150_9 : q_fetch 150 9 = some (.iadd, 1, 0) := by decide +kernel
theorem f150_10 : q_fetch 150 10 = some (.invokevirtual 188, 3, 151) := by decide +kernel
theorem f150_13 : q_fetch 150 13 = some (.istore_n 3, 1, 0) := by decide +kernel
theorem f150_14 : q_fetch 150 14 = some (.iload_n 1, 1, 0) := by decide +kernel
theorem f150_15 : q_fetch 150 15 = some (.istore 4, 2, 0) := by decide +kernel
theorem f150_17 : q_fetch 150 17 = some (.iconst 0, 1, 0) := by decide +kernel
theorem f150_18 : q_fetch 150 18 = some (.istore 5, 2, 0) := by decide +kernel
theorem f150_20 : q_fetch 150 20 = some (.lconst 0, 1, 0) := by decide +kernel
theorem f150_21 : q_fetch 150 21 = some (.lstore 6, 2, 0) := by decide +kernel
theorem f150_23 : q_fetch 150 23 = some (.iload_n 2, 1, 0) := by decide +kernel
theorem f150_24 : q_fetch 150 24 = some (.invokestatic 191, 3, 152) := by decide +kernel
theorem f150_27 : q_fetch 150 27 = some (.ifCond .eq (71), 3, 98) := by decide +kernel
theorem f150_30 : q_fetch 150 30 = some (.iload 4, 2, 0) := by decide +kernel
theorem f150_32 : q_fetch 150 32 = some (.iload_n 1, 1, 0) := by decide +kernel
theorem f150_33 : q_fetch 150 33 = some (.bipush 7, 2, 0) := by decide +kernel
theorem f150_35 : q_fetch 150 35 = some (.iadd, 1, 0) := by decide +kernel
theorem f150_36 : q_fetch 150 36 = some (.if_icmp .ge (38), 3, 74) := by decide +kernel
theorem f150_39 : q_fetch 150 39 = some (.aload_n 0, 1, 0) := by decide +kernel
theorem f150_40 : q_fetch 150 40 = some (.iload 4, 2, 0) := by decide +kernel
theorem f150_42 : q_fetch 150 42 = some (.invokevirtual 188, 3, 151) := by decide +kernel
theorem f150_45 : q_fetch 150 45 = some (.invokestatic 191, 3, 152) := by decide +kernel
theorem f150_48 : q_fetch 150 48 = some (.ifCond .eq (26), 3, 74) := by decide +kernel
theorem f150_51 : q_fetch 150 51 = some (.bipush 10, 2, 0) := by decide +kernel
theorem f150_53 : q_fetch 150 53 = some (.iload 5, 2, 0) := by decide +kernel
theorem f150_55 : q_fetch 150 55 = some (.imul, 1, 0) := by decide +kernel
theorem f150_56 : q_fetch 150 56 = some (.aload_n 0, 1, 0) := by decide +kernel
theorem f150_57 : q_fetch 150 57 = some (.iload 4, 2, 0) := by decide +kernel
theorem f150_59 : q_fetch 150 59 = some (.invokevirtual 188, 3, 151) := by decide +kernel
theorem f150_62 : q_fetch 150 62 = some (.iadd, 1, 0) := by decide +kernel
theorem f150_63 : q_fetch 150 63 = some (.bipush 48, 2, 0) := by decide +kernel
theorem f150_65 : q_fetch 150 65 = some (.isub, 1, 0) := by decide +kernel
theorem f150_66 : q_fetch 150 66 = some (.istore 5, 2, 0) := by decide +kernel
theorem f150_68 : q_fetch 150 68 = some (.iinc 4 1, 3, 0) := by decide +kernel
theorem f150_71 : q_fetch 150 71 = some (.goto (-41), 3, 30) := by decide +kernel
theorem f150_74 : q_fetch 150 74 = some (.aload_n 0, 1, 0) := by decide +kernel
theorem f150_75 : q_fetch 150 75 = some (.iload 4, 2, 0) := by decide +kernel
theorem f150_77 : q_fetch 150 77 = some (.iload_n 1, 1, 0) := by decide +kernel
theorem f150_78 : q_fetch 150 78 = some (.bipush 6, 2, 0) := by decide +kernel
theorem f150_80 : q_fetch 150 80 = some (.iadd, 1, 0) := by decide +kernel
theorem f150_81 : q_fetch 150 81 = some (.if_icmp .le (7), 3, 88) := by decide +kernel
theorem f150_84 : q_fetch 150 84 = some (.iconst 3, 1, 0) := by decide +kernel
theorem f150_85 : q_fetch 150 85 = some (.goto 4, 3, 89) := by decide +kernel
theorem f150_88 : q_fetch 150 88 = some (.iconst 1, 1, 0) := by decide +kernel
theorem f150_89 : q_fetch 150 89 = some (.iload 5, 2, 0) := by decide +kernel
theorem f150_91 : q_fetch 150 91 = some (.iload_n 1, 1, 0) := by decide +kernel
theorem f150_92 : q_fetch 150 92 = some (.invokevirtual 195, 3, 153) := by decide +kernel
theorem f150_95 : q_fetch 150 95 = some (.goto 340, 3, 435) := by decide +kernel
theorem f150_98 : q_fetch 150 98 = some (.iload_n 2, 1, 0) := by decide +kernel
theorem f150_99 : q_fetch 150 99 = some (.bipush 97, 2, 0) := by decide +kernel
theorem f150_101 : q_fetch 150 101 = some (.bipush 122, 2, 0) := by decide +kernel
theorem f150_103 : q_fetch 150 103 = some (.invokestatic 141, 3, 145) := by decide +kernel
theorem f150_106 : q_fetch 150 106 = some (.ifCond .eq (68), 3, 174) := by decide +kernel
theorem f150_109 : q_fetch 150 109 = some (.aload_n 0, 1, 0) := by decide +kernel
theorem f150_110 : q_fetch 150 110 = some (.iload 4, 2, 0) := by decide +kernel
theorem f150_112 : q_fetch 150 112 = some (.invokevirtual 188, 3, 151) := by decide +kernel
theorem f150_115 : q_fetch 150 115 = some (.bipush 97, 2, 0) := by decide +kernel
theorem f150_117 : q_fetch 150 117 = some (.bipush 122, 2, 0) := by decide +kernel
theorem f150_119 : q_fetch 150 119 = some (.invokestatic 141, 3, 145) := by decide +kernel
theorem f150_122 : q_fetch 150 122 = some (.ifCond .eq (37), 3, 159) := by decide +kernel
theorem f150_125 : q_fetch 150 125 = some (.iload 4, 2, 0) := by decide +kernel
theorem f150_127 : q_fetch 150 127 = some (.iload_n 1, 1, 0) := by decide +kernel
theorem f150_128 : q_fetch 150 128 = some (.bipush 7, 2, 0) := by decide +kernel
theorem f150_130 : q_fetch 150 130 = some (.iadd, 1, 0) := by decide +kernel
theorem f150_131 : q_fetch 150 131 = some (.if_icmp .ge (19), 3, 150) := by decide +kernel
theorem f150_134 : q_fetch 150 134 = some (.lload 6, 2, 0) := by decide +kernel
theorem f150_136 : q_fetch 150 136 = some (.bipush 8, 2, 0) := by decide +kernel
theorem f150_138 : q_fetch 150 138 = some (.lshl, 1, 0) := by decide +kernel
theorem f150_139 : q_fetch 150 139 = some (.aload_n 0, 1, 0) := by decide +kernel
theorem f150_140 : q_fetch 150 140 = some (.iload 4, 2, 0) := by decide +kernel
theorem f150_142 : q_fetch 150 142 = some (.invokevirtual 188, 3, 151) := by decide +kernel
theorem f150_145 : q_fetch 150 145 = some (.i2l, 1, 0) := by decide +kernel
theorem f150_146 : q_fetch 150 146 = some (.lor, 1, 0) := by decide +kernel
theorem f150_147 : q_fetch 150 147 = some (.goto 4, 3, 151) := by decide +kernel
theorem f150_150 : q_fetch 150 150 = some (.lconst 0, 1, 0) := by decide +kernel
theorem f150_151 : q_fetch 150 151 = some (.lstore 6, 2, 0) := by decide +kernel
theorem f150_153 : q_fetch 150 153 = some (.iinc 4 1, 3, 0) := by decide +kernel
theorem f150_156 : q_fetch 150 156 = some (.goto (-47), 3, 109) := by decide +kernel
theorem f150_159 : q_fetch 150 159 = some (.aload_n 0, 1, 0) := by decide +kernel
theorem f150_160 : q_fetch 150 160 = some (.aload_n 0, 1, 0) := by decide +kernel
theorem f150_161 : q_fetch 150 161 = some (.lload 6, 2, 0) := by decide +kernel
theorem f150_163 : q_fetch 150 163 = some (.invokevirtual 199, 3, 154) := by decide +kernel
theorem f150_166 : q_fetch 150 166 = some (.iconst 0, 1, 0) := by decide +kernel
theorem f150_167 : q_fetch 150 167 = some (.iload_n 1, 1, 0) := by decide +kernel
theorem f150_168 : q_fetch 150 168 = some (.invokevirtual 195, 3, 153) := by decide +kernel
theorem f150_171 : q_fetch 150 171 = some (.goto 264, 3, 435) := by decide +kernel
theorem f150_174 : q_fetch 150 174 = some (.iload_n 2, 1, 0) := by decide +kernel
theorem f150_175 : q_fetch 150 175 = some (.bipush 64, 2, 0) := by decide +kernel
theorem f150_177 : q_fetch 150 177 = some (.if_icmp .ne (87), 3, 264) := by decide +kernel
theorem f150_180 : q_fetch 150 180 = some (.iinc 4 1, 3, 0) := by decide +kernel
theorem f150_183 : q_fetch 150 183 = some (.aload_n 0, 1, 0) := by decide +kernel
theorem f150_184 : q_fetch 150 184 = some (.iload 4, 2, 0) := by decide +kernel
theorem f150_186 : q_fetch 150 186 = some (.invokevirtual 188, 3, 151) := by decide +kernel
theorem f150_189 : q_fetch 150 189 = some (.invokestatic 191, 3, 152) := by decide +kernel
theorem f150_192 : q_fetch 150 192 = some (.ifCond .eq (34), 3, 226) := by decide +kernel
theorem f150_195 : q_fetch 150 195 = some (.iload 4, 2, 0) := by decide +kernel
theorem f150_197 : q_fetch 150 197 = some (.iload_n 1, 1, 0) := by decide +kernel
theorem f150_198 : q_fetch 150 198 = some (.iconst 3, 1, 0) := by decide +kernel
theorem f150_199 : q_fetch 150 199 = some (.iadd, 1, 0) := by decide +kernel
theorem f150_200 : q_fetch 150 200 = some (.if_icmp .ge (20), 3, 220) := by decide +kernel
theorem f150_203 : q_fetch 150 203 = some (.bipush 10, 2, 0) := by decide +kernel
theorem f150_205 : q_fetch 150 205 = some (.iload 5, 2, 0) := by decide +kernel
theorem f150_207 : q_fetch 150 207 = some (.imul, 1, 0) := by decide +kernel
theorem f150_208 : q_fetch 150 208 = some (.aload_n 0, 1, 0) := by decide +kernel
theorem f150_209 : q_fetch 150 209 = some (.iload 4, 2, 0) := by decide +kernel
theorem f150_211 : q_fetch 150 211 = some (.invokevirtual 188, 3, 151) := by decide +kernel
theorem f150_214 : q_fetch 150 214 = some (.iadd, 1, 0) := by decide +kernel
theorem f150_215 : q_fetch 150 215 = some (.bipush 48, 2, 0) := by decide +kernel
theorem f150_217 : q_fetch 150 217 = some (.isub, 1, 0) := by decide +kernel
theorem f150_218 : q_fetch 150 218 = some (.istore 5, 2, 0) := by decide +kernel
theorem f150_220 : q_fetch 150 220 = some (.iinc 4 1, 3, 0) := by decide +kernel
theorem f150_223 : q_fetch 150 223 = some (.goto (-40), 3, 183) := by decide +kernel
theorem f150_226 : q_fetch 150 226 = some (.aload_n 0, 1, 0) := by decide +kernel
theorem f150_227 : q_fetch 150 227 = some (.iload 4, 2, 0) := by decide +kernel
theorem f150_229 : q_fetch 150 229 = some (.iload_n 1, 1, 0) := by decide +kernel
theorem f150_230 : q_fetch 150 230 = some (.iconst 1, 1, 0) := by decide +kernel
theorem f150_231 : q_fetch 150 231 = some (.iadd, 1, 0) := by decide +kernel
theorem f150_232 : q_fetch 150 232 = some (.if_icmp .eq (18), 3, 250) := by decide +kernel
theorem f150_235 : q_fetch 150 235 = some (.iload 4, 2, 0) := by decide +kernel
theorem f150_237 : q_fetch 150 237 = some (.iload_n 1, 1, 0) := by decide +kernel
theorem f150_238 : q_fetch 150 238 = some (.iconst 3, 1, 0) := by decide +kernel
theorem f150_239 : q_fetch 150 239 = some (.iadd, 1, 0) := by decide +kernel
theorem f150_240 : q_fetch 150 240 = some (.if_icmp .gt (10), 3, 250) := by decide +kernel
theorem f150_243 : q_fetch 150 243 = some (.iload 5, 2, 0) := by decide +kernel
theorem f150_245 : q_fetch 150 245 = some (.bipush 15, 2, 0) := by decide +kernel
theorem f150_247 : q_fetch 150 247 = some (.if_icmp .le (7), 3, 254) := by decide +kernel
theorem f150_250 : q_fetch 150 250 = some (.iconst 3, 1, 0) := by decide +kernel
theorem f150_251 : q_fetch 150 251 = some (.goto 4, 3, 255) := by decide +kernel
theorem f150_254 : q_fetch 150 254 = some (.iconst 2, 1, 0) := by decide +kernel
theorem f150_255 : q_fetch 150 255 = some (.iload 5, 2, 0) := by decide +kernel
theorem f150_257 : q_fetch 150 257 = some (.iload_n 1, 1, 0) := by decide +kernel
theorem f150_258 : q_fetch 150 258 = some (.invokevirtual 195, 3, 153) := by decide +kernel
theorem f150_261 : q_fetch 150 261 = some (.goto 174, 3, 435) := by decide +kernel
theorem f150_264 : q_fetch 150 264 = some (.iload_n 2, 1, 0) := by decide +kernel
theorem f150_265 : q_fetch 150 265 = some (.invokestatic 203, 3, 155) := by decide +kernel
theorem f150_268 : q_fetch 150 268 = some (.ifCond .eq (16), 3, 284) := by decide +kernel
theorem f150_271 : q_fetch 150 271 = some (.aload_n 0, 1, 0) := by decide +kernel
theorem f150_272 : q_fetch 150 272 = some (.iload_n 2, 1, 0) := by decide +kernel
theorem f150_273 : q_fetch 150 273 = some (.iconst 0, 1, 0) := by decide +kernel
theorem f150_274 : q_fetch 150 274 = some (.iload_n 1, 1, 0) := by decide +kernel
theorem f150_275 : q_fetch 150 275 = some (.invokevirtual 195, 3, 153) := by decide +kernel
theorem f150_278 : q_fetch 150 278 = some (.iinc 4 1, 3, 0) := by decide +kernel
theorem f150_281 : q_fetch 150 281 = some (.goto 154, 3, 435) := by decide +kernel
theorem f150_284 : q_fetch 150 284 = some (.iload_n 2, 1, 0) := by decide +kernel
theorem f150_285 : q_fetch 150 285 = some (.bipush 61, 2, 0) := by decide +kernel
theorem f150_287 : q_fetch 150 287 = some (.if_icmp .eq (15), 3, 302) := by decide +kernel
theorem f150_290 : q_fetch 150 290 = some (.iload_n 2, 1, 0) := by decide +kernel
theorem f150_291 : q_fetch 150 291 = some (.bipush 38, 2, 0) := by decide +kernel
theorem f150_293 : q_fetch 150 293 = some (.if_icmp .eq (9), 3, 302) := by decide +kernel
theorem f150_296 : q_fetch 150 296 = some (.iload_n 2, 1, 0) := by decide +kernel
theorem f150_297 : q_fetch 150 297 = some (.bipush 124, 2, 0) := by decide +kernel
theorem f150_299 : q_fetch 150 299 = some (.if_icmp .ne (51), 3, 350) := by decide +kernel
theorem f150_302 : q_fetch 150 302 = some (.aload_n 0, 1, 0) := by decide +kernel
theorem f150_303 : q_fetch 150 303 = some (.iload_n 3, 1, 0) := by decide +kernel
theorem f150_304 : q_fetch 150 304 = some (.iload_n 2, 1, 0) := by decide +kernel
theorem f150_305 : q_fetch 150 305 = some (.if_icmp .eq (7), 3, 312) := by decide +kernel
theorem f150_308 : q_fetch 150 308 = some (.iconst 3, 1, 0) := by decide +kernel
theorem f150_309 : q_fetch 150 309 = some (.goto 30, 3, 339) := by decide +kernel
theorem f150_312 : q_fetch 150 312 = some (.iload_n 2, 1, 0) := by decide +kernel
theorem f150_313 : q_fetch 150 313 = some (.bipush 61, 2, 0) := by decide +kernel
theorem f150_315 : q_fetch 150 315 = some (.if_icmp .ne (9), 3, 324) := by decide +kernel
theorem f150_318 : q_fetch 150 318 = some (.sipush 200, 3, 0) := by decide +kernel
theorem f150_321 : q_fetch 150 321 = some (.goto 18, 3, 339) := by decide +kernel
theorem f150_324 : q_fetch 150 324 = some (.iload_n 2, 1, 0) := by decide +kernel
theorem f150_325 : q_fetch 150 325 = some (.bipush 38, 2, 0) := by decide +kernel
theorem f150_327 : q_fetch 150 327 = some (.if_icmp .ne (9), 3, 336) := by decide +kernel
theorem f150_330 : q_fetch 150 330 = some (.sipush 204, 3, 0) := by decide +kernel
theorem f150_333 : q_fetch 150 333 = some (.goto 6, 3, 339) := by decide +kernel
theorem f150_336 : q_fetch 150 336 = some (.sipush 205, 3, 0) := by decide +kernel
theorem f150_339 : q_fetch 150 339 = some (.iconst 0, 1, 0) := by decide +kernel
theorem f150_340 : q_fetch 150 340 = some (.iload_n 1, 1, 0) := by decide +kernel
theorem f150_341 : q_fetch 150 341 = some (.invokevirtual 195, 3, 153) := by decide +kernel
theorem f150_344 : q_fetch 150 344 = some (.iinc 4 2, 3, 0) := by decide +kernel
theorem f150_347 : q_fetch 150 347 = some (.goto 88, 3, 435) := by decide +kernel
theorem f150_350 : q_fetch 150 350 = some (.iload_n 2, 1, 0) := by decide +kernel
theorem f150_351 : q_fetch 150 351 = some (.bipush 33, 2, 0) := by decide +kernel
theorem f150_353 : q_fetch 150 353 = some (.if_icmp .eq (9), 3, 362) := by decide +kernel
theorem f150_356 : q_fetch 150 356 = some (.iload_n 2, 1, 0) := by decide +kernel
theorem f150_357 : q_fetch 150 357 = some (.bipush 60, 2, 0) := by decide +kernel
theorem f150_359 : q_fetch 150 359 = some (.if_icmp .ne (66), 3, 425) := by decide +kernel
theorem f150_362 : q_fetch 150 362 = some (.aload_n 0, 1, 0) := by decide +kernel
theorem f150_363 : q_fetch 150 363 = some (.iload_n 3, 1, 0) := by decide +kernel
theorem f150_364 : q_fetch 150 364 = some (.bipush 61, 2, 0) := by decide +kernel
theorem f150_366 : q_fetch 150 366 = some (.if_icmp .ne (21), 3, 387) := by decide +kernel
theorem f150_369 : q_fetch 150 369 = some (.iload_n 2, 1, 0) := by decide +kernel
theorem f150_370 : q_fetch 150 370 = some (.bipush 33, 2, 0) := by decide +kernel
theorem f150_372 : q_fetch 150 372 = some (.if_icmp .ne (9), 3, 381) := by decide +kernel
theorem f150_375 : q_fetch 150 375 = some (.sipush 201, 3, 0) := by decide +kernel
theorem f150_378 : q_fetch 150 378 = some (.goto 23, 3, 401) := by decide +kernel
theorem f150_381 : q_fetch 150 381 = some (.sipush 203, 3, 0) := by decide +kernel
theorem f150_384 : q_fetch 150 384 = some (.goto 17, 3, 401) := by decide +kernel
theorem f150_387 : q_fetch 150 387 = some (.iload_n 2, 1, 0) := by decide +kernel
theorem f150_388 : q_fetch 150 388 = some (.bipush 33, 2, 0) := by decide +kernel
theorem f150_390 : q_fetch 150 390 = some (.if_icmp .ne (8), 3, 398) := by decide +kernel
theorem f150_393 : q_fetch 150 393 = some (.bipush 33, 2, 0) := by decide +kernel
theorem f150_395 : q_fetch 150 395 = some (.goto 6, 3, 401) := by decide +kernel
theorem f150_398 : q_fetch 150 398 = some (.sipush 202, 3, 0) := by decide +kernel
theorem f150_401 : q_fetch 150 401 = some (.iconst 0, 1, 0) := by decide +kernel
theorem f150_402 : q_fetch 150 402 = some (.iload_n 1, 1, 0) := by decide +kernel
theorem f150_403 : q_fetch 150 403 = some (.invokevirtual 195, 3, 153) := by decide +kernel
theorem f150_406 : q_fetch 150 406 = some (.iload 4, 2, 0) := by decide +kernel
theorem f150_408 : q_fetch 150 408 = some (.iload_n 3, 1, 0) := by decide +kernel
theorem f150_409 : q_fetch 150 409 = some (.bipush 61, 2, 0) := by decide +kernel
theorem f150_411 : q_fetch 150 411 = some (.if_icmp .ne (7), 3, 418) := by decide +kernel
theorem f150_414 : q_fetch 150 414 = some (.iconst 2, 1, 0) := by decide +kernel
theorem f150_415 : q_fetch 150 415 = some (.goto 4, 3, 419) := by decide +kernel
theorem f150_418 : q_fetch 150 418 = some (.iconst 1, 1, 0) := by decide +kernel
theorem f150_419 : q_fetch 150 419 = some (.iadd, 1, 0) := by decide +kernel
theorem f150_420 : q_fetch 150 420 = some (.istore 4, 2, 0) := by decide +kernel
theorem f150_422 : q_fetch 150 422 = some (.goto 13, 3, 435) := by decide +kernel
theorem f150_425 : q_fetch 150 425 = some (.aload_n 0, 1, 0) := by decide +kernel
theorem f150_426 : q_fetch 150 426 = some (.iconst 3, 1, 0) := by decide +kernel
theorem f150_427 : q_fetch 150 427 = some (.iconst 0, 1, 0) := by decide +kernel
theorem f150_428 : q_fetch 150 428 = some (.iload_n 1, 1, 0) := by decide +kernel
theorem f150_429 : q_fetch 150 429 = some (.invokevirtual 195, 3, 153) := by decide +kernel
theorem f150_432 : q_fetch 150 432 = some (.iinc 4 1, 3, 0) := by decide +kernel
theorem f150_435 : q_fetch 150 435 = some (.iload 4, 2, 0) := by decide +kernel
theorem f150_437 : q_fetch 150 437 = some (.ireturn, 1, 0) := by decide +kernel
theorem f151_0 : q_fetch 151 0 = some (.iload_n 1, 1, 0) := by decide +kernel
theorem f151_1 : q_fetch 151 1 = some (.aload_n 0, 1, 0) := by decide +kernel
theorem f151_2 : q_fetch 151 2 = some (.getfield 149, 3, 1158) := by decide +kernel
theorem f151_5 : q_fetch 151 5 = some (.if_icmp .ge (12), 3, 17) := by decide +kernel
theorem f151_8 : q_fetch 151 8 = some (.aload_n 0, 1, 0) := by decide +kernel
theorem f151_9 : q_fetch 151 9 = some (.getfield 13, 3, 1157) := by decide +kernel
