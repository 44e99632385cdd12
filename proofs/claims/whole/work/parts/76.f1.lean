/-! the rows of code, one by one -/
theorem f61_37 : q_fetch 61 37 = some (.getfield 12, 3, 641) := by decide +kernel
theorem f61_40 : q_fetch 61 40 = some (.invokevirtual 46, 3, 59) := by decide +kernel
theorem f61_43 : q_fetch 61 43 = some (.istore_n 3, 1, 0) := by decide +kernel
theorem f61_44 : q_fetch 61 44 = some (.aload_n 0, 1, 0) := by decide +kernel
theorem f61_45 : q_fetch 61 45 = some (.getfield 12, 3, 641) := by decide +kernel
theorem f61_48 : q_fetch 61 48 = some (.invokevirtual 154, 3, 52) := by decide +kernel
theorem f61_51 : q_fetch 61 51 = some (.aload_n 0, 1, 0) := by decide +kernel
theorem f61_52 : q_fetch 61 52 = some (.iload_n 1, 1, 0) := by decide +kernel
theorem f61_53 : q_fetch 61 53 = some (.iconst 1, 1, 0) := by decide +kernel
theorem f61_54 : q_fetch 61 54 = some (.iadd, 1, 0) := by decide +kernel
theorem f61_55 : q_fetch 61 55 = some (.invokevirtual 143, 3, 61) := by decide +kernel
theorem f61_58 : q_fetch 61 58 = some (.istore 4, 2, 0) := by decide +kernel
theorem f61_60 : q_fetch 61 60 = some (.iload 4, 2, 0) := by decide +kernel
theorem f61_62 : q_fetch 61 62 = some (.iconst (-1), 1, 0) := by decide +kernel
theorem f61_63 : q_fetch 61 63 = some (.if_icmp .ne (8), 3, 71) := by decide +kernel
theorem f61_66 : q_fetch 61 66 = some (.iload 4, 2, 0) := by decide +kernel
theorem f61_68 : q_fetch 61 68 = some (.goto 16, 3, 84) := by decide +kernel
theorem f61_71 : q_fetch 61 71 = some (.aload_n 0, 1, 0) := by decide +kernel
theorem f61_72 : q_fetch 61 72 = some (.getfield 18, 3, 643) := by decide +kernel
theorem f61_75 : q_fetch 61 75 = some (.aload_n 2, 1, 0) := by decide +kernel
theorem f61_76 : q_fetch 61 76 = some (.iload_n 3, 1, 0) := by decide +kernel
theorem f61_77 : q_fetch 61 77 = some (.iconst 0, 1, 0) := by decide +kernel
theorem f61_78 : q_fetch 61 78 = some (.iload 4, 2, 0) := by decide +kernel
theorem f61_80 : q_fetch 61 80 = some (.iconst (-1), 1, 0) := by decide +kernel
theorem f61_81 : q_fetch 61 81 = some (.invokevirtual 164, 3, 66) := by decide +kernel
theorem f61_84 : q_fetch 61 84 = some (.ireturn, 1, 0) := by decide +kernel
theorem f62_0 : q_fetch 62 0 = some (.aload_n 0, 1, 0) := by decide +kernel
theorem f62_1 : q_fetch 62 1 = some (.iload_n 1, 1, 0) := by decide +kernel
theorem f62_2 : q_fetch 62 2 = some (.invokevirtual 177, 3, 63) := by decide +kernel
theorem f62_5 : q_fetch 62 5 = some (.istore_n 2, 1, 0) := by decide +kernel
theorem f62_6 : q_fetch 62 6 = some (.iconst 0, 1, 0) := by decide +kernel
theorem f62_7 : q_fetch 62 7 = some (.istore_n 3, 1, 0) := by decide +kernel
theorem f62_8 : q_fetch 62 8 = some (.iload_n 3, 1, 0) := by decide +kernel
theorem f62_9 : q_fetch 62 9 = some (.bipush 100, 2, 0) := by decide +kernel
theorem f62_11 : q_fetch 62 11 = some (.if_icmp .ge (54), 3, 65) := by decide +kernel
theorem f62_14 : q_fetch 62 14 = some (.iload_n 2, 1, 0) := by decide +kernel
theorem f62_15 : q_fetch 62 15 = some (.iconst (-1), 1, 0) := by decide +kernel
theorem f62_16 : q_fetch 62 16 = some (.if_icmp .eq (49), 3, 65) := by decide +kernel
theorem f62_19 : q_fetch 62 19 = some (.aload_n 0, 1, 0) := by decide +kernel
theorem f62_20 : q_fetch 62 20 = some (.getfield 12, 3, 641) := by decide +kernel
theorem f62_23 : q_fetch 62 23 = some (.invokevirtual 49, 3, 50) := by decide +kernel
theorem f62_26 : q_fetch 62 26 = some (.getstatic 180, 3, 16) := by decide +kernel
theorem f62_29 : q_fetch 62 29 = some (.if_acmp .ne (36), 3, 65) := by decide +kernel
theorem f62_32 : q_fetch 62 32 = some (.aload_n 0, 1, 0) := by decide +kernel
theorem f62_33 : q_fetch 62 33 = some (.getfield 12, 3, 641) := by decide +kernel
theorem f62_36 : q_fetch 62 36 = some (.invokevirtual 46, 3, 59) := by decide +kernel
theorem f62_39 : q_fetch 62 39 = some (.istore 4, 2, 0) := by decide +kernel
theorem f62_41 : q_fetch 62 41 = some (.aload_n 0, 1, 0) := by decide +kernel
theorem f62_42 : q_fetch 62 42 = some (.getfield 12, 3, 641) := by decide +kernel
theorem f62_45 : q_fetch 62 45 = some (.invokevirtual 154, 3, 52) := by decide +kernel
theorem f62_48 : q_fetch 62 48 = some (.aload_n 0, 1, 0) := by decide +kernel
theorem f62_49 : q_fetch 62 49 = some (.getstatic 180, 3, 16) := by decide +kernel
theorem f62_52 : q_fetch 62 52 = some (.iload 4, 2, 0) := by decide +kernel
theorem f62_54 : q_fetch 62 54 = some (.iload_n 2, 1, 0) := by decide +kernel
theorem f62_55 : q_fetch 62 55 = some (.invokevirtual 160, 3, 68) := by decide +kernel
theorem f62_58 : q_fetch 62 58 = some (.istore_n 2, 1, 0) := by decide +kernel
theorem f62_59 : q_fetch 62 59 = some (.iinc 3 1, 3, 0) := by decide +kernel
theorem f62_62 : q_fetch 62 62 = some (.goto (-54), 3, 8) := by decide +kernel
theorem f62_65 : q_fetch 62 65 = some (.iload_n 2, 1, 0) := by decide +kernel
theorem f62_66 : q_fetch 62 66 = some (.ireturn, 1, 0) := by decide +kernel
theorem f63_0 : q_fetch 63 0 = some (.getstatic 187, 3, 35) := by decide +kernel
theorem f63_3 : q_fetch 63 3 = some (.aload_n 0, 1, 0) := by decide +kernel
theorem f63_4 : q_fetch 63 4 = some (.getfield 12, 3, 641) := by decide +kernel
theorem f63_7 : q_fetch 63 7 = some (.invokevirtual 49, 3, 50) := by decide +kernel
theorem f63_10 : q_fetch 63 10 = some (.invokevirtual 193, 3, 64) := by decide +kernel
theorem f63_13 : q_fetch 63 13 = some (.iaload, 1, 0) := by decide +kernel
theorem f63_14 : q_fetch 63 14 = some (.tableswitch (53) (4) (10) #[42, 42, 42, 42, 42, 42, 47], 42, 0) := by decide +kernel
theorem f63_56 : q_fetch 63 56 = some (.aload_n 0, 1, 0) := by decide +kernel
theorem f63_57 : q_fetch 63 57 = some (.invokevirtual 196, 3, 65) := by decide +kernel
theorem f63_60 : q_fetch 63 60 = some (.ireturn, 1, 0) := by decide +kernel
theorem f63_61 : q_fetch 63 61 = some (.aload_n 0, 1, 0) := by decide +kernel
theorem f63_62 : q_fetch 63 62 = some (.iload_n 1, 1, 0) := by decide +kernel
theorem f63_63 : q_fetch 63 63 = some (.invokevirtual 199, 3, 67) := by decide +kernel
theorem f63_66 : q_fetch 63 66 = some (.ireturn, 1, 0) := by decide +kernel
theorem f63_67 : q_fetch 63 67 = some (.iconst (-1), 1, 0) := by decide +kernel
theorem f63_68 : q_fetch 63 68 = some (.ireturn, 1, 0) := by decide +kernel
theorem f64_0 : q_fetch 64 0 = some (.aload_n 0, 1, 0) := by decide +kernel
theorem f64_1 : q_fetch 64 1 = some (.getfield 7, 3, 1920) := by decide +kernel
theorem f64_4 : q_fetch 64 4 = some (.ireturn, 1, 0) := by decide +kernel
theorem f65_0 : q_fetch 65 0 = some (.aload_n 0, 1, 0) := by decide +kernel
theorem f65_1 : q_fetch 65 1 = some (.getfield 18, 3, 643) := by decide +kernel
theorem f65_4 : q_fetch 65 4 = some (.aload_n 0, 1, 0) := by decide +kernel
theorem f65_5 : q_fetch 65 5 = some (.getfield 12, 3, 641) := by decide +kernel
theorem f65_8 : q_fetch 65 8 = some (.invokevirtual 49, 3, 50) := by decide +kernel
theorem f65_11 : q_fetch 65 11 = some (.aload_n 0, 1, 0) := by decide +kernel
theorem f65_12 : q_fetch 65 12 = some (.getfield 12, 3, 641) := by decide +kernel
theorem f65_15 : q_fetch 65 15 = some (.invokevirtual 46, 3, 59) := by decide +kernel
theorem f65_18 : q_fetch 65 18 = some (.aload_n 0, 1, 0) := by decide +kernel
theorem f65_19 : q_fetch 65 19 = some (.getfield 12, 3, 641) := by decide +kernel
theorem f65_22 : q_fetch 65 22 = some (.invokevirtual 105, 3, 55) := by decide +kernel
theorem f65_25 : q_fetch 65 25 = some (.iconst (-1), 1, 0) := by decide +kernel
theorem f65_26 : q_fetch 65 26 = some (.iconst (-1), 1, 0) := by decide +kernel
theorem f65_27 : q_fetch 65 27 = some (.invokevirtual 164, 3, 66) := by decide +kernel
theorem f65_30 : q_fetch 65 30 = some (.istore_n 1, 1, 0) := by decide +kernel
theorem f65_31 : q_fetch 65 31 = some (.aload_n 0, 1, 0) := by decide +kernel
theorem f65_32 : q_fetch 65 32 = some (.getfield 12, 3, 641) := by decide +kernel
theorem f65_35 : q_fetch 65 35 = some (.invokevirtual 154, 3, 52) := by decide +kernel
theorem f65_38 : q_fetch 65 38 = some (.iload_n 1, 1, 0) := by decide +kernel
theorem f65_39 : q_fetch 65 39 = some (.ireturn, 1, 0) := by decide +kernel
theorem f66_0 : q_fetch 66 0 = some (.aload_n 0, 1, 0) := by decide +kernel
theorem f66_1 : q_fetch 66 1 = some (.getfield 49, 3, 148) := by decide +kernel
theorem f66_4 : q_fetch 66 4 = some (.bipush 100, 2, 0) := by decide +kernel
theorem f66_6 : q_fetch 66 6 = some (.if_icmp .lt (5), 3, 11) := by decide +kernel
theorem f66_9 : q_fetch 66 9 = some (.iconst (-1), 1, 0) := by decide +kernel
theorem f66_10 : q_fetch 66 10 = some (.ireturn, 1, 0) := by decide +kernel
theorem f66_11 : q_fetch 66 11 = some (.aload_n 0, 1, 0) := by decide +kernel
theorem f66_12 : q_fetch 66 12 = some (.getfield 54, 3, 151) := by decide +kernel
theorem f66_15 : q_fetch 66 15 = some (.aload_n 0, 1, 0) := by decide +kernel
theorem f66_16 : q_fetch 66 16 = some (.getfield 49, 3, 148) := by decide +kernel
theorem f66_19 : q_fetch 66 19 = some (.aload_n 1, 1, 0) := by decide +kernel
theorem f66_20 : q_fetch 66 20 = some (.aastore, 1, 0) := by decide +kernel
theorem f66_21 : q_fetch 66 21 = some (.aload_n 0, 1, 0) := by decide +kernel
theorem f66_22 : q_fetch 66 22 = some (.getfield 58, 3, 153) := by decide +kernel
theorem f66_25 : q_fetch 66 25 = some (.aload_n 0, 1, 0) := by decide +kernel
theorem f66_26 : q_fetch 66 26 = some (.getfield 49, 3, 148) := by decide +kernel
theorem f66_29 : q_fetch 66 29 = some (.iload_n 2, 1, 0) := by decide +kernel
theorem f66_30 : q_fetch 66 30 = some (.iastore, 1, 0) := by decide +kernel
theorem f66_31 : q_fetch 66 31 = some (.aload_n 0, 1, 0) := by decide +kernel
theorem f66_32 : q_fetch 66 32 = some (.getfield 61, 3, 155) := by decide +kernel
theorem f66_35 : q_fetch 66 35 = some (.aload_n 0, 1, 0) := by decide +kernel
theorem f66_36 : q_fetch 66 36 = some (.getfield 49, 3, 148) := by decide +kernel
theorem f66_39 : q_fetch 66 39 = some (.iload_n 3, 1, 0) := by decide +kernel
theorem f66_40 : q_fetch 66 40 = some (.iastore, 1, 0) := by decide +kernel
theorem f66_41 : q_fetch 66 41 = some (.aload_n 0, 1, 0) := by decide +kernel
theorem f66_42 : q_fetch 66 42 = some (.getfield 64, 3, 157) := by decide +kernel
theorem f66_45 : q_fetch 66 45 = some (.aload_n 0, 1, 0) := by decide +kernel
theorem f66_46 : q_fetch 66 46 = some (.getfield 49, 3, 148) := by decide +kernel
theorem f66_49 : q_fetch 66 49 = some (.iload 4, 2, 0) := by decide +kernel
theorem f66_51 : q_fetch 66 51 = some (.iastore, 1, 0) := by decide +kernel
theorem f66_52 : q_fetch 66 52 = some (.aload_n 0, 1, 0) := by decide +kernel
theorem f66_53 : q_fetch 66 53 = some (.getfield 67, 3, 159) := by decide +kernel
theorem f66_56 : q_fetch 66 56 = some (.aload_n 0, 1, 0) := by decide +kernel
theorem f66_57 : q_fetch 66 57 = some (.getfield 49, 3, 148) := by decide +kernel
theorem f66_60 : q_fetch 66 60 = some (.iload 5, 2, 0) := by decide +kernel
theorem f66_62 : q_fetch 66 62 = some (.iastore, 1, 0) := by decide +kernel
theorem f66_63 : q_fetch 66 63 = some (.aload_n 0, 1, 0) := by decide +kernel
theorem f66_64 : q_fetch 66 64 = some (.dup, 1, 0) := by decide +kernel
theorem f66_65 : q_fetch 66 65 = some (.getfield 49, 3, 148) := by decide +kernel
theorem f66_68 : q_fetch 66 68 = some (.iconst 1, 1, 0) := by decide +kernel
theorem f66_69 : q_fetch 66 69 = some (.iadd, 1, 0) := by decide +kernel
theorem f66_70 : q_fetch 66 70 = some (.putfield 49, 3, 148) := by decide +kernel
theorem f66_73 : q_fetch 66 73 = some (.aload_n 0, 1, 0) := by decide +kernel
theorem f66_74 : q_fetch 66 74 = some (.getfield 49, 3, 148) := by decide +kernel
theorem f66_77 : q_fetch 66 77 = some (.iconst 1, 1, 0) := by decide +kernel
theorem f66_78 : q_fetch 66 78 = some (.isub, 1, 0) := by decide +kernel
theorem f66_79 : q_fetch 66 79 = some (.ireturn, 1, 0) := by decide +kernel
theorem f67_0 : q_fetch 67 0 = some (.aload_n 0, 1, 0) := by decide +kernel
theorem f67_1 : q_fetch 67 1 = some (.getfield 12, 3, 641) := by decide +kernel
theorem f67_4 : q_fetch 67 4 = some (.invokevirtual 154, 3, 52) := by decide +kernel
theorem f67_7 : q_fetch 67 7 = some (.aload_n 0, 1, 0) := by decide +kernel
theorem f67_8 : q_fetch 67 8 = some (.iconst 0, 1, 0) := by decide +kernel
theorem f67_9 : q_fetch 67 9 = some (.iload_n 1, 1, 0) := by decide +kernel
theorem f67_10 : q_fetch 67 10 = some (.iconst 1, 1, 0) := by decide +kernel
theorem f67_11 : q_fetch 67 11 = some (.iadd, 1, 0) := by decide +kernel
theorem f67_12 : q_fetch 67 12 = some (.invokevirtual 132, 3, 60) := by decide +kernel
theorem f67_15 : q_fetch 67 15 = some (.istore_n 2, 1, 0) := by decide +kernel
theorem f67_16 : q_fetch 67 16 = some (.iload_n 2, 1, 0) := by decide +kernel
theorem f67_17 : q_fetch 67 17 = some (.iconst (-1), 1, 0) := by decide +kernel
theorem f67_18 : q_fetch 67 18 = some (.if_icmp .eq (20), 3, 38) := by decide +kernel
theorem f67_21 : q_fetch 67 21 = some (.aload_n 0, 1, 0) := by decide +kernel
theorem f67_22 : q_fetch 67 22 = some (.getfield 12, 3, 641) := by decide +kernel
theorem f67_25 : q_fetch 67 25 = some (.getstatic 90, 3, 12) := by decide +kernel
theorem f67_28 : q_fetch 67 28 = some (.invokevirtual 63, 3, 51) := by decide +kernel
theorem f67_31 : q_fetch 67 31 = some (.ifCond .eq (7), 3, 38) := by decide +kernel
theorem f67_34 : q_fetch 67 34 = some (.iload_n 2, 1, 0) := by decide +kernel
theorem f67_35 : q_fetch 67 35 = some (.goto 4, 3, 39) := by decide +kernel
theorem f67_38 : q_fetch 67 38 = some (.iconst (-1), 1, 0) := by decide +kernel
theorem f67_39 : q_fetch 67 39 = some (.ireturn, 1, 0) := by decide +kernel
theorem f68_0 : q_fetch 68 0 = some (.aload_n 0, 1, 0) := by decide +kernel
theorem f68_1 : q_fetch 68 1 = some (.getfield 12, 3, 641) := by decide +kernel
theorem f68_4 : q_fetch 68 4 = some (.invokevirtual 49, 3, 50) := by decide +kernel
theorem f68_7 : q_fetch 68 7 = some (.invokestatic 183, 3, 69) := by decide +kernel
theorem f68_10 : q_fetch 68 10 = some (.istore 4, 2, 0) := by decide +kernel
theorem f68_12 : q_fetch 68 12 = some (.iload 4, 2, 0) := by decide +kernel
theorem f68_14 : q_fetch 68 14 = some (.bipush (-2), 2, 0) := by decide +kernel
theorem f68_16 : q_fetch 68 16 = some (.if_icmp .ne (5), 3, 21) := by decide +kernel
theorem f68_19 : q_fetch 68 19 = some (.iconst (-1), 1, 0) := by decide +kernel
theorem f68_20 : q_fetch 68 20 = some (.ireturn, 1, 0) := by decide +kernel
theorem f68_21 : q_fetch 68 21 = some (.aload_n 0, 1, 0) := by decide +kernel
theorem f68_22 : q_fetch 68 22 = some (.getfield 12, 3, 641) := by decide +kernel
theorem f68_25 : q_fetch 68 25 = some (.invokevirtual 154, 3, 52) := by decide +kernel
theorem f68_28 : q_fetch 68 28 = some (.aload_n 0, 1, 0) := by decide +kernel
theorem f68_29 : q_fetch 68 29 = some (.getfield 18, 3, 643) := by decide +kernel
theorem f68_32 : q_fetch 68 32 = some (.aload_n 1, 1, 0) := by decide +kernel
theorem f68_33 : q_fetch 68 33 = some (.iload_n 2, 1, 0) := by decide +kernel
theorem f68_34 : q_fetch 68 34 = some (.iload 4, 2, 0) := by decide +kernel
theorem f68_36 : q_fetch 68 36 = some (.iload_n 3, 1, 0) := by decide +kernel
theorem f68_37 : q_fetch 68 37 = some (.iconst (-1), 1, 0) := by decide +kernel
theorem f68_38 : q_fetch 68 38 = some (.invokevirtual 164, 3, 66) := by decide +kernel
theorem f68_41 : q_fetch 68 41 = some (.ireturn, 1, 0) := by decide +kernel
theorem f69_0 : q_fetch 69 0 = some (.getstatic 187, 3, 35) := by decide +kernel
theorem f69_3 : q_fetch 69 3 = some (.aload_n 0, 1, 0) := by decide +kernel
theorem f69_4 : q_fetch 69 4 = some (.invokevirtual 193, 3, 64) := by decide +kernel
theorem f69_7 : q_fetch 69 7 = some (.iaload, 1, 0) := by decide +kernel
theorem f69_8 : q_fetch 69 8 = some (.tableswitch (34) (1) (3) #[28, 30, 32], 28, 0) := by decide +kernel
theorem f69_36 : q_fetch 69 36 = some (.iconst 0, 1, 0) := by decide +kernel
theorem f69_37 : q_fetch 69 37 = some (.ireturn, 1, 0) := by decide +kernel
theorem f69_38 : q_fetch 69 38 = some (.iconst 1, 1, 0) := by decide +kernel
theorem f69_39 : q_fetch 69 39 = some (.ireturn, 1, 0) := by decide +kernel
theorem f69_40 : q_fetch 69 40 = some (.iconst 2, 1, 0) := by decide +kernel
theorem f69_41 : q_fetch 69 41 = some (.ireturn, 1, 0) := by decide +kernel
theorem f69_42 : q_fetch 69 42 = some (.bipush (-2), 2, 0) := by decide +kernel
theorem f69_44 : q_fetch 69 44 = some (.ireturn, 1, 0) := by decide +kernel
theorem f70_0 : q_fetch 70 0 = some (.aload_n 0, 1, 0) := by decide +kernel
theorem f70_1 : q_fetch 70 1 = some (.getfield 12, 3, 641) := by decide +kernel
theorem f70_4 : q_fetch 70 4 = some (.invokevirtual 49, 3, 50) := by decide +kernel
theorem f70_7 : q_fetch 70 7 = some (.astore 4, 2, 0) := by decide +kernel
theorem f70_9 : q_fetch 70 9 = some (.aload_n 0, 1, 0) := by decide +kernel
theorem f70_10 : q_fetch 70 10 = some (.getfield 12, 3, 641) := by decide +kernel
theorem f70_13 : q_fetch 70 13 = some (.invokevirtual 46, 3, 59) := by decide +kernel
theorem f70_16 : q_fetch 70 16 = some (.istore 5, 2, 0) := by decide +kernel
theorem f70_18 : q_fetch 70 18 = some (.aload_n 0, 1, 0) := by decide +kernel
theorem f70_19 : q_fetch 70 19 = some (.getfield 12, 3, 641) := by decide +kernel
theorem f70_22 : q_fetch 70 22 = some (.invokevirtual 154, 3, 52) := by decide +kernel
theorem f70_25 : q_fetch 70 25 = some (.aload 4, 2, 0) := by decide +kernel
theorem f70_27 : q_fetch 70 27 = some (.getstatic 157, 3, 26) := by decide +kernel
theorem f70_30 : q_fetch 70 30 = some (.if_acmp .ne (13), 3, 43) := by decide +kernel
theorem f70_33 : q_fetch 70 33 = some (.aload_n 0, 1, 0) := by decide +kernel
theorem f70_34 : q_fetch 70 34 = some (.aload 4, 2, 0) := by decide +kernel
theorem f70_36 : q_fetch 70 36 = some (.iload 5, 2, 0) := by decide +kernel
theorem f70_38 : q_fetch 70 38 = some (.iload_n 1, 1, 0) := by decide +kernel
theorem f70_39 : q_fetch 70 39 = some (.invokevirtual 160, 3, 68) := by decide +kernel
theorem f70_42 : q_fetch 70 42 = some (.ireturn, 1, 0) := by decide +kernel
theorem f70_43 : q_fetch 70 43 = some (.aload_n 0, 1, 0) := by decide +kernel
theorem f70_44 : q_fetch 70 44 = some (.iload_n 2, 1, 0) := by decide +kernel
theorem f70_45 : q_fetch 70 45 = some (.iconst 1, 1, 0) := by decide +kernel
theorem f70_46 : q_fetch 70 46 = some (.iadd, 1, 0) := by decide +kernel
theorem f70_47 : q_fetch 70 47 = some (.iload_n 3, 1, 0) := by decide +kernel
theorem f70_48 : q_fetch 70 48 = some (.invokevirtual 132, 3, 60) := by decide +kernel
theorem f70_51 : q_fetch 70 51 = some (.istore 6, 2, 0) := by decide +kernel
theorem f70_53 : q_fetch 70 53 = some (.iload 6, 2, 0) := by decide +kernel
theorem f70_55 : q_fetch 70 55 = some (.iconst (-1), 1, 0) := by decide +kernel
theorem f70_56 : q_fetch 70 56 = some (.if_icmp .ne (8), 3, 64) := by decide +kernel
theorem f70_59 : q_fetch 70 59 = some (.iload 6, 2, 0) := by decide +kernel
theorem f70_61 : q_fetch 70 61 = some (.goto 18, 3, 79) := by decide +kernel
theorem f70_64 : q_fetch 70 64 = some (.aload_n 0, 1, 0) := by decide +kernel
theorem f70_65 : q_fetch 70 65 = some (.getfield 18, 3, 643) := by decide +kernel
theorem f70_68 : q_fetch 70 68 = some (.aload 4, 2, 0) := by decide +kernel
theorem f70_70 : q_fetch 70 70 = some (.iload 5, 2, 0) := by decide +kernel
theorem f70_72 : q_fetch 70 72 = some (.iconst 0, 1, 0) := by decide +kernel
theorem f70_73 : q_fetch 70 73 = some (.iload_n 1, 1, 0) := by decide +kernel
theorem f70_74 : q_fetch 70 74 = some (.iload 6, 2, 0) := by decide +kernel
theorem f70_76 : q_fetch 70 76 = some (.invokevirtual 164, 3, 66) := by decide +kernel
theorem f70_79 : q_fetch 70 79 = some (.ireturn, 1, 0) := by decide +kernel
theorem f71_0 : q_fetch 71 0 = some (.aload_n 0, 1, 0) := by decide +kernel
theorem f71_1 : q_fetch 71 1 = some (.getfield 35, 3, 140) := by decide +kernel
theorem f71_4 : q_fetch 71 4 = some (.bipush 12, 2, 0) := by decide +kernel
theorem f71_6 : q_fetch 71 6 = some (.if_icmp .lt (5), 3, 11) := by decide +kernel
theorem f71_9 : q_fetch 71 9 = some (.iconst 0, 1, 0) := by decide +kernel
theorem f71_10 : q_fetch 71 10 = some (.ireturn, 1, 0) := by decide +kernel
theorem f71_11 : q_fetch 71 11 = some (.aload_n 0, 1, 0) := by decide +kernel
theorem f71_12 : q_fetch 71 12 = some (.getfield 38, 3, 143) := by decide +kernel
theorem f71_15 : q_fetch 71 15 = some (.aload_n 0, 1, 0) := by decide +kernel
theorem f71_16 : q_fetch 71 16 = some (.getfield 35, 3, 140) := by decide +kernel
theorem f71_19 : q_fetch 71 19 = some (.iload_n 1, 1, 0) := by decide +kernel
theorem f71_20 : q_fetch 71 20 = some (.bastore, 1, 0) := by decide +kernel
theorem f71_21 : q_fetch 71 21 = some (.aload_n 0, 1, 0) := by decide +kernel
theorem f71_22 : q_fetch 71 22 = some (.getfield 42, 3, 145) := by decide +kernel
theorem f71_25 : q_fetch 71 25 = some (.aload_n 0, 1, 0) := by decide +kernel
theorem f71_26 : q_fetch 71 26 = some (.getfield 35, 3, 140) := by decide +kernel
theorem f71_29 : q_fetch 71 29 = some (.iload_n 2, 1, 0) := by decide +kernel
theorem f71_30 : q_fetch 71 30 = some (.iastore, 1, 0) := by decide +kernel
theorem f71_31 : q_fetch 71 31 = some (.aload_n 0, 1, 0) := by decide +kernel
theorem f71_32 : q_fetch 71 32 = some (.getfield 46, 3, 147) := by decide +kernel
theorem f71_35 : q_fetch 71 35 = some (.aload_n 0, 1, 0) := by decide +kernel
theorem f71_36 : q_fetch 71 36 = some (.getfield 35, 3, 140) := by decide +kernel
theorem f71_39 : q_fetch 71 39 = some (.iload_n 3, 1, 0) := by decide +kernel
theorem f71_40 : q_fetch 71 40 = some (.iastore, 1, 0) := by decide +kernel
theorem f71_41 : q_fetch 71 41 = some (.aload_n 0, 1, 0) := by decide +kernel
theorem f71_42 : q_fetch 71 42 = some (.dup, 1, 0) := by decide +kernel
theorem f71_43 : q_fetch 71 43 = some (.getfield 35, 3, 140) := by decide +kernel
theorem f71_46 : q_fetch 71 46 = some (.iconst 1, 1, 0) := by decide +kernel
theorem f71_47 : q_fetch 71 47 = some (.iadd, 1, 0) := by decide +kernel
theorem f71_48 : q_fetch 71 48 = some (.putfield 35, 3, 140) := by decide +kernel
theorem f71_51 : q_fetch 71 51 = some (.iconst 1, 1, 0) := by decide +kernel
theorem f71_52 : q_fetch 71 52 = some (.ireturn, 1, 0) := by decide +kernel
theorem f72_0 : q_fetch 72 0 = some (.aload_n 0, 1, 0) := by decide +kernel
theorem f72_1 : q_fetch 72 1 = some (.getfield 32, 3, 778) := by decide +kernel
theorem f72_4 : q_fetch 72 4 = some (.ireturn, 1, 0) := by decide +kernel
theorem f73_0 : q_fetch 73 0 = some (.aload_n 2, 1, 0) := by decide +kernel
theorem f73_1 : q_fetch 73 1 = some (.iconst 0, 1, 0) := by decide +kernel
theorem f73_2 : q_fetch 73 2 = some (.aload_n 0, 1, 0) := by decide +kernel
theorem f73_3 : q_fetch 73 3 = some (.iload_n 1, 1, 0) := by decide +kernel
theorem f73_4 : q_fetch 73 4 = some (.invokevirtual 21, 3, 74) := by decide +kernel
theorem f73_7 : q_fetch 73 7 = some (.ifCond .eq (7), 3, 14) := by decide +kernel
theorem f73_10 : q_fetch 73 10 = some (.lconst 1, 1, 0) := by decide +kernel
theorem f73_11 : q_fetch 73 11 = some (.goto 4, 3, 15) := by decide +kernel
theorem f73_14 : q_fetch 73 14 = some (.lconst 0, 1, 0) := by decide +kernel
theorem f73_15 : q_fetch 73 15 = some (.lastore, 1, 0) := by decide +kernel
theorem f73_16 : q_fetch 73 16 = some (.goto 6, 3, 22) := by decide +kernel
theorem f73_19 : q_fetch 73 19 = some (.astore_n 3, 1, 0) := by decide +kernel
theorem f73_20 : q_fetch 73 20 = some (.iconst 1, 1, 0) := by decide +kernel
theorem f73_21 : q_fetch 73 21 = some (.ireturn, 1, 0) := by decide +kernel
theorem f73_22 : q_fetch 73 22 = some (.iconst 0, 1, 0) := by decide +kernel
theorem f73_23 : q_fetch 73 23 = some (.ireturn, 1, 0) := by decide +kernel
theorem f74_0 : q_fetch 74 0 = some (.iload_n 1, 1, 0) := by decide +kernel
theorem f74_1 : q_fetch 74 1 = some (.bipush 6, 2, 0) := by decide +kernel
theorem f74_3 : q_fetch 74 3 = some (.invokestatic 96, 3, 24) := by decide +kernel
theorem f74_6 : q_fetch 74 6 = some (.aload_n 0, 1, 0) := by decide +kernel
theorem f74_7 : q_fetch 74 7 = some (.getfield 22, 3, 7) := by decide +kernel
theorem f74_10 : q_fetch 74 10 = some (.iload_n 1, 1, 0) := by decide +kernel
theorem f74_11 : q_fetch 74 11 = some (.aaload, 1, 0) := by decide +kernel
theorem f74_12 : q_fetch 74 12 = some (.getfield 106, 3, 128) := by decide +kernel
theorem f74_15 : q_fetch 74 15 = some (.istore_n 2, 1, 0) := by decide +kernel
theorem f74_16 : q_fetch 74 16 = some (.aload_n 0, 1, 0) := by decide +kernel
theorem f74_17 : q_fetch 74 17 = some (.getfield 22, 3, 7) := by decide +kernel
theorem f74_20 : q_fetch 74 20 = some (.iload_n 1, 1, 0) := by decide +kernel
theorem f74_21 : q_fetch 74 21 = some (.aaload, 1, 0) := by decide +kernel
theorem f74_22 : q_fetch 74 22 = some (.iconst 0, 1, 0) := by decide +kernel
theorem f74_23 : q_fetch 74 23 = some (.putfield 106, 3, 128) := by decide +kernel
theorem f74_26 : q_fetch 74 26 = some (.iload_n 2, 1, 0) := by decide +kernel
theorem f74_27 : q_fetch 74 27 = some (.ireturn, 1, 0) := by decide +kernel
theorem f75_0 : q_fetch 75 0 = some (.aload_n 3, 1, 0) := by decide +kernel
theorem f75_1 : q_fetch 75 1 = some (.iconst 0, 1, 0) := by decide +kernel
theorem f75_2 : q_fetch 75 2 = some (.aload_n 0, 1, 0) := by decide +kernel
theorem f75_3 : q_fetch 75 3 = some (.iload_n 1, 1, 0) := by decide +kernel
theorem f75_4 : q_fetch 75 4 = some (.iload_n 2, 1, 0) := by decide +kernel
theorem f75_5 : q_fetch 75 5 = some (.invokevirtual 25, 3, 76) := by decide +kernel
theorem f75_8 : q_fetch 75 8 = some (.ifCond .eq (7), 3, 15) := by decide +kernel
theorem f75_11 : q_fetch 75 11 = some (.lconst 1, 1, 0) := by decide +kernel
theorem f75_12 : q_fetch 75 12 = some (.goto 4, 3, 16) := by decide +kernel
theorem f75_15 : q_fetch 75 15 = some (.lconst 0, 1, 0) := by decide +kernel
theorem f75_16 : q_fetch 75 16 = some (.lastore, 1, 0) := by decide +kernel
theorem f75_17 : q_fetch 75 17 = some (.goto 7, 3, 24) := by decide +kernel
theorem f75_20 : q_fetch 75 20 = some (.astore 4, 2, 0) := by decide +kernel
theorem f75_22 : q_fetch 75 22 = some (.iconst 1, 1, 0) := by decide +kernel
theorem f75_23 : q_fetch 75 23 = some (.ireturn, 1, 0) := by decide +kernel
theorem f75_24 : q_fetch 75 24 = some (.iconst 0, 1, 0) := by decide +kernel
theorem f75_25 : q_fetch 75 25 = some (.ireturn, 1, 0) := by decide +kernel
theorem f76_0 : q_fetch 76 0 = some (.iload_n 1, 1, 0) := by decide +kernel
theorem f76_1 : q_fetch 76 1 = some (.bipush 16, 2, 0) := by decide +kernel
theorem f76_3 : q_fetch 76 3 = some (.invokestatic 96, 3, 24) := by decide +kernel
theorem f76_6 : q_fetch 76 6 = some (.iload_n 2, 1, 0) := by decide +kernel
theorem f76_7 : q_fetch 76 7 = some (.iconst 3, 1, 0) := by decide +kernel
theorem f76_8 : q_fetch 76 8 = some (.invokestatic 96, 3, 24) := by decide +kernel
theorem f76_11 : q_fetch 76 11 = some (.aload_n 0, 1, 0) := by decide +kernel
theorem f76_12 : q_fetch 76 12 = some (.getfield 38, 3, 13) := by decide +kernel
theorem f76_15 : q_fetch 76 15 = some (.iload_n 1, 1, 0) := by decide +kernel
theorem f76_16 : q_fetch 76 16 = some (.invokevirtual 113, 3, 15) := by decide +kernel
theorem f76_19 : q_fetch 76 19 = some (.ifCond .ne (7), 3, 26) := by decide +kernel
theorem f76_22 : q_fetch 76 22 = some (.iconst 1, 1, 0) := by decide +kernel
theorem f76_23 : q_fetch 76 23 = some (.goto 4, 3, 27) := by decide +kernel
theorem f76_26 : q_fetch 76 26 = some (.iconst 0, 1, 0) := by decide +kernel
theorem f76_27 : q_fetch 76 27 = some (.istore_n 3, 1, 0) := by decide +kernel
theorem f76_28 : q_fetch 76 28 = some (.aload_n 0, 1, 0) := by decide +kernel
theorem f76_29 : q_fetch 76 29 = some (.getfield 38, 3, 13) := by decide +kernel
theorem f76_32 : q_fetch 76 32 = some (.iload_n 1, 1, 0) := by decide +kernel
theorem f76_33 : q_fetch 76 33 = some (.iload_n 2, 1, 0) := by decide +kernel
theorem f76_34 : q_fetch 76 34 = some (.invokevirtual 117, 3, 77) := by decide +kernel
theorem f76_37 : q_fetch 76 37 = some (.iload_n 3, 1, 0) := by decide +kernel
theorem f76_38 : q_fetch 76 38 = some (.ireturn, 1, 0) := by decide +kernel
theorem f77_0 : q_fetch 77 0 = some (.aload_n 0, 1, 0) := by decide +kernel
theorem f77_1 : q_fetch 77 1 = some (.getfield 9, 3, 385) := by decide +kernel
theorem f77_4 : q_fetch 77 4 = some (.iload_n 1, 1, 0) := by decide +kernel
theorem f77_5 : q_fetch 77 5 = some (.iload_n 2, 1, 0) := by decide +kernel
theorem f77_6 : q_fetch 77 6 = some (.iastore, 1, 0) := by decide +kernel
theorem f77_7 : q_fetch 77 7 = some (.aload_n 0, 1, 0) := by decide +kernel
theorem f77_8 : q_fetch 77 8 = some (.getfield 15, 3, 387) := by decide +kernel
theorem f77_11 : q_fetch 77 11 = some (.iload_n 1, 1, 0) := by decide +kernel
theorem f77_12 : q_fetch 77 12 = some (.iconst 0, 1, 0) := by decide +kernel
theorem f77_13 : q_fetch 77 13 = some (.iastore, 1, 0) := by decide +kernel
theorem f77_14 : q_fetch 77 14 = some (.iconst 0, 1, 0) := by decide +kernel
theorem f77_15 : q_fetch 77 15 = some (.istore_n 3, 1, 0) := by decide +kernel
theorem f77_16 : q_fetch 77 16 = some (.iload_n 3, 1, 0) := by decide +kernel
theorem f77_17 : q_fetch 77 17 = some (.iconst 3, 1, 0) := by decide +kernel
theorem f77_18 : q_fetch 77 18 = some (.if_icmp .ge (17), 3, 35) := by decide +kernel
theorem f77_21 : q_fetch 77 21 = some (.aload_n 0, 1, 0) := by decide +kernel
theorem f77_22 : q_fetch 77 22 = some (.iload_n 1, 1, 0) := by decide +kernel
theorem f77_23 : q_fetch 77 23 = some (.iload_n 3, 1, 0) := by decide +kernel
theorem f77_24 : q_fetch 77 24 = some (.iconst 0, 1, 0) := by decide +kernel
theorem f77_25 : q_fetch 77 25 = some (.iconst 0, 1, 0) := by decide +kernel
theorem f77_26 : q_fetch 77 26 = some (.invokevirtual 28, 3, 78) := by decide +kernel
theorem f77_29 : q_fetch 77 29 = some (.iinc 3 1, 3, 0) := by decide +kernel
theorem f77_32 : q_fetch 77 32 = some (.goto (-16), 3, 16) := by decide +kernel
theorem f77_35 : q_fetch 77 35 = some (.return_, 1, 0) := by decide +kernel
theorem f78_0 : q_fetch 78 0 = some (.aload_n 0, 1, 0) := by decide +kernel
theorem f78_1 : q_fetch 78 1 = some (.getfield 18, 3, 389) := by decide +kernel
theorem f78_4 : q_fetch 78 4 = some (.iload_n 1, 1, 0) := by decide +kernel
theorem f78_5 : q_fetch 78 5 = some (.iconst 3, 1, 0) := by decide +kernel
theorem f78_6 : q_fetch 78 6 = some (.imul, 1, 0) := by decide +kernel
theorem f78_7 : q_fetch 78 7 = some (.iload_n 2, 1, 0) := by decide +kernel
theorem f78_8 : q_fetch 78 8 = some (.iadd, 1, 0) := by decide +kernel
theorem f78_9 : q_fetch 78 9 = some (.iload_n 3, 1, 0) := by decide +kernel
theorem f78_10 : q_fetch 78 10 = some (.iastore, 1, 0) := by decide +kernel
theorem f78_11 : q_fetch 78 11 = some (.aload_n 0, 1, 0) := by decide +kernel
theorem f78_12 : q_fetch 78 12 = some (.getfield 21, 3, 391) := by decide +kernel
theorem f78_15 : q_fetch 78 15 = some (.iload_n 1, 1, 0) := by decide +kernel
theorem f78_16 : q_fetch 78 16 = some (.iconst 3, 1, 0) := by decide +kernel
theorem f78_17 : q_fetch 78 17 = some (.imul, 1, 0) := by decide +kernel
theorem f78_18 : q_fetch 78 18 = some (.iload_n 2, 1, 0) := by decide +kernel
theorem f78_19 : q_fetch 78 19 = some (.iadd, 1, 0) := by decide +kernel
theorem f78_20 : q_fetch 78 20 = some (.iload_n 3, 1, 0) := by decide +kernel
theorem f78_21 : q_fetch 78 21 = some (.iconst 2, 1, 0) := by decide +kernel
theorem f78_22 : q_fetch 78 22 = some (.if_icmp .ne (12), 3, 34) := by decide +kernel
theorem f78_25 : q_fetch 78 25 = some (.iload 4, 2, 0) := by decide +kernel
theorem f78_27 : q_fetch 78 27 = some (.ifCond .eq (7), 3, 34) := by decide +kernel
theorem f78_30 : q_fetch 78 30 = some (.iconst 1, 1, 0) := by decide +kernel
theorem f78_31 : q_fetch 78 31 = some (.goto 5, 3, 36) := by decide +kernel
theorem f78_34 : q_fetch 78 34 = some (.iload 4, 2, 0) := by decide +kernel
theorem f78_36 : q_fetch 78 36 = some (.iastore, 1, 0) := by decide +kernel
theorem f78_37 : q_fetch 78 37 = some (.return_, 1, 0) := by decide +kernel
theorem f79_0 : q_fetch 79 0 = some (.aload_n 3, 1, 0) := by decide +kernel
theorem f79_1 : q_fetch 79 1 = some (.iconst 0, 1, 0) := by decide +kernel
theorem f79_2 : q_fetch 79 2 = some (.aload_n 0, 1, 0) := by decide +kernel
theorem f79_3 : q_fetch 79 3 = some (.iload_n 1, 1, 0) := by decide +kernel
theorem f79_4 : q_fetch 79 4 = some (.iload_n 2, 1, 0) := by decide +kernel
theorem f79_5 : q_fetch 79 5 = some (.invokevirtual 29, 3, 80) := by decide +kernel
theorem f79_8 : q_fetch 79 8 = some (.ifCond .eq (7), 3, 15) := by decide +kernel
theorem f79_11 : q_fetch 79 11 = some (.lconst 1, 1, 0) := by decide +kernel
theorem f79_12 : q_fetch 79 12 = some (.goto 4, 3, 16) := by decide +kernel
theorem f79_15 : q_fetch 79 15 = some (.lconst 0, 1, 0) := by decide +kernel
theorem f79_16 : q_fetch 79 16 = some (.lastore, 1, 0) := by decide +kernel
theorem f79_17 : q_fetch 79 17 = some (.goto 15, 3, 32) := by decide +kernel
theorem f79_20 : q_fetch 79 20 = some (.astore 4, 2, 0) := by decide +kernel
theorem f79_22 : q_fetch 79 22 = some (.iconst 1, 1, 0) := by decide +kernel
theorem f79_23 : q_fetch 79 23 = some (.ireturn, 1, 0) := by decide +kernel
theorem f79_24 : q_fetch 79 24 = some (.astore 4, 2, 0) := by decide +kernel
theorem f79_26 : q_fetch 79 26 = some (.iconst 2, 1, 0) := by decide +kernel
theorem f79_27 : q_fetch 79 27 = some (.ireturn, 1, 0) := by decide +kernel
theorem f79_28 : q_fetch 79 28 = some (.astore 4, 2, 0) := by decide +kernel
theorem f79_30 : q_fetch 79 30 = some (.iconst 3, 1, 0) := by decide +kernel
theorem f79_31 : q_fetch 79 31 = some (.ireturn, 1, 0) := by decide +kernel
theorem f79_32 : q_fetch 79 32 = some (.iconst 0, 1, 0) := by decide +kernel
theorem f79_33 : q_fetch 79 33 = some (.ireturn, 1, 0) := by decide +kernel
theorem f80_0 : q_fetch 80 0 = some (.iload_n 1, 1, 0) := by decide +kernel
theorem f80_1 : q_fetch 80 1 = some (.bipush 16, 2, 0) := by decide +kernel
theorem f80_3 : q_fetch 80 3 = some (.invokestatic 96, 3, 24) := by decide +kernel
theorem f80_6 : q_fetch 80 6 = some (.iload_n 2, 1, 0) := by decide +kernel
theorem f80_7 : q_fetch 80 7 = some (.bipush 16, 2, 0) := by decide +kernel
theorem f80_9 : q_fetch 80 9 = some (.invokestatic 96, 3, 24) := by decide +kernel
theorem f80_12 : q_fetch 80 12 = some (.aload_n 0, 1, 0) := by decide +kernel
theorem f80_13 : q_fetch 80 13 = some (.iload_n 1, 1, 0) := by decide +kernel
theorem f80_14 : q_fetch 80 14 = some (.invokevirtual 120, 3, 81) := by decide +kernel
theorem f80_17 : q_fetch 80 17 = some (.aload_n 0, 1, 0) := by decide +kernel
theorem f80_18 : q_fetch 80 18 = some (.iload_n 2, 1, 0) := by decide +kernel
theorem f80_19 : q_fetch 80 19 = some (.invokevirtual 120, 3, 81) := by decide +kernel
theorem f80_22 : q_fetch 80 22 = some (.aload_n 0, 1, 0) := by decide +kernel
theorem f80_23 : q_fetch 80 23 = some (.getfield 38, 3, 13) := by decide +kernel
theorem f80_26 : q_fetch 80 26 = some (.iload_n 2, 1, 0) := by decide +kernel
theorem f80_27 : q_fetch 80 27 = some (.iload_n 1, 1, 0) := by decide +kernel
theorem f80_28 : q_fetch 80 28 = some (.invokevirtual 123, 3, 82) := by decide +kernel
theorem f80_31 : q_fetch 80 31 = some (.ifCond .eq (13), 3, 44) := by decide +kernel
theorem f80_34 : q_fetch 80 34 = some (.new 87, 3, 11) := by decide +kernel
theorem f80_37 : q_fetch 80 37 = some (.dup, 1, 0) := by decide +kernel
theorem f80_38 : q_fetch 80 38 = some (.ldc 127, 2, 45) := by decide +kernel
theorem f80_40 : q_fetch 80 40 = some (.invokespecial 91, 3, 5011) := by decide +kernel
theorem f80_43 : q_fetch 80 43 = some (.athrow, 1, 0) := by decide +kernel
theorem f80_44 : q_fetch 80 44 = some (.aload_n 0, 1, 0) := by decide +kernel
theorem f80_45 : q_fetch 80 45 = some (.getfield 38, 3, 13) := by decide +kernel
theorem f80_48 : q_fetch 80 48 = some (.iload_n 1, 1, 0) := by decide +kernel
theorem f80_49 : q_fetch 80 49 = some (.iload_n 2, 1, 0) := by decide +kernel
theorem f80_50 : q_fetch 80 50 = some (.invokevirtual 129, 3, 84) := by decide +kernel
theorem f80_53 : q_fetch 80 53 = some (.ireturn, 1, 0) := by decide +kernel
theorem f81_0 : q_fetch 81 0 = some (.aload_n 0, 1, 0) := by decide +kernel
theorem f81_1 : q_fetch 81 1 = some (.getfield 38, 3, 13) := by decide +kernel
theorem f81_4 : q_fetch 81 4 = some (.iload_n 1, 1, 0) := by decide +kernel
theorem f81_5 : q_fetch 81 5 = some (.invokevirtual 113, 3, 15) := by decide +kernel
theorem f81_8 : q_fetch 81 8 = some (.ifCond .ne (13), 3, 21) := by decide +kernel
theorem f81_11 : q_fetch 81 11 = some (.new 156, 3, 12) := by decide +kernel
theorem f81_14 : q_fetch 81 14 = some (.dup, 1, 0) := by decide +kernel
theorem f81_15 : q_fetch 81 15 = some (.ldc 206, 2, 44) := by decide +kernel
theorem f81_17 : q_fetch 81 17 = some (.invokespecial 160, 3, 5012) := by decide +kernel
theorem f81_20 : q_fetch 81 20 = some (.athrow, 1, 0) := by decide +kernel
theorem f81_21 : q_fetch 81 21 = some (.return_, 1, 0) := by decide +kernel
theorem f82_0 : q_fetch 82 0 = some (.iconst 1, 1, 0) := by decide +kernel
theorem f82_1 : q_fetch 82 1 = some (.iload_n 1, 1, 0) := by decide +kernel
theorem f82_2 : q_fetch 82 2 = some (.ishl, 1, 0) := by decide +kernel
theorem f82_3 : q_fetch 82 3 = some (.istore_n 3, 1, 0) := by decide +kernel
theorem f82_4 : q_fetch 82 4 = some (.iconst 0, 1, 0) := by decide +kernel
theorem f82_5 : q_fetch 82 5 = some (.istore 4, 2, 0) := by decide +kernel
theorem f82_7 : q_fetch 82 7 = some (.iload 4, 2, 0) := by decide +kernel
theorem f82_9 : q_fetch 82 9 = some (.bipush 16, 2, 0) := by decide +kernel
theorem f82_11 : q_fetch 82 11 = some (.if_icmp .ge (15), 3, 26) := by decide +kernel
theorem f82_14 : q_fetch 82 14 = some (.aload_n 0, 1, 0) := by decide +kernel
theorem f82_15 : q_fetch 82 15 = some (.iload_n 3, 1, 0) := by decide +kernel
theorem f82_16 : q_fetch 82 16 = some (.invokevirtual 32, 3, 83) := by decide +kernel
theorem f82_19 : q_fetch 82 19 = some (.istore_n 3, 1, 0) := by decide +kernel
theorem f82_20 : q_fetch 82 20 = some (.iinc 4 1, 3, 0) := by decide +kernel
theorem f82_23 : q_fetch 82 23 = some (.goto (-16), 3, 7) := by decide +kernel
theorem f82_26 : q_fetch 82 26 = some (.iload_n 3, 1, 0) := by decide +kernel
theorem f82_27 : q_fetch 82 27 = some (.iload_n 2, 1, 0) := by decide +kernel
theorem f82_28 : q_fetch 82 28 = some (.ishr, 1, 0) := by decide +kernel
theorem f82_29 : q_fetch 82 29 = some (.iconst 1, 1, 0) := by decide +kernel
theorem f82_30 : q_fetch 82 30 = some (.iand, 1, 0) := by decide +kernel
theorem f82_31 : q_fetch 82 31 = some (.ifCond .eq (7), 3, 38) := by decide +kernel
theorem f82_34 : q_fetch 82 34 = some (.iconst 1, 1, 0) := by decide +kernel
theorem f82_35 : q_fetch 82 35 = some (.goto 4, 3, 39) := by decide +kernel
theorem f82_38 : q_fetch 82 38 = some (.iconst 0, 1, 0) := by decide +kernel
theorem f82_39 : q_fetch 82 39 = some (.ireturn, 1, 0) := by decide +kernel
theorem f83_0 : q_fetch 83 0 = some (.iload_n 1, 1, 0) := by decide +kernel
theorem f83_1 : q_fetch 83 1 = some (.istore_n 2, 1, 0) := by decide +kernel
theorem f83_2 : q_fetch 83 2 = some (.iconst 0, 1, 0) := by decide +kernel
theorem f83_3 : q_fetch 83 3 = some (.istore_n 3, 1, 0) := by decide +kernel
theorem f83_4 : q_fetch 83 4 = some (.iload_n 3, 1, 0) := by decide +kernel
theorem f83_5 : q_fetch 83 5 = some (.bipush 16, 2, 0) := by decide +kernel
theorem f83_7 : q_fetch 83 7 = some (.if_icmp .ge (30), 3, 37) := by decide +kernel
theorem f83_10 : q_fetch 83 10 = some (.iload_n 2, 1, 0) := by decide +kernel
theorem f83_11 : q_fetch 83 11 = some (.iload_n 1, 1, 0) := by decide +kernel
theorem f83_12 : q_fetch 83 12 = some (.iload_n 3, 1, 0) := by decide +kernel
theorem f83_13 : q_fetch 83 13 = some (.ishr, 1, 0) := by decide +kernel
theorem f83_14 : q_fetch 83 14 = some (.iconst 1, 1, 0) := by decide +kernel
theorem f83_15 : q_fetch 83 15 = some (.iand, 1, 0) := by decide +kernel
theorem f83_16 : q_fetch 83 16 = some (.ifCond .eq (12), 3, 28) := by decide +kernel
theorem f83_19 : q_fetch 83 19 = some (.aload_n 0, 1, 0) := by decide +kernel
theorem f83_20 : q_fetch 83 20 = some (.getfield 15, 3, 387) := by decide +kernel
theorem f83_23 : q_fetch 83 23 = some (.iload_n 3, 1, 0) := by decide +kernel
theorem f83_24 : q_fetch 83 24 = some (.iaload, 1, 0) := by decide +kernel
theorem f83_25 : q_fetch 83 25 = some (.goto 4, 3, 29) := by decide +kernel
theorem f83_28 : q_fetch 83 28 = some (.iconst 0, 1, 0) := by decide +kernel
theorem f83_29 : q_fetch 83 29 = some (.ior, 1, 0) := by decide +kernel
theorem f83_30 : q_fetch 83 30 = some (.istore_n 2, 1, 0) := by decide +kernel
theorem f83_31 : q_fetch 83 31 = some (.iinc 3 1, 3, 0) := by decide +kernel
theorem f83_34 : q_fetch 83 34 = some (.goto (-30), 3, 4) := by decide +kernel
theorem f83_37 : q_fetch 83 37 = some (.iload_n 2, 1, 0) := by decide +kernel
theorem f83_38 : q_fetch 83 38 = some (.ireturn, 1, 0) := by decide +kernel
theorem f84_0 : q_fetch 84 0 = some (.aload_n 0, 1, 0) := by decide +kernel
theorem f84_1 : q_fetch 84 1 = some (.getfield 15, 3, 387) := by decide +kernel
theorem f84_4 : q_fetch 84 4 = some (.iload_n 1, 1, 0) := by decide +kernel
theorem f84_5 : q_fetch 84 5 = some (.iaload, 1, 0) := by decide +kernel
theorem f84_6 : q_fetch 84 6 = some (.iload_n 2, 1, 0) := by decide +kernel
theorem f84_7 : q_fetch 84 7 = some (.ishr, 1, 0) := by decide +kernel
theorem f84_8 : q_fetch 84 8 = some (.iconst 1, 1, 0) := by decide +kernel
theorem f84_9 : q_fetch 84 9 = some (.iand, 1, 0) := by decide +kernel
theorem f84_10 : q_fetch 84 10 = some (.ifCond .ne (7), 3, 17) := by decide +kernel
theorem f84_13 : q_fetch 84 13 = some (.iconst 1, 1, 0) := by decide +kernel
theorem f84_14 : q_fetch 84 14 = some (.goto 4, 3, 18) := by decide +kernel
theorem f84_17 : q_fetch 84 17 = some (.iconst 0, 1, 0) := by decide +kernel
theorem f84_18 : q_fetch 84 18 = some (.istore_n 3, 1, 0) := by decide +kernel
theorem f84_19 : q_fetch 84 19 = some (.aload_n 0, 1, 0) := by decide +kernel
theorem f84_20 : q_fetch 84 20 = some (.getfield 15, 3, 387) := by decide +kernel
theorem f84_23 : q_fetch 84 23 = some (.iload_n 1, 1, 0) := by decide +kernel
theorem f84_24 : q_fetch 84 24 = some (.dup2, 1, 0) := by decide +kernel
theorem f84_25 : q_fetch 84 25 = some (.iaload, 1, 0) := by decide +kernel
theorem f84_26 : q_fetch 84 26 = some (.iconst 1, 1, 0) := by decide +kernel
theorem f84_27 : q_fetch 84 27 = some (.iload_n 2, 1, 0) := by decide +kernel
theorem f84_28 : q_fetch 84 28 = some (.ishl, 1, 0) := by decide +kernel
theorem f84_29 : q_fetch 84 29 = some (.ior, 1, 0) := by decide +kernel
theorem f84_30 : q_fetch 84 30 = some (.iastore, 1, 0) := by decide +kernel
theorem f84_31 : q_fetch 84 31 = some (.iload_n 3, 1, 0) := by decide +kernel
theorem f84_32 : q_fetch 84 32 = some (.ireturn, 1, 0) := by decide +kernel
theorem f85_0 : q_fetch 85 0 = some (.aload 5, 2, 0) := by decide +kernel
theorem f85_2 : q_fetch 85 2 = some (.iconst 0, 1, 0) := by decide +kernel
theorem f85_3 : q_fetch 85 3 = some (.aload_n 0, 1, 0) := by decide +kernel
theorem f85_4 : q_fetch 85 4 = some (.iload_n 1, 1, 0) := by decide +kernel
theorem f85_5 : q_fetch 85 5 = some (.iload_n 2, 1, 0) := by decide +kernel
theorem f85_6 : q_fetch 85 6 = some (.iload_n 3, 1, 0) := by decide +kernel
theorem f85_7 : q_fetch 85 7 = some (.iload 4, 2, 0) := by decide +kernel
theorem f85_9 : q_fetch 85 9 = some (.invokevirtual 34, 3, 86) := by decide +kernel
theorem f85_12 : q_fetch 85 12 = some (.i2l, 1, 0) := by decide +kernel
theorem f85_13 : q_fetch 85 13 = some (.lastore, 1, 0) := by decide +kernel
theorem f85_14 : q_fetch 85 14 = some (.goto 11, 3, 25) := by decide +kernel
theorem f85_17 : q_fetch 85 17 = some (.astore 6, 2, 0) := by decide +kernel
theorem f85_19 : q_fetch 85 19 = some (.iconst 1, 1, 0) := by decide +kernel
theorem f85_20 : q_fetch 85 20 = some (.ireturn, 1, 0) := by decide +kernel
theorem f85_21 : q_fetch 85 21 = some (.astore 6, 2, 0) := by decide +kernel
theorem f85_23 : q_fetch 85 23 = some (.iconst 2, 1, 0) := by decide +kernel
theorem f85_24 : q_fetch 85 24 = some (.ireturn, 1, 0) := by decide +kernel
theorem f85_25 : q_fetch 85 25 = some (.iconst 0, 1, 0) := by decide +kernel
theorem f85_26 : q_fetch 85 26 = some (.ireturn, 1, 0) := by decide +kernel
theorem f86_0 : q_fetch 86 0 = some (.iload_n 1, 1, 0) := by decide +kernel
theorem f86_1 : q_fetch 86 1 = some (.bipush 16, 2, 0) := by decide +kernel
theorem f86_3 : q_fetch 86 3 = some (.invokestatic 96, 3, 24) := by decide +kernel
theorem f86_6 : q_fetch 86 6 = some (.iload_n 2, 1, 0) := by decide +kernel
theorem f86_7 : q_fetch 86 7 = some (.iconst 3, 1, 0) := by decide +kernel
theorem f86_8 : q_fetch 86 8 = some (.invokestatic 96, 3, 24) := by decide +kernel
theorem f86_11 : q_fetch 86 11 = some (.iload_n 3, 1, 0) := by decide +kernel
theorem f86_12 : q_fetch 86 12 = some (.iconst 4, 1, 0) := by decide +kernel
theorem f86_13 : q_fetch 86 13 = some (.invokestatic 96, 3, 24) := by decide +kernel
theorem f86_16 : q_fetch 86 16 = some (.iload_n 3, 1, 0) := by decide +kernel
theorem f86_17 : q_fetch 86 17 = some (.iconst 3, 1, 0) := by decide +kernel
theorem f86_18 : q_fetch 86 18 = some (.if_icmp .ne (10), 3, 28) := by decide +kernel
theorem f86_21 : q_fetch 86 21 = some (.iload 4, 2, 0) := by decide +kernel
theorem f86_23 : q_fetch 86 23 = some (.bipush 16, 2, 0) := by decide +kernel
theorem f86_25 : q_fetch 86 25 = some (.invokestatic 96, 3, 24) := by decide +kernel
theorem f86_28 : q_fetch 86 28 = some (.aload_n 0, 1, 0) := by decide +kernel
theorem f86_29 : q_fetch 86 29 = some (.iload_n 1, 1, 0) := by decide +kernel
theorem f86_30 : q_fetch 86 30 = some (.invokevirtual 120, 3, 81) := by decide +kernel
theorem f86_33 : q_fetch 86 33 = some (.aload_n 0, 1, 0) := by decide +kernel
theorem f86_34 : q_fetch 86 34 = some (.getfield 38, 3, 13) := by decide +kernel
theorem f86_37 : q_fetch 86 37 = some (.iload_n 1, 1, 0) := by decide +kernel
theorem f86_38 : q_fetch 86 38 = some (.iload_n 2, 1, 0) := by decide +kernel
theorem f86_39 : q_fetch 86 39 = some (.invokevirtual 132, 3, 87) := by decide +kernel
theorem f86_42 : q_fetch 86 42 = some (.istore 5, 2, 0) := by decide +kernel
theorem f86_44 : q_fetch 86 44 = some (.aload_n 0, 1, 0) := by decide +kernel
theorem f86_45 : q_fetch 86 45 = some (.getfield 38, 3, 13) := by decide +kernel
theorem f86_48 : q_fetch 86 48 = some (.iload_n 1, 1, 0) := by decide +kernel
theorem f86_49 : q_fetch 86 49 = some (.iload_n 2, 1, 0) := by decide +kernel
theorem f86_50 : q_fetch 86 50 = some (.iload_n 3, 1, 0) := by decide +kernel
theorem f86_51 : q_fetch 86 51 = some (.iload 4, 2, 0) := by decide +kernel
theorem f86_53 : q_fetch 86 53 = some (.invokevirtual 136, 3, 78) := by decide +kernel
theorem f86_56 : q_fetch 86 56 = some (.iload 5, 2, 0) := by decide +kernel
theorem f86_58 : q_fetch 86 58 = some (.ireturn, 1, 0) := by decide +kernel
theorem f87_0 : q_fetch 87 0 = some (.aload_n 0, 1, 0) := by decide +kernel
theorem f87_1 : q_fetch 87 1 = some (.getfield 18, 3, 389) := by decide +kernel
theorem f87_4 : q_fetch 87 4 = some (.iload_n 1, 1, 0) := by decide +kernel
theorem f87_5 : q_fetch 87 5 = some (.iconst 3, 1, 0) := by decide +kernel
theorem f87_6 : q_fetch 87 6 = some (.imul, 1, 0) := by decide +kernel
theorem f87_7 : q_fetch 87 7 = some (.iload_n 2, 1, 0) := by decide +kernel
theorem f87_8 : q_fetch 87 8 = some (.iadd, 1, 0) := by decide +kernel
theorem f87_9 : q_fetch 87 9 = some (.iaload, 1, 0) := by decide +kernel
theorem f87_10 : q_fetch 87 10 = some (.ireturn, 1, 0) := by decide +kernel
theorem f88_0 : q_fetch 88 0 = some (.aload_n 0, 1, 0) := by decide +kernel
theorem f88_1 : q_fetch 88 1 = some (.iload_n 1, 1, 0) := by decide +kernel
theorem f88_2 : q_fetch 88 2 = some (.iload_n 2, 1, 0) := by decide +kernel
theorem f88_3 : q_fetch 88 3 = some (.iload_n 3, 1, 0) := by decide +kernel
theorem f88_4 : q_fetch 88 4 = some (.iload 4, 2, 0) := by decide +kernel
theorem f88_6 : q_fetch 88 6 = some (.iload 5, 2, 0) := by decide +kernel
theorem f88_8 : q_fetch 88 8 = some (.invokevirtual 38, 3, 89) := by decide +kernel
theorem f88_11 : q_fetch 88 11 = some (.goto 7, 3, 18) := by decide +kernel
theorem f88_14 : q_fetch 88 14 = some (.astore 6, 2, 0) := by decide +kernel
theorem f88_16 : q_fetch 88 16 = some (.iconst 1, 1, 0) := by decide +kernel
theorem f88_17 : q_fetch 88 17 = some (.ireturn, 1, 0) := by decide +kernel
theorem f88_18 : q_fetch 88 18 = some (.iconst 0, 1, 0) := by decide +kernel
theorem f88_19 : q_fetch 88 19 = some (.ireturn, 1, 0) := by decide +kernel
theorem f89_0 : q_fetch 89 0 = some (.iload_n 1, 1, 0) := by decide +kernel
theorem f89_1 : q_fetch 89 1 = some (.iconst 3, 1, 0) := by decide +kernel
theorem f89_2 : q_fetch 89 2 = some (.invokestatic 96, 3, 24) := by decide +kernel
theorem f89_5 : q_fetch 89 5 = some (.iload_n 2, 1, 0) := by decide +kernel
theorem f89_6 : q_fetch 89 6 = some (.iconst 3, 1, 0) := by decide +kernel
theorem f89_7 : q_fetch 89 7 = some (.invokestatic 96, 3, 24) := by decide +kernel
theorem f89_10 : q_fetch 89 10 = some (.iload_n 3, 1, 0) := by decide +kernel
theorem f89_11 : q_fetch 89 11 = some (.iconst 4, 1, 0) := by decide +kernel
theorem f89_12 : q_fetch 89 12 = some (.invokestatic 96, 3, 24) := by decide +kernel
theorem f89_15 : q_fetch 89 15 = some (.iload_n 3, 1, 0) := by decide +kernel
theorem f89_16 : q_fetch 89 16 = some (.iconst 3, 1, 0) := by decide +kernel
theorem f89_17 : q_fetch 89 17 = some (.if_icmp .ne (9), 3, 26) := by decide +kernel
theorem f89_20 : q_fetch 89 20 = some (.iload 4, 2, 0) := by decide +kernel
theorem f89_22 : q_fetch 89 22 = some (.iconst 3, 1, 0) := by decide +kernel
theorem f89_23 : q_fetch 89 23 = some (.invokestatic 96, 3, 24) := by decide +kernel
theorem f89_26 : q_fetch 89 26 = some (.aload_n 0, 1, 0) := by decide +kernel
theorem f89_27 : q_fetch 89 27 = some (.getfield 45, 3, 15) := by decide +kernel
theorem f89_30 : q_fetch 89 30 = some (.iload_n 1, 1, 0) := by decide +kernel
theorem f89_31 : q_fetch 89 31 = some (.iload_n 2, 1, 0) := by decide +kernel
theorem f89_32 : q_fetch 89 32 = some (.iload_n 3, 1, 0) := by decide +kernel
theorem f89_33 : q_fetch 89 33 = some (.iconst 3, 1, 0) := by decide +kernel
theorem f89_34 : q_fetch 89 34 = some (.if_icmp .ne (13), 3, 47) := by decide +kernel
theorem f89_37 : q_fetch 89 37 = some (.iconst 1, 1, 0) := by decide +kernel
theorem f89_38 : q_fetch 89 38 = some (.iload 4, 2, 0) := by decide +kernel
theorem f89_40 : q_fetch 89 40 = some (.ishl, 1, 0) := by decide +kernel
theorem f89_41 : q_fetch 89 41 = some (.invokestatic 140, 3, 90) := by decide +kernel
theorem f89_44 : q_fetch 89 44 = some (.goto 7, 3, 51) := by decide +kernel
theorem f89_47 : q_fetch 89 47 = some (.iload_n 3, 1, 0) := by decide +kernel
theorem f89_48 : q_fetch 89 48 = some (.invokestatic 146, 3, 91) := by decide +kernel
theorem f89_51 : q_fetch 89 51 = some (.iload 5, 2, 0) := by decide +kernel
theorem f89_53 : q_fetch 89 53 = some (.invokevirtual 149, 3, 92) := by decide +kernel
theorem f89_56 : q_fetch 89 56 = some (.return_, 1, 0) := by decide +kernel
theorem f90_0 : q_fetch 90 0 = some (.iload_n 0, 1, 0) := by decide +kernel
theorem f90_1 : q_fetch 90 1 = some (.iconst 2, 1, 0) := by decide +kernel
theorem f90_2 : q_fetch 90 2 = some (.ishl, 1, 0) := by decide +kernel
theorem f90_3 : q_fetch 90 3 = some (.iconst 3, 1, 0) := by decide +kernel
theorem f90_4 : q_fetch 90 4 = some (.ior, 1, 0) := by decide +kernel
theorem f90_5 : q_fetch 90 5 = some (.ireturn, 1, 0) := by decide +kernel
theorem f91_0 : q_fetch 91 0 = some (.iload_n 0, 1, 0) := by decide +kernel
theorem f91_1 : q_fetch 91 1 = some (.ireturn, 1, 0) := by decide +kernel
theorem f92_0 : q_fetch 92 0 = some (.aload_n 0, 1, 0) := by decide +kernel
theorem f92_1 : q_fetch 92 1 = some (.getfield 9, 3, 513) := by decide +kernel
theorem f92_4 : q_fetch 92 4 = some (.iload_n 1, 1, 0) := by decide +kernel
theorem f92_5 : q_fetch 92 5 = some (.iconst 3, 1, 0) := by decide +kernel
theorem f92_6 : q_fetch 92 6 = some (.imul, 1, 0) := by decide +kernel
theorem f92_7 : q_fetch 92 7 = some (.iload_n 2, 1, 0) := by decide +kernel
theorem f92_8 : q_fetch 92 8 = some (.iadd, 1, 0) := by decide +kernel
theorem f92_9 : q_fetch 92 9 = some (.iload_n 3, 1, 0) := by decide +kernel
theorem f92_10 : q_fetch 92 10 = some (.iastore, 1, 0) := by decide +kernel
theorem f92_11 : q_fetch 92 11 = some (.aload_n 0, 1, 0) := by decide +kernel
theorem f92_12 : q_fetch 92 12 = some (.getfield 15, 3, 515) := by decide +kernel
theorem f92_15 : q_fetch 92 15 = some (.iload_n 1, 1, 0) := by decide +kernel
theorem f92_16 : q_fetch 92 16 = some (.iconst 3, 1, 0) := by decide +kernel
theorem f92_17 : q_fetch 92 17 = some (.imul, 1, 0) := by decide +kernel
theorem f92_18 : q_fetch 92 18 = some (.iload_n 2, 1, 0) := by decide +kernel
theorem f92_19 : q_fetch 92 19 = some (.iadd, 1, 0) := by decide +kernel
theorem f92_20 : q_fetch 92 20 = some (.iload 4, 2, 0) := by decide +kernel
theorem f92_22 : q_fetch 92 22 = some (.bastore, 1, 0) := by decide +kernel
theorem f92_23 : q_fetch 92 23 = some (.return_, 1, 0) := by decide +kernel
theorem f93_0 : q_fetch 93 0 = some (.aload_n 2, 1, 0) := by decide +kernel
theorem f93_1 : q_fetch 93 1 = some (.iconst 0, 1, 0) := by decide +kernel
theorem f93_2 : q_fetch 93 2 = some (.aload_n 0, 1, 0) := by decide +kernel
theorem f93_3 : q_fetch 93 3 = some (.iload_n 1, 1, 0) := by decide +kernel
theorem f93_4 : q_fetch 93 4 = some (.invokevirtual 42, 3, 94) := by decide +kernel
theorem f93_7 : q_fetch 93 7 = some (.ifCond .eq (7), 3, 14) := by decide +kernel
theorem f93_10 : q_fetch 93 10 = some (.lconst 1, 1, 0) := by decide +kernel
theorem f93_11 : q_fetch 93 11 = some (.goto 4, 3, 15) := by decide +kernel
theorem f93_14 : q_fetch 93 14 = some (.lconst 0, 1, 0) := by decide +kernel
theorem f93_15 : q_fetch 93 15 = some (.lastore, 1, 0) := by decide +kernel
theorem f93_16 : q_fetch 93 16 = some (.goto 6, 3, 22) := by decide +kernel
theorem f93_19 : q_fetch 93 19 = some (.astore_n 3, 1, 0) := by decide +kernel
theorem f93_20 : q_fetch 93 20 = some (.iconst 1, 1, 0) := by decide +kernel
theorem f93_21 : q_fetch 93 21 = some (.ireturn, 1, 0) := by decide +kernel
theorem f93_22 : q_fetch 93 22 = some (.iconst 0, 1, 0) := by decide +kernel
theorem f93_23 : q_fetch 93 23 = some (.ireturn, 1, 0) := by decide +kernel
theorem f94_0 : q_fetch 94 0 = some (.iload_n 1, 1, 0) := by decide +kernel
theorem f94_1 : q_fetch 94 1 = some (.bipush 16, 2, 0) := by decide +kernel
theorem f94_3 : q_fetch 94 3 = some (.invokestatic 96, 3, 24) := by decide +kernel
theorem f94_6 : q_fetch 94 6 = some (.aload_n 0, 1, 0) := by decide +kernel
theorem f94_7 : q_fetch 94 7 = some (.getfield 38, 3, 13) := by decide +kernel
theorem f94_10 : q_fetch 94 10 = some (.iload_n 1, 1, 0) := by decide +kernel
theorem f94_11 : q_fetch 94 11 = some (.invokevirtual 113, 3, 15) := by decide +kernel
theorem f94_14 : q_fetch 94 14 = some (.ifCond .ne (5), 3, 19) := by decide +kernel
theorem f94_17 : q_fetch 94 17 = some (.iconst 0, 1, 0) := by decide +kernel
theorem f94_18 : q_fetch 94 18 = some (.ireturn, 1, 0) := by decide +kernel
theorem f94_19 : q_fetch 94 19 = some (.iconst 0, 1, 0) := by decide +kernel
theorem f94_20 : q_fetch 94 20 = some (.istore_n 2, 1, 0) := by decide +kernel
theorem f94_21 : q_fetch 94 21 = some (.iload_n 2, 1, 0) := by decide +kernel
theorem f94_22 : q_fetch 94 22 = some (.iconst 3, 1, 0) := by decide +kernel
theorem f94_23 : q_fetch 94 23 = some (.if_icmp .ge (20), 3, 43) := by decide +kernel
theorem f94_26 : q_fetch 94 26 = some (.aload_n 0, 1, 0) := by decide +kernel
theorem f94_27 : q_fetch 94 27 = some (.iload_n 1, 1, 0) := by decide +kernel
theorem f94_28 : q_fetch 94 28 = some (.iload_n 2, 1, 0) := by decide +kernel
theorem f94_29 : q_fetch 94 29 = some (.invokevirtual 153, 3, 95) := by decide +kernel
theorem f94_32 : q_fetch 94 32 = some (.ifCond .ne (5), 3, 37) := by decide +kernel
theorem f94_35 : q_fetch 94 35 = some (.iconst 0, 1, 0) := by decide +kernel
theorem f94_36 : q_fetch 94 36 = some (.ireturn, 1, 0) := by decide +kernel
theorem f94_37 : q_fetch 94 37 = some (.iinc 2 1, 3, 0) := by decide +kernel
theorem f94_40 : q_fetch 94 40 = some (.goto (-19), 3, 21) := by decide +kernel
theorem f94_43 : q_fetch 94 43 = some (.iconst 1, 1, 0) := by decide +kernel
theorem f94_44 : q_fetch 94 44 = some (.ireturn, 1, 0) := by decide +kernel
theorem f95_0 : q_fetch 95 0 = some (.aload_n 0, 1, 0) := by decide +kernel
theorem f95_1 : q_fetch 95 1 = some (.getfield 45, 3, 15) := by decide +kernel
theorem f95_4 : q_fetch 95 4 = some (.aload_n 0, 1, 0) := by decide +kernel
theorem f95_5 : q_fetch 95 5 = some (.getfield 38, 3, 13) := by decide +kernel
theorem f95_8 : q_fetch 95 8 = some (.iload_n 1, 1, 0) := by decide +kernel
theorem f95_9 : q_fetch 95 9 = some (.invokevirtual 208, 3, 96) := by decide +kernel
theorem f95_12 : q_fetch 95 12 = some (.iload_n 2, 1, 0) := by decide +kernel
theorem f95_13 : q_fetch 95 13 = some (.invokevirtual 211, 3, 97) := by decide +kernel
theorem f95_16 : q_fetch 95 16 = some (.istore_n 3, 1, 0) := by decide +kernel
theorem f95_17 : q_fetch 95 17 = some (.aload_n 0, 1, 0) := by decide +kernel
theorem f95_18 : q_fetch 95 18 = some (.getfield 38, 3, 13) := by decide +kernel
theorem f95_21 : q_fetch 95 21 = some (.iload_n 1, 1, 0) := by decide +kernel
theorem f95_22 : q_fetch 95 22 = some (.iload_n 2, 1, 0) := by decide +kernel
theorem f95_23 : q_fetch 95 23 = some (.invokevirtual 132, 3, 87) := by decide +kernel
theorem f95_26 : q_fetch 95 26 = some (.istore 4, 2, 0) := by decide +kernel
theorem f95_28 : q_fetch 95 28 = some (.iload 4, 2, 0) := by decide +kernel
theorem f95_30 : q_fetch 95 30 = some (.ifCond .ne (32), 3, 62) := by decide +kernel
theorem f95_33 : q_fetch 95 33 = some (.iload_n 3, 1, 0) := by decide +kernel
theorem f95_34 : q_fetch 95 34 = some (.ifCond .eq (22), 3, 56) := by decide +kernel
theorem f95_37 : q_fetch 95 37 = some (.aload_n 0, 1, 0) := by decide +kernel
theorem f95_38 : q_fetch 95 38 = some (.getfield 45, 3, 15) := by decide +kernel
theorem f95_41 : q_fetch 95 41 = some (.aload_n 0, 1, 0) := by decide +kernel
theorem f95_42 : q_fetch 95 42 = some (.getfield 38, 3, 13) := by decide +kernel
theorem f95_45 : q_fetch 95 45 = some (.iload_n 1, 1, 0) := by decide +kernel
theorem f95_46 : q_fetch 95 46 = some (.invokevirtual 208, 3, 96) := by decide +kernel
theorem f95_49 : q_fetch 95 49 = some (.iload_n 2, 1, 0) := by decide +kernel
theorem f95_50 : q_fetch 95 50 = some (.invokevirtual 214, 3, 98) := by decide +kernel
theorem f95_53 : q_fetch 95 53 = some (.ifCond .ne (7), 3, 60) := by decide +kernel
theorem f95_56 : q_fetch 95 56 = some (.iconst 1, 1, 0) := by decide +kernel
theorem f95_57 : q_fetch 95 57 = some (.goto 4, 3, 61) := by decide +kernel
theorem f95_60 : q_fetch 95 60 = some (.iconst 0, 1, 0) := by decide +kernel
theorem f95_61 : q_fetch 95 61 = some (.ireturn, 1, 0) := by decide +kernel
theorem f95_62 : q_fetch 95 62 = some (.iload 4, 2, 0) := by decide +kernel
theorem f95_64 : q_fetch 95 64 = some (.iconst 3, 1, 0) := by decide +kernel
theorem f95_65 : q_fetch 95 65 = some (.if_icmp .eq (18), 3, 83) := by decide +kernel
theorem f95_68 : q_fetch 95 68 = some (.iload_n 3, 1, 0) := by decide +kernel
theorem f95_69 : q_fetch 95 69 = some (.iload 4, 2, 0) := by decide +kernel
theorem f95_71 : q_fetch 95 71 = some (.invokestatic 146, 3, 91) := by decide +kernel
theorem f95_74 : q_fetch 95 74 = some (.if_icmp .ne (7), 3, 81) := by decide +kernel
theorem f95_77 : q_fetch 95 77 = some (.iconst 1, 1, 0) := by decide +kernel
theorem f95_78 : q_fetch 95 78 = some (.goto 4, 3, 82) := by decide +kernel
theorem f95_81 : q_fetch 95 81 = some (.iconst 0, 1, 0) := by decide +kernel
theorem f95_82 : q_fetch 95 82 = some (.ireturn, 1, 0) := by decide +kernel
theorem f95_83 : q_fetch 95 83 = some (.aload_n 0, 1, 0) := by decide +kernel
theorem f95_84 : q_fetch 95 84 = some (.getfield 38, 3, 13) := by decide +kernel
theorem f95_87 : q_fetch 95 87 = some (.aload_n 0, 1, 0) := by decide +kernel
theorem f95_88 : q_fetch 95 88 = some (.getfield 38, 3, 13) := by decide +kernel
theorem f95_91 : q_fetch 95 91 = some (.iload_n 1, 1, 0) := by decide +kernel
theorem f95_92 : q_fetch 95 92 = some (.iload_n 2, 1, 0) := by decide +kernel
theorem f95_93 : q_fetch 95 93 = some (.invokevirtual 217, 3, 99) := by decide +kernel
theorem f95_96 : q_fetch 95 96 = some (.invokevirtual 220, 3, 100) := by decide +kernel
theorem f95_99 : q_fetch 95 99 = some (.istore 5, 2, 0) := by decide +kernel
theorem f95_101 : q_fetch 95 101 = some (.iload 5, 2, 0) := by decide +kernel
theorem f95_103 : q_fetch 95 103 = some (.ifCond .eq (16), 3, 119) := by decide +kernel
theorem f95_106 : q_fetch 95 106 = some (.iload_n 3, 1, 0) := by decide +kernel
theorem f95_107 : q_fetch 95 107 = some (.iload 5, 2, 0) := by decide +kernel
theorem f95_109 : q_fetch 95 109 = some (.invokestatic 140, 3, 90) := by decide +kernel
theorem f95_112 : q_fetch 95 112 = some (.if_icmp .ne (7), 3, 119) := by decide +kernel
theorem f95_115 : q_fetch 95 115 = some (.iconst 1, 1, 0) := by decide +kernel
theorem f95_116 : q_fetch 95 116 = some (.goto 4, 3, 120) := by decide +kernel
theorem f95_119 : q_fetch 95 119 = some (.iconst 0, 1, 0) := by decide +kernel
theorem f95_120 : q_fetch 95 120 = some (.ireturn, 1, 0) := by decide +kernel
theorem f96_0 : q_fetch 96 0 = some (.aload_n 0, 1, 0) := by decide +kernel
theorem f96_1 : q_fetch 96 1 = some (.getfield 9, 3, 385) := by decide +kernel
theorem f96_4 : q_fetch 96 4 = some (.iload_n 1, 1, 0) := by decide +kernel
theorem f96_5 : q_fetch 96 5 = some (.iaload, 1, 0) := by decide +kernel
theorem f96_6 : q_fetch 96 6 = some (.ireturn, 1, 0) := by decide +kernel
theorem f97_0 : q_fetch 97 0 = some (.aload_n 0, 1, 0) := by decide +kernel
theorem f97_1 : q_fetch 97 1 = some (.getfield 9, 3, 513) := by decide +kernel
theorem f97_4 : q_fetch 97 4 = some (.iload_n 1, 1, 0) := by decide +kernel
theorem f97_5 : q_fetch 97 5 = some (.iconst 3, 1, 0) := by decide +kernel
theorem f97_6 : q_fetch 97 6 = some (.imul, 1, 0) := by decide +kernel
theorem f97_7 : q_fetch 97 7 = some (.iload_n 2, 1, 0) := by decide +kernel
theorem f97_8 : q_fetch 97 8 = some (.iadd, 1, 0) := by decide +kernel
theorem f97_9 : q_fetch 97 9 = some (.iaload, 1, 0) := by decide +kernel
theorem f97_10 : q_fetch 97 10 = some (.ireturn, 1, 0) := by decide +kernel
theorem f98_0 : q_fetch 98 0 = some (.aload_n 0, 1, 0) := by decide +kernel
theorem f98_1 : q_fetch 98 1 = some (.getfield 15, 3, 515) := by decide +kernel
theorem f98_4 : q_fetch 98 4 = some (.iload_n 1, 1, 0) := by decide +kernel
theorem f98_5 : q_fetch 98 5 = some (.iconst 3, 1, 0) := by decide +kernel
theorem f98_6 : q_fetch 98 6 = some (.imul, 1, 0) := by decide +kernel
theorem f98_7 : q_fetch 98 7 = some (.iload_n 2, 1, 0) := by decide +kernel
theorem f98_8 : q_fetch 98 8 = some (.iadd, 1, 0) := by decide +kernel
theorem f98_9 : q_fetch 98 9 = some (.baload, 1, 0) := by decide +kernel
theorem f98_10 : q_fetch 98 10 = some (.ireturn, 1, 0) := by decide +kernel
theorem f99_0 : q_fetch 99 0 = some (.aload_n 0, 1, 0) := by decide +kernel
theorem f99_1 : q_fetch 99 1 = some (.getfield 21, 3, 391) := by decide +kernel
theorem f99_4 : q_fetch 99 4 = some (.iload_n 1, 1, 0) := by decide +kernel
theorem f99_5 : q_fetch 99 5 = some (.iconst 3, 1, 0) := by decide +kernel
theorem f99_6 : q_fetch 99 6 = some (.imul, 1, 0) := by decide +kernel
theorem f99_7 : q_fetch 99 7 = some (.iload_n 2, 1, 0) := by decide +kernel
theorem f99_8 : q_fetch 99 8 = some (.iadd, 1, 0) := by decide +kernel
theorem f99_9 : q_fetch 99 9 = some (.iaload, 1, 0) := by decide +kernel
theorem f99_10 : q_fetch 99 10 = some (.ireturn, 1, 0) := by decide +kernel
theorem f100_0 : q_fetch 100 0 = some (.aload_n 0, 1, 0) := by decide +kernel
theorem f100_1 : q_fetch 100 1 = some (.iload_n 1, 1, 0) := by decide +kernel
theorem f100_2 : q_fetch 100 2 = some (.invokevirtual 24, 3, 15) := by decide +kernel
theorem f100_5 : q_fetch 100 5 = some (.ifCond .eq (14), 3, 19) := by decide +kernel
theorem f100_8 : q_fetch 100 8 = some (.iconst 1, 1, 0) := by decide +kernel
theorem f100_9 : q_fetch 100 9 = some (.aload_n 0, 1, 0) := by decide +kernel
theorem f100_10 : q_fetch 100 10 = some (.getfield 9, 3, 385) := by decide +kernel
theorem f100_13 : q_fetch 100 13 = some (.iload_n 1, 1, 0) := by decide +kernel
theorem f100_14 : q_fetch 100 14 = some (.iaload, 1, 0) := by decide +kernel
theorem f100_15 : q_fetch 100 15 = some (.ishl, 1, 0) := by decide +kernel
theorem f100_16 : q_fetch 100 16 = some (.goto 4, 3, 20) := by decide +kernel
theorem f100_19 : q_fetch 100 19 = some (.iconst 0, 1, 0) := by decide +kernel
theorem f100_20 : q_fetch 100 20 = some (.ireturn, 1, 0) := by decide +kernel
theorem f101_0 : q_fetch 101 0 = some (.aload_n 2, 1, 0) := by decide +kernel
theorem f101_1 : q_fetch 101 1 = some (.iconst 0, 1, 0) := by decide +kernel
theorem f101_2 : q_fetch 101 2 = some (.aload_n 0, 1, 0) := by decide +kernel
theorem f101_3 : q_fetch 101 3 = some (.iload_n 1, 1, 0) := by decide +kernel
theorem f101_4 : q_fetch 101 4 = some (.invokevirtual 45, 3, 102) := by decide +kernel
theorem f101_7 : q_fetch 101 7 = some (.i2l, 1, 0) := by decide +kernel
theorem f101_8 : q_fetch 101 8 = some (.lastore, 1, 0) := by decide +kernel
theorem f101_9 : q_fetch 101 9 = some (.goto 9, 3, 18) := by decide +kernel
theorem f101_12 : q_fetch 101 12 = some (.astore_n 3, 1, 0) := by decide +kernel
theorem f101_13 : q_fetch 101 13 = some (.iconst 1, 1, 0) := by decide +kernel
theorem f101_14 : q_fetch 101 14 = some (.ireturn, 1, 0) := by decide +kernel
theorem f101_15 : q_fetch 101 15 = some (.astore_n 3, 1, 0) := by decide +kernel
theorem f101_16 : q_fetch 101 16 = some (.iconst 2, 1, 0) := by decide +kernel
theorem f101_17 : q_fetch 101 17 = some (.ireturn, 1, 0) := by decide +kernel
theorem f101_18 : q_fetch 101 18 = some (.iconst 0, 1, 0) := by decide +kernel
theorem f101_19 : q_fetch 101 19 = some (.ireturn, 1, 0) := by decide +kernel
theorem f102_0 : q_fetch 102 0 = some (.iload_n 1, 1, 0) := by decide +kernel
theorem f102_1 : q_fetch 102 1 = some (.bipush 6, 2, 0) := by decide +kernel
theorem f102_3 : q_fetch 102 3 = some (.invokestatic 96, 3, 24) := by decide +kernel
theorem f102_6 : q_fetch 102 6 = some (.aload_n 0, 1, 0) := by decide +kernel
theorem f102_7 : q_fetch 102 7 = some (.getfield 22, 3, 7) := by decide +kernel
theorem f102_10 : q_fetch 102 10 = some (.iload_n 1, 1, 0) := by decide +kernel
theorem f102_11 : q_fetch 102 11 = some (.aaload, 1, 0) := by decide +kernel
theorem f102_12 : q_fetch 102 12 = some (.getfield 106, 3, 128) := by decide +kernel
theorem f102_15 : q_fetch 102 15 = some (.ifCond .ne (13), 3, 28) := by decide +kernel
theorem f102_18 : q_fetch 102 18 = some (.new 156, 3, 12) := by decide +kernel
theorem f102_21 : q_fetch 102 21 = some (.dup, 1, 0) := by decide +kernel
theorem f102_22 : q_fetch 102 22 = some (.ldc 158, 2, 46) := by decide +kernel
theorem f102_24 : q_fetch 102 24 = some (.invokespecial 160, 3, 5012) := by decide +kernel
theorem f102_27 : q_fetch 102 27 = some (.athrow, 1, 0) := by decide +kernel
theorem f102_28 : q_fetch 102 28 = some (.aload_n 0, 1, 0) := by decide +kernel
theorem f102_29 : q_fetch 102 29 = some (.getfield 72, 3, 21) := by decide +kernel
theorem f102_32 : q_fetch 102 32 = some (.aload_n 0, 1, 0) := by decide +kernel
theorem f102_33 : q_fetch 102 33 = some (.getfield 22, 3, 7) := by decide +kernel
theorem f102_36 : q_fetch 102 36 = some (.iload_n 1, 1, 0) := by decide +kernel
theorem f102_37 : q_fetch 102 37 = some (.aaload, 1, 0) := by decide +kernel
theorem f102_38 : q_fetch 102 38 = some (.invokevirtual 161, 3, 103) := by decide +kernel
theorem f102_41 : q_fetch 102 41 = some (.ireturn, 1, 0) := by decide +kernel
theorem f103_0 : q_fetch 103 0 = some (.aload_n 0, 1, 0) := by decide +kernel
theorem f103_1 : q_fetch 103 1 = some (.aload_n 1, 1, 0) := by decide +kernel
theorem f103_2 : q_fetch 103 2 = some (.putfield 23, 3, 1029) := by decide +kernel
theorem f103_5 : q_fetch 103 5 = some (.iconst 0, 1, 0) := by decide +kernel
theorem f103_6 : q_fetch 103 6 = some (.istore_n 2, 1, 0) := by decide +kernel
theorem f103_7 : q_fetch 103 7 = some (.iconst 0, 1, 0) := by decide +kernel
theorem f103_8 : q_fetch 103 8 = some (.istore_n 3, 1, 0) := by decide +kernel
theorem f103_9 : q_fetch 103 9 = some (.iload_n 3, 1, 0) := by decide +kernel
theorem f103_10 : q_fetch 103 10 = some (.aload_n 1, 1, 0) := by decide +kernel
theorem f103_11 : q_fetch 103 11 = some (.getfield 27, 3, 140) := by decide +kernel
theorem f103_14 : q_fetch 103 14 = some (.if_icmp .ge (77), 3, 91) := by decide +kernel
theorem f103_17 : q_fetch 103 17 = some (.aload_n 1, 1, 0) := by decide +kernel
theorem f103_18 : q_fetch 103 18 = some (.getfield 32, 3, 147) := by decide +kernel
theorem f103_21 : q_fetch 103 21 = some (.iload_n 3, 1, 0) := by decide +kernel
theorem f103_22 : q_fetch 103 22 = some (.iaload, 1, 0) := by decide +kernel
theorem f103_23 : q_fetch 103 23 = some (.istore 4, 2, 0) := by decide +kernel
theorem f103_25 : q_fetch 103 25 = some (.aload_n 0, 1, 0) := by decide +kernel
theorem f103_26 : q_fetch 103 26 = some (.iload 4, 2, 0) := by decide +kernel
theorem f103_28 : q_fetch 103 28 = some (.iload_n 2, 1, 0) := by decide +kernel
theorem f103_29 : q_fetch 103 29 = some (.iconst 0, 1, 0) := by decide +kernel
theorem f103_30 : q_fetch 103 30 = some (.invokevirtual 36, 3, 104) := by decide +kernel
theorem f103_33 : q_fetch 103 33 = some (.istore 5, 2, 0) := by decide +kernel
theorem f103_35 : q_fetch 103 35 = some (.iload 5, 2, 0) := by decide +kernel
theorem f103_37 : q_fetch 103 37 = some (.iconst (-1), 1, 0) := by decide +kernel
theorem f103_38 : q_fetch 103 38 = some (.if_icmp .ne (8), 3, 46) := by decide +kernel
theorem f103_41 : q_fetch 103 41 = some (.aload_n 0, 1, 0) := by decide +kernel
theorem f103_42 : q_fetch 103 42 = some (.getfield 9, 3, 1030) := by decide +kernel
theorem f103_45 : q_fetch 103 45 = some (.ireturn, 1, 0) := by decide +kernel
theorem f103_46 : q_fetch 103 46 = some (.iload 5, 2, 0) := by decide +kernel
theorem f103_48 : q_fetch 103 48 = some (.iconst 2, 1, 0) := by decide +kernel
theorem f103_49 : q_fetch 103 49 = some (.invokestatic 42, 3, 91) := by decide +kernel
theorem f103_52 : q_fetch 103 52 = some (.if_icmp .eq (10), 3, 62) := by decide +kernel
theorem f103_55 : q_fetch 103 55 = some (.aload_n 1, 1, 0) := by decide +kernel
theorem f103_56 : q_fetch 103 56 = some (.getfield 46, 3, 145) := by decide +kernel
theorem f103_59 : q_fetch 103 59 = some (.iload_n 3, 1, 0) := by decide +kernel
theorem f103_60 : q_fetch 103 60 = some (.iaload, 1, 0) := by decide +kernel
theorem f103_61 : q_fetch 103 61 = some (.ireturn, 1, 0) := by decide +kernel
theorem f103_62 : q_fetch 103 62 = some (.iload_n 2, 1, 0) := by decide +kernel
theorem f103_63 : q_fetch 103 63 = some (.aload_n 1, 1, 0) := by decide +kernel
theorem f103_64 : q_fetch 103 64 = some (.getfield 49, 3, 143) := by decide +kernel
theorem f103_67 : q_fetch 103 67 = some (.iload_n 3, 1, 0) := by decide +kernel
theorem f103_68 : q_fetch 103 68 = some (.baload, 1, 0) := by decide +kernel
theorem f103_69 : q_fetch 103 69 = some (.ifCond .eq (13), 3, 82) := by decide +kernel
theorem f103_72 : q_fetch 103 72 = some (.aload_n 0, 1, 0) := by decide +kernel
theorem f103_73 : q_fetch 103 73 = some (.iload 4, 2, 0) := by decide +kernel
theorem f103_75 : q_fetch 103 75 = some (.iconst 0, 1, 0) := by decide +kernel
theorem f103_76 : q_fetch 103 76 = some (.invokevirtual 53, 3, 115) := by decide +kernel
theorem f103_79 : q_fetch 103 79 = some (.goto 4, 3, 83) := by decide +kernel
theorem f103_82 : q_fetch 103 82 = some (.iconst 0, 1, 0) := by decide +kernel
theorem f103_83 : q_fetch 103 83 = some (.ior, 1, 0) := by decide +kernel
theorem f103_84 : q_fetch 103 84 = some (.istore_n 2, 1, 0) := by decide +kernel
theorem f103_85 : q_fetch 103 85 = some (.iinc 3 1, 3, 0) := by decide +kernel
theorem f103_88 : q_fetch 103 88 = some (.goto (-79), 3, 9) := by decide +kernel
theorem f103_91 : q_fetch 103 91 = some (.bipush (-2), 2, 0) := by decide +kernel
theorem f103_93 : q_fetch 103 93 = some (.ireturn, 1, 0) := by decide +kernel
theorem f104_0 : q_fetch 104 0 = some (.iload_n 3, 1, 0) := by decide +kernel
theorem f104_1 : q_fetch 104 1 = some (.bipush 50, 2, 0) := by decide +kernel
theorem f104_3 : q_fetch 104 3 = some (.if_icmp .le (10), 3, 13) := by decide +kernel
theorem f104_6 : q_fetch 104 6 = some (.aload_n 0, 1, 0) := by decide +kernel
theorem f104_7 : q_fetch 104 7 = some (.iload_n 1, 1, 0) := by decide +kernel
theorem f104_8 : q_fetch 104 8 = some (.iconst (-1), 1, 0) := by decide +kernel
theorem f104_9 : q_fetch 104 9 = some (.invokevirtual 57, 3, 105) := by decide +kernel
theorem f104_12 : q_fetch 104 12 = some (.ireturn, 1, 0) := by decide +kernel
theorem f104_13 : q_fetch 104 13 = some (.aload_n 0, 1, 0) := by decide +kernel
theorem f104_14 : q_fetch 104 14 = some (.getfield 23, 3, 1029) := by decide +kernel
theorem f104_17 : q_fetch 104 17 = some (.getfield 60, 3, 157) := by decide +kernel
theorem f104_20 : q_fetch 104 20 = some (.iload_n 1, 1, 0) := by decide +kernel
theorem f104_21 : q_fetch 104 21 = some (.iaload, 1, 0) := by decide +kernel
theorem f104_22 : q_fetch 104 22 = some (.istore 4, 2, 0) := by decide +kernel
theorem f104_24 : q_fetch 104 24 = some (.aload_n 0, 1, 0) := by decide +kernel
theorem f104_25 : q_fetch 104 25 = some (.getfield 23, 3, 1029) := by decide +kernel
theorem f104_28 : q_fetch 104 28 = some (.getfield 63, 3, 159) := by decide +kernel
theorem f104_31 : q_fetch 104 31 = some (.iload_n 1, 1, 0) := by decide +kernel
theorem f104_32 : q_fetch 104 32 = some (.iaload, 1, 0) := by decide +kernel
theorem f104_33 : q_fetch 104 33 = some (.istore 5, 2, 0) := by decide +kernel
theorem f104_35 : q_fetch 104 35 = some (.iload 4, 2, 0) := by decide +kernel
theorem f104_37 : q_fetch 104 37 = some (.iconst (-1), 1, 0) := by decide +kernel
theorem f104_38 : q_fetch 104 38 = some (.if_icmp .ne (9), 3, 47) := by decide +kernel
theorem f104_41 : q_fetch 104 41 = some (.aload_n 0, 1, 0) := by decide +kernel
theorem f104_42 : q_fetch 104 42 = some (.iload_n 1, 1, 0) := by decide +kernel
theorem f104_43 : q_fetch 104 43 = some (.invokevirtual 66, 3, 106) := by decide +kernel
theorem f104_46 : q_fetch 104 46 = some (.ireturn, 1, 0) := by decide +kernel
theorem f104_47 : q_fetch 104 47 = some (.aload_n 0, 1, 0) := by decide +kernel
theorem f104_48 : q_fetch 104 48 = some (.iload 4, 2, 0) := by decide +kernel
theorem f104_50 : q_fetch 104 50 = some (.iload_n 2, 1, 0) := by decide +kernel
theorem f104_51 : q_fetch 104 51 = some (.iload_n 3, 1, 0) := by decide +kernel
theorem f104_52 : q_fetch 104 52 = some (.iconst 1, 1, 0) := by decide +kernel
theorem f104_53 : q_fetch 104 53 = some (.iadd, 1, 0) := by decide +kernel
theorem f104_54 : q_fetch 104 54 = some (.invokevirtual 36, 3, 104) := by decide +kernel
theorem f104_57 : q_fetch 104 57 = some (.istore 6, 2, 0) := by decide +kernel
theorem f104_59 : q_fetch 104 59 = some (.iload 6, 2, 0) := by decide +kernel
theorem f104_61 : q_fetch 104 61 = some (.iconst (-1), 1, 0) := by decide +kernel
theorem f104_62 : q_fetch 104 62 = some (.if_icmp .ne (5), 3, 67) := by decide +kernel
theorem f104_65 : q_fetch 104 65 = some (.iconst (-1), 1, 0) := by decide +kernel
theorem f104_66 : q_fetch 104 66 = some (.ireturn, 1, 0) := by decide +kernel
theorem f104_67 : q_fetch 104 67 = some (.iload 5, 2, 0) := by decide +kernel
theorem f104_69 : q_fetch 104 69 = some (.iconst (-1), 1, 0) := by decide +kernel
theorem f104_70 : q_fetch 104 70 = some (.if_icmp .ne (17), 3, 87) := by decide +kernel
theorem f104_73 : q_fetch 104 73 = some (.aload_n 0, 1, 0) := by decide +kernel
theorem f104_74 : q_fetch 104 74 = some (.iload_n 1, 1, 0) := by decide +kernel
theorem f104_75 : q_fetch 104 75 = some (.aload_n 0, 1, 0) := by decide +kernel
theorem f104_76 : q_fetch 104 76 = some (.iload_n 1, 1, 0) := by decide +kernel
theorem f104_77 : q_fetch 104 77 = some (.iload 6, 2, 0) := by decide +kernel
theorem f104_79 : q_fetch 104 79 = some (.iload_n 2, 1, 0) := by decide +kernel
theorem f104_80 : q_fetch 104 80 = some (.invokevirtual 69, 3, 108) := by decide +kernel
theorem f104_83 : q_fetch 104 83 = some (.invokevirtual 57, 3, 105) := by decide +kernel
theorem f104_86 : q_fetch 104 86 = some (.ireturn, 1, 0) := by decide +kernel
theorem f104_87 : q_fetch 104 87 = some (.aload_n 0, 1, 0) := by decide +kernel
theorem f104_88 : q_fetch 104 88 = some (.getfield 23, 3, 1029) := by decide +kernel
theorem f104_91 : q_fetch 104 91 = some (.getfield 72, 3, 151) := by decide +kernel
theorem f104_94 : q_fetch 104 94 = some (.iload_n 1, 1, 0) := by decide +kernel
theorem f104_95 : q_fetch 104 95 = some (.aaload, 1, 0) := by decide +kernel
theorem f104_96 : q_fetch 104 96 = some (.getstatic 76, 3, 20) := by decide +kernel
theorem f104_99 : q_fetch 104 99 = some (.if_acmp .ne (15), 3, 114) := by decide +kernel
theorem f104_102 : q_fetch 104 102 = some (.aload_n 0, 1, 0) := by decide +kernel
theorem f104_103 : q_fetch 104 103 = some (.iload 4, 2, 0) := by decide +kernel
theorem f104_105 : q_fetch 104 105 = some (.iload_n 3, 1, 0) := by decide +kernel
theorem f104_106 : q_fetch 104 106 = some (.iconst 1, 1, 0) := by decide +kernel
theorem f104_107 : q_fetch 104 107 = some (.iadd, 1, 0) := by decide +kernel
theorem f104_108 : q_fetch 104 108 = some (.invokevirtual 53, 3, 115) := by decide +kernel
theorem f104_111 : q_fetch 104 111 = some (.goto 4, 3, 115) := by decide +kernel
theorem f104_114 : q_fetch 104 114 = some (.iconst 0, 1, 0) := by decide +kernel
theorem f104_115 : q_fetch 104 115 = some (.istore 7, 2, 0) := by decide +kernel
theorem f104_117 : q_fetch 104 117 = some (.aload_n 0, 1, 0) := by decide +kernel
theorem f104_118 : q_fetch 104 118 = some (.iload 5, 2, 0) := by decide +kernel
theorem f104_120 : q_fetch 104 120 = some (.iload_n 2, 1, 0) := by decide +kernel
theorem f104_121 : q_fetch 104 121 = some (.iload 7, 2, 0) := by decide +kernel
theorem f104_123 : q_fetch 104 123 = some (.ior, 1, 0) := by decide +kernel
theorem f104_124 : q_fetch 104 124 = some (.iload_n 3, 1, 0) := by decide +kernel
theorem f104_125 : q_fetch 104 125 = some (.iconst 1, 1, 0) := by decide +kernel
theorem f104_126 : q_fetch 104 126 = some (.iadd, 1, 0) := by decide +kernel
theorem f104_127 : q_fetch 104 127 = some (.invokevirtual 36, 3, 104) := by decide +kernel
theorem f104_130 : q_fetch 104 130 = some (.istore 8, 2, 0) := by decide +kernel
theorem f104_132 : q_fetch 104 132 = some (.iload 8, 2, 0) := by decide +kernel
theorem f104_134 : q_fetch 104 134 = some (.iconst (-1), 1, 0) := by decide +kernel
theorem f104_135 : q_fetch 104 135 = some (.if_icmp .ne (5), 3, 140) := by decide +kernel
theorem f104_138 : q_fetch 104 138 = some (.iconst (-1), 1, 0) := by decide +kernel
theorem f104_139 : q_fetch 104 139 = some (.ireturn, 1, 0) := by decide +kernel
theorem f104_140 : q_fetch 104 140 = some (.aload_n 0, 1, 0) := by decide +kernel
theorem f104_141 : q_fetch 104 141 = some (.iload_n 1, 1, 0) := by decide +kernel
theorem f104_142 : q_fetch 104 142 = some (.aload_n 0, 1, 0) := by decide +kernel
theorem f104_143 : q_fetch 104 143 = some (.getfield 23, 3, 1029) := by decide +kernel
theorem f104_146 : q_fetch 104 146 = some (.getfield 72, 3, 151) := by decide +kernel
theorem f104_149 : q_fetch 104 149 = some (.iload_n 1, 1, 0) := by decide +kernel
theorem f104_150 : q_fetch 104 150 = some (.aaload, 1, 0) := by decide +kernel
theorem f104_151 : q_fetch 104 151 = some (.iload 6, 2, 0) := by decide +kernel
theorem f104_153 : q_fetch 104 153 = some (.iload 8, 2, 0) := by decide +kernel
theorem f104_155 : q_fetch 104 155 = some (.invokestatic 82, 3, 116) := by decide +kernel
theorem f104_158 : q_fetch 104 158 = some (.invokevirtual 57, 3, 105) := by decide +kernel
theorem f104_161 : q_fetch 104 161 = some (.ireturn, 1, 0) := by decide +kernel
theorem f105_0 : q_fetch 105 0 = some (.iload_n 2, 1, 0) := by decide +kernel
theorem f105_1 : q_fetch 105 1 = some (.iconst (-1), 1, 0) := by decide +kernel
theorem f105_2 : q_fetch 105 2 = some (.if_icmp .ne (16), 3, 18) := by decide +kernel
theorem f105_5 : q_fetch 105 5 = some (.aload_n 0, 1, 0) := by decide +kernel
theorem f105_6 : q_fetch 105 6 = some (.aload_n 0, 1, 0) := by decide +kernel
theorem f105_7 : q_fetch 105 7 = some (.getfield 23, 3, 1029) := by decide +kernel
theorem f105_10 : q_fetch 105 10 = some (.getfield 86, 3, 153) := by decide +kernel
theorem f105_13 : q_fetch 105 13 = some (.iload_n 1, 1, 0) := by decide +kernel
theorem f105_14 : q_fetch 105 14 = some (.iaload, 1, 0) := by decide +kernel
theorem f105_15 : q_fetch 105 15 = some (.putfield 9, 3, 1030) := by decide +kernel
theorem f105_18 : q_fetch 105 18 = some (.iload_n 2, 1, 0) := by decide +kernel
theorem f105_19 : q_fetch 105 19 = some (.ireturn, 1, 0) := by decide +kernel
theorem f106_0 : q_fetch 106 0 = some (.getstatic 89, 3, 35) := by decide +kernel
theorem f106_3 : q_fetch 106 3 = some (.aload_n 0, 1, 0) := by decide +kernel
theorem f106_4 : q_fetch 106 4 = some (.getfield 23, 3, 1029) := by decide +kernel
theorem f106_7 : q_fetch 106 7 = some (.getfield 72, 3, 151) := by decide +kernel
theorem f106_10 : q_fetch 106 10 = some (.iload_n 1, 1, 0) := by decide +kernel
theorem f106_11 : q_fetch 106 11 = some (.aaload, 1, 0) := by decide +kernel
theorem f106_12 : q_fetch 106 12 = some (.invokevirtual 94, 3, 64) := by decide +kernel
theorem f106_15 : q_fetch 106 15 = some (.iaload, 1, 0) := by decide +kernel
theorem f106_16 : q_fetch 106 16 = some (.tableswitch (97) (5) (9) #[36, 36, 77, 41, 59], 36, 0) := by decide +kernel
theorem f106_52 : q_fetch 106 52 = some (.iconst 2, 1, 0) := by decide +kernel
theorem f106_53 : q_fetch 106 53 = some (.invokestatic 42, 3, 91) := by decide +kernel
theorem f106_56 : q_fetch 106 56 = some (.ireturn, 1, 0) := by decide +kernel
theorem f106_57 : q_fetch 106 57 = some (.aload_n 0, 1, 0) := by decide +kernel
theorem f106_58 : q_fetch 106 58 = some (.getfield 23, 3, 1029) := by decide +kernel
theorem f106_61 : q_fetch 106 61 = some (.getfield 98, 3, 133) := by decide +kernel
theorem f106_64 : q_fetch 106 64 = some (.aload_n 0, 1, 0) := by decide +kernel
theorem f106_65 : q_fetch 106 65 = some (.getfield 15, 3, 1025) := by decide +kernel
theorem f106_68 : q_fetch 106 68 = some (.invokevirtual 102, 3, 107) := by decide +kernel
theorem f106_71 : q_fetch 106 71 = some (.invokestatic 108, 3, 90) := by decide +kernel
theorem f106_74 : q_fetch 106 74 = some (.ireturn, 1, 0) := by decide +kernel
theorem f106_75 : q_fetch 106 75 = some (.aload_n 0, 1, 0) := by decide +kernel
theorem f106_76 : q_fetch 106 76 = some (.getfield 23, 3, 1029) := by decide +kernel
theorem f106_79 : q_fetch 106 79 = some (.getfield 111, 3, 135) := by decide +kernel
theorem f106_82 : q_fetch 106 82 = some (.aload_n 0, 1, 0) := by decide +kernel
theorem f106_83 : q_fetch 106 83 = some (.getfield 15, 3, 1025) := by decide +kernel
theorem f106_86 : q_fetch 106 86 = some (.invokevirtual 102, 3, 107) := by decide +kernel
theorem f106_89 : q_fetch 106 89 = some (.invokestatic 108, 3, 90) := by decide +kernel
theorem f106_92 : q_fetch 106 92 = some (.ireturn, 1, 0) := by decide +kernel
theorem f106_93 : q_fetch 106 93 = some (.aload_n 0, 1, 0) := by decide +kernel
theorem f106_94 : q_fetch 106 94 = some (.getfield 15, 3, 1025) := by decide +kernel
theorem f106_97 : q_fetch 106 97 = some (.aload_n 0, 1, 0) := by decide +kernel
theorem f106_98 : q_fetch 106 98 = some (.getfield 23, 3, 1029) := by decide +kernel
theorem f106_101 : q_fetch 106 101 = some (.getfield 114, 3, 155) := by decide +kernel
theorem f106_104 : q_fetch 106 104 = some (.iload_n 1, 1, 0) := by decide +kernel
theorem f106_105 : q_fetch 106 105 = some (.iaload, 1, 0) := by decide +kernel
theorem f106_106 : q_fetch 106 106 = some (.invokevirtual 117, 3, 100) := by decide +kernel
theorem f106_109 : q_fetch 106 109 = some (.invokestatic 108, 3, 90) := by decide +kernel
theorem f106_112 : q_fetch 106 112 = some (.ireturn, 1, 0) := by decide +kernel
theorem f106_113 : q_fetch 106 113 = some (.iconst 1, 1, 0) := by decide +kernel
theorem f106_114 : q_fetch 106 114 = some (.invokestatic 42, 3, 91) := by decide +kernel
theorem f106_117 : q_fetch 106 117 = some (.ireturn, 1, 0) := by decide +kernel
theorem f107_0 : q_fetch 107 0 = some (.aload_n 0, 1, 0) := by decide +kernel
theorem f107_1 : q_fetch 107 1 = some (.getfield 9, 3, 256) := by decide +kernel
theorem f107_4 : q_fetch 107 4 = some (.iconst 1, 1, 0) := by decide +kernel
theorem f107_5 : q_fetch 107 5 = some (.if_icmp .ne (14), 3, 19) := by decide +kernel
theorem f107_8 : q_fetch 107 8 = some (.aload_n 1, 1, 0) := by decide +kernel
theorem f107_9 : q_fetch 107 9 = some (.aload_n 0, 1, 0) := by decide +kernel
theorem f107_10 : q_fetch 107 10 = some (.getfield 13, 3, 258) := by decide +kernel
theorem f107_13 : q_fetch 107 13 = some (.invokevirtual 22, 3, 100) := by decide +kernel
theorem f107_16 : q_fetch 107 16 = some (.goto 5, 3, 21) := by decide +kernel
theorem f107_19 : q_fetch 107 19 = some (.bipush 7, 2, 0) := by decide +kernel
theorem f107_21 : q_fetch 107 21 = some (.ireturn, 1, 0) := by decide +kernel
theorem f108_0 : q_fetch 108 0 = some (.iload_n 2, 1, 0) := by decide +kernel
theorem f108_1 : q_fetch 108 1 = some (.invokestatic 122, 3, 109) := by decide +kernel
theorem f108_4 : q_fetch 108 4 = some (.istore 4, 2, 0) := by decide +kernel
theorem f108_6 : q_fetch 108 6 = some (.getstatic 89, 3, 35) := by decide +kernel
theorem f108_9 : q_fetch 108 9 = some (.aload_n 0, 1, 0) := by decide +kernel
theorem f108_10 : q_fetch 108 10 = some (.getfield 23, 3, 1029) := by decide +kernel
theorem f108_13 : q_fetch 108 13 = some (.getfield 72, 3, 151) := by decide +kernel
theorem f108_16 : q_fetch 108 16 = some (.iload_n 1, 1, 0) := by decide +kernel
theorem f108_17 : q_fetch 108 17 = some (.aaload, 1, 0) := by decide +kernel
theorem f108_18 : q_fetch 108 18 = some (.invokevirtual 94, 3, 64) := by decide +kernel
theorem f108_21 : q_fetch 108 21 = some (.iaload, 1, 0) := by decide +kernel
theorem f108_22 : q_fetch 108 22 = some (.tableswitch (65) (11) (13) #[26, 38, 50], 26, 0) := by decide +kernel
theorem f108_48 : q_fetch 108 48 = some (.iload 4, 2, 0) := by decide +kernel
theorem f108_50 : q_fetch 108 50 = some (.iconst 2, 1, 0) := by decide +kernel
theorem f108_51 : q_fetch 108 51 = some (.if_icmp .ne (7), 3, 58) := by decide +kernel
theorem f108_54 : q_fetch 108 54 = some (.iload_n 2, 1, 0) := by decide +kernel
theorem f108_55 : q_fetch 108 55 = some (.goto 4, 3, 59) := by decide +kernel
theorem f108_58 : q_fetch 108 58 = some (.iconst (-1), 1, 0) := by decide +kernel
theorem f108_59 : q_fetch 108 59 = some (.ireturn, 1, 0) := by decide +kernel
theorem f108_60 : q_fetch 108 60 = some (.iload 4, 2, 0) := by decide +kernel
theorem f108_62 : q_fetch 108 62 = some (.iconst 1, 1, 0) := by decide +kernel
theorem f108_63 : q_fetch 108 63 = some (.if_icmp .ne (7), 3, 70) := by decide +kernel
theorem f108_66 : q_fetch 108 66 = some (.iload_n 2, 1, 0) := by decide +kernel
theorem f108_67 : q_fetch 108 67 = some (.goto 4, 3, 71) := by decide +kernel
theorem f108_70 : q_fetch 108 70 = some (.iconst (-1), 1, 0) := by decide +kernel
theorem f108_71 : q_fetch 108 71 = some (.ireturn, 1, 0) := by decide +kernel
theorem f108_72 : q_fetch 108 72 = some (.iload 4, 2, 0) := by decide +kernel
theorem f108_74 : q_fetch 108 74 = some (.iconst 3, 1, 0) := by decide +kernel
theorem f108_75 : q_fetch 108 75 = some (.if_icmp .ne (10), 3, 85) := by decide +kernel
theorem f108_78 : q_fetch 108 78 = some (.iconst 2, 1, 0) := by decide +kernel
theorem f108_79 : q_fetch 108 79 = some (.invokestatic 42, 3, 91) := by decide +kernel
theorem f108_82 : q_fetch 108 82 = some (.goto 4, 3, 86) := by decide +kernel
theorem f108_85 : q_fetch 108 85 = some (.iconst (-1), 1, 0) := by decide +kernel
theorem f108_86 : q_fetch 108 86 = some (.ireturn, 1, 0) := by decide +kernel
theorem f108_87 : q_fetch 108 87 = some (.iload 4, 2, 0) := by decide +kernel
theorem f108_89 : q_fetch 108 89 = some (.iconst 3, 1, 0) := by decide +kernel
theorem f108_90 : q_fetch 108 90 = some (.if_icmp .ne (16), 3, 106) := by decide +kernel
theorem f108_93 : q_fetch 108 93 = some (.aload_n 0, 1, 0) := by decide +kernel
theorem f108_94 : q_fetch 108 94 = some (.iload_n 1, 1, 0) := by decide +kernel
theorem f108_95 : q_fetch 108 95 = some (.iload_n 2, 1, 0) := by decide +kernel
theorem f108_96 : q_fetch 108 96 = some (.invokestatic 125, 3, 110) := by decide +kernel
theorem f108_99 : q_fetch 108 99 = some (.iload_n 3, 1, 0) := by decide +kernel
theorem f108_100 : q_fetch 108 100 = some (.invokevirtual 127, 3, 111) := by decide +kernel
theorem f108_103 : q_fetch 108 103 = some (.goto 4, 3, 107) := by decide +kernel
theorem f108_106 : q_fetch 108 106 = some (.iconst (-1), 1, 0) := by decide +kernel
theorem f108_107 : q_fetch 108 107 = some (.ireturn, 1, 0) := by decide +kernel
theorem f109_0 : q_fetch 109 0 = some (.iload_n 0, 1, 0) := by decide +kernel
theorem f109_1 : q_fetch 109 1 = some (.iconst 3, 1, 0) := by decide +kernel
theorem f109_2 : q_fetch 109 2 = some (.iand, 1, 0) := by decide +kernel
theorem f109_3 : q_fetch 109 3 = some (.ireturn, 1, 0) := by decide +kernel
theorem f110_0 : q_fetch 110 0 = some (.iload_n 0, 1, 0) := by decide +kernel
theorem f110_1 : q_fetch 110 1 = some (.iconst 2, 1, 0) := by decide +kernel
theorem f110_2 : q_fetch 110 2 = some (.ishr, 1, 0) := by decide +kernel
theorem f110_3 : q_fetch 110 3 = some (.ireturn, 1, 0) := by decide +kernel
theorem f111_0 : q_fetch 111 0 = some (.aload_n 0, 1, 0) := by decide +kernel
theorem f111_1 : q_fetch 111 1 = some (.getfield 23, 3, 1029) := by decide +kernel
theorem f111_4 : q_fetch 111 4 = some (.getfield 114, 3, 155) := by decide +kernel
theorem f111_7 : q_fetch 111 7 = some (.iload_n 1, 1, 0) := by decide +kernel
theorem f111_8 : q_fetch 111 8 = some (.iaload, 1, 0) := by decide +kernel
theorem f111_9 : q_fetch 111 9 = some (.istore 4, 2, 0) := by decide +kernel
theorem f111_11 : q_fetch 111 11 = some (.aload_n 0, 1, 0) := by decide +kernel
theorem f111_12 : q_fetch 111 12 = some (.getfield 19, 3, 1027) := by decide +kernel
theorem f111_15 : q_fetch 111 15 = some (.iload_n 2, 1, 0) := by decide +kernel
theorem f111_16 : q_fetch 111 16 = some (.iload 4, 2, 0) := by decide +kernel
theorem f111_18 : q_fetch 111 18 = some (.invokevirtual 130, 3, 112) := by decide +kernel
theorem f111_21 : q_fetch 111 21 = some (.ifCond .ne (13), 3, 34) := by decide +kernel
theorem f111_24 : q_fetch 111 24 = some (.iload_n 3, 1, 0) := by decide +kernel
theorem f111_25 : q_fetch 111 25 = some (.aload_n 0, 1, 0) := by decide +kernel
theorem f111_26 : q_fetch 111 26 = some (.iload_n 1, 1, 0) := by decide +kernel
theorem f111_27 : q_fetch 111 27 = some (.invokevirtual 136, 3, 113) := by decide +kernel
theorem f111_30 : q_fetch 111 30 = some (.iand, 1, 0) := by decide +kernel
theorem f111_31 : q_fetch 111 31 = some (.ifCond .eq (7), 3, 38) := by decide +kernel
theorem f111_34 : q_fetch 111 34 = some (.iconst 1, 1, 0) := by decide +kernel
theorem f111_35 : q_fetch 111 35 = some (.goto 4, 3, 39) := by decide +kernel
theorem f111_38 : q_fetch 111 38 = some (.iconst 0, 1, 0) := by decide +kernel
theorem f111_39 : q_fetch 111 39 = some (.istore 5, 2, 0) := by decide +kernel
theorem f111_41 : q_fetch 111 41 = some (.iload 5, 2, 0) := by decide +kernel
theorem f111_43 : q_fetch 111 43 = some (.ifCond .eq (16), 3, 59) := by decide +kernel
theorem f111_46 : q_fetch 111 46 = some (.aload_n 0, 1, 0) := by decide +kernel
theorem f111_47 : q_fetch 111 47 = some (.getfield 19, 3, 1027) := by decide +kernel
theorem f111_50 : q_fetch 111 50 = some (.iload_n 2, 1, 0) := by decide +kernel
theorem f111_51 : q_fetch 111 51 = some (.iload 4, 2, 0) := by decide +kernel
theorem f111_53 : q_fetch 111 53 = some (.invokevirtual 139, 3, 114) := by decide +kernel
theorem f111_56 : q_fetch 111 56 = some (.goto 4, 3, 60) := by decide +kernel
theorem f111_59 : q_fetch 111 59 = some (.iconst (-1), 1, 0) := by decide +kernel
theorem f111_60 : q_fetch 111 60 = some (.ireturn, 1, 0) := by decide +kernel
theorem f112_0 : q_fetch 112 0 = some (.iconst 0, 1, 0) := by decide +kernel
theorem f112_1 : q_fetch 112 1 = some (.istore_n 3, 1, 0) := by decide +kernel
theorem f112_2 : q_fetch 112 2 = some (.iload_n 3, 1, 0) := by decide +kernel
theorem f112_3 : q_fetch 112 3 = some (.iconst 3, 1, 0) := by decide +kernel
theorem f112_4 : q_fetch 112 4 = some (.if_icmp .ge (28), 3, 32) := by decide +kernel
theorem f112_7 : q_fetch 112 7 = some (.iload_n 1, 1, 0) := by decide +kernel
theorem f112_8 : q_fetch 112 8 = some (.iload_n 3, 1, 0) := by decide +kernel
theorem f112_9 : q_fetch 112 9 = some (.ishr, 1, 0) := by decide +kernel
theorem f112_10 : q_fetch 112 10 = some (.iconst 1, 1, 0) := by decide +kernel
theorem f112_11 : q_fetch 112 11 = some (.iand, 1, 0) := by decide +kernel
theorem f112_12 : q_fetch 112 12 = some (.ifCond .eq (14), 3, 26) := by decide +kernel
theorem f112_15 : q_fetch 112 15 = some (.aload_n 0, 1, 0) := by decide +kernel
theorem f112_16 : q_fetch 112 16 = some (.iload_n 3, 1, 0) := by decide +kernel
theorem f112_17 : q_fetch 112 17 = some (.iload_n 2, 1, 0) := by decide +kernel
theorem f112_18 : q_fetch 112 18 = some (.invokevirtual 25, 3, 98) := by decide +kernel
theorem f112_21 : q_fetch 112 21 = some (.ifCond .ne (5), 3, 26) := by decide +kernel
theorem f112_24 : q_fetch 112 24 = some (.iconst 0, 1, 0) := by decide +kernel
theorem f112_25 : q_fetch 112 25 = some (.ireturn, 1, 0) := by decide +kernel
theorem f112_26 : q_fetch 112 26 = some (.iinc 3 1, 3, 0) := by decide +kernel
theorem f112_29 : q_fetch 112 29 = some (.goto (-27), 3, 2) := by decide +kernel
theorem f112_32 : q_fetch 112 32 = some (.iconst 1, 1, 0) := by decide +kernel
theorem f112_33 : q_fetch 112 33 = some (.ireturn, 1, 0) := by decide +kernel
theorem f113_0 : q_fetch 113 0 = some (.aload_n 0, 1, 0) := by decide +kernel
theorem f113_1 : q_fetch 113 1 = some (.getfield 23, 3, 1029) := by decide +kernel
theorem f113_4 : q_fetch 113 4 = some (.getfield 72, 3, 151) := by decide +kernel
theorem f113_7 : q_fetch 113 7 = some (.aload_n 0, 1, 0) := by decide +kernel
theorem f113_8 : q_fetch 113 8 = some (.getfield 23, 3, 1029) := by decide +kernel
theorem f113_11 : q_fetch 113 11 = some (.getfield 60, 3, 157) := by decide +kernel
theorem f113_14 : q_fetch 113 14 = some (.iload_n 1, 1, 0) := by decide +kernel
theorem f113_15 : q_fetch 113 15 = some (.iaload, 1, 0) := by decide +kernel
theorem f113_16 : q_fetch 113 16 = some (.aaload, 1, 0) := by decide +kernel
theorem f113_17 : q_fetch 113 17 = some (.astore_n 2, 1, 0) := by decide +kernel
theorem f113_18 : q_fetch 113 18 = some (.iconst 1, 1, 0) := by decide +kernel
theorem f113_19 : q_fetch 113 19 = some (.aload_n 0, 1, 0) := by decide +kernel
theorem f113_20 : q_fetch 113 20 = some (.getfield 23, 3, 1029) := by decide +kernel
theorem f113_23 : q_fetch 113 23 = some (.getfield 114, 3, 155) := by decide +kernel
theorem f113_26 : q_fetch 113 26 = some (.iload_n 1, 1, 0) := by decide +kernel
theorem f113_27 : q_fetch 113 27 = some (.iaload, 1, 0) := by decide +kernel
theorem f113_28 : q_fetch 113 28 = some (.ishl, 1, 0) := by decide +kernel
theorem f113_29 : q_fetch 113 29 = some (.istore_n 3, 1, 0) := by decide +kernel
theorem f113_30 : q_fetch 113 30 = some (.aload_n 2, 1, 0) := by decide +kernel
theorem f113_31 : q_fetch 113 31 = some (.getstatic 148, 3, 6) := by decide +kernel
theorem f113_34 : q_fetch 113 34 = some (.if_acmp .ne (5), 3, 39) := by decide +kernel
theorem f113_37 : q_fetch 113 37 = some (.iload_n 3, 1, 0) := by decide +kernel
theorem f113_38 : q_fetch 113 38 = some (.ireturn, 1, 0) := by decide +kernel
theorem f113_39 : q_fetch 113 39 = some (.aload_n 2, 1, 0) := by decide +kernel
theorem f113_40 : q_fetch 113 40 = some (.getstatic 151, 3, 7) := by decide +kernel
theorem f113_43 : q_fetch 113 43 = some (.if_acmp .ne (9), 3, 52) := by decide +kernel
theorem f113_46 : q_fetch 113 46 = some (.iload_n 3, 1, 0) := by decide +kernel
theorem f113_47 : q_fetch 113 47 = some (.iconst 3, 1, 0) := by decide +kernel
theorem f113_48 : q_fetch 113 48 = some (.ishl, 1, 0) := by decide +kernel
theorem f113_49 : q_fetch 113 49 = some (.goto 4, 3, 53) := by decide +kernel
theorem f113_52 : q_fetch 113 52 = some (.iconst 0, 1, 0) := by decide +kernel
theorem f113_53 : q_fetch 113 53 = some (.ireturn, 1, 0) := by decide +kernel
theorem f114_0 : q_fetch 114 0 = some (.iconst 0, 1, 0) := by decide +kernel
theorem f114_1 : q_fetch 114 1 = some (.istore_n 3, 1, 0) := by decide +kernel
theorem f114_2 : q_fetch 114 2 = some (.iconst 0, 1, 0) := by decide +kernel
theorem f114_3 : q_fetch 114 3 = some (.istore 4, 2, 0) := by decide +kernel
theorem f114_5 : q_fetch 114 5 = some (.iload 4, 2, 0) := by decide +kernel
theorem f114_7 : q_fetch 114 7 = some (.iconst 3, 1, 0) := by decide +kernel
theorem f114_8 : q_fetch 114 8 = some (.if_icmp .ge (47), 3, 55) := by decide +kernel
theorem f114_11 : q_fetch 114 11 = some (.iload_n 1, 1, 0) := by decide +kernel
theorem f114_12 : q_fetch 114 12 = some (.iload 4, 2, 0) := by decide +kernel
theorem f114_14 : q_fetch 114 14 = some (.ishr, 1, 0) := by decide +kernel
theorem f114_15 : q_fetch 114 15 = some (.iconst 1, 1, 0) := by decide +kernel
theorem f114_16 : q_fetch 114 16 = some (.iand, 1, 0) := by decide +kernel
theorem f114_17 : q_fetch 114 17 = some (.ifCond .eq (32), 3, 49) := by decide +kernel
theorem f114_20 : q_fetch 114 20 = some (.aload_n 0, 1, 0) := by decide +kernel
theorem f114_21 : q_fetch 114 21 = some (.iload 4, 2, 0) := by decide +kernel
theorem f114_23 : q_fetch 114 23 = some (.iload_n 2, 1, 0) := by decide +kernel
theorem f114_24 : q_fetch 114 24 = some (.invokevirtual 21, 3, 97) := by decide +kernel
theorem f114_27 : q_fetch 114 27 = some (.istore 5, 2, 0) := by decide +kernel
theorem f114_29 : q_fetch 114 29 = some (.iload 5, 2, 0) := by decide +kernel
theorem f114_31 : q_fetch 114 31 = some (.ifCond .eq (13), 3, 44) := by decide +kernel
theorem f114_34 : q_fetch 114 34 = some (.iload_n 3, 1, 0) := by decide +kernel
theorem f114_35 : q_fetch 114 35 = some (.ifCond .eq (11), 3, 46) := by decide +kernel
theorem f114_38 : q_fetch 114 38 = some (.iload_n 3, 1, 0) := by decide +kernel
theorem f114_39 : q_fetch 114 39 = some (.iload 5, 2, 0) := by decide +kernel
theorem f114_41 : q_fetch 114 41 = some (.if_icmp .eq (5), 3, 46) := by decide +kernel
theorem f114_44 : q_fetch 114 44 = some (.iconst (-1), 1, 0) := by decide +kernel
theorem f114_45 : q_fetch 114 45 = some (.ireturn, 1, 0) := by decide +kernel
theorem f114_46 : q_fetch 114 46 = some (.iload 5, 2, 0) := by decide +kernel
theorem f114_48 : q_fetch 114 48 = some (.istore_n 3, 1, 0) := by decide +kernel
theorem f114_49 : q_fetch 114 49 = some (.iinc 4 1, 3, 0) := by decide +kernel
theorem f114_52 : q_fetch 114 52 = some (.goto (-47), 3, 5) := by decide +kernel
theorem f114_55 : q_fetch 114 55 = some (.iload_n 3, 1, 0) := by decide +kernel
theorem f114_56 : q_fetch 114 56 = some (.ifCond .ne (7), 3, 63) := by decide +kernel
theorem f114_59 : q_fetch 114 59 = some (.iconst (-1), 1, 0) := by decide +kernel
theorem f114_60 : q_fetch 114 60 = some (.goto 4, 3, 64) := by decide +kernel
theorem f114_63 : q_fetch 114 63 = some (.iload_n 3, 1, 0) := by decide +kernel
theorem f114_64 : q_fetch 114 64 = some (.ireturn, 1, 0) := by decide +kernel
theorem f115_0 : q_fetch 115 0 = some (.aload_n 0, 1, 0) := by decide +kernel
theorem f115_1 : q_fetch 115 1 = some (.getfield 23, 3, 1029) := by decide +kernel
theorem f115_4 : q_fetch 115 4 = some (.getfield 72, 3, 151) := by decide +kernel
theorem f115_7 : q_fetch 115 7 = some (.iload_n 1, 1, 0) := by decide +kernel
theorem f115_8 : q_fetch 115 8 = some (.aaload, 1, 0) := by decide +kernel
theorem f115_9 : q_fetch 115 9 = some (.astore_n 3, 1, 0) := by decide +kernel
theorem f115_10 : q_fetch 115 10 = some (.aload_n 3, 1, 0) := by decide +kernel
theorem f115_11 : q_fetch 115 11 = some (.getstatic 142, 3, 26) := by decide +kernel
theorem f115_14 : q_fetch 115 14 = some (.if_acmp .ne (9), 3, 23) := by decide +kernel
theorem f115_17 : q_fetch 115 17 = some (.aload_n 0, 1, 0) := by decide +kernel
theorem f115_18 : q_fetch 115 18 = some (.iload_n 1, 1, 0) := by decide +kernel
theorem f115_19 : q_fetch 115 19 = some (.invokevirtual 136, 3, 113) := by decide +kernel
theorem f115_22 : q_fetch 115 22 = some (.ireturn, 1, 0) := by decide +kernel
theorem f115_23 : q_fetch 115 23 = some (.iload_n 2, 1, 0) := by decide +kernel
theorem f115_24 : q_fetch 115 24 = some (.bipush 50, 2, 0) := by decide +kernel
theorem f115_26 : q_fetch 115 26 = some (.if_icmp .gt (17), 3, 43) := by decide +kernel
theorem f115_29 : q_fetch 115 29 = some (.aload_n 3, 1, 0) := by decide +kernel
theorem f115_30 : q_fetch 115 30 = some (.getstatic 76, 3, 20) := by decide +kernel
theorem f115_33 : q_fetch 115 33 = some (.if_acmp .eq (12), 3, 45) := by decide +kernel
theorem f115_36 : q_fetch 115 36 = some (.aload_n 3, 1, 0) := by decide +kernel
theorem f115_37 : q_fetch 115 37 = some (.getstatic 145, 3, 19) := by decide +kernel
theorem f115_40 : q_fetch 115 40 = some (.if_acmp .eq (5), 3, 45) := by decide +kernel
theorem f115_43 : q_fetch 115 43 = some (.iconst 0, 1, 0) := by decide +kernel
theorem f115_44 : q_fetch 115 44 = some (.ireturn, 1, 0) := by decide +kernel
theorem f115_45 : q_fetch 115 45 = some (.aload_n 0, 1, 0) := by decide +kernel
theorem f115_46 : q_fetch 115 46 = some (.aload_n 0, 1, 0) := by decide +kernel
theorem f115_47 : q_fetch 115 47 = some (.getfield 23, 3, 1029) := by decide +kernel
theorem f115_50 : q_fetch 115 50 = some (.getfield 60, 3, 157) := by decide +kernel
theorem f115_53 : q_fetch 115 53 = some (.iload_n 1, 1, 0) := by decide +kernel
theorem f115_54 : q_fetch 115 54 = some (.iaload, 1, 0) := by decide +kernel
theorem f115_55 : q_fetch 115 55 = some (.iload_n 2, 1, 0) := by decide +kernel
theorem f115_56 : q_fetch 115 56 = some (.iconst 1, 1, 0) := by decide +kernel
theorem f115_57 : q_fetch 115 57 = some (.iadd, 1, 0) := by decide +kernel
theorem f115_58 : q_fetch 115 58 = some (.invokevirtual 53, 3, 115) := by decide +kernel
theorem f115_61 : q_fetch 115 61 = some (.istore 4, 2, 0) := by decide +kernel
theorem f115_63 : q_fetch 115 63 = some (.aload_n 0, 1, 0) := by decide +kernel
theorem f115_64 : q_fetch 115 64 = some (.aload_n 0, 1, 0) := by decide +kernel
theorem f115_65 : q_fetch 115 65 = some (.getfield 23, 3, 1029) := by decide +kernel
theorem f115_68 : q_fetch 115 68 = some (.getfield 63, 3, 159) := by decide +kernel
theorem f115_71 : q_fetch 115 71 = some (.iload_n 1, 1, 0) := by decide +kernel
theorem f115_72 : q_fetch 115 72 = some (.iaload, 1, 0) := by decide +kernel
theorem f115_73 : q_fetch 115 73 = some (.iload_n 2, 1, 0) := by decide +kernel
theorem f115_74 : q_fetch 115 74 = some (.iconst 1, 1, 0) := by decide +kernel
theorem f115_75 : q_fetch 115 75 = some (.iadd, 1, 0) := by decide +kernel
theorem f115_76 : q_fetch 115 76 = some (.invokevirtual 53, 3, 115) := by decide +kernel
theorem f115_79 : q_fetch 115 79 = some (.istore 5, 2, 0) := by decide +kernel
theorem f115_81 : q_fetch 115 81 = some (.aload_n 3, 1, 0) := by decide +kernel
theorem f115_82 : q_fetch 115 82 = some (.getstatic 76, 3, 20) := by decide +kernel
theorem f115_85 : q_fetch 115 85 = some (.if_acmp .ne (11), 3, 96) := by decide +kernel
theorem f115_88 : q_fetch 115 88 = some (.iload 4, 2, 0) := by decide +kernel
theorem f115_90 : q_fetch 115 90 = some (.iload 5, 2, 0) := by decide +kernel
theorem f115_92 : q_fetch 115 92 = some (.ior, 1, 0) := by decide +kernel
theorem f115_93 : q_fetch 115 93 = some (.goto 8, 3, 101) := by decide +kernel
theorem f115_96 : q_fetch 115 96 = some (.iload 4, 2, 0) := by decide +kernel
theorem f115_98 : q_fetch 115 98 = some (.iload 5, 2, 0) := by decide +kernel
theorem f115_100 : q_fetch 115 100 = some (.iand, 1, 0) := by decide +kernel
theorem f115_101 : q_fetch 115 101 = some (.ireturn, 1, 0) := by decide +kernel
theorem f116_0 : q_fetch 116 0 = some (.iload_n 1, 1, 0) := by decide +kernel
theorem f116_1 : q_fetch 116 1 = some (.invokestatic 122, 3, 109) := by decide +kernel
theorem f116_4 : q_fetch 116 4 = some (.istore_n 3, 1, 0) := by decide +kernel
theorem f116_5 : q_fetch 116 5 = some (.iload_n 3, 1, 0) := by decide +kernel
theorem f116_6 : q_fetch 116 6 = some (.iload_n 2, 1, 0) := by decide +kernel
theorem f116_7 : q_fetch 116 7 = some (.invokestatic 122, 3, 109) := by decide +kernel
theorem f116_10 : q_fetch 116 10 = some (.if_icmp .ne (7), 3, 17) := by decide +kernel
theorem f116_13 : q_fetch 116 13 = some (.iconst 1, 1, 0) := by decide +kernel
theorem f116_14 : q_fetch 116 14 = some (.goto 4, 3, 18) := by decide +kernel
theorem f116_17 : q_fetch 116 17 = some (.iconst 0, 1, 0) := by decide +kernel
theorem f116_18 : q_fetch 116 18 = some (.istore 4, 2, 0) := by decide +kernel
theorem f116_20 : q_fetch 116 20 = some (.getstatic 89, 3, 35) := by decide +kernel
theorem f116_23 : q_fetch 116 23 = some (.aload_n 0, 1, 0) := by decide +kernel
theorem f116_24 : q_fetch 116 24 = some (.invokevirtual 94, 3, 64) := by decide +kernel
theorem f116_27 : q_fetch 116 27 = some (.iaload, 1, 0) := by decide +kernel
theorem f116_28 : q_fetch 116 28 = some (.tableswitch (119) (14) (21) #[48, 48, 81, 100, 100, 119, 62, 62], 48, 0) := by decide +kernel
theorem f116_76 : q_fetch 116 76 = some (.iload 4, 2, 0) := by decide +kernel
theorem f116_78 : q_fetch 116 78 = some (.ifCond .eq (10), 3, 88) := by decide +kernel
theorem f116_81 : q_fetch 116 81 = some (.iconst 2, 1, 0) := by decide +kernel
theorem f116_82 : q_fetch 116 82 = some (.invokestatic 42, 3, 91) := by decide +kernel
theorem f116_85 : q_fetch 116 85 = some (.goto 4, 3, 89) := by decide +kernel
theorem f116_88 : q_fetch 116 88 = some (.iconst (-1), 1, 0) := by decide +kernel
theorem f116_89 : q_fetch 116 89 = some (.ireturn, 1, 0) := by decide +kernel
theorem f116_90 : q_fetch 116 90 = some (.iload 4, 2, 0) := by decide +kernel
theorem f116_92 : q_fetch 116 92 = some (.ifCond .eq (15), 3, 107) := by decide +kernel
theorem f116_95 : q_fetch 116 95 = some (.iload_n 3, 1, 0) := by decide +kernel
theorem f116_96 : q_fetch 116 96 = some (.iconst 2, 1, 0) := by decide +kernel
theorem f116_97 : q_fetch 116 97 = some (.if_icmp .ne (10), 3, 107) := by decide +kernel
theorem f116_100 : q_fetch 116 100 = some (.iconst 2, 1, 0) := by decide +kernel
theorem f116_101 : q_fetch 116 101 = some (.invokestatic 42, 3, 91) := by decide +kernel
theorem f116_104 : q_fetch 116 104 = some (.goto 4, 3, 108) := by decide +kernel
theorem f116_107 : q_fetch 116 107 = some (.iconst (-1), 1, 0) := by decide +kernel
theorem f116_108 : q_fetch 116 108 = some (.ireturn, 1, 0) := by decide +kernel
theorem f116_109 : q_fetch 116 109 = some (.iload 4, 2, 0) := by decide +kernel
theorem f116_111 : q_fetch 116 111 = some (.ifCond .eq (15), 3, 126) := by decide +kernel
theorem f116_114 : q_fetch 116 114 = some (.iload_n 3, 1, 0) := by decide +kernel
theorem f116_115 : q_fetch 116 115 = some (.iconst 3, 1, 0) := by decide +kernel
theorem f116_116 : q_fetch 116 116 = some (.if_icmp .ne (10), 3, 126) := by decide +kernel
theorem f116_119 : q_fetch 116 119 = some (.iconst 2, 1, 0) := by decide +kernel
theorem f116_120 : q_fetch 116 120 = some (.invokestatic 42, 3, 91) := by decide +kernel
theorem f116_123 : q_fetch 116 123 = some (.goto 4, 3, 127) := by decide +kernel
theorem f116_126 : q_fetch 116 126 = some (.iconst (-1), 1, 0) := by decide +kernel
theorem f116_127 : q_fetch 116 127 = some (.ireturn, 1, 0) := by decide +kernel
theorem f116_128 : q_fetch 116 128 = some (.iload 4, 2, 0) := by decide +kernel
theorem f116_130 : q_fetch 116 130 = some (.ifCond .eq (15), 3, 145) := by decide +kernel
theorem f116_133 : q_fetch 116 133 = some (.iload_n 3, 1, 0) := by decide +kernel
theorem f116_134 : q_fetch 116 134 = some (.iconst 1, 1, 0) := by decide +kernel
theorem f116_135 : q_fetch 116 135 = some (.if_icmp .ne (10), 3, 145) := by decide +kernel
theorem f116_138 : q_fetch 116 138 = some (.iconst 2, 1, 0) := by decide +kernel
theorem f116_139 : q_fetch 116 139 = some (.invokestatic 42, 3, 91) := by decide +kernel
theorem f116_142 : q_fetch 116 142 = some (.goto 4, 3, 146) := by decide +kernel
theorem f116_145 : q_fetch 116 145 = some (.iconst (-1), 1, 0) := by decide +kernel
theorem f116_146 : q_fetch 116 146 = some (.ireturn, 1, 0) := by decide +kernel
theorem f116_147 : q_fetch 116 147 = some (.iload 4, 2, 0) := by decide +kernel
theorem f116_149 : q_fetch 116 149 = some (.ifCond .eq (15), 3, 164) := by decide +kernel
theorem f116_152 : q_fetch 116 152 = some (.iload_n 3, 1, 0) := by decide +kernel
theorem f116_153 : q_fetch 116 153 = some (.iconst 1, 1, 0) := by decide +kernel
theorem f116_154 : q_fetch 116 154 = some (.if_icmp .ne (10), 3, 164) := by decide +kernel
theorem f116_157 : q_fetch 116 157 = some (.iconst 1, 1, 0) := by decide +kernel
theorem f116_158 : q_fetch 116 158 = some (.invokestatic 42, 3, 91) := by decide +kernel
theorem f116_161 : q_fetch 116 161 = some (.goto 4, 3, 165) := by decide +kernel
theorem f116_164 : q_fetch 116 164 = some (.iconst (-1), 1, 0) := by decide +kernel
theorem f116_165 : q_fetch 116 165 = some (.ireturn, 1, 0) := by decide +kernel
theorem f117_0 : q_fetch 117 0 = some (.aload 5, 2, 0) := by decide +kernel
theorem f117_2 : q_fetch 117 2 = some (.iconst 0, 1, 0) := by decide +kernel
theorem f117_3 : q_fetch 117 3 = some (.aload_n 0, 1, 0) := by decide +kernel
theorem f117_4 : q_fetch 117 4 = some (.iload_n 1, 1, 0) := by decide +kernel
theorem f117_5 : q_fetch 117 5 = some (.iload_n 2, 1, 0) := by decide +kernel
theorem f117_6 : q_fetch 117 6 = some (.iload_n 3, 1, 0) := by decide +kernel
theorem f117_7 : q_fetch 117 7 = some (.iload 4, 2, 0) := by decide +kernel
theorem f117_9 : q_fetch 117 9 = some (.invokevirtual 48, 3, 118) := by decide +kernel
theorem f117_12 : q_fetch 117 12 = some (.ifCond .eq (7), 3, 19) := by decide +kernel
theorem f117_15 : q_fetch 117 15 = some (.lconst 1, 1, 0) := by decide +kernel
theorem f117_16 : q_fetch 117 16 = some (.goto 4, 3, 20) := by decide +kernel
theorem f117_19 : q_fetch 117 19 = some (.lconst 0, 1, 0) := by decide +kernel
theorem f117_20 : q_fetch 117 20 = some (.lastore, 1, 0) := by decide +kernel
theorem f117_21 : q_fetch 117 21 = some (.goto 23, 3, 44) := by decide +kernel
