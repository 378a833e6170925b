theorem d_Rd_readPattern_0 : decode prog_6_method_3_code 0 = .ok (.aload_n 0, 1) := by decide +kernel
theorem d_Rd_readPattern_1 : decode prog_6_method_3_code 1 = .ok (.getfield 20, 3) := by decide +kernel
theorem d_Rd_readPattern_4 : decode prog_6_method_3_code 4 = .ok (.iload_n 1, 1) := by decide +kernel
theorem d_Rd_readPattern_5 : decode prog_6_method_3_code 5 = .ok (.bipush 8, 2) := by decide +kernel
theorem d_Rd_readPattern_7 : decode prog_6_method_3_code 7 = .ok (.iadd, 1) := by decide +kernel
theorem d_Rd_readPattern_8 : decode prog_6_method_3_code 8 = .ok (.iconst 2, 1) := by decide +kernel
theorem d_Rd_readPattern_9 : decode prog_6_method_3_code 9 = .ok (.invokevirtual 24, 3) := by decide +kernel
theorem d_Rd_readPattern_12 : decode prog_6_method_3_code 12 = .ok (.l2i, 1) := by decide +kernel
theorem d_Rd_readPattern_13 : decode prog_6_method_3_code 13 = .ok (.istore_n 3, 1) := by decide +kernel
theorem d_Rd_readPattern_14 : decode prog_6_method_3_code 14 = .ok (.aload_n 2, 1) := by decide +kernel
theorem d_Rd_readPattern_15 : decode prog_6_method_3_code 15 = .ok (.iload_n 3, 1) := by decide +kernel
theorem d_Rd_readPattern_16 : decode prog_6_method_3_code 16 = .ok (.ldc 46, 2) := by decide +kernel
theorem d_Rd_readPattern_18 : decode prog_6_method_3_code 18 = .ok (.if_icmp .lt 7, 3) := by decide +kernel
theorem d_Rd_readPattern_21 : decode prog_6_method_3_code 21 = .ok (.iconst 1, 1) := by decide +kernel
theorem d_Rd_readPattern_22 : decode prog_6_method_3_code 22 = .ok (.goto 4, 3) := by decide +kernel
theorem d_Rd_readPattern_25 : decode prog_6_method_3_code 25 = .ok (.iconst 0, 1) := by decide +kernel
theorem d_Rd_readPattern_26 : decode prog_6_method_3_code 26 = .ok (.iload_n 3, 1) := by decide +kernel
theorem d_Rd_readPattern_27 : decode prog_6_method_3_code 27 = .ok (.sipush 32767, 3) := by decide +kernel
theorem d_Rd_readPattern_30 : decode prog_6_method_3_code 30 = .ok (.iand, 1) := by decide +kernel
theorem d_Rd_readPattern_31 : decode prog_6_method_3_code 31 = .ok (.aload_n 0, 1) := by decide +kernel
theorem d_Rd_readPattern_32 : decode prog_6_method_3_code 32 = .ok (.getfield 20, 3) := by decide +kernel
theorem d_Rd_readPattern_35 : decode prog_6_method_3_code 35 = .ok (.iload_n 1, 1) := by decide +kernel
theorem d_Rd_readPattern_36 : decode prog_6_method_3_code 36 = .ok (.bipush 8, 2) := by decide +kernel
theorem d_Rd_readPattern_38 : decode prog_6_method_3_code 38 = .ok (.invokevirtual 24, 3) := by decide +kernel
theorem d_Rd_readPattern_41 : decode prog_6_method_3_code 41 = .ok (.invokevirtual 47, 3) := by decide +kernel
theorem d_Rd_readPattern_44 : decode prog_6_method_3_code 44 = .ok (.return_, 1) := by decide +kernel
theorem d_Rd_putNumber_0 : decode prog_6_method_7_code 0 = .ok (.lload_n 2, 1) := by decide +kernel
theorem d_Rd_putNumber_1 : decode prog_6_method_7_code 1 = .ok (.lconst 0, 1) := by decide +kernel
theorem d_Rd_putNumber_2 : decode prog_6_method_7_code 2 = .ok (.lcmp, 1) := by decide +kernel
theorem d_Rd_putNumber_3 : decode prog_6_method_7_code 3 = .ok (.ifCond .ne 10, 3) := by decide +kernel
theorem d_Rd_putNumber_6 : decode prog_6_method_7_code 6 = .ok (.aload 5, 2) := by decide +kernel
theorem d_Rd_putNumber_8 : decode prog_6_method_7_code 8 = .ok (.iload_n 1, 1) := by decide +kernel
theorem d_Rd_putNumber_9 : decode prog_6_method_7_code 9 = .ok (.invokevirtual 71, 3) := by decide +kernel
theorem d_Rd_putNumber_12 : decode prog_6_method_7_code 12 = .ok (.return_, 1) := by decide +kernel
theorem d_Rd_putNumber_13 : decode prog_6_method_7_code 13 = .ok (.aload_n 0, 1) := by decide +kernel
theorem d_Rd_putNumber_14 : decode prog_6_method_7_code 14 = .ok (.getfield 10, 3) := by decide +kernel
theorem d_Rd_putNumber_17 : decode prog_6_method_7_code 17 = .ok (.lload_n 2, 1) := by decide +kernel
theorem d_Rd_putNumber_18 : decode prog_6_method_7_code 18 = .ok (.iload 4, 2) := by decide +kernel
theorem d_Rd_putNumber_20 : decode prog_6_method_7_code 20 = .ok (.invokevirtual 75, 3) := by decide +kernel
theorem d_Rd_putNumber_23 : decode prog_6_method_7_code 23 = .ok (.aload 5, 2) := by decide +kernel
theorem d_Rd_putNumber_25 : decode prog_6_method_7_code 25 = .ok (.iload_n 1, 1) := by decide +kernel
theorem d_Rd_putNumber_26 : decode prog_6_method_7_code 26 = .ok (.aload_n 0, 1) := by decide +kernel
theorem d_Rd_putNumber_27 : decode prog_6_method_7_code 27 = .ok (.getfield 10, 3) := by decide +kernel
theorem d_Rd_putNumber_30 : decode prog_6_method_7_code 30 = .ok (.invokevirtual 79, 3) := by decide +kernel
theorem d_Rd_putNumber_33 : decode prog_6_method_7_code 33 = .ok (.sipush 16383, 3) := by decide +kernel
theorem d_Rd_putNumber_36 : decode prog_6_method_7_code 36 = .ok (.iadd, 1) := by decide +kernel
theorem d_Rd_putNumber_37 : decode prog_6_method_7_code 37 = .ok (.aload_n 0, 1) := by decide +kernel
theorem d_Rd_putNumber_38 : decode prog_6_method_7_code 38 = .ok (.getfield 10, 3) := by decide +kernel
theorem d_Rd_putNumber_41 : decode prog_6_method_7_code 41 = .ok (.getfield 83, 3) := by decide +kernel
theorem d_Rd_putNumber_44 : decode prog_6_method_7_code 44 = .ok (.invokevirtual 47, 3) := by decide +kernel
theorem d_Rd_putNumber_47 : decode prog_6_method_7_code 47 = .ok (.return_, 1) := by decide +kernel
theorem d_Rd_readWhole_0 : decode prog_6_method_4_code 0 = .ok (.aload_n 0, 1) := by decide +kernel
theorem d_Rd_readWhole_1 : decode prog_6_method_4_code 1 = .ok (.lload_n 1, 1) := by decide +kernel
theorem d_Rd_readWhole_2 : decode prog_6_method_4_code 2 = .ok (.lconst 0, 1) := by decide +kernel
theorem d_Rd_readWhole_3 : decode prog_6_method_4_code 3 = .ok (.lcmp, 1) := by decide +kernel
theorem d_Rd_readWhole_4 : decode prog_6_method_4_code 4 = .ok (.ifCond .ge 7, 3) := by decide +kernel
theorem d_Rd_readWhole_7 : decode prog_6_method_4_code 7 = .ok (.iconst 1, 1) := by decide +kernel
theorem d_Rd_readWhole_8 : decode prog_6_method_4_code 8 = .ok (.goto 4, 3) := by decide +kernel
theorem d_Rd_readWhole_11 : decode prog_6_method_4_code 11 = .ok (.iconst 0, 1) := by decide +kernel
theorem d_Rd_readWhole_12 : decode prog_6_method_4_code 12 = .ok (.lload_n 1, 1) := by decide +kernel
theorem d_Rd_readWhole_13 : decode prog_6_method_4_code 13 = .ok (.lconst 0, 1) := by decide +kernel
theorem d_Rd_readWhole_14 : decode prog_6_method_4_code 14 = .ok (.lcmp, 1) := by decide +kernel
theorem d_Rd_readWhole_15 : decode prog_6_method_4_code 15 = .ok (.ifCond .ge 8, 3) := by decide +kernel
theorem d_Rd_readWhole_18 : decode prog_6_method_4_code 18 = .ok (.lload_n 1, 1) := by decide +kernel
theorem d_Rd_readWhole_19 : decode prog_6_method_4_code 19 = .ok (.lneg, 1) := by decide +kernel
theorem d_Rd_readWhole_20 : decode prog_6_method_4_code 20 = .ok (.goto 4, 3) := by decide +kernel
theorem d_Rd_readWhole_23 : decode prog_6_method_4_code 23 = .ok (.lload_n 1, 1) := by decide +kernel
theorem d_Rd_readWhole_24 : decode prog_6_method_4_code 24 = .ok (.iconst 0, 1) := by decide +kernel
theorem d_Rd_readWhole_25 : decode prog_6_method_4_code 25 = .ok (.aload_n 3, 1) := by decide +kernel
theorem d_Rd_readWhole_26 : decode prog_6_method_4_code 26 = .ok (.invokevirtual 53, 3) := by decide +kernel
theorem d_Rd_readWhole_29 : decode prog_6_method_4_code 29 = .ok (.return_, 1) := by decide +kernel
theorem d_Rd_readFloating_0 : decode prog_6_method_6_code 0 = .ok (.lload_n 1, 1) := by decide +kernel
theorem d_Rd_readFloating_1 : decode prog_6_method_6_code 1 = .ok (.lconst 0, 1) := by decide +kernel
theorem d_Rd_readFloating_2 : decode prog_6_method_6_code 2 = .ok (.lcmp, 1) := by decide +kernel
theorem d_Rd_readFloating_3 : decode prog_6_method_6_code 3 = .ok (.ifCond .ge 7, 3) := by decide +kernel
theorem d_Rd_readFloating_6 : decode prog_6_method_6_code 6 = .ok (.iconst 1, 1) := by decide +kernel
theorem d_Rd_readFloating_7 : decode prog_6_method_6_code 7 = .ok (.goto 4, 3) := by decide +kernel
theorem d_Rd_readFloating_10 : decode prog_6_method_6_code 10 = .ok (.iconst 0, 1) := by decide +kernel
theorem d_Rd_readFloating_11 : decode prog_6_method_6_code 11 = .ok (.istore 5, 2) := by decide +kernel
theorem d_Rd_readFloating_13 : decode prog_6_method_6_code 13 = .ok (.iconst 1, 1) := by decide +kernel
theorem d_Rd_readFloating_14 : decode prog_6_method_6_code 14 = .ok (.iload_n 3, 1) := by decide +kernel
theorem d_Rd_readFloating_15 : decode prog_6_method_6_code 15 = .ok (.ishl, 1) := by decide +kernel
theorem d_Rd_readFloating_16 : decode prog_6_method_6_code 16 = .ok (.iconst 1, 1) := by decide +kernel
theorem d_Rd_readFloating_17 : decode prog_6_method_6_code 17 = .ok (.isub, 1) := by decide +kernel
theorem d_Rd_readFloating_18 : decode prog_6_method_6_code 18 = .ok (.istore 6, 2) := by decide +kernel
theorem d_Rd_readFloating_20 : decode prog_6_method_6_code 20 = .ok (.lload_n 1, 1) := by decide +kernel
theorem d_Rd_readFloating_21 : decode prog_6_method_6_code 21 = .ok (.bipush 63, 2) := by decide +kernel
theorem d_Rd_readFloating_23 : decode prog_6_method_6_code 23 = .ok (.iload_n 3, 1) := by decide +kernel
theorem d_Rd_readFloating_24 : decode prog_6_method_6_code 24 = .ok (.isub, 1) := by decide +kernel
theorem d_Rd_readFloating_25 : decode prog_6_method_6_code 25 = .ok (.lushr, 1) := by decide +kernel
theorem d_Rd_readFloating_26 : decode prog_6_method_6_code 26 = .ok (.l2i, 1) := by decide +kernel
theorem d_Rd_readFloating_27 : decode prog_6_method_6_code 27 = .ok (.iload 6, 2) := by decide +kernel
theorem d_Rd_readFloating_29 : decode prog_6_method_6_code 29 = .ok (.iand, 1) := by decide +kernel
theorem d_Rd_readFloating_30 : decode prog_6_method_6_code 30 = .ok (.istore 7, 2) := by decide +kernel
theorem d_Rd_readFloating_32 : decode prog_6_method_6_code 32 = .ok (.lload_n 1, 1) := by decide +kernel
theorem d_Rd_readFloating_33 : decode prog_6_method_6_code 33 = .ok (.iload_n 3, 1) := by decide +kernel
theorem d_Rd_readFloating_34 : decode prog_6_method_6_code 34 = .ok (.iconst 1, 1) := by decide +kernel
theorem d_Rd_readFloating_35 : decode prog_6_method_6_code 35 = .ok (.iadd, 1) := by decide +kernel
theorem d_Rd_readFloating_36 : decode prog_6_method_6_code 36 = .ok (.lshl, 1) := by decide +kernel
theorem d_Rd_readFloating_37 : decode prog_6_method_6_code 37 = .ok (.iconst 1, 1) := by decide +kernel
theorem d_Rd_readFloating_38 : decode prog_6_method_6_code 38 = .ok (.lushr, 1) := by decide +kernel
theorem d_Rd_readFloating_39 : decode prog_6_method_6_code 39 = .ok (.lstore 8, 2) := by decide +kernel
theorem d_Rd_readFloating_41 : decode prog_6_method_6_code 41 = .ok (.iload 7, 2) := by decide +kernel
theorem d_Rd_readFloating_43 : decode prog_6_method_6_code 43 = .ok (.iload 6, 2) := by decide +kernel
theorem d_Rd_readFloating_45 : decode prog_6_method_6_code 45 = .ok (.if_icmp .ne 20, 3) := by decide +kernel
theorem d_Rd_readFloating_48 : decode prog_6_method_6_code 48 = .ok (.aload 4, 2) := by decide +kernel
theorem d_Rd_readFloating_50 : decode prog_6_method_6_code 50 = .ok (.iload 5, 2) := by decide +kernel
theorem d_Rd_readFloating_52 : decode prog_6_method_6_code 52 = .ok (.sipush 32767, 3) := by decide +kernel
theorem d_Rd_readFloating_55 : decode prog_6_method_6_code 55 = .ok (.ldc2_w 63, 3) := by decide +kernel
theorem d_Rd_readFloating_58 : decode prog_6_method_6_code 58 = .ok (.lload 8, 2) := by decide +kernel
theorem d_Rd_readFloating_60 : decode prog_6_method_6_code 60 = .ok (.lor, 1) := by decide +kernel
theorem d_Rd_readFloating_61 : decode prog_6_method_6_code 61 = .ok (.invokevirtual 47, 3) := by decide +kernel
theorem d_Rd_readFloating_64 : decode prog_6_method_6_code 64 = .ok (.return_, 1) := by decide +kernel
theorem d_Rd_readFloating_65 : decode prog_6_method_6_code 65 = .ok (.iload 7, 2) := by decide +kernel
theorem d_Rd_readFloating_67 : decode prog_6_method_6_code 67 = .ok (.ifCond .ne 7, 3) := by decide +kernel
theorem d_Rd_readFloating_70 : decode prog_6_method_6_code 70 = .ok (.iconst 1, 1) := by decide +kernel
theorem d_Rd_readFloating_71 : decode prog_6_method_6_code 71 = .ok (.goto 4, 3) := by decide +kernel
theorem d_Rd_readFloating_74 : decode prog_6_method_6_code 74 = .ok (.iconst 0, 1) := by decide +kernel
theorem d_Rd_readFloating_75 : decode prog_6_method_6_code 75 = .ok (.istore 10, 2) := by decide +kernel
theorem d_Rd_readFloating_77 : decode prog_6_method_6_code 77 = .ok (.iload 10, 2) := by decide +kernel
theorem d_Rd_readFloating_79 : decode prog_6_method_6_code 79 = .ok (.ifCond .eq 18, 3) := by decide +kernel
theorem d_Rd_readFloating_82 : decode prog_6_method_6_code 82 = .ok (.lload 8, 2) := by decide +kernel
theorem d_Rd_readFloating_84 : decode prog_6_method_6_code 84 = .ok (.lconst 0, 1) := by decide +kernel
theorem d_Rd_readFloating_85 : decode prog_6_method_6_code 85 = .ok (.lcmp, 1) := by decide +kernel
theorem d_Rd_readFloating_86 : decode prog_6_method_6_code 86 = .ok (.ifCond .eq 11, 3) := by decide +kernel
theorem d_Rd_readFloating_89 : decode prog_6_method_6_code 89 = .ok (.aload_n 0, 1) := by decide +kernel
theorem d_Rd_readFloating_90 : decode prog_6_method_6_code 90 = .ok (.getfield 16, 3) := by decide +kernel
theorem d_Rd_readFloating_93 : decode prog_6_method_6_code 93 = .ok (.iconst 2, 1) := by decide +kernel
theorem d_Rd_readFloating_94 : decode prog_6_method_6_code 94 = .ok (.invokevirtual 67, 3) := by decide +kernel
theorem d_Rd_readFloating_97 : decode prog_6_method_6_code 97 = .ok (.iload 10, 2) := by decide +kernel
theorem d_Rd_readFloating_99 : decode prog_6_method_6_code 99 = .ok (.ifCond .eq 8, 3) := by decide +kernel
theorem d_Rd_readFloating_102 : decode prog_6_method_6_code 102 = .ok (.lload 8, 2) := by decide +kernel
theorem d_Rd_readFloating_104 : decode prog_6_method_6_code 104 = .ok (.goto 9, 3) := by decide +kernel
theorem d_Rd_readFloating_107 : decode prog_6_method_6_code 107 = .ok (.ldc2_w 63, 3) := by decide +kernel
theorem d_Rd_readFloating_110 : decode prog_6_method_6_code 110 = .ok (.lload 8, 2) := by decide +kernel
theorem d_Rd_readFloating_112 : decode prog_6_method_6_code 112 = .ok (.lor, 1) := by decide +kernel
theorem d_Rd_readFloating_113 : decode prog_6_method_6_code 113 = .ok (.lstore 11, 2) := by decide +kernel
theorem d_Rd_readFloating_115 : decode prog_6_method_6_code 115 = .ok (.aload_n 0, 1) := by decide +kernel
theorem d_Rd_readFloating_116 : decode prog_6_method_6_code 116 = .ok (.iload 5, 2) := by decide +kernel
theorem d_Rd_readFloating_118 : decode prog_6_method_6_code 118 = .ok (.lload 11, 2) := by decide +kernel
theorem d_Rd_readFloating_120 : decode prog_6_method_6_code 120 = .ok (.iload 10, 2) := by decide +kernel
theorem d_Rd_readFloating_122 : decode prog_6_method_6_code 122 = .ok (.ifCond .eq 7, 3) := by decide +kernel
theorem d_Rd_readFloating_125 : decode prog_6_method_6_code 125 = .ok (.iconst 1, 1) := by decide +kernel
theorem d_Rd_readFloating_126 : decode prog_6_method_6_code 126 = .ok (.goto 5, 3) := by decide +kernel
theorem d_Rd_readFloating_129 : decode prog_6_method_6_code 129 = .ok (.iload 7, 2) := by decide +kernel
theorem d_Rd_readFloating_131 : decode prog_6_method_6_code 131 = .ok (.iload 6, 2) := by decide +kernel
theorem d_Rd_readFloating_133 : decode prog_6_method_6_code 133 = .ok (.iconst 1, 1) := by decide +kernel
theorem d_Rd_readFloating_134 : decode prog_6_method_6_code 134 = .ok (.ishr, 1) := by decide +kernel
theorem d_Rd_readFloating_135 : decode prog_6_method_6_code 135 = .ok (.isub, 1) := by decide +kernel
theorem d_Rd_readFloating_136 : decode prog_6_method_6_code 136 = .ok (.bipush 63, 2) := by decide +kernel
theorem d_Rd_readFloating_138 : decode prog_6_method_6_code 138 = .ok (.isub, 1) := by decide +kernel
theorem d_Rd_readFloating_139 : decode prog_6_method_6_code 139 = .ok (.aload 4, 2) := by decide +kernel
theorem d_Rd_readFloating_141 : decode prog_6_method_6_code 141 = .ok (.invokevirtual 53, 3) := by decide +kernel
theorem d_Rd_readFloating_144 : decode prog_6_method_6_code 144 = .ok (.return_, 1) := by decide +kernel
theorem d_Rd_readDecimals_0 : decode prog_6_method_5_code 0 = .ok (.lconst 0, 1) := by decide +kernel
theorem d_Rd_readDecimals_1 : decode prog_6_method_5_code 1 = .ok (.lstore_n 2, 1) := by decide +kernel
theorem d_Rd_readDecimals_2 : decode prog_6_method_5_code 2 = .ok (.bipush 17, 2) := by decide +kernel
theorem d_Rd_readDecimals_4 : decode prog_6_method_5_code 4 = .ok (.istore 4, 2) := by decide +kernel
theorem d_Rd_readDecimals_6 : decode prog_6_method_5_code 6 = .ok (.iload 4, 2) := by decide +kernel
theorem d_Rd_readDecimals_8 : decode prog_6_method_5_code 8 = .ok (.ifCond .lt 39, 3) := by decide +kernel
theorem d_Rd_readDecimals_11 : decode prog_6_method_5_code 11 = .ok (.lload_n 2, 1) := by decide +kernel
theorem d_Rd_readDecimals_12 : decode prog_6_method_5_code 12 = .ok (.ldc2_w 57, 3) := by decide +kernel
theorem d_Rd_readDecimals_15 : decode prog_6_method_5_code 15 = .ok (.lmul, 1) := by decide +kernel
theorem d_Rd_readDecimals_16 : decode prog_6_method_5_code 16 = .ok (.aload_n 0, 1) := by decide +kernel
theorem d_Rd_readDecimals_17 : decode prog_6_method_5_code 17 = .ok (.getfield 20, 3) := by decide +kernel
theorem d_Rd_readDecimals_20 : decode prog_6_method_5_code 20 = .ok (.iload 4, 2) := by decide +kernel
theorem d_Rd_readDecimals_22 : decode prog_6_method_5_code 22 = .ok (.iconst 1, 1) := by decide +kernel
theorem d_Rd_readDecimals_23 : decode prog_6_method_5_code 23 = .ok (.ishr, 1) := by decide +kernel
theorem d_Rd_readDecimals_24 : decode prog_6_method_5_code 24 = .ok (.iconst 1, 1) := by decide +kernel
theorem d_Rd_readDecimals_25 : decode prog_6_method_5_code 25 = .ok (.invokevirtual 24, 3) := by decide +kernel
theorem d_Rd_readDecimals_28 : decode prog_6_method_5_code 28 = .ok (.iconst 4, 1) := by decide +kernel
theorem d_Rd_readDecimals_29 : decode prog_6_method_5_code 29 = .ok (.iload 4, 2) := by decide +kernel
theorem d_Rd_readDecimals_31 : decode prog_6_method_5_code 31 = .ok (.iconst 1, 1) := by decide +kernel
theorem d_Rd_readDecimals_32 : decode prog_6_method_5_code 32 = .ok (.iand, 1) := by decide +kernel
theorem d_Rd_readDecimals_33 : decode prog_6_method_5_code 33 = .ok (.imul, 1) := by decide +kernel
theorem d_Rd_readDecimals_34 : decode prog_6_method_5_code 34 = .ok (.lshr, 1) := by decide +kernel
theorem d_Rd_readDecimals_35 : decode prog_6_method_5_code 35 = .ok (.ldc2_w 59, 3) := by decide +kernel
theorem d_Rd_readDecimals_38 : decode prog_6_method_5_code 38 = .ok (.land, 1) := by decide +kernel
theorem d_Rd_readDecimals_39 : decode prog_6_method_5_code 39 = .ok (.ladd, 1) := by decide +kernel
theorem d_Rd_readDecimals_40 : decode prog_6_method_5_code 40 = .ok (.lstore_n 2, 1) := by decide +kernel
theorem d_Rd_readDecimals_41 : decode prog_6_method_5_code 41 = .ok (.iinc 4 (-1), 3) := by decide +kernel
theorem d_Rd_readDecimals_44 : decode prog_6_method_5_code 44 = .ok (.goto (-38), 3) := by decide +kernel
theorem d_Rd_readDecimals_47 : decode prog_6_method_5_code 47 = .ok (.aload_n 0, 1) := by decide +kernel
theorem d_Rd_readDecimals_48 : decode prog_6_method_5_code 48 = .ok (.aload_n 0, 1) := by decide +kernel
theorem d_Rd_readDecimals_49 : decode prog_6_method_5_code 49 = .ok (.getfield 20, 3) := by decide +kernel
theorem d_Rd_readDecimals_52 : decode prog_6_method_5_code 52 = .ok (.bipush 9, 2) := by decide +kernel
theorem d_Rd_readDecimals_54 : decode prog_6_method_5_code 54 = .ok (.iconst 1, 1) := by decide +kernel
theorem d_Rd_readDecimals_55 : decode prog_6_method_5_code 55 = .ok (.invokevirtual 24, 3) := by decide +kernel
theorem d_Rd_readDecimals_58 : decode prog_6_method_5_code 58 = .ok (.ldc2_w 61, 3) := by decide +kernel
theorem d_Rd_readDecimals_61 : decode prog_6_method_5_code 61 = .ok (.lcmp, 1) := by decide +kernel
theorem d_Rd_readDecimals_62 : decode prog_6_method_5_code 62 = .ok (.ifCond .lt 7, 3) := by decide +kernel
theorem d_Rd_readDecimals_65 : decode prog_6_method_5_code 65 = .ok (.iconst 1, 1) := by decide +kernel
theorem d_Rd_readDecimals_66 : decode prog_6_method_5_code 66 = .ok (.goto 4, 3) := by decide +kernel
theorem d_Rd_readDecimals_69 : decode prog_6_method_5_code 69 = .ok (.iconst 0, 1) := by decide +kernel
theorem d_Rd_readDecimals_70 : decode prog_6_method_5_code 70 = .ok (.lload_n 2, 1) := by decide +kernel
theorem d_Rd_readDecimals_71 : decode prog_6_method_5_code 71 = .ok (.iconst 0, 1) := by decide +kernel
theorem d_Rd_readDecimals_72 : decode prog_6_method_5_code 72 = .ok (.aload_n 1, 1) := by decide +kernel
theorem d_Rd_readDecimals_73 : decode prog_6_method_5_code 73 = .ok (.invokevirtual 53, 3) := by decide +kernel
theorem d_Rd_readDecimals_76 : decode prog_6_method_5_code 76 = .ok (.return_, 1) := by decide +kernel
theorem d_Rd_read_0 : decode prog_6_method_2_code 0 = .ok (.iload_n 1, 1) := by decide +kernel
theorem d_Rd_read_1 : decode prog_6_method_2_code 1 = .ok (.tableswitch 146 0 5 #[39, 59, 78, 96, 118, 138], 39) := by decide +kernel
theorem d_Rd_read_40 : decode prog_6_method_2_code 40 = .ok (.aload_n 0, 1) := by decide +kernel
theorem d_Rd_read_41 : decode prog_6_method_2_code 41 = .ok (.aload_n 0, 1) := by decide +kernel
theorem d_Rd_read_42 : decode prog_6_method_2_code 42 = .ok (.getfield 20, 3) := by decide +kernel
theorem d_Rd_read_45 : decode prog_6_method_2_code 45 = .ok (.iconst 0, 1) := by decide +kernel
theorem d_Rd_read_46 : decode prog_6_method_2_code 46 = .ok (.iconst 2, 1) := by decide +kernel
theorem d_Rd_read_47 : decode prog_6_method_2_code 47 = .ok (.invokevirtual 24, 3) := by decide +kernel
theorem d_Rd_read_50 : decode prog_6_method_2_code 50 = .ok (.l2i, 1) := by decide +kernel
theorem d_Rd_read_51 : decode prog_6_method_2_code 51 = .ok (.i2s, 1) := by decide +kernel
theorem d_Rd_read_52 : decode prog_6_method_2_code 52 = .ok (.i2l, 1) := by decide +kernel
theorem d_Rd_read_53 : decode prog_6_method_2_code 53 = .ok (.aload_n 2, 1) := by decide +kernel
theorem d_Rd_read_54 : decode prog_6_method_2_code 54 = .ok (.invokevirtual 30, 3) := by decide +kernel
theorem d_Rd_read_57 : decode prog_6_method_2_code 57 = .ok (.goto 96, 3) := by decide +kernel
theorem d_Rd_read_60 : decode prog_6_method_2_code 60 = .ok (.aload_n 0, 1) := by decide +kernel
theorem d_Rd_read_61 : decode prog_6_method_2_code 61 = .ok (.aload_n 0, 1) := by decide +kernel
theorem d_Rd_read_62 : decode prog_6_method_2_code 62 = .ok (.getfield 20, 3) := by decide +kernel
theorem d_Rd_read_65 : decode prog_6_method_2_code 65 = .ok (.iconst 0, 1) := by decide +kernel
theorem d_Rd_read_66 : decode prog_6_method_2_code 66 = .ok (.iconst 4, 1) := by decide +kernel
theorem d_Rd_read_67 : decode prog_6_method_2_code 67 = .ok (.invokevirtual 24, 3) := by decide +kernel
theorem d_Rd_read_70 : decode prog_6_method_2_code 70 = .ok (.l2i, 1) := by decide +kernel
theorem d_Rd_read_71 : decode prog_6_method_2_code 71 = .ok (.i2l, 1) := by decide +kernel
theorem d_Rd_read_72 : decode prog_6_method_2_code 72 = .ok (.aload_n 2, 1) := by decide +kernel
theorem d_Rd_read_73 : decode prog_6_method_2_code 73 = .ok (.invokevirtual 30, 3) := by decide +kernel
theorem d_Rd_read_76 : decode prog_6_method_2_code 76 = .ok (.goto 77, 3) := by decide +kernel
theorem d_Rd_read_79 : decode prog_6_method_2_code 79 = .ok (.aload_n 0, 1) := by decide +kernel
theorem d_Rd_read_80 : decode prog_6_method_2_code 80 = .ok (.aload_n 0, 1) := by decide +kernel
theorem d_Rd_read_81 : decode prog_6_method_2_code 81 = .ok (.getfield 20, 3) := by decide +kernel
theorem d_Rd_read_84 : decode prog_6_method_2_code 84 = .ok (.iconst 0, 1) := by decide +kernel
theorem d_Rd_read_85 : decode prog_6_method_2_code 85 = .ok (.bipush 8, 2) := by decide +kernel
theorem d_Rd_read_87 : decode prog_6_method_2_code 87 = .ok (.invokevirtual 24, 3) := by decide +kernel
theorem d_Rd_read_90 : decode prog_6_method_2_code 90 = .ok (.aload_n 2, 1) := by decide +kernel
theorem d_Rd_read_91 : decode prog_6_method_2_code 91 = .ok (.invokevirtual 30, 3) := by decide +kernel
theorem d_Rd_read_94 : decode prog_6_method_2_code 94 = .ok (.goto 59, 3) := by decide +kernel
theorem d_Rd_read_97 : decode prog_6_method_2_code 97 = .ok (.aload_n 0, 1) := by decide +kernel
theorem d_Rd_read_98 : decode prog_6_method_2_code 98 = .ok (.aload_n 0, 1) := by decide +kernel
theorem d_Rd_read_99 : decode prog_6_method_2_code 99 = .ok (.getfield 20, 3) := by decide +kernel
theorem d_Rd_read_102 : decode prog_6_method_2_code 102 = .ok (.iconst 0, 1) := by decide +kernel
theorem d_Rd_read_103 : decode prog_6_method_2_code 103 = .ok (.iconst 4, 1) := by decide +kernel
theorem d_Rd_read_104 : decode prog_6_method_2_code 104 = .ok (.invokevirtual 24, 3) := by decide +kernel
theorem d_Rd_read_107 : decode prog_6_method_2_code 107 = .ok (.bipush 32, 2) := by decide +kernel
theorem d_Rd_read_109 : decode prog_6_method_2_code 109 = .ok (.lshl, 1) := by decide +kernel
theorem d_Rd_read_110 : decode prog_6_method_2_code 110 = .ok (.bipush 8, 2) := by decide +kernel
theorem d_Rd_read_112 : decode prog_6_method_2_code 112 = .ok (.aload_n 2, 1) := by decide +kernel
theorem d_Rd_read_113 : decode prog_6_method_2_code 113 = .ok (.invokevirtual 34, 3) := by decide +kernel
theorem d_Rd_read_116 : decode prog_6_method_2_code 116 = .ok (.goto 37, 3) := by decide +kernel
theorem d_Rd_read_119 : decode prog_6_method_2_code 119 = .ok (.aload_n 0, 1) := by decide +kernel
theorem d_Rd_read_120 : decode prog_6_method_2_code 120 = .ok (.aload_n 0, 1) := by decide +kernel
theorem d_Rd_read_121 : decode prog_6_method_2_code 121 = .ok (.getfield 20, 3) := by decide +kernel
theorem d_Rd_read_124 : decode prog_6_method_2_code 124 = .ok (.iconst 0, 1) := by decide +kernel
theorem d_Rd_read_125 : decode prog_6_method_2_code 125 = .ok (.bipush 8, 2) := by decide +kernel
theorem d_Rd_read_127 : decode prog_6_method_2_code 127 = .ok (.invokevirtual 24, 3) := by decide +kernel
theorem d_Rd_read_130 : decode prog_6_method_2_code 130 = .ok (.bipush 11, 2) := by decide +kernel
theorem d_Rd_read_132 : decode prog_6_method_2_code 132 = .ok (.aload_n 2, 1) := by decide +kernel
theorem d_Rd_read_133 : decode prog_6_method_2_code 133 = .ok (.invokevirtual 34, 3) := by decide +kernel
theorem d_Rd_read_136 : decode prog_6_method_2_code 136 = .ok (.goto 17, 3) := by decide +kernel
theorem d_Rd_read_139 : decode prog_6_method_2_code 139 = .ok (.aload_n 0, 1) := by decide +kernel
theorem d_Rd_read_140 : decode prog_6_method_2_code 140 = .ok (.aload_n 2, 1) := by decide +kernel
theorem d_Rd_read_141 : decode prog_6_method_2_code 141 = .ok (.invokevirtual 38, 3) := by decide +kernel
theorem d_Rd_read_144 : decode prog_6_method_2_code 144 = .ok (.goto 9, 3) := by decide +kernel
theorem d_Rd_read_147 : decode prog_6_method_2_code 147 = .ok (.aload_n 0, 1) := by decide +kernel
theorem d_Rd_read_148 : decode prog_6_method_2_code 148 = .ok (.iconst 0, 1) := by decide +kernel
theorem d_Rd_read_149 : decode prog_6_method_2_code 149 = .ok (.aload_n 2, 1) := by decide +kernel
theorem d_Rd_read_150 : decode prog_6_method_2_code 150 = .ok (.invokevirtual 42, 3) := by decide +kernel
theorem d_Rd_read_153 : decode prog_6_method_2_code 153 = .ok (.return_, 1) := by decide +kernel
