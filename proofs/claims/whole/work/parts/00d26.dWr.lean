theorem d_Wr_writePattern_0 : decode prog_10_method_3_code 0 = .ok (.aload_n 0, 1) := by decide +kernel
theorem d_Wr_writePattern_1 : decode prog_10_method_3_code 1 = .ok (.getfield 20, 3) := by decide +kernel
theorem d_Wr_writePattern_4 : decode prog_10_method_3_code 4 = .ok (.iload_n 1, 1) := by decide +kernel
theorem d_Wr_writePattern_5 : decode prog_10_method_3_code 5 = .ok (.bipush 8, 2) := by decide +kernel
theorem d_Wr_writePattern_7 : decode prog_10_method_3_code 7 = .ok (.aload_n 2, 1) := by decide +kernel
theorem d_Wr_writePattern_8 : decode prog_10_method_3_code 8 = .ok (.getfield 42, 3) := by decide +kernel
theorem d_Wr_writePattern_11 : decode prog_10_method_3_code 11 = .ok (.invokevirtual 48, 3) := by decide +kernel
theorem d_Wr_writePattern_14 : decode prog_10_method_3_code 14 = .ok (.aload_n 0, 1) := by decide +kernel
theorem d_Wr_writePattern_15 : decode prog_10_method_3_code 15 = .ok (.getfield 20, 3) := by decide +kernel
theorem d_Wr_writePattern_18 : decode prog_10_method_3_code 18 = .ok (.iload_n 1, 1) := by decide +kernel
theorem d_Wr_writePattern_19 : decode prog_10_method_3_code 19 = .ok (.bipush 8, 2) := by decide +kernel
theorem d_Wr_writePattern_21 : decode prog_10_method_3_code 21 = .ok (.iadd, 1) := by decide +kernel
theorem d_Wr_writePattern_22 : decode prog_10_method_3_code 22 = .ok (.iconst 2, 1) := by decide +kernel
theorem d_Wr_writePattern_23 : decode prog_10_method_3_code 23 = .ok (.aload_n 2, 1) := by decide +kernel
theorem d_Wr_writePattern_24 : decode prog_10_method_3_code 24 = .ok (.invokevirtual 54, 3) := by decide +kernel
theorem d_Wr_writePattern_27 : decode prog_10_method_3_code 27 = .ok (.i2l, 1) := by decide +kernel
theorem d_Wr_writePattern_28 : decode prog_10_method_3_code 28 = .ok (.invokevirtual 48, 3) := by decide +kernel
theorem d_Wr_writePattern_31 : decode prog_10_method_3_code 31 = .ok (.return_, 1) := by decide +kernel
theorem d_Wr_roundToWhole_0 : decode prog_10_method_6_code 0 = .ok (.aload_n 1, 1) := by decide +kernel
theorem d_Wr_roundToWhole_1 : decode prog_10_method_6_code 1 = .ok (.getfield 91, 3) := by decide +kernel
theorem d_Wr_roundToWhole_4 : decode prog_10_method_6_code 4 = .ok (.sipush 32767, 3) := by decide +kernel
theorem d_Wr_roundToWhole_7 : decode prog_10_method_6_code 7 = .ok (.if_icmp .eq 15, 3) := by decide +kernel
theorem d_Wr_roundToWhole_10 : decode prog_10_method_6_code 10 = .ok (.aload_n 0, 1) := by decide +kernel
theorem d_Wr_roundToWhole_11 : decode prog_10_method_6_code 11 = .ok (.getfield 10, 3) := by decide +kernel
theorem d_Wr_roundToWhole_14 : decode prog_10_method_6_code 14 = .ok (.invokevirtual 95, 3) := by decide +kernel
theorem d_Wr_roundToWhole_17 : decode prog_10_method_6_code 17 = .ok (.bipush 63, 2) := by decide +kernel
theorem d_Wr_roundToWhole_19 : decode prog_10_method_6_code 19 = .ok (.if_icmp .le 5, 3) := by decide +kernel
theorem d_Wr_roundToWhole_22 : decode prog_10_method_6_code 22 = .ok (.iconst 0, 1) := by decide +kernel
theorem d_Wr_roundToWhole_23 : decode prog_10_method_6_code 23 = .ok (.ireturn, 1) := by decide +kernel
theorem d_Wr_roundToWhole_24 : decode prog_10_method_6_code 24 = .ok (.aload_n 0, 1) := by decide +kernel
theorem d_Wr_roundToWhole_25 : decode prog_10_method_6_code 25 = .ok (.getfield 10, 3) := by decide +kernel
theorem d_Wr_roundToWhole_28 : decode prog_10_method_6_code 28 = .ok (.aload_n 0, 1) := by decide +kernel
theorem d_Wr_roundToWhole_29 : decode prog_10_method_6_code 29 = .ok (.getfield 10, 3) := by decide +kernel
theorem d_Wr_roundToWhole_32 : decode prog_10_method_6_code 32 = .ok (.getfield 98, 3) := by decide +kernel
theorem d_Wr_roundToWhole_35 : decode prog_10_method_6_code 35 = .ok (.ineg, 1) := by decide +kernel
theorem d_Wr_roundToWhole_36 : decode prog_10_method_6_code 36 = .ok (.iload_n 2, 1) := by decide +kernel
theorem d_Wr_roundToWhole_37 : decode prog_10_method_6_code 37 = .ok (.aload_n 1, 1) := by decide +kernel
theorem d_Wr_roundToWhole_38 : decode prog_10_method_6_code 38 = .ok (.getfield 72, 3) := by decide +kernel
theorem d_Wr_roundToWhole_41 : decode prog_10_method_6_code 41 = .ok (.invokevirtual 101, 3) := by decide +kernel
theorem d_Wr_roundToWhole_44 : decode prog_10_method_6_code 44 = .ok (.iconst 1, 1) := by decide +kernel
theorem d_Wr_roundToWhole_45 : decode prog_10_method_6_code 45 = .ok (.ireturn, 1) := by decide +kernel
theorem d_Wr_isWithin_0 : decode prog_10_method_5_code 0 = .ok (.lload_n 0, 1) := by decide +kernel
theorem d_Wr_isWithin_1 : decode prog_10_method_5_code 1 = .ok (.lconst 0, 1) := by decide +kernel
theorem d_Wr_isWithin_2 : decode prog_10_method_5_code 2 = .ok (.lcmp, 1) := by decide +kernel
theorem d_Wr_isWithin_3 : decode prog_10_method_5_code 3 = .ok (.ifCond .lt 12, 3) := by decide +kernel
theorem d_Wr_isWithin_6 : decode prog_10_method_5_code 6 = .ok (.lload_n 0, 1) := by decide +kernel
theorem d_Wr_isWithin_7 : decode prog_10_method_5_code 7 = .ok (.lload_n 3, 1) := by decide +kernel
theorem d_Wr_isWithin_8 : decode prog_10_method_5_code 8 = .ok (.lconst 1, 1) := by decide +kernel
theorem d_Wr_isWithin_9 : decode prog_10_method_5_code 9 = .ok (.ladd, 1) := by decide +kernel
theorem d_Wr_isWithin_10 : decode prog_10_method_5_code 10 = .ok (.lneg, 1) := by decide +kernel
theorem d_Wr_isWithin_11 : decode prog_10_method_5_code 11 = .ok (.lcmp, 1) := by decide +kernel
theorem d_Wr_isWithin_12 : decode prog_10_method_5_code 12 = .ok (.ifCond .le 14, 3) := by decide +kernel
theorem d_Wr_isWithin_15 : decode prog_10_method_5_code 15 = .ok (.iload_n 2, 1) := by decide +kernel
theorem d_Wr_isWithin_16 : decode prog_10_method_5_code 16 = .ok (.ifCond .eq 14, 3) := by decide +kernel
theorem d_Wr_isWithin_19 : decode prog_10_method_5_code 19 = .ok (.lload_n 0, 1) := by decide +kernel
theorem d_Wr_isWithin_20 : decode prog_10_method_5_code 20 = .ok (.lload_n 3, 1) := by decide +kernel
theorem d_Wr_isWithin_21 : decode prog_10_method_5_code 21 = .ok (.lneg, 1) := by decide +kernel
theorem d_Wr_isWithin_22 : decode prog_10_method_5_code 22 = .ok (.lcmp, 1) := by decide +kernel
theorem d_Wr_isWithin_23 : decode prog_10_method_5_code 23 = .ok (.ifCond .ne 7, 3) := by decide +kernel
theorem d_Wr_isWithin_26 : decode prog_10_method_5_code 26 = .ok (.iconst 1, 1) := by decide +kernel
theorem d_Wr_isWithin_27 : decode prog_10_method_5_code 27 = .ok (.goto 4, 3) := by decide +kernel
theorem d_Wr_isWithin_30 : decode prog_10_method_5_code 30 = .ok (.iconst 0, 1) := by decide +kernel
theorem d_Wr_isWithin_31 : decode prog_10_method_5_code 31 = .ok (.ireturn, 1) := by decide +kernel
theorem d_Wr_writeWhole_0 : decode prog_10_method_4_code 0 = .ok (.ldc2_w 58, 3) := by decide +kernel
theorem d_Wr_writeWhole_3 : decode prog_10_method_4_code 3 = .ok (.bipush 8, 2) := by decide +kernel
theorem d_Wr_writeWhole_5 : decode prog_10_method_4_code 5 = .ok (.iload_n 1, 1) := by decide +kernel
theorem d_Wr_writeWhole_6 : decode prog_10_method_4_code 6 = .ok (.imul, 1) := by decide +kernel
theorem d_Wr_writeWhole_7 : decode prog_10_method_4_code 7 = .ok (.iconst 1, 1) := by decide +kernel
theorem d_Wr_writeWhole_8 : decode prog_10_method_4_code 8 = .ok (.isub, 1) := by decide +kernel
theorem d_Wr_writeWhole_9 : decode prog_10_method_4_code 9 = .ok (.lshl, 1) := by decide +kernel
theorem d_Wr_writeWhole_10 : decode prog_10_method_4_code 10 = .ok (.lstore_n 3, 1) := by decide +kernel
theorem d_Wr_writeWhole_11 : decode prog_10_method_4_code 11 = .ok (.lload_n 3, 1) := by decide +kernel
theorem d_Wr_writeWhole_12 : decode prog_10_method_4_code 12 = .ok (.lstore 5, 2) := by decide +kernel
theorem d_Wr_writeWhole_14 : decode prog_10_method_4_code 14 = .ok (.aload_n 0, 1) := by decide +kernel
theorem d_Wr_writeWhole_15 : decode prog_10_method_4_code 15 = .ok (.aload_n 2, 1) := by decide +kernel
theorem d_Wr_writeWhole_16 : decode prog_10_method_4_code 16 = .ok (.aload_n 0, 1) := by decide +kernel
theorem d_Wr_writeWhole_17 : decode prog_10_method_4_code 17 = .ok (.getfield 16, 3) := by decide +kernel
theorem d_Wr_writeWhole_20 : decode prog_10_method_4_code 20 = .ok (.invokevirtual 60, 3) := by decide +kernel
theorem d_Wr_writeWhole_23 : decode prog_10_method_4_code 23 = .ok (.invokevirtual 65, 3) := by decide +kernel
theorem d_Wr_writeWhole_26 : decode prog_10_method_4_code 26 = .ok (.ifCond .eq 74, 3) := by decide +kernel
theorem d_Wr_writeWhole_29 : decode prog_10_method_4_code 29 = .ok (.aload_n 0, 1) := by decide +kernel
theorem d_Wr_writeWhole_30 : decode prog_10_method_4_code 30 = .ok (.getfield 10, 3) := by decide +kernel
theorem d_Wr_writeWhole_33 : decode prog_10_method_4_code 33 = .ok (.getfield 69, 3) := by decide +kernel
theorem d_Wr_writeWhole_36 : decode prog_10_method_4_code 36 = .ok (.aload_n 2, 1) := by decide +kernel
theorem d_Wr_writeWhole_37 : decode prog_10_method_4_code 37 = .ok (.getfield 72, 3) := by decide +kernel
theorem d_Wr_writeWhole_40 : decode prog_10_method_4_code 40 = .ok (.lload_n 3, 1) := by decide +kernel
theorem d_Wr_writeWhole_41 : decode prog_10_method_4_code 41 = .ok (.invokestatic 76, 3) := by decide +kernel
theorem d_Wr_writeWhole_44 : decode prog_10_method_4_code 44 = .ok (.ifCond .eq 56, 3) := by decide +kernel
theorem d_Wr_writeWhole_47 : decode prog_10_method_4_code 47 = .ok (.aload_n 2, 1) := by decide +kernel
theorem d_Wr_writeWhole_48 : decode prog_10_method_4_code 48 = .ok (.getfield 72, 3) := by decide +kernel
theorem d_Wr_writeWhole_51 : decode prog_10_method_4_code 51 = .ok (.ifCond .eq 14, 3) := by decide +kernel
theorem d_Wr_writeWhole_54 : decode prog_10_method_4_code 54 = .ok (.aload_n 0, 1) := by decide +kernel
theorem d_Wr_writeWhole_55 : decode prog_10_method_4_code 55 = .ok (.getfield 10, 3) := by decide +kernel
theorem d_Wr_writeWhole_58 : decode prog_10_method_4_code 58 = .ok (.getfield 69, 3) := by decide +kernel
theorem d_Wr_writeWhole_61 : decode prog_10_method_4_code 61 = .ok (.lneg, 1) := by decide +kernel
theorem d_Wr_writeWhole_62 : decode prog_10_method_4_code 62 = .ok (.goto 10, 3) := by decide +kernel
theorem d_Wr_writeWhole_65 : decode prog_10_method_4_code 65 = .ok (.aload_n 0, 1) := by decide +kernel
theorem d_Wr_writeWhole_66 : decode prog_10_method_4_code 66 = .ok (.getfield 10, 3) := by decide +kernel
theorem d_Wr_writeWhole_69 : decode prog_10_method_4_code 69 = .ok (.getfield 69, 3) := by decide +kernel
theorem d_Wr_writeWhole_72 : decode prog_10_method_4_code 72 = .ok (.lstore 5, 2) := by decide +kernel
theorem d_Wr_writeWhole_74 : decode prog_10_method_4_code 74 = .ok (.aload_n 0, 1) := by decide +kernel
theorem d_Wr_writeWhole_75 : decode prog_10_method_4_code 75 = .ok (.getfield 16, 3) := by decide +kernel
theorem d_Wr_writeWhole_78 : decode prog_10_method_4_code 78 = .ok (.aload_n 0, 1) := by decide +kernel
theorem d_Wr_writeWhole_79 : decode prog_10_method_4_code 79 = .ok (.getfield 10, 3) := by decide +kernel
theorem d_Wr_writeWhole_82 : decode prog_10_method_4_code 82 = .ok (.getfield 80, 3) := by decide +kernel
theorem d_Wr_writeWhole_85 : decode prog_10_method_4_code 85 = .ok (.ifCond .eq 8, 3) := by decide +kernel
theorem d_Wr_writeWhole_88 : decode prog_10_method_4_code 88 = .ok (.bipush 32, 2) := by decide +kernel
theorem d_Wr_writeWhole_90 : decode prog_10_method_4_code 90 = .ok (.goto 4, 3) := by decide +kernel
theorem d_Wr_writeWhole_93 : decode prog_10_method_4_code 93 = .ok (.iconst 0, 1) := by decide +kernel
theorem d_Wr_writeWhole_94 : decode prog_10_method_4_code 94 = .ok (.invokevirtual 83, 3) := by decide +kernel
theorem d_Wr_writeWhole_97 : decode prog_10_method_4_code 97 = .ok (.goto 11, 3) := by decide +kernel
theorem d_Wr_writeWhole_100 : decode prog_10_method_4_code 100 = .ok (.aload_n 0, 1) := by decide +kernel
theorem d_Wr_writeWhole_101 : decode prog_10_method_4_code 101 = .ok (.getfield 16, 3) := by decide +kernel
theorem d_Wr_writeWhole_104 : decode prog_10_method_4_code 104 = .ok (.iconst 1, 1) := by decide +kernel
theorem d_Wr_writeWhole_105 : decode prog_10_method_4_code 105 = .ok (.invokevirtual 83, 3) := by decide +kernel
theorem d_Wr_writeWhole_108 : decode prog_10_method_4_code 108 = .ok (.aload_n 0, 1) := by decide +kernel
theorem d_Wr_writeWhole_109 : decode prog_10_method_4_code 109 = .ok (.getfield 16, 3) := by decide +kernel
theorem d_Wr_writeWhole_112 : decode prog_10_method_4_code 112 = .ok (.invokevirtual 87, 3) := by decide +kernel
theorem d_Wr_writeWhole_115 : decode prog_10_method_4_code 115 = .ok (.ifCond .ne 14, 3) := by decide +kernel
theorem d_Wr_writeWhole_118 : decode prog_10_method_4_code 118 = .ok (.aload_n 0, 1) := by decide +kernel
theorem d_Wr_writeWhole_119 : decode prog_10_method_4_code 119 = .ok (.getfield 20, 3) := by decide +kernel
theorem d_Wr_writeWhole_122 : decode prog_10_method_4_code 122 = .ok (.iconst 0, 1) := by decide +kernel
theorem d_Wr_writeWhole_123 : decode prog_10_method_4_code 123 = .ok (.iload_n 1, 1) := by decide +kernel
theorem d_Wr_writeWhole_124 : decode prog_10_method_4_code 124 = .ok (.lload 5, 2) := by decide +kernel
theorem d_Wr_writeWhole_126 : decode prog_10_method_4_code 126 = .ok (.invokevirtual 48, 3) := by decide +kernel
theorem d_Wr_writeWhole_129 : decode prog_10_method_4_code 129 = .ok (.return_, 1) := by decide +kernel
theorem d_Wr_numberPattern_0 : decode prog_10_method_9_code 0 = .ok (.aload_n 0, 1) := by decide +kernel
theorem d_Wr_numberPattern_1 : decode prog_10_method_9_code 1 = .ok (.getfield 10, 3) := by decide +kernel
theorem d_Wr_numberPattern_4 : decode prog_10_method_9_code 4 = .ok (.invokevirtual 95, 3) := by decide +kernel
theorem d_Wr_numberPattern_7 : decode prog_10_method_9_code 7 = .ok (.istore 6, 2) := by decide +kernel
theorem d_Wr_numberPattern_9 : decode prog_10_method_9_code 9 = .ok (.iload 6, 2) := by decide +kernel
theorem d_Wr_numberPattern_11 : decode prog_10_method_9_code 11 = .ok (.iconst 2, 1) := by decide +kernel
theorem d_Wr_numberPattern_12 : decode prog_10_method_9_code 12 = .ok (.iload_n 3, 1) := by decide +kernel
theorem d_Wr_numberPattern_13 : decode prog_10_method_9_code 13 = .ok (.isub, 1) := by decide +kernel
theorem d_Wr_numberPattern_14 : decode prog_10_method_9_code 14 = .ok (.if_icmp .ge 124, 3) := by decide +kernel
theorem d_Wr_numberPattern_17 : decode prog_10_method_9_code 17 = .ok (.aload_n 0, 1) := by decide +kernel
theorem d_Wr_numberPattern_18 : decode prog_10_method_9_code 18 = .ok (.getfield 10, 3) := by decide +kernel
theorem d_Wr_numberPattern_21 : decode prog_10_method_9_code 21 = .ok (.iconst 3, 1) := by decide +kernel
theorem d_Wr_numberPattern_22 : decode prog_10_method_9_code 22 = .ok (.iload_n 3, 1) := by decide +kernel
theorem d_Wr_numberPattern_23 : decode prog_10_method_9_code 23 = .ok (.isub, 1) := by decide +kernel
theorem d_Wr_numberPattern_24 : decode prog_10_method_9_code 24 = .ok (.iload_n 2, 1) := by decide +kernel
theorem d_Wr_numberPattern_25 : decode prog_10_method_9_code 25 = .ok (.isub, 1) := by decide +kernel
theorem d_Wr_numberPattern_26 : decode prog_10_method_9_code 26 = .ok (.aload_n 0, 1) := by decide +kernel
theorem d_Wr_numberPattern_27 : decode prog_10_method_9_code 27 = .ok (.getfield 10, 3) := by decide +kernel
theorem d_Wr_numberPattern_30 : decode prog_10_method_9_code 30 = .ok (.getfield 98, 3) := by decide +kernel
theorem d_Wr_numberPattern_33 : decode prog_10_method_9_code 33 = .ok (.isub, 1) := by decide +kernel
theorem d_Wr_numberPattern_34 : decode prog_10_method_9_code 34 = .ok (.aload_n 0, 1) := by decide +kernel
theorem d_Wr_numberPattern_35 : decode prog_10_method_9_code 35 = .ok (.getfield 16, 3) := by decide +kernel
theorem d_Wr_numberPattern_38 : decode prog_10_method_9_code 38 = .ok (.invokevirtual 60, 3) := by decide +kernel
theorem d_Wr_numberPattern_41 : decode prog_10_method_9_code 41 = .ok (.aload_n 1, 1) := by decide +kernel
theorem d_Wr_numberPattern_42 : decode prog_10_method_9_code 42 = .ok (.getfield 72, 3) := by decide +kernel
theorem d_Wr_numberPattern_45 : decode prog_10_method_9_code 45 = .ok (.invokevirtual 101, 3) := by decide +kernel
theorem d_Wr_numberPattern_48 : decode prog_10_method_9_code 48 = .ok (.aload_n 0, 1) := by decide +kernel
theorem d_Wr_numberPattern_49 : decode prog_10_method_9_code 49 = .ok (.getfield 10, 3) := by decide +kernel
theorem d_Wr_numberPattern_52 : decode prog_10_method_9_code 52 = .ok (.getfield 80, 3) := by decide +kernel
theorem d_Wr_numberPattern_55 : decode prog_10_method_9_code 55 = .ok (.ifCond .ne 15, 3) := by decide +kernel
theorem d_Wr_numberPattern_58 : decode prog_10_method_9_code 58 = .ok (.aload_n 0, 1) := by decide +kernel
theorem d_Wr_numberPattern_59 : decode prog_10_method_9_code 59 = .ok (.getfield 16, 3) := by decide +kernel
theorem d_Wr_numberPattern_62 : decode prog_10_method_9_code 62 = .ok (.bipush 16, 2) := by decide +kernel
theorem d_Wr_numberPattern_64 : decode prog_10_method_9_code 64 = .ok (.invokevirtual 131, 3) := by decide +kernel
theorem d_Wr_numberPattern_67 : decode prog_10_method_9_code 67 = .ok (.ifCond .ne 7, 3) := by decide +kernel
theorem d_Wr_numberPattern_70 : decode prog_10_method_9_code 70 = .ok (.iconst 1, 1) := by decide +kernel
theorem d_Wr_numberPattern_71 : decode prog_10_method_9_code 71 = .ok (.goto 4, 3) := by decide +kernel
theorem d_Wr_numberPattern_74 : decode prog_10_method_9_code 74 = .ok (.iconst 0, 1) := by decide +kernel
theorem d_Wr_numberPattern_75 : decode prog_10_method_9_code 75 = .ok (.istore 7, 2) := by decide +kernel
theorem d_Wr_numberPattern_77 : decode prog_10_method_9_code 77 = .ok (.aload_n 0, 1) := by decide +kernel
theorem d_Wr_numberPattern_78 : decode prog_10_method_9_code 78 = .ok (.getfield 16, 3) := by decide +kernel
theorem d_Wr_numberPattern_81 : decode prog_10_method_9_code 81 = .ok (.iload 7, 2) := by decide +kernel
theorem d_Wr_numberPattern_83 : decode prog_10_method_9_code 83 = .ok (.ifCond .eq 8, 3) := by decide +kernel
theorem d_Wr_numberPattern_86 : decode prog_10_method_9_code 86 = .ok (.bipush 16, 2) := by decide +kernel
theorem d_Wr_numberPattern_88 : decode prog_10_method_9_code 88 = .ok (.goto 4, 3) := by decide +kernel
theorem d_Wr_numberPattern_91 : decode prog_10_method_9_code 91 = .ok (.iconst 0, 1) := by decide +kernel
theorem d_Wr_numberPattern_92 : decode prog_10_method_9_code 92 = .ok (.invokevirtual 83, 3) := by decide +kernel
theorem d_Wr_numberPattern_95 : decode prog_10_method_9_code 95 = .ok (.aload_n 0, 1) := by decide +kernel
theorem d_Wr_numberPattern_96 : decode prog_10_method_9_code 96 = .ok (.getfield 16, 3) := by decide +kernel
theorem d_Wr_numberPattern_99 : decode prog_10_method_9_code 99 = .ok (.aload_n 0, 1) := by decide +kernel
theorem d_Wr_numberPattern_100 : decode prog_10_method_9_code 100 = .ok (.getfield 10, 3) := by decide +kernel
theorem d_Wr_numberPattern_103 : decode prog_10_method_9_code 103 = .ok (.getfield 80, 3) := by decide +kernel
theorem d_Wr_numberPattern_106 : decode prog_10_method_9_code 106 = .ok (.ifCond .eq 20, 3) := by decide +kernel
theorem d_Wr_numberPattern_109 : decode prog_10_method_9_code 109 = .ok (.aload_n 0, 1) := by decide +kernel
theorem d_Wr_numberPattern_110 : decode prog_10_method_9_code 110 = .ok (.getfield 16, 3) := by decide +kernel
theorem d_Wr_numberPattern_113 : decode prog_10_method_9_code 113 = .ok (.bipush 16, 2) := by decide +kernel
theorem d_Wr_numberPattern_115 : decode prog_10_method_9_code 115 = .ok (.invokevirtual 131, 3) := by decide +kernel
theorem d_Wr_numberPattern_118 : decode prog_10_method_9_code 118 = .ok (.ifCond .eq 8, 3) := by decide +kernel
theorem d_Wr_numberPattern_121 : decode prog_10_method_9_code 121 = .ok (.bipush 32, 2) := by decide +kernel
theorem d_Wr_numberPattern_123 : decode prog_10_method_9_code 123 = .ok (.goto 4, 3) := by decide +kernel
theorem d_Wr_numberPattern_126 : decode prog_10_method_9_code 126 = .ok (.iconst 0, 1) := by decide +kernel
theorem d_Wr_numberPattern_127 : decode prog_10_method_9_code 127 = .ok (.invokevirtual 83, 3) := by decide +kernel
theorem d_Wr_numberPattern_130 : decode prog_10_method_9_code 130 = .ok (.aload_n 0, 1) := by decide +kernel
theorem d_Wr_numberPattern_131 : decode prog_10_method_9_code 131 = .ok (.getfield 10, 3) := by decide +kernel
theorem d_Wr_numberPattern_134 : decode prog_10_method_9_code 134 = .ok (.getfield 69, 3) := by decide +kernel
theorem d_Wr_numberPattern_137 : decode prog_10_method_9_code 137 = .ok (.lreturn, 1) := by decide +kernel
theorem d_Wr_numberPattern_138 : decode prog_10_method_9_code 138 = .ok (.iload 6, 2) := by decide +kernel
theorem d_Wr_numberPattern_140 : decode prog_10_method_9_code 140 = .ok (.iload_n 3, 1) := by decide +kernel
theorem d_Wr_numberPattern_141 : decode prog_10_method_9_code 141 = .ok (.if_icmp .ge 81, 3) := by decide +kernel
theorem d_Wr_numberPattern_144 : decode prog_10_method_9_code 144 = .ok (.aload_n 0, 1) := by decide +kernel
theorem d_Wr_numberPattern_145 : decode prog_10_method_9_code 145 = .ok (.getfield 10, 3) := by decide +kernel
theorem d_Wr_numberPattern_148 : decode prog_10_method_9_code 148 = .ok (.sipush 128, 3) := by decide +kernel
theorem d_Wr_numberPattern_151 : decode prog_10_method_9_code 151 = .ok (.iload_n 2, 1) := by decide +kernel
theorem d_Wr_numberPattern_152 : decode prog_10_method_9_code 152 = .ok (.isub, 1) := by decide +kernel
theorem d_Wr_numberPattern_153 : decode prog_10_method_9_code 153 = .ok (.aload_n 0, 1) := by decide +kernel
theorem d_Wr_numberPattern_154 : decode prog_10_method_9_code 154 = .ok (.getfield 16, 3) := by decide +kernel
theorem d_Wr_numberPattern_157 : decode prog_10_method_9_code 157 = .ok (.invokevirtual 60, 3) := by decide +kernel
theorem d_Wr_numberPattern_160 : decode prog_10_method_9_code 160 = .ok (.aload_n 1, 1) := by decide +kernel
theorem d_Wr_numberPattern_161 : decode prog_10_method_9_code 161 = .ok (.getfield 72, 3) := by decide +kernel
theorem d_Wr_numberPattern_164 : decode prog_10_method_9_code 164 = .ok (.invokevirtual 101, 3) := by decide +kernel
theorem d_Wr_numberPattern_167 : decode prog_10_method_9_code 167 = .ok (.iload 6, 2) := by decide +kernel
theorem d_Wr_numberPattern_169 : decode prog_10_method_9_code 169 = .ok (.iload_n 3, 1) := by decide +kernel
theorem d_Wr_numberPattern_170 : decode prog_10_method_9_code 170 = .ok (.iadd, 1) := by decide +kernel
theorem d_Wr_numberPattern_171 : decode prog_10_method_9_code 171 = .ok (.iconst 2, 1) := by decide +kernel
theorem d_Wr_numberPattern_172 : decode prog_10_method_9_code 172 = .ok (.isub, 1) := by decide +kernel
theorem d_Wr_numberPattern_173 : decode prog_10_method_9_code 173 = .ok (.i2l, 1) := by decide +kernel
theorem d_Wr_numberPattern_174 : decode prog_10_method_9_code 174 = .ok (.iload_n 2, 1) := by decide +kernel
theorem d_Wr_numberPattern_175 : decode prog_10_method_9_code 175 = .ok (.iconst 1, 1) := by decide +kernel
theorem d_Wr_numberPattern_176 : decode prog_10_method_9_code 176 = .ok (.isub, 1) := by decide +kernel
theorem d_Wr_numberPattern_177 : decode prog_10_method_9_code 177 = .ok (.lshl, 1) := by decide +kernel
theorem d_Wr_numberPattern_178 : decode prog_10_method_9_code 178 = .ok (.aload_n 0, 1) := by decide +kernel
theorem d_Wr_numberPattern_179 : decode prog_10_method_9_code 179 = .ok (.getfield 10, 3) := by decide +kernel
theorem d_Wr_numberPattern_182 : decode prog_10_method_9_code 182 = .ok (.getfield 69, 3) := by decide +kernel
theorem d_Wr_numberPattern_185 : decode prog_10_method_9_code 185 = .ok (.ladd, 1) := by decide +kernel
theorem d_Wr_numberPattern_186 : decode prog_10_method_9_code 186 = .ok (.lstore 7, 2) := by decide +kernel
theorem d_Wr_numberPattern_188 : decode prog_10_method_9_code 188 = .ok (.lload 7, 2) := by decide +kernel
theorem d_Wr_numberPattern_190 : decode prog_10_method_9_code 190 = .ok (.lload 4, 2) := by decide +kernel
theorem d_Wr_numberPattern_192 : decode prog_10_method_9_code 192 = .ok (.lcmp, 1) := by decide +kernel
theorem d_Wr_numberPattern_193 : decode prog_10_method_9_code 193 = .ok (.ifCond .ge 29, 3) := by decide +kernel
theorem d_Wr_numberPattern_196 : decode prog_10_method_9_code 196 = .ok (.aload_n 0, 1) := by decide +kernel
theorem d_Wr_numberPattern_197 : decode prog_10_method_9_code 197 = .ok (.getfield 16, 3) := by decide +kernel
theorem d_Wr_numberPattern_200 : decode prog_10_method_9_code 200 = .ok (.aload_n 0, 1) := by decide +kernel
theorem d_Wr_numberPattern_201 : decode prog_10_method_9_code 201 = .ok (.getfield 10, 3) := by decide +kernel
theorem d_Wr_numberPattern_204 : decode prog_10_method_9_code 204 = .ok (.getfield 80, 3) := by decide +kernel
theorem d_Wr_numberPattern_207 : decode prog_10_method_9_code 207 = .ok (.ifCond .eq 8, 3) := by decide +kernel
theorem d_Wr_numberPattern_210 : decode prog_10_method_9_code 210 = .ok (.bipush 32, 2) := by decide +kernel
theorem d_Wr_numberPattern_212 : decode prog_10_method_9_code 212 = .ok (.goto 4, 3) := by decide +kernel
theorem d_Wr_numberPattern_215 : decode prog_10_method_9_code 215 = .ok (.iconst 0, 1) := by decide +kernel
theorem d_Wr_numberPattern_216 : decode prog_10_method_9_code 216 = .ok (.invokevirtual 83, 3) := by decide +kernel
theorem d_Wr_numberPattern_219 : decode prog_10_method_9_code 219 = .ok (.lload 7, 2) := by decide +kernel
theorem d_Wr_numberPattern_221 : decode prog_10_method_9_code 221 = .ok (.lreturn, 1) := by decide +kernel
theorem d_Wr_numberPattern_222 : decode prog_10_method_9_code 222 = .ok (.aload_n 0, 1) := by decide +kernel
theorem d_Wr_numberPattern_223 : decode prog_10_method_9_code 223 = .ok (.getfield 16, 3) := by decide +kernel
theorem d_Wr_numberPattern_226 : decode prog_10_method_9_code 226 = .ok (.aload_n 0, 1) := by decide +kernel
theorem d_Wr_numberPattern_227 : decode prog_10_method_9_code 227 = .ok (.getfield 16, 3) := by decide +kernel
theorem d_Wr_numberPattern_230 : decode prog_10_method_9_code 230 = .ok (.bipush 8, 2) := by decide +kernel
theorem d_Wr_numberPattern_232 : decode prog_10_method_9_code 232 = .ok (.invokevirtual 131, 3) := by decide +kernel
theorem d_Wr_numberPattern_235 : decode prog_10_method_9_code 235 = .ok (.ifCond .eq 8, 3) := by decide +kernel
theorem d_Wr_numberPattern_238 : decode prog_10_method_9_code 238 = .ok (.bipush 40, 2) := by decide +kernel
theorem d_Wr_numberPattern_240 : decode prog_10_method_9_code 240 = .ok (.goto 5, 3) := by decide +kernel
theorem d_Wr_numberPattern_243 : decode prog_10_method_9_code 243 = .ok (.bipush 8, 2) := by decide +kernel
theorem d_Wr_numberPattern_245 : decode prog_10_method_9_code 245 = .ok (.invokevirtual 83, 3) := by decide +kernel
theorem d_Wr_numberPattern_248 : decode prog_10_method_9_code 248 = .ok (.aload_n 0, 1) := by decide +kernel
theorem d_Wr_numberPattern_249 : decode prog_10_method_9_code 249 = .ok (.getfield 16, 3) := by decide +kernel
theorem d_Wr_numberPattern_252 : decode prog_10_method_9_code 252 = .ok (.aload_n 1, 1) := by decide +kernel
theorem d_Wr_numberPattern_253 : decode prog_10_method_9_code 253 = .ok (.getfield 72, 3) := by decide +kernel
theorem d_Wr_numberPattern_256 : decode prog_10_method_9_code 256 = .ok (.invokevirtual 135, 3) := by decide +kernel
theorem d_Wr_numberPattern_259 : decode prog_10_method_9_code 259 = .ok (.ifCond .eq 8, 3) := by decide +kernel
theorem d_Wr_numberPattern_262 : decode prog_10_method_9_code 262 = .ok (.lload 4, 2) := by decide +kernel
theorem d_Wr_numberPattern_264 : decode prog_10_method_9_code 264 = .ok (.goto 7, 3) := by decide +kernel
theorem d_Wr_numberPattern_267 : decode prog_10_method_9_code 267 = .ok (.lload 4, 2) := by decide +kernel
theorem d_Wr_numberPattern_269 : decode prog_10_method_9_code 269 = .ok (.lconst 1, 1) := by decide +kernel
theorem d_Wr_numberPattern_270 : decode prog_10_method_9_code 270 = .ok (.lsub, 1) := by decide +kernel
theorem d_Wr_numberPattern_271 : decode prog_10_method_9_code 271 = .ok (.lreturn, 1) := by decide +kernel
theorem d_Wr_writeFloating_0 : decode prog_10_method_8_code 0 = .ok (.iload_n 2, 1) := by decide +kernel
theorem d_Wr_writeFloating_1 : decode prog_10_method_8_code 1 = .ok (.iconst 1, 1) := by decide +kernel
theorem d_Wr_writeFloating_2 : decode prog_10_method_8_code 2 = .ok (.isub, 1) := by decide +kernel
theorem d_Wr_writeFloating_3 : decode prog_10_method_8_code 3 = .ok (.istore 4, 2) := by decide +kernel
theorem d_Wr_writeFloating_5 : decode prog_10_method_8_code 5 = .ok (.lconst 1, 1) := by decide +kernel
theorem d_Wr_writeFloating_6 : decode prog_10_method_8_code 6 = .ok (.bipush 8, 2) := by decide +kernel
theorem d_Wr_writeFloating_8 : decode prog_10_method_8_code 8 = .ok (.iload_n 1, 1) := by decide +kernel
theorem d_Wr_writeFloating_9 : decode prog_10_method_8_code 9 = .ok (.imul, 1) := by decide +kernel
theorem d_Wr_writeFloating_10 : decode prog_10_method_8_code 10 = .ok (.iload_n 2, 1) := by decide +kernel
theorem d_Wr_writeFloating_11 : decode prog_10_method_8_code 11 = .ok (.isub, 1) := by decide +kernel
theorem d_Wr_writeFloating_12 : decode prog_10_method_8_code 12 = .ok (.lshl, 1) := by decide +kernel
theorem d_Wr_writeFloating_13 : decode prog_10_method_8_code 13 = .ok (.lconst 1, 1) := by decide +kernel
theorem d_Wr_writeFloating_14 : decode prog_10_method_8_code 14 = .ok (.lsub, 1) := by decide +kernel
theorem d_Wr_writeFloating_15 : decode prog_10_method_8_code 15 = .ok (.iload 4, 2) := by decide +kernel
theorem d_Wr_writeFloating_17 : decode prog_10_method_8_code 17 = .ok (.lshl, 1) := by decide +kernel
theorem d_Wr_writeFloating_18 : decode prog_10_method_8_code 18 = .ok (.lstore 5, 2) := by decide +kernel
theorem d_Wr_writeFloating_20 : decode prog_10_method_8_code 20 = .ok (.aload_n 3, 1) := by decide +kernel
theorem d_Wr_writeFloating_21 : decode prog_10_method_8_code 21 = .ok (.getfield 72, 3) := by decide +kernel
theorem d_Wr_writeFloating_24 : decode prog_10_method_8_code 24 = .ok (.istore 7, 2) := by decide +kernel
theorem d_Wr_writeFloating_26 : decode prog_10_method_8_code 26 = .ok (.aload_n 3, 1) := by decide +kernel
theorem d_Wr_writeFloating_27 : decode prog_10_method_8_code 27 = .ok (.invokevirtual 115, 3) := by decide +kernel
theorem d_Wr_writeFloating_30 : decode prog_10_method_8_code 30 = .ok (.ifCond .eq 10, 3) := by decide +kernel
theorem d_Wr_writeFloating_33 : decode prog_10_method_8_code 33 = .ok (.lload 5, 2) := by decide +kernel
theorem d_Wr_writeFloating_35 : decode prog_10_method_8_code 35 = .ok (.lstore 8, 2) := by decide +kernel
theorem d_Wr_writeFloating_37 : decode prog_10_method_8_code 37 = .ok (.goto 119, 3) := by decide +kernel
theorem d_Wr_writeFloating_40 : decode prog_10_method_8_code 40 = .ok (.aload_n 3, 1) := by decide +kernel
theorem d_Wr_writeFloating_41 : decode prog_10_method_8_code 41 = .ok (.invokevirtual 118, 3) := by decide +kernel
theorem d_Wr_writeFloating_44 : decode prog_10_method_8_code 44 = .ok (.ifCond .eq 9, 3) := by decide +kernel
theorem d_Wr_writeFloating_47 : decode prog_10_method_8_code 47 = .ok (.lconst 0, 1) := by decide +kernel
theorem d_Wr_writeFloating_48 : decode prog_10_method_8_code 48 = .ok (.lstore 8, 2) := by decide +kernel
theorem d_Wr_writeFloating_50 : decode prog_10_method_8_code 50 = .ok (.goto 106, 3) := by decide +kernel
theorem d_Wr_writeFloating_53 : decode prog_10_method_8_code 53 = .ok (.aload_n 3, 1) := by decide +kernel
theorem d_Wr_writeFloating_54 : decode prog_10_method_8_code 54 = .ok (.invokevirtual 121, 3) := by decide +kernel
theorem d_Wr_writeFloating_57 : decode prog_10_method_8_code 57 = .ok (.iconst 5, 1) := by decide +kernel
theorem d_Wr_writeFloating_58 : decode prog_10_method_8_code 58 = .ok (.if_icmp .ne 46, 3) := by decide +kernel
theorem d_Wr_writeFloating_61 : decode prog_10_method_8_code 61 = .ok (.aload_n 0, 1) := by decide +kernel
theorem d_Wr_writeFloating_62 : decode prog_10_method_8_code 62 = .ok (.getfield 16, 3) := by decide +kernel
theorem d_Wr_writeFloating_65 : decode prog_10_method_8_code 65 = .ok (.iconst 1, 1) := by decide +kernel
theorem d_Wr_writeFloating_66 : decode prog_10_method_8_code 66 = .ok (.invokevirtual 83, 3) := by decide +kernel
theorem d_Wr_writeFloating_69 : decode prog_10_method_8_code 69 = .ok (.aload_n 3, 1) := by decide +kernel
theorem d_Wr_writeFloating_70 : decode prog_10_method_8_code 70 = .ok (.getfield 42, 3) := by decide +kernel
theorem d_Wr_writeFloating_73 : decode prog_10_method_8_code 73 = .ok (.iconst 1, 1) := by decide +kernel
theorem d_Wr_writeFloating_74 : decode prog_10_method_8_code 74 = .ok (.lshl, 1) := by decide +kernel
theorem d_Wr_writeFloating_75 : decode prog_10_method_8_code 75 = .ok (.bipush 64, 2) := by decide +kernel
theorem d_Wr_writeFloating_77 : decode prog_10_method_8_code 77 = .ok (.iload 4, 2) := by decide +kernel
theorem d_Wr_writeFloating_79 : decode prog_10_method_8_code 79 = .ok (.isub, 1) := by decide +kernel
theorem d_Wr_writeFloating_80 : decode prog_10_method_8_code 80 = .ok (.lushr, 1) := by decide +kernel
theorem d_Wr_writeFloating_81 : decode prog_10_method_8_code 81 = .ok (.lstore 10, 2) := by decide +kernel
theorem d_Wr_writeFloating_83 : decode prog_10_method_8_code 83 = .ok (.lload 5, 2) := by decide +kernel
theorem d_Wr_writeFloating_85 : decode prog_10_method_8_code 85 = .ok (.lload 10, 2) := by decide +kernel
theorem d_Wr_writeFloating_87 : decode prog_10_method_8_code 87 = .ok (.lconst 0, 1) := by decide +kernel
theorem d_Wr_writeFloating_88 : decode prog_10_method_8_code 88 = .ok (.lcmp, 1) := by decide +kernel
theorem d_Wr_writeFloating_89 : decode prog_10_method_8_code 89 = .ok (.ifCond .ne 7, 3) := by decide +kernel
theorem d_Wr_writeFloating_92 : decode prog_10_method_8_code 92 = .ok (.lconst 1, 1) := by decide +kernel
theorem d_Wr_writeFloating_93 : decode prog_10_method_8_code 93 = .ok (.goto 5, 3) := by decide +kernel
theorem d_Wr_writeFloating_96 : decode prog_10_method_8_code 96 = .ok (.lload 10, 2) := by decide +kernel
theorem d_Wr_writeFloating_98 : decode prog_10_method_8_code 98 = .ok (.lor, 1) := by decide +kernel
theorem d_Wr_writeFloating_99 : decode prog_10_method_8_code 99 = .ok (.lstore 8, 2) := by decide +kernel
theorem d_Wr_writeFloating_101 : decode prog_10_method_8_code 101 = .ok (.goto 55, 3) := by decide +kernel
theorem d_Wr_writeFloating_104 : decode prog_10_method_8_code 104 = .ok (.aload_n 3, 1) := by decide +kernel
theorem d_Wr_writeFloating_105 : decode prog_10_method_8_code 105 = .ok (.invokevirtual 124, 3) := by decide +kernel
theorem d_Wr_writeFloating_108 : decode prog_10_method_8_code 108 = .ok (.ifCond .eq 28, 3) := by decide +kernel
theorem d_Wr_writeFloating_111 : decode prog_10_method_8_code 111 = .ok (.aload_n 0, 1) := by decide +kernel
theorem d_Wr_writeFloating_112 : decode prog_10_method_8_code 112 = .ok (.getfield 16, 3) := by decide +kernel
theorem d_Wr_writeFloating_115 : decode prog_10_method_8_code 115 = .ok (.iconst 1, 1) := by decide +kernel
theorem d_Wr_writeFloating_116 : decode prog_10_method_8_code 116 = .ok (.invokevirtual 83, 3) := by decide +kernel
theorem d_Wr_writeFloating_119 : decode prog_10_method_8_code 119 = .ok (.iconst 1, 1) := by decide +kernel
theorem d_Wr_writeFloating_120 : decode prog_10_method_8_code 120 = .ok (.istore 7, 2) := by decide +kernel
theorem d_Wr_writeFloating_122 : decode prog_10_method_8_code 122 = .ok (.lload 5, 2) := by decide +kernel
theorem d_Wr_writeFloating_124 : decode prog_10_method_8_code 124 = .ok (.lconst 1, 1) := by decide +kernel
theorem d_Wr_writeFloating_125 : decode prog_10_method_8_code 125 = .ok (.iload 4, 2) := by decide +kernel
theorem d_Wr_writeFloating_127 : decode prog_10_method_8_code 127 = .ok (.iconst 1, 1) := by decide +kernel
theorem d_Wr_writeFloating_128 : decode prog_10_method_8_code 128 = .ok (.isub, 1) := by decide +kernel
theorem d_Wr_writeFloating_129 : decode prog_10_method_8_code 129 = .ok (.lshl, 1) := by decide +kernel
theorem d_Wr_writeFloating_130 : decode prog_10_method_8_code 130 = .ok (.lor, 1) := by decide +kernel
theorem d_Wr_writeFloating_131 : decode prog_10_method_8_code 131 = .ok (.lstore 8, 2) := by decide +kernel
theorem d_Wr_writeFloating_133 : decode prog_10_method_8_code 133 = .ok (.goto 23, 3) := by decide +kernel
theorem d_Wr_writeFloating_136 : decode prog_10_method_8_code 136 = .ok (.aload_n 0, 1) := by decide +kernel
theorem d_Wr_writeFloating_137 : decode prog_10_method_8_code 137 = .ok (.aload_n 3, 1) := by decide +kernel
theorem d_Wr_writeFloating_138 : decode prog_10_method_8_code 138 = .ok (.iload_n 2, 1) := by decide +kernel
theorem d_Wr_writeFloating_139 : decode prog_10_method_8_code 139 = .ok (.iconst 1, 1) := by decide +kernel
theorem d_Wr_writeFloating_140 : decode prog_10_method_8_code 140 = .ok (.bipush 8, 2) := by decide +kernel
theorem d_Wr_writeFloating_142 : decode prog_10_method_8_code 142 = .ok (.iload_n 1, 1) := by decide +kernel
theorem d_Wr_writeFloating_143 : decode prog_10_method_8_code 143 = .ok (.imul, 1) := by decide +kernel
theorem d_Wr_writeFloating_144 : decode prog_10_method_8_code 144 = .ok (.iload_n 2, 1) := by decide +kernel
theorem d_Wr_writeFloating_145 : decode prog_10_method_8_code 145 = .ok (.isub, 1) := by decide +kernel
theorem d_Wr_writeFloating_146 : decode prog_10_method_8_code 146 = .ok (.iconst 1, 1) := by decide +kernel
theorem d_Wr_writeFloating_147 : decode prog_10_method_8_code 147 = .ok (.isub, 1) := by decide +kernel
theorem d_Wr_writeFloating_148 : decode prog_10_method_8_code 148 = .ok (.ishl, 1) := by decide +kernel
theorem d_Wr_writeFloating_149 : decode prog_10_method_8_code 149 = .ok (.lload 5, 2) := by decide +kernel
theorem d_Wr_writeFloating_151 : decode prog_10_method_8_code 151 = .ok (.invokevirtual 127, 3) := by decide +kernel
theorem d_Wr_writeFloating_154 : decode prog_10_method_8_code 154 = .ok (.lstore 8, 2) := by decide +kernel
theorem d_Wr_writeFloating_156 : decode prog_10_method_8_code 156 = .ok (.aload_n 0, 1) := by decide +kernel
theorem d_Wr_writeFloating_157 : decode prog_10_method_8_code 157 = .ok (.getfield 16, 3) := by decide +kernel
theorem d_Wr_writeFloating_160 : decode prog_10_method_8_code 160 = .ok (.invokevirtual 87, 3) := by decide +kernel
theorem d_Wr_writeFloating_163 : decode prog_10_method_8_code 163 = .ok (.ifCond .ne 32, 3) := by decide +kernel
theorem d_Wr_writeFloating_166 : decode prog_10_method_8_code 166 = .ok (.aload_n 0, 1) := by decide +kernel
theorem d_Wr_writeFloating_167 : decode prog_10_method_8_code 167 = .ok (.getfield 20, 3) := by decide +kernel
theorem d_Wr_writeFloating_170 : decode prog_10_method_8_code 170 = .ok (.iconst 0, 1) := by decide +kernel
theorem d_Wr_writeFloating_171 : decode prog_10_method_8_code 171 = .ok (.iload_n 1, 1) := by decide +kernel
theorem d_Wr_writeFloating_172 : decode prog_10_method_8_code 172 = .ok (.lload 8, 2) := by decide +kernel
theorem d_Wr_writeFloating_174 : decode prog_10_method_8_code 174 = .ok (.iload 7, 2) := by decide +kernel
theorem d_Wr_writeFloating_176 : decode prog_10_method_8_code 176 = .ok (.ifCond .eq 14, 3) := by decide +kernel
theorem d_Wr_writeFloating_179 : decode prog_10_method_8_code 179 = .ok (.lconst 1, 1) := by decide +kernel
theorem d_Wr_writeFloating_180 : decode prog_10_method_8_code 180 = .ok (.bipush 8, 2) := by decide +kernel
theorem d_Wr_writeFloating_182 : decode prog_10_method_8_code 182 = .ok (.iload_n 1, 1) := by decide +kernel
theorem d_Wr_writeFloating_183 : decode prog_10_method_8_code 183 = .ok (.imul, 1) := by decide +kernel
theorem d_Wr_writeFloating_184 : decode prog_10_method_8_code 184 = .ok (.iconst 1, 1) := by decide +kernel
theorem d_Wr_writeFloating_185 : decode prog_10_method_8_code 185 = .ok (.isub, 1) := by decide +kernel
theorem d_Wr_writeFloating_186 : decode prog_10_method_8_code 186 = .ok (.lshl, 1) := by decide +kernel
theorem d_Wr_writeFloating_187 : decode prog_10_method_8_code 187 = .ok (.goto 4, 3) := by decide +kernel
theorem d_Wr_writeFloating_190 : decode prog_10_method_8_code 190 = .ok (.lconst 0, 1) := by decide +kernel
theorem d_Wr_writeFloating_191 : decode prog_10_method_8_code 191 = .ok (.lor, 1) := by decide +kernel
theorem d_Wr_writeFloating_192 : decode prog_10_method_8_code 192 = .ok (.invokevirtual 48, 3) := by decide +kernel
theorem d_Wr_writeFloating_195 : decode prog_10_method_8_code 195 = .ok (.return_, 1) := by decide +kernel
theorem d_Wr_writeDecimals_0 : decode prog_10_method_7_code 0 = .ok (.aload_n 0, 1) := by decide +kernel
theorem d_Wr_writeDecimals_1 : decode prog_10_method_7_code 1 = .ok (.aload_n 1, 1) := by decide +kernel
theorem d_Wr_writeDecimals_2 : decode prog_10_method_7_code 2 = .ok (.iconst 4, 1) := by decide +kernel
theorem d_Wr_writeDecimals_3 : decode prog_10_method_7_code 3 = .ok (.invokevirtual 65, 3) := by decide +kernel
theorem d_Wr_writeDecimals_6 : decode prog_10_method_7_code 6 = .ok (.ifCond .eq 33, 3) := by decide +kernel
theorem d_Wr_writeDecimals_9 : decode prog_10_method_7_code 9 = .ok (.aload_n 0, 1) := by decide +kernel
theorem d_Wr_writeDecimals_10 : decode prog_10_method_7_code 10 = .ok (.getfield 10, 3) := by decide +kernel
theorem d_Wr_writeDecimals_13 : decode prog_10_method_7_code 13 = .ok (.getfield 69, 3) := by decide +kernel
theorem d_Wr_writeDecimals_16 : decode prog_10_method_7_code 16 = .ok (.lconst 0, 1) := by decide +kernel
theorem d_Wr_writeDecimals_17 : decode prog_10_method_7_code 17 = .ok (.lcmp, 1) := by decide +kernel
theorem d_Wr_writeDecimals_18 : decode prog_10_method_7_code 18 = .ok (.ifCond .lt 21, 3) := by decide +kernel
theorem d_Wr_writeDecimals_21 : decode prog_10_method_7_code 21 = .ok (.aload_n 0, 1) := by decide +kernel
theorem d_Wr_writeDecimals_22 : decode prog_10_method_7_code 22 = .ok (.getfield 10, 3) := by decide +kernel
theorem d_Wr_writeDecimals_25 : decode prog_10_method_7_code 25 = .ok (.getfield 69, 3) := by decide +kernel
theorem d_Wr_writeDecimals_28 : decode prog_10_method_7_code 28 = .ok (.ldc2_w 105, 3) := by decide +kernel
theorem d_Wr_writeDecimals_31 : decode prog_10_method_7_code 31 = .ok (.lcmp, 1) := by decide +kernel
theorem d_Wr_writeDecimals_32 : decode prog_10_method_7_code 32 = .ok (.ifCond .ge 7, 3) := by decide +kernel
theorem d_Wr_writeDecimals_35 : decode prog_10_method_7_code 35 = .ok (.iconst 1, 1) := by decide +kernel
theorem d_Wr_writeDecimals_36 : decode prog_10_method_7_code 36 = .ok (.goto 4, 3) := by decide +kernel
theorem d_Wr_writeDecimals_39 : decode prog_10_method_7_code 39 = .ok (.iconst 0, 1) := by decide +kernel
theorem d_Wr_writeDecimals_40 : decode prog_10_method_7_code 40 = .ok (.istore_n 2, 1) := by decide +kernel
theorem d_Wr_writeDecimals_41 : decode prog_10_method_7_code 41 = .ok (.aload_n 0, 1) := by decide +kernel
theorem d_Wr_writeDecimals_42 : decode prog_10_method_7_code 42 = .ok (.getfield 16, 3) := by decide +kernel
theorem d_Wr_writeDecimals_45 : decode prog_10_method_7_code 45 = .ok (.iload_n 2, 1) := by decide +kernel
theorem d_Wr_writeDecimals_46 : decode prog_10_method_7_code 46 = .ok (.ifCond .ne 7, 3) := by decide +kernel
theorem d_Wr_writeDecimals_49 : decode prog_10_method_7_code 49 = .ok (.iconst 1, 1) := by decide +kernel
theorem d_Wr_writeDecimals_50 : decode prog_10_method_7_code 50 = .ok (.goto 19, 3) := by decide +kernel
theorem d_Wr_writeDecimals_53 : decode prog_10_method_7_code 53 = .ok (.aload_n 0, 1) := by decide +kernel
theorem d_Wr_writeDecimals_54 : decode prog_10_method_7_code 54 = .ok (.getfield 10, 3) := by decide +kernel
theorem d_Wr_writeDecimals_57 : decode prog_10_method_7_code 57 = .ok (.getfield 80, 3) := by decide +kernel
theorem d_Wr_writeDecimals_60 : decode prog_10_method_7_code 60 = .ok (.ifCond .eq 8, 3) := by decide +kernel
theorem d_Wr_writeDecimals_63 : decode prog_10_method_7_code 63 = .ok (.bipush 32, 2) := by decide +kernel
theorem d_Wr_writeDecimals_65 : decode prog_10_method_7_code 65 = .ok (.goto 4, 3) := by decide +kernel
theorem d_Wr_writeDecimals_68 : decode prog_10_method_7_code 68 = .ok (.iconst 0, 1) := by decide +kernel
theorem d_Wr_writeDecimals_69 : decode prog_10_method_7_code 69 = .ok (.invokevirtual 83, 3) := by decide +kernel
theorem d_Wr_writeDecimals_72 : decode prog_10_method_7_code 72 = .ok (.aload_n 0, 1) := by decide +kernel
theorem d_Wr_writeDecimals_73 : decode prog_10_method_7_code 73 = .ok (.getfield 16, 3) := by decide +kernel
theorem d_Wr_writeDecimals_76 : decode prog_10_method_7_code 76 = .ok (.invokevirtual 87, 3) := by decide +kernel
theorem d_Wr_writeDecimals_79 : decode prog_10_method_7_code 79 = .ok (.ifCond .eq 4, 3) := by decide +kernel
theorem d_Wr_writeDecimals_82 : decode prog_10_method_7_code 82 = .ok (.return_, 1) := by decide +kernel
theorem d_Wr_writeDecimals_83 : decode prog_10_method_7_code 83 = .ok (.iload_n 2, 1) := by decide +kernel
theorem d_Wr_writeDecimals_84 : decode prog_10_method_7_code 84 = .ok (.ifCond .ne 30, 3) := by decide +kernel
theorem d_Wr_writeDecimals_87 : decode prog_10_method_7_code 87 = .ok (.aload_n 0, 1) := by decide +kernel
theorem d_Wr_writeDecimals_88 : decode prog_10_method_7_code 88 = .ok (.getfield 20, 3) := by decide +kernel
theorem d_Wr_writeDecimals_91 : decode prog_10_method_7_code 91 = .ok (.iconst 0, 1) := by decide +kernel
theorem d_Wr_writeDecimals_92 : decode prog_10_method_7_code 92 = .ok (.bipush 8, 2) := by decide +kernel
theorem d_Wr_writeDecimals_94 : decode prog_10_method_7_code 94 = .ok (.ldc2_w 107, 3) := by decide +kernel
theorem d_Wr_writeDecimals_97 : decode prog_10_method_7_code 97 = .ok (.invokevirtual 48, 3) := by decide +kernel
theorem d_Wr_writeDecimals_100 : decode prog_10_method_7_code 100 = .ok (.aload_n 0, 1) := by decide +kernel
theorem d_Wr_writeDecimals_101 : decode prog_10_method_7_code 101 = .ok (.getfield 20, 3) := by decide +kernel
theorem d_Wr_writeDecimals_104 : decode prog_10_method_7_code 104 = .ok (.bipush 8, 2) := by decide +kernel
theorem d_Wr_writeDecimals_106 : decode prog_10_method_7_code 106 = .ok (.iconst 2, 1) := by decide +kernel
theorem d_Wr_writeDecimals_107 : decode prog_10_method_7_code 107 = .ok (.ldc2_w 109, 3) := by decide +kernel
theorem d_Wr_writeDecimals_110 : decode prog_10_method_7_code 110 = .ok (.invokevirtual 48, 3) := by decide +kernel
theorem d_Wr_writeDecimals_113 : decode prog_10_method_7_code 113 = .ok (.return_, 1) := by decide +kernel
theorem d_Wr_writeDecimals_114 : decode prog_10_method_7_code 114 = .ok (.aload_n 0, 1) := by decide +kernel
theorem d_Wr_writeDecimals_115 : decode prog_10_method_7_code 115 = .ok (.getfield 10, 3) := by decide +kernel
theorem d_Wr_writeDecimals_118 : decode prog_10_method_7_code 118 = .ok (.getfield 69, 3) := by decide +kernel
theorem d_Wr_writeDecimals_121 : decode prog_10_method_7_code 121 = .ok (.lstore_n 3, 1) := by decide +kernel
theorem d_Wr_writeDecimals_122 : decode prog_10_method_7_code 122 = .ok (.iconst 0, 1) := by decide +kernel
theorem d_Wr_writeDecimals_123 : decode prog_10_method_7_code 123 = .ok (.istore 5, 2) := by decide +kernel
theorem d_Wr_writeDecimals_125 : decode prog_10_method_7_code 125 = .ok (.iload 5, 2) := by decide +kernel
theorem d_Wr_writeDecimals_127 : decode prog_10_method_7_code 127 = .ok (.bipush 9, 2) := by decide +kernel
theorem d_Wr_writeDecimals_129 : decode prog_10_method_7_code 129 = .ok (.if_icmp .ge 47, 3) := by decide +kernel
theorem d_Wr_writeDecimals_132 : decode prog_10_method_7_code 132 = .ok (.lload_n 3, 1) := by decide +kernel
theorem d_Wr_writeDecimals_133 : decode prog_10_method_7_code 133 = .ok (.ldc2_w 111, 3) := by decide +kernel
theorem d_Wr_writeDecimals_136 : decode prog_10_method_7_code 136 = .ok (.lrem, 1) := by decide +kernel
theorem d_Wr_writeDecimals_137 : decode prog_10_method_7_code 137 = .ok (.l2i, 1) := by decide +kernel
theorem d_Wr_writeDecimals_138 : decode prog_10_method_7_code 138 = .ok (.istore 6, 2) := by decide +kernel
theorem d_Wr_writeDecimals_140 : decode prog_10_method_7_code 140 = .ok (.aload_n 0, 1) := by decide +kernel
theorem d_Wr_writeDecimals_141 : decode prog_10_method_7_code 141 = .ok (.getfield 20, 3) := by decide +kernel
theorem d_Wr_writeDecimals_144 : decode prog_10_method_7_code 144 = .ok (.iload 5, 2) := by decide +kernel
theorem d_Wr_writeDecimals_146 : decode prog_10_method_7_code 146 = .ok (.iconst 1, 1) := by decide +kernel
theorem d_Wr_writeDecimals_147 : decode prog_10_method_7_code 147 = .ok (.iload 6, 2) := by decide +kernel
theorem d_Wr_writeDecimals_149 : decode prog_10_method_7_code 149 = .ok (.bipush 10, 2) := by decide +kernel
theorem d_Wr_writeDecimals_151 : decode prog_10_method_7_code 151 = .ok (.idiv, 1) := by decide +kernel
theorem d_Wr_writeDecimals_152 : decode prog_10_method_7_code 152 = .ok (.iconst 4, 1) := by decide +kernel
theorem d_Wr_writeDecimals_153 : decode prog_10_method_7_code 153 = .ok (.ishl, 1) := by decide +kernel
theorem d_Wr_writeDecimals_154 : decode prog_10_method_7_code 154 = .ok (.iload 6, 2) := by decide +kernel
theorem d_Wr_writeDecimals_156 : decode prog_10_method_7_code 156 = .ok (.bipush 10, 2) := by decide +kernel
theorem d_Wr_writeDecimals_158 : decode prog_10_method_7_code 158 = .ok (.irem, 1) := by decide +kernel
theorem d_Wr_writeDecimals_159 : decode prog_10_method_7_code 159 = .ok (.ior, 1) := by decide +kernel
theorem d_Wr_writeDecimals_160 : decode prog_10_method_7_code 160 = .ok (.i2l, 1) := by decide +kernel
theorem d_Wr_writeDecimals_161 : decode prog_10_method_7_code 161 = .ok (.invokevirtual 48, 3) := by decide +kernel
theorem d_Wr_writeDecimals_164 : decode prog_10_method_7_code 164 = .ok (.lload_n 3, 1) := by decide +kernel
theorem d_Wr_writeDecimals_165 : decode prog_10_method_7_code 165 = .ok (.ldc2_w 111, 3) := by decide +kernel
theorem d_Wr_writeDecimals_168 : decode prog_10_method_7_code 168 = .ok (.ldiv, 1) := by decide +kernel
theorem d_Wr_writeDecimals_169 : decode prog_10_method_7_code 169 = .ok (.lstore_n 3, 1) := by decide +kernel
theorem d_Wr_writeDecimals_170 : decode prog_10_method_7_code 170 = .ok (.iinc 5 1, 3) := by decide +kernel
theorem d_Wr_writeDecimals_173 : decode prog_10_method_7_code 173 = .ok (.goto (-48), 3) := by decide +kernel
theorem d_Wr_writeDecimals_176 : decode prog_10_method_7_code 176 = .ok (.aload_n 0, 1) := by decide +kernel
theorem d_Wr_writeDecimals_177 : decode prog_10_method_7_code 177 = .ok (.getfield 20, 3) := by decide +kernel
theorem d_Wr_writeDecimals_180 : decode prog_10_method_7_code 180 = .ok (.bipush 9, 2) := by decide +kernel
theorem d_Wr_writeDecimals_182 : decode prog_10_method_7_code 182 = .ok (.iconst 1, 1) := by decide +kernel
theorem d_Wr_writeDecimals_183 : decode prog_10_method_7_code 183 = .ok (.aload_n 1, 1) := by decide +kernel
theorem d_Wr_writeDecimals_184 : decode prog_10_method_7_code 184 = .ok (.getfield 72, 3) := by decide +kernel
theorem d_Wr_writeDecimals_187 : decode prog_10_method_7_code 187 = .ok (.ifCond .eq 9, 3) := by decide +kernel
theorem d_Wr_writeDecimals_190 : decode prog_10_method_7_code 190 = .ok (.ldc2_w 113, 3) := by decide +kernel
theorem d_Wr_writeDecimals_193 : decode prog_10_method_7_code 193 = .ok (.goto 4, 3) := by decide +kernel
theorem d_Wr_writeDecimals_196 : decode prog_10_method_7_code 196 = .ok (.lconst 0, 1) := by decide +kernel
theorem d_Wr_writeDecimals_197 : decode prog_10_method_7_code 197 = .ok (.invokevirtual 48, 3) := by decide +kernel
theorem d_Wr_writeDecimals_200 : decode prog_10_method_7_code 200 = .ok (.return_, 1) := by decide +kernel
theorem d_Wr_write_0 : decode prog_10_method_2_code 0 = .ok (.aload_n 0, 1) := by decide +kernel
theorem d_Wr_write_1 : decode prog_10_method_2_code 1 = .ok (.getfield 10, 3) := by decide +kernel
theorem d_Wr_write_4 : decode prog_10_method_2_code 4 = .ok (.aload_n 2, 1) := by decide +kernel
theorem d_Wr_write_5 : decode prog_10_method_2_code 5 = .ok (.invokevirtual 24, 3) := by decide +kernel
theorem d_Wr_write_8 : decode prog_10_method_2_code 8 = .ok (.iload_n 1, 1) := by decide +kernel
theorem d_Wr_write_9 : decode prog_10_method_2_code 9 = .ok (.tableswitch 98 0 5 #[39, 48, 57, 67, 78, 90], 39) := by decide +kernel
theorem d_Wr_write_48 : decode prog_10_method_2_code 48 = .ok (.aload_n 0, 1) := by decide +kernel
theorem d_Wr_write_49 : decode prog_10_method_2_code 49 = .ok (.iconst 2, 1) := by decide +kernel
theorem d_Wr_write_50 : decode prog_10_method_2_code 50 = .ok (.aload_n 2, 1) := by decide +kernel
theorem d_Wr_write_51 : decode prog_10_method_2_code 51 = .ok (.invokevirtual 28, 3) := by decide +kernel
theorem d_Wr_write_54 : decode prog_10_method_2_code 54 = .ok (.goto 59, 3) := by decide +kernel
theorem d_Wr_write_57 : decode prog_10_method_2_code 57 = .ok (.aload_n 0, 1) := by decide +kernel
theorem d_Wr_write_58 : decode prog_10_method_2_code 58 = .ok (.iconst 4, 1) := by decide +kernel
theorem d_Wr_write_59 : decode prog_10_method_2_code 59 = .ok (.aload_n 2, 1) := by decide +kernel
theorem d_Wr_write_60 : decode prog_10_method_2_code 60 = .ok (.invokevirtual 28, 3) := by decide +kernel
theorem d_Wr_write_63 : decode prog_10_method_2_code 63 = .ok (.goto 50, 3) := by decide +kernel
theorem d_Wr_write_66 : decode prog_10_method_2_code 66 = .ok (.aload_n 0, 1) := by decide +kernel
theorem d_Wr_write_67 : decode prog_10_method_2_code 67 = .ok (.bipush 8, 2) := by decide +kernel
theorem d_Wr_write_69 : decode prog_10_method_2_code 69 = .ok (.aload_n 2, 1) := by decide +kernel
theorem d_Wr_write_70 : decode prog_10_method_2_code 70 = .ok (.invokevirtual 28, 3) := by decide +kernel
theorem d_Wr_write_73 : decode prog_10_method_2_code 73 = .ok (.goto 40, 3) := by decide +kernel
theorem d_Wr_write_76 : decode prog_10_method_2_code 76 = .ok (.aload_n 0, 1) := by decide +kernel
theorem d_Wr_write_77 : decode prog_10_method_2_code 77 = .ok (.iconst 4, 1) := by decide +kernel
theorem d_Wr_write_78 : decode prog_10_method_2_code 78 = .ok (.bipush 24, 2) := by decide +kernel
theorem d_Wr_write_80 : decode prog_10_method_2_code 80 = .ok (.aload_n 2, 1) := by decide +kernel
theorem d_Wr_write_81 : decode prog_10_method_2_code 81 = .ok (.invokevirtual 32, 3) := by decide +kernel
theorem d_Wr_write_84 : decode prog_10_method_2_code 84 = .ok (.goto 29, 3) := by decide +kernel
theorem d_Wr_write_87 : decode prog_10_method_2_code 87 = .ok (.aload_n 0, 1) := by decide +kernel
theorem d_Wr_write_88 : decode prog_10_method_2_code 88 = .ok (.bipush 8, 2) := by decide +kernel
theorem d_Wr_write_90 : decode prog_10_method_2_code 90 = .ok (.bipush 53, 2) := by decide +kernel
theorem d_Wr_write_92 : decode prog_10_method_2_code 92 = .ok (.aload_n 2, 1) := by decide +kernel
theorem d_Wr_write_93 : decode prog_10_method_2_code 93 = .ok (.invokevirtual 32, 3) := by decide +kernel
theorem d_Wr_write_96 : decode prog_10_method_2_code 96 = .ok (.goto 17, 3) := by decide +kernel
theorem d_Wr_write_99 : decode prog_10_method_2_code 99 = .ok (.aload_n 0, 1) := by decide +kernel
theorem d_Wr_write_100 : decode prog_10_method_2_code 100 = .ok (.aload_n 2, 1) := by decide +kernel
theorem d_Wr_write_101 : decode prog_10_method_2_code 101 = .ok (.invokevirtual 36, 3) := by decide +kernel
theorem d_Wr_write_104 : decode prog_10_method_2_code 104 = .ok (.goto 9, 3) := by decide +kernel
theorem d_Wr_write_107 : decode prog_10_method_2_code 107 = .ok (.aload_n 0, 1) := by decide +kernel
theorem d_Wr_write_108 : decode prog_10_method_2_code 108 = .ok (.iconst 0, 1) := by decide +kernel
theorem d_Wr_write_109 : decode prog_10_method_2_code 109 = .ok (.aload_n 2, 1) := by decide +kernel
theorem d_Wr_write_110 : decode prog_10_method_2_code 110 = .ok (.invokevirtual 39, 3) := by decide +kernel
theorem d_Wr_write_113 : decode prog_10_method_2_code 113 = .ok (.return_, 1) := by decide +kernel
