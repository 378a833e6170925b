theorem d_Size_normalise_0 : decode prog_8_method_6_code 0 = .ok (.aload_n 0, 1) := by decide +kernel
theorem d_Size_normalise_1 : decode prog_8_method_6_code 1 = .ok (.getfield 7, 3) := by decide +kernel
theorem d_Size_normalise_4 : decode prog_8_method_6_code 4 = .ok (.lconst 0, 1) := by decide +kernel
theorem d_Size_normalise_5 : decode prog_8_method_6_code 5 = .ok (.lcmp, 1) := by decide +kernel
theorem d_Size_normalise_6 : decode prog_8_method_6_code 6 = .ok (.ifCond .ne 27, 3) := by decide +kernel
theorem d_Size_normalise_9 : decode prog_8_method_6_code 9 = .ok (.aload_n 0, 1) := by decide +kernel
theorem d_Size_normalise_10 : decode prog_8_method_6_code 10 = .ok (.aload_n 0, 1) := by decide +kernel
theorem d_Size_normalise_11 : decode prog_8_method_6_code 11 = .ok (.getfield 13, 3) := by decide +kernel
theorem d_Size_normalise_14 : decode prog_8_method_6_code 14 = .ok (.putfield 7, 3) := by decide +kernel
theorem d_Size_normalise_17 : decode prog_8_method_6_code 17 = .ok (.aload_n 0, 1) := by decide +kernel
theorem d_Size_normalise_18 : decode prog_8_method_6_code 18 = .ok (.lconst 0, 1) := by decide +kernel
theorem d_Size_normalise_19 : decode prog_8_method_6_code 19 = .ok (.putfield 13, 3) := by decide +kernel
theorem d_Size_normalise_22 : decode prog_8_method_6_code 22 = .ok (.aload_n 0, 1) := by decide +kernel
theorem d_Size_normalise_23 : decode prog_8_method_6_code 23 = .ok (.dup, 1) := by decide +kernel
theorem d_Size_normalise_24 : decode prog_8_method_6_code 24 = .ok (.getfield 16, 3) := by decide +kernel
theorem d_Size_normalise_27 : decode prog_8_method_6_code 27 = .ok (.bipush 64, 2) := by decide +kernel
theorem d_Size_normalise_29 : decode prog_8_method_6_code 29 = .ok (.isub, 1) := by decide +kernel
theorem d_Size_normalise_30 : decode prog_8_method_6_code 30 = .ok (.putfield 16, 3) := by decide +kernel
theorem d_Size_normalise_33 : decode prog_8_method_6_code 33 = .ok (.aload_n 0, 1) := by decide +kernel
theorem d_Size_normalise_34 : decode prog_8_method_6_code 34 = .ok (.getfield 7, 3) := by decide +kernel
theorem d_Size_normalise_37 : decode prog_8_method_6_code 37 = .ok (.lconst 0, 1) := by decide +kernel
theorem d_Size_normalise_38 : decode prog_8_method_6_code 38 = .ok (.lcmp, 1) := by decide +kernel
theorem d_Size_normalise_39 : decode prog_8_method_6_code 39 = .ok (.ifCond .ne 11, 3) := by decide +kernel
theorem d_Size_normalise_42 : decode prog_8_method_6_code 42 = .ok (.aload_n 0, 1) := by decide +kernel
theorem d_Size_normalise_43 : decode prog_8_method_6_code 43 = .ok (.sipush (-17000), 3) := by decide +kernel
theorem d_Size_normalise_46 : decode prog_8_method_6_code 46 = .ok (.putfield 16, 3) := by decide +kernel
theorem d_Size_normalise_49 : decode prog_8_method_6_code 49 = .ok (.return_, 1) := by decide +kernel
theorem d_Size_normalise_50 : decode prog_8_method_6_code 50 = .ok (.bipush 32, 2) := by decide +kernel
theorem d_Size_normalise_52 : decode prog_8_method_6_code 52 = .ok (.istore_n 1, 1) := by decide +kernel
theorem d_Size_normalise_53 : decode prog_8_method_6_code 53 = .ok (.iload_n 1, 1) := by decide +kernel
theorem d_Size_normalise_54 : decode prog_8_method_6_code 54 = .ok (.ifCond .le 64, 3) := by decide +kernel
theorem d_Size_normalise_57 : decode prog_8_method_6_code 57 = .ok (.aload_n 0, 1) := by decide +kernel
theorem d_Size_normalise_58 : decode prog_8_method_6_code 58 = .ok (.getfield 7, 3) := by decide +kernel
theorem d_Size_normalise_61 : decode prog_8_method_6_code 61 = .ok (.bipush 64, 2) := by decide +kernel
theorem d_Size_normalise_63 : decode prog_8_method_6_code 63 = .ok (.iload_n 1, 1) := by decide +kernel
theorem d_Size_normalise_64 : decode prog_8_method_6_code 64 = .ok (.isub, 1) := by decide +kernel
theorem d_Size_normalise_65 : decode prog_8_method_6_code 65 = .ok (.lushr, 1) := by decide +kernel
theorem d_Size_normalise_66 : decode prog_8_method_6_code 66 = .ok (.lconst 0, 1) := by decide +kernel
theorem d_Size_normalise_67 : decode prog_8_method_6_code 67 = .ok (.lcmp, 1) := by decide +kernel
theorem d_Size_normalise_68 : decode prog_8_method_6_code 68 = .ok (.ifCond .ne 43, 3) := by decide +kernel
theorem d_Size_normalise_71 : decode prog_8_method_6_code 71 = .ok (.aload_n 0, 1) := by decide +kernel
theorem d_Size_normalise_72 : decode prog_8_method_6_code 72 = .ok (.aload_n 0, 1) := by decide +kernel
theorem d_Size_normalise_73 : decode prog_8_method_6_code 73 = .ok (.getfield 7, 3) := by decide +kernel
theorem d_Size_normalise_76 : decode prog_8_method_6_code 76 = .ok (.iload_n 1, 1) := by decide +kernel
theorem d_Size_normalise_77 : decode prog_8_method_6_code 77 = .ok (.lshl, 1) := by decide +kernel
theorem d_Size_normalise_78 : decode prog_8_method_6_code 78 = .ok (.aload_n 0, 1) := by decide +kernel
theorem d_Size_normalise_79 : decode prog_8_method_6_code 79 = .ok (.getfield 13, 3) := by decide +kernel
theorem d_Size_normalise_82 : decode prog_8_method_6_code 82 = .ok (.bipush 64, 2) := by decide +kernel
theorem d_Size_normalise_84 : decode prog_8_method_6_code 84 = .ok (.iload_n 1, 1) := by decide +kernel
theorem d_Size_normalise_85 : decode prog_8_method_6_code 85 = .ok (.isub, 1) := by decide +kernel
theorem d_Size_normalise_86 : decode prog_8_method_6_code 86 = .ok (.lushr, 1) := by decide +kernel
theorem d_Size_normalise_87 : decode prog_8_method_6_code 87 = .ok (.lor, 1) := by decide +kernel
theorem d_Size_normalise_88 : decode prog_8_method_6_code 88 = .ok (.putfield 7, 3) := by decide +kernel
theorem d_Size_normalise_91 : decode prog_8_method_6_code 91 = .ok (.aload_n 0, 1) := by decide +kernel
theorem d_Size_normalise_92 : decode prog_8_method_6_code 92 = .ok (.dup, 1) := by decide +kernel
theorem d_Size_normalise_93 : decode prog_8_method_6_code 93 = .ok (.getfield 13, 3) := by decide +kernel
theorem d_Size_normalise_96 : decode prog_8_method_6_code 96 = .ok (.iload_n 1, 1) := by decide +kernel
theorem d_Size_normalise_97 : decode prog_8_method_6_code 97 = .ok (.lshl, 1) := by decide +kernel
theorem d_Size_normalise_98 : decode prog_8_method_6_code 98 = .ok (.putfield 13, 3) := by decide +kernel
theorem d_Size_normalise_101 : decode prog_8_method_6_code 101 = .ok (.aload_n 0, 1) := by decide +kernel
theorem d_Size_normalise_102 : decode prog_8_method_6_code 102 = .ok (.dup, 1) := by decide +kernel
theorem d_Size_normalise_103 : decode prog_8_method_6_code 103 = .ok (.getfield 16, 3) := by decide +kernel
theorem d_Size_normalise_106 : decode prog_8_method_6_code 106 = .ok (.iload_n 1, 1) := by decide +kernel
theorem d_Size_normalise_107 : decode prog_8_method_6_code 107 = .ok (.isub, 1) := by decide +kernel
theorem d_Size_normalise_108 : decode prog_8_method_6_code 108 = .ok (.putfield 16, 3) := by decide +kernel
theorem d_Size_normalise_111 : decode prog_8_method_6_code 111 = .ok (.iload_n 1, 1) := by decide +kernel
theorem d_Size_normalise_112 : decode prog_8_method_6_code 112 = .ok (.iconst 1, 1) := by decide +kernel
theorem d_Size_normalise_113 : decode prog_8_method_6_code 113 = .ok (.ishr, 1) := by decide +kernel
theorem d_Size_normalise_114 : decode prog_8_method_6_code 114 = .ok (.istore_n 1, 1) := by decide +kernel
theorem d_Size_normalise_115 : decode prog_8_method_6_code 115 = .ok (.goto (-62), 3) := by decide +kernel
theorem d_Size_normalise_118 : decode prog_8_method_6_code 118 = .ok (.return_, 1) := by decide +kernel
theorem d_Size_loadTimes_0 : decode prog_8_method_5_code 0 = .ok (.aload_n 0, 1) := by decide +kernel
theorem d_Size_loadTimes_1 : decode prog_8_method_5_code 1 = .ok (.lload_n 1, 1) := by decide +kernel
theorem d_Size_loadTimes_2 : decode prog_8_method_5_code 2 = .ok (.putfield 7, 3) := by decide +kernel
theorem d_Size_loadTimes_5 : decode prog_8_method_5_code 5 = .ok (.aload_n 0, 1) := by decide +kernel
theorem d_Size_loadTimes_6 : decode prog_8_method_5_code 6 = .ok (.lconst 0, 1) := by decide +kernel
theorem d_Size_loadTimes_7 : decode prog_8_method_5_code 7 = .ok (.putfield 13, 3) := by decide +kernel
theorem d_Size_loadTimes_10 : decode prog_8_method_5_code 10 = .ok (.aload_n 0, 1) := by decide +kernel
theorem d_Size_loadTimes_11 : decode prog_8_method_5_code 11 = .ok (.iconst 0, 1) := by decide +kernel
theorem d_Size_loadTimes_12 : decode prog_8_method_5_code 12 = .ok (.putfield 32, 3) := by decide +kernel
theorem d_Size_loadTimes_15 : decode prog_8_method_5_code 15 = .ok (.aload_n 0, 1) := by decide +kernel
theorem d_Size_loadTimes_16 : decode prog_8_method_5_code 16 = .ok (.iload_n 3, 1) := by decide +kernel
theorem d_Size_loadTimes_17 : decode prog_8_method_5_code 17 = .ok (.bipush 64, 2) := by decide +kernel
theorem d_Size_loadTimes_19 : decode prog_8_method_5_code 19 = .ok (.isub, 1) := by decide +kernel
theorem d_Size_loadTimes_20 : decode prog_8_method_5_code 20 = .ok (.putfield 16, 3) := by decide +kernel
theorem d_Size_loadTimes_23 : decode prog_8_method_5_code 23 = .ok (.aload_n 0, 1) := by decide +kernel
theorem d_Size_loadTimes_24 : decode prog_8_method_5_code 24 = .ok (.invokevirtual 36, 3) := by decide +kernel
theorem d_Size_loadTimes_27 : decode prog_8_method_5_code 27 = .ok (.return_, 1) := by decide +kernel
theorem d_Size_exponent_0 : decode prog_8_method_3_code 0 = .ok (.aload_n 0, 1) := by decide +kernel
theorem d_Size_exponent_1 : decode prog_8_method_3_code 1 = .ok (.getfield 16, 3) := by decide +kernel
theorem d_Size_exponent_4 : decode prog_8_method_3_code 4 = .ok (.bipush 127, 2) := by decide +kernel
theorem d_Size_exponent_6 : decode prog_8_method_3_code 6 = .ok (.iadd, 1) := by decide +kernel
theorem d_Size_exponent_7 : decode prog_8_method_3_code 7 = .ok (.ireturn, 1) := by decide +kernel
theorem d_Size_load_0 : decode prog_8_method_4_code 0 = .ok (.aload_n 0, 1) := by decide +kernel
theorem d_Size_load_1 : decode prog_8_method_4_code 1 = .ok (.aload_n 1, 1) := by decide +kernel
theorem d_Size_load_2 : decode prog_8_method_4_code 2 = .ok (.getfield 20, 3) := by decide +kernel
theorem d_Size_load_5 : decode prog_8_method_4_code 5 = .ok (.aload_n 1, 1) := by decide +kernel
theorem d_Size_load_6 : decode prog_8_method_4_code 6 = .ok (.getfield 25, 3) := by decide +kernel
theorem d_Size_load_9 : decode prog_8_method_4_code 9 = .ok (.ifCond .ne 7, 3) := by decide +kernel
theorem d_Size_load_12 : decode prog_8_method_4_code 12 = .ok (.iconst 1, 1) := by decide +kernel
theorem d_Size_load_13 : decode prog_8_method_4_code 13 = .ok (.goto 7, 3) := by decide +kernel
theorem d_Size_load_16 : decode prog_8_method_4_code 16 = .ok (.aload_n 1, 1) := by decide +kernel
theorem d_Size_load_17 : decode prog_8_method_4_code 17 = .ok (.getfield 25, 3) := by decide +kernel
theorem d_Size_load_20 : decode prog_8_method_4_code 20 = .ok (.sipush 16446, 3) := by decide +kernel
theorem d_Size_load_23 : decode prog_8_method_4_code 23 = .ok (.isub, 1) := by decide +kernel
theorem d_Size_load_24 : decode prog_8_method_4_code 24 = .ok (.invokevirtual 28, 3) := by decide +kernel
theorem d_Size_load_27 : decode prog_8_method_4_code 27 = .ok (.return_, 1) := by decide +kernel
theorem d_Size_isBelow_0 : decode prog_8_method_19_code 0 = .ok (.lload_n 0, 1) := by decide +kernel
theorem d_Size_isBelow_1 : decode prog_8_method_19_code 1 = .ok (.ldc2_w 65, 3) := by decide +kernel
theorem d_Size_isBelow_4 : decode prog_8_method_19_code 4 = .ok (.lxor, 1) := by decide +kernel
theorem d_Size_isBelow_5 : decode prog_8_method_19_code 5 = .ok (.lload_n 2, 1) := by decide +kernel
theorem d_Size_isBelow_6 : decode prog_8_method_19_code 6 = .ok (.ldc2_w 65, 3) := by decide +kernel
theorem d_Size_isBelow_9 : decode prog_8_method_19_code 9 = .ok (.lxor, 1) := by decide +kernel
theorem d_Size_isBelow_10 : decode prog_8_method_19_code 10 = .ok (.lcmp, 1) := by decide +kernel
theorem d_Size_isBelow_11 : decode prog_8_method_19_code 11 = .ok (.ifCond .ge 7, 3) := by decide +kernel
theorem d_Size_isBelow_14 : decode prog_8_method_19_code 14 = .ok (.iconst 1, 1) := by decide +kernel
theorem d_Size_isBelow_15 : decode prog_8_method_19_code 15 = .ok (.goto 4, 3) := by decide +kernel
theorem d_Size_isBelow_18 : decode prog_8_method_19_code 18 = .ok (.iconst 0, 1) := by decide +kernel
theorem d_Size_isBelow_19 : decode prog_8_method_19_code 19 = .ok (.ireturn, 1) := by decide +kernel
theorem d_Size_against_0 : decode prog_8_method_8_code 0 = .ok (.aload_n 0, 1) := by decide +kernel
theorem d_Size_against_1 : decode prog_8_method_8_code 1 = .ok (.getfield 16, 3) := by decide +kernel
theorem d_Size_against_4 : decode prog_8_method_8_code 4 = .ok (.aload_n 1, 1) := by decide +kernel
theorem d_Size_against_5 : decode prog_8_method_8_code 5 = .ok (.getfield 16, 3) := by decide +kernel
theorem d_Size_against_8 : decode prog_8_method_8_code 8 = .ok (.if_icmp .eq 20, 3) := by decide +kernel
theorem d_Size_against_11 : decode prog_8_method_8_code 11 = .ok (.aload_n 0, 1) := by decide +kernel
theorem d_Size_against_12 : decode prog_8_method_8_code 12 = .ok (.getfield 16, 3) := by decide +kernel
theorem d_Size_against_15 : decode prog_8_method_8_code 15 = .ok (.aload_n 1, 1) := by decide +kernel
theorem d_Size_against_16 : decode prog_8_method_8_code 16 = .ok (.getfield 16, 3) := by decide +kernel
theorem d_Size_against_19 : decode prog_8_method_8_code 19 = .ok (.if_icmp .ge 7, 3) := by decide +kernel
theorem d_Size_against_22 : decode prog_8_method_8_code 22 = .ok (.iconst (-1), 1) := by decide +kernel
theorem d_Size_against_23 : decode prog_8_method_8_code 23 = .ok (.goto 4, 3) := by decide +kernel
theorem d_Size_against_26 : decode prog_8_method_8_code 26 = .ok (.iconst 1, 1) := by decide +kernel
theorem d_Size_against_27 : decode prog_8_method_8_code 27 = .ok (.ireturn, 1) := by decide +kernel
theorem d_Size_against_28 : decode prog_8_method_8_code 28 = .ok (.aload_n 0, 1) := by decide +kernel
theorem d_Size_against_29 : decode prog_8_method_8_code 29 = .ok (.getfield 7, 3) := by decide +kernel
theorem d_Size_against_32 : decode prog_8_method_8_code 32 = .ok (.aload_n 1, 1) := by decide +kernel
theorem d_Size_against_33 : decode prog_8_method_8_code 33 = .ok (.getfield 7, 3) := by decide +kernel
theorem d_Size_against_36 : decode prog_8_method_8_code 36 = .ok (.lcmp, 1) := by decide +kernel
theorem d_Size_against_37 : decode prog_8_method_8_code 37 = .ok (.ifCond .ne 5, 3) := by decide +kernel
theorem d_Size_against_40 : decode prog_8_method_8_code 40 = .ok (.iconst 0, 1) := by decide +kernel
theorem d_Size_against_41 : decode prog_8_method_8_code 41 = .ok (.ireturn, 1) := by decide +kernel
theorem d_Size_against_42 : decode prog_8_method_8_code 42 = .ok (.aload_n 0, 1) := by decide +kernel
theorem d_Size_against_43 : decode prog_8_method_8_code 43 = .ok (.getfield 7, 3) := by decide +kernel
theorem d_Size_against_46 : decode prog_8_method_8_code 46 = .ok (.aload_n 1, 1) := by decide +kernel
theorem d_Size_against_47 : decode prog_8_method_8_code 47 = .ok (.getfield 7, 3) := by decide +kernel
theorem d_Size_against_50 : decode prog_8_method_8_code 50 = .ok (.invokestatic 39, 3) := by decide +kernel
theorem d_Size_against_53 : decode prog_8_method_8_code 53 = .ok (.ifCond .eq 7, 3) := by decide +kernel
theorem d_Size_against_56 : decode prog_8_method_8_code 56 = .ok (.iconst (-1), 1) := by decide +kernel
theorem d_Size_against_57 : decode prog_8_method_8_code 57 = .ok (.goto 4, 3) := by decide +kernel
theorem d_Size_against_60 : decode prog_8_method_8_code 60 = .ok (.iconst 1, 1) := by decide +kernel
theorem d_Size_against_61 : decode prog_8_method_8_code 61 = .ok (.ireturn, 1) := by decide +kernel
theorem d_Size_swap_0 : decode prog_8_method_9_code 0 = .ok (.aload_n 1, 1) := by decide +kernel
theorem d_Size_swap_1 : decode prog_8_method_9_code 1 = .ok (.getfield 7, 3) := by decide +kernel
theorem d_Size_swap_4 : decode prog_8_method_9_code 4 = .ok (.lstore_n 2, 1) := by decide +kernel
theorem d_Size_swap_5 : decode prog_8_method_9_code 5 = .ok (.aload_n 1, 1) := by decide +kernel
theorem d_Size_swap_6 : decode prog_8_method_9_code 6 = .ok (.getfield 16, 3) := by decide +kernel
theorem d_Size_swap_9 : decode prog_8_method_9_code 9 = .ok (.istore 4, 2) := by decide +kernel
theorem d_Size_swap_11 : decode prog_8_method_9_code 11 = .ok (.aload_n 1, 1) := by decide +kernel
theorem d_Size_swap_12 : decode prog_8_method_9_code 12 = .ok (.aload_n 0, 1) := by decide +kernel
theorem d_Size_swap_13 : decode prog_8_method_9_code 13 = .ok (.getfield 7, 3) := by decide +kernel
theorem d_Size_swap_16 : decode prog_8_method_9_code 16 = .ok (.putfield 7, 3) := by decide +kernel
theorem d_Size_swap_19 : decode prog_8_method_9_code 19 = .ok (.aload_n 1, 1) := by decide +kernel
theorem d_Size_swap_20 : decode prog_8_method_9_code 20 = .ok (.aload_n 0, 1) := by decide +kernel
theorem d_Size_swap_21 : decode prog_8_method_9_code 21 = .ok (.getfield 16, 3) := by decide +kernel
theorem d_Size_swap_24 : decode prog_8_method_9_code 24 = .ok (.putfield 16, 3) := by decide +kernel
theorem d_Size_swap_27 : decode prog_8_method_9_code 27 = .ok (.aload_n 0, 1) := by decide +kernel
theorem d_Size_swap_28 : decode prog_8_method_9_code 28 = .ok (.lload_n 2, 1) := by decide +kernel
theorem d_Size_swap_29 : decode prog_8_method_9_code 29 = .ok (.putfield 7, 3) := by decide +kernel
theorem d_Size_swap_32 : decode prog_8_method_9_code 32 = .ok (.aload_n 0, 1) := by decide +kernel
theorem d_Size_swap_33 : decode prog_8_method_9_code 33 = .ok (.iload 4, 2) := by decide +kernel
theorem d_Size_swap_35 : decode prog_8_method_9_code 35 = .ok (.putfield 16, 3) := by decide +kernel
theorem d_Size_swap_38 : decode prog_8_method_9_code 38 = .ok (.return_, 1) := by decide +kernel
theorem d_Size_shiftRight_0 : decode prog_8_method_7_code 0 = .ok (.iload_n 1, 1) := by decide +kernel
theorem d_Size_shiftRight_1 : decode prog_8_method_7_code 1 = .ok (.istore_n 2, 1) := by decide +kernel
theorem d_Size_shiftRight_2 : decode prog_8_method_7_code 2 = .ok (.aload_n 0, 1) := by decide +kernel
theorem d_Size_shiftRight_3 : decode prog_8_method_7_code 3 = .ok (.dup, 1) := by decide +kernel
theorem d_Size_shiftRight_4 : decode prog_8_method_7_code 4 = .ok (.getfield 16, 3) := by decide +kernel
theorem d_Size_shiftRight_7 : decode prog_8_method_7_code 7 = .ok (.iload_n 1, 1) := by decide +kernel
theorem d_Size_shiftRight_8 : decode prog_8_method_7_code 8 = .ok (.iadd, 1) := by decide +kernel
theorem d_Size_shiftRight_9 : decode prog_8_method_7_code 9 = .ok (.putfield 16, 3) := by decide +kernel
theorem d_Size_shiftRight_12 : decode prog_8_method_7_code 12 = .ok (.iload_n 2, 1) := by decide +kernel
theorem d_Size_shiftRight_13 : decode prog_8_method_7_code 13 = .ok (.sipush 128, 3) := by decide +kernel
theorem d_Size_shiftRight_16 : decode prog_8_method_7_code 16 = .ok (.if_icmp .lt 48, 3) := by decide +kernel
theorem d_Size_shiftRight_19 : decode prog_8_method_7_code 19 = .ok (.aload_n 0, 1) := by decide +kernel
theorem d_Size_shiftRight_20 : decode prog_8_method_7_code 20 = .ok (.aload_n 0, 1) := by decide +kernel
theorem d_Size_shiftRight_21 : decode prog_8_method_7_code 21 = .ok (.getfield 32, 3) := by decide +kernel
theorem d_Size_shiftRight_24 : decode prog_8_method_7_code 24 = .ok (.ifCond .ne 21, 3) := by decide +kernel
theorem d_Size_shiftRight_27 : decode prog_8_method_7_code 27 = .ok (.aload_n 0, 1) := by decide +kernel
theorem d_Size_shiftRight_28 : decode prog_8_method_7_code 28 = .ok (.getfield 7, 3) := by decide +kernel
theorem d_Size_shiftRight_31 : decode prog_8_method_7_code 31 = .ok (.lconst 0, 1) := by decide +kernel
theorem d_Size_shiftRight_32 : decode prog_8_method_7_code 32 = .ok (.lcmp, 1) := by decide +kernel
theorem d_Size_shiftRight_33 : decode prog_8_method_7_code 33 = .ok (.ifCond .ne 12, 3) := by decide +kernel
theorem d_Size_shiftRight_36 : decode prog_8_method_7_code 36 = .ok (.aload_n 0, 1) := by decide +kernel
theorem d_Size_shiftRight_37 : decode prog_8_method_7_code 37 = .ok (.getfield 13, 3) := by decide +kernel
theorem d_Size_shiftRight_40 : decode prog_8_method_7_code 40 = .ok (.lconst 0, 1) := by decide +kernel
theorem d_Size_shiftRight_41 : decode prog_8_method_7_code 41 = .ok (.lcmp, 1) := by decide +kernel
theorem d_Size_shiftRight_42 : decode prog_8_method_7_code 42 = .ok (.ifCond .eq 7, 3) := by decide +kernel
theorem d_Size_shiftRight_45 : decode prog_8_method_7_code 45 = .ok (.iconst 1, 1) := by decide +kernel
theorem d_Size_shiftRight_46 : decode prog_8_method_7_code 46 = .ok (.goto 4, 3) := by decide +kernel
theorem d_Size_shiftRight_49 : decode prog_8_method_7_code 49 = .ok (.iconst 0, 1) := by decide +kernel
theorem d_Size_shiftRight_50 : decode prog_8_method_7_code 50 = .ok (.putfield 32, 3) := by decide +kernel
theorem d_Size_shiftRight_53 : decode prog_8_method_7_code 53 = .ok (.aload_n 0, 1) := by decide +kernel
theorem d_Size_shiftRight_54 : decode prog_8_method_7_code 54 = .ok (.lconst 0, 1) := by decide +kernel
theorem d_Size_shiftRight_55 : decode prog_8_method_7_code 55 = .ok (.putfield 7, 3) := by decide +kernel
theorem d_Size_shiftRight_58 : decode prog_8_method_7_code 58 = .ok (.aload_n 0, 1) := by decide +kernel
theorem d_Size_shiftRight_59 : decode prog_8_method_7_code 59 = .ok (.lconst 0, 1) := by decide +kernel
theorem d_Size_shiftRight_60 : decode prog_8_method_7_code 60 = .ok (.putfield 13, 3) := by decide +kernel
theorem d_Size_shiftRight_63 : decode prog_8_method_7_code 63 = .ok (.return_, 1) := by decide +kernel
theorem d_Size_shiftRight_64 : decode prog_8_method_7_code 64 = .ok (.iload_n 2, 1) := by decide +kernel
theorem d_Size_shiftRight_65 : decode prog_8_method_7_code 65 = .ok (.bipush 64, 2) := by decide +kernel
theorem d_Size_shiftRight_67 : decode prog_8_method_7_code 67 = .ok (.if_icmp .lt 44, 3) := by decide +kernel
theorem d_Size_shiftRight_70 : decode prog_8_method_7_code 70 = .ok (.aload_n 0, 1) := by decide +kernel
theorem d_Size_shiftRight_71 : decode prog_8_method_7_code 71 = .ok (.aload_n 0, 1) := by decide +kernel
theorem d_Size_shiftRight_72 : decode prog_8_method_7_code 72 = .ok (.getfield 32, 3) := by decide +kernel
theorem d_Size_shiftRight_75 : decode prog_8_method_7_code 75 = .ok (.ifCond .ne 12, 3) := by decide +kernel
theorem d_Size_shiftRight_78 : decode prog_8_method_7_code 78 = .ok (.aload_n 0, 1) := by decide +kernel
theorem d_Size_shiftRight_79 : decode prog_8_method_7_code 79 = .ok (.getfield 13, 3) := by decide +kernel
theorem d_Size_shiftRight_82 : decode prog_8_method_7_code 82 = .ok (.lconst 0, 1) := by decide +kernel
theorem d_Size_shiftRight_83 : decode prog_8_method_7_code 83 = .ok (.lcmp, 1) := by decide +kernel
theorem d_Size_shiftRight_84 : decode prog_8_method_7_code 84 = .ok (.ifCond .eq 7, 3) := by decide +kernel
theorem d_Size_shiftRight_87 : decode prog_8_method_7_code 87 = .ok (.iconst 1, 1) := by decide +kernel
theorem d_Size_shiftRight_88 : decode prog_8_method_7_code 88 = .ok (.goto 4, 3) := by decide +kernel
theorem d_Size_shiftRight_91 : decode prog_8_method_7_code 91 = .ok (.iconst 0, 1) := by decide +kernel
theorem d_Size_shiftRight_92 : decode prog_8_method_7_code 92 = .ok (.putfield 32, 3) := by decide +kernel
theorem d_Size_shiftRight_95 : decode prog_8_method_7_code 95 = .ok (.aload_n 0, 1) := by decide +kernel
theorem d_Size_shiftRight_96 : decode prog_8_method_7_code 96 = .ok (.aload_n 0, 1) := by decide +kernel
theorem d_Size_shiftRight_97 : decode prog_8_method_7_code 97 = .ok (.getfield 7, 3) := by decide +kernel
theorem d_Size_shiftRight_100 : decode prog_8_method_7_code 100 = .ok (.putfield 13, 3) := by decide +kernel
theorem d_Size_shiftRight_103 : decode prog_8_method_7_code 103 = .ok (.aload_n 0, 1) := by decide +kernel
theorem d_Size_shiftRight_104 : decode prog_8_method_7_code 104 = .ok (.lconst 0, 1) := by decide +kernel
theorem d_Size_shiftRight_105 : decode prog_8_method_7_code 105 = .ok (.putfield 7, 3) := by decide +kernel
theorem d_Size_shiftRight_108 : decode prog_8_method_7_code 108 = .ok (.iinc 2 (-64), 3) := by decide +kernel
theorem d_Size_shiftRight_111 : decode prog_8_method_7_code 111 = .ok (.iload_n 2, 1) := by decide +kernel
theorem d_Size_shiftRight_112 : decode prog_8_method_7_code 112 = .ok (.ifCond .le 63, 3) := by decide +kernel
theorem d_Size_shiftRight_115 : decode prog_8_method_7_code 115 = .ok (.aload_n 0, 1) := by decide +kernel
theorem d_Size_shiftRight_116 : decode prog_8_method_7_code 116 = .ok (.aload_n 0, 1) := by decide +kernel
theorem d_Size_shiftRight_117 : decode prog_8_method_7_code 117 = .ok (.getfield 32, 3) := by decide +kernel
theorem d_Size_shiftRight_120 : decode prog_8_method_7_code 120 = .ok (.ifCond .ne 17, 3) := by decide +kernel
theorem d_Size_shiftRight_123 : decode prog_8_method_7_code 123 = .ok (.aload_n 0, 1) := by decide +kernel
theorem d_Size_shiftRight_124 : decode prog_8_method_7_code 124 = .ok (.getfield 13, 3) := by decide +kernel
theorem d_Size_shiftRight_127 : decode prog_8_method_7_code 127 = .ok (.bipush 64, 2) := by decide +kernel
theorem d_Size_shiftRight_129 : decode prog_8_method_7_code 129 = .ok (.iload_n 2, 1) := by decide +kernel
theorem d_Size_shiftRight_130 : decode prog_8_method_7_code 130 = .ok (.isub, 1) := by decide +kernel
theorem d_Size_shiftRight_131 : decode prog_8_method_7_code 131 = .ok (.lshl, 1) := by decide +kernel
theorem d_Size_shiftRight_132 : decode prog_8_method_7_code 132 = .ok (.lconst 0, 1) := by decide +kernel
theorem d_Size_shiftRight_133 : decode prog_8_method_7_code 133 = .ok (.lcmp, 1) := by decide +kernel
theorem d_Size_shiftRight_134 : decode prog_8_method_7_code 134 = .ok (.ifCond .eq 7, 3) := by decide +kernel
theorem d_Size_shiftRight_137 : decode prog_8_method_7_code 137 = .ok (.iconst 1, 1) := by decide +kernel
theorem d_Size_shiftRight_138 : decode prog_8_method_7_code 138 = .ok (.goto 4, 3) := by decide +kernel
theorem d_Size_shiftRight_141 : decode prog_8_method_7_code 141 = .ok (.iconst 0, 1) := by decide +kernel
theorem d_Size_shiftRight_142 : decode prog_8_method_7_code 142 = .ok (.putfield 32, 3) := by decide +kernel
theorem d_Size_shiftRight_145 : decode prog_8_method_7_code 145 = .ok (.aload_n 0, 1) := by decide +kernel
theorem d_Size_shiftRight_146 : decode prog_8_method_7_code 146 = .ok (.aload_n 0, 1) := by decide +kernel
theorem d_Size_shiftRight_147 : decode prog_8_method_7_code 147 = .ok (.getfield 13, 3) := by decide +kernel
theorem d_Size_shiftRight_150 : decode prog_8_method_7_code 150 = .ok (.iload_n 2, 1) := by decide +kernel
theorem d_Size_shiftRight_151 : decode prog_8_method_7_code 151 = .ok (.lushr, 1) := by decide +kernel
theorem d_Size_shiftRight_152 : decode prog_8_method_7_code 152 = .ok (.aload_n 0, 1) := by decide +kernel
theorem d_Size_shiftRight_153 : decode prog_8_method_7_code 153 = .ok (.getfield 7, 3) := by decide +kernel
theorem d_Size_shiftRight_156 : decode prog_8_method_7_code 156 = .ok (.bipush 64, 2) := by decide +kernel
theorem d_Size_shiftRight_158 : decode prog_8_method_7_code 158 = .ok (.iload_n 2, 1) := by decide +kernel
theorem d_Size_shiftRight_159 : decode prog_8_method_7_code 159 = .ok (.isub, 1) := by decide +kernel
theorem d_Size_shiftRight_160 : decode prog_8_method_7_code 160 = .ok (.lshl, 1) := by decide +kernel
theorem d_Size_shiftRight_161 : decode prog_8_method_7_code 161 = .ok (.lor, 1) := by decide +kernel
theorem d_Size_shiftRight_162 : decode prog_8_method_7_code 162 = .ok (.putfield 13, 3) := by decide +kernel
theorem d_Size_shiftRight_165 : decode prog_8_method_7_code 165 = .ok (.aload_n 0, 1) := by decide +kernel
theorem d_Size_shiftRight_166 : decode prog_8_method_7_code 166 = .ok (.dup, 1) := by decide +kernel
theorem d_Size_shiftRight_167 : decode prog_8_method_7_code 167 = .ok (.getfield 7, 3) := by decide +kernel
theorem d_Size_shiftRight_170 : decode prog_8_method_7_code 170 = .ok (.iload_n 2, 1) := by decide +kernel
theorem d_Size_shiftRight_171 : decode prog_8_method_7_code 171 = .ok (.lushr, 1) := by decide +kernel
theorem d_Size_shiftRight_172 : decode prog_8_method_7_code 172 = .ok (.putfield 7, 3) := by decide +kernel
theorem d_Size_shiftRight_175 : decode prog_8_method_7_code 175 = .ok (.return_, 1) := by decide +kernel
theorem d_Size_add_0 : decode prog_8_method_10_code 0 = .ok (.aload_n 0, 1) := by decide +kernel
theorem d_Size_add_1 : decode prog_8_method_10_code 1 = .ok (.iconst 1, 1) := by decide +kernel
theorem d_Size_add_2 : decode prog_8_method_10_code 2 = .ok (.invokevirtual 43, 3) := by decide +kernel
theorem d_Size_add_5 : decode prog_8_method_10_code 5 = .ok (.aload_n 1, 1) := by decide +kernel
theorem d_Size_add_6 : decode prog_8_method_10_code 6 = .ok (.aload_n 0, 1) := by decide +kernel
theorem d_Size_add_7 : decode prog_8_method_10_code 7 = .ok (.getfield 16, 3) := by decide +kernel
theorem d_Size_add_10 : decode prog_8_method_10_code 10 = .ok (.aload_n 1, 1) := by decide +kernel
theorem d_Size_add_11 : decode prog_8_method_10_code 11 = .ok (.getfield 16, 3) := by decide +kernel
theorem d_Size_add_14 : decode prog_8_method_10_code 14 = .ok (.isub, 1) := by decide +kernel
theorem d_Size_add_15 : decode prog_8_method_10_code 15 = .ok (.invokevirtual 43, 3) := by decide +kernel
theorem d_Size_add_18 : decode prog_8_method_10_code 18 = .ok (.aload_n 0, 1) := by decide +kernel
theorem d_Size_add_19 : decode prog_8_method_10_code 19 = .ok (.dup, 1) := by decide +kernel
theorem d_Size_add_20 : decode prog_8_method_10_code 20 = .ok (.getfield 13, 3) := by decide +kernel
theorem d_Size_add_23 : decode prog_8_method_10_code 23 = .ok (.aload_n 1, 1) := by decide +kernel
theorem d_Size_add_24 : decode prog_8_method_10_code 24 = .ok (.getfield 13, 3) := by decide +kernel
theorem d_Size_add_27 : decode prog_8_method_10_code 27 = .ok (.ladd, 1) := by decide +kernel
theorem d_Size_add_28 : decode prog_8_method_10_code 28 = .ok (.putfield 13, 3) := by decide +kernel
theorem d_Size_add_31 : decode prog_8_method_10_code 31 = .ok (.aload_n 0, 1) := by decide +kernel
theorem d_Size_add_32 : decode prog_8_method_10_code 32 = .ok (.dup, 1) := by decide +kernel
theorem d_Size_add_33 : decode prog_8_method_10_code 33 = .ok (.getfield 7, 3) := by decide +kernel
theorem d_Size_add_36 : decode prog_8_method_10_code 36 = .ok (.aload_n 1, 1) := by decide +kernel
theorem d_Size_add_37 : decode prog_8_method_10_code 37 = .ok (.getfield 7, 3) := by decide +kernel
theorem d_Size_add_40 : decode prog_8_method_10_code 40 = .ok (.aload_n 0, 1) := by decide +kernel
theorem d_Size_add_41 : decode prog_8_method_10_code 41 = .ok (.getfield 13, 3) := by decide +kernel
theorem d_Size_add_44 : decode prog_8_method_10_code 44 = .ok (.aload_n 1, 1) := by decide +kernel
theorem d_Size_add_45 : decode prog_8_method_10_code 45 = .ok (.getfield 13, 3) := by decide +kernel
theorem d_Size_add_48 : decode prog_8_method_10_code 48 = .ok (.invokestatic 39, 3) := by decide +kernel
theorem d_Size_add_51 : decode prog_8_method_10_code 51 = .ok (.ifCond .eq 7, 3) := by decide +kernel
theorem d_Size_add_54 : decode prog_8_method_10_code 54 = .ok (.iconst 1, 1) := by decide +kernel
theorem d_Size_add_55 : decode prog_8_method_10_code 55 = .ok (.goto 4, 3) := by decide +kernel
theorem d_Size_add_58 : decode prog_8_method_10_code 58 = .ok (.iconst 0, 1) := by decide +kernel
theorem d_Size_add_59 : decode prog_8_method_10_code 59 = .ok (.i2l, 1) := by decide +kernel
theorem d_Size_add_60 : decode prog_8_method_10_code 60 = .ok (.ladd, 1) := by decide +kernel
theorem d_Size_add_61 : decode prog_8_method_10_code 61 = .ok (.ladd, 1) := by decide +kernel
theorem d_Size_add_62 : decode prog_8_method_10_code 62 = .ok (.putfield 7, 3) := by decide +kernel
theorem d_Size_add_65 : decode prog_8_method_10_code 65 = .ok (.aload_n 0, 1) := by decide +kernel
theorem d_Size_add_66 : decode prog_8_method_10_code 66 = .ok (.aload_n 1, 1) := by decide +kernel
theorem d_Size_add_67 : decode prog_8_method_10_code 67 = .ok (.getfield 32, 3) := by decide +kernel
theorem d_Size_add_70 : decode prog_8_method_10_code 70 = .ok (.putfield 32, 3) := by decide +kernel
theorem d_Size_add_73 : decode prog_8_method_10_code 73 = .ok (.aload_n 0, 1) := by decide +kernel
theorem d_Size_add_74 : decode prog_8_method_10_code 74 = .ok (.invokevirtual 36, 3) := by decide +kernel
theorem d_Size_add_77 : decode prog_8_method_10_code 77 = .ok (.return_, 1) := by decide +kernel
theorem d_Size_subtract_0 : decode prog_8_method_11_code 0 = .ok (.aload_n 0, 1) := by decide +kernel
theorem d_Size_subtract_1 : decode prog_8_method_11_code 1 = .ok (.iconst 1, 1) := by decide +kernel
theorem d_Size_subtract_2 : decode prog_8_method_11_code 2 = .ok (.invokevirtual 43, 3) := by decide +kernel
theorem d_Size_subtract_5 : decode prog_8_method_11_code 5 = .ok (.aload_n 1, 1) := by decide +kernel
theorem d_Size_subtract_6 : decode prog_8_method_11_code 6 = .ok (.aload_n 0, 1) := by decide +kernel
theorem d_Size_subtract_7 : decode prog_8_method_11_code 7 = .ok (.getfield 16, 3) := by decide +kernel
theorem d_Size_subtract_10 : decode prog_8_method_11_code 10 = .ok (.aload_n 1, 1) := by decide +kernel
theorem d_Size_subtract_11 : decode prog_8_method_11_code 11 = .ok (.getfield 16, 3) := by decide +kernel
theorem d_Size_subtract_14 : decode prog_8_method_11_code 14 = .ok (.isub, 1) := by decide +kernel
theorem d_Size_subtract_15 : decode prog_8_method_11_code 15 = .ok (.invokevirtual 43, 3) := by decide +kernel
theorem d_Size_subtract_18 : decode prog_8_method_11_code 18 = .ok (.aload_n 0, 1) := by decide +kernel
theorem d_Size_subtract_19 : decode prog_8_method_11_code 19 = .ok (.getfield 13, 3) := by decide +kernel
theorem d_Size_subtract_22 : decode prog_8_method_11_code 22 = .ok (.aload_n 1, 1) := by decide +kernel
theorem d_Size_subtract_23 : decode prog_8_method_11_code 23 = .ok (.getfield 13, 3) := by decide +kernel
theorem d_Size_subtract_26 : decode prog_8_method_11_code 26 = .ok (.invokestatic 39, 3) := by decide +kernel
theorem d_Size_subtract_29 : decode prog_8_method_11_code 29 = .ok (.ifCond .eq 7, 3) := by decide +kernel
theorem d_Size_subtract_32 : decode prog_8_method_11_code 32 = .ok (.lconst 1, 1) := by decide +kernel
theorem d_Size_subtract_33 : decode prog_8_method_11_code 33 = .ok (.goto 4, 3) := by decide +kernel
theorem d_Size_subtract_36 : decode prog_8_method_11_code 36 = .ok (.lconst 0, 1) := by decide +kernel
theorem d_Size_subtract_37 : decode prog_8_method_11_code 37 = .ok (.lstore_n 2, 1) := by decide +kernel
theorem d_Size_subtract_38 : decode prog_8_method_11_code 38 = .ok (.aload_n 0, 1) := by decide +kernel
theorem d_Size_subtract_39 : decode prog_8_method_11_code 39 = .ok (.dup, 1) := by decide +kernel
theorem d_Size_subtract_40 : decode prog_8_method_11_code 40 = .ok (.getfield 13, 3) := by decide +kernel
theorem d_Size_subtract_43 : decode prog_8_method_11_code 43 = .ok (.aload_n 1, 1) := by decide +kernel
theorem d_Size_subtract_44 : decode prog_8_method_11_code 44 = .ok (.getfield 13, 3) := by decide +kernel
theorem d_Size_subtract_47 : decode prog_8_method_11_code 47 = .ok (.lsub, 1) := by decide +kernel
theorem d_Size_subtract_48 : decode prog_8_method_11_code 48 = .ok (.putfield 13, 3) := by decide +kernel
theorem d_Size_subtract_51 : decode prog_8_method_11_code 51 = .ok (.aload_n 0, 1) := by decide +kernel
theorem d_Size_subtract_52 : decode prog_8_method_11_code 52 = .ok (.dup, 1) := by decide +kernel
theorem d_Size_subtract_53 : decode prog_8_method_11_code 53 = .ok (.getfield 7, 3) := by decide +kernel
theorem d_Size_subtract_56 : decode prog_8_method_11_code 56 = .ok (.aload_n 1, 1) := by decide +kernel
theorem d_Size_subtract_57 : decode prog_8_method_11_code 57 = .ok (.getfield 7, 3) := by decide +kernel
theorem d_Size_subtract_60 : decode prog_8_method_11_code 60 = .ok (.lload_n 2, 1) := by decide +kernel
theorem d_Size_subtract_61 : decode prog_8_method_11_code 61 = .ok (.ladd, 1) := by decide +kernel
theorem d_Size_subtract_62 : decode prog_8_method_11_code 62 = .ok (.lsub, 1) := by decide +kernel
theorem d_Size_subtract_63 : decode prog_8_method_11_code 63 = .ok (.putfield 7, 3) := by decide +kernel
theorem d_Size_subtract_66 : decode prog_8_method_11_code 66 = .ok (.aload_n 0, 1) := by decide +kernel
theorem d_Size_subtract_67 : decode prog_8_method_11_code 67 = .ok (.aload_n 1, 1) := by decide +kernel
theorem d_Size_subtract_68 : decode prog_8_method_11_code 68 = .ok (.getfield 32, 3) := by decide +kernel
theorem d_Size_subtract_71 : decode prog_8_method_11_code 71 = .ok (.putfield 32, 3) := by decide +kernel
theorem d_Size_subtract_74 : decode prog_8_method_11_code 74 = .ok (.aload_n 0, 1) := by decide +kernel
theorem d_Size_subtract_75 : decode prog_8_method_11_code 75 = .ok (.getfield 32, 3) := by decide +kernel
theorem d_Size_subtract_78 : decode prog_8_method_11_code 78 = .ok (.ifCond .eq 36, 3) := by decide +kernel
theorem d_Size_subtract_81 : decode prog_8_method_11_code 81 = .ok (.aload_n 0, 1) := by decide +kernel
theorem d_Size_subtract_82 : decode prog_8_method_11_code 82 = .ok (.dup, 1) := by decide +kernel
theorem d_Size_subtract_83 : decode prog_8_method_11_code 83 = .ok (.getfield 7, 3) := by decide +kernel
theorem d_Size_subtract_86 : decode prog_8_method_11_code 86 = .ok (.aload_n 0, 1) := by decide +kernel
theorem d_Size_subtract_87 : decode prog_8_method_11_code 87 = .ok (.getfield 13, 3) := by decide +kernel
theorem d_Size_subtract_90 : decode prog_8_method_11_code 90 = .ok (.lconst 0, 1) := by decide +kernel
theorem d_Size_subtract_91 : decode prog_8_method_11_code 91 = .ok (.lcmp, 1) := by decide +kernel
theorem d_Size_subtract_92 : decode prog_8_method_11_code 92 = .ok (.ifCond .ne 7, 3) := by decide +kernel
theorem d_Size_subtract_95 : decode prog_8_method_11_code 95 = .ok (.lconst 1, 1) := by decide +kernel
theorem d_Size_subtract_96 : decode prog_8_method_11_code 96 = .ok (.goto 4, 3) := by decide +kernel
theorem d_Size_subtract_99 : decode prog_8_method_11_code 99 = .ok (.lconst 0, 1) := by decide +kernel
theorem d_Size_subtract_100 : decode prog_8_method_11_code 100 = .ok (.lsub, 1) := by decide +kernel
theorem d_Size_subtract_101 : decode prog_8_method_11_code 101 = .ok (.putfield 7, 3) := by decide +kernel
theorem d_Size_subtract_104 : decode prog_8_method_11_code 104 = .ok (.aload_n 0, 1) := by decide +kernel
theorem d_Size_subtract_105 : decode prog_8_method_11_code 105 = .ok (.dup, 1) := by decide +kernel
theorem d_Size_subtract_106 : decode prog_8_method_11_code 106 = .ok (.getfield 13, 3) := by decide +kernel
theorem d_Size_subtract_109 : decode prog_8_method_11_code 109 = .ok (.lconst 1, 1) := by decide +kernel
theorem d_Size_subtract_110 : decode prog_8_method_11_code 110 = .ok (.lsub, 1) := by decide +kernel
theorem d_Size_subtract_111 : decode prog_8_method_11_code 111 = .ok (.putfield 13, 3) := by decide +kernel
theorem d_Size_subtract_114 : decode prog_8_method_11_code 114 = .ok (.aload_n 0, 1) := by decide +kernel
theorem d_Size_subtract_115 : decode prog_8_method_11_code 115 = .ok (.invokevirtual 36, 3) := by decide +kernel
theorem d_Size_subtract_118 : decode prog_8_method_11_code 118 = .ok (.return_, 1) := by decide +kernel
theorem d_Size_multiply_0 : decode prog_8_method_12_code 0 = .ok (.aload_n 0, 1) := by decide +kernel
theorem d_Size_multiply_1 : decode prog_8_method_12_code 1 = .ok (.getfield 7, 3) := by decide +kernel
theorem d_Size_multiply_4 : decode prog_8_method_12_code 4 = .ok (.bipush 32, 2) := by decide +kernel
theorem d_Size_multiply_6 : decode prog_8_method_12_code 6 = .ok (.lushr, 1) := by decide +kernel
theorem d_Size_multiply_7 : decode prog_8_method_12_code 7 = .ok (.lstore_n 2, 1) := by decide +kernel
theorem d_Size_multiply_8 : decode prog_8_method_12_code 8 = .ok (.aload_n 0, 1) := by decide +kernel
theorem d_Size_multiply_9 : decode prog_8_method_12_code 9 = .ok (.getfield 7, 3) := by decide +kernel
theorem d_Size_multiply_12 : decode prog_8_method_12_code 12 = .ok (.ldc2_w 47, 3) := by decide +kernel
theorem d_Size_multiply_15 : decode prog_8_method_12_code 15 = .ok (.land, 1) := by decide +kernel
theorem d_Size_multiply_16 : decode prog_8_method_12_code 16 = .ok (.lstore 4, 2) := by decide +kernel
theorem d_Size_multiply_18 : decode prog_8_method_12_code 18 = .ok (.aload_n 1, 1) := by decide +kernel
theorem d_Size_multiply_19 : decode prog_8_method_12_code 19 = .ok (.getfield 7, 3) := by decide +kernel
theorem d_Size_multiply_22 : decode prog_8_method_12_code 22 = .ok (.bipush 32, 2) := by decide +kernel
theorem d_Size_multiply_24 : decode prog_8_method_12_code 24 = .ok (.lushr, 1) := by decide +kernel
theorem d_Size_multiply_25 : decode prog_8_method_12_code 25 = .ok (.lstore 6, 2) := by decide +kernel
theorem d_Size_multiply_27 : decode prog_8_method_12_code 27 = .ok (.aload_n 1, 1) := by decide +kernel
theorem d_Size_multiply_28 : decode prog_8_method_12_code 28 = .ok (.getfield 7, 3) := by decide +kernel
theorem d_Size_multiply_31 : decode prog_8_method_12_code 31 = .ok (.ldc2_w 47, 3) := by decide +kernel
theorem d_Size_multiply_34 : decode prog_8_method_12_code 34 = .ok (.land, 1) := by decide +kernel
theorem d_Size_multiply_35 : decode prog_8_method_12_code 35 = .ok (.lstore 8, 2) := by decide +kernel
theorem d_Size_multiply_37 : decode prog_8_method_12_code 37 = .ok (.lload 4, 2) := by decide +kernel
theorem d_Size_multiply_39 : decode prog_8_method_12_code 39 = .ok (.lload 8, 2) := by decide +kernel
theorem d_Size_multiply_41 : decode prog_8_method_12_code 41 = .ok (.lmul, 1) := by decide +kernel
theorem d_Size_multiply_42 : decode prog_8_method_12_code 42 = .ok (.lstore 10, 2) := by decide +kernel
theorem d_Size_multiply_44 : decode prog_8_method_12_code 44 = .ok (.lload_n 2, 1) := by decide +kernel
theorem d_Size_multiply_45 : decode prog_8_method_12_code 45 = .ok (.lload 8, 2) := by decide +kernel
theorem d_Size_multiply_47 : decode prog_8_method_12_code 47 = .ok (.lmul, 1) := by decide +kernel
theorem d_Size_multiply_48 : decode prog_8_method_12_code 48 = .ok (.lload 10, 2) := by decide +kernel
theorem d_Size_multiply_50 : decode prog_8_method_12_code 50 = .ok (.bipush 32, 2) := by decide +kernel
theorem d_Size_multiply_52 : decode prog_8_method_12_code 52 = .ok (.lushr, 1) := by decide +kernel
theorem d_Size_multiply_53 : decode prog_8_method_12_code 53 = .ok (.ladd, 1) := by decide +kernel
theorem d_Size_multiply_54 : decode prog_8_method_12_code 54 = .ok (.lstore 12, 2) := by decide +kernel
theorem d_Size_multiply_56 : decode prog_8_method_12_code 56 = .ok (.lload 4, 2) := by decide +kernel
theorem d_Size_multiply_58 : decode prog_8_method_12_code 58 = .ok (.lload 6, 2) := by decide +kernel
theorem d_Size_multiply_60 : decode prog_8_method_12_code 60 = .ok (.lmul, 1) := by decide +kernel
theorem d_Size_multiply_61 : decode prog_8_method_12_code 61 = .ok (.lload 12, 2) := by decide +kernel
theorem d_Size_multiply_63 : decode prog_8_method_12_code 63 = .ok (.ldc2_w 47, 3) := by decide +kernel
theorem d_Size_multiply_66 : decode prog_8_method_12_code 66 = .ok (.land, 1) := by decide +kernel
theorem d_Size_multiply_67 : decode prog_8_method_12_code 67 = .ok (.ladd, 1) := by decide +kernel
theorem d_Size_multiply_68 : decode prog_8_method_12_code 68 = .ok (.lstore 14, 2) := by decide +kernel
theorem d_Size_multiply_70 : decode prog_8_method_12_code 70 = .ok (.aload_n 0, 1) := by decide +kernel
theorem d_Size_multiply_71 : decode prog_8_method_12_code 71 = .ok (.lload_n 2, 1) := by decide +kernel
theorem d_Size_multiply_72 : decode prog_8_method_12_code 72 = .ok (.lload 6, 2) := by decide +kernel
theorem d_Size_multiply_74 : decode prog_8_method_12_code 74 = .ok (.lmul, 1) := by decide +kernel
theorem d_Size_multiply_75 : decode prog_8_method_12_code 75 = .ok (.lload 12, 2) := by decide +kernel
theorem d_Size_multiply_77 : decode prog_8_method_12_code 77 = .ok (.bipush 32, 2) := by decide +kernel
theorem d_Size_multiply_79 : decode prog_8_method_12_code 79 = .ok (.lushr, 1) := by decide +kernel
theorem d_Size_multiply_80 : decode prog_8_method_12_code 80 = .ok (.ladd, 1) := by decide +kernel
theorem d_Size_multiply_81 : decode prog_8_method_12_code 81 = .ok (.lload 14, 2) := by decide +kernel
theorem d_Size_multiply_83 : decode prog_8_method_12_code 83 = .ok (.bipush 32, 2) := by decide +kernel
theorem d_Size_multiply_85 : decode prog_8_method_12_code 85 = .ok (.lushr, 1) := by decide +kernel
theorem d_Size_multiply_86 : decode prog_8_method_12_code 86 = .ok (.ladd, 1) := by decide +kernel
theorem d_Size_multiply_87 : decode prog_8_method_12_code 87 = .ok (.putfield 7, 3) := by decide +kernel
theorem d_Size_multiply_90 : decode prog_8_method_12_code 90 = .ok (.aload_n 0, 1) := by decide +kernel
theorem d_Size_multiply_91 : decode prog_8_method_12_code 91 = .ok (.lload 14, 2) := by decide +kernel
theorem d_Size_multiply_93 : decode prog_8_method_12_code 93 = .ok (.bipush 32, 2) := by decide +kernel
theorem d_Size_multiply_95 : decode prog_8_method_12_code 95 = .ok (.lshl, 1) := by decide +kernel
theorem d_Size_multiply_96 : decode prog_8_method_12_code 96 = .ok (.lload 10, 2) := by decide +kernel
theorem d_Size_multiply_98 : decode prog_8_method_12_code 98 = .ok (.ldc2_w 47, 3) := by decide +kernel
theorem d_Size_multiply_101 : decode prog_8_method_12_code 101 = .ok (.land, 1) := by decide +kernel
theorem d_Size_multiply_102 : decode prog_8_method_12_code 102 = .ok (.lor, 1) := by decide +kernel
theorem d_Size_multiply_103 : decode prog_8_method_12_code 103 = .ok (.putfield 13, 3) := by decide +kernel
theorem d_Size_multiply_106 : decode prog_8_method_12_code 106 = .ok (.aload_n 0, 1) := by decide +kernel
theorem d_Size_multiply_107 : decode prog_8_method_12_code 107 = .ok (.dup, 1) := by decide +kernel
theorem d_Size_multiply_108 : decode prog_8_method_12_code 108 = .ok (.getfield 16, 3) := by decide +kernel
theorem d_Size_multiply_111 : decode prog_8_method_12_code 111 = .ok (.aload_n 1, 1) := by decide +kernel
theorem d_Size_multiply_112 : decode prog_8_method_12_code 112 = .ok (.getfield 16, 3) := by decide +kernel
theorem d_Size_multiply_115 : decode prog_8_method_12_code 115 = .ok (.sipush 128, 3) := by decide +kernel
theorem d_Size_multiply_118 : decode prog_8_method_12_code 118 = .ok (.iadd, 1) := by decide +kernel
theorem d_Size_multiply_119 : decode prog_8_method_12_code 119 = .ok (.iadd, 1) := by decide +kernel
theorem d_Size_multiply_120 : decode prog_8_method_12_code 120 = .ok (.putfield 16, 3) := by decide +kernel
theorem d_Size_multiply_123 : decode prog_8_method_12_code 123 = .ok (.aload_n 0, 1) := by decide +kernel
theorem d_Size_multiply_124 : decode prog_8_method_12_code 124 = .ok (.invokevirtual 36, 3) := by decide +kernel
theorem d_Size_multiply_127 : decode prog_8_method_12_code 127 = .ok (.return_, 1) := by decide +kernel
theorem d_Size_longDivide_0 : decode prog_8_method_15_code 0 = .ok (.aload_n 0, 1) := by decide +kernel
theorem d_Size_longDivide_1 : decode prog_8_method_15_code 1 = .ok (.aload_n 0, 1) := by decide +kernel
theorem d_Size_longDivide_2 : decode prog_8_method_15_code 2 = .ok (.getfield 7, 3) := by decide +kernel
theorem d_Size_longDivide_5 : decode prog_8_method_15_code 5 = .ok (.putfield 52, 3) := by decide +kernel
theorem d_Size_longDivide_8 : decode prog_8_method_15_code 8 = .ok (.aload_n 0, 1) := by decide +kernel
theorem d_Size_longDivide_9 : decode prog_8_method_15_code 9 = .ok (.lconst 0, 1) := by decide +kernel
theorem d_Size_longDivide_10 : decode prog_8_method_15_code 10 = .ok (.putfield 7, 3) := by decide +kernel
theorem d_Size_longDivide_13 : decode prog_8_method_15_code 13 = .ok (.aload_n 0, 1) := by decide +kernel
theorem d_Size_longDivide_14 : decode prog_8_method_15_code 14 = .ok (.lconst 0, 1) := by decide +kernel
theorem d_Size_longDivide_15 : decode prog_8_method_15_code 15 = .ok (.putfield 13, 3) := by decide +kernel
theorem d_Size_longDivide_18 : decode prog_8_method_15_code 18 = .ok (.aload_n 0, 1) := by decide +kernel
theorem d_Size_longDivide_19 : decode prog_8_method_15_code 19 = .ok (.getfield 52, 3) := by decide +kernel
theorem d_Size_longDivide_22 : decode prog_8_method_15_code 22 = .ok (.lload_n 1, 1) := by decide +kernel
theorem d_Size_longDivide_23 : decode prog_8_method_15_code 23 = .ok (.invokestatic 39, 3) := by decide +kernel
theorem d_Size_longDivide_26 : decode prog_8_method_15_code 26 = .ok (.ifCond .ne 18, 3) := by decide +kernel
theorem d_Size_longDivide_29 : decode prog_8_method_15_code 29 = .ok (.aload_n 0, 1) := by decide +kernel
theorem d_Size_longDivide_30 : decode prog_8_method_15_code 30 = .ok (.dup, 1) := by decide +kernel
theorem d_Size_longDivide_31 : decode prog_8_method_15_code 31 = .ok (.getfield 52, 3) := by decide +kernel
theorem d_Size_longDivide_34 : decode prog_8_method_15_code 34 = .ok (.lload_n 1, 1) := by decide +kernel
theorem d_Size_longDivide_35 : decode prog_8_method_15_code 35 = .ok (.lsub, 1) := by decide +kernel
theorem d_Size_longDivide_36 : decode prog_8_method_15_code 36 = .ok (.putfield 52, 3) := by decide +kernel
theorem d_Size_longDivide_39 : decode prog_8_method_15_code 39 = .ok (.aload_n 0, 1) := by decide +kernel
theorem d_Size_longDivide_40 : decode prog_8_method_15_code 40 = .ok (.lconst 1, 1) := by decide +kernel
theorem d_Size_longDivide_41 : decode prog_8_method_15_code 41 = .ok (.putfield 13, 3) := by decide +kernel
theorem d_Size_longDivide_44 : decode prog_8_method_15_code 44 = .ok (.iconst 0, 1) := by decide +kernel
theorem d_Size_longDivide_45 : decode prog_8_method_15_code 45 = .ok (.istore 4, 2) := by decide +kernel
theorem d_Size_longDivide_47 : decode prog_8_method_15_code 47 = .ok (.iload 4, 2) := by decide +kernel
theorem d_Size_longDivide_49 : decode prog_8_method_15_code 49 = .ok (.iload_n 3, 1) := by decide +kernel
theorem d_Size_longDivide_50 : decode prog_8_method_15_code 50 = .ok (.if_icmp .ge 99, 3) := by decide +kernel
theorem d_Size_longDivide_53 : decode prog_8_method_15_code 53 = .ok (.aload_n 0, 1) := by decide +kernel
theorem d_Size_longDivide_54 : decode prog_8_method_15_code 54 = .ok (.getfield 52, 3) := by decide +kernel
theorem d_Size_longDivide_57 : decode prog_8_method_15_code 57 = .ok (.lconst 0, 1) := by decide +kernel
theorem d_Size_longDivide_58 : decode prog_8_method_15_code 58 = .ok (.lcmp, 1) := by decide +kernel
theorem d_Size_longDivide_59 : decode prog_8_method_15_code 59 = .ok (.ifCond .ge 7, 3) := by decide +kernel
theorem d_Size_longDivide_62 : decode prog_8_method_15_code 62 = .ok (.iconst 1, 1) := by decide +kernel
theorem d_Size_longDivide_63 : decode prog_8_method_15_code 63 = .ok (.goto 4, 3) := by decide +kernel
theorem d_Size_longDivide_66 : decode prog_8_method_15_code 66 = .ok (.iconst 0, 1) := by decide +kernel
theorem d_Size_longDivide_67 : decode prog_8_method_15_code 67 = .ok (.istore 5, 2) := by decide +kernel
theorem d_Size_longDivide_69 : decode prog_8_method_15_code 69 = .ok (.aload_n 0, 1) := by decide +kernel
theorem d_Size_longDivide_70 : decode prog_8_method_15_code 70 = .ok (.dup, 1) := by decide +kernel
theorem d_Size_longDivide_71 : decode prog_8_method_15_code 71 = .ok (.getfield 52, 3) := by decide +kernel
theorem d_Size_longDivide_74 : decode prog_8_method_15_code 74 = .ok (.iconst 1, 1) := by decide +kernel
theorem d_Size_longDivide_75 : decode prog_8_method_15_code 75 = .ok (.lshl, 1) := by decide +kernel
theorem d_Size_longDivide_76 : decode prog_8_method_15_code 76 = .ok (.putfield 52, 3) := by decide +kernel
theorem d_Size_longDivide_79 : decode prog_8_method_15_code 79 = .ok (.aload_n 0, 1) := by decide +kernel
theorem d_Size_longDivide_80 : decode prog_8_method_15_code 80 = .ok (.aload_n 0, 1) := by decide +kernel
theorem d_Size_longDivide_81 : decode prog_8_method_15_code 81 = .ok (.getfield 7, 3) := by decide +kernel
theorem d_Size_longDivide_84 : decode prog_8_method_15_code 84 = .ok (.iconst 1, 1) := by decide +kernel
theorem d_Size_longDivide_85 : decode prog_8_method_15_code 85 = .ok (.lshl, 1) := by decide +kernel
theorem d_Size_longDivide_86 : decode prog_8_method_15_code 86 = .ok (.aload_n 0, 1) := by decide +kernel
theorem d_Size_longDivide_87 : decode prog_8_method_15_code 87 = .ok (.getfield 13, 3) := by decide +kernel
theorem d_Size_longDivide_90 : decode prog_8_method_15_code 90 = .ok (.bipush 63, 2) := by decide +kernel
theorem d_Size_longDivide_92 : decode prog_8_method_15_code 92 = .ok (.lushr, 1) := by decide +kernel
theorem d_Size_longDivide_93 : decode prog_8_method_15_code 93 = .ok (.lor, 1) := by decide +kernel
theorem d_Size_longDivide_94 : decode prog_8_method_15_code 94 = .ok (.putfield 7, 3) := by decide +kernel
theorem d_Size_longDivide_97 : decode prog_8_method_15_code 97 = .ok (.aload_n 0, 1) := by decide +kernel
theorem d_Size_longDivide_98 : decode prog_8_method_15_code 98 = .ok (.dup, 1) := by decide +kernel
theorem d_Size_longDivide_99 : decode prog_8_method_15_code 99 = .ok (.getfield 13, 3) := by decide +kernel
theorem d_Size_longDivide_102 : decode prog_8_method_15_code 102 = .ok (.iconst 1, 1) := by decide +kernel
theorem d_Size_longDivide_103 : decode prog_8_method_15_code 103 = .ok (.lshl, 1) := by decide +kernel
theorem d_Size_longDivide_104 : decode prog_8_method_15_code 104 = .ok (.putfield 13, 3) := by decide +kernel
theorem d_Size_longDivide_107 : decode prog_8_method_15_code 107 = .ok (.iload 5, 2) := by decide +kernel
theorem d_Size_longDivide_109 : decode prog_8_method_15_code 109 = .ok (.ifCond .ne 14, 3) := by decide +kernel
theorem d_Size_longDivide_112 : decode prog_8_method_15_code 112 = .ok (.aload_n 0, 1) := by decide +kernel
theorem d_Size_longDivide_113 : decode prog_8_method_15_code 113 = .ok (.getfield 52, 3) := by decide +kernel
theorem d_Size_longDivide_116 : decode prog_8_method_15_code 116 = .ok (.lload_n 1, 1) := by decide +kernel
theorem d_Size_longDivide_117 : decode prog_8_method_15_code 117 = .ok (.invokestatic 39, 3) := by decide +kernel
theorem d_Size_longDivide_120 : decode prog_8_method_15_code 120 = .ok (.ifCond .ne 23, 3) := by decide +kernel
theorem d_Size_longDivide_123 : decode prog_8_method_15_code 123 = .ok (.aload_n 0, 1) := by decide +kernel
theorem d_Size_longDivide_124 : decode prog_8_method_15_code 124 = .ok (.dup, 1) := by decide +kernel
theorem d_Size_longDivide_125 : decode prog_8_method_15_code 125 = .ok (.getfield 52, 3) := by decide +kernel
theorem d_Size_longDivide_128 : decode prog_8_method_15_code 128 = .ok (.lload_n 1, 1) := by decide +kernel
theorem d_Size_longDivide_129 : decode prog_8_method_15_code 129 = .ok (.lsub, 1) := by decide +kernel
theorem d_Size_longDivide_130 : decode prog_8_method_15_code 130 = .ok (.putfield 52, 3) := by decide +kernel
theorem d_Size_longDivide_133 : decode prog_8_method_15_code 133 = .ok (.aload_n 0, 1) := by decide +kernel
theorem d_Size_longDivide_134 : decode prog_8_method_15_code 134 = .ok (.dup, 1) := by decide +kernel
theorem d_Size_longDivide_135 : decode prog_8_method_15_code 135 = .ok (.getfield 13, 3) := by decide +kernel
theorem d_Size_longDivide_138 : decode prog_8_method_15_code 138 = .ok (.lconst 1, 1) := by decide +kernel
theorem d_Size_longDivide_139 : decode prog_8_method_15_code 139 = .ok (.lor, 1) := by decide +kernel
theorem d_Size_longDivide_140 : decode prog_8_method_15_code 140 = .ok (.putfield 13, 3) := by decide +kernel
theorem d_Size_longDivide_143 : decode prog_8_method_15_code 143 = .ok (.iinc 4 1, 3) := by decide +kernel
theorem d_Size_longDivide_146 : decode prog_8_method_15_code 146 = .ok (.goto (-99), 3) := by decide +kernel
theorem d_Size_longDivide_149 : decode prog_8_method_15_code 149 = .ok (.return_, 1) := by decide +kernel
theorem d_Size_divide_0 : decode prog_8_method_13_code 0 = .ok (.aload_n 0, 1) := by decide +kernel
theorem d_Size_divide_1 : decode prog_8_method_13_code 1 = .ok (.aload_n 1, 1) := by decide +kernel
theorem d_Size_divide_2 : decode prog_8_method_13_code 2 = .ok (.getfield 7, 3) := by decide +kernel
theorem d_Size_divide_5 : decode prog_8_method_13_code 5 = .ok (.bipush 66, 2) := by decide +kernel
theorem d_Size_divide_7 : decode prog_8_method_13_code 7 = .ok (.invokevirtual 49, 3) := by decide +kernel
theorem d_Size_divide_10 : decode prog_8_method_13_code 10 = .ok (.aload_n 0, 1) := by decide +kernel
theorem d_Size_divide_11 : decode prog_8_method_13_code 11 = .ok (.aload_n 0, 1) := by decide +kernel
theorem d_Size_divide_12 : decode prog_8_method_13_code 12 = .ok (.getfield 52, 3) := by decide +kernel
theorem d_Size_divide_15 : decode prog_8_method_13_code 15 = .ok (.lconst 0, 1) := by decide +kernel
theorem d_Size_divide_16 : decode prog_8_method_13_code 16 = .ok (.lcmp, 1) := by decide +kernel
theorem d_Size_divide_17 : decode prog_8_method_13_code 17 = .ok (.ifCond .eq 7, 3) := by decide +kernel
theorem d_Size_divide_20 : decode prog_8_method_13_code 20 = .ok (.iconst 1, 1) := by decide +kernel
theorem d_Size_divide_21 : decode prog_8_method_13_code 21 = .ok (.goto 4, 3) := by decide +kernel
theorem d_Size_divide_24 : decode prog_8_method_13_code 24 = .ok (.iconst 0, 1) := by decide +kernel
theorem d_Size_divide_25 : decode prog_8_method_13_code 25 = .ok (.putfield 32, 3) := by decide +kernel
theorem d_Size_divide_28 : decode prog_8_method_13_code 28 = .ok (.aload_n 0, 1) := by decide +kernel
theorem d_Size_divide_29 : decode prog_8_method_13_code 29 = .ok (.dup, 1) := by decide +kernel
theorem d_Size_divide_30 : decode prog_8_method_13_code 30 = .ok (.getfield 16, 3) := by decide +kernel
theorem d_Size_divide_33 : decode prog_8_method_13_code 33 = .ok (.aload_n 1, 1) := by decide +kernel
theorem d_Size_divide_34 : decode prog_8_method_13_code 34 = .ok (.getfield 16, 3) := by decide +kernel
theorem d_Size_divide_37 : decode prog_8_method_13_code 37 = .ok (.bipush 66, 2) := by decide +kernel
theorem d_Size_divide_39 : decode prog_8_method_13_code 39 = .ok (.iadd, 1) := by decide +kernel
theorem d_Size_divide_40 : decode prog_8_method_13_code 40 = .ok (.isub, 1) := by decide +kernel
theorem d_Size_divide_41 : decode prog_8_method_13_code 41 = .ok (.putfield 16, 3) := by decide +kernel
theorem d_Size_divide_44 : decode prog_8_method_13_code 44 = .ok (.aload_n 0, 1) := by decide +kernel
theorem d_Size_divide_45 : decode prog_8_method_13_code 45 = .ok (.invokevirtual 36, 3) := by decide +kernel
theorem d_Size_divide_48 : decode prog_8_method_13_code 48 = .ok (.return_, 1) := by decide +kernel
theorem d_Size_root_0 : decode prog_8_method_16_code 0 = .ok (.aload_n 0, 1) := by decide +kernel
theorem d_Size_root_1 : decode prog_8_method_16_code 1 = .ok (.getfield 7, 3) := by decide +kernel
theorem d_Size_root_4 : decode prog_8_method_16_code 4 = .ok (.lstore_n 1, 1) := by decide +kernel
theorem d_Size_root_5 : decode prog_8_method_16_code 5 = .ok (.aload_n 0, 1) := by decide +kernel
theorem d_Size_root_6 : decode prog_8_method_16_code 6 = .ok (.getfield 16, 3) := by decide +kernel
theorem d_Size_root_9 : decode prog_8_method_16_code 9 = .ok (.iconst 1, 1) := by decide +kernel
theorem d_Size_root_10 : decode prog_8_method_16_code 10 = .ok (.iand, 1) := by decide +kernel
theorem d_Size_root_11 : decode prog_8_method_16_code 11 = .ok (.ifCond .eq 7, 3) := by decide +kernel
theorem d_Size_root_14 : decode prog_8_method_16_code 14 = .ok (.iconst 1, 1) := by decide +kernel
theorem d_Size_root_15 : decode prog_8_method_16_code 15 = .ok (.goto 4, 3) := by decide +kernel
theorem d_Size_root_18 : decode prog_8_method_16_code 18 = .ok (.iconst 0, 1) := by decide +kernel
theorem d_Size_root_19 : decode prog_8_method_16_code 19 = .ok (.istore_n 3, 1) := by decide +kernel
theorem d_Size_root_20 : decode prog_8_method_16_code 20 = .ok (.lconst 0, 1) := by decide +kernel
theorem d_Size_root_21 : decode prog_8_method_16_code 21 = .ok (.lstore 4, 2) := by decide +kernel
theorem d_Size_root_23 : decode prog_8_method_16_code 23 = .ok (.lconst 0, 1) := by decide +kernel
theorem d_Size_root_24 : decode prog_8_method_16_code 24 = .ok (.lstore 6, 2) := by decide +kernel
theorem d_Size_root_26 : decode prog_8_method_16_code 26 = .ok (.aload_n 0, 1) := by decide +kernel
theorem d_Size_root_27 : decode prog_8_method_16_code 27 = .ok (.lconst 0, 1) := by decide +kernel
theorem d_Size_root_28 : decode prog_8_method_16_code 28 = .ok (.putfield 7, 3) := by decide +kernel
theorem d_Size_root_31 : decode prog_8_method_16_code 31 = .ok (.aload_n 0, 1) := by decide +kernel
theorem d_Size_root_32 : decode prog_8_method_16_code 32 = .ok (.lconst 0, 1) := by decide +kernel
theorem d_Size_root_33 : decode prog_8_method_16_code 33 = .ok (.putfield 13, 3) := by decide +kernel
theorem d_Size_root_36 : decode prog_8_method_16_code 36 = .ok (.iconst 0, 1) := by decide +kernel
theorem d_Size_root_37 : decode prog_8_method_16_code 37 = .ok (.istore 8, 2) := by decide +kernel
theorem d_Size_root_39 : decode prog_8_method_16_code 39 = .ok (.iload 8, 2) := by decide +kernel
theorem d_Size_root_41 : decode prog_8_method_16_code 41 = .ok (.bipush 66, 2) := by decide +kernel
theorem d_Size_root_43 : decode prog_8_method_16_code 43 = .ok (.if_icmp .ge 177, 3) := by decide +kernel
theorem d_Size_root_46 : decode prog_8_method_16_code 46 = .ok (.iload_n 3, 1) := by decide +kernel
theorem d_Size_root_47 : decode prog_8_method_16_code 47 = .ok (.ifCond .eq 12, 3) := by decide +kernel
theorem d_Size_root_50 : decode prog_8_method_16_code 50 = .ok (.iload 8, 2) := by decide +kernel
theorem d_Size_root_52 : decode prog_8_method_16_code 52 = .ok (.ifCond .ne 7, 3) := by decide +kernel
theorem d_Size_root_55 : decode prog_8_method_16_code 55 = .ok (.iconst 1, 1) := by decide +kernel
theorem d_Size_root_56 : decode prog_8_method_16_code 56 = .ok (.goto 4, 3) := by decide +kernel
theorem d_Size_root_59 : decode prog_8_method_16_code 59 = .ok (.iconst 2, 1) := by decide +kernel
theorem d_Size_root_60 : decode prog_8_method_16_code 60 = .ok (.istore 9, 2) := by decide +kernel
theorem d_Size_root_62 : decode prog_8_method_16_code 62 = .ok (.lload 4, 2) := by decide +kernel
theorem d_Size_root_64 : decode prog_8_method_16_code 64 = .ok (.iconst 2, 1) := by decide +kernel
theorem d_Size_root_65 : decode prog_8_method_16_code 65 = .ok (.lshl, 1) := by decide +kernel
theorem d_Size_root_66 : decode prog_8_method_16_code 66 = .ok (.lload 6, 2) := by decide +kernel
theorem d_Size_root_68 : decode prog_8_method_16_code 68 = .ok (.bipush 62, 2) := by decide +kernel
theorem d_Size_root_70 : decode prog_8_method_16_code 70 = .ok (.lushr, 1) := by decide +kernel
theorem d_Size_root_71 : decode prog_8_method_16_code 71 = .ok (.lor, 1) := by decide +kernel
theorem d_Size_root_72 : decode prog_8_method_16_code 72 = .ok (.lstore 4, 2) := by decide +kernel
theorem d_Size_root_74 : decode prog_8_method_16_code 74 = .ok (.lload 6, 2) := by decide +kernel
theorem d_Size_root_76 : decode prog_8_method_16_code 76 = .ok (.iconst 2, 1) := by decide +kernel
theorem d_Size_root_77 : decode prog_8_method_16_code 77 = .ok (.lshl, 1) := by decide +kernel
theorem d_Size_root_78 : decode prog_8_method_16_code 78 = .ok (.lload_n 1, 1) := by decide +kernel
theorem d_Size_root_79 : decode prog_8_method_16_code 79 = .ok (.bipush 64, 2) := by decide +kernel
theorem d_Size_root_81 : decode prog_8_method_16_code 81 = .ok (.iload 9, 2) := by decide +kernel
theorem d_Size_root_83 : decode prog_8_method_16_code 83 = .ok (.isub, 1) := by decide +kernel
theorem d_Size_root_84 : decode prog_8_method_16_code 84 = .ok (.lushr, 1) := by decide +kernel
theorem d_Size_root_85 : decode prog_8_method_16_code 85 = .ok (.lor, 1) := by decide +kernel
theorem d_Size_root_86 : decode prog_8_method_16_code 86 = .ok (.lstore 6, 2) := by decide +kernel
theorem d_Size_root_88 : decode prog_8_method_16_code 88 = .ok (.lload_n 1, 1) := by decide +kernel
theorem d_Size_root_89 : decode prog_8_method_16_code 89 = .ok (.iload 9, 2) := by decide +kernel
theorem d_Size_root_91 : decode prog_8_method_16_code 91 = .ok (.lshl, 1) := by decide +kernel
theorem d_Size_root_92 : decode prog_8_method_16_code 92 = .ok (.lstore_n 1, 1) := by decide +kernel
theorem d_Size_root_93 : decode prog_8_method_16_code 93 = .ok (.aload_n 0, 1) := by decide +kernel
theorem d_Size_root_94 : decode prog_8_method_16_code 94 = .ok (.getfield 7, 3) := by decide +kernel
theorem d_Size_root_97 : decode prog_8_method_16_code 97 = .ok (.iconst 2, 1) := by decide +kernel
theorem d_Size_root_98 : decode prog_8_method_16_code 98 = .ok (.lshl, 1) := by decide +kernel
theorem d_Size_root_99 : decode prog_8_method_16_code 99 = .ok (.aload_n 0, 1) := by decide +kernel
theorem d_Size_root_100 : decode prog_8_method_16_code 100 = .ok (.getfield 13, 3) := by decide +kernel
theorem d_Size_root_103 : decode prog_8_method_16_code 103 = .ok (.bipush 62, 2) := by decide +kernel
theorem d_Size_root_105 : decode prog_8_method_16_code 105 = .ok (.lushr, 1) := by decide +kernel
theorem d_Size_root_106 : decode prog_8_method_16_code 106 = .ok (.lor, 1) := by decide +kernel
theorem d_Size_root_107 : decode prog_8_method_16_code 107 = .ok (.lstore 10, 2) := by decide +kernel
theorem d_Size_root_109 : decode prog_8_method_16_code 109 = .ok (.aload_n 0, 1) := by decide +kernel
theorem d_Size_root_110 : decode prog_8_method_16_code 110 = .ok (.getfield 13, 3) := by decide +kernel
theorem d_Size_root_113 : decode prog_8_method_16_code 113 = .ok (.iconst 2, 1) := by decide +kernel
theorem d_Size_root_114 : decode prog_8_method_16_code 114 = .ok (.lshl, 1) := by decide +kernel
theorem d_Size_root_115 : decode prog_8_method_16_code 115 = .ok (.lconst 1, 1) := by decide +kernel
theorem d_Size_root_116 : decode prog_8_method_16_code 116 = .ok (.lor, 1) := by decide +kernel
theorem d_Size_root_117 : decode prog_8_method_16_code 117 = .ok (.lstore 12, 2) := by decide +kernel
theorem d_Size_root_119 : decode prog_8_method_16_code 119 = .ok (.aload_n 0, 1) := by decide +kernel
theorem d_Size_root_120 : decode prog_8_method_16_code 120 = .ok (.aload_n 0, 1) := by decide +kernel
theorem d_Size_root_121 : decode prog_8_method_16_code 121 = .ok (.getfield 7, 3) := by decide +kernel
theorem d_Size_root_124 : decode prog_8_method_16_code 124 = .ok (.iconst 1, 1) := by decide +kernel
theorem d_Size_root_125 : decode prog_8_method_16_code 125 = .ok (.lshl, 1) := by decide +kernel
theorem d_Size_root_126 : decode prog_8_method_16_code 126 = .ok (.aload_n 0, 1) := by decide +kernel
theorem d_Size_root_127 : decode prog_8_method_16_code 127 = .ok (.getfield 13, 3) := by decide +kernel
theorem d_Size_root_130 : decode prog_8_method_16_code 130 = .ok (.bipush 63, 2) := by decide +kernel
theorem d_Size_root_132 : decode prog_8_method_16_code 132 = .ok (.lushr, 1) := by decide +kernel
theorem d_Size_root_133 : decode prog_8_method_16_code 133 = .ok (.lor, 1) := by decide +kernel
theorem d_Size_root_134 : decode prog_8_method_16_code 134 = .ok (.putfield 7, 3) := by decide +kernel
theorem d_Size_root_137 : decode prog_8_method_16_code 137 = .ok (.aload_n 0, 1) := by decide +kernel
theorem d_Size_root_138 : decode prog_8_method_16_code 138 = .ok (.dup, 1) := by decide +kernel
theorem d_Size_root_139 : decode prog_8_method_16_code 139 = .ok (.getfield 13, 3) := by decide +kernel
theorem d_Size_root_142 : decode prog_8_method_16_code 142 = .ok (.iconst 1, 1) := by decide +kernel
theorem d_Size_root_143 : decode prog_8_method_16_code 143 = .ok (.lshl, 1) := by decide +kernel
theorem d_Size_root_144 : decode prog_8_method_16_code 144 = .ok (.putfield 13, 3) := by decide +kernel
theorem d_Size_root_147 : decode prog_8_method_16_code 147 = .ok (.lload 4, 2) := by decide +kernel
theorem d_Size_root_149 : decode prog_8_method_16_code 149 = .ok (.lload 10, 2) := by decide +kernel
theorem d_Size_root_151 : decode prog_8_method_16_code 151 = .ok (.lcmp, 1) := by decide +kernel
theorem d_Size_root_152 : decode prog_8_method_16_code 152 = .ok (.ifCond .gt 21, 3) := by decide +kernel
theorem d_Size_root_155 : decode prog_8_method_16_code 155 = .ok (.lload 4, 2) := by decide +kernel
theorem d_Size_root_157 : decode prog_8_method_16_code 157 = .ok (.lload 10, 2) := by decide +kernel
theorem d_Size_root_159 : decode prog_8_method_16_code 159 = .ok (.lcmp, 1) := by decide +kernel
theorem d_Size_root_160 : decode prog_8_method_16_code 160 = .ok (.ifCond .ne 54, 3) := by decide +kernel
theorem d_Size_root_163 : decode prog_8_method_16_code 163 = .ok (.lload 6, 2) := by decide +kernel
theorem d_Size_root_165 : decode prog_8_method_16_code 165 = .ok (.lload 12, 2) := by decide +kernel
theorem d_Size_root_167 : decode prog_8_method_16_code 167 = .ok (.invokestatic 39, 3) := by decide +kernel
theorem d_Size_root_170 : decode prog_8_method_16_code 170 = .ok (.ifCond .ne 44, 3) := by decide +kernel
theorem d_Size_root_173 : decode prog_8_method_16_code 173 = .ok (.lload 4, 2) := by decide +kernel
theorem d_Size_root_175 : decode prog_8_method_16_code 175 = .ok (.lload 10, 2) := by decide +kernel
theorem d_Size_root_177 : decode prog_8_method_16_code 177 = .ok (.lload 6, 2) := by decide +kernel
theorem d_Size_root_179 : decode prog_8_method_16_code 179 = .ok (.lload 12, 2) := by decide +kernel
theorem d_Size_root_181 : decode prog_8_method_16_code 181 = .ok (.invokestatic 39, 3) := by decide +kernel
theorem d_Size_root_184 : decode prog_8_method_16_code 184 = .ok (.ifCond .eq 7, 3) := by decide +kernel
theorem d_Size_root_187 : decode prog_8_method_16_code 187 = .ok (.iconst 1, 1) := by decide +kernel
theorem d_Size_root_188 : decode prog_8_method_16_code 188 = .ok (.goto 4, 3) := by decide +kernel
theorem d_Size_root_191 : decode prog_8_method_16_code 191 = .ok (.iconst 0, 1) := by decide +kernel
theorem d_Size_root_192 : decode prog_8_method_16_code 192 = .ok (.i2l, 1) := by decide +kernel
theorem d_Size_root_193 : decode prog_8_method_16_code 193 = .ok (.ladd, 1) := by decide +kernel
theorem d_Size_root_194 : decode prog_8_method_16_code 194 = .ok (.lsub, 1) := by decide +kernel
theorem d_Size_root_195 : decode prog_8_method_16_code 195 = .ok (.lstore 4, 2) := by decide +kernel
theorem d_Size_root_197 : decode prog_8_method_16_code 197 = .ok (.lload 6, 2) := by decide +kernel
theorem d_Size_root_199 : decode prog_8_method_16_code 199 = .ok (.lload 12, 2) := by decide +kernel
theorem d_Size_root_201 : decode prog_8_method_16_code 201 = .ok (.lsub, 1) := by decide +kernel
theorem d_Size_root_202 : decode prog_8_method_16_code 202 = .ok (.lstore 6, 2) := by decide +kernel
theorem d_Size_root_204 : decode prog_8_method_16_code 204 = .ok (.aload_n 0, 1) := by decide +kernel
theorem d_Size_root_205 : decode prog_8_method_16_code 205 = .ok (.dup, 1) := by decide +kernel
theorem d_Size_root_206 : decode prog_8_method_16_code 206 = .ok (.getfield 13, 3) := by decide +kernel
theorem d_Size_root_209 : decode prog_8_method_16_code 209 = .ok (.lconst 1, 1) := by decide +kernel
theorem d_Size_root_210 : decode prog_8_method_16_code 210 = .ok (.lor, 1) := by decide +kernel
theorem d_Size_root_211 : decode prog_8_method_16_code 211 = .ok (.putfield 13, 3) := by decide +kernel
theorem d_Size_root_214 : decode prog_8_method_16_code 214 = .ok (.iinc 8 1, 3) := by decide +kernel
theorem d_Size_root_217 : decode prog_8_method_16_code 217 = .ok (.goto (-178), 3) := by decide +kernel
theorem d_Size_root_220 : decode prog_8_method_16_code 220 = .ok (.aload_n 0, 1) := by decide +kernel
theorem d_Size_root_221 : decode prog_8_method_16_code 221 = .ok (.lload 4, 2) := by decide +kernel
theorem d_Size_root_223 : decode prog_8_method_16_code 223 = .ok (.lconst 0, 1) := by decide +kernel
theorem d_Size_root_224 : decode prog_8_method_16_code 224 = .ok (.lcmp, 1) := by decide +kernel
theorem d_Size_root_225 : decode prog_8_method_16_code 225 = .ok (.ifCond .ne 10, 3) := by decide +kernel
theorem d_Size_root_228 : decode prog_8_method_16_code 228 = .ok (.lload 6, 2) := by decide +kernel
theorem d_Size_root_230 : decode prog_8_method_16_code 230 = .ok (.lconst 0, 1) := by decide +kernel
theorem d_Size_root_231 : decode prog_8_method_16_code 231 = .ok (.lcmp, 1) := by decide +kernel
theorem d_Size_root_232 : decode prog_8_method_16_code 232 = .ok (.ifCond .eq 7, 3) := by decide +kernel
theorem d_Size_root_235 : decode prog_8_method_16_code 235 = .ok (.iconst 1, 1) := by decide +kernel
theorem d_Size_root_236 : decode prog_8_method_16_code 236 = .ok (.goto 4, 3) := by decide +kernel
theorem d_Size_root_239 : decode prog_8_method_16_code 239 = .ok (.iconst 0, 1) := by decide +kernel
theorem d_Size_root_240 : decode prog_8_method_16_code 240 = .ok (.putfield 32, 3) := by decide +kernel
theorem d_Size_root_243 : decode prog_8_method_16_code 243 = .ok (.aload_n 0, 1) := by decide +kernel
theorem d_Size_root_244 : decode prog_8_method_16_code 244 = .ok (.aload_n 0, 1) := by decide +kernel
theorem d_Size_root_245 : decode prog_8_method_16_code 245 = .ok (.getfield 16, 3) := by decide +kernel
theorem d_Size_root_248 : decode prog_8_method_16_code 248 = .ok (.bipush 64, 2) := by decide +kernel
theorem d_Size_root_250 : decode prog_8_method_16_code 250 = .ok (.iadd, 1) := by decide +kernel
theorem d_Size_root_251 : decode prog_8_method_16_code 251 = .ok (.iload_n 3, 1) := by decide +kernel
theorem d_Size_root_252 : decode prog_8_method_16_code 252 = .ok (.ifCond .eq 8, 3) := by decide +kernel
theorem d_Size_root_255 : decode prog_8_method_16_code 255 = .ok (.bipush 67, 2) := by decide +kernel
theorem d_Size_root_257 : decode prog_8_method_16_code 257 = .ok (.goto 5, 3) := by decide +kernel
theorem d_Size_root_260 : decode prog_8_method_16_code 260 = .ok (.bipush 68, 2) := by decide +kernel
theorem d_Size_root_262 : decode prog_8_method_16_code 262 = .ok (.isub, 1) := by decide +kernel
theorem d_Size_root_263 : decode prog_8_method_16_code 263 = .ok (.iconst 1, 1) := by decide +kernel
theorem d_Size_root_264 : decode prog_8_method_16_code 264 = .ok (.ishr, 1) := by decide +kernel
theorem d_Size_root_265 : decode prog_8_method_16_code 265 = .ok (.putfield 16, 3) := by decide +kernel
theorem d_Size_root_268 : decode prog_8_method_16_code 268 = .ok (.aload_n 0, 1) := by decide +kernel
theorem d_Size_root_269 : decode prog_8_method_16_code 269 = .ok (.invokevirtual 36, 3) := by decide +kernel
theorem d_Size_root_272 : decode prog_8_method_16_code 272 = .ok (.return_, 1) := by decide +kernel
theorem d_Size_isNothing_0 : decode prog_8_method_2_code 0 = .ok (.aload_n 0, 1) := by decide +kernel
theorem d_Size_isNothing_1 : decode prog_8_method_2_code 1 = .ok (.getfield 7, 3) := by decide +kernel
theorem d_Size_isNothing_4 : decode prog_8_method_2_code 4 = .ok (.lconst 0, 1) := by decide +kernel
theorem d_Size_isNothing_5 : decode prog_8_method_2_code 5 = .ok (.lcmp, 1) := by decide +kernel
theorem d_Size_isNothing_6 : decode prog_8_method_2_code 6 = .ok (.ifCond .ne 16, 3) := by decide +kernel
theorem d_Size_isNothing_9 : decode prog_8_method_2_code 9 = .ok (.aload_n 0, 1) := by decide +kernel
theorem d_Size_isNothing_10 : decode prog_8_method_2_code 10 = .ok (.getfield 13, 3) := by decide +kernel
theorem d_Size_isNothing_13 : decode prog_8_method_2_code 13 = .ok (.lconst 0, 1) := by decide +kernel
theorem d_Size_isNothing_14 : decode prog_8_method_2_code 14 = .ok (.lcmp, 1) := by decide +kernel
theorem d_Size_isNothing_15 : decode prog_8_method_2_code 15 = .ok (.ifCond .ne 7, 3) := by decide +kernel
theorem d_Size_isNothing_18 : decode prog_8_method_2_code 18 = .ok (.iconst 1, 1) := by decide +kernel
theorem d_Size_isNothing_19 : decode prog_8_method_2_code 19 = .ok (.goto 4, 3) := by decide +kernel
theorem d_Size_isNothing_22 : decode prog_8_method_2_code 22 = .ok (.iconst 0, 1) := by decide +kernel
theorem d_Size_isNothing_23 : decode prog_8_method_2_code 23 = .ok (.ireturn, 1) := by decide +kernel
theorem d_Size_roundsUp_0 : decode prog_8_method_18_code 0 = .ok (.lload_n 1, 1) := by decide +kernel
theorem d_Size_roundsUp_1 : decode prog_8_method_18_code 1 = .ok (.ldc2_w 65, 3) := by decide +kernel
theorem d_Size_roundsUp_4 : decode prog_8_method_18_code 4 = .ok (.lcmp, 1) := by decide +kernel
theorem d_Size_roundsUp_5 : decode prog_8_method_18_code 5 = .ok (.ifCond .ne 11, 3) := by decide +kernel
theorem d_Size_roundsUp_8 : decode prog_8_method_18_code 8 = .ok (.iload_n 3, 1) := by decide +kernel
theorem d_Size_roundsUp_9 : decode prog_8_method_18_code 9 = .ok (.ifCond .ne 7, 3) := by decide +kernel
theorem d_Size_roundsUp_12 : decode prog_8_method_18_code 12 = .ok (.iconst 1, 1) := by decide +kernel
theorem d_Size_roundsUp_13 : decode prog_8_method_18_code 13 = .ok (.goto 4, 3) := by decide +kernel
theorem d_Size_roundsUp_16 : decode prog_8_method_18_code 16 = .ok (.iconst 0, 1) := by decide +kernel
theorem d_Size_roundsUp_17 : decode prog_8_method_18_code 17 = .ok (.istore 6, 2) := by decide +kernel
theorem d_Size_roundsUp_19 : decode prog_8_method_18_code 19 = .ok (.iload 4, 2) := by decide +kernel
theorem d_Size_roundsUp_21 : decode prog_8_method_18_code 21 = .ok (.tableswitch 94 0 4 #[35, 63, 66, 94, 77], 35) := by decide +kernel
theorem d_Size_roundsUp_56 : decode prog_8_method_18_code 56 = .ok (.lload_n 1, 1) := by decide +kernel
theorem d_Size_roundsUp_57 : decode prog_8_method_18_code 57 = .ok (.lconst 0, 1) := by decide +kernel
theorem d_Size_roundsUp_58 : decode prog_8_method_18_code 58 = .ok (.lcmp, 1) := by decide +kernel
theorem d_Size_roundsUp_59 : decode prog_8_method_18_code 59 = .ok (.ifCond .ge 23, 3) := by decide +kernel
theorem d_Size_roundsUp_62 : decode prog_8_method_18_code 62 = .ok (.iload 6, 2) := by decide +kernel
theorem d_Size_roundsUp_64 : decode prog_8_method_18_code 64 = .ok (.ifCond .eq 14, 3) := by decide +kernel
theorem d_Size_roundsUp_67 : decode prog_8_method_18_code 67 = .ok (.aload_n 0, 1) := by decide +kernel
theorem d_Size_roundsUp_68 : decode prog_8_method_18_code 68 = .ok (.getfield 55, 3) := by decide +kernel
theorem d_Size_roundsUp_71 : decode prog_8_method_18_code 71 = .ok (.lconst 1, 1) := by decide +kernel
theorem d_Size_roundsUp_72 : decode prog_8_method_18_code 72 = .ok (.land, 1) := by decide +kernel
theorem d_Size_roundsUp_73 : decode prog_8_method_18_code 73 = .ok (.lconst 0, 1) := by decide +kernel
theorem d_Size_roundsUp_74 : decode prog_8_method_18_code 74 = .ok (.lcmp, 1) := by decide +kernel
theorem d_Size_roundsUp_75 : decode prog_8_method_18_code 75 = .ok (.ifCond .eq 7, 3) := by decide +kernel
theorem d_Size_roundsUp_78 : decode prog_8_method_18_code 78 = .ok (.iconst 1, 1) := by decide +kernel
theorem d_Size_roundsUp_79 : decode prog_8_method_18_code 79 = .ok (.goto 4, 3) := by decide +kernel
theorem d_Size_roundsUp_82 : decode prog_8_method_18_code 82 = .ok (.iconst 0, 1) := by decide +kernel
theorem d_Size_roundsUp_83 : decode prog_8_method_18_code 83 = .ok (.ireturn, 1) := by decide +kernel
theorem d_Size_roundsUp_84 : decode prog_8_method_18_code 84 = .ok (.iload 5, 2) := by decide +kernel
theorem d_Size_roundsUp_86 : decode prog_8_method_18_code 86 = .ok (.ireturn, 1) := by decide +kernel
theorem d_Size_roundsUp_87 : decode prog_8_method_18_code 87 = .ok (.iload 5, 2) := by decide +kernel
theorem d_Size_roundsUp_89 : decode prog_8_method_18_code 89 = .ok (.ifCond .ne 7, 3) := by decide +kernel
theorem d_Size_roundsUp_92 : decode prog_8_method_18_code 92 = .ok (.iconst 1, 1) := by decide +kernel
theorem d_Size_roundsUp_93 : decode prog_8_method_18_code 93 = .ok (.goto 4, 3) := by decide +kernel
theorem d_Size_roundsUp_96 : decode prog_8_method_18_code 96 = .ok (.iconst 0, 1) := by decide +kernel
theorem d_Size_roundsUp_97 : decode prog_8_method_18_code 97 = .ok (.ireturn, 1) := by decide +kernel
theorem d_Size_roundsUp_98 : decode prog_8_method_18_code 98 = .ok (.lload_n 1, 1) := by decide +kernel
theorem d_Size_roundsUp_99 : decode prog_8_method_18_code 99 = .ok (.lconst 0, 1) := by decide +kernel
theorem d_Size_roundsUp_100 : decode prog_8_method_18_code 100 = .ok (.lcmp, 1) := by decide +kernel
theorem d_Size_roundsUp_101 : decode prog_8_method_18_code 101 = .ok (.ifCond .ge 12, 3) := by decide +kernel
theorem d_Size_roundsUp_104 : decode prog_8_method_18_code 104 = .ok (.iload 6, 2) := by decide +kernel
theorem d_Size_roundsUp_106 : decode prog_8_method_18_code 106 = .ok (.ifCond .ne 7, 3) := by decide +kernel
theorem d_Size_roundsUp_109 : decode prog_8_method_18_code 109 = .ok (.iconst 1, 1) := by decide +kernel
theorem d_Size_roundsUp_110 : decode prog_8_method_18_code 110 = .ok (.goto 4, 3) := by decide +kernel
theorem d_Size_roundsUp_113 : decode prog_8_method_18_code 113 = .ok (.iconst 0, 1) := by decide +kernel
theorem d_Size_roundsUp_114 : decode prog_8_method_18_code 114 = .ok (.ireturn, 1) := by decide +kernel
theorem d_Size_roundsUp_115 : decode prog_8_method_18_code 115 = .ok (.iconst 0, 1) := by decide +kernel
theorem d_Size_roundsUp_116 : decode prog_8_method_18_code 116 = .ok (.ireturn, 1) := by decide +kernel
theorem d_Size_round_0 : decode prog_8_method_17_code 0 = .ok (.aload_n 0, 1) := by decide +kernel
theorem d_Size_round_1 : decode prog_8_method_17_code 1 = .ok (.getfield 13, 3) := by decide +kernel
theorem d_Size_round_4 : decode prog_8_method_17_code 4 = .ok (.lstore 4, 2) := by decide +kernel
theorem d_Size_round_6 : decode prog_8_method_17_code 6 = .ok (.aload_n 0, 1) := by decide +kernel
theorem d_Size_round_7 : decode prog_8_method_17_code 7 = .ok (.getfield 32, 3) := by decide +kernel
theorem d_Size_round_10 : decode prog_8_method_17_code 10 = .ok (.istore 6, 2) := by decide +kernel
theorem d_Size_round_12 : decode prog_8_method_17_code 12 = .ok (.aload_n 0, 1) := by decide +kernel
theorem d_Size_round_13 : decode prog_8_method_17_code 13 = .ok (.aload_n 0, 1) := by decide +kernel
theorem d_Size_round_14 : decode prog_8_method_17_code 14 = .ok (.getfield 7, 3) := by decide +kernel
theorem d_Size_round_17 : decode prog_8_method_17_code 17 = .ok (.putfield 55, 3) := by decide +kernel
theorem d_Size_round_20 : decode prog_8_method_17_code 20 = .ok (.iload_n 1, 1) := by decide +kernel
theorem d_Size_round_21 : decode prog_8_method_17_code 21 = .ok (.bipush 64, 2) := by decide +kernel
theorem d_Size_round_23 : decode prog_8_method_17_code 23 = .ok (.if_icmp .le 76, 3) := by decide +kernel
theorem d_Size_round_26 : decode prog_8_method_17_code 26 = .ok (.iload 6, 2) := by decide +kernel
theorem d_Size_round_28 : decode prog_8_method_17_code 28 = .ok (.ifCond .ne 12, 3) := by decide +kernel
theorem d_Size_round_31 : decode prog_8_method_17_code 31 = .ok (.aload_n 0, 1) := by decide +kernel
theorem d_Size_round_32 : decode prog_8_method_17_code 32 = .ok (.getfield 13, 3) := by decide +kernel
theorem d_Size_round_35 : decode prog_8_method_17_code 35 = .ok (.lconst 0, 1) := by decide +kernel
theorem d_Size_round_36 : decode prog_8_method_17_code 36 = .ok (.lcmp, 1) := by decide +kernel
theorem d_Size_round_37 : decode prog_8_method_17_code 37 = .ok (.ifCond .eq 7, 3) := by decide +kernel
theorem d_Size_round_40 : decode prog_8_method_17_code 40 = .ok (.iconst 1, 1) := by decide +kernel
theorem d_Size_round_41 : decode prog_8_method_17_code 41 = .ok (.goto 4, 3) := by decide +kernel
theorem d_Size_round_44 : decode prog_8_method_17_code 44 = .ok (.iconst 0, 1) := by decide +kernel
theorem d_Size_round_45 : decode prog_8_method_17_code 45 = .ok (.istore 6, 2) := by decide +kernel
theorem d_Size_round_47 : decode prog_8_method_17_code 47 = .ok (.aload_n 0, 1) := by decide +kernel
theorem d_Size_round_48 : decode prog_8_method_17_code 48 = .ok (.iload_n 1, 1) := by decide +kernel
theorem d_Size_round_49 : decode prog_8_method_17_code 49 = .ok (.sipush 128, 3) := by decide +kernel
theorem d_Size_round_52 : decode prog_8_method_17_code 52 = .ok (.if_icmp .ge 15, 3) := by decide +kernel
theorem d_Size_round_55 : decode prog_8_method_17_code 55 = .ok (.aload_n 0, 1) := by decide +kernel
theorem d_Size_round_56 : decode prog_8_method_17_code 56 = .ok (.getfield 7, 3) := by decide +kernel
theorem d_Size_round_59 : decode prog_8_method_17_code 59 = .ok (.iload_n 1, 1) := by decide +kernel
theorem d_Size_round_60 : decode prog_8_method_17_code 60 = .ok (.bipush 64, 2) := by decide +kernel
theorem d_Size_round_62 : decode prog_8_method_17_code 62 = .ok (.isub, 1) := by decide +kernel
theorem d_Size_round_63 : decode prog_8_method_17_code 63 = .ok (.lushr, 1) := by decide +kernel
theorem d_Size_round_64 : decode prog_8_method_17_code 64 = .ok (.goto 4, 3) := by decide +kernel
theorem d_Size_round_67 : decode prog_8_method_17_code 67 = .ok (.lconst 0, 1) := by decide +kernel
theorem d_Size_round_68 : decode prog_8_method_17_code 68 = .ok (.putfield 55, 3) := by decide +kernel
theorem d_Size_round_71 : decode prog_8_method_17_code 71 = .ok (.iload_n 1, 1) := by decide +kernel
theorem d_Size_round_72 : decode prog_8_method_17_code 72 = .ok (.sipush 128, 3) := by decide +kernel
theorem d_Size_round_75 : decode prog_8_method_17_code 75 = .ok (.if_icmp .gt 16, 3) := by decide +kernel
theorem d_Size_round_78 : decode prog_8_method_17_code 78 = .ok (.aload_n 0, 1) := by decide +kernel
theorem d_Size_round_79 : decode prog_8_method_17_code 79 = .ok (.getfield 7, 3) := by decide +kernel
theorem d_Size_round_82 : decode prog_8_method_17_code 82 = .ok (.sipush 128, 3) := by decide +kernel
theorem d_Size_round_85 : decode prog_8_method_17_code 85 = .ok (.iload_n 1, 1) := by decide +kernel
theorem d_Size_round_86 : decode prog_8_method_17_code 86 = .ok (.isub, 1) := by decide +kernel
theorem d_Size_round_87 : decode prog_8_method_17_code 87 = .ok (.lshl, 1) := by decide +kernel
theorem d_Size_round_88 : decode prog_8_method_17_code 88 = .ok (.goto 9, 3) := by decide +kernel
theorem d_Size_round_91 : decode prog_8_method_17_code 91 = .ok (.aload_n 0, 1) := by decide +kernel
theorem d_Size_round_92 : decode prog_8_method_17_code 92 = .ok (.getfield 7, 3) := by decide +kernel
theorem d_Size_round_95 : decode prog_8_method_17_code 95 = .ok (.iconst 1, 1) := by decide +kernel
theorem d_Size_round_96 : decode prog_8_method_17_code 96 = .ok (.lushr, 1) := by decide +kernel
theorem d_Size_round_97 : decode prog_8_method_17_code 97 = .ok (.lstore 4, 2) := by decide +kernel
theorem d_Size_round_99 : decode prog_8_method_17_code 99 = .ok (.aload_n 0, 1) := by decide +kernel
theorem d_Size_round_100 : decode prog_8_method_17_code 100 = .ok (.lload 4, 2) := by decide +kernel
theorem d_Size_round_102 : decode prog_8_method_17_code 102 = .ok (.lconst 0, 1) := by decide +kernel
theorem d_Size_round_103 : decode prog_8_method_17_code 103 = .ok (.lcmp, 1) := by decide +kernel
theorem d_Size_round_104 : decode prog_8_method_17_code 104 = .ok (.ifCond .ne 8, 3) := by decide +kernel
theorem d_Size_round_107 : decode prog_8_method_17_code 107 = .ok (.iload 6, 2) := by decide +kernel
theorem d_Size_round_109 : decode prog_8_method_17_code 109 = .ok (.ifCond .eq 7, 3) := by decide +kernel
theorem d_Size_round_112 : decode prog_8_method_17_code 112 = .ok (.iconst 1, 1) := by decide +kernel
theorem d_Size_round_113 : decode prog_8_method_17_code 113 = .ok (.goto 4, 3) := by decide +kernel
theorem d_Size_round_116 : decode prog_8_method_17_code 116 = .ok (.iconst 0, 1) := by decide +kernel
theorem d_Size_round_117 : decode prog_8_method_17_code 117 = .ok (.putfield 58, 3) := by decide +kernel
theorem d_Size_round_120 : decode prog_8_method_17_code 120 = .ok (.aload_n 0, 1) := by decide +kernel
theorem d_Size_round_121 : decode prog_8_method_17_code 121 = .ok (.getfield 58, 3) := by decide +kernel
theorem d_Size_round_124 : decode prog_8_method_17_code 124 = .ok (.ifCond .eq 26, 3) := by decide +kernel
theorem d_Size_round_127 : decode prog_8_method_17_code 127 = .ok (.aload_n 0, 1) := by decide +kernel
theorem d_Size_round_128 : decode prog_8_method_17_code 128 = .ok (.lload 4, 2) := by decide +kernel
theorem d_Size_round_130 : decode prog_8_method_17_code 130 = .ok (.iload 6, 2) := by decide +kernel
theorem d_Size_round_132 : decode prog_8_method_17_code 132 = .ok (.iload_n 2, 1) := by decide +kernel
theorem d_Size_round_133 : decode prog_8_method_17_code 133 = .ok (.iload_n 3, 1) := by decide +kernel
theorem d_Size_round_134 : decode prog_8_method_17_code 134 = .ok (.invokevirtual 61, 3) := by decide +kernel
theorem d_Size_round_137 : decode prog_8_method_17_code 137 = .ok (.ifCond .eq 13, 3) := by decide +kernel
theorem d_Size_round_140 : decode prog_8_method_17_code 140 = .ok (.aload_n 0, 1) := by decide +kernel
theorem d_Size_round_141 : decode prog_8_method_17_code 141 = .ok (.dup, 1) := by decide +kernel
theorem d_Size_round_142 : decode prog_8_method_17_code 142 = .ok (.getfield 55, 3) := by decide +kernel
theorem d_Size_round_145 : decode prog_8_method_17_code 145 = .ok (.lconst 1, 1) := by decide +kernel
theorem d_Size_round_146 : decode prog_8_method_17_code 146 = .ok (.ladd, 1) := by decide +kernel
theorem d_Size_round_147 : decode prog_8_method_17_code 147 = .ok (.putfield 55, 3) := by decide +kernel
theorem d_Size_round_150 : decode prog_8_method_17_code 150 = .ok (.return_, 1) := by decide +kernel
theorem d_Size_reduce_0 : decode prog_8_method_14_code 0 = .ok (.aload_n 0, 1) := by decide +kernel
theorem d_Size_reduce_1 : decode prog_8_method_14_code 1 = .ok (.aload_n 1, 1) := by decide +kernel
theorem d_Size_reduce_2 : decode prog_8_method_14_code 2 = .ok (.getfield 7, 3) := by decide +kernel
theorem d_Size_reduce_5 : decode prog_8_method_14_code 5 = .ok (.iload_n 2, 1) := by decide +kernel
theorem d_Size_reduce_6 : decode prog_8_method_14_code 6 = .ok (.invokevirtual 49, 3) := by decide +kernel
theorem d_Size_reduce_9 : decode prog_8_method_14_code 9 = .ok (.aload_n 0, 1) := by decide +kernel
theorem d_Size_reduce_10 : decode prog_8_method_14_code 10 = .ok (.getfield 13, 3) := by decide +kernel
theorem d_Size_reduce_13 : decode prog_8_method_14_code 13 = .ok (.l2i, 1) := by decide +kernel
theorem d_Size_reduce_14 : decode prog_8_method_14_code 14 = .ok (.bipush 7, 2) := by decide +kernel
theorem d_Size_reduce_16 : decode prog_8_method_14_code 16 = .ok (.iand, 1) := by decide +kernel
theorem d_Size_reduce_17 : decode prog_8_method_14_code 17 = .ok (.istore 4, 2) := by decide +kernel
theorem d_Size_reduce_19 : decode prog_8_method_14_code 19 = .ok (.aload_n 0, 1) := by decide +kernel
theorem d_Size_reduce_20 : decode prog_8_method_14_code 20 = .ok (.aload_n 0, 1) := by decide +kernel
theorem d_Size_reduce_21 : decode prog_8_method_14_code 21 = .ok (.getfield 52, 3) := by decide +kernel
theorem d_Size_reduce_24 : decode prog_8_method_14_code 24 = .ok (.aload_n 1, 1) := by decide +kernel
theorem d_Size_reduce_25 : decode prog_8_method_14_code 25 = .ok (.getfield 16, 3) := by decide +kernel
theorem d_Size_reduce_28 : decode prog_8_method_14_code 28 = .ok (.bipush 64, 2) := by decide +kernel
theorem d_Size_reduce_30 : decode prog_8_method_14_code 30 = .ok (.iadd, 1) := by decide +kernel
theorem d_Size_reduce_31 : decode prog_8_method_14_code 31 = .ok (.iload_n 3, 1) := by decide +kernel
theorem d_Size_reduce_32 : decode prog_8_method_14_code 32 = .ok (.iadd, 1) := by decide +kernel
theorem d_Size_reduce_33 : decode prog_8_method_14_code 33 = .ok (.invokevirtual 28, 3) := by decide +kernel
theorem d_Size_reduce_36 : decode prog_8_method_14_code 36 = .ok (.iload 4, 2) := by decide +kernel
theorem d_Size_reduce_38 : decode prog_8_method_14_code 38 = .ok (.ireturn, 1) := by decide +kernel
