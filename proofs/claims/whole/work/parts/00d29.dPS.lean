theorem d_PS_beInitial_0 : decode prog_1_method_15_code 0 = .ok (.aload_n 0, 1) := by decide +kernel
theorem d_PS_beInitial_1 : decode prog_1_method_15_code 1 = .ok (.getfield 19, 3) := by decide +kernel
theorem d_PS_beInitial_4 : decode prog_1_method_15_code 4 = .ok (.sipush 1023, 3) := by decide +kernel
theorem d_PS_beInitial_7 : decode prog_1_method_15_code 7 = .ok (.putfield 152, 3) := by decide +kernel
theorem d_PS_beInitial_10 : decode prog_1_method_15_code 10 = .ok (.aload_n 0, 1) := by decide +kernel
theorem d_PS_beInitial_11 : decode prog_1_method_15_code 11 = .ok (.iconst 0, 1) := by decide +kernel
theorem d_PS_beInitial_12 : decode prog_1_method_15_code 12 = .ok (.putfield 131, 3) := by decide +kernel
theorem d_PS_beInitial_15 : decode prog_1_method_15_code 15 = .ok (.aload_n 0, 1) := by decide +kernel
theorem d_PS_beInitial_16 : decode prog_1_method_15_code 16 = .ok (.iconst 0, 1) := by decide +kernel
theorem d_PS_beInitial_17 : decode prog_1_method_15_code 17 = .ok (.putfield 185, 3) := by decide +kernel
theorem d_PS_beInitial_20 : decode prog_1_method_15_code 20 = .ok (.aload_n 0, 1) := by decide +kernel
theorem d_PS_beInitial_21 : decode prog_1_method_15_code 21 = .ok (.iconst 0, 1) := by decide +kernel
theorem d_PS_beInitial_22 : decode prog_1_method_15_code 22 = .ok (.putfield 183, 3) := by decide +kernel
theorem d_PS_beInitial_25 : decode prog_1_method_15_code 25 = .ok (.iconst 0, 1) := by decide +kernel
theorem d_PS_beInitial_26 : decode prog_1_method_15_code 26 = .ok (.istore_n 1, 1) := by decide +kernel
theorem d_PS_beInitial_27 : decode prog_1_method_15_code 27 = .ok (.iload_n 1, 1) := by decide +kernel
theorem d_PS_beInitial_28 : decode prog_1_method_15_code 28 = .ok (.bipush 8, 2) := by decide +kernel
theorem d_PS_beInitial_30 : decode prog_1_method_15_code 30 = .ok (.if_icmp .ge 16, 3) := by decide +kernel
theorem d_PS_beInitial_33 : decode prog_1_method_15_code 33 = .ok (.aload_n 0, 1) := by decide +kernel
theorem d_PS_beInitial_34 : decode prog_1_method_15_code 34 = .ok (.getfield 61, 3) := by decide +kernel
theorem d_PS_beInitial_37 : decode prog_1_method_15_code 37 = .ok (.iload_n 1, 1) := by decide +kernel
theorem d_PS_beInitial_38 : decode prog_1_method_15_code 38 = .ok (.iconst 1, 1) := by decide +kernel
theorem d_PS_beInitial_39 : decode prog_1_method_15_code 39 = .ok (.bastore, 1) := by decide +kernel
theorem d_PS_beInitial_40 : decode prog_1_method_15_code 40 = .ok (.iinc 1 1, 3) := by decide +kernel
theorem d_PS_beInitial_43 : decode prog_1_method_15_code 43 = .ok (.goto (-16), 3) := by decide +kernel
theorem d_PS_beInitial_46 : decode prog_1_method_15_code 46 = .ok (.aload_n 0, 1) := by decide +kernel
theorem d_PS_beInitial_47 : decode prog_1_method_15_code 47 = .ok (.iconst 0, 1) := by decide +kernel
theorem d_PS_beInitial_48 : decode prog_1_method_15_code 48 = .ok (.putfield 137, 3) := by decide +kernel
theorem d_PS_beInitial_51 : decode prog_1_method_15_code 51 = .ok (.aload_n 0, 1) := by decide +kernel
theorem d_PS_beInitial_52 : decode prog_1_method_15_code 52 = .ok (.iconst 0, 1) := by decide +kernel
theorem d_PS_beInitial_53 : decode prog_1_method_15_code 53 = .ok (.putfield 140, 3) := by decide +kernel
theorem d_PS_beInitial_56 : decode prog_1_method_15_code 56 = .ok (.aload_n 0, 1) := by decide +kernel
theorem d_PS_beInitial_57 : decode prog_1_method_15_code 57 = .ok (.iconst 0, 1) := by decide +kernel
theorem d_PS_beInitial_58 : decode prog_1_method_15_code 58 = .ok (.putfield 143, 3) := by decide +kernel
theorem d_PS_beInitial_61 : decode prog_1_method_15_code 61 = .ok (.return_, 1) := by decide +kernel
theorem d_PS_isPattern_0 : decode prog_1_method_8_code 0 = .ok (.iload_n 0, 1) := by decide +kernel
theorem d_PS_isPattern_1 : decode prog_1_method_8_code 1 = .ok (.ifCond .lt 24, 3) := by decide +kernel
theorem d_PS_isPattern_4 : decode prog_1_method_8_code 4 = .ok (.iload_n 0, 1) := by decide +kernel
theorem d_PS_isPattern_5 : decode prog_1_method_8_code 5 = .ok (.bipush 7, 2) := by decide +kernel
theorem d_PS_isPattern_7 : decode prog_1_method_8_code 7 = .ok (.if_icmp .gt 18, 3) := by decide +kernel
theorem d_PS_isPattern_10 : decode prog_1_method_8_code 10 = .ok (.iload_n 1, 1) := by decide +kernel
theorem d_PS_isPattern_11 : decode prog_1_method_8_code 11 = .ok (.ifCond .lt 14, 3) := by decide +kernel
theorem d_PS_isPattern_14 : decode prog_1_method_8_code 14 = .ok (.iload_n 1, 1) := by decide +kernel
theorem d_PS_isPattern_15 : decode prog_1_method_8_code 15 = .ok (.sipush 255, 3) := by decide +kernel
theorem d_PS_isPattern_18 : decode prog_1_method_8_code 18 = .ok (.if_icmp .gt 7, 3) := by decide +kernel
theorem d_PS_isPattern_21 : decode prog_1_method_8_code 21 = .ok (.iconst 1, 1) := by decide +kernel
theorem d_PS_isPattern_22 : decode prog_1_method_8_code 22 = .ok (.goto 4, 3) := by decide +kernel
theorem d_PS_isPattern_25 : decode prog_1_method_8_code 25 = .ok (.iconst 0, 1) := by decide +kernel
theorem d_PS_isPattern_26 : decode prog_1_method_8_code 26 = .ok (.ireturn, 1) := by decide +kernel
theorem d_PS_isPlace_0 : decode prog_1_method_9_code 0 = .ok (.iload_n 0, 1) := by decide +kernel
theorem d_PS_isPlace_1 : decode prog_1_method_9_code 1 = .ok (.ifCond .lt 13, 3) := by decide +kernel
theorem d_PS_isPlace_4 : decode prog_1_method_9_code 4 = .ok (.iload_n 0, 1) := by decide +kernel
theorem d_PS_isPlace_5 : decode prog_1_method_9_code 5 = .ok (.ldc 179, 2) := by decide +kernel
theorem d_PS_isPlace_7 : decode prog_1_method_9_code 7 = .ok (.if_icmp .ge 7, 3) := by decide +kernel
theorem d_PS_isPlace_10 : decode prog_1_method_9_code 10 = .ok (.iconst 1, 1) := by decide +kernel
theorem d_PS_isPlace_11 : decode prog_1_method_9_code 11 = .ok (.goto 4, 3) := by decide +kernel
theorem d_PS_isPlace_14 : decode prog_1_method_9_code 14 = .ok (.iconst 0, 1) := by decide +kernel
theorem d_PS_isPlace_15 : decode prog_1_method_9_code 15 = .ok (.ireturn, 1) := by decide +kernel
theorem d_PS_sortOf_0 : decode prog_1_method_10_code 0 = .ok (.iload_n 1, 1) := by decide +kernel
theorem d_PS_sortOf_1 : decode prog_1_method_10_code 1 = .ok (.iconst 3, 1) := by decide +kernel
theorem d_PS_sortOf_2 : decode prog_1_method_10_code 2 = .ok (.ishr, 1) := by decide +kernel
theorem d_PS_sortOf_3 : decode prog_1_method_10_code 3 = .ok (.bipush 7, 2) := by decide +kernel
theorem d_PS_sortOf_5 : decode prog_1_method_10_code 5 = .ok (.iand, 1) := by decide +kernel
theorem d_PS_sortOf_6 : decode prog_1_method_10_code 6 = .ok (.istore_n 2, 1) := by decide +kernel
theorem d_PS_sortOf_7 : decode prog_1_method_10_code 7 = .ok (.iload_n 1, 1) := by decide +kernel
theorem d_PS_sortOf_8 : decode prog_1_method_10_code 8 = .ok (.bipush 7, 2) := by decide +kernel
theorem d_PS_sortOf_10 : decode prog_1_method_10_code 10 = .ok (.iand, 1) := by decide +kernel
theorem d_PS_sortOf_11 : decode prog_1_method_10_code 11 = .ok (.istore_n 3, 1) := by decide +kernel
theorem d_PS_sortOf_12 : decode prog_1_method_10_code 12 = .ok (.iload_n 1, 1) := by decide +kernel
theorem d_PS_sortOf_13 : decode prog_1_method_10_code 13 = .ok (.sipush 192, 3) := by decide +kernel
theorem d_PS_sortOf_16 : decode prog_1_method_10_code 16 = .ok (.if_icmp .ge 22, 3) := by decide +kernel
theorem d_PS_sortOf_19 : decode prog_1_method_10_code 19 = .ok (.getstatic 148, 3) := by decide +kernel
theorem d_PS_sortOf_22 : decode prog_1_method_10_code 22 = .ok (.iload_n 0, 1) := by decide +kernel
theorem d_PS_sortOf_23 : decode prog_1_method_10_code 23 = .ok (.bipush 8, 2) := by decide +kernel
theorem d_PS_sortOf_25 : decode prog_1_method_10_code 25 = .ok (.imul, 1) := by decide +kernel
theorem d_PS_sortOf_26 : decode prog_1_method_10_code 26 = .ok (.iload_n 2, 1) := by decide +kernel
theorem d_PS_sortOf_27 : decode prog_1_method_10_code 27 = .ok (.iadd, 1) := by decide +kernel
theorem d_PS_sortOf_28 : decode prog_1_method_10_code 28 = .ok (.iaload, 1) := by decide +kernel
theorem d_PS_sortOf_29 : decode prog_1_method_10_code 29 = .ok (.ifCond .ne 7, 3) := by decide +kernel
theorem d_PS_sortOf_32 : decode prog_1_method_10_code 32 = .ok (.iconst 1, 1) := by decide +kernel
theorem d_PS_sortOf_33 : decode prog_1_method_10_code 33 = .ok (.goto 4, 3) := by decide +kernel
theorem d_PS_sortOf_36 : decode prog_1_method_10_code 36 = .ok (.iconst 0, 1) := by decide +kernel
theorem d_PS_sortOf_37 : decode prog_1_method_10_code 37 = .ok (.ireturn, 1) := by decide +kernel
theorem d_PS_sortOf_38 : decode prog_1_method_10_code 38 = .ok (.iload_n 0, 1) := by decide +kernel
theorem d_PS_sortOf_39 : decode prog_1_method_10_code 39 = .ok (.iconst 1, 1) := by decide +kernel
theorem d_PS_sortOf_40 : decode prog_1_method_10_code 40 = .ok (.if_icmp .ne 27, 3) := by decide +kernel
theorem d_PS_sortOf_43 : decode prog_1_method_10_code 43 = .ok (.iload_n 2, 1) := by decide +kernel
theorem d_PS_sortOf_44 : decode prog_1_method_10_code 44 = .ok (.bipush 6, 2) := by decide +kernel
theorem d_PS_sortOf_46 : decode prog_1_method_10_code 46 = .ok (.if_icmp .ne 8, 3) := by decide +kernel
theorem d_PS_sortOf_49 : decode prog_1_method_10_code 49 = .ok (.iload_n 3, 1) := by decide +kernel
theorem d_PS_sortOf_50 : decode prog_1_method_10_code 50 = .ok (.iconst 4, 1) := by decide +kernel
theorem d_PS_sortOf_51 : decode prog_1_method_10_code 51 = .ok (.if_icmp .lt 14, 3) := by decide +kernel
theorem d_PS_sortOf_54 : decode prog_1_method_10_code 54 = .ok (.iload_n 2, 1) := by decide +kernel
theorem d_PS_sortOf_55 : decode prog_1_method_10_code 55 = .ok (.bipush 7, 2) := by decide +kernel
theorem d_PS_sortOf_57 : decode prog_1_method_10_code 57 = .ok (.if_icmp .ne 10, 3) := by decide +kernel
theorem d_PS_sortOf_60 : decode prog_1_method_10_code 60 = .ok (.iload_n 3, 1) := by decide +kernel
theorem d_PS_sortOf_61 : decode prog_1_method_10_code 61 = .ok (.iconst 1, 1) := by decide +kernel
theorem d_PS_sortOf_62 : decode prog_1_method_10_code 62 = .ok (.if_icmp .ne 5, 3) := by decide +kernel
theorem d_PS_sortOf_65 : decode prog_1_method_10_code 65 = .ok (.iconst 2, 1) := by decide +kernel
theorem d_PS_sortOf_66 : decode prog_1_method_10_code 66 = .ok (.ireturn, 1) := by decide +kernel
theorem d_PS_sortOf_67 : decode prog_1_method_10_code 67 = .ok (.getstatic 180, 3) := by decide +kernel
theorem d_PS_sortOf_70 : decode prog_1_method_10_code 70 = .ok (.iload_n 0, 1) := by decide +kernel
theorem d_PS_sortOf_71 : decode prog_1_method_10_code 71 = .ok (.bipush 8, 2) := by decide +kernel
theorem d_PS_sortOf_73 : decode prog_1_method_10_code 73 = .ok (.imul, 1) := by decide +kernel
theorem d_PS_sortOf_74 : decode prog_1_method_10_code 74 = .ok (.iload_n 2, 1) := by decide +kernel
theorem d_PS_sortOf_75 : decode prog_1_method_10_code 75 = .ok (.iadd, 1) := by decide +kernel
theorem d_PS_sortOf_76 : decode prog_1_method_10_code 76 = .ok (.iaload, 1) := by decide +kernel
theorem d_PS_sortOf_77 : decode prog_1_method_10_code 77 = .ok (.iload_n 3, 1) := by decide +kernel
theorem d_PS_sortOf_78 : decode prog_1_method_10_code 78 = .ok (.ishr, 1) := by decide +kernel
theorem d_PS_sortOf_79 : decode prog_1_method_10_code 79 = .ok (.iconst 1, 1) := by decide +kernel
theorem d_PS_sortOf_80 : decode prog_1_method_10_code 80 = .ok (.iand, 1) := by decide +kernel
theorem d_PS_sortOf_81 : decode prog_1_method_10_code 81 = .ok (.ifCond .ne 7, 3) := by decide +kernel
theorem d_PS_sortOf_84 : decode prog_1_method_10_code 84 = .ok (.iconst 1, 1) := by decide +kernel
theorem d_PS_sortOf_85 : decode prog_1_method_10_code 85 = .ok (.goto 4, 3) := by decide +kernel
theorem d_PS_sortOf_88 : decode prog_1_method_10_code 88 = .ok (.iconst 0, 1) := by decide +kernel
theorem d_PS_sortOf_89 : decode prog_1_method_10_code 89 = .ok (.ireturn, 1) := by decide +kernel
theorem d_PS_readEnvironment_0 : decode prog_1_method_37_code 0 = .ok (.aload_n 0, 1) := by decide +kernel
theorem d_PS_readEnvironment_1 : decode prog_1_method_37_code 1 = .ok (.getfield 19, 3) := by decide +kernel
theorem d_PS_readEnvironment_4 : decode prog_1_method_37_code 4 = .ok (.aload_n 0, 1) := by decide +kernel
theorem d_PS_readEnvironment_5 : decode prog_1_method_37_code 5 = .ok (.getfield 10, 3) := by decide +kernel
theorem d_PS_readEnvironment_8 : decode prog_1_method_37_code 8 = .ok (.iconst 0, 1) := by decide +kernel
theorem d_PS_readEnvironment_9 : decode prog_1_method_37_code 9 = .ok (.iconst 2, 1) := by decide +kernel
theorem d_PS_readEnvironment_10 : decode prog_1_method_37_code 10 = .ok (.invokevirtual 95, 3) := by decide +kernel
theorem d_PS_readEnvironment_13 : decode prog_1_method_37_code 13 = .ok (.l2i, 1) := by decide +kernel
theorem d_PS_readEnvironment_14 : decode prog_1_method_37_code 14 = .ok (.putfield 152, 3) := by decide +kernel
theorem d_PS_readEnvironment_17 : decode prog_1_method_37_code 17 = .ok (.aload_n 0, 1) := by decide +kernel
theorem d_PS_readEnvironment_18 : decode prog_1_method_37_code 18 = .ok (.getfield 10, 3) := by decide +kernel
theorem d_PS_readEnvironment_21 : decode prog_1_method_37_code 21 = .ok (.iconst 2, 1) := by decide +kernel
theorem d_PS_readEnvironment_22 : decode prog_1_method_37_code 22 = .ok (.iconst 2, 1) := by decide +kernel
theorem d_PS_readEnvironment_23 : decode prog_1_method_37_code 23 = .ok (.invokevirtual 95, 3) := by decide +kernel
theorem d_PS_readEnvironment_26 : decode prog_1_method_37_code 26 = .ok (.l2i, 1) := by decide +kernel
theorem d_PS_readEnvironment_27 : decode prog_1_method_37_code 27 = .ok (.istore_n 1, 1) := by decide +kernel
theorem d_PS_readEnvironment_28 : decode prog_1_method_37_code 28 = .ok (.aload_n 0, 1) := by decide +kernel
theorem d_PS_readEnvironment_29 : decode prog_1_method_37_code 29 = .ok (.iload_n 1, 1) := by decide +kernel
theorem d_PS_readEnvironment_30 : decode prog_1_method_37_code 30 = .ok (.bipush 63, 2) := by decide +kernel
theorem d_PS_readEnvironment_32 : decode prog_1_method_37_code 32 = .ok (.iand, 1) := by decide +kernel
theorem d_PS_readEnvironment_33 : decode prog_1_method_37_code 33 = .ok (.putfield 131, 3) := by decide +kernel
theorem d_PS_readEnvironment_36 : decode prog_1_method_37_code 36 = .ok (.aload_n 0, 1) := by decide +kernel
theorem d_PS_readEnvironment_37 : decode prog_1_method_37_code 37 = .ok (.iload_n 1, 1) := by decide +kernel
theorem d_PS_readEnvironment_38 : decode prog_1_method_37_code 38 = .ok (.sipush 18176, 3) := by decide +kernel
theorem d_PS_readEnvironment_41 : decode prog_1_method_37_code 41 = .ok (.iand, 1) := by decide +kernel
theorem d_PS_readEnvironment_42 : decode prog_1_method_37_code 42 = .ok (.putfield 185, 3) := by decide +kernel
theorem d_PS_readEnvironment_45 : decode prog_1_method_37_code 45 = .ok (.aload_n 0, 1) := by decide +kernel
theorem d_PS_readEnvironment_46 : decode prog_1_method_37_code 46 = .ok (.iload_n 1, 1) := by decide +kernel
theorem d_PS_readEnvironment_47 : decode prog_1_method_37_code 47 = .ok (.bipush 11, 2) := by decide +kernel
theorem d_PS_readEnvironment_49 : decode prog_1_method_37_code 49 = .ok (.ishr, 1) := by decide +kernel
theorem d_PS_readEnvironment_50 : decode prog_1_method_37_code 50 = .ok (.bipush 7, 2) := by decide +kernel
theorem d_PS_readEnvironment_52 : decode prog_1_method_37_code 52 = .ok (.iand, 1) := by decide +kernel
theorem d_PS_readEnvironment_53 : decode prog_1_method_37_code 53 = .ok (.putfield 183, 3) := by decide +kernel
theorem d_PS_readEnvironment_56 : decode prog_1_method_37_code 56 = .ok (.aload_n 0, 1) := by decide +kernel
theorem d_PS_readEnvironment_57 : decode prog_1_method_37_code 57 = .ok (.getfield 10, 3) := by decide +kernel
theorem d_PS_readEnvironment_60 : decode prog_1_method_37_code 60 = .ok (.iconst 4, 1) := by decide +kernel
theorem d_PS_readEnvironment_61 : decode prog_1_method_37_code 61 = .ok (.iconst 2, 1) := by decide +kernel
theorem d_PS_readEnvironment_62 : decode prog_1_method_37_code 62 = .ok (.invokevirtual 95, 3) := by decide +kernel
theorem d_PS_readEnvironment_65 : decode prog_1_method_37_code 65 = .ok (.l2i, 1) := by decide +kernel
theorem d_PS_readEnvironment_66 : decode prog_1_method_37_code 66 = .ok (.istore_n 2, 1) := by decide +kernel
theorem d_PS_readEnvironment_67 : decode prog_1_method_37_code 67 = .ok (.iconst 0, 1) := by decide +kernel
theorem d_PS_readEnvironment_68 : decode prog_1_method_37_code 68 = .ok (.istore_n 3, 1) := by decide +kernel
theorem d_PS_readEnvironment_69 : decode prog_1_method_37_code 69 = .ok (.iload_n 3, 1) := by decide +kernel
theorem d_PS_readEnvironment_70 : decode prog_1_method_37_code 70 = .ok (.bipush 8, 2) := by decide +kernel
theorem d_PS_readEnvironment_72 : decode prog_1_method_37_code 72 = .ok (.if_icmp .ge 31, 3) := by decide +kernel
theorem d_PS_readEnvironment_75 : decode prog_1_method_37_code 75 = .ok (.aload_n 0, 1) := by decide +kernel
theorem d_PS_readEnvironment_76 : decode prog_1_method_37_code 76 = .ok (.getfield 61, 3) := by decide +kernel
theorem d_PS_readEnvironment_79 : decode prog_1_method_37_code 79 = .ok (.iload_n 3, 1) := by decide +kernel
theorem d_PS_readEnvironment_80 : decode prog_1_method_37_code 80 = .ok (.iload_n 2, 1) := by decide +kernel
theorem d_PS_readEnvironment_81 : decode prog_1_method_37_code 81 = .ok (.iconst 2, 1) := by decide +kernel
theorem d_PS_readEnvironment_82 : decode prog_1_method_37_code 82 = .ok (.iload_n 3, 1) := by decide +kernel
theorem d_PS_readEnvironment_83 : decode prog_1_method_37_code 83 = .ok (.imul, 1) := by decide +kernel
theorem d_PS_readEnvironment_84 : decode prog_1_method_37_code 84 = .ok (.ishr, 1) := by decide +kernel
theorem d_PS_readEnvironment_85 : decode prog_1_method_37_code 85 = .ok (.iconst 3, 1) := by decide +kernel
theorem d_PS_readEnvironment_86 : decode prog_1_method_37_code 86 = .ok (.iand, 1) := by decide +kernel
theorem d_PS_readEnvironment_87 : decode prog_1_method_37_code 87 = .ok (.iconst 3, 1) := by decide +kernel
theorem d_PS_readEnvironment_88 : decode prog_1_method_37_code 88 = .ok (.if_icmp .ne 7, 3) := by decide +kernel
theorem d_PS_readEnvironment_91 : decode prog_1_method_37_code 91 = .ok (.iconst 1, 1) := by decide +kernel
theorem d_PS_readEnvironment_92 : decode prog_1_method_37_code 92 = .ok (.goto 4, 3) := by decide +kernel
theorem d_PS_readEnvironment_95 : decode prog_1_method_37_code 95 = .ok (.iconst 0, 1) := by decide +kernel
theorem d_PS_readEnvironment_96 : decode prog_1_method_37_code 96 = .ok (.bastore, 1) := by decide +kernel
theorem d_PS_readEnvironment_97 : decode prog_1_method_37_code 97 = .ok (.iinc 3 1, 3) := by decide +kernel
theorem d_PS_readEnvironment_100 : decode prog_1_method_37_code 100 = .ok (.goto (-31), 3) := by decide +kernel
theorem d_PS_readEnvironment_103 : decode prog_1_method_37_code 103 = .ok (.aload_n 0, 1) := by decide +kernel
theorem d_PS_readEnvironment_104 : decode prog_1_method_37_code 104 = .ok (.getfield 10, 3) := by decide +kernel
theorem d_PS_readEnvironment_107 : decode prog_1_method_37_code 107 = .ok (.bipush 8, 2) := by decide +kernel
theorem d_PS_readEnvironment_109 : decode prog_1_method_37_code 109 = .ok (.iconst 2, 1) := by decide +kernel
theorem d_PS_readEnvironment_110 : decode prog_1_method_37_code 110 = .ok (.invokevirtual 95, 3) := by decide +kernel
theorem d_PS_readEnvironment_113 : decode prog_1_method_37_code 113 = .ok (.l2i, 1) := by decide +kernel
theorem d_PS_readEnvironment_114 : decode prog_1_method_37_code 114 = .ok (.istore_n 3, 1) := by decide +kernel
theorem d_PS_readEnvironment_115 : decode prog_1_method_37_code 115 = .ok (.aload_n 0, 1) := by decide +kernel
theorem d_PS_readEnvironment_116 : decode prog_1_method_37_code 116 = .ok (.iload_n 3, 1) := by decide +kernel
theorem d_PS_readEnvironment_117 : decode prog_1_method_37_code 117 = .ok (.sipush 2047, 3) := by decide +kernel
theorem d_PS_readEnvironment_120 : decode prog_1_method_37_code 120 = .ok (.iand, 1) := by decide +kernel
theorem d_PS_readEnvironment_121 : decode prog_1_method_37_code 121 = .ok (.putfield 137, 3) := by decide +kernel
theorem d_PS_readEnvironment_124 : decode prog_1_method_37_code 124 = .ok (.aload_n 0, 1) := by decide +kernel
theorem d_PS_readEnvironment_125 : decode prog_1_method_37_code 125 = .ok (.iload_n 3, 1) := by decide +kernel
theorem d_PS_readEnvironment_126 : decode prog_1_method_37_code 126 = .ok (.bipush 12, 2) := by decide +kernel
theorem d_PS_readEnvironment_128 : decode prog_1_method_37_code 128 = .ok (.ishr, 1) := by decide +kernel
theorem d_PS_readEnvironment_129 : decode prog_1_method_37_code 129 = .ok (.bipush 16, 2) := by decide +kernel
theorem d_PS_readEnvironment_131 : decode prog_1_method_37_code 131 = .ok (.ishl, 1) := by decide +kernel
theorem d_PS_readEnvironment_132 : decode prog_1_method_37_code 132 = .ok (.aload_n 0, 1) := by decide +kernel
theorem d_PS_readEnvironment_133 : decode prog_1_method_37_code 133 = .ok (.getfield 10, 3) := by decide +kernel
theorem d_PS_readEnvironment_136 : decode prog_1_method_37_code 136 = .ok (.bipush 6, 2) := by decide +kernel
theorem d_PS_readEnvironment_138 : decode prog_1_method_37_code 138 = .ok (.iconst 2, 1) := by decide +kernel
theorem d_PS_readEnvironment_139 : decode prog_1_method_37_code 139 = .ok (.invokevirtual 95, 3) := by decide +kernel
theorem d_PS_readEnvironment_142 : decode prog_1_method_37_code 142 = .ok (.l2i, 1) := by decide +kernel
theorem d_PS_readEnvironment_143 : decode prog_1_method_37_code 143 = .ok (.ior, 1) := by decide +kernel
theorem d_PS_readEnvironment_144 : decode prog_1_method_37_code 144 = .ok (.putfield 140, 3) := by decide +kernel
theorem d_PS_readEnvironment_147 : decode prog_1_method_37_code 147 = .ok (.aload_n 0, 1) := by decide +kernel
theorem d_PS_readEnvironment_148 : decode prog_1_method_37_code 148 = .ok (.aload_n 0, 1) := by decide +kernel
theorem d_PS_readEnvironment_149 : decode prog_1_method_37_code 149 = .ok (.getfield 10, 3) := by decide +kernel
theorem d_PS_readEnvironment_152 : decode prog_1_method_37_code 152 = .ok (.bipush 12, 2) := by decide +kernel
theorem d_PS_readEnvironment_154 : decode prog_1_method_37_code 154 = .ok (.iconst 2, 1) := by decide +kernel
theorem d_PS_readEnvironment_155 : decode prog_1_method_37_code 155 = .ok (.invokevirtual 95, 3) := by decide +kernel
theorem d_PS_readEnvironment_158 : decode prog_1_method_37_code 158 = .ok (.bipush 12, 2) := by decide +kernel
theorem d_PS_readEnvironment_160 : decode prog_1_method_37_code 160 = .ok (.lshr, 1) := by decide +kernel
theorem d_PS_readEnvironment_161 : decode prog_1_method_37_code 161 = .ok (.l2i, 1) := by decide +kernel
theorem d_PS_readEnvironment_162 : decode prog_1_method_37_code 162 = .ok (.bipush 16, 2) := by decide +kernel
theorem d_PS_readEnvironment_164 : decode prog_1_method_37_code 164 = .ok (.ishl, 1) := by decide +kernel
theorem d_PS_readEnvironment_165 : decode prog_1_method_37_code 165 = .ok (.aload_n 0, 1) := by decide +kernel
theorem d_PS_readEnvironment_166 : decode prog_1_method_37_code 166 = .ok (.getfield 10, 3) := by decide +kernel
theorem d_PS_readEnvironment_169 : decode prog_1_method_37_code 169 = .ok (.bipush 10, 2) := by decide +kernel
theorem d_PS_readEnvironment_171 : decode prog_1_method_37_code 171 = .ok (.iconst 2, 1) := by decide +kernel
theorem d_PS_readEnvironment_172 : decode prog_1_method_37_code 172 = .ok (.invokevirtual 95, 3) := by decide +kernel
theorem d_PS_readEnvironment_175 : decode prog_1_method_37_code 175 = .ok (.l2i, 1) := by decide +kernel
theorem d_PS_readEnvironment_176 : decode prog_1_method_37_code 176 = .ok (.ior, 1) := by decide +kernel
theorem d_PS_readEnvironment_177 : decode prog_1_method_37_code 177 = .ok (.putfield 143, 3) := by decide +kernel
theorem d_PS_readEnvironment_180 : decode prog_1_method_37_code 180 = .ok (.return_, 1) := by decide +kernel
theorem d_PS_place_0 : decode prog_1_method_12_code 0 = .ok (.aload_n 0, 1) := by decide +kernel
theorem d_PS_place_1 : decode prog_1_method_12_code 1 = .ok (.getfield 183, 3) := by decide +kernel
theorem d_PS_place_4 : decode prog_1_method_12_code 4 = .ok (.iload_n 1, 1) := by decide +kernel
theorem d_PS_place_5 : decode prog_1_method_12_code 5 = .ok (.iadd, 1) := by decide +kernel
theorem d_PS_place_6 : decode prog_1_method_12_code 6 = .ok (.bipush 7, 2) := by decide +kernel
theorem d_PS_place_8 : decode prog_1_method_12_code 8 = .ok (.iand, 1) := by decide +kernel
theorem d_PS_place_9 : decode prog_1_method_12_code 9 = .ok (.ireturn, 1) := by decide +kernel
theorem d_PS_readRegisters_0 : decode prog_1_method_39_code 0 = .ok (.iconst 0, 1) := by decide +kernel
theorem d_PS_readRegisters_1 : decode prog_1_method_39_code 1 = .ok (.istore_n 1, 1) := by decide +kernel
theorem d_PS_readRegisters_2 : decode prog_1_method_39_code 2 = .ok (.iload_n 1, 1) := by decide +kernel
theorem d_PS_readRegisters_3 : decode prog_1_method_39_code 3 = .ok (.bipush 8, 2) := by decide +kernel
theorem d_PS_readRegisters_5 : decode prog_1_method_39_code 5 = .ok (.if_icmp .ge 33, 3) := by decide +kernel
theorem d_PS_readRegisters_8 : decode prog_1_method_39_code 8 = .ok (.aload_n 0, 1) := by decide +kernel
theorem d_PS_readRegisters_9 : decode prog_1_method_39_code 9 = .ok (.getfield 44, 3) := by decide +kernel
theorem d_PS_readRegisters_12 : decode prog_1_method_39_code 12 = .ok (.bipush 14, 2) := by decide +kernel
theorem d_PS_readRegisters_14 : decode prog_1_method_39_code 14 = .ok (.iload_n 1, 1) := by decide +kernel
theorem d_PS_readRegisters_15 : decode prog_1_method_39_code 15 = .ok (.bipush 10, 2) := by decide +kernel
theorem d_PS_readRegisters_17 : decode prog_1_method_39_code 17 = .ok (.imul, 1) := by decide +kernel
theorem d_PS_readRegisters_18 : decode prog_1_method_39_code 18 = .ok (.iadd, 1) := by decide +kernel
theorem d_PS_readRegisters_19 : decode prog_1_method_39_code 19 = .ok (.aload_n 0, 1) := by decide +kernel
theorem d_PS_readRegisters_20 : decode prog_1_method_39_code 20 = .ok (.getfield 57, 3) := by decide +kernel
theorem d_PS_readRegisters_23 : decode prog_1_method_39_code 23 = .ok (.aload_n 0, 1) := by decide +kernel
theorem d_PS_readRegisters_24 : decode prog_1_method_39_code 24 = .ok (.iload_n 1, 1) := by decide +kernel
theorem d_PS_readRegisters_25 : decode prog_1_method_39_code 25 = .ok (.invokevirtual 168, 3) := by decide +kernel
theorem d_PS_readRegisters_28 : decode prog_1_method_39_code 28 = .ok (.aaload, 1) := by decide +kernel
theorem d_PS_readRegisters_29 : decode prog_1_method_39_code 29 = .ok (.invokevirtual 340, 3) := by decide +kernel
theorem d_PS_readRegisters_32 : decode prog_1_method_39_code 32 = .ok (.iinc 1 1, 3) := by decide +kernel
theorem d_PS_readRegisters_35 : decode prog_1_method_39_code 35 = .ok (.goto (-33), 3) := by decide +kernel
theorem d_PS_readRegisters_38 : decode prog_1_method_39_code 38 = .ok (.return_, 1) := by decide +kernel
theorem d_PS_status_0 : decode prog_1_method_13_code 0 = .ok (.aload_n 0, 1) := by decide +kernel
theorem d_PS_status_1 : decode prog_1_method_13_code 1 = .ok (.getfield 131, 3) := by decide +kernel
theorem d_PS_status_4 : decode prog_1_method_13_code 4 = .ok (.aload_n 0, 1) := by decide +kernel
theorem d_PS_status_5 : decode prog_1_method_13_code 5 = .ok (.getfield 19, 3) := by decide +kernel
theorem d_PS_status_8 : decode prog_1_method_13_code 8 = .ok (.getfield 152, 3) := by decide +kernel
theorem d_PS_status_11 : decode prog_1_method_13_code 11 = .ok (.iconst (-1), 1) := by decide +kernel
theorem d_PS_status_12 : decode prog_1_method_13_code 12 = .ok (.ixor, 1) := by decide +kernel
theorem d_PS_status_13 : decode prog_1_method_13_code 13 = .ok (.iand, 1) := by decide +kernel
theorem d_PS_status_14 : decode prog_1_method_13_code 14 = .ok (.ifCond .eq 9, 3) := by decide +kernel
theorem d_PS_status_17 : decode prog_1_method_13_code 17 = .ok (.sipush 128, 3) := by decide +kernel
theorem d_PS_status_20 : decode prog_1_method_13_code 20 = .ok (.goto 4, 3) := by decide +kernel
theorem d_PS_status_23 : decode prog_1_method_13_code 23 = .ok (.iconst 0, 1) := by decide +kernel
theorem d_PS_status_24 : decode prog_1_method_13_code 24 = .ok (.istore_n 1, 1) := by decide +kernel
theorem d_PS_status_25 : decode prog_1_method_13_code 25 = .ok (.aload_n 0, 1) := by decide +kernel
theorem d_PS_status_26 : decode prog_1_method_13_code 26 = .ok (.getfield 131, 3) := by decide +kernel
theorem d_PS_status_29 : decode prog_1_method_13_code 29 = .ok (.iload_n 1, 1) := by decide +kernel
theorem d_PS_status_30 : decode prog_1_method_13_code 30 = .ok (.ior, 1) := by decide +kernel
theorem d_PS_status_31 : decode prog_1_method_13_code 31 = .ok (.aload_n 0, 1) := by decide +kernel
theorem d_PS_status_32 : decode prog_1_method_13_code 32 = .ok (.getfield 185, 3) := by decide +kernel
theorem d_PS_status_35 : decode prog_1_method_13_code 35 = .ok (.ior, 1) := by decide +kernel
theorem d_PS_status_36 : decode prog_1_method_13_code 36 = .ok (.aload_n 0, 1) := by decide +kernel
theorem d_PS_status_37 : decode prog_1_method_13_code 37 = .ok (.getfield 183, 3) := by decide +kernel
theorem d_PS_status_40 : decode prog_1_method_13_code 40 = .ok (.bipush 11, 2) := by decide +kernel
theorem d_PS_status_42 : decode prog_1_method_13_code 42 = .ok (.ishl, 1) := by decide +kernel
theorem d_PS_status_43 : decode prog_1_method_13_code 43 = .ok (.ior, 1) := by decide +kernel
theorem d_PS_status_44 : decode prog_1_method_13_code 44 = .ok (.ireturn, 1) := by decide +kernel
theorem d_PS_tags_0 : decode prog_1_method_14_code 0 = .ok (.iconst 0, 1) := by decide +kernel
theorem d_PS_tags_1 : decode prog_1_method_14_code 1 = .ok (.istore_n 1, 1) := by decide +kernel
theorem d_PS_tags_2 : decode prog_1_method_14_code 2 = .ok (.bipush 7, 2) := by decide +kernel
theorem d_PS_tags_4 : decode prog_1_method_14_code 4 = .ok (.istore_n 2, 1) := by decide +kernel
theorem d_PS_tags_5 : decode prog_1_method_14_code 5 = .ok (.iload_n 2, 1) := by decide +kernel
theorem d_PS_tags_6 : decode prog_1_method_14_code 6 = .ok (.ifCond .lt 36, 3) := by decide +kernel
theorem d_PS_tags_9 : decode prog_1_method_14_code 9 = .ok (.iload_n 1, 1) := by decide +kernel
theorem d_PS_tags_10 : decode prog_1_method_14_code 10 = .ok (.iconst 2, 1) := by decide +kernel
theorem d_PS_tags_11 : decode prog_1_method_14_code 11 = .ok (.ishl, 1) := by decide +kernel
theorem d_PS_tags_12 : decode prog_1_method_14_code 12 = .ok (.aload_n 0, 1) := by decide +kernel
theorem d_PS_tags_13 : decode prog_1_method_14_code 13 = .ok (.getfield 61, 3) := by decide +kernel
theorem d_PS_tags_16 : decode prog_1_method_14_code 16 = .ok (.iload_n 2, 1) := by decide +kernel
theorem d_PS_tags_17 : decode prog_1_method_14_code 17 = .ok (.baload, 1) := by decide +kernel
theorem d_PS_tags_18 : decode prog_1_method_14_code 18 = .ok (.ifCond .eq 7, 3) := by decide +kernel
theorem d_PS_tags_21 : decode prog_1_method_14_code 21 = .ok (.iconst 3, 1) := by decide +kernel
theorem d_PS_tags_22 : decode prog_1_method_14_code 22 = .ok (.goto 12, 3) := by decide +kernel
theorem d_PS_tags_25 : decode prog_1_method_14_code 25 = .ok (.aload_n 0, 1) := by decide +kernel
theorem d_PS_tags_26 : decode prog_1_method_14_code 26 = .ok (.getfield 57, 3) := by decide +kernel
theorem d_PS_tags_29 : decode prog_1_method_14_code 29 = .ok (.iload_n 2, 1) := by decide +kernel
theorem d_PS_tags_30 : decode prog_1_method_14_code 30 = .ok (.aaload, 1) := by decide +kernel
theorem d_PS_tags_31 : decode prog_1_method_14_code 31 = .ok (.invokevirtual 188, 3) := by decide +kernel
theorem d_PS_tags_34 : decode prog_1_method_14_code 34 = .ok (.ior, 1) := by decide +kernel
theorem d_PS_tags_35 : decode prog_1_method_14_code 35 = .ok (.istore_n 1, 1) := by decide +kernel
theorem d_PS_tags_36 : decode prog_1_method_14_code 36 = .ok (.iinc 2 (-1), 3) := by decide +kernel
theorem d_PS_tags_39 : decode prog_1_method_14_code 39 = .ok (.goto (-34), 3) := by decide +kernel
theorem d_PS_tags_42 : decode prog_1_method_14_code 42 = .ok (.iload_n 1, 1) := by decide +kernel
theorem d_PS_tags_43 : decode prog_1_method_14_code 43 = .ok (.ireturn, 1) := by decide +kernel
theorem d_PS_writeEnvironment_0 : decode prog_1_method_36_code 0 = .ok (.aload_n 0, 1) := by decide +kernel
theorem d_PS_writeEnvironment_1 : decode prog_1_method_36_code 1 = .ok (.getfield 10, 3) := by decide +kernel
theorem d_PS_writeEnvironment_4 : decode prog_1_method_36_code 4 = .ok (.iconst 0, 1) := by decide +kernel
theorem d_PS_writeEnvironment_5 : decode prog_1_method_36_code 5 = .ok (.iconst 2, 1) := by decide +kernel
theorem d_PS_writeEnvironment_6 : decode prog_1_method_36_code 6 = .ok (.aload_n 0, 1) := by decide +kernel
theorem d_PS_writeEnvironment_7 : decode prog_1_method_36_code 7 = .ok (.getfield 19, 3) := by decide +kernel
theorem d_PS_writeEnvironment_10 : decode prog_1_method_36_code 10 = .ok (.getfield 152, 3) := by decide +kernel
theorem d_PS_writeEnvironment_13 : decode prog_1_method_36_code 13 = .ok (.i2l, 1) := by decide +kernel
theorem d_PS_writeEnvironment_14 : decode prog_1_method_36_code 14 = .ok (.invokevirtual 89, 3) := by decide +kernel
theorem d_PS_writeEnvironment_17 : decode prog_1_method_36_code 17 = .ok (.aload_n 0, 1) := by decide +kernel
theorem d_PS_writeEnvironment_18 : decode prog_1_method_36_code 18 = .ok (.getfield 10, 3) := by decide +kernel
theorem d_PS_writeEnvironment_21 : decode prog_1_method_36_code 21 = .ok (.iconst 2, 1) := by decide +kernel
theorem d_PS_writeEnvironment_22 : decode prog_1_method_36_code 22 = .ok (.iconst 2, 1) := by decide +kernel
theorem d_PS_writeEnvironment_23 : decode prog_1_method_36_code 23 = .ok (.aload_n 0, 1) := by decide +kernel
theorem d_PS_writeEnvironment_24 : decode prog_1_method_36_code 24 = .ok (.invokevirtual 155, 3) := by decide +kernel
theorem d_PS_writeEnvironment_27 : decode prog_1_method_36_code 27 = .ok (.i2l, 1) := by decide +kernel
theorem d_PS_writeEnvironment_28 : decode prog_1_method_36_code 28 = .ok (.invokevirtual 89, 3) := by decide +kernel
theorem d_PS_writeEnvironment_31 : decode prog_1_method_36_code 31 = .ok (.aload_n 0, 1) := by decide +kernel
theorem d_PS_writeEnvironment_32 : decode prog_1_method_36_code 32 = .ok (.getfield 10, 3) := by decide +kernel
theorem d_PS_writeEnvironment_35 : decode prog_1_method_36_code 35 = .ok (.iconst 4, 1) := by decide +kernel
theorem d_PS_writeEnvironment_36 : decode prog_1_method_36_code 36 = .ok (.iconst 2, 1) := by decide +kernel
theorem d_PS_writeEnvironment_37 : decode prog_1_method_36_code 37 = .ok (.aload_n 0, 1) := by decide +kernel
theorem d_PS_writeEnvironment_38 : decode prog_1_method_36_code 38 = .ok (.invokevirtual 159, 3) := by decide +kernel
theorem d_PS_writeEnvironment_41 : decode prog_1_method_36_code 41 = .ok (.i2l, 1) := by decide +kernel
theorem d_PS_writeEnvironment_42 : decode prog_1_method_36_code 42 = .ok (.invokevirtual 89, 3) := by decide +kernel
theorem d_PS_writeEnvironment_45 : decode prog_1_method_36_code 45 = .ok (.aload_n 0, 1) := by decide +kernel
theorem d_PS_writeEnvironment_46 : decode prog_1_method_36_code 46 = .ok (.getfield 10, 3) := by decide +kernel
theorem d_PS_writeEnvironment_49 : decode prog_1_method_36_code 49 = .ok (.bipush 6, 2) := by decide +kernel
theorem d_PS_writeEnvironment_51 : decode prog_1_method_36_code 51 = .ok (.iconst 2, 1) := by decide +kernel
theorem d_PS_writeEnvironment_52 : decode prog_1_method_36_code 52 = .ok (.aload_n 0, 1) := by decide +kernel
theorem d_PS_writeEnvironment_53 : decode prog_1_method_36_code 53 = .ok (.getfield 140, 3) := by decide +kernel
theorem d_PS_writeEnvironment_56 : decode prog_1_method_36_code 56 = .ok (.i2l, 1) := by decide +kernel
theorem d_PS_writeEnvironment_57 : decode prog_1_method_36_code 57 = .ok (.invokevirtual 89, 3) := by decide +kernel
theorem d_PS_writeEnvironment_60 : decode prog_1_method_36_code 60 = .ok (.aload_n 0, 1) := by decide +kernel
theorem d_PS_writeEnvironment_61 : decode prog_1_method_36_code 61 = .ok (.getfield 10, 3) := by decide +kernel
theorem d_PS_writeEnvironment_64 : decode prog_1_method_36_code 64 = .ok (.bipush 8, 2) := by decide +kernel
theorem d_PS_writeEnvironment_66 : decode prog_1_method_36_code 66 = .ok (.iconst 2, 1) := by decide +kernel
theorem d_PS_writeEnvironment_67 : decode prog_1_method_36_code 67 = .ok (.aload_n 0, 1) := by decide +kernel
theorem d_PS_writeEnvironment_68 : decode prog_1_method_36_code 68 = .ok (.getfield 140, 3) := by decide +kernel
theorem d_PS_writeEnvironment_71 : decode prog_1_method_36_code 71 = .ok (.bipush 16, 2) := by decide +kernel
theorem d_PS_writeEnvironment_73 : decode prog_1_method_36_code 73 = .ok (.ishr, 1) := by decide +kernel
theorem d_PS_writeEnvironment_74 : decode prog_1_method_36_code 74 = .ok (.bipush 12, 2) := by decide +kernel
theorem d_PS_writeEnvironment_76 : decode prog_1_method_36_code 76 = .ok (.ishl, 1) := by decide +kernel
theorem d_PS_writeEnvironment_77 : decode prog_1_method_36_code 77 = .ok (.aload_n 0, 1) := by decide +kernel
theorem d_PS_writeEnvironment_78 : decode prog_1_method_36_code 78 = .ok (.getfield 137, 3) := by decide +kernel
theorem d_PS_writeEnvironment_81 : decode prog_1_method_36_code 81 = .ok (.ior, 1) := by decide +kernel
theorem d_PS_writeEnvironment_82 : decode prog_1_method_36_code 82 = .ok (.i2l, 1) := by decide +kernel
theorem d_PS_writeEnvironment_83 : decode prog_1_method_36_code 83 = .ok (.invokevirtual 89, 3) := by decide +kernel
theorem d_PS_writeEnvironment_86 : decode prog_1_method_36_code 86 = .ok (.aload_n 0, 1) := by decide +kernel
theorem d_PS_writeEnvironment_87 : decode prog_1_method_36_code 87 = .ok (.getfield 10, 3) := by decide +kernel
theorem d_PS_writeEnvironment_90 : decode prog_1_method_36_code 90 = .ok (.bipush 10, 2) := by decide +kernel
theorem d_PS_writeEnvironment_92 : decode prog_1_method_36_code 92 = .ok (.iconst 2, 1) := by decide +kernel
theorem d_PS_writeEnvironment_93 : decode prog_1_method_36_code 93 = .ok (.aload_n 0, 1) := by decide +kernel
theorem d_PS_writeEnvironment_94 : decode prog_1_method_36_code 94 = .ok (.getfield 143, 3) := by decide +kernel
theorem d_PS_writeEnvironment_97 : decode prog_1_method_36_code 97 = .ok (.i2l, 1) := by decide +kernel
theorem d_PS_writeEnvironment_98 : decode prog_1_method_36_code 98 = .ok (.invokevirtual 89, 3) := by decide +kernel
theorem d_PS_writeEnvironment_101 : decode prog_1_method_36_code 101 = .ok (.aload_n 0, 1) := by decide +kernel
theorem d_PS_writeEnvironment_102 : decode prog_1_method_36_code 102 = .ok (.getfield 10, 3) := by decide +kernel
theorem d_PS_writeEnvironment_105 : decode prog_1_method_36_code 105 = .ok (.bipush 12, 2) := by decide +kernel
theorem d_PS_writeEnvironment_107 : decode prog_1_method_36_code 107 = .ok (.iconst 2, 1) := by decide +kernel
theorem d_PS_writeEnvironment_108 : decode prog_1_method_36_code 108 = .ok (.aload_n 0, 1) := by decide +kernel
theorem d_PS_writeEnvironment_109 : decode prog_1_method_36_code 109 = .ok (.getfield 143, 3) := by decide +kernel
theorem d_PS_writeEnvironment_112 : decode prog_1_method_36_code 112 = .ok (.bipush 16, 2) := by decide +kernel
theorem d_PS_writeEnvironment_114 : decode prog_1_method_36_code 114 = .ok (.ishr, 1) := by decide +kernel
theorem d_PS_writeEnvironment_115 : decode prog_1_method_36_code 115 = .ok (.bipush 12, 2) := by decide +kernel
theorem d_PS_writeEnvironment_117 : decode prog_1_method_36_code 117 = .ok (.ishl, 1) := by decide +kernel
theorem d_PS_writeEnvironment_118 : decode prog_1_method_36_code 118 = .ok (.i2l, 1) := by decide +kernel
theorem d_PS_writeEnvironment_119 : decode prog_1_method_36_code 119 = .ok (.invokevirtual 89, 3) := by decide +kernel
theorem d_PS_writeEnvironment_122 : decode prog_1_method_36_code 122 = .ok (.return_, 1) := by decide +kernel
theorem d_PS_writeRegisters_0 : decode prog_1_method_38_code 0 = .ok (.iconst 0, 1) := by decide +kernel
theorem d_PS_writeRegisters_1 : decode prog_1_method_38_code 1 = .ok (.istore_n 1, 1) := by decide +kernel
theorem d_PS_writeRegisters_2 : decode prog_1_method_38_code 2 = .ok (.iload_n 1, 1) := by decide +kernel
theorem d_PS_writeRegisters_3 : decode prog_1_method_38_code 3 = .ok (.bipush 8, 2) := by decide +kernel
theorem d_PS_writeRegisters_5 : decode prog_1_method_38_code 5 = .ok (.if_icmp .ge 33, 3) := by decide +kernel
theorem d_PS_writeRegisters_8 : decode prog_1_method_38_code 8 = .ok (.aload_n 0, 1) := by decide +kernel
theorem d_PS_writeRegisters_9 : decode prog_1_method_38_code 9 = .ok (.getfield 51, 3) := by decide +kernel
theorem d_PS_writeRegisters_12 : decode prog_1_method_38_code 12 = .ok (.bipush 14, 2) := by decide +kernel
theorem d_PS_writeRegisters_14 : decode prog_1_method_38_code 14 = .ok (.iload_n 1, 1) := by decide +kernel
theorem d_PS_writeRegisters_15 : decode prog_1_method_38_code 15 = .ok (.bipush 10, 2) := by decide +kernel
theorem d_PS_writeRegisters_17 : decode prog_1_method_38_code 17 = .ok (.imul, 1) := by decide +kernel
theorem d_PS_writeRegisters_18 : decode prog_1_method_38_code 18 = .ok (.iadd, 1) := by decide +kernel
theorem d_PS_writeRegisters_19 : decode prog_1_method_38_code 19 = .ok (.aload_n 0, 1) := by decide +kernel
theorem d_PS_writeRegisters_20 : decode prog_1_method_38_code 20 = .ok (.getfield 57, 3) := by decide +kernel
theorem d_PS_writeRegisters_23 : decode prog_1_method_38_code 23 = .ok (.aload_n 0, 1) := by decide +kernel
theorem d_PS_writeRegisters_24 : decode prog_1_method_38_code 24 = .ok (.iload_n 1, 1) := by decide +kernel
theorem d_PS_writeRegisters_25 : decode prog_1_method_38_code 25 = .ok (.invokevirtual 168, 3) := by decide +kernel
theorem d_PS_writeRegisters_28 : decode prog_1_method_38_code 28 = .ok (.aaload, 1) := by decide +kernel
theorem d_PS_writeRegisters_29 : decode prog_1_method_38_code 29 = .ok (.invokevirtual 337, 3) := by decide +kernel
theorem d_PS_writeRegisters_32 : decode prog_1_method_38_code 32 = .ok (.iinc 1 1, 3) := by decide +kernel
theorem d_PS_writeRegisters_35 : decode prog_1_method_38_code 35 = .ok (.goto (-33), 3) := by decide +kernel
theorem d_PS_writeRegisters_38 : decode prog_1_method_38_code 38 = .ok (.return_, 1) := by decide +kernel
theorem d_PS_doWithWords_0 : decode prog_1_method_17_code 0 = .ok (.iload_n 1, 1) := by decide +kernel
theorem d_PS_doWithWords_1 : decode prog_1_method_17_code 1 = .ok (.iconst 1, 1) := by decide +kernel
theorem d_PS_doWithWords_2 : decode prog_1_method_17_code 2 = .ok (.if_icmp .ne 7, 3) := by decide +kernel
theorem d_PS_doWithWords_5 : decode prog_1_method_17_code 5 = .ok (.iconst 1, 1) := by decide +kernel
theorem d_PS_doWithWords_6 : decode prog_1_method_17_code 6 = .ok (.goto 4, 3) := by decide +kernel
theorem d_PS_doWithWords_9 : decode prog_1_method_17_code 9 = .ok (.iconst 0, 1) := by decide +kernel
theorem d_PS_doWithWords_10 : decode prog_1_method_17_code 10 = .ok (.istore_n 3, 1) := by decide +kernel
theorem d_PS_doWithWords_11 : decode prog_1_method_17_code 11 = .ok (.iload_n 2, 1) := by decide +kernel
theorem d_PS_doWithWords_12 : decode prog_1_method_17_code 12 = .ok (.tableswitch 82 4 6 #[28, 43, 63], 28) := by decide +kernel
theorem d_PS_doWithWords_40 : decode prog_1_method_17_code 40 = .ok (.aload_n 0, 1) := by decide +kernel
theorem d_PS_doWithWords_41 : decode prog_1_method_17_code 41 = .ok (.invokevirtual 219, 3) := by decide +kernel
theorem d_PS_doWithWords_44 : decode prog_1_method_17_code 44 = .ok (.iload_n 3, 1) := by decide +kernel
theorem d_PS_doWithWords_45 : decode prog_1_method_17_code 45 = .ok (.ifCond .ne 78, 3) := by decide +kernel
theorem d_PS_doWithWords_48 : decode prog_1_method_17_code 48 = .ok (.aload_n 0, 1) := by decide +kernel
theorem d_PS_doWithWords_49 : decode prog_1_method_17_code 49 = .ok (.invokevirtual 222, 3) := by decide +kernel
theorem d_PS_doWithWords_52 : decode prog_1_method_17_code 52 = .ok (.goto 71, 3) := by decide +kernel
theorem d_PS_doWithWords_55 : decode prog_1_method_17_code 55 = .ok (.aload_n 0, 1) := by decide +kernel
theorem d_PS_doWithWords_56 : decode prog_1_method_17_code 56 = .ok (.getfield 19, 3) := by decide +kernel
theorem d_PS_doWithWords_59 : decode prog_1_method_17_code 59 = .ok (.aload_n 0, 1) := by decide +kernel
theorem d_PS_doWithWords_60 : decode prog_1_method_17_code 60 = .ok (.getfield 10, 3) := by decide +kernel
theorem d_PS_doWithWords_63 : decode prog_1_method_17_code 63 = .ok (.iconst 0, 1) := by decide +kernel
theorem d_PS_doWithWords_64 : decode prog_1_method_17_code 64 = .ok (.iconst 2, 1) := by decide +kernel
theorem d_PS_doWithWords_65 : decode prog_1_method_17_code 65 = .ok (.invokevirtual 95, 3) := by decide +kernel
theorem d_PS_doWithWords_68 : decode prog_1_method_17_code 68 = .ok (.l2i, 1) := by decide +kernel
theorem d_PS_doWithWords_69 : decode prog_1_method_17_code 69 = .ok (.putfield 152, 3) := by decide +kernel
theorem d_PS_doWithWords_72 : decode prog_1_method_17_code 72 = .ok (.goto 51, 3) := by decide +kernel
theorem d_PS_doWithWords_75 : decode prog_1_method_17_code 75 = .ok (.aload_n 0, 1) := by decide +kernel
theorem d_PS_doWithWords_76 : decode prog_1_method_17_code 76 = .ok (.invokevirtual 225, 3) := by decide +kernel
theorem d_PS_doWithWords_79 : decode prog_1_method_17_code 79 = .ok (.iload_n 3, 1) := by decide +kernel
theorem d_PS_doWithWords_80 : decode prog_1_method_17_code 80 = .ok (.ifCond .ne 43, 3) := by decide +kernel
theorem d_PS_doWithWords_83 : decode prog_1_method_17_code 83 = .ok (.aload_n 0, 1) := by decide +kernel
theorem d_PS_doWithWords_84 : decode prog_1_method_17_code 84 = .ok (.invokevirtual 228, 3) := by decide +kernel
theorem d_PS_doWithWords_87 : decode prog_1_method_17_code 87 = .ok (.aload_n 0, 1) := by decide +kernel
theorem d_PS_doWithWords_88 : decode prog_1_method_17_code 88 = .ok (.invokevirtual 79, 3) := by decide +kernel
theorem d_PS_doWithWords_91 : decode prog_1_method_17_code 91 = .ok (.goto 32, 3) := by decide +kernel
theorem d_PS_doWithWords_94 : decode prog_1_method_17_code 94 = .ok (.aload_n 0, 1) := by decide +kernel
theorem d_PS_doWithWords_95 : decode prog_1_method_17_code 95 = .ok (.getfield 10, 3) := by decide +kernel
theorem d_PS_doWithWords_98 : decode prog_1_method_17_code 98 = .ok (.iconst 0, 1) := by decide +kernel
theorem d_PS_doWithWords_99 : decode prog_1_method_17_code 99 = .ok (.iconst 2, 1) := by decide +kernel
theorem d_PS_doWithWords_100 : decode prog_1_method_17_code 100 = .ok (.iload_n 3, 1) := by decide +kernel
theorem d_PS_doWithWords_101 : decode prog_1_method_17_code 101 = .ok (.ifCond .eq 14, 3) := by decide +kernel
theorem d_PS_doWithWords_104 : decode prog_1_method_17_code 104 = .ok (.aload_n 0, 1) := by decide +kernel
theorem d_PS_doWithWords_105 : decode prog_1_method_17_code 105 = .ok (.getfield 19, 3) := by decide +kernel
theorem d_PS_doWithWords_108 : decode prog_1_method_17_code 108 = .ok (.getfield 152, 3) := by decide +kernel
theorem d_PS_doWithWords_111 : decode prog_1_method_17_code 111 = .ok (.i2l, 1) := by decide +kernel
theorem d_PS_doWithWords_112 : decode prog_1_method_17_code 112 = .ok (.goto 8, 3) := by decide +kernel
theorem d_PS_doWithWords_115 : decode prog_1_method_17_code 115 = .ok (.aload_n 0, 1) := by decide +kernel
theorem d_PS_doWithWords_116 : decode prog_1_method_17_code 116 = .ok (.invokevirtual 155, 3) := by decide +kernel
theorem d_PS_doWithWords_119 : decode prog_1_method_17_code 119 = .ok (.i2l, 1) := by decide +kernel
theorem d_PS_doWithWords_120 : decode prog_1_method_17_code 120 = .ok (.invokevirtual 89, 3) := by decide +kernel
theorem d_PS_doWithWords_123 : decode prog_1_method_17_code 123 = .ok (.return_, 1) := by decide +kernel
theorem d_PS_need_0 : decode prog_1_method_24_code 0 = .ok (.aload_n 0, 1) := by decide +kernel
theorem d_PS_need_1 : decode prog_1_method_24_code 1 = .ok (.iload_n 1, 1) := by decide +kernel
theorem d_PS_need_2 : decode prog_1_method_24_code 2 = .ok (.invokevirtual 168, 3) := by decide +kernel
theorem d_PS_need_5 : decode prog_1_method_24_code 5 = .ok (.istore_n 3, 1) := by decide +kernel
theorem d_PS_need_6 : decode prog_1_method_24_code 6 = .ok (.aload_n 0, 1) := by decide +kernel
theorem d_PS_need_7 : decode prog_1_method_24_code 7 = .ok (.getfield 61, 3) := by decide +kernel
theorem d_PS_need_10 : decode prog_1_method_24_code 10 = .ok (.iload_n 3, 1) := by decide +kernel
theorem d_PS_need_11 : decode prog_1_method_24_code 11 = .ok (.baload, 1) := by decide +kernel
theorem d_PS_need_12 : decode prog_1_method_24_code 12 = .ok (.ifCond .eq 18, 3) := by decide +kernel
theorem d_PS_need_15 : decode prog_1_method_24_code 15 = .ok (.aload_n 0, 1) := by decide +kernel
theorem d_PS_need_16 : decode prog_1_method_24_code 16 = .ok (.getfield 19, 3) := by decide +kernel
theorem d_PS_need_19 : decode prog_1_method_24_code 19 = .ok (.iconst 1, 1) := by decide +kernel
theorem d_PS_need_20 : decode prog_1_method_24_code 20 = .ok (.invokevirtual 305, 3) := by decide +kernel
theorem d_PS_need_23 : decode prog_1_method_24_code 23 = .ok (.aload_n 2, 1) := by decide +kernel
theorem d_PS_need_24 : decode prog_1_method_24_code 24 = .ok (.invokevirtual 308, 3) := by decide +kernel
theorem d_PS_need_27 : decode prog_1_method_24_code 27 = .ok (.goto 13, 3) := by decide +kernel
theorem d_PS_need_30 : decode prog_1_method_24_code 30 = .ok (.aload_n 2, 1) := by decide +kernel
theorem d_PS_need_31 : decode prog_1_method_24_code 31 = .ok (.aload_n 0, 1) := by decide +kernel
theorem d_PS_need_32 : decode prog_1_method_24_code 32 = .ok (.getfield 57, 3) := by decide +kernel
theorem d_PS_need_35 : decode prog_1_method_24_code 35 = .ok (.iload_n 3, 1) := by decide +kernel
theorem d_PS_need_36 : decode prog_1_method_24_code 36 = .ok (.aaload, 1) := by decide +kernel
theorem d_PS_need_37 : decode prog_1_method_24_code 37 = .ok (.invokevirtual 311, 3) := by decide +kernel
theorem d_PS_need_40 : decode prog_1_method_24_code 40 = .ok (.return_, 1) := by decide +kernel
theorem d_PS_pop_0 : decode prog_1_method_26_code 0 = .ok (.aload_n 0, 1) := by decide +kernel
theorem d_PS_pop_1 : decode prog_1_method_26_code 1 = .ok (.getfield 61, 3) := by decide +kernel
theorem d_PS_pop_4 : decode prog_1_method_26_code 4 = .ok (.aload_n 0, 1) := by decide +kernel
theorem d_PS_pop_5 : decode prog_1_method_26_code 5 = .ok (.getfield 183, 3) := by decide +kernel
theorem d_PS_pop_8 : decode prog_1_method_26_code 8 = .ok (.iconst 1, 1) := by decide +kernel
theorem d_PS_pop_9 : decode prog_1_method_26_code 9 = .ok (.bastore, 1) := by decide +kernel
theorem d_PS_pop_10 : decode prog_1_method_26_code 10 = .ok (.aload_n 0, 1) := by decide +kernel
theorem d_PS_pop_11 : decode prog_1_method_26_code 11 = .ok (.aload_n 0, 1) := by decide +kernel
theorem d_PS_pop_12 : decode prog_1_method_26_code 12 = .ok (.iconst 1, 1) := by decide +kernel
theorem d_PS_pop_13 : decode prog_1_method_26_code 13 = .ok (.invokevirtual 168, 3) := by decide +kernel
theorem d_PS_pop_16 : decode prog_1_method_26_code 16 = .ok (.putfield 183, 3) := by decide +kernel
theorem d_PS_pop_19 : decode prog_1_method_26_code 19 = .ok (.return_, 1) := by decide +kernel
theorem d_PS_compare_0 : decode prog_1_method_31_code 0 = .ok (.aload_n 0, 1) := by decide +kernel
theorem d_PS_compare_1 : decode prog_1_method_31_code 1 = .ok (.getfield 19, 3) := by decide +kernel
theorem d_PS_compare_4 : decode prog_1_method_31_code 4 = .ok (.invokevirtual 201, 3) := by decide +kernel
theorem d_PS_compare_7 : decode prog_1_method_31_code 7 = .ok (.ifCond .eq 4, 3) := by decide +kernel
theorem d_PS_compare_10 : decode prog_1_method_31_code 10 = .ok (.return_, 1) := by decide +kernel
theorem d_PS_compare_11 : decode prog_1_method_31_code 11 = .ok (.aload_n 0, 1) := by decide +kernel
theorem d_PS_compare_12 : decode prog_1_method_31_code 12 = .ok (.getfield 35, 3) := by decide +kernel
theorem d_PS_compare_15 : decode prog_1_method_31_code 15 = .ok (.aload_n 0, 1) := by decide +kernel
theorem d_PS_compare_16 : decode prog_1_method_31_code 16 = .ok (.getfield 66, 3) := by decide +kernel
theorem d_PS_compare_19 : decode prog_1_method_31_code 19 = .ok (.aload_n 0, 1) := by decide +kernel
theorem d_PS_compare_20 : decode prog_1_method_31_code 20 = .ok (.getfield 70, 3) := by decide +kernel
theorem d_PS_compare_23 : decode prog_1_method_31_code 23 = .ok (.aload_n 0, 1) := by decide +kernel
theorem d_PS_compare_24 : decode prog_1_method_31_code 24 = .ok (.getfield 73, 3) := by decide +kernel
theorem d_PS_compare_27 : decode prog_1_method_31_code 27 = .ok (.invokevirtual 320, 3) := by decide +kernel
theorem d_PS_compare_30 : decode prog_1_method_31_code 30 = .ok (.istore_n 2, 1) := by decide +kernel
theorem d_PS_compare_31 : decode prog_1_method_31_code 31 = .ok (.aload_n 0, 1) := by decide +kernel
theorem d_PS_compare_32 : decode prog_1_method_31_code 32 = .ok (.getfield 19, 3) := by decide +kernel
theorem d_PS_compare_35 : decode prog_1_method_31_code 35 = .ok (.invokevirtual 201, 3) := by decide +kernel
theorem d_PS_compare_38 : decode prog_1_method_31_code 38 = .ok (.ifCond .eq 4, 3) := by decide +kernel
theorem d_PS_compare_41 : decode prog_1_method_31_code 41 = .ok (.return_, 1) := by decide +kernel
theorem d_PS_compare_42 : decode prog_1_method_31_code 42 = .ok (.aload_n 0, 1) := by decide +kernel
theorem d_PS_compare_43 : decode prog_1_method_31_code 43 = .ok (.dup, 1) := by decide +kernel
theorem d_PS_compare_44 : decode prog_1_method_31_code 44 = .ok (.getfield 185, 3) := by decide +kernel
theorem d_PS_compare_47 : decode prog_1_method_31_code 47 = .ok (.sipush 512, 3) := by decide +kernel
theorem d_PS_compare_50 : decode prog_1_method_31_code 50 = .ok (.iand, 1) := by decide +kernel
theorem d_PS_compare_51 : decode prog_1_method_31_code 51 = .ok (.putfield 185, 3) := by decide +kernel
theorem d_PS_compare_54 : decode prog_1_method_31_code 54 = .ok (.iload_n 2, 1) := by decide +kernel
theorem d_PS_compare_55 : decode prog_1_method_31_code 55 = .ok (.iconst 2, 1) := by decide +kernel
theorem d_PS_compare_56 : decode prog_1_method_31_code 56 = .ok (.if_icmp .ne 18, 3) := by decide +kernel
theorem d_PS_compare_59 : decode prog_1_method_31_code 59 = .ok (.aload_n 0, 1) := by decide +kernel
theorem d_PS_compare_60 : decode prog_1_method_31_code 60 = .ok (.dup, 1) := by decide +kernel
theorem d_PS_compare_61 : decode prog_1_method_31_code 61 = .ok (.getfield 185, 3) := by decide +kernel
theorem d_PS_compare_64 : decode prog_1_method_31_code 64 = .ok (.sipush 17664, 3) := by decide +kernel
theorem d_PS_compare_67 : decode prog_1_method_31_code 67 = .ok (.ior, 1) := by decide +kernel
theorem d_PS_compare_68 : decode prog_1_method_31_code 68 = .ok (.putfield 185, 3) := by decide +kernel
theorem d_PS_compare_71 : decode prog_1_method_31_code 71 = .ok (.goto 29, 3) := by decide +kernel
theorem d_PS_compare_74 : decode prog_1_method_31_code 74 = .ok (.iload_n 2, 1) := by decide +kernel
theorem d_PS_compare_75 : decode prog_1_method_31_code 75 = .ok (.ifCond .gt 25, 3) := by decide +kernel
theorem d_PS_compare_78 : decode prog_1_method_31_code 78 = .ok (.aload_n 0, 1) := by decide +kernel
theorem d_PS_compare_79 : decode prog_1_method_31_code 79 = .ok (.dup, 1) := by decide +kernel
theorem d_PS_compare_80 : decode prog_1_method_31_code 80 = .ok (.getfield 185, 3) := by decide +kernel
theorem d_PS_compare_83 : decode prog_1_method_31_code 83 = .ok (.iload_n 2, 1) := by decide +kernel
theorem d_PS_compare_84 : decode prog_1_method_31_code 84 = .ok (.ifCond .ge 9, 3) := by decide +kernel
theorem d_PS_compare_87 : decode prog_1_method_31_code 87 = .ok (.sipush 256, 3) := by decide +kernel
theorem d_PS_compare_90 : decode prog_1_method_31_code 90 = .ok (.goto 6, 3) := by decide +kernel
theorem d_PS_compare_93 : decode prog_1_method_31_code 93 = .ok (.sipush 16384, 3) := by decide +kernel
theorem d_PS_compare_96 : decode prog_1_method_31_code 96 = .ok (.ior, 1) := by decide +kernel
theorem d_PS_compare_97 : decode prog_1_method_31_code 97 = .ok (.putfield 185, 3) := by decide +kernel
theorem d_PS_compare_100 : decode prog_1_method_31_code 100 = .ok (.iconst 0, 1) := by decide +kernel
theorem d_PS_compare_101 : decode prog_1_method_31_code 101 = .ok (.istore_n 3, 1) := by decide +kernel
theorem d_PS_compare_102 : decode prog_1_method_31_code 102 = .ok (.iload_n 3, 1) := by decide +kernel
theorem d_PS_compare_103 : decode prog_1_method_31_code 103 = .ok (.iload_n 1, 1) := by decide +kernel
theorem d_PS_compare_104 : decode prog_1_method_31_code 104 = .ok (.if_icmp .ge 13, 3) := by decide +kernel
theorem d_PS_compare_107 : decode prog_1_method_31_code 107 = .ok (.aload_n 0, 1) := by decide +kernel
theorem d_PS_compare_108 : decode prog_1_method_31_code 108 = .ok (.invokevirtual 302, 3) := by decide +kernel
theorem d_PS_compare_111 : decode prog_1_method_31_code 111 = .ok (.iinc 3 1, 3) := by decide +kernel
theorem d_PS_compare_114 : decode prog_1_method_31_code 114 = .ok (.goto (-12), 3) := by decide +kernel
theorem d_PS_compare_117 : decode prog_1_method_31_code 117 = .ok (.return_, 1) := by decide +kernel
theorem d_PS_keep_0 : decode prog_1_method_25_code 0 = .ok (.aload_n 0, 1) := by decide +kernel
theorem d_PS_keep_1 : decode prog_1_method_25_code 1 = .ok (.iload_n 1, 1) := by decide +kernel
theorem d_PS_keep_2 : decode prog_1_method_25_code 2 = .ok (.invokevirtual 168, 3) := by decide +kernel
theorem d_PS_keep_5 : decode prog_1_method_25_code 5 = .ok (.istore_n 3, 1) := by decide +kernel
theorem d_PS_keep_6 : decode prog_1_method_25_code 6 = .ok (.aload_n 0, 1) := by decide +kernel
theorem d_PS_keep_7 : decode prog_1_method_25_code 7 = .ok (.getfield 57, 3) := by decide +kernel
theorem d_PS_keep_10 : decode prog_1_method_25_code 10 = .ok (.iload_n 3, 1) := by decide +kernel
theorem d_PS_keep_11 : decode prog_1_method_25_code 11 = .ok (.aaload, 1) := by decide +kernel
theorem d_PS_keep_12 : decode prog_1_method_25_code 12 = .ok (.aload_n 2, 1) := by decide +kernel
theorem d_PS_keep_13 : decode prog_1_method_25_code 13 = .ok (.invokevirtual 311, 3) := by decide +kernel
theorem d_PS_keep_16 : decode prog_1_method_25_code 16 = .ok (.aload_n 0, 1) := by decide +kernel
theorem d_PS_keep_17 : decode prog_1_method_25_code 17 = .ok (.getfield 61, 3) := by decide +kernel
theorem d_PS_keep_20 : decode prog_1_method_25_code 20 = .ok (.iload_n 3, 1) := by decide +kernel
theorem d_PS_keep_21 : decode prog_1_method_25_code 21 = .ok (.iconst 0, 1) := by decide +kernel
theorem d_PS_keep_22 : decode prog_1_method_25_code 22 = .ok (.bastore, 1) := by decide +kernel
theorem d_PS_keep_23 : decode prog_1_method_25_code 23 = .ok (.return_, 1) := by decide +kernel
theorem d_PS_combine_0 : decode prog_1_method_30_code 0 = .ok (.aload_n 0, 1) := by decide +kernel
theorem d_PS_combine_1 : decode prog_1_method_30_code 1 = .ok (.getfield 19, 3) := by decide +kernel
theorem d_PS_combine_4 : decode prog_1_method_30_code 4 = .ok (.invokevirtual 201, 3) := by decide +kernel
theorem d_PS_combine_7 : decode prog_1_method_30_code 7 = .ok (.ifCond .eq 4, 3) := by decide +kernel
theorem d_PS_combine_10 : decode prog_1_method_30_code 10 = .ok (.return_, 1) := by decide +kernel
theorem d_PS_combine_11 : decode prog_1_method_30_code 11 = .ok (.iload_n 1, 1) := by decide +kernel
theorem d_PS_combine_12 : decode prog_1_method_30_code 12 = .ok (.iconst 2, 1) := by decide +kernel
theorem d_PS_combine_13 : decode prog_1_method_30_code 13 = .ok (.if_icmp .eq 8, 3) := by decide +kernel
theorem d_PS_combine_16 : decode prog_1_method_30_code 16 = .ok (.iload_n 1, 1) := by decide +kernel
theorem d_PS_combine_17 : decode prog_1_method_30_code 17 = .ok (.iconst 3, 1) := by decide +kernel
theorem d_PS_combine_18 : decode prog_1_method_30_code 18 = .ok (.if_icmp .ne 9, 3) := by decide +kernel
theorem d_PS_combine_21 : decode prog_1_method_30_code 21 = .ok (.aload_n 0, 1) := by decide +kernel
theorem d_PS_combine_22 : decode prog_1_method_30_code 22 = .ok (.iload_n 3, 1) := by decide +kernel
theorem d_PS_combine_23 : decode prog_1_method_30_code 23 = .ok (.invokevirtual 271, 3) := by decide +kernel
theorem d_PS_combine_26 : decode prog_1_method_30_code 26 = .ok (.return_, 1) := by decide +kernel
theorem d_PS_combine_27 : decode prog_1_method_30_code 27 = .ok (.iload_n 1, 1) := by decide +kernel
theorem d_PS_combine_28 : decode prog_1_method_30_code 28 = .ok (.iconst 5, 1) := by decide +kernel
theorem d_PS_combine_29 : decode prog_1_method_30_code 29 = .ok (.if_icmp .eq 9, 3) := by decide +kernel
theorem d_PS_combine_32 : decode prog_1_method_30_code 32 = .ok (.iload_n 1, 1) := by decide +kernel
theorem d_PS_combine_33 : decode prog_1_method_30_code 33 = .ok (.bipush 7, 2) := by decide +kernel
theorem d_PS_combine_35 : decode prog_1_method_30_code 35 = .ok (.if_icmp .ne 7, 3) := by decide +kernel
theorem d_PS_combine_38 : decode prog_1_method_30_code 38 = .ok (.iconst 1, 1) := by decide +kernel
theorem d_PS_combine_39 : decode prog_1_method_30_code 39 = .ok (.goto 4, 3) := by decide +kernel
theorem d_PS_combine_42 : decode prog_1_method_30_code 42 = .ok (.iconst 0, 1) := by decide +kernel
theorem d_PS_combine_43 : decode prog_1_method_30_code 43 = .ok (.istore 4, 2) := by decide +kernel
theorem d_PS_combine_45 : decode prog_1_method_30_code 45 = .ok (.iconst 3, 1) := by decide +kernel
theorem d_PS_combine_46 : decode prog_1_method_30_code 46 = .ok (.istore 5, 2) := by decide +kernel
theorem d_PS_combine_48 : decode prog_1_method_30_code 48 = .ok (.iload_n 1, 1) := by decide +kernel
theorem d_PS_combine_49 : decode prog_1_method_30_code 49 = .ok (.bipush 6, 2) := by decide +kernel
theorem d_PS_combine_51 : decode prog_1_method_30_code 51 = .ok (.if_icmp .ge 23, 3) := by decide +kernel
theorem d_PS_combine_54 : decode prog_1_method_30_code 54 = .ok (.iload_n 1, 1) := by decide +kernel
theorem d_PS_combine_55 : decode prog_1_method_30_code 55 = .ok (.ifCond .ne 7, 3) := by decide +kernel
theorem d_PS_combine_58 : decode prog_1_method_30_code 58 = .ok (.iconst 0, 1) := by decide +kernel
theorem d_PS_combine_59 : decode prog_1_method_30_code 59 = .ok (.goto 13, 3) := by decide +kernel
theorem d_PS_combine_62 : decode prog_1_method_30_code 62 = .ok (.iload_n 1, 1) := by decide +kernel
theorem d_PS_combine_63 : decode prog_1_method_30_code 63 = .ok (.iconst 1, 1) := by decide +kernel
theorem d_PS_combine_64 : decode prog_1_method_30_code 64 = .ok (.if_icmp .ne 7, 3) := by decide +kernel
theorem d_PS_combine_67 : decode prog_1_method_30_code 67 = .ok (.iconst 2, 1) := by decide +kernel
theorem d_PS_combine_68 : decode prog_1_method_30_code 68 = .ok (.goto 4, 3) := by decide +kernel
theorem d_PS_combine_71 : decode prog_1_method_30_code 71 = .ok (.iconst 1, 1) := by decide +kernel
theorem d_PS_combine_72 : decode prog_1_method_30_code 72 = .ok (.istore 5, 2) := by decide +kernel
theorem d_PS_combine_74 : decode prog_1_method_30_code 74 = .ok (.aload_n 0, 1) := by decide +kernel
theorem d_PS_combine_75 : decode prog_1_method_30_code 75 = .ok (.getfield 28, 3) := by decide +kernel
theorem d_PS_combine_78 : decode prog_1_method_30_code 78 = .ok (.iload 5, 2) := by decide +kernel
theorem d_PS_combine_80 : decode prog_1_method_30_code 80 = .ok (.iload 4, 2) := by decide +kernel
theorem d_PS_combine_82 : decode prog_1_method_30_code 82 = .ok (.ifCond .eq 10, 3) := by decide +kernel
theorem d_PS_combine_85 : decode prog_1_method_30_code 85 = .ok (.aload_n 0, 1) := by decide +kernel
theorem d_PS_combine_86 : decode prog_1_method_30_code 86 = .ok (.getfield 70, 3) := by decide +kernel
theorem d_PS_combine_89 : decode prog_1_method_30_code 89 = .ok (.goto 7, 3) := by decide +kernel
theorem d_PS_combine_92 : decode prog_1_method_30_code 92 = .ok (.aload_n 0, 1) := by decide +kernel
theorem d_PS_combine_93 : decode prog_1_method_30_code 93 = .ok (.getfield 66, 3) := by decide +kernel
theorem d_PS_combine_96 : decode prog_1_method_30_code 96 = .ok (.iload 4, 2) := by decide +kernel
theorem d_PS_combine_98 : decode prog_1_method_30_code 98 = .ok (.ifCond .eq 10, 3) := by decide +kernel
theorem d_PS_combine_101 : decode prog_1_method_30_code 101 = .ok (.aload_n 0, 1) := by decide +kernel
theorem d_PS_combine_102 : decode prog_1_method_30_code 102 = .ok (.getfield 66, 3) := by decide +kernel
theorem d_PS_combine_105 : decode prog_1_method_30_code 105 = .ok (.goto 7, 3) := by decide +kernel
theorem d_PS_combine_108 : decode prog_1_method_30_code 108 = .ok (.aload_n 0, 1) := by decide +kernel
theorem d_PS_combine_109 : decode prog_1_method_30_code 109 = .ok (.getfield 70, 3) := by decide +kernel
theorem d_PS_combine_112 : decode prog_1_method_30_code 112 = .ok (.aload_n 0, 1) := by decide +kernel
theorem d_PS_combine_113 : decode prog_1_method_30_code 113 = .ok (.getfield 73, 3) := by decide +kernel
theorem d_PS_combine_116 : decode prog_1_method_30_code 116 = .ok (.invokevirtual 285, 3) := by decide +kernel
theorem d_PS_combine_119 : decode prog_1_method_30_code 119 = .ok (.aload_n 0, 1) := by decide +kernel
theorem d_PS_combine_120 : decode prog_1_method_30_code 120 = .ok (.getfield 19, 3) := by decide +kernel
theorem d_PS_combine_123 : decode prog_1_method_30_code 123 = .ok (.invokevirtual 201, 3) := by decide +kernel
theorem d_PS_combine_126 : decode prog_1_method_30_code 126 = .ok (.ifCond .eq 4, 3) := by decide +kernel
theorem d_PS_combine_129 : decode prog_1_method_30_code 129 = .ok (.return_, 1) := by decide +kernel
theorem d_PS_combine_130 : decode prog_1_method_30_code 130 = .ok (.aload_n 0, 1) := by decide +kernel
theorem d_PS_combine_131 : decode prog_1_method_30_code 131 = .ok (.iload_n 2, 1) := by decide +kernel
theorem d_PS_combine_132 : decode prog_1_method_30_code 132 = .ok (.aload_n 0, 1) := by decide +kernel
theorem d_PS_combine_133 : decode prog_1_method_30_code 133 = .ok (.getfield 73, 3) := by decide +kernel
theorem d_PS_combine_136 : decode prog_1_method_30_code 136 = .ok (.invokevirtual 278, 3) := by decide +kernel
theorem d_PS_combine_139 : decode prog_1_method_30_code 139 = .ok (.iload_n 3, 1) := by decide +kernel
theorem d_PS_combine_140 : decode prog_1_method_30_code 140 = .ok (.ifCond .le 7, 3) := by decide +kernel
theorem d_PS_combine_143 : decode prog_1_method_30_code 143 = .ok (.aload_n 0, 1) := by decide +kernel
theorem d_PS_combine_144 : decode prog_1_method_30_code 144 = .ok (.invokevirtual 302, 3) := by decide +kernel
theorem d_PS_combine_147 : decode prog_1_method_30_code 147 = .ok (.return_, 1) := by decide +kernel
theorem d_PS_push_0 : decode prog_1_method_27_code 0 = .ok (.aload_n 0, 1) := by decide +kernel
theorem d_PS_push_1 : decode prog_1_method_27_code 1 = .ok (.getfield 61, 3) := by decide +kernel
theorem d_PS_push_4 : decode prog_1_method_27_code 4 = .ok (.aload_n 0, 1) := by decide +kernel
theorem d_PS_push_5 : decode prog_1_method_27_code 5 = .ok (.bipush 7, 2) := by decide +kernel
theorem d_PS_push_7 : decode prog_1_method_27_code 7 = .ok (.invokevirtual 168, 3) := by decide +kernel
theorem d_PS_push_10 : decode prog_1_method_27_code 10 = .ok (.baload, 1) := by decide +kernel
theorem d_PS_push_11 : decode prog_1_method_27_code 11 = .ok (.ifCond .ne 15, 3) := by decide +kernel
theorem d_PS_push_14 : decode prog_1_method_27_code 14 = .ok (.aload_n 0, 1) := by decide +kernel
theorem d_PS_push_15 : decode prog_1_method_27_code 15 = .ok (.getfield 19, 3) := by decide +kernel
theorem d_PS_push_18 : decode prog_1_method_27_code 18 = .ok (.iconst 1, 1) := by decide +kernel
theorem d_PS_push_19 : decode prog_1_method_27_code 19 = .ok (.invokevirtual 305, 3) := by decide +kernel
theorem d_PS_push_22 : decode prog_1_method_27_code 22 = .ok (.aload_n 1, 1) := by decide +kernel
theorem d_PS_push_23 : decode prog_1_method_27_code 23 = .ok (.invokevirtual 308, 3) := by decide +kernel
theorem d_PS_push_26 : decode prog_1_method_27_code 26 = .ok (.aload_n 0, 1) := by decide +kernel
theorem d_PS_push_27 : decode prog_1_method_27_code 27 = .ok (.getfield 19, 3) := by decide +kernel
theorem d_PS_push_30 : decode prog_1_method_27_code 30 = .ok (.invokevirtual 201, 3) := by decide +kernel
theorem d_PS_push_33 : decode prog_1_method_27_code 33 = .ok (.ifCond .eq 4, 3) := by decide +kernel
theorem d_PS_push_36 : decode prog_1_method_27_code 36 = .ok (.return_, 1) := by decide +kernel
theorem d_PS_push_37 : decode prog_1_method_27_code 37 = .ok (.aload_n 0, 1) := by decide +kernel
theorem d_PS_push_38 : decode prog_1_method_27_code 38 = .ok (.aload_n 0, 1) := by decide +kernel
theorem d_PS_push_39 : decode prog_1_method_27_code 39 = .ok (.bipush 7, 2) := by decide +kernel
theorem d_PS_push_41 : decode prog_1_method_27_code 41 = .ok (.invokevirtual 168, 3) := by decide +kernel
theorem d_PS_push_44 : decode prog_1_method_27_code 44 = .ok (.putfield 183, 3) := by decide +kernel
theorem d_PS_push_47 : decode prog_1_method_27_code 47 = .ok (.aload_n 0, 1) := by decide +kernel
theorem d_PS_push_48 : decode prog_1_method_27_code 48 = .ok (.iconst 0, 1) := by decide +kernel
theorem d_PS_push_49 : decode prog_1_method_27_code 49 = .ok (.aload_n 1, 1) := by decide +kernel
theorem d_PS_push_50 : decode prog_1_method_27_code 50 = .ok (.invokevirtual 278, 3) := by decide +kernel
theorem d_PS_push_53 : decode prog_1_method_27_code 53 = .ok (.return_, 1) := by decide +kernel
theorem d_PS_pushRead_0 : decode prog_1_method_28_code 0 = .ok (.aload_n 0, 1) := by decide +kernel
theorem d_PS_pushRead_1 : decode prog_1_method_28_code 1 = .ok (.getfield 61, 3) := by decide +kernel
theorem d_PS_pushRead_4 : decode prog_1_method_28_code 4 = .ok (.aload_n 0, 1) := by decide +kernel
theorem d_PS_pushRead_5 : decode prog_1_method_28_code 5 = .ok (.bipush 7, 2) := by decide +kernel
theorem d_PS_pushRead_7 : decode prog_1_method_28_code 7 = .ok (.invokevirtual 168, 3) := by decide +kernel
theorem d_PS_pushRead_10 : decode prog_1_method_28_code 10 = .ok (.baload, 1) := by decide +kernel
theorem d_PS_pushRead_11 : decode prog_1_method_28_code 11 = .ok (.ifCond .eq 15, 3) := by decide +kernel
theorem d_PS_pushRead_14 : decode prog_1_method_28_code 14 = .ok (.aload_n 0, 1) := by decide +kernel
theorem d_PS_pushRead_15 : decode prog_1_method_28_code 15 = .ok (.getfield 44, 3) := by decide +kernel
theorem d_PS_pushRead_18 : decode prog_1_method_28_code 18 = .ok (.iload_n 1, 1) := by decide +kernel
theorem d_PS_pushRead_19 : decode prog_1_method_28_code 19 = .ok (.aload_n 0, 1) := by decide +kernel
theorem d_PS_pushRead_20 : decode prog_1_method_28_code 20 = .ok (.getfield 73, 3) := by decide +kernel
theorem d_PS_pushRead_23 : decode prog_1_method_28_code 23 = .ok (.invokevirtual 205, 3) := by decide +kernel
theorem d_PS_pushRead_26 : decode prog_1_method_28_code 26 = .ok (.aload_n 0, 1) := by decide +kernel
theorem d_PS_pushRead_27 : decode prog_1_method_28_code 27 = .ok (.aload_n 0, 1) := by decide +kernel
theorem d_PS_pushRead_28 : decode prog_1_method_28_code 28 = .ok (.getfield 73, 3) := by decide +kernel
theorem d_PS_pushRead_31 : decode prog_1_method_28_code 31 = .ok (.invokevirtual 237, 3) := by decide +kernel
theorem d_PS_pushRead_34 : decode prog_1_method_28_code 34 = .ok (.return_, 1) := by decide +kernel
theorem d_PS_store_0 : decode prog_1_method_29_code 0 = .ok (.aload_n 0, 1) := by decide +kernel
theorem d_PS_store_1 : decode prog_1_method_29_code 1 = .ok (.iconst 0, 1) := by decide +kernel
theorem d_PS_store_2 : decode prog_1_method_29_code 2 = .ok (.aload_n 0, 1) := by decide +kernel
theorem d_PS_store_3 : decode prog_1_method_29_code 3 = .ok (.getfield 66, 3) := by decide +kernel
theorem d_PS_store_6 : decode prog_1_method_29_code 6 = .ok (.invokevirtual 197, 3) := by decide +kernel
theorem d_PS_store_9 : decode prog_1_method_29_code 9 = .ok (.aload_n 0, 1) := by decide +kernel
theorem d_PS_store_10 : decode prog_1_method_29_code 10 = .ok (.getfield 19, 3) := by decide +kernel
theorem d_PS_store_13 : decode prog_1_method_29_code 13 = .ok (.invokevirtual 201, 3) := by decide +kernel
theorem d_PS_store_16 : decode prog_1_method_29_code 16 = .ok (.ifCond .eq 4, 3) := by decide +kernel
theorem d_PS_store_19 : decode prog_1_method_29_code 19 = .ok (.return_, 1) := by decide +kernel
theorem d_PS_store_20 : decode prog_1_method_29_code 20 = .ok (.aload_n 0, 1) := by decide +kernel
theorem d_PS_store_21 : decode prog_1_method_29_code 21 = .ok (.getfield 51, 3) := by decide +kernel
theorem d_PS_store_24 : decode prog_1_method_29_code 24 = .ok (.iload_n 1, 1) := by decide +kernel
theorem d_PS_store_25 : decode prog_1_method_29_code 25 = .ok (.aload_n 0, 1) := by decide +kernel
theorem d_PS_store_26 : decode prog_1_method_29_code 26 = .ok (.getfield 66, 3) := by decide +kernel
theorem d_PS_store_29 : decode prog_1_method_29_code 29 = .ok (.invokevirtual 314, 3) := by decide +kernel
theorem d_PS_store_32 : decode prog_1_method_29_code 32 = .ok (.iload_n 2, 1) := by decide +kernel
theorem d_PS_store_33 : decode prog_1_method_29_code 33 = .ok (.ifCond .eq 17, 3) := by decide +kernel
theorem d_PS_store_36 : decode prog_1_method_29_code 36 = .ok (.aload_n 0, 1) := by decide +kernel
theorem d_PS_store_37 : decode prog_1_method_29_code 37 = .ok (.getfield 19, 3) := by decide +kernel
theorem d_PS_store_40 : decode prog_1_method_29_code 40 = .ok (.invokevirtual 317, 3) := by decide +kernel
theorem d_PS_store_43 : decode prog_1_method_29_code 43 = .ok (.ifCond .ne 7, 3) := by decide +kernel
theorem d_PS_store_46 : decode prog_1_method_29_code 46 = .ok (.aload_n 0, 1) := by decide +kernel
theorem d_PS_store_47 : decode prog_1_method_29_code 47 = .ok (.invokevirtual 302, 3) := by decide +kernel
theorem d_PS_store_50 : decode prog_1_method_29_code 50 = .ok (.return_, 1) := by decide +kernel
theorem d_PS_doWithMemory_0 : decode prog_1_method_16_code 0 = .ok (.getstatic 191, 3) := by decide +kernel
theorem d_PS_doWithMemory_3 : decode prog_1_method_16_code 3 = .ok (.iload_n 1, 1) := by decide +kernel
theorem d_PS_doWithMemory_4 : decode prog_1_method_16_code 4 = .ok (.bipush 8, 2) := by decide +kernel
theorem d_PS_doWithMemory_6 : decode prog_1_method_16_code 6 = .ok (.imul, 1) := by decide +kernel
theorem d_PS_doWithMemory_7 : decode prog_1_method_16_code 7 = .ok (.iload_n 2, 1) := by decide +kernel
theorem d_PS_doWithMemory_8 : decode prog_1_method_16_code 8 = .ok (.iadd, 1) := by decide +kernel
theorem d_PS_doWithMemory_9 : decode prog_1_method_16_code 9 = .ok (.iaload, 1) := by decide +kernel
theorem d_PS_doWithMemory_10 : decode prog_1_method_16_code 10 = .ok (.istore_n 3, 1) := by decide +kernel
theorem d_PS_doWithMemory_11 : decode prog_1_method_16_code 11 = .ok (.iload_n 3, 1) := by decide +kernel
theorem d_PS_doWithMemory_12 : decode prog_1_method_16_code 12 = .ok (.ifCond .ge 12, 3) := by decide +kernel
theorem d_PS_doWithMemory_15 : decode prog_1_method_16_code 15 = .ok (.aload_n 0, 1) := by decide +kernel
theorem d_PS_doWithMemory_16 : decode prog_1_method_16_code 16 = .ok (.iload_n 1, 1) := by decide +kernel
theorem d_PS_doWithMemory_17 : decode prog_1_method_16_code 17 = .ok (.iload_n 2, 1) := by decide +kernel
theorem d_PS_doWithMemory_18 : decode prog_1_method_16_code 18 = .ok (.invokevirtual 194, 3) := by decide +kernel
theorem d_PS_doWithMemory_21 : decode prog_1_method_16_code 21 = .ok (.goto 95, 3) := by decide +kernel
theorem d_PS_doWithMemory_24 : decode prog_1_method_16_code 24 = .ok (.iload_n 1, 1) := by decide +kernel
theorem d_PS_doWithMemory_25 : decode prog_1_method_16_code 25 = .ok (.iconst 1, 1) := by decide +kernel
theorem d_PS_doWithMemory_26 : decode prog_1_method_16_code 26 = .ok (.iand, 1) := by decide +kernel
theorem d_PS_doWithMemory_27 : decode prog_1_method_16_code 27 = .ok (.ifCond .ne 53, 3) := by decide +kernel
theorem d_PS_doWithMemory_30 : decode prog_1_method_16_code 30 = .ok (.aload_n 0, 1) := by decide +kernel
theorem d_PS_doWithMemory_31 : decode prog_1_method_16_code 31 = .ok (.iconst 0, 1) := by decide +kernel
theorem d_PS_doWithMemory_32 : decode prog_1_method_16_code 32 = .ok (.aload_n 0, 1) := by decide +kernel
theorem d_PS_doWithMemory_33 : decode prog_1_method_16_code 33 = .ok (.getfield 66, 3) := by decide +kernel
theorem d_PS_doWithMemory_36 : decode prog_1_method_16_code 36 = .ok (.invokevirtual 197, 3) := by decide +kernel
theorem d_PS_doWithMemory_39 : decode prog_1_method_16_code 39 = .ok (.aload_n 0, 1) := by decide +kernel
theorem d_PS_doWithMemory_40 : decode prog_1_method_16_code 40 = .ok (.getfield 19, 3) := by decide +kernel
theorem d_PS_doWithMemory_43 : decode prog_1_method_16_code 43 = .ok (.invokevirtual 201, 3) := by decide +kernel
theorem d_PS_doWithMemory_46 : decode prog_1_method_16_code 46 = .ok (.ifCond .ne 15, 3) := by decide +kernel
theorem d_PS_doWithMemory_49 : decode prog_1_method_16_code 49 = .ok (.aload_n 0, 1) := by decide +kernel
theorem d_PS_doWithMemory_50 : decode prog_1_method_16_code 50 = .ok (.getfield 44, 3) := by decide +kernel
theorem d_PS_doWithMemory_53 : decode prog_1_method_16_code 53 = .ok (.iload_n 3, 1) := by decide +kernel
theorem d_PS_doWithMemory_54 : decode prog_1_method_16_code 54 = .ok (.aload_n 0, 1) := by decide +kernel
theorem d_PS_doWithMemory_55 : decode prog_1_method_16_code 55 = .ok (.getfield 70, 3) := by decide +kernel
theorem d_PS_doWithMemory_58 : decode prog_1_method_16_code 58 = .ok (.invokevirtual 205, 3) := by decide +kernel
theorem d_PS_doWithMemory_61 : decode prog_1_method_16_code 61 = .ok (.aload_n 0, 1) := by decide +kernel
theorem d_PS_doWithMemory_62 : decode prog_1_method_16_code 62 = .ok (.iload_n 2, 1) := by decide +kernel
theorem d_PS_doWithMemory_63 : decode prog_1_method_16_code 63 = .ok (.iconst 0, 1) := by decide +kernel
theorem d_PS_doWithMemory_64 : decode prog_1_method_16_code 64 = .ok (.iload_n 2, 1) := by decide +kernel
theorem d_PS_doWithMemory_65 : decode prog_1_method_16_code 65 = .ok (.iconst 3, 1) := by decide +kernel
theorem d_PS_doWithMemory_66 : decode prog_1_method_16_code 66 = .ok (.if_icmp .ne 7, 3) := by decide +kernel
theorem d_PS_doWithMemory_69 : decode prog_1_method_16_code 69 = .ok (.iconst 1, 1) := by decide +kernel
theorem d_PS_doWithMemory_70 : decode prog_1_method_16_code 70 = .ok (.goto 4, 3) := by decide +kernel
theorem d_PS_doWithMemory_73 : decode prog_1_method_16_code 73 = .ok (.iconst 0, 1) := by decide +kernel
theorem d_PS_doWithMemory_74 : decode prog_1_method_16_code 74 = .ok (.invokevirtual 208, 3) := by decide +kernel
theorem d_PS_doWithMemory_77 : decode prog_1_method_16_code 77 = .ok (.goto 39, 3) := by decide +kernel
theorem d_PS_doWithMemory_80 : decode prog_1_method_16_code 80 = .ok (.getstatic 148, 3) := by decide +kernel
theorem d_PS_doWithMemory_83 : decode prog_1_method_16_code 83 = .ok (.iload_n 1, 1) := by decide +kernel
theorem d_PS_doWithMemory_84 : decode prog_1_method_16_code 84 = .ok (.bipush 8, 2) := by decide +kernel
theorem d_PS_doWithMemory_86 : decode prog_1_method_16_code 86 = .ok (.imul, 1) := by decide +kernel
theorem d_PS_doWithMemory_87 : decode prog_1_method_16_code 87 = .ok (.iload_n 2, 1) := by decide +kernel
theorem d_PS_doWithMemory_88 : decode prog_1_method_16_code 88 = .ok (.iadd, 1) := by decide +kernel
theorem d_PS_doWithMemory_89 : decode prog_1_method_16_code 89 = .ok (.iaload, 1) := by decide +kernel
theorem d_PS_doWithMemory_90 : decode prog_1_method_16_code 90 = .ok (.ifCond .le 11, 3) := by decide +kernel
theorem d_PS_doWithMemory_93 : decode prog_1_method_16_code 93 = .ok (.aload_n 0, 1) := by decide +kernel
theorem d_PS_doWithMemory_94 : decode prog_1_method_16_code 94 = .ok (.iload_n 3, 1) := by decide +kernel
theorem d_PS_doWithMemory_95 : decode prog_1_method_16_code 95 = .ok (.invokevirtual 211, 3) := by decide +kernel
theorem d_PS_doWithMemory_98 : decode prog_1_method_16_code 98 = .ok (.goto 18, 3) := by decide +kernel
theorem d_PS_doWithMemory_101 : decode prog_1_method_16_code 101 = .ok (.aload_n 0, 1) := by decide +kernel
theorem d_PS_doWithMemory_102 : decode prog_1_method_16_code 102 = .ok (.iload_n 3, 1) := by decide +kernel
theorem d_PS_doWithMemory_103 : decode prog_1_method_16_code 103 = .ok (.iload_n 2, 1) := by decide +kernel
theorem d_PS_doWithMemory_104 : decode prog_1_method_16_code 104 = .ok (.iconst 2, 1) := by decide +kernel
theorem d_PS_doWithMemory_105 : decode prog_1_method_16_code 105 = .ok (.if_icmp .eq 7, 3) := by decide +kernel
theorem d_PS_doWithMemory_108 : decode prog_1_method_16_code 108 = .ok (.iconst 1, 1) := by decide +kernel
theorem d_PS_doWithMemory_109 : decode prog_1_method_16_code 109 = .ok (.goto 4, 3) := by decide +kernel
theorem d_PS_doWithMemory_112 : decode prog_1_method_16_code 112 = .ok (.iconst 0, 1) := by decide +kernel
theorem d_PS_doWithMemory_113 : decode prog_1_method_16_code 113 = .ok (.invokevirtual 215, 3) := by decide +kernel
theorem d_PS_doWithMemory_116 : decode prog_1_method_16_code 116 = .ok (.return_, 1) := by decide +kernel
theorem d_PS_exchange_0 : decode prog_1_method_32_code 0 = .ok (.aload_n 0, 1) := by decide +kernel
theorem d_PS_exchange_1 : decode prog_1_method_32_code 1 = .ok (.iconst 0, 1) := by decide +kernel
theorem d_PS_exchange_2 : decode prog_1_method_32_code 2 = .ok (.aload_n 0, 1) := by decide +kernel
theorem d_PS_exchange_3 : decode prog_1_method_32_code 3 = .ok (.getfield 66, 3) := by decide +kernel
theorem d_PS_exchange_6 : decode prog_1_method_32_code 6 = .ok (.invokevirtual 197, 3) := by decide +kernel
theorem d_PS_exchange_9 : decode prog_1_method_32_code 9 = .ok (.aload_n 0, 1) := by decide +kernel
theorem d_PS_exchange_10 : decode prog_1_method_32_code 10 = .ok (.iload_n 1, 1) := by decide +kernel
theorem d_PS_exchange_11 : decode prog_1_method_32_code 11 = .ok (.aload_n 0, 1) := by decide +kernel
theorem d_PS_exchange_12 : decode prog_1_method_32_code 12 = .ok (.getfield 70, 3) := by decide +kernel
theorem d_PS_exchange_15 : decode prog_1_method_32_code 15 = .ok (.invokevirtual 197, 3) := by decide +kernel
theorem d_PS_exchange_18 : decode prog_1_method_32_code 18 = .ok (.aload_n 0, 1) := by decide +kernel
theorem d_PS_exchange_19 : decode prog_1_method_32_code 19 = .ok (.getfield 19, 3) := by decide +kernel
theorem d_PS_exchange_22 : decode prog_1_method_32_code 22 = .ok (.invokevirtual 201, 3) := by decide +kernel
theorem d_PS_exchange_25 : decode prog_1_method_32_code 25 = .ok (.ifCond .eq 4, 3) := by decide +kernel
theorem d_PS_exchange_28 : decode prog_1_method_32_code 28 = .ok (.return_, 1) := by decide +kernel
theorem d_PS_exchange_29 : decode prog_1_method_32_code 29 = .ok (.aload_n 0, 1) := by decide +kernel
theorem d_PS_exchange_30 : decode prog_1_method_32_code 30 = .ok (.iconst 0, 1) := by decide +kernel
theorem d_PS_exchange_31 : decode prog_1_method_32_code 31 = .ok (.aload_n 0, 1) := by decide +kernel
theorem d_PS_exchange_32 : decode prog_1_method_32_code 32 = .ok (.getfield 70, 3) := by decide +kernel
theorem d_PS_exchange_35 : decode prog_1_method_32_code 35 = .ok (.invokevirtual 278, 3) := by decide +kernel
theorem d_PS_exchange_38 : decode prog_1_method_32_code 38 = .ok (.aload_n 0, 1) := by decide +kernel
theorem d_PS_exchange_39 : decode prog_1_method_32_code 39 = .ok (.iload_n 1, 1) := by decide +kernel
theorem d_PS_exchange_40 : decode prog_1_method_32_code 40 = .ok (.aload_n 0, 1) := by decide +kernel
theorem d_PS_exchange_41 : decode prog_1_method_32_code 41 = .ok (.getfield 66, 3) := by decide +kernel
theorem d_PS_exchange_44 : decode prog_1_method_32_code 44 = .ok (.invokevirtual 278, 3) := by decide +kernel
theorem d_PS_exchange_47 : decode prog_1_method_32_code 47 = .ok (.return_, 1) := by decide +kernel
theorem d_PS_examine_0 : decode prog_1_method_34_code 0 = .ok (.aload_n 0, 1) := by decide +kernel
theorem d_PS_examine_1 : decode prog_1_method_34_code 1 = .ok (.getfield 57, 3) := by decide +kernel
theorem d_PS_examine_4 : decode prog_1_method_34_code 4 = .ok (.aload_n 0, 1) := by decide +kernel
theorem d_PS_examine_5 : decode prog_1_method_34_code 5 = .ok (.getfield 183, 3) := by decide +kernel
theorem d_PS_examine_8 : decode prog_1_method_34_code 8 = .ok (.aaload, 1) := by decide +kernel
theorem d_PS_examine_9 : decode prog_1_method_34_code 9 = .ok (.astore_n 1, 1) := by decide +kernel
theorem d_PS_examine_10 : decode prog_1_method_34_code 10 = .ok (.bipush 9, 2) := by decide +kernel
theorem d_PS_examine_12 : decode prog_1_method_34_code 12 = .ok (.istore_n 2, 1) := by decide +kernel
theorem d_PS_examine_13 : decode prog_1_method_34_code 13 = .ok (.aload_n 0, 1) := by decide +kernel
theorem d_PS_examine_14 : decode prog_1_method_34_code 14 = .ok (.getfield 61, 3) := by decide +kernel
theorem d_PS_examine_17 : decode prog_1_method_34_code 17 = .ok (.aload_n 0, 1) := by decide +kernel
theorem d_PS_examine_18 : decode prog_1_method_34_code 18 = .ok (.getfield 183, 3) := by decide +kernel
theorem d_PS_examine_21 : decode prog_1_method_34_code 21 = .ok (.baload, 1) := by decide +kernel
theorem d_PS_examine_22 : decode prog_1_method_34_code 22 = .ok (.ifCond .ne 25, 3) := by decide +kernel
theorem d_PS_examine_25 : decode prog_1_method_34_code 25 = .ok (.getstatic 325, 3) := by decide +kernel
theorem d_PS_examine_28 : decode prog_1_method_34_code 28 = .ok (.aload_n 1, 1) := by decide +kernel
theorem d_PS_examine_29 : decode prog_1_method_34_code 29 = .ok (.invokevirtual 328, 3) := by decide +kernel
theorem d_PS_examine_32 : decode prog_1_method_34_code 32 = .ok (.iaload, 1) := by decide +kernel
theorem d_PS_examine_33 : decode prog_1_method_34_code 33 = .ok (.aload_n 1, 1) := by decide +kernel
theorem d_PS_examine_34 : decode prog_1_method_34_code 34 = .ok (.getfield 274, 3) := by decide +kernel
theorem d_PS_examine_37 : decode prog_1_method_34_code 37 = .ok (.ifCond .eq 7, 3) := by decide +kernel
theorem d_PS_examine_40 : decode prog_1_method_34_code 40 = .ok (.iconst 2, 1) := by decide +kernel
theorem d_PS_examine_41 : decode prog_1_method_34_code 41 = .ok (.goto 4, 3) := by decide +kernel
theorem d_PS_examine_44 : decode prog_1_method_34_code 44 = .ok (.iconst 0, 1) := by decide +kernel
theorem d_PS_examine_45 : decode prog_1_method_34_code 45 = .ok (.iadd, 1) := by decide +kernel
theorem d_PS_examine_46 : decode prog_1_method_34_code 46 = .ok (.istore_n 2, 1) := by decide +kernel
theorem d_PS_examine_47 : decode prog_1_method_34_code 47 = .ok (.aload_n 0, 1) := by decide +kernel
theorem d_PS_examine_48 : decode prog_1_method_34_code 48 = .ok (.iload_n 2, 1) := by decide +kernel
theorem d_PS_examine_49 : decode prog_1_method_34_code 49 = .ok (.bipush 7, 2) := by decide +kernel
theorem d_PS_examine_51 : decode prog_1_method_34_code 51 = .ok (.iand, 1) := by decide +kernel
theorem d_PS_examine_52 : decode prog_1_method_34_code 52 = .ok (.bipush 8, 2) := by decide +kernel
theorem d_PS_examine_54 : decode prog_1_method_34_code 54 = .ok (.ishl, 1) := by decide +kernel
theorem d_PS_examine_55 : decode prog_1_method_34_code 55 = .ok (.iload_n 2, 1) := by decide +kernel
theorem d_PS_examine_56 : decode prog_1_method_34_code 56 = .ok (.bipush 8, 2) := by decide +kernel
theorem d_PS_examine_58 : decode prog_1_method_34_code 58 = .ok (.iand, 1) := by decide +kernel
theorem d_PS_examine_59 : decode prog_1_method_34_code 59 = .ok (.bipush 11, 2) := by decide +kernel
theorem d_PS_examine_61 : decode prog_1_method_34_code 61 = .ok (.ishl, 1) := by decide +kernel
theorem d_PS_examine_62 : decode prog_1_method_34_code 62 = .ok (.ior, 1) := by decide +kernel
theorem d_PS_examine_63 : decode prog_1_method_34_code 63 = .ok (.putfield 185, 3) := by decide +kernel
theorem d_PS_examine_66 : decode prog_1_method_34_code 66 = .ok (.return_, 1) := by decide +kernel
theorem d_PS_doWithFirst_0 : decode prog_1_method_20_code 0 = .ok (.iload_n 1, 1) := by decide +kernel
theorem d_PS_doWithFirst_1 : decode prog_1_method_20_code 1 = .ok (.iconst 5, 1) := by decide +kernel
theorem d_PS_doWithFirst_2 : decode prog_1_method_20_code 2 = .ok (.if_icmp .ne 8, 3) := by decide +kernel
theorem d_PS_doWithFirst_5 : decode prog_1_method_20_code 5 = .ok (.aload_n 0, 1) := by decide +kernel
theorem d_PS_doWithFirst_6 : decode prog_1_method_20_code 6 = .ok (.invokevirtual 264, 3) := by decide +kernel
theorem d_PS_doWithFirst_9 : decode prog_1_method_20_code 9 = .ok (.return_, 1) := by decide +kernel
theorem d_PS_doWithFirst_10 : decode prog_1_method_20_code 10 = .ok (.aload_n 0, 1) := by decide +kernel
theorem d_PS_doWithFirst_11 : decode prog_1_method_20_code 11 = .ok (.iconst 0, 1) := by decide +kernel
theorem d_PS_doWithFirst_12 : decode prog_1_method_20_code 12 = .ok (.aload_n 0, 1) := by decide +kernel
theorem d_PS_doWithFirst_13 : decode prog_1_method_20_code 13 = .ok (.getfield 66, 3) := by decide +kernel
theorem d_PS_doWithFirst_16 : decode prog_1_method_20_code 16 = .ok (.invokevirtual 197, 3) := by decide +kernel
theorem d_PS_doWithFirst_19 : decode prog_1_method_20_code 19 = .ok (.iload_n 1, 1) := by decide +kernel
theorem d_PS_doWithFirst_20 : decode prog_1_method_20_code 20 = .ok (.iconst 4, 1) := by decide +kernel
theorem d_PS_doWithFirst_21 : decode prog_1_method_20_code 21 = .ok (.if_icmp .ne 19, 3) := by decide +kernel
theorem d_PS_doWithFirst_24 : decode prog_1_method_20_code 24 = .ok (.aload_n 0, 1) := by decide +kernel
theorem d_PS_doWithFirst_25 : decode prog_1_method_20_code 25 = .ok (.getfield 70, 3) := by decide +kernel
theorem d_PS_doWithFirst_28 : decode prog_1_method_20_code 28 = .ok (.iconst 0, 1) := by decide +kernel
theorem d_PS_doWithFirst_29 : decode prog_1_method_20_code 29 = .ok (.invokevirtual 267, 3) := by decide +kernel
theorem d_PS_doWithFirst_32 : decode prog_1_method_20_code 32 = .ok (.aload_n 0, 1) := by decide +kernel
theorem d_PS_doWithFirst_33 : decode prog_1_method_20_code 33 = .ok (.iconst 0, 1) := by decide +kernel
theorem d_PS_doWithFirst_34 : decode prog_1_method_20_code 34 = .ok (.invokevirtual 271, 3) := by decide +kernel
theorem d_PS_doWithFirst_37 : decode prog_1_method_20_code 37 = .ok (.goto 48, 3) := by decide +kernel
theorem d_PS_doWithFirst_40 : decode prog_1_method_20_code 40 = .ok (.aload_n 0, 1) := by decide +kernel
theorem d_PS_doWithFirst_41 : decode prog_1_method_20_code 41 = .ok (.getfield 19, 3) := by decide +kernel
theorem d_PS_doWithFirst_44 : decode prog_1_method_20_code 44 = .ok (.invokevirtual 201, 3) := by decide +kernel
theorem d_PS_doWithFirst_47 : decode prog_1_method_20_code 47 = .ok (.ifCond .ne 38, 3) := by decide +kernel
theorem d_PS_doWithFirst_50 : decode prog_1_method_20_code 50 = .ok (.aload_n 0, 1) := by decide +kernel
theorem d_PS_doWithFirst_51 : decode prog_1_method_20_code 51 = .ok (.getfield 66, 3) := by decide +kernel
theorem d_PS_doWithFirst_54 : decode prog_1_method_20_code 54 = .ok (.iload_n 1, 1) := by decide +kernel
theorem d_PS_doWithFirst_55 : decode prog_1_method_20_code 55 = .ok (.ifCond .ne 17, 3) := by decide +kernel
theorem d_PS_doWithFirst_58 : decode prog_1_method_20_code 58 = .ok (.aload_n 0, 1) := by decide +kernel
theorem d_PS_doWithFirst_59 : decode prog_1_method_20_code 59 = .ok (.getfield 66, 3) := by decide +kernel
theorem d_PS_doWithFirst_62 : decode prog_1_method_20_code 62 = .ok (.getfield 274, 3) := by decide +kernel
theorem d_PS_doWithFirst_65 : decode prog_1_method_20_code 65 = .ok (.ifCond .ne 7, 3) := by decide +kernel
theorem d_PS_doWithFirst_68 : decode prog_1_method_20_code 68 = .ok (.iconst 1, 1) := by decide +kernel
theorem d_PS_doWithFirst_69 : decode prog_1_method_20_code 69 = .ok (.goto 4, 3) := by decide +kernel
theorem d_PS_doWithFirst_72 : decode prog_1_method_20_code 72 = .ok (.iconst 0, 1) := by decide +kernel
theorem d_PS_doWithFirst_73 : decode prog_1_method_20_code 73 = .ok (.putfield 274, 3) := by decide +kernel
theorem d_PS_doWithFirst_76 : decode prog_1_method_20_code 76 = .ok (.aload_n 0, 1) := by decide +kernel
theorem d_PS_doWithFirst_77 : decode prog_1_method_20_code 77 = .ok (.iconst 0, 1) := by decide +kernel
theorem d_PS_doWithFirst_78 : decode prog_1_method_20_code 78 = .ok (.aload_n 0, 1) := by decide +kernel
theorem d_PS_doWithFirst_79 : decode prog_1_method_20_code 79 = .ok (.getfield 66, 3) := by decide +kernel
theorem d_PS_doWithFirst_82 : decode prog_1_method_20_code 82 = .ok (.invokevirtual 278, 3) := by decide +kernel
theorem d_PS_doWithFirst_85 : decode prog_1_method_20_code 85 = .ok (.return_, 1) := by decide +kernel
theorem d_PS_extract_0 : decode prog_1_method_33_code 0 = .ok (.aload_n 0, 1) := by decide +kernel
theorem d_PS_extract_1 : decode prog_1_method_33_code 1 = .ok (.iconst 0, 1) := by decide +kernel
theorem d_PS_extract_2 : decode prog_1_method_33_code 2 = .ok (.aload_n 0, 1) := by decide +kernel
theorem d_PS_extract_3 : decode prog_1_method_33_code 3 = .ok (.getfield 66, 3) := by decide +kernel
theorem d_PS_extract_6 : decode prog_1_method_33_code 6 = .ok (.invokevirtual 197, 3) := by decide +kernel
theorem d_PS_extract_9 : decode prog_1_method_33_code 9 = .ok (.aload_n 0, 1) := by decide +kernel
theorem d_PS_extract_10 : decode prog_1_method_33_code 10 = .ok (.getfield 61, 3) := by decide +kernel
theorem d_PS_extract_13 : decode prog_1_method_33_code 13 = .ok (.aload_n 0, 1) := by decide +kernel
theorem d_PS_extract_14 : decode prog_1_method_33_code 14 = .ok (.bipush 7, 2) := by decide +kernel
theorem d_PS_extract_16 : decode prog_1_method_33_code 16 = .ok (.invokevirtual 168, 3) := by decide +kernel
theorem d_PS_extract_19 : decode prog_1_method_33_code 19 = .ok (.baload, 1) := by decide +kernel
theorem d_PS_extract_20 : decode prog_1_method_33_code 20 = .ok (.ifCond .ne 7, 3) := by decide +kernel
theorem d_PS_extract_23 : decode prog_1_method_33_code 23 = .ok (.iconst 1, 1) := by decide +kernel
theorem d_PS_extract_24 : decode prog_1_method_33_code 24 = .ok (.goto 4, 3) := by decide +kernel
theorem d_PS_extract_27 : decode prog_1_method_33_code 27 = .ok (.iconst 0, 1) := by decide +kernel
theorem d_PS_extract_28 : decode prog_1_method_33_code 28 = .ok (.istore_n 1, 1) := by decide +kernel
theorem d_PS_extract_29 : decode prog_1_method_33_code 29 = .ok (.iload_n 1, 1) := by decide +kernel
theorem d_PS_extract_30 : decode prog_1_method_33_code 30 = .ok (.ifCond .eq 11, 3) := by decide +kernel
theorem d_PS_extract_33 : decode prog_1_method_33_code 33 = .ok (.aload_n 0, 1) := by decide +kernel
theorem d_PS_extract_34 : decode prog_1_method_33_code 34 = .ok (.getfield 19, 3) := by decide +kernel
theorem d_PS_extract_37 : decode prog_1_method_33_code 37 = .ok (.iconst 1, 1) := by decide +kernel
theorem d_PS_extract_38 : decode prog_1_method_33_code 38 = .ok (.invokevirtual 305, 3) := by decide +kernel
theorem d_PS_extract_41 : decode prog_1_method_33_code 41 = .ok (.aload_n 0, 1) := by decide +kernel
theorem d_PS_extract_42 : decode prog_1_method_33_code 42 = .ok (.getfield 19, 3) := by decide +kernel
theorem d_PS_extract_45 : decode prog_1_method_33_code 45 = .ok (.invokevirtual 201, 3) := by decide +kernel
theorem d_PS_extract_48 : decode prog_1_method_33_code 48 = .ok (.ifCond .eq 4, 3) := by decide +kernel
theorem d_PS_extract_51 : decode prog_1_method_33_code 51 = .ok (.return_, 1) := by decide +kernel
theorem d_PS_extract_52 : decode prog_1_method_33_code 52 = .ok (.aload_n 0, 1) := by decide +kernel
theorem d_PS_extract_53 : decode prog_1_method_33_code 53 = .ok (.getfield 35, 3) := by decide +kernel
theorem d_PS_extract_56 : decode prog_1_method_33_code 56 = .ok (.aload_n 0, 1) := by decide +kernel
theorem d_PS_extract_57 : decode prog_1_method_33_code 57 = .ok (.getfield 66, 3) := by decide +kernel
theorem d_PS_extract_60 : decode prog_1_method_33_code 60 = .ok (.aload_n 0, 1) := by decide +kernel
theorem d_PS_extract_61 : decode prog_1_method_33_code 61 = .ok (.getfield 73, 3) := by decide +kernel
theorem d_PS_extract_64 : decode prog_1_method_33_code 64 = .ok (.aload_n 0, 1) := by decide +kernel
theorem d_PS_extract_65 : decode prog_1_method_33_code 65 = .ok (.getfield 76, 3) := by decide +kernel
theorem d_PS_extract_68 : decode prog_1_method_33_code 68 = .ok (.invokevirtual 323, 3) := by decide +kernel
theorem d_PS_extract_71 : decode prog_1_method_33_code 71 = .ok (.aload_n 0, 1) := by decide +kernel
theorem d_PS_extract_72 : decode prog_1_method_33_code 72 = .ok (.getfield 19, 3) := by decide +kernel
theorem d_PS_extract_75 : decode prog_1_method_33_code 75 = .ok (.invokevirtual 201, 3) := by decide +kernel
theorem d_PS_extract_78 : decode prog_1_method_33_code 78 = .ok (.ifCond .eq 4, 3) := by decide +kernel
theorem d_PS_extract_81 : decode prog_1_method_33_code 81 = .ok (.return_, 1) := by decide +kernel
theorem d_PS_extract_82 : decode prog_1_method_33_code 82 = .ok (.iload_n 1, 1) := by decide +kernel
theorem d_PS_extract_83 : decode prog_1_method_33_code 83 = .ok (.ifCond .eq 10, 3) := by decide +kernel
theorem d_PS_extract_86 : decode prog_1_method_33_code 86 = .ok (.aload_n 0, 1) := by decide +kernel
theorem d_PS_extract_87 : decode prog_1_method_33_code 87 = .ok (.getfield 76, 3) := by decide +kernel
theorem d_PS_extract_90 : decode prog_1_method_33_code 90 = .ok (.invokevirtual 308, 3) := by decide +kernel
theorem d_PS_extract_93 : decode prog_1_method_33_code 93 = .ok (.aload_n 0, 1) := by decide +kernel
theorem d_PS_extract_94 : decode prog_1_method_33_code 94 = .ok (.iconst 0, 1) := by decide +kernel
theorem d_PS_extract_95 : decode prog_1_method_33_code 95 = .ok (.aload_n 0, 1) := by decide +kernel
theorem d_PS_extract_96 : decode prog_1_method_33_code 96 = .ok (.getfield 73, 3) := by decide +kernel
theorem d_PS_extract_99 : decode prog_1_method_33_code 99 = .ok (.invokevirtual 278, 3) := by decide +kernel
theorem d_PS_extract_102 : decode prog_1_method_33_code 102 = .ok (.aload_n 0, 1) := by decide +kernel
theorem d_PS_extract_103 : decode prog_1_method_33_code 103 = .ok (.aload_n 0, 1) := by decide +kernel
theorem d_PS_extract_104 : decode prog_1_method_33_code 104 = .ok (.bipush 7, 2) := by decide +kernel
theorem d_PS_extract_106 : decode prog_1_method_33_code 106 = .ok (.invokevirtual 168, 3) := by decide +kernel
theorem d_PS_extract_109 : decode prog_1_method_33_code 109 = .ok (.putfield 183, 3) := by decide +kernel
theorem d_PS_extract_112 : decode prog_1_method_33_code 112 = .ok (.aload_n 0, 1) := by decide +kernel
theorem d_PS_extract_113 : decode prog_1_method_33_code 113 = .ok (.iconst 0, 1) := by decide +kernel
theorem d_PS_extract_114 : decode prog_1_method_33_code 114 = .ok (.aload_n 0, 1) := by decide +kernel
theorem d_PS_extract_115 : decode prog_1_method_33_code 115 = .ok (.getfield 76, 3) := by decide +kernel
theorem d_PS_extract_118 : decode prog_1_method_33_code 118 = .ok (.invokevirtual 278, 3) := by decide +kernel
theorem d_PS_extract_121 : decode prog_1_method_33_code 121 = .ok (.return_, 1) := by decide +kernel
theorem d_PS_showQuotient_0 : decode prog_1_method_35_code 0 = .ok (.aload_n 0, 1) := by decide +kernel
theorem d_PS_showQuotient_1 : decode prog_1_method_35_code 1 = .ok (.getfield 35, 3) := by decide +kernel
theorem d_PS_showQuotient_4 : decode prog_1_method_35_code 4 = .ok (.getfield 331, 3) := by decide +kernel
theorem d_PS_showQuotient_7 : decode prog_1_method_35_code 7 = .ok (.istore_n 1, 1) := by decide +kernel
theorem d_PS_showQuotient_8 : decode prog_1_method_35_code 8 = .ok (.aload_n 0, 1) := by decide +kernel
theorem d_PS_showQuotient_9 : decode prog_1_method_35_code 9 = .ok (.aload_n 0, 1) := by decide +kernel
theorem d_PS_showQuotient_10 : decode prog_1_method_35_code 10 = .ok (.getfield 35, 3) := by decide +kernel
theorem d_PS_showQuotient_13 : decode prog_1_method_35_code 13 = .ok (.getfield 334, 3) := by decide +kernel
theorem d_PS_showQuotient_16 : decode prog_1_method_35_code 16 = .ok (.ifCond .eq 9, 3) := by decide +kernel
theorem d_PS_showQuotient_19 : decode prog_1_method_35_code 19 = .ok (.sipush 1024, 3) := by decide +kernel
theorem d_PS_showQuotient_22 : decode prog_1_method_35_code 22 = .ok (.goto 4, 3) := by decide +kernel
theorem d_PS_showQuotient_25 : decode prog_1_method_35_code 25 = .ok (.iconst 0, 1) := by decide +kernel
theorem d_PS_showQuotient_26 : decode prog_1_method_35_code 26 = .ok (.putfield 185, 3) := by decide +kernel
theorem d_PS_showQuotient_29 : decode prog_1_method_35_code 29 = .ok (.aload_n 0, 1) := by decide +kernel
theorem d_PS_showQuotient_30 : decode prog_1_method_35_code 30 = .ok (.dup, 1) := by decide +kernel
theorem d_PS_showQuotient_31 : decode prog_1_method_35_code 31 = .ok (.getfield 185, 3) := by decide +kernel
theorem d_PS_showQuotient_34 : decode prog_1_method_35_code 34 = .ok (.iload_n 1, 1) := by decide +kernel
theorem d_PS_showQuotient_35 : decode prog_1_method_35_code 35 = .ok (.iconst 4, 1) := by decide +kernel
theorem d_PS_showQuotient_36 : decode prog_1_method_35_code 36 = .ok (.iand, 1) := by decide +kernel
theorem d_PS_showQuotient_37 : decode prog_1_method_35_code 37 = .ok (.ifCond .eq 9, 3) := by decide +kernel
theorem d_PS_showQuotient_40 : decode prog_1_method_35_code 40 = .ok (.sipush 256, 3) := by decide +kernel
theorem d_PS_showQuotient_43 : decode prog_1_method_35_code 43 = .ok (.goto 4, 3) := by decide +kernel
theorem d_PS_showQuotient_46 : decode prog_1_method_35_code 46 = .ok (.iconst 0, 1) := by decide +kernel
theorem d_PS_showQuotient_47 : decode prog_1_method_35_code 47 = .ok (.ior, 1) := by decide +kernel
theorem d_PS_showQuotient_48 : decode prog_1_method_35_code 48 = .ok (.putfield 185, 3) := by decide +kernel
theorem d_PS_showQuotient_51 : decode prog_1_method_35_code 51 = .ok (.aload_n 0, 1) := by decide +kernel
theorem d_PS_showQuotient_52 : decode prog_1_method_35_code 52 = .ok (.dup, 1) := by decide +kernel
theorem d_PS_showQuotient_53 : decode prog_1_method_35_code 53 = .ok (.getfield 185, 3) := by decide +kernel
theorem d_PS_showQuotient_56 : decode prog_1_method_35_code 56 = .ok (.iload_n 1, 1) := by decide +kernel
theorem d_PS_showQuotient_57 : decode prog_1_method_35_code 57 = .ok (.iconst 2, 1) := by decide +kernel
theorem d_PS_showQuotient_58 : decode prog_1_method_35_code 58 = .ok (.iand, 1) := by decide +kernel
theorem d_PS_showQuotient_59 : decode prog_1_method_35_code 59 = .ok (.ifCond .eq 9, 3) := by decide +kernel
theorem d_PS_showQuotient_62 : decode prog_1_method_35_code 62 = .ok (.sipush 16384, 3) := by decide +kernel
theorem d_PS_showQuotient_65 : decode prog_1_method_35_code 65 = .ok (.goto 4, 3) := by decide +kernel
theorem d_PS_showQuotient_68 : decode prog_1_method_35_code 68 = .ok (.iconst 0, 1) := by decide +kernel
theorem d_PS_showQuotient_69 : decode prog_1_method_35_code 69 = .ok (.ior, 1) := by decide +kernel
theorem d_PS_showQuotient_70 : decode prog_1_method_35_code 70 = .ok (.putfield 185, 3) := by decide +kernel
theorem d_PS_showQuotient_73 : decode prog_1_method_35_code 73 = .ok (.aload_n 0, 1) := by decide +kernel
theorem d_PS_showQuotient_74 : decode prog_1_method_35_code 74 = .ok (.dup, 1) := by decide +kernel
theorem d_PS_showQuotient_75 : decode prog_1_method_35_code 75 = .ok (.getfield 185, 3) := by decide +kernel
theorem d_PS_showQuotient_78 : decode prog_1_method_35_code 78 = .ok (.iload_n 1, 1) := by decide +kernel
theorem d_PS_showQuotient_79 : decode prog_1_method_35_code 79 = .ok (.iconst 1, 1) := by decide +kernel
theorem d_PS_showQuotient_80 : decode prog_1_method_35_code 80 = .ok (.iand, 1) := by decide +kernel
theorem d_PS_showQuotient_81 : decode prog_1_method_35_code 81 = .ok (.ifCond .eq 9, 3) := by decide +kernel
theorem d_PS_showQuotient_84 : decode prog_1_method_35_code 84 = .ok (.sipush 512, 3) := by decide +kernel
theorem d_PS_showQuotient_87 : decode prog_1_method_35_code 87 = .ok (.goto 4, 3) := by decide +kernel
theorem d_PS_showQuotient_90 : decode prog_1_method_35_code 90 = .ok (.iconst 0, 1) := by decide +kernel
theorem d_PS_showQuotient_91 : decode prog_1_method_35_code 91 = .ok (.ior, 1) := by decide +kernel
theorem d_PS_showQuotient_92 : decode prog_1_method_35_code 92 = .ok (.putfield 185, 3) := by decide +kernel
theorem d_PS_showQuotient_95 : decode prog_1_method_35_code 95 = .ok (.return_, 1) := by decide +kernel
theorem d_PS_doStep_0 : decode prog_1_method_21_code 0 = .ok (.aload_n 0, 1) := by decide +kernel
theorem d_PS_doStep_1 : decode prog_1_method_21_code 1 = .ok (.iconst 0, 1) := by decide +kernel
theorem d_PS_doStep_2 : decode prog_1_method_21_code 2 = .ok (.aload_n 0, 1) := by decide +kernel
theorem d_PS_doStep_3 : decode prog_1_method_21_code 3 = .ok (.getfield 66, 3) := by decide +kernel
theorem d_PS_doStep_6 : decode prog_1_method_21_code 6 = .ok (.invokevirtual 197, 3) := by decide +kernel
theorem d_PS_doStep_9 : decode prog_1_method_21_code 9 = .ok (.iload_n 1, 1) := by decide +kernel
theorem d_PS_doStep_10 : decode prog_1_method_21_code 10 = .ok (.ifCond .eq 8, 3) := by decide +kernel
theorem d_PS_doStep_13 : decode prog_1_method_21_code 13 = .ok (.iload_n 1, 1) := by decide +kernel
theorem d_PS_doStep_14 : decode prog_1_method_21_code 14 = .ok (.iconst 5, 1) := by decide +kernel
theorem d_PS_doStep_15 : decode prog_1_method_21_code 15 = .ok (.if_icmp .ne 12, 3) := by decide +kernel
theorem d_PS_doStep_18 : decode prog_1_method_21_code 18 = .ok (.aload_n 0, 1) := by decide +kernel
theorem d_PS_doStep_19 : decode prog_1_method_21_code 19 = .ok (.iconst 1, 1) := by decide +kernel
theorem d_PS_doStep_20 : decode prog_1_method_21_code 20 = .ok (.aload_n 0, 1) := by decide +kernel
theorem d_PS_doStep_21 : decode prog_1_method_21_code 21 = .ok (.getfield 70, 3) := by decide +kernel
theorem d_PS_doStep_24 : decode prog_1_method_21_code 24 = .ok (.invokevirtual 197, 3) := by decide +kernel
theorem d_PS_doStep_27 : decode prog_1_method_21_code 27 = .ok (.aload_n 0, 1) := by decide +kernel
theorem d_PS_doStep_28 : decode prog_1_method_21_code 28 = .ok (.getfield 19, 3) := by decide +kernel
theorem d_PS_doStep_31 : decode prog_1_method_21_code 31 = .ok (.invokevirtual 201, 3) := by decide +kernel
theorem d_PS_doStep_34 : decode prog_1_method_21_code 34 = .ok (.ifCond .eq 4, 3) := by decide +kernel
theorem d_PS_doStep_37 : decode prog_1_method_21_code 37 = .ok (.return_, 1) := by decide +kernel
theorem d_PS_doStep_38 : decode prog_1_method_21_code 38 = .ok (.iload_n 1, 1) := by decide +kernel
theorem d_PS_doStep_39 : decode prog_1_method_21_code 39 = .ok (.ifCond .ne 25, 3) := by decide +kernel
theorem d_PS_doStep_42 : decode prog_1_method_21_code 42 = .ok (.aload_n 0, 1) := by decide +kernel
theorem d_PS_doStep_43 : decode prog_1_method_21_code 43 = .ok (.getfield 35, 3) := by decide +kernel
theorem d_PS_doStep_46 : decode prog_1_method_21_code 46 = .ok (.aload_n 0, 1) := by decide +kernel
theorem d_PS_doStep_47 : decode prog_1_method_21_code 47 = .ok (.getfield 66, 3) := by decide +kernel
theorem d_PS_doStep_50 : decode prog_1_method_21_code 50 = .ok (.aload_n 0, 1) := by decide +kernel
theorem d_PS_doStep_51 : decode prog_1_method_21_code 51 = .ok (.getfield 70, 3) := by decide +kernel
theorem d_PS_doStep_54 : decode prog_1_method_21_code 54 = .ok (.aload_n 0, 1) := by decide +kernel
theorem d_PS_doStep_55 : decode prog_1_method_21_code 55 = .ok (.getfield 73, 3) := by decide +kernel
theorem d_PS_doStep_58 : decode prog_1_method_21_code 58 = .ok (.invokevirtual 281, 3) := by decide +kernel
theorem d_PS_doStep_61 : decode prog_1_method_21_code 61 = .ok (.goto 73, 3) := by decide +kernel
theorem d_PS_doStep_64 : decode prog_1_method_21_code 64 = .ok (.iload_n 1, 1) := by decide +kernel
theorem d_PS_doStep_65 : decode prog_1_method_21_code 65 = .ok (.iconst 2, 1) := by decide +kernel
theorem d_PS_doStep_66 : decode prog_1_method_21_code 66 = .ok (.if_icmp .ne 26, 3) := by decide +kernel
theorem d_PS_doStep_69 : decode prog_1_method_21_code 69 = .ok (.aload_n 0, 1) := by decide +kernel
theorem d_PS_doStep_70 : decode prog_1_method_21_code 70 = .ok (.getfield 28, 3) := by decide +kernel
theorem d_PS_doStep_73 : decode prog_1_method_21_code 73 = .ok (.iconst 4, 1) := by decide +kernel
theorem d_PS_doStep_74 : decode prog_1_method_21_code 74 = .ok (.aload_n 0, 1) := by decide +kernel
theorem d_PS_doStep_75 : decode prog_1_method_21_code 75 = .ok (.getfield 66, 3) := by decide +kernel
theorem d_PS_doStep_78 : decode prog_1_method_21_code 78 = .ok (.aload_n 0, 1) := by decide +kernel
theorem d_PS_doStep_79 : decode prog_1_method_21_code 79 = .ok (.getfield 66, 3) := by decide +kernel
theorem d_PS_doStep_82 : decode prog_1_method_21_code 82 = .ok (.aload_n 0, 1) := by decide +kernel
theorem d_PS_doStep_83 : decode prog_1_method_21_code 83 = .ok (.getfield 73, 3) := by decide +kernel
theorem d_PS_doStep_86 : decode prog_1_method_21_code 86 = .ok (.invokevirtual 285, 3) := by decide +kernel
theorem d_PS_doStep_89 : decode prog_1_method_21_code 89 = .ok (.goto 45, 3) := by decide +kernel
theorem d_PS_doStep_92 : decode prog_1_method_21_code 92 = .ok (.iload_n 1, 1) := by decide +kernel
theorem d_PS_doStep_93 : decode prog_1_method_21_code 93 = .ok (.iconst 4, 1) := by decide +kernel
theorem d_PS_doStep_94 : decode prog_1_method_21_code 94 = .ok (.if_icmp .ne 21, 3) := by decide +kernel
theorem d_PS_doStep_97 : decode prog_1_method_21_code 97 = .ok (.aload_n 0, 1) := by decide +kernel
theorem d_PS_doStep_98 : decode prog_1_method_21_code 98 = .ok (.getfield 35, 3) := by decide +kernel
theorem d_PS_doStep_101 : decode prog_1_method_21_code 101 = .ok (.aload_n 0, 1) := by decide +kernel
theorem d_PS_doStep_102 : decode prog_1_method_21_code 102 = .ok (.getfield 66, 3) := by decide +kernel
theorem d_PS_doStep_105 : decode prog_1_method_21_code 105 = .ok (.aload_n 0, 1) := by decide +kernel
theorem d_PS_doStep_106 : decode prog_1_method_21_code 106 = .ok (.getfield 73, 3) := by decide +kernel
theorem d_PS_doStep_109 : decode prog_1_method_21_code 109 = .ok (.invokevirtual 289, 3) := by decide +kernel
theorem d_PS_doStep_112 : decode prog_1_method_21_code 112 = .ok (.goto 22, 3) := by decide +kernel
theorem d_PS_doStep_115 : decode prog_1_method_21_code 115 = .ok (.aload_n 0, 1) := by decide +kernel
theorem d_PS_doStep_116 : decode prog_1_method_21_code 116 = .ok (.getfield 35, 3) := by decide +kernel
theorem d_PS_doStep_119 : decode prog_1_method_21_code 119 = .ok (.aload_n 0, 1) := by decide +kernel
theorem d_PS_doStep_120 : decode prog_1_method_21_code 120 = .ok (.getfield 66, 3) := by decide +kernel
theorem d_PS_doStep_123 : decode prog_1_method_21_code 123 = .ok (.aload_n 0, 1) := by decide +kernel
theorem d_PS_doStep_124 : decode prog_1_method_21_code 124 = .ok (.getfield 70, 3) := by decide +kernel
theorem d_PS_doStep_127 : decode prog_1_method_21_code 127 = .ok (.aload_n 0, 1) := by decide +kernel
theorem d_PS_doStep_128 : decode prog_1_method_21_code 128 = .ok (.getfield 73, 3) := by decide +kernel
theorem d_PS_doStep_131 : decode prog_1_method_21_code 131 = .ok (.invokevirtual 293, 3) := by decide +kernel
theorem d_PS_doStep_134 : decode prog_1_method_21_code 134 = .ok (.aload_n 0, 1) := by decide +kernel
theorem d_PS_doStep_135 : decode prog_1_method_21_code 135 = .ok (.getfield 19, 3) := by decide +kernel
theorem d_PS_doStep_138 : decode prog_1_method_21_code 138 = .ok (.invokevirtual 201, 3) := by decide +kernel
theorem d_PS_doStep_141 : decode prog_1_method_21_code 141 = .ok (.ifCond .eq 4, 3) := by decide +kernel
theorem d_PS_doStep_144 : decode prog_1_method_21_code 144 = .ok (.return_, 1) := by decide +kernel
theorem d_PS_doStep_145 : decode prog_1_method_21_code 145 = .ok (.aload_n 0, 1) := by decide +kernel
theorem d_PS_doStep_146 : decode prog_1_method_21_code 146 = .ok (.iconst 0, 1) := by decide +kernel
theorem d_PS_doStep_147 : decode prog_1_method_21_code 147 = .ok (.aload_n 0, 1) := by decide +kernel
theorem d_PS_doStep_148 : decode prog_1_method_21_code 148 = .ok (.getfield 73, 3) := by decide +kernel
theorem d_PS_doStep_151 : decode prog_1_method_21_code 151 = .ok (.invokevirtual 278, 3) := by decide +kernel
theorem d_PS_doStep_154 : decode prog_1_method_21_code 154 = .ok (.iload_n 1, 1) := by decide +kernel
theorem d_PS_doStep_155 : decode prog_1_method_21_code 155 = .ok (.ifCond .ne 17, 3) := by decide +kernel
theorem d_PS_doStep_158 : decode prog_1_method_21_code 158 = .ok (.aload_n 0, 1) := by decide +kernel
theorem d_PS_doStep_159 : decode prog_1_method_21_code 159 = .ok (.getfield 35, 3) := by decide +kernel
theorem d_PS_doStep_162 : decode prog_1_method_21_code 162 = .ok (.getfield 296, 3) := by decide +kernel
theorem d_PS_doStep_165 : decode prog_1_method_21_code 165 = .ok (.ifCond .eq 7, 3) := by decide +kernel
theorem d_PS_doStep_168 : decode prog_1_method_21_code 168 = .ok (.aload_n 0, 1) := by decide +kernel
theorem d_PS_doStep_169 : decode prog_1_method_21_code 169 = .ok (.invokevirtual 299, 3) := by decide +kernel
theorem d_PS_doStep_172 : decode prog_1_method_21_code 172 = .ok (.return_, 1) := by decide +kernel
theorem d_PS_doOwn_0 : decode prog_1_method_19_code 0 = .ok (.iload_n 1, 1) := by decide +kernel
theorem d_PS_doOwn_1 : decode prog_1_method_19_code 1 = .ok (.tableswitch 155 0 7 #[47, 67, 155, 155, 75, 83, 112, 147], 47) := by decide +kernel
theorem d_PS_doOwn_48 : decode prog_1_method_19_code 48 = .ok (.aload_n 0, 1) := by decide +kernel
theorem d_PS_doOwn_49 : decode prog_1_method_19_code 49 = .ok (.iload_n 2, 1) := by decide +kernel
theorem d_PS_doOwn_50 : decode prog_1_method_19_code 50 = .ok (.aload_n 0, 1) := by decide +kernel
theorem d_PS_doOwn_51 : decode prog_1_method_19_code 51 = .ok (.getfield 66, 3) := by decide +kernel
theorem d_PS_doOwn_54 : decode prog_1_method_19_code 54 = .ok (.invokevirtual 197, 3) := by decide +kernel
theorem d_PS_doOwn_57 : decode prog_1_method_19_code 57 = .ok (.aload_n 0, 1) := by decide +kernel
theorem d_PS_doOwn_58 : decode prog_1_method_19_code 58 = .ok (.aload_n 0, 1) := by decide +kernel
theorem d_PS_doOwn_59 : decode prog_1_method_19_code 59 = .ok (.getfield 66, 3) := by decide +kernel
theorem d_PS_doOwn_62 : decode prog_1_method_19_code 62 = .ok (.invokevirtual 237, 3) := by decide +kernel
theorem d_PS_doOwn_65 : decode prog_1_method_19_code 65 = .ok (.goto 91, 3) := by decide +kernel
theorem d_PS_doOwn_68 : decode prog_1_method_19_code 68 = .ok (.aload_n 0, 1) := by decide +kernel
theorem d_PS_doOwn_69 : decode prog_1_method_19_code 69 = .ok (.iload_n 2, 1) := by decide +kernel
theorem d_PS_doOwn_70 : decode prog_1_method_19_code 70 = .ok (.invokevirtual 241, 3) := by decide +kernel
theorem d_PS_doOwn_73 : decode prog_1_method_19_code 73 = .ok (.goto 83, 3) := by decide +kernel
theorem d_PS_doOwn_76 : decode prog_1_method_19_code 76 = .ok (.aload_n 0, 1) := by decide +kernel
theorem d_PS_doOwn_77 : decode prog_1_method_19_code 77 = .ok (.iload_n 2, 1) := by decide +kernel
theorem d_PS_doOwn_78 : decode prog_1_method_19_code 78 = .ok (.invokevirtual 244, 3) := by decide +kernel
theorem d_PS_doOwn_81 : decode prog_1_method_19_code 81 = .ok (.goto 75, 3) := by decide +kernel
theorem d_PS_doOwn_84 : decode prog_1_method_19_code 84 = .ok (.aload_n 0, 1) := by decide +kernel
theorem d_PS_doOwn_85 : decode prog_1_method_19_code 85 = .ok (.getfield 73, 3) := by decide +kernel
theorem d_PS_doOwn_88 : decode prog_1_method_19_code 88 = .ok (.iconst 0, 1) := by decide +kernel
theorem d_PS_doOwn_89 : decode prog_1_method_19_code 89 = .ok (.getstatic 247, 3) := by decide +kernel
theorem d_PS_doOwn_92 : decode prog_1_method_19_code 92 = .ok (.iload_n 2, 1) := by decide +kernel
theorem d_PS_doOwn_93 : decode prog_1_method_19_code 93 = .ok (.iaload, 1) := by decide +kernel
theorem d_PS_doOwn_94 : decode prog_1_method_19_code 94 = .ok (.getstatic 250, 3) := by decide +kernel
theorem d_PS_doOwn_97 : decode prog_1_method_19_code 97 = .ok (.iload_n 2, 1) := by decide +kernel
theorem d_PS_doOwn_98 : decode prog_1_method_19_code 98 = .ok (.laload, 1) := by decide +kernel
theorem d_PS_doOwn_99 : decode prog_1_method_19_code 99 = .ok (.invokevirtual 254, 3) := by decide +kernel
theorem d_PS_doOwn_102 : decode prog_1_method_19_code 102 = .ok (.aload_n 0, 1) := by decide +kernel
theorem d_PS_doOwn_103 : decode prog_1_method_19_code 103 = .ok (.aload_n 0, 1) := by decide +kernel
theorem d_PS_doOwn_104 : decode prog_1_method_19_code 104 = .ok (.getfield 73, 3) := by decide +kernel
theorem d_PS_doOwn_107 : decode prog_1_method_19_code 107 = .ok (.invokevirtual 237, 3) := by decide +kernel
theorem d_PS_doOwn_110 : decode prog_1_method_19_code 110 = .ok (.goto 46, 3) := by decide +kernel
theorem d_PS_doOwn_113 : decode prog_1_method_19_code 113 = .ok (.iload_n 2, 1) := by decide +kernel
theorem d_PS_doOwn_114 : decode prog_1_method_19_code 114 = .ok (.iconst 4, 1) := by decide +kernel
theorem d_PS_doOwn_115 : decode prog_1_method_19_code 115 = .ok (.if_icmp .ne 10, 3) := by decide +kernel
theorem d_PS_doOwn_118 : decode prog_1_method_19_code 118 = .ok (.aload_n 0, 1) := by decide +kernel
theorem d_PS_doOwn_119 : decode prog_1_method_19_code 119 = .ok (.invokevirtual 258, 3) := by decide +kernel
theorem d_PS_doOwn_122 : decode prog_1_method_19_code 122 = .ok (.goto 34, 3) := by decide +kernel
theorem d_PS_doOwn_125 : decode prog_1_method_19_code 125 = .ok (.aload_n 0, 1) := by decide +kernel
theorem d_PS_doOwn_126 : decode prog_1_method_19_code 126 = .ok (.aload_n 0, 1) := by decide +kernel
theorem d_PS_doOwn_127 : decode prog_1_method_19_code 127 = .ok (.iload_n 2, 1) := by decide +kernel
theorem d_PS_doOwn_128 : decode prog_1_method_19_code 128 = .ok (.bipush 6, 2) := by decide +kernel
theorem d_PS_doOwn_130 : decode prog_1_method_19_code 130 = .ok (.if_icmp .ne 8, 3) := by decide +kernel
theorem d_PS_doOwn_133 : decode prog_1_method_19_code 133 = .ok (.bipush 7, 2) := by decide +kernel
theorem d_PS_doOwn_135 : decode prog_1_method_19_code 135 = .ok (.goto 4, 3) := by decide +kernel
theorem d_PS_doOwn_138 : decode prog_1_method_19_code 138 = .ok (.iconst 1, 1) := by decide +kernel
theorem d_PS_doOwn_139 : decode prog_1_method_19_code 139 = .ok (.invokevirtual 168, 3) := by decide +kernel
theorem d_PS_doOwn_142 : decode prog_1_method_19_code 142 = .ok (.putfield 183, 3) := by decide +kernel
theorem d_PS_doOwn_145 : decode prog_1_method_19_code 145 = .ok (.goto 11, 3) := by decide +kernel
theorem d_PS_doOwn_148 : decode prog_1_method_19_code 148 = .ok (.aload_n 0, 1) := by decide +kernel
theorem d_PS_doOwn_149 : decode prog_1_method_19_code 149 = .ok (.iload_n 2, 1) := by decide +kernel
theorem d_PS_doOwn_150 : decode prog_1_method_19_code 150 = .ok (.invokevirtual 261, 3) := by decide +kernel
theorem d_PS_doOwn_153 : decode prog_1_method_19_code 153 = .ok (.goto 3, 3) := by decide +kernel
theorem d_PS_doOwn_156 : decode prog_1_method_19_code 156 = .ok (.return_, 1) := by decide +kernel
theorem d_PS_doWithControl_0 : decode prog_1_method_22_code 0 = .ok (.iload_n 1, 1) := by decide +kernel
theorem d_PS_doWithControl_1 : decode prog_1_method_22_code 1 = .ok (.tableswitch 71 0 2 #[27, 45, 63], 27) := by decide +kernel
theorem d_PS_doWithControl_28 : decode prog_1_method_22_code 28 = .ok (.aload_n 0, 1) := by decide +kernel
theorem d_PS_doWithControl_29 : decode prog_1_method_22_code 29 = .ok (.getfield 19, 3) := by decide +kernel
theorem d_PS_doWithControl_32 : decode prog_1_method_22_code 32 = .ok (.dup, 1) := by decide +kernel
theorem d_PS_doWithControl_33 : decode prog_1_method_22_code 33 = .ok (.getfield 152, 3) := by decide +kernel
theorem d_PS_doWithControl_36 : decode prog_1_method_22_code 36 = .ok (.sipush (-129), 3) := by decide +kernel
theorem d_PS_doWithControl_39 : decode prog_1_method_22_code 39 = .ok (.iand, 1) := by decide +kernel
theorem d_PS_doWithControl_40 : decode prog_1_method_22_code 40 = .ok (.putfield 152, 3) := by decide +kernel
theorem d_PS_doWithControl_43 : decode prog_1_method_22_code 43 = .ok (.goto 33, 3) := by decide +kernel
theorem d_PS_doWithControl_46 : decode prog_1_method_22_code 46 = .ok (.aload_n 0, 1) := by decide +kernel
theorem d_PS_doWithControl_47 : decode prog_1_method_22_code 47 = .ok (.getfield 19, 3) := by decide +kernel
theorem d_PS_doWithControl_50 : decode prog_1_method_22_code 50 = .ok (.dup, 1) := by decide +kernel
theorem d_PS_doWithControl_51 : decode prog_1_method_22_code 51 = .ok (.getfield 152, 3) := by decide +kernel
theorem d_PS_doWithControl_54 : decode prog_1_method_22_code 54 = .ok (.sipush 128, 3) := by decide +kernel
theorem d_PS_doWithControl_57 : decode prog_1_method_22_code 57 = .ok (.ior, 1) := by decide +kernel
theorem d_PS_doWithControl_58 : decode prog_1_method_22_code 58 = .ok (.putfield 152, 3) := by decide +kernel
theorem d_PS_doWithControl_61 : decode prog_1_method_22_code 61 = .ok (.goto 15, 3) := by decide +kernel
theorem d_PS_doWithControl_64 : decode prog_1_method_22_code 64 = .ok (.aload_n 0, 1) := by decide +kernel
theorem d_PS_doWithControl_65 : decode prog_1_method_22_code 65 = .ok (.iconst 0, 1) := by decide +kernel
theorem d_PS_doWithControl_66 : decode prog_1_method_22_code 66 = .ok (.putfield 131, 3) := by decide +kernel
theorem d_PS_doWithControl_69 : decode prog_1_method_22_code 69 = .ok (.goto 7, 3) := by decide +kernel
theorem d_PS_doWithControl_72 : decode prog_1_method_22_code 72 = .ok (.aload_n 0, 1) := by decide +kernel
theorem d_PS_doWithControl_73 : decode prog_1_method_22_code 73 = .ok (.invokevirtual 79, 3) := by decide +kernel
theorem d_PS_doWithControl_76 : decode prog_1_method_22_code 76 = .ok (.return_, 1) := by decide +kernel
theorem d_PS_move_0 : decode prog_1_method_23_code 0 = .ok (.iload_n 1, 1) := by decide +kernel
theorem d_PS_move_1 : decode prog_1_method_23_code 1 = .ok (.ifCond .ne 15, 3) := by decide +kernel
theorem d_PS_move_4 : decode prog_1_method_23_code 4 = .ok (.aload_n 0, 1) := by decide +kernel
theorem d_PS_move_5 : decode prog_1_method_23_code 5 = .ok (.getfield 61, 3) := by decide +kernel
theorem d_PS_move_8 : decode prog_1_method_23_code 8 = .ok (.aload_n 0, 1) := by decide +kernel
theorem d_PS_move_9 : decode prog_1_method_23_code 9 = .ok (.iload_n 2, 1) := by decide +kernel
theorem d_PS_move_10 : decode prog_1_method_23_code 10 = .ok (.invokevirtual 168, 3) := by decide +kernel
theorem d_PS_move_13 : decode prog_1_method_23_code 13 = .ok (.iconst 1, 1) := by decide +kernel
theorem d_PS_move_14 : decode prog_1_method_23_code 14 = .ok (.bastore, 1) := by decide +kernel
theorem d_PS_move_15 : decode prog_1_method_23_code 15 = .ok (.return_, 1) := by decide +kernel
theorem d_PS_move_16 : decode prog_1_method_23_code 16 = .ok (.aload_n 0, 1) := by decide +kernel
theorem d_PS_move_17 : decode prog_1_method_23_code 17 = .ok (.iconst 0, 1) := by decide +kernel
theorem d_PS_move_18 : decode prog_1_method_23_code 18 = .ok (.aload_n 0, 1) := by decide +kernel
theorem d_PS_move_19 : decode prog_1_method_23_code 19 = .ok (.getfield 66, 3) := by decide +kernel
theorem d_PS_move_22 : decode prog_1_method_23_code 22 = .ok (.invokevirtual 197, 3) := by decide +kernel
theorem d_PS_move_25 : decode prog_1_method_23_code 25 = .ok (.aload_n 0, 1) := by decide +kernel
theorem d_PS_move_26 : decode prog_1_method_23_code 26 = .ok (.getfield 19, 3) := by decide +kernel
theorem d_PS_move_29 : decode prog_1_method_23_code 29 = .ok (.invokevirtual 201, 3) := by decide +kernel
theorem d_PS_move_32 : decode prog_1_method_23_code 32 = .ok (.ifCond .eq 4, 3) := by decide +kernel
theorem d_PS_move_35 : decode prog_1_method_23_code 35 = .ok (.return_, 1) := by decide +kernel
theorem d_PS_move_36 : decode prog_1_method_23_code 36 = .ok (.aload_n 0, 1) := by decide +kernel
theorem d_PS_move_37 : decode prog_1_method_23_code 37 = .ok (.iload_n 2, 1) := by decide +kernel
theorem d_PS_move_38 : decode prog_1_method_23_code 38 = .ok (.aload_n 0, 1) := by decide +kernel
theorem d_PS_move_39 : decode prog_1_method_23_code 39 = .ok (.getfield 66, 3) := by decide +kernel
theorem d_PS_move_42 : decode prog_1_method_23_code 42 = .ok (.invokevirtual 278, 3) := by decide +kernel
theorem d_PS_move_45 : decode prog_1_method_23_code 45 = .ok (.iload_n 1, 1) := by decide +kernel
theorem d_PS_move_46 : decode prog_1_method_23_code 46 = .ok (.iconst 3, 1) := by decide +kernel
theorem d_PS_move_47 : decode prog_1_method_23_code 47 = .ok (.if_icmp .ne 7, 3) := by decide +kernel
theorem d_PS_move_50 : decode prog_1_method_23_code 50 = .ok (.aload_n 0, 1) := by decide +kernel
theorem d_PS_move_51 : decode prog_1_method_23_code 51 = .ok (.invokevirtual 302, 3) := by decide +kernel
theorem d_PS_move_54 : decode prog_1_method_23_code 54 = .ok (.return_, 1) := by decide +kernel
theorem d_PS_doWithRegisters_0 : decode prog_1_method_18_code 0 = .ok (.iload_n 1, 1) := by decide +kernel
theorem d_PS_doWithRegisters_1 : decode prog_1_method_18_code 1 = .ok (.tableswitch 162 0 6 #[43, 162, 162, 80, 88, 116, 125], 43) := by decide +kernel
theorem d_PS_doWithRegisters_44 : decode prog_1_method_18_code 44 = .ok (.aload_n 0, 1) := by decide +kernel
theorem d_PS_doWithRegisters_45 : decode prog_1_method_18_code 45 = .ok (.iconst 0, 1) := by decide +kernel
theorem d_PS_doWithRegisters_46 : decode prog_1_method_18_code 46 = .ok (.aload_n 0, 1) := by decide +kernel
theorem d_PS_doWithRegisters_47 : decode prog_1_method_18_code 47 = .ok (.getfield 66, 3) := by decide +kernel
theorem d_PS_doWithRegisters_50 : decode prog_1_method_18_code 50 = .ok (.invokevirtual 197, 3) := by decide +kernel
theorem d_PS_doWithRegisters_53 : decode prog_1_method_18_code 53 = .ok (.aload_n 0, 1) := by decide +kernel
theorem d_PS_doWithRegisters_54 : decode prog_1_method_18_code 54 = .ok (.iload_n 3, 1) := by decide +kernel
theorem d_PS_doWithRegisters_55 : decode prog_1_method_18_code 55 = .ok (.aload_n 0, 1) := by decide +kernel
theorem d_PS_doWithRegisters_56 : decode prog_1_method_18_code 56 = .ok (.getfield 70, 3) := by decide +kernel
theorem d_PS_doWithRegisters_59 : decode prog_1_method_18_code 59 = .ok (.invokevirtual 197, 3) := by decide +kernel
theorem d_PS_doWithRegisters_62 : decode prog_1_method_18_code 62 = .ok (.aload_n 0, 1) := by decide +kernel
theorem d_PS_doWithRegisters_63 : decode prog_1_method_18_code 63 = .ok (.iload_n 2, 1) := by decide +kernel
theorem d_PS_doWithRegisters_64 : decode prog_1_method_18_code 64 = .ok (.iconst 0, 1) := by decide +kernel
theorem d_PS_doWithRegisters_65 : decode prog_1_method_18_code 65 = .ok (.iload_n 2, 1) := by decide +kernel
theorem d_PS_doWithRegisters_66 : decode prog_1_method_18_code 66 = .ok (.iconst 3, 1) := by decide +kernel
theorem d_PS_doWithRegisters_67 : decode prog_1_method_18_code 67 = .ok (.if_icmp .ne 7, 3) := by decide +kernel
theorem d_PS_doWithRegisters_70 : decode prog_1_method_18_code 70 = .ok (.iconst 1, 1) := by decide +kernel
theorem d_PS_doWithRegisters_71 : decode prog_1_method_18_code 71 = .ok (.goto 4, 3) := by decide +kernel
theorem d_PS_doWithRegisters_74 : decode prog_1_method_18_code 74 = .ok (.iconst 0, 1) := by decide +kernel
theorem d_PS_doWithRegisters_75 : decode prog_1_method_18_code 75 = .ok (.invokevirtual 208, 3) := by decide +kernel
theorem d_PS_doWithRegisters_78 : decode prog_1_method_18_code 78 = .ok (.goto 85, 3) := by decide +kernel
theorem d_PS_doWithRegisters_81 : decode prog_1_method_18_code 81 = .ok (.aload_n 0, 1) := by decide +kernel
theorem d_PS_doWithRegisters_82 : decode prog_1_method_18_code 82 = .ok (.iload_n 3, 1) := by decide +kernel
theorem d_PS_doWithRegisters_83 : decode prog_1_method_18_code 83 = .ok (.invokevirtual 231, 3) := by decide +kernel
theorem d_PS_doWithRegisters_86 : decode prog_1_method_18_code 86 = .ok (.goto 77, 3) := by decide +kernel
theorem d_PS_doWithRegisters_89 : decode prog_1_method_18_code 89 = .ok (.aload_n 0, 1) := by decide +kernel
theorem d_PS_doWithRegisters_90 : decode prog_1_method_18_code 90 = .ok (.iconst 0, 1) := by decide +kernel
theorem d_PS_doWithRegisters_91 : decode prog_1_method_18_code 91 = .ok (.aload_n 0, 1) := by decide +kernel
theorem d_PS_doWithRegisters_92 : decode prog_1_method_18_code 92 = .ok (.getfield 66, 3) := by decide +kernel
theorem d_PS_doWithRegisters_95 : decode prog_1_method_18_code 95 = .ok (.invokevirtual 197, 3) := by decide +kernel
theorem d_PS_doWithRegisters_98 : decode prog_1_method_18_code 98 = .ok (.aload_n 0, 1) := by decide +kernel
theorem d_PS_doWithRegisters_99 : decode prog_1_method_18_code 99 = .ok (.iload_n 3, 1) := by decide +kernel
theorem d_PS_doWithRegisters_100 : decode prog_1_method_18_code 100 = .ok (.aload_n 0, 1) := by decide +kernel
theorem d_PS_doWithRegisters_101 : decode prog_1_method_18_code 101 = .ok (.getfield 70, 3) := by decide +kernel
theorem d_PS_doWithRegisters_104 : decode prog_1_method_18_code 104 = .ok (.invokevirtual 197, 3) := by decide +kernel
theorem d_PS_doWithRegisters_107 : decode prog_1_method_18_code 107 = .ok (.aload_n 0, 1) := by decide +kernel
theorem d_PS_doWithRegisters_108 : decode prog_1_method_18_code 108 = .ok (.iload_n 2, 1) := by decide +kernel
theorem d_PS_doWithRegisters_109 : decode prog_1_method_18_code 109 = .ok (.iload_n 3, 1) := by decide +kernel
theorem d_PS_doWithRegisters_110 : decode prog_1_method_18_code 110 = .ok (.iconst 0, 1) := by decide +kernel
theorem d_PS_doWithRegisters_111 : decode prog_1_method_18_code 111 = .ok (.invokevirtual 208, 3) := by decide +kernel
theorem d_PS_doWithRegisters_114 : decode prog_1_method_18_code 114 = .ok (.goto 49, 3) := by decide +kernel
theorem d_PS_doWithRegisters_117 : decode prog_1_method_18_code 117 = .ok (.aload_n 0, 1) := by decide +kernel
theorem d_PS_doWithRegisters_118 : decode prog_1_method_18_code 118 = .ok (.iload_n 2, 1) := by decide +kernel
theorem d_PS_doWithRegisters_119 : decode prog_1_method_18_code 119 = .ok (.iload_n 3, 1) := by decide +kernel
theorem d_PS_doWithRegisters_120 : decode prog_1_method_18_code 120 = .ok (.invokevirtual 234, 3) := by decide +kernel
theorem d_PS_doWithRegisters_123 : decode prog_1_method_18_code 123 = .ok (.goto 40, 3) := by decide +kernel
theorem d_PS_doWithRegisters_126 : decode prog_1_method_18_code 126 = .ok (.aload_n 0, 1) := by decide +kernel
theorem d_PS_doWithRegisters_127 : decode prog_1_method_18_code 127 = .ok (.iconst 0, 1) := by decide +kernel
theorem d_PS_doWithRegisters_128 : decode prog_1_method_18_code 128 = .ok (.aload_n 0, 1) := by decide +kernel
theorem d_PS_doWithRegisters_129 : decode prog_1_method_18_code 129 = .ok (.getfield 66, 3) := by decide +kernel
theorem d_PS_doWithRegisters_132 : decode prog_1_method_18_code 132 = .ok (.invokevirtual 197, 3) := by decide +kernel
theorem d_PS_doWithRegisters_135 : decode prog_1_method_18_code 135 = .ok (.aload_n 0, 1) := by decide +kernel
theorem d_PS_doWithRegisters_136 : decode prog_1_method_18_code 136 = .ok (.iload_n 3, 1) := by decide +kernel
theorem d_PS_doWithRegisters_137 : decode prog_1_method_18_code 137 = .ok (.aload_n 0, 1) := by decide +kernel
theorem d_PS_doWithRegisters_138 : decode prog_1_method_18_code 138 = .ok (.getfield 70, 3) := by decide +kernel
theorem d_PS_doWithRegisters_141 : decode prog_1_method_18_code 141 = .ok (.invokevirtual 197, 3) := by decide +kernel
theorem d_PS_doWithRegisters_144 : decode prog_1_method_18_code 144 = .ok (.aload_n 0, 1) := by decide +kernel
theorem d_PS_doWithRegisters_145 : decode prog_1_method_18_code 145 = .ok (.iload_n 2, 1) := by decide +kernel
theorem d_PS_doWithRegisters_146 : decode prog_1_method_18_code 146 = .ok (.iload_n 3, 1) := by decide +kernel
theorem d_PS_doWithRegisters_147 : decode prog_1_method_18_code 147 = .ok (.iload_n 2, 1) := by decide +kernel
theorem d_PS_doWithRegisters_148 : decode prog_1_method_18_code 148 = .ok (.iconst 3, 1) := by decide +kernel
theorem d_PS_doWithRegisters_149 : decode prog_1_method_18_code 149 = .ok (.if_icmp .ne 7, 3) := by decide +kernel
theorem d_PS_doWithRegisters_152 : decode prog_1_method_18_code 152 = .ok (.iconst 2, 1) := by decide +kernel
theorem d_PS_doWithRegisters_153 : decode prog_1_method_18_code 153 = .ok (.goto 4, 3) := by decide +kernel
theorem d_PS_doWithRegisters_156 : decode prog_1_method_18_code 156 = .ok (.iconst 1, 1) := by decide +kernel
theorem d_PS_doWithRegisters_157 : decode prog_1_method_18_code 157 = .ok (.invokevirtual 208, 3) := by decide +kernel
theorem d_PS_doWithRegisters_160 : decode prog_1_method_18_code 160 = .ok (.goto 3, 3) := by decide +kernel
theorem d_PS_doWithRegisters_163 : decode prog_1_method_18_code 163 = .ok (.return_, 1) := by decide +kernel
theorem d_PS_keepsPointers_0 : decode prog_1_method_11_code 0 = .ok (.iload_n 1, 1) := by decide +kernel
theorem d_PS_keepsPointers_1 : decode prog_1_method_11_code 1 = .ok (.sipush 192, 3) := by decide +kernel
theorem d_PS_keepsPointers_4 : decode prog_1_method_11_code 4 = .ok (.if_icmp .lt 14, 3) := by decide +kernel
theorem d_PS_keepsPointers_7 : decode prog_1_method_11_code 7 = .ok (.iload_n 0, 1) := by decide +kernel
theorem d_PS_keepsPointers_8 : decode prog_1_method_11_code 8 = .ok (.iconst 3, 1) := by decide +kernel
theorem d_PS_keepsPointers_9 : decode prog_1_method_11_code 9 = .ok (.if_icmp .eq 7, 3) := by decide +kernel
theorem d_PS_keepsPointers_12 : decode prog_1_method_11_code 12 = .ok (.iconst 1, 1) := by decide +kernel
theorem d_PS_keepsPointers_13 : decode prog_1_method_11_code 13 = .ok (.goto 4, 3) := by decide +kernel
theorem d_PS_keepsPointers_16 : decode prog_1_method_11_code 16 = .ok (.iconst 0, 1) := by decide +kernel
theorem d_PS_keepsPointers_17 : decode prog_1_method_11_code 17 = .ok (.ireturn, 1) := by decide +kernel
theorem d_PS_keepsPointers_18 : decode prog_1_method_11_code 18 = .ok (.iload_n 0, 1) := by decide +kernel
theorem d_PS_keepsPointers_19 : decode prog_1_method_11_code 19 = .ok (.iconst 1, 1) := by decide +kernel
theorem d_PS_keepsPointers_20 : decode prog_1_method_11_code 20 = .ok (.if_icmp .eq 8, 3) := by decide +kernel
theorem d_PS_keepsPointers_23 : decode prog_1_method_11_code 23 = .ok (.iload_n 0, 1) := by decide +kernel
theorem d_PS_keepsPointers_24 : decode prog_1_method_11_code 24 = .ok (.iconst 5, 1) := by decide +kernel
theorem d_PS_keepsPointers_25 : decode prog_1_method_11_code 25 = .ok (.if_icmp .ne 13, 3) := by decide +kernel
theorem d_PS_keepsPointers_28 : decode prog_1_method_11_code 28 = .ok (.iload_n 1, 1) := by decide +kernel
theorem d_PS_keepsPointers_29 : decode prog_1_method_11_code 29 = .ok (.iconst 3, 1) := by decide +kernel
theorem d_PS_keepsPointers_30 : decode prog_1_method_11_code 30 = .ok (.ishr, 1) := by decide +kernel
theorem d_PS_keepsPointers_31 : decode prog_1_method_11_code 31 = .ok (.bipush 7, 2) := by decide +kernel
theorem d_PS_keepsPointers_33 : decode prog_1_method_11_code 33 = .ok (.iand, 1) := by decide +kernel
theorem d_PS_keepsPointers_34 : decode prog_1_method_11_code 34 = .ok (.iconst 4, 1) := by decide +kernel
theorem d_PS_keepsPointers_35 : decode prog_1_method_11_code 35 = .ok (.if_icmp .ge 7, 3) := by decide +kernel
theorem d_PS_keepsPointers_38 : decode prog_1_method_11_code 38 = .ok (.iconst 1, 1) := by decide +kernel
theorem d_PS_keepsPointers_39 : decode prog_1_method_11_code 39 = .ok (.goto 4, 3) := by decide +kernel
theorem d_PS_keepsPointers_42 : decode prog_1_method_11_code 42 = .ok (.iconst 0, 1) := by decide +kernel
theorem d_PS_keepsPointers_43 : decode prog_1_method_11_code 43 = .ok (.ireturn, 1) := by decide +kernel
