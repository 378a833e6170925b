theorem d_MC_control_0 : decode prog_13_method_3_code 0 = .ok (.aload_n 0, 1) := by decide +kernel
theorem d_MC_control_1 : decode prog_13_method_3_code 1 = .ok (.iload_n 1, 1) := by decide +kernel
theorem d_MC_control_2 : decode prog_13_method_3_code 2 = .ok (.ifCond .lt 9, 3) := by decide +kernel
theorem d_MC_control_5 : decode prog_13_method_3_code 5 = .ok (.iload_n 1, 1) := by decide +kernel
theorem d_MC_control_6 : decode prog_13_method_3_code 6 = .ok (.ldc 27, 2) := by decide +kernel
theorem d_MC_control_8 : decode prog_13_method_3_code 8 = .ok (.if_icmp .le 7, 3) := by decide +kernel
theorem d_MC_control_11 : decode prog_13_method_3_code 11 = .ok (.iconst 1, 1) := by decide +kernel
theorem d_MC_control_12 : decode prog_13_method_3_code 12 = .ok (.goto 4, 3) := by decide +kernel
theorem d_MC_control_15 : decode prog_13_method_3_code 15 = .ok (.iconst 0, 1) := by decide +kernel
theorem d_MC_control_16 : decode prog_13_method_3_code 16 = .ok (.putfield 24, 3) := by decide +kernel
theorem d_MC_control_19 : decode prog_13_method_3_code 19 = .ok (.aload_n 0, 1) := by decide +kernel
theorem d_MC_control_20 : decode prog_13_method_3_code 20 = .ok (.getfield 24, 3) := by decide +kernel
theorem d_MC_control_23 : decode prog_13_method_3_code 23 = .ok (.ifCond .ne 8, 3) := by decide +kernel
theorem d_MC_control_26 : decode prog_13_method_3_code 26 = .ok (.aload_n 0, 1) := by decide +kernel
theorem d_MC_control_27 : decode prog_13_method_3_code 27 = .ok (.iload_n 1, 1) := by decide +kernel
theorem d_MC_control_28 : decode prog_13_method_3_code 28 = .ok (.putfield 7, 3) := by decide +kernel
theorem d_MC_control_31 : decode prog_13_method_3_code 31 = .ok (.return_, 1) := by decide +kernel
theorem d_MC_memory_0 : decode prog_13_method_7_code 0 = .ok (.aload_n 0, 1) := by decide +kernel
theorem d_MC_memory_1 : decode prog_13_method_7_code 1 = .ok (.iconst 0, 1) := by decide +kernel
theorem d_MC_memory_2 : decode prog_13_method_7_code 2 = .ok (.putfield 24, 3) := by decide +kernel
theorem d_MC_memory_5 : decode prog_13_method_7_code 5 = .ok (.iconst 0, 1) := by decide +kernel
theorem d_MC_memory_6 : decode prog_13_method_7_code 6 = .ok (.istore 4, 2) := by decide +kernel
theorem d_MC_memory_8 : decode prog_13_method_7_code 8 = .ok (.iload 4, 2) := by decide +kernel
theorem d_MC_memory_10 : decode prog_13_method_7_code 10 = .ok (.bipush 10, 2) := by decide +kernel
theorem d_MC_memory_12 : decode prog_13_method_7_code 12 = .ok (.if_icmp .ge 65, 3) := by decide +kernel
theorem d_MC_memory_15 : decode prog_13_method_7_code 15 = .ok (.aload_n 0, 1) := by decide +kernel
theorem d_MC_memory_16 : decode prog_13_method_7_code 16 = .ok (.getfield 21, 3) := by decide +kernel
theorem d_MC_memory_19 : decode prog_13_method_7_code 19 = .ok (.iload 4, 2) := by decide +kernel
theorem d_MC_memory_21 : decode prog_13_method_7_code 21 = .ok (.iload 4, 2) := by decide +kernel
theorem d_MC_memory_23 : decode prog_13_method_7_code 23 = .ok (.iconst 4, 1) := by decide +kernel
theorem d_MC_memory_24 : decode prog_13_method_7_code 24 = .ok (.if_icmp .ge 13, 3) := by decide +kernel
theorem d_MC_memory_27 : decode prog_13_method_7_code 27 = .ok (.iload_n 1, 1) := by decide +kernel
theorem d_MC_memory_28 : decode prog_13_method_7_code 28 = .ok (.bipush 8, 2) := by decide +kernel
theorem d_MC_memory_30 : decode prog_13_method_7_code 30 = .ok (.iload 4, 2) := by decide +kernel
theorem d_MC_memory_32 : decode prog_13_method_7_code 32 = .ok (.imul, 1) := by decide +kernel
theorem d_MC_memory_33 : decode prog_13_method_7_code 33 = .ok (.ishr, 1) := by decide +kernel
theorem d_MC_memory_34 : decode prog_13_method_7_code 34 = .ok (.goto 32, 3) := by decide +kernel
theorem d_MC_memory_37 : decode prog_13_method_7_code 37 = .ok (.iload 4, 2) := by decide +kernel
theorem d_MC_memory_39 : decode prog_13_method_7_code 39 = .ok (.bipush 8, 2) := by decide +kernel
theorem d_MC_memory_41 : decode prog_13_method_7_code 41 = .ok (.if_icmp .ge 15, 3) := by decide +kernel
theorem d_MC_memory_44 : decode prog_13_method_7_code 44 = .ok (.iload_n 2, 1) := by decide +kernel
theorem d_MC_memory_45 : decode prog_13_method_7_code 45 = .ok (.bipush 8, 2) := by decide +kernel
theorem d_MC_memory_47 : decode prog_13_method_7_code 47 = .ok (.iload 4, 2) := by decide +kernel
theorem d_MC_memory_49 : decode prog_13_method_7_code 49 = .ok (.iconst 4, 1) := by decide +kernel
theorem d_MC_memory_50 : decode prog_13_method_7_code 50 = .ok (.isub, 1) := by decide +kernel
theorem d_MC_memory_51 : decode prog_13_method_7_code 51 = .ok (.imul, 1) := by decide +kernel
theorem d_MC_memory_52 : decode prog_13_method_7_code 52 = .ok (.ishr, 1) := by decide +kernel
theorem d_MC_memory_53 : decode prog_13_method_7_code 53 = .ok (.goto 13, 3) := by decide +kernel
theorem d_MC_memory_56 : decode prog_13_method_7_code 56 = .ok (.iload_n 3, 1) := by decide +kernel
theorem d_MC_memory_57 : decode prog_13_method_7_code 57 = .ok (.bipush 8, 2) := by decide +kernel
theorem d_MC_memory_59 : decode prog_13_method_7_code 59 = .ok (.iload 4, 2) := by decide +kernel
theorem d_MC_memory_61 : decode prog_13_method_7_code 61 = .ok (.bipush 8, 2) := by decide +kernel
theorem d_MC_memory_63 : decode prog_13_method_7_code 63 = .ok (.isub, 1) := by decide +kernel
theorem d_MC_memory_64 : decode prog_13_method_7_code 64 = .ok (.imul, 1) := by decide +kernel
theorem d_MC_memory_65 : decode prog_13_method_7_code 65 = .ok (.ishr, 1) := by decide +kernel
theorem d_MC_memory_66 : decode prog_13_method_7_code 66 = .ok (.sipush 255, 3) := by decide +kernel
theorem d_MC_memory_69 : decode prog_13_method_7_code 69 = .ok (.iand, 1) := by decide +kernel
theorem d_MC_memory_70 : decode prog_13_method_7_code 70 = .ok (.iastore, 1) := by decide +kernel
theorem d_MC_memory_71 : decode prog_13_method_7_code 71 = .ok (.iinc 4 1, 3) := by decide +kernel
theorem d_MC_memory_74 : decode prog_13_method_7_code 74 = .ok (.goto (-66), 3) := by decide +kernel
theorem d_MC_memory_77 : decode prog_13_method_7_code 77 = .ok (.return_, 1) := by decide +kernel
theorem d_MC_none_0 : decode prog_13_method_4_code 0 = .ok (.iload_n 0, 1) := by decide +kernel
theorem d_MC_none_1 : decode prog_13_method_4_code 1 = .ok (.ifCond .lt 9, 3) := by decide +kernel
theorem d_MC_none_4 : decode prog_13_method_4_code 4 = .ok (.iload_n 0, 1) := by decide +kernel
theorem d_MC_none_5 : decode prog_13_method_4_code 5 = .ok (.bipush 7, 2) := by decide +kernel
theorem d_MC_none_7 : decode prog_13_method_4_code 7 = .ok (.if_icmp .le 7, 3) := by decide +kernel
theorem d_MC_none_10 : decode prog_13_method_4_code 10 = .ok (.iconst 1, 1) := by decide +kernel
theorem d_MC_none_11 : decode prog_13_method_4_code 11 = .ok (.goto 4, 3) := by decide +kernel
theorem d_MC_none_14 : decode prog_13_method_4_code 14 = .ok (.iconst 0, 1) := by decide +kernel
theorem d_MC_none_15 : decode prog_13_method_4_code 15 = .ok (.ireturn, 1) := by decide +kernel
theorem d_MC_bit_0 : decode prog_13_method_10_code 0 = .ok (.aload_n 0, 1) := by decide +kernel
theorem d_MC_bit_1 : decode prog_13_method_10_code 1 = .ok (.getfield 21, 3) := by decide +kernel
theorem d_MC_bit_4 : decode prog_13_method_10_code 4 = .ok (.iload_n 1, 1) := by decide +kernel
theorem d_MC_bit_5 : decode prog_13_method_10_code 5 = .ok (.bipush 8, 2) := by decide +kernel
theorem d_MC_bit_7 : decode prog_13_method_10_code 7 = .ok (.idiv, 1) := by decide +kernel
theorem d_MC_bit_8 : decode prog_13_method_10_code 8 = .ok (.iaload, 1) := by decide +kernel
theorem d_MC_bit_9 : decode prog_13_method_10_code 9 = .ok (.iload_n 1, 1) := by decide +kernel
theorem d_MC_bit_10 : decode prog_13_method_10_code 10 = .ok (.bipush 8, 2) := by decide +kernel
theorem d_MC_bit_12 : decode prog_13_method_10_code 12 = .ok (.irem, 1) := by decide +kernel
theorem d_MC_bit_13 : decode prog_13_method_10_code 13 = .ok (.ishr, 1) := by decide +kernel
theorem d_MC_bit_14 : decode prog_13_method_10_code 14 = .ok (.iconst 1, 1) := by decide +kernel
theorem d_MC_bit_15 : decode prog_13_method_10_code 15 = .ok (.iand, 1) := by decide +kernel
theorem d_MC_bit_16 : decode prog_13_method_10_code 16 = .ok (.ireturn, 1) := by decide +kernel
theorem d_MC_bits_0 : decode prog_13_method_12_code 0 = .ok (.lconst 0, 1) := by decide +kernel
theorem d_MC_bits_1 : decode prog_13_method_12_code 1 = .ok (.lstore_n 3, 1) := by decide +kernel
theorem d_MC_bits_2 : decode prog_13_method_12_code 2 = .ok (.iload_n 2, 1) := by decide +kernel
theorem d_MC_bits_3 : decode prog_13_method_12_code 3 = .ok (.iconst 1, 1) := by decide +kernel
theorem d_MC_bits_4 : decode prog_13_method_12_code 4 = .ok (.isub, 1) := by decide +kernel
theorem d_MC_bits_5 : decode prog_13_method_12_code 5 = .ok (.istore 5, 2) := by decide +kernel
theorem d_MC_bits_7 : decode prog_13_method_12_code 7 = .ok (.iload 5, 2) := by decide +kernel
theorem d_MC_bits_9 : decode prog_13_method_12_code 9 = .ok (.ifCond .lt 25, 3) := by decide +kernel
theorem d_MC_bits_12 : decode prog_13_method_12_code 12 = .ok (.ldc2_w 38, 3) := by decide +kernel
theorem d_MC_bits_15 : decode prog_13_method_12_code 15 = .ok (.lload_n 3, 1) := by decide +kernel
theorem d_MC_bits_16 : decode prog_13_method_12_code 16 = .ok (.lmul, 1) := by decide +kernel
theorem d_MC_bits_17 : decode prog_13_method_12_code 17 = .ok (.aload_n 0, 1) := by decide +kernel
theorem d_MC_bits_18 : decode prog_13_method_12_code 18 = .ok (.iload_n 1, 1) := by decide +kernel
theorem d_MC_bits_19 : decode prog_13_method_12_code 19 = .ok (.iload 5, 2) := by decide +kernel
theorem d_MC_bits_21 : decode prog_13_method_12_code 21 = .ok (.iadd, 1) := by decide +kernel
theorem d_MC_bits_22 : decode prog_13_method_12_code 22 = .ok (.invokevirtual 34, 3) := by decide +kernel
theorem d_MC_bits_25 : decode prog_13_method_12_code 25 = .ok (.i2l, 1) := by decide +kernel
theorem d_MC_bits_26 : decode prog_13_method_12_code 26 = .ok (.ladd, 1) := by decide +kernel
theorem d_MC_bits_27 : decode prog_13_method_12_code 27 = .ok (.lstore_n 3, 1) := by decide +kernel
theorem d_MC_bits_28 : decode prog_13_method_12_code 28 = .ok (.iinc 5 (-1), 3) := by decide +kernel
theorem d_MC_bits_31 : decode prog_13_method_12_code 31 = .ok (.goto (-24), 3) := by decide +kernel
theorem d_MC_bits_34 : decode prog_13_method_12_code 34 = .ok (.lload_n 3, 1) := by decide +kernel
theorem d_MC_bits_35 : decode prog_13_method_12_code 35 = .ok (.lreturn, 1) := by decide +kernel
theorem d_MC_masked_0 : decode prog_13_method_9_code 0 = .ok (.aload_n 0, 1) := by decide +kernel
theorem d_MC_masked_1 : decode prog_13_method_9_code 1 = .ok (.getfield 7, 3) := by decide +kernel
theorem d_MC_masked_4 : decode prog_13_method_9_code 4 = .ok (.iload_n 1, 1) := by decide +kernel
theorem d_MC_masked_5 : decode prog_13_method_9_code 5 = .ok (.idiv, 1) := by decide +kernel
theorem d_MC_masked_6 : decode prog_13_method_9_code 6 = .ok (.iconst 2, 1) := by decide +kernel
theorem d_MC_masked_7 : decode prog_13_method_9_code 7 = .ok (.irem, 1) := by decide +kernel
theorem d_MC_masked_8 : decode prog_13_method_9_code 8 = .ok (.iconst 1, 1) := by decide +kernel
theorem d_MC_masked_9 : decode prog_13_method_9_code 9 = .ok (.if_icmp .ne 7, 3) := by decide +kernel
theorem d_MC_masked_12 : decode prog_13_method_9_code 12 = .ok (.iconst 1, 1) := by decide +kernel
theorem d_MC_masked_13 : decode prog_13_method_9_code 13 = .ok (.goto 4, 3) := by decide +kernel
theorem d_MC_masked_16 : decode prog_13_method_9_code 16 = .ok (.iconst 0, 1) := by decide +kernel
theorem d_MC_masked_17 : decode prog_13_method_9_code 17 = .ok (.ireturn, 1) := by decide +kernel
theorem d_MC_become_0 : decode prog_13_method_14_code 0 = .ok (.aload_n 0, 1) := by decide +kernel
theorem d_MC_become_1 : decode prog_13_method_14_code 1 = .ok (.getfield 13, 3) := by decide +kernel
theorem d_MC_become_4 : decode prog_13_method_14_code 4 = .ok (.iload_n 1, 1) := by decide +kernel
theorem d_MC_become_5 : decode prog_13_method_14_code 5 = .ok (.iload_n 2, 1) := by decide +kernel
theorem d_MC_become_6 : decode prog_13_method_14_code 6 = .ok (.ifCond .eq 8, 3) := by decide +kernel
theorem d_MC_become_9 : decode prog_13_method_14_code 9 = .ok (.ldc 44, 2) := by decide +kernel
theorem d_MC_become_11 : decode prog_13_method_14_code 11 = .ok (.goto 4, 3) := by decide +kernel
theorem d_MC_become_14 : decode prog_13_method_14_code 14 = .ok (.iconst 0, 1) := by decide +kernel
theorem d_MC_become_15 : decode prog_13_method_14_code 15 = .ok (.iastore, 1) := by decide +kernel
theorem d_MC_become_16 : decode prog_13_method_14_code 16 = .ok (.aload_n 0, 1) := by decide +kernel
theorem d_MC_become_17 : decode prog_13_method_14_code 17 = .ok (.getfield 17, 3) := by decide +kernel
theorem d_MC_become_20 : decode prog_13_method_14_code 20 = .ok (.iload_n 1, 1) := by decide +kernel
theorem d_MC_become_21 : decode prog_13_method_14_code 21 = .ok (.lconst 0, 1) := by decide +kernel
theorem d_MC_become_22 : decode prog_13_method_14_code 22 = .ok (.lastore, 1) := by decide +kernel
theorem d_MC_become_23 : decode prog_13_method_14_code 23 = .ok (.lload_n 3, 1) := by decide +kernel
theorem d_MC_become_24 : decode prog_13_method_14_code 24 = .ok (.lconst 0, 1) := by decide +kernel
theorem d_MC_become_25 : decode prog_13_method_14_code 25 = .ok (.lcmp, 1) := by decide +kernel
theorem d_MC_become_26 : decode prog_13_method_14_code 26 = .ok (.ifCond .ne 4, 3) := by decide +kernel
theorem d_MC_become_29 : decode prog_13_method_14_code 29 = .ok (.return_, 1) := by decide +kernel
theorem d_MC_become_30 : decode prog_13_method_14_code 30 = .ok (.bipush 63, 2) := by decide +kernel
theorem d_MC_become_32 : decode prog_13_method_14_code 32 = .ok (.istore 6, 2) := by decide +kernel
theorem d_MC_become_34 : decode prog_13_method_14_code 34 = .ok (.lload_n 3, 1) := by decide +kernel
theorem d_MC_become_35 : decode prog_13_method_14_code 35 = .ok (.iload 6, 2) := by decide +kernel
theorem d_MC_become_37 : decode prog_13_method_14_code 37 = .ok (.lshr, 1) := by decide +kernel
theorem d_MC_become_38 : decode prog_13_method_14_code 38 = .ok (.lconst 1, 1) := by decide +kernel
theorem d_MC_become_39 : decode prog_13_method_14_code 39 = .ok (.land, 1) := by decide +kernel
theorem d_MC_become_40 : decode prog_13_method_14_code 40 = .ok (.lconst 0, 1) := by decide +kernel
theorem d_MC_become_41 : decode prog_13_method_14_code 41 = .ok (.lcmp, 1) := by decide +kernel
theorem d_MC_become_42 : decode prog_13_method_14_code 42 = .ok (.ifCond .ne 9, 3) := by decide +kernel
theorem d_MC_become_45 : decode prog_13_method_14_code 45 = .ok (.iinc 6 (-1), 3) := by decide +kernel
theorem d_MC_become_48 : decode prog_13_method_14_code 48 = .ok (.goto (-14), 3) := by decide +kernel
theorem d_MC_become_51 : decode prog_13_method_14_code 51 = .ok (.aload_n 0, 1) := by decide +kernel
theorem d_MC_become_52 : decode prog_13_method_14_code 52 = .ok (.getfield 13, 3) := by decide +kernel
theorem d_MC_become_55 : decode prog_13_method_14_code 55 = .ok (.iload_n 1, 1) := by decide +kernel
theorem d_MC_become_56 : decode prog_13_method_14_code 56 = .ok (.dup2, 1) := by decide +kernel
theorem d_MC_become_57 : decode prog_13_method_14_code 57 = .ok (.iaload, 1) := by decide +kernel
theorem d_MC_become_58 : decode prog_13_method_14_code 58 = .ok (.iload 5, 2) := by decide +kernel
theorem d_MC_become_60 : decode prog_13_method_14_code 60 = .ok (.iload 6, 2) := by decide +kernel
theorem d_MC_become_62 : decode prog_13_method_14_code 62 = .ok (.iadd, 1) := by decide +kernel
theorem d_MC_become_63 : decode prog_13_method_14_code 63 = .ok (.sipush 16383, 3) := by decide +kernel
theorem d_MC_become_66 : decode prog_13_method_14_code 66 = .ok (.iadd, 1) := by decide +kernel
theorem d_MC_become_67 : decode prog_13_method_14_code 67 = .ok (.iadd, 1) := by decide +kernel
theorem d_MC_become_68 : decode prog_13_method_14_code 68 = .ok (.iastore, 1) := by decide +kernel
theorem d_MC_become_69 : decode prog_13_method_14_code 69 = .ok (.aload_n 0, 1) := by decide +kernel
theorem d_MC_become_70 : decode prog_13_method_14_code 70 = .ok (.getfield 17, 3) := by decide +kernel
theorem d_MC_become_73 : decode prog_13_method_14_code 73 = .ok (.iload_n 1, 1) := by decide +kernel
theorem d_MC_become_74 : decode prog_13_method_14_code 74 = .ok (.lload_n 3, 1) := by decide +kernel
theorem d_MC_become_75 : decode prog_13_method_14_code 75 = .ok (.bipush 63, 2) := by decide +kernel
theorem d_MC_become_77 : decode prog_13_method_14_code 77 = .ok (.iload 6, 2) := by decide +kernel
theorem d_MC_become_79 : decode prog_13_method_14_code 79 = .ok (.isub, 1) := by decide +kernel
theorem d_MC_become_80 : decode prog_13_method_14_code 80 = .ok (.lshl, 1) := by decide +kernel
theorem d_MC_become_81 : decode prog_13_method_14_code 81 = .ok (.lastore, 1) := by decide +kernel
theorem d_MC_become_82 : decode prog_13_method_14_code 82 = .ok (.return_, 1) := by decide +kernel
theorem d_MC_readReal_0 : decode prog_13_method_15_code 0 = .ok (.aload_n 0, 1) := by decide +kernel
theorem d_MC_readReal_1 : decode prog_13_method_15_code 1 = .ok (.iload_n 2, 1) := by decide +kernel
theorem d_MC_readReal_2 : decode prog_13_method_15_code 2 = .ok (.iconst 1, 1) := by decide +kernel
theorem d_MC_readReal_3 : decode prog_13_method_15_code 3 = .ok (.isub, 1) := by decide +kernel
theorem d_MC_readReal_4 : decode prog_13_method_15_code 4 = .ok (.iload_n 3, 1) := by decide +kernel
theorem d_MC_readReal_5 : decode prog_13_method_15_code 5 = .ok (.iadd, 1) := by decide +kernel
theorem d_MC_readReal_6 : decode prog_13_method_15_code 6 = .ok (.invokevirtual 34, 3) := by decide +kernel
theorem d_MC_readReal_9 : decode prog_13_method_15_code 9 = .ok (.iconst 1, 1) := by decide +kernel
theorem d_MC_readReal_10 : decode prog_13_method_15_code 10 = .ok (.if_icmp .ne 7, 3) := by decide +kernel
theorem d_MC_readReal_13 : decode prog_13_method_15_code 13 = .ok (.iconst 1, 1) := by decide +kernel
theorem d_MC_readReal_14 : decode prog_13_method_15_code 14 = .ok (.goto 4, 3) := by decide +kernel
theorem d_MC_readReal_17 : decode prog_13_method_15_code 17 = .ok (.iconst 0, 1) := by decide +kernel
theorem d_MC_readReal_18 : decode prog_13_method_15_code 18 = .ok (.istore 4, 2) := by decide +kernel
theorem d_MC_readReal_20 : decode prog_13_method_15_code 20 = .ok (.aload_n 0, 1) := by decide +kernel
theorem d_MC_readReal_21 : decode prog_13_method_15_code 21 = .ok (.iload_n 2, 1) := by decide +kernel
theorem d_MC_readReal_22 : decode prog_13_method_15_code 22 = .ok (.iconst 1, 1) := by decide +kernel
theorem d_MC_readReal_23 : decode prog_13_method_15_code 23 = .ok (.isub, 1) := by decide +kernel
theorem d_MC_readReal_24 : decode prog_13_method_15_code 24 = .ok (.iload_n 3, 1) := by decide +kernel
theorem d_MC_readReal_25 : decode prog_13_method_15_code 25 = .ok (.invokevirtual 45, 3) := by decide +kernel
theorem d_MC_readReal_28 : decode prog_13_method_15_code 28 = .ok (.l2i, 1) := by decide +kernel
theorem d_MC_readReal_29 : decode prog_13_method_15_code 29 = .ok (.istore 5, 2) := by decide +kernel
theorem d_MC_readReal_31 : decode prog_13_method_15_code 31 = .ok (.aload_n 0, 1) := by decide +kernel
theorem d_MC_readReal_32 : decode prog_13_method_15_code 32 = .ok (.iconst 0, 1) := by decide +kernel
theorem d_MC_readReal_33 : decode prog_13_method_15_code 33 = .ok (.iload_n 2, 1) := by decide +kernel
theorem d_MC_readReal_34 : decode prog_13_method_15_code 34 = .ok (.iconst 1, 1) := by decide +kernel
theorem d_MC_readReal_35 : decode prog_13_method_15_code 35 = .ok (.isub, 1) := by decide +kernel
theorem d_MC_readReal_36 : decode prog_13_method_15_code 36 = .ok (.invokevirtual 45, 3) := by decide +kernel
theorem d_MC_readReal_39 : decode prog_13_method_15_code 39 = .ok (.lstore 6, 2) := by decide +kernel
theorem d_MC_readReal_41 : decode prog_13_method_15_code 41 = .ok (.iconst 1, 1) := by decide +kernel
theorem d_MC_readReal_42 : decode prog_13_method_15_code 42 = .ok (.iload_n 3, 1) := by decide +kernel
theorem d_MC_readReal_43 : decode prog_13_method_15_code 43 = .ok (.ishl, 1) := by decide +kernel
theorem d_MC_readReal_44 : decode prog_13_method_15_code 44 = .ok (.iconst 1, 1) := by decide +kernel
theorem d_MC_readReal_45 : decode prog_13_method_15_code 45 = .ok (.isub, 1) := by decide +kernel
theorem d_MC_readReal_46 : decode prog_13_method_15_code 46 = .ok (.istore 8, 2) := by decide +kernel
theorem d_MC_readReal_48 : decode prog_13_method_15_code 48 = .ok (.iload 8, 2) := by decide +kernel
theorem d_MC_readReal_50 : decode prog_13_method_15_code 50 = .ok (.iconst 2, 1) := by decide +kernel
theorem d_MC_readReal_51 : decode prog_13_method_15_code 51 = .ok (.idiv, 1) := by decide +kernel
theorem d_MC_readReal_52 : decode prog_13_method_15_code 52 = .ok (.istore 9, 2) := by decide +kernel
theorem d_MC_readReal_54 : decode prog_13_method_15_code 54 = .ok (.iload 5, 2) := by decide +kernel
theorem d_MC_readReal_56 : decode prog_13_method_15_code 56 = .ok (.iload 8, 2) := by decide +kernel
theorem d_MC_readReal_58 : decode prog_13_method_15_code 58 = .ok (.if_icmp .ne 86, 3) := by decide +kernel
theorem d_MC_readReal_61 : decode prog_13_method_15_code 61 = .ok (.aload_n 0, 1) := by decide +kernel
theorem d_MC_readReal_62 : decode prog_13_method_15_code 62 = .ok (.getfield 13, 3) := by decide +kernel
theorem d_MC_readReal_65 : decode prog_13_method_15_code 65 = .ok (.iload_n 1, 1) := by decide +kernel
theorem d_MC_readReal_66 : decode prog_13_method_15_code 66 = .ok (.iload 4, 2) := by decide +kernel
theorem d_MC_readReal_68 : decode prog_13_method_15_code 68 = .ok (.ifCond .eq 8, 3) := by decide +kernel
theorem d_MC_readReal_71 : decode prog_13_method_15_code 71 = .ok (.ldc 44, 2) := by decide +kernel
theorem d_MC_readReal_73 : decode prog_13_method_15_code 73 = .ok (.goto 4, 3) := by decide +kernel
theorem d_MC_readReal_76 : decode prog_13_method_15_code 76 = .ok (.iconst 0, 1) := by decide +kernel
theorem d_MC_readReal_77 : decode prog_13_method_15_code 77 = .ok (.sipush 32767, 3) := by decide +kernel
theorem d_MC_readReal_80 : decode prog_13_method_15_code 80 = .ok (.iadd, 1) := by decide +kernel
theorem d_MC_readReal_81 : decode prog_13_method_15_code 81 = .ok (.iastore, 1) := by decide +kernel
theorem d_MC_readReal_82 : decode prog_13_method_15_code 82 = .ok (.aload_n 0, 1) := by decide +kernel
theorem d_MC_readReal_83 : decode prog_13_method_15_code 83 = .ok (.getfield 17, 3) := by decide +kernel
theorem d_MC_readReal_86 : decode prog_13_method_15_code 86 = .ok (.iload_n 1, 1) := by decide +kernel
theorem d_MC_readReal_87 : decode prog_13_method_15_code 87 = .ok (.lconst 0, 1) := by decide +kernel
theorem d_MC_readReal_88 : decode prog_13_method_15_code 88 = .ok (.lastore, 1) := by decide +kernel
theorem d_MC_readReal_89 : decode prog_13_method_15_code 89 = .ok (.iconst 0, 1) := by decide +kernel
theorem d_MC_readReal_90 : decode prog_13_method_15_code 90 = .ok (.istore 10, 2) := by decide +kernel
theorem d_MC_readReal_92 : decode prog_13_method_15_code 92 = .ok (.iload 10, 2) := by decide +kernel
theorem d_MC_readReal_94 : decode prog_13_method_15_code 94 = .ok (.iload_n 2, 1) := by decide +kernel
theorem d_MC_readReal_95 : decode prog_13_method_15_code 95 = .ok (.iconst 1, 1) := by decide +kernel
theorem d_MC_readReal_96 : decode prog_13_method_15_code 96 = .ok (.isub, 1) := by decide +kernel
theorem d_MC_readReal_97 : decode prog_13_method_15_code 97 = .ok (.if_icmp .ge 33, 3) := by decide +kernel
theorem d_MC_readReal_100 : decode prog_13_method_15_code 100 = .ok (.aload_n 0, 1) := by decide +kernel
theorem d_MC_readReal_101 : decode prog_13_method_15_code 101 = .ok (.getfield 17, 3) := by decide +kernel
theorem d_MC_readReal_104 : decode prog_13_method_15_code 104 = .ok (.iload_n 1, 1) := by decide +kernel
theorem d_MC_readReal_105 : decode prog_13_method_15_code 105 = .ok (.dup2, 1) := by decide +kernel
theorem d_MC_readReal_106 : decode prog_13_method_15_code 106 = .ok (.laload, 1) := by decide +kernel
theorem d_MC_readReal_107 : decode prog_13_method_15_code 107 = .ok (.aload_n 0, 1) := by decide +kernel
theorem d_MC_readReal_108 : decode prog_13_method_15_code 108 = .ok (.iload 10, 2) := by decide +kernel
theorem d_MC_readReal_110 : decode prog_13_method_15_code 110 = .ok (.invokevirtual 34, 3) := by decide +kernel
theorem d_MC_readReal_113 : decode prog_13_method_15_code 113 = .ok (.i2l, 1) := by decide +kernel
theorem d_MC_readReal_114 : decode prog_13_method_15_code 114 = .ok (.bipush 64, 2) := by decide +kernel
theorem d_MC_readReal_116 : decode prog_13_method_15_code 116 = .ok (.iload_n 2, 1) := by decide +kernel
theorem d_MC_readReal_117 : decode prog_13_method_15_code 117 = .ok (.isub, 1) := by decide +kernel
theorem d_MC_readReal_118 : decode prog_13_method_15_code 118 = .ok (.iload 10, 2) := by decide +kernel
theorem d_MC_readReal_120 : decode prog_13_method_15_code 120 = .ok (.iadd, 1) := by decide +kernel
theorem d_MC_readReal_121 : decode prog_13_method_15_code 121 = .ok (.lshl, 1) := by decide +kernel
theorem d_MC_readReal_122 : decode prog_13_method_15_code 122 = .ok (.ladd, 1) := by decide +kernel
theorem d_MC_readReal_123 : decode prog_13_method_15_code 123 = .ok (.lastore, 1) := by decide +kernel
theorem d_MC_readReal_124 : decode prog_13_method_15_code 124 = .ok (.iinc 10 1, 3) := by decide +kernel
theorem d_MC_readReal_127 : decode prog_13_method_15_code 127 = .ok (.goto (-35), 3) := by decide +kernel
theorem d_MC_readReal_130 : decode prog_13_method_15_code 130 = .ok (.aload_n 0, 1) := by decide +kernel
theorem d_MC_readReal_131 : decode prog_13_method_15_code 131 = .ok (.getfield 17, 3) := by decide +kernel
theorem d_MC_readReal_134 : decode prog_13_method_15_code 134 = .ok (.iload_n 1, 1) := by decide +kernel
theorem d_MC_readReal_135 : decode prog_13_method_15_code 135 = .ok (.dup2, 1) := by decide +kernel
theorem d_MC_readReal_136 : decode prog_13_method_15_code 136 = .ok (.laload, 1) := by decide +kernel
theorem d_MC_readReal_137 : decode prog_13_method_15_code 137 = .ok (.ldc2_w 49, 3) := by decide +kernel
theorem d_MC_readReal_140 : decode prog_13_method_15_code 140 = .ok (.ladd, 1) := by decide +kernel
theorem d_MC_readReal_141 : decode prog_13_method_15_code 141 = .ok (.lastore, 1) := by decide +kernel
theorem d_MC_readReal_142 : decode prog_13_method_15_code 142 = .ok (.iconst 0, 1) := by decide +kernel
theorem d_MC_readReal_143 : decode prog_13_method_15_code 143 = .ok (.ireturn, 1) := by decide +kernel
theorem d_MC_readReal_144 : decode prog_13_method_15_code 144 = .ok (.iload 5, 2) := by decide +kernel
theorem d_MC_readReal_146 : decode prog_13_method_15_code 146 = .ok (.ifCond .ne 20, 3) := by decide +kernel
theorem d_MC_readReal_149 : decode prog_13_method_15_code 149 = .ok (.lload 6, 2) := by decide +kernel
theorem d_MC_readReal_151 : decode prog_13_method_15_code 151 = .ok (.lconst 0, 1) := by decide +kernel
theorem d_MC_readReal_152 : decode prog_13_method_15_code 152 = .ok (.lcmp, 1) := by decide +kernel
theorem d_MC_readReal_153 : decode prog_13_method_15_code 153 = .ok (.ifCond .eq 13, 3) := by decide +kernel
theorem d_MC_readReal_156 : decode prog_13_method_15_code 156 = .ok (.aload_n 0, 1) := by decide +kernel
theorem d_MC_readReal_157 : decode prog_13_method_15_code 157 = .ok (.iconst 2, 1) := by decide +kernel
theorem d_MC_readReal_158 : decode prog_13_method_15_code 158 = .ok (.invokevirtual 51, 3) := by decide +kernel
theorem d_MC_readReal_161 : decode prog_13_method_15_code 161 = .ok (.ifCond .ne 5, 3) := by decide +kernel
theorem d_MC_readReal_164 : decode prog_13_method_15_code 164 = .ok (.iconst 2, 1) := by decide +kernel
theorem d_MC_readReal_165 : decode prog_13_method_15_code 165 = .ok (.ireturn, 1) := by decide +kernel
theorem d_MC_readReal_166 : decode prog_13_method_15_code 166 = .ok (.iload 5, 2) := by decide +kernel
theorem d_MC_readReal_168 : decode prog_13_method_15_code 168 = .ok (.ifCond .ne 21, 3) := by decide +kernel
theorem d_MC_readReal_171 : decode prog_13_method_15_code 171 = .ok (.aload_n 0, 1) := by decide +kernel
theorem d_MC_readReal_172 : decode prog_13_method_15_code 172 = .ok (.iload_n 1, 1) := by decide +kernel
theorem d_MC_readReal_173 : decode prog_13_method_15_code 173 = .ok (.iload 4, 2) := by decide +kernel
theorem d_MC_readReal_175 : decode prog_13_method_15_code 175 = .ok (.lload 6, 2) := by decide +kernel
theorem d_MC_readReal_177 : decode prog_13_method_15_code 177 = .ok (.iconst 2, 1) := by decide +kernel
theorem d_MC_readReal_178 : decode prog_13_method_15_code 178 = .ok (.iload 9, 2) := by decide +kernel
theorem d_MC_readReal_180 : decode prog_13_method_15_code 180 = .ok (.isub, 1) := by decide +kernel
theorem d_MC_readReal_181 : decode prog_13_method_15_code 181 = .ok (.iload_n 2, 1) := by decide +kernel
theorem d_MC_readReal_182 : decode prog_13_method_15_code 182 = .ok (.isub, 1) := by decide +kernel
theorem d_MC_readReal_183 : decode prog_13_method_15_code 183 = .ok (.invokevirtual 54, 3) := by decide +kernel
theorem d_MC_readReal_186 : decode prog_13_method_15_code 186 = .ok (.goto 27, 3) := by decide +kernel
theorem d_MC_readReal_189 : decode prog_13_method_15_code 189 = .ok (.aload_n 0, 1) := by decide +kernel
theorem d_MC_readReal_190 : decode prog_13_method_15_code 190 = .ok (.iload_n 1, 1) := by decide +kernel
theorem d_MC_readReal_191 : decode prog_13_method_15_code 191 = .ok (.iload 4, 2) := by decide +kernel
theorem d_MC_readReal_193 : decode prog_13_method_15_code 193 = .ok (.lload 6, 2) := by decide +kernel
theorem d_MC_readReal_195 : decode prog_13_method_15_code 195 = .ok (.lconst 1, 1) := by decide +kernel
theorem d_MC_readReal_196 : decode prog_13_method_15_code 196 = .ok (.iload_n 2, 1) := by decide +kernel
theorem d_MC_readReal_197 : decode prog_13_method_15_code 197 = .ok (.iconst 1, 1) := by decide +kernel
theorem d_MC_readReal_198 : decode prog_13_method_15_code 198 = .ok (.isub, 1) := by decide +kernel
theorem d_MC_readReal_199 : decode prog_13_method_15_code 199 = .ok (.lshl, 1) := by decide +kernel
theorem d_MC_readReal_200 : decode prog_13_method_15_code 200 = .ok (.ladd, 1) := by decide +kernel
theorem d_MC_readReal_201 : decode prog_13_method_15_code 201 = .ok (.iload 5, 2) := by decide +kernel
theorem d_MC_readReal_203 : decode prog_13_method_15_code 203 = .ok (.iload 9, 2) := by decide +kernel
theorem d_MC_readReal_205 : decode prog_13_method_15_code 205 = .ok (.isub, 1) := by decide +kernel
theorem d_MC_readReal_206 : decode prog_13_method_15_code 206 = .ok (.iload_n 2, 1) := by decide +kernel
theorem d_MC_readReal_207 : decode prog_13_method_15_code 207 = .ok (.isub, 1) := by decide +kernel
theorem d_MC_readReal_208 : decode prog_13_method_15_code 208 = .ok (.iconst 1, 1) := by decide +kernel
theorem d_MC_readReal_209 : decode prog_13_method_15_code 209 = .ok (.iadd, 1) := by decide +kernel
theorem d_MC_readReal_210 : decode prog_13_method_15_code 210 = .ok (.invokevirtual 54, 3) := by decide +kernel
theorem d_MC_readReal_213 : decode prog_13_method_15_code 213 = .ok (.iload 5, 2) := by decide +kernel
theorem d_MC_readReal_215 : decode prog_13_method_15_code 215 = .ok (.ifCond .ne 14, 3) := by decide +kernel
theorem d_MC_readReal_218 : decode prog_13_method_15_code 218 = .ok (.lload 6, 2) := by decide +kernel
theorem d_MC_readReal_220 : decode prog_13_method_15_code 220 = .ok (.lconst 0, 1) := by decide +kernel
theorem d_MC_readReal_221 : decode prog_13_method_15_code 221 = .ok (.lcmp, 1) := by decide +kernel
theorem d_MC_readReal_222 : decode prog_13_method_15_code 222 = .ok (.ifCond .eq 7, 3) := by decide +kernel
theorem d_MC_readReal_225 : decode prog_13_method_15_code 225 = .ok (.iconst 2, 1) := by decide +kernel
theorem d_MC_readReal_226 : decode prog_13_method_15_code 226 = .ok (.goto 4, 3) := by decide +kernel
theorem d_MC_readReal_229 : decode prog_13_method_15_code 229 = .ok (.iconst 0, 1) := by decide +kernel
theorem d_MC_readReal_230 : decode prog_13_method_15_code 230 = .ok (.ireturn, 1) := by decide +kernel
theorem d_MC_read_0 : decode prog_13_method_16_code 0 = .ok (.aload_n 0, 1) := by decide +kernel
theorem d_MC_read_1 : decode prog_13_method_16_code 1 = .ok (.iload_n 2, 1) := by decide +kernel
theorem d_MC_read_2 : decode prog_13_method_16_code 2 = .ok (.invokestatic 28, 3) := by decide +kernel
theorem d_MC_read_5 : decode prog_13_method_16_code 5 = .ok (.ifCond .eq 7, 3) := by decide +kernel
theorem d_MC_read_8 : decode prog_13_method_16_code 8 = .ok (.iconst 1, 1) := by decide +kernel
theorem d_MC_read_9 : decode prog_13_method_16_code 9 = .ok (.goto 18, 3) := by decide +kernel
theorem d_MC_read_12 : decode prog_13_method_16_code 12 = .ok (.iload_n 1, 1) := by decide +kernel
theorem d_MC_read_13 : decode prog_13_method_16_code 13 = .ok (.ifCond .lt 9, 3) := by decide +kernel
theorem d_MC_read_16 : decode prog_13_method_16_code 16 = .ok (.iload_n 1, 1) := by decide +kernel
theorem d_MC_read_17 : decode prog_13_method_16_code 17 = .ok (.bipush 6, 2) := by decide +kernel
theorem d_MC_read_19 : decode prog_13_method_16_code 19 = .ok (.if_icmp .le 7, 3) := by decide +kernel
theorem d_MC_read_22 : decode prog_13_method_16_code 22 = .ok (.iconst 2, 1) := by decide +kernel
theorem d_MC_read_23 : decode prog_13_method_16_code 23 = .ok (.goto 4, 3) := by decide +kernel
theorem d_MC_read_26 : decode prog_13_method_16_code 26 = .ok (.iconst 0, 1) := by decide +kernel
theorem d_MC_read_27 : decode prog_13_method_16_code 27 = .ok (.putfield 24, 3) := by decide +kernel
theorem d_MC_read_30 : decode prog_13_method_16_code 30 = .ok (.aload_n 0, 1) := by decide +kernel
theorem d_MC_read_31 : decode prog_13_method_16_code 31 = .ok (.getfield 24, 3) := by decide +kernel
theorem d_MC_read_34 : decode prog_13_method_16_code 34 = .ok (.ifCond .le 5, 3) := by decide +kernel
theorem d_MC_read_37 : decode prog_13_method_16_code 37 = .ok (.iconst 0, 1) := by decide +kernel
theorem d_MC_read_38 : decode prog_13_method_16_code 38 = .ok (.ireturn, 1) := by decide +kernel
theorem d_MC_read_39 : decode prog_13_method_16_code 39 = .ok (.iload_n 1, 1) := by decide +kernel
theorem d_MC_read_40 : decode prog_13_method_16_code 40 = .ok (.iconst 3, 1) := by decide +kernel
theorem d_MC_read_41 : decode prog_13_method_16_code 41 = .ok (.if_icmp .ne 13, 3) := by decide +kernel
theorem d_MC_read_44 : decode prog_13_method_16_code 44 = .ok (.aload_n 0, 1) := by decide +kernel
theorem d_MC_read_45 : decode prog_13_method_16_code 45 = .ok (.iload_n 2, 1) := by decide +kernel
theorem d_MC_read_46 : decode prog_13_method_16_code 46 = .ok (.bipush 24, 2) := by decide +kernel
theorem d_MC_read_48 : decode prog_13_method_16_code 48 = .ok (.bipush 8, 2) := by decide +kernel
theorem d_MC_read_50 : decode prog_13_method_16_code 50 = .ok (.invokevirtual 58, 3) := by decide +kernel
theorem d_MC_read_53 : decode prog_13_method_16_code 53 = .ok (.ireturn, 1) := by decide +kernel
theorem d_MC_read_54 : decode prog_13_method_16_code 54 = .ok (.iload_n 1, 1) := by decide +kernel
theorem d_MC_read_55 : decode prog_13_method_16_code 55 = .ok (.iconst 4, 1) := by decide +kernel
theorem d_MC_read_56 : decode prog_13_method_16_code 56 = .ok (.if_icmp .ne 13, 3) := by decide +kernel
theorem d_MC_read_59 : decode prog_13_method_16_code 59 = .ok (.aload_n 0, 1) := by decide +kernel
theorem d_MC_read_60 : decode prog_13_method_16_code 60 = .ok (.iload_n 2, 1) := by decide +kernel
theorem d_MC_read_61 : decode prog_13_method_16_code 61 = .ok (.bipush 53, 2) := by decide +kernel
theorem d_MC_read_63 : decode prog_13_method_16_code 63 = .ok (.bipush 11, 2) := by decide +kernel
theorem d_MC_read_65 : decode prog_13_method_16_code 65 = .ok (.invokevirtual 58, 3) := by decide +kernel
theorem d_MC_read_68 : decode prog_13_method_16_code 68 = .ok (.ireturn, 1) := by decide +kernel
theorem d_MC_read_69 : decode prog_13_method_16_code 69 = .ok (.iload_n 1, 1) := by decide +kernel
theorem d_MC_read_70 : decode prog_13_method_16_code 70 = .ok (.bipush 6, 2) := by decide +kernel
theorem d_MC_read_72 : decode prog_13_method_16_code 72 = .ok (.if_icmp .ne 43, 3) := by decide +kernel
theorem d_MC_read_75 : decode prog_13_method_16_code 75 = .ok (.aload_n 0, 1) := by decide +kernel
theorem d_MC_read_76 : decode prog_13_method_16_code 76 = .ok (.getfield 13, 3) := by decide +kernel
theorem d_MC_read_79 : decode prog_13_method_16_code 79 = .ok (.iload_n 2, 1) := by decide +kernel
theorem d_MC_read_80 : decode prog_13_method_16_code 80 = .ok (.aload_n 0, 1) := by decide +kernel
theorem d_MC_read_81 : decode prog_13_method_16_code 81 = .ok (.getfield 21, 3) := by decide +kernel
theorem d_MC_read_84 : decode prog_13_method_16_code 84 = .ok (.bipush 8, 2) := by decide +kernel
theorem d_MC_read_86 : decode prog_13_method_16_code 86 = .ok (.iaload, 1) := by decide +kernel
theorem d_MC_read_87 : decode prog_13_method_16_code 87 = .ok (.sipush 256, 3) := by decide +kernel
theorem d_MC_read_90 : decode prog_13_method_16_code 90 = .ok (.aload_n 0, 1) := by decide +kernel
theorem d_MC_read_91 : decode prog_13_method_16_code 91 = .ok (.getfield 21, 3) := by decide +kernel
theorem d_MC_read_94 : decode prog_13_method_16_code 94 = .ok (.bipush 9, 2) := by decide +kernel
theorem d_MC_read_96 : decode prog_13_method_16_code 96 = .ok (.iaload, 1) := by decide +kernel
theorem d_MC_read_97 : decode prog_13_method_16_code 97 = .ok (.imul, 1) := by decide +kernel
theorem d_MC_read_98 : decode prog_13_method_16_code 98 = .ok (.iadd, 1) := by decide +kernel
theorem d_MC_read_99 : decode prog_13_method_16_code 99 = .ok (.iastore, 1) := by decide +kernel
theorem d_MC_read_100 : decode prog_13_method_16_code 100 = .ok (.aload_n 0, 1) := by decide +kernel
theorem d_MC_read_101 : decode prog_13_method_16_code 101 = .ok (.getfield 17, 3) := by decide +kernel
theorem d_MC_read_104 : decode prog_13_method_16_code 104 = .ok (.iload_n 2, 1) := by decide +kernel
theorem d_MC_read_105 : decode prog_13_method_16_code 105 = .ok (.aload_n 0, 1) := by decide +kernel
theorem d_MC_read_106 : decode prog_13_method_16_code 106 = .ok (.iconst 0, 1) := by decide +kernel
theorem d_MC_read_107 : decode prog_13_method_16_code 107 = .ok (.bipush 64, 2) := by decide +kernel
theorem d_MC_read_109 : decode prog_13_method_16_code 109 = .ok (.invokevirtual 45, 3) := by decide +kernel
theorem d_MC_read_112 : decode prog_13_method_16_code 112 = .ok (.lastore, 1) := by decide +kernel
theorem d_MC_read_113 : decode prog_13_method_16_code 113 = .ok (.iconst 0, 1) := by decide +kernel
theorem d_MC_read_114 : decode prog_13_method_16_code 114 = .ok (.ireturn, 1) := by decide +kernel
theorem d_MC_read_115 : decode prog_13_method_16_code 115 = .ok (.iload_n 1, 1) := by decide +kernel
theorem d_MC_read_116 : decode prog_13_method_16_code 116 = .ok (.iconst 5, 1) := by decide +kernel
theorem d_MC_read_117 : decode prog_13_method_16_code 117 = .ok (.if_icmp .ne 62, 3) := by decide +kernel
theorem d_MC_read_120 : decode prog_13_method_16_code 120 = .ok (.lconst 0, 1) := by decide +kernel
theorem d_MC_read_121 : decode prog_13_method_16_code 121 = .ok (.lstore_n 3, 1) := by decide +kernel
theorem d_MC_read_122 : decode prog_13_method_16_code 122 = .ok (.bipush 17, 2) := by decide +kernel
theorem d_MC_read_124 : decode prog_13_method_16_code 124 = .ok (.istore 5, 2) := by decide +kernel
theorem d_MC_read_126 : decode prog_13_method_16_code 126 = .ok (.iload 5, 2) := by decide +kernel
theorem d_MC_read_128 : decode prog_13_method_16_code 128 = .ok (.ifCond .lt 25, 3) := by decide +kernel
theorem d_MC_read_131 : decode prog_13_method_16_code 131 = .ok (.ldc2_w 62, 3) := by decide +kernel
theorem d_MC_read_134 : decode prog_13_method_16_code 134 = .ok (.lload_n 3, 1) := by decide +kernel
theorem d_MC_read_135 : decode prog_13_method_16_code 135 = .ok (.lmul, 1) := by decide +kernel
theorem d_MC_read_136 : decode prog_13_method_16_code 136 = .ok (.aload_n 0, 1) := by decide +kernel
theorem d_MC_read_137 : decode prog_13_method_16_code 137 = .ok (.iconst 4, 1) := by decide +kernel
theorem d_MC_read_138 : decode prog_13_method_16_code 138 = .ok (.iload 5, 2) := by decide +kernel
theorem d_MC_read_140 : decode prog_13_method_16_code 140 = .ok (.imul, 1) := by decide +kernel
theorem d_MC_read_141 : decode prog_13_method_16_code 141 = .ok (.iconst 4, 1) := by decide +kernel
theorem d_MC_read_142 : decode prog_13_method_16_code 142 = .ok (.invokevirtual 45, 3) := by decide +kernel
theorem d_MC_read_145 : decode prog_13_method_16_code 145 = .ok (.ladd, 1) := by decide +kernel
theorem d_MC_read_146 : decode prog_13_method_16_code 146 = .ok (.lstore_n 3, 1) := by decide +kernel
theorem d_MC_read_147 : decode prog_13_method_16_code 147 = .ok (.iinc 5 (-1), 3) := by decide +kernel
theorem d_MC_read_150 : decode prog_13_method_16_code 150 = .ok (.goto (-24), 3) := by decide +kernel
theorem d_MC_read_153 : decode prog_13_method_16_code 153 = .ok (.aload_n 0, 1) := by decide +kernel
theorem d_MC_read_154 : decode prog_13_method_16_code 154 = .ok (.iload_n 2, 1) := by decide +kernel
theorem d_MC_read_155 : decode prog_13_method_16_code 155 = .ok (.aload_n 0, 1) := by decide +kernel
theorem d_MC_read_156 : decode prog_13_method_16_code 156 = .ok (.getfield 21, 3) := by decide +kernel
theorem d_MC_read_159 : decode prog_13_method_16_code 159 = .ok (.bipush 9, 2) := by decide +kernel
theorem d_MC_read_161 : decode prog_13_method_16_code 161 = .ok (.iaload, 1) := by decide +kernel
theorem d_MC_read_162 : decode prog_13_method_16_code 162 = .ok (.bipush 127, 2) := by decide +kernel
theorem d_MC_read_164 : decode prog_13_method_16_code 164 = .ok (.if_icmp .le 7, 3) := by decide +kernel
theorem d_MC_read_167 : decode prog_13_method_16_code 167 = .ok (.iconst 1, 1) := by decide +kernel
theorem d_MC_read_168 : decode prog_13_method_16_code 168 = .ok (.goto 4, 3) := by decide +kernel
theorem d_MC_read_171 : decode prog_13_method_16_code 171 = .ok (.iconst 0, 1) := by decide +kernel
theorem d_MC_read_172 : decode prog_13_method_16_code 172 = .ok (.lload_n 3, 1) := by decide +kernel
theorem d_MC_read_173 : decode prog_13_method_16_code 173 = .ok (.iconst 0, 1) := by decide +kernel
theorem d_MC_read_174 : decode prog_13_method_16_code 174 = .ok (.invokevirtual 54, 3) := by decide +kernel
theorem d_MC_read_177 : decode prog_13_method_16_code 177 = .ok (.iconst 0, 1) := by decide +kernel
theorem d_MC_read_178 : decode prog_13_method_16_code 178 = .ok (.ireturn, 1) := by decide +kernel
theorem d_MC_read_179 : decode prog_13_method_16_code 179 = .ok (.iload_n 1, 1) := by decide +kernel
theorem d_MC_read_180 : decode prog_13_method_16_code 180 = .ok (.ifCond .ne 8, 3) := by decide +kernel
theorem d_MC_read_183 : decode prog_13_method_16_code 183 = .ok (.bipush 16, 2) := by decide +kernel
theorem d_MC_read_185 : decode prog_13_method_16_code 185 = .ok (.goto 15, 3) := by decide +kernel
theorem d_MC_read_188 : decode prog_13_method_16_code 188 = .ok (.iload_n 1, 1) := by decide +kernel
theorem d_MC_read_189 : decode prog_13_method_16_code 189 = .ok (.iconst 1, 1) := by decide +kernel
theorem d_MC_read_190 : decode prog_13_method_16_code 190 = .ok (.if_icmp .ne 8, 3) := by decide +kernel
theorem d_MC_read_193 : decode prog_13_method_16_code 193 = .ok (.bipush 32, 2) := by decide +kernel
theorem d_MC_read_195 : decode prog_13_method_16_code 195 = .ok (.goto 5, 3) := by decide +kernel
theorem d_MC_read_198 : decode prog_13_method_16_code 198 = .ok (.bipush 64, 2) := by decide +kernel
theorem d_MC_read_200 : decode prog_13_method_16_code 200 = .ok (.istore_n 3, 1) := by decide +kernel
theorem d_MC_read_201 : decode prog_13_method_16_code 201 = .ok (.aload_n 0, 1) := by decide +kernel
theorem d_MC_read_202 : decode prog_13_method_16_code 202 = .ok (.iload_n 3, 1) := by decide +kernel
theorem d_MC_read_203 : decode prog_13_method_16_code 203 = .ok (.iconst 1, 1) := by decide +kernel
theorem d_MC_read_204 : decode prog_13_method_16_code 204 = .ok (.isub, 1) := by decide +kernel
theorem d_MC_read_205 : decode prog_13_method_16_code 205 = .ok (.invokevirtual 34, 3) := by decide +kernel
theorem d_MC_read_208 : decode prog_13_method_16_code 208 = .ok (.iconst 1, 1) := by decide +kernel
theorem d_MC_read_209 : decode prog_13_method_16_code 209 = .ok (.if_icmp .ne 7, 3) := by decide +kernel
theorem d_MC_read_212 : decode prog_13_method_16_code 212 = .ok (.iconst 1, 1) := by decide +kernel
theorem d_MC_read_213 : decode prog_13_method_16_code 213 = .ok (.goto 4, 3) := by decide +kernel
theorem d_MC_read_216 : decode prog_13_method_16_code 216 = .ok (.iconst 0, 1) := by decide +kernel
theorem d_MC_read_217 : decode prog_13_method_16_code 217 = .ok (.istore 4, 2) := by decide +kernel
theorem d_MC_read_219 : decode prog_13_method_16_code 219 = .ok (.lconst 0, 1) := by decide +kernel
theorem d_MC_read_220 : decode prog_13_method_16_code 220 = .ok (.lstore 5, 2) := by decide +kernel
theorem d_MC_read_222 : decode prog_13_method_16_code 222 = .ok (.iload_n 3, 1) := by decide +kernel
theorem d_MC_read_223 : decode prog_13_method_16_code 223 = .ok (.iconst 1, 1) := by decide +kernel
theorem d_MC_read_224 : decode prog_13_method_16_code 224 = .ok (.isub, 1) := by decide +kernel
theorem d_MC_read_225 : decode prog_13_method_16_code 225 = .ok (.istore 7, 2) := by decide +kernel
theorem d_MC_read_227 : decode prog_13_method_16_code 227 = .ok (.iload 7, 2) := by decide +kernel
theorem d_MC_read_229 : decode prog_13_method_16_code 229 = .ok (.ifCond .lt 41, 3) := by decide +kernel
theorem d_MC_read_232 : decode prog_13_method_16_code 232 = .ok (.ldc2_w 38, 3) := by decide +kernel
theorem d_MC_read_235 : decode prog_13_method_16_code 235 = .ok (.lload 5, 2) := by decide +kernel
theorem d_MC_read_237 : decode prog_13_method_16_code 237 = .ok (.lmul, 1) := by decide +kernel
theorem d_MC_read_238 : decode prog_13_method_16_code 238 = .ok (.iload 4, 2) := by decide +kernel
theorem d_MC_read_240 : decode prog_13_method_16_code 240 = .ok (.ifCond .eq 14, 3) := by decide +kernel
theorem d_MC_read_243 : decode prog_13_method_16_code 243 = .ok (.iconst 1, 1) := by decide +kernel
theorem d_MC_read_244 : decode prog_13_method_16_code 244 = .ok (.aload_n 0, 1) := by decide +kernel
theorem d_MC_read_245 : decode prog_13_method_16_code 245 = .ok (.iload 7, 2) := by decide +kernel
theorem d_MC_read_247 : decode prog_13_method_16_code 247 = .ok (.invokevirtual 34, 3) := by decide +kernel
theorem d_MC_read_250 : decode prog_13_method_16_code 250 = .ok (.isub, 1) := by decide +kernel
theorem d_MC_read_251 : decode prog_13_method_16_code 251 = .ok (.goto 9, 3) := by decide +kernel
theorem d_MC_read_254 : decode prog_13_method_16_code 254 = .ok (.aload_n 0, 1) := by decide +kernel
theorem d_MC_read_255 : decode prog_13_method_16_code 255 = .ok (.iload 7, 2) := by decide +kernel
theorem d_MC_read_257 : decode prog_13_method_16_code 257 = .ok (.invokevirtual 34, 3) := by decide +kernel
theorem d_MC_read_260 : decode prog_13_method_16_code 260 = .ok (.i2l, 1) := by decide +kernel
theorem d_MC_read_261 : decode prog_13_method_16_code 261 = .ok (.ladd, 1) := by decide +kernel
theorem d_MC_read_262 : decode prog_13_method_16_code 262 = .ok (.lstore 5, 2) := by decide +kernel
theorem d_MC_read_264 : decode prog_13_method_16_code 264 = .ok (.iinc 7 (-1), 3) := by decide +kernel
theorem d_MC_read_267 : decode prog_13_method_16_code 267 = .ok (.goto (-40), 3) := by decide +kernel
theorem d_MC_read_270 : decode prog_13_method_16_code 270 = .ok (.aload_n 0, 1) := by decide +kernel
theorem d_MC_read_271 : decode prog_13_method_16_code 271 = .ok (.iload_n 2, 1) := by decide +kernel
theorem d_MC_read_272 : decode prog_13_method_16_code 272 = .ok (.iload 4, 2) := by decide +kernel
theorem d_MC_read_274 : decode prog_13_method_16_code 274 = .ok (.iload 4, 2) := by decide +kernel
theorem d_MC_read_276 : decode prog_13_method_16_code 276 = .ok (.ifCond .eq 10, 3) := by decide +kernel
theorem d_MC_read_279 : decode prog_13_method_16_code 279 = .ok (.lload 5, 2) := by decide +kernel
theorem d_MC_read_281 : decode prog_13_method_16_code 281 = .ok (.lconst 1, 1) := by decide +kernel
theorem d_MC_read_282 : decode prog_13_method_16_code 282 = .ok (.ladd, 1) := by decide +kernel
theorem d_MC_read_283 : decode prog_13_method_16_code 283 = .ok (.goto 5, 3) := by decide +kernel
theorem d_MC_read_286 : decode prog_13_method_16_code 286 = .ok (.lload 5, 2) := by decide +kernel
theorem d_MC_read_288 : decode prog_13_method_16_code 288 = .ok (.iconst 0, 1) := by decide +kernel
theorem d_MC_read_289 : decode prog_13_method_16_code 289 = .ok (.invokevirtual 54, 3) := by decide +kernel
theorem d_MC_read_292 : decode prog_13_method_16_code 292 = .ok (.iconst 0, 1) := by decide +kernel
theorem d_MC_read_293 : decode prog_13_method_16_code 293 = .ok (.ireturn, 1) := by decide +kernel
theorem d_MC_part_0 : decode prog_13_method_6_code 0 = .ok (.aload_n 0, 1) := by decide +kernel
theorem d_MC_part_1 : decode prog_13_method_6_code 1 = .ok (.iload_n 1, 1) := by decide +kernel
theorem d_MC_part_2 : decode prog_13_method_6_code 2 = .ok (.invokestatic 28, 3) := by decide +kernel
theorem d_MC_part_5 : decode prog_13_method_6_code 5 = .ok (.ifCond .eq 7, 3) := by decide +kernel
theorem d_MC_part_8 : decode prog_13_method_6_code 8 = .ok (.iconst 1, 1) := by decide +kernel
theorem d_MC_part_9 : decode prog_13_method_6_code 9 = .ok (.goto 17, 3) := by decide +kernel
theorem d_MC_part_12 : decode prog_13_method_6_code 12 = .ok (.iload_n 2, 1) := by decide +kernel
theorem d_MC_part_13 : decode prog_13_method_6_code 13 = .ok (.ifCond .lt 8, 3) := by decide +kernel
theorem d_MC_part_16 : decode prog_13_method_6_code 16 = .ok (.iload_n 2, 1) := by decide +kernel
theorem d_MC_part_17 : decode prog_13_method_6_code 17 = .ok (.iconst 2, 1) := by decide +kernel
theorem d_MC_part_18 : decode prog_13_method_6_code 18 = .ok (.if_icmp .le 7, 3) := by decide +kernel
theorem d_MC_part_21 : decode prog_13_method_6_code 21 = .ok (.iconst 2, 1) := by decide +kernel
theorem d_MC_part_22 : decode prog_13_method_6_code 22 = .ok (.goto 4, 3) := by decide +kernel
theorem d_MC_part_25 : decode prog_13_method_6_code 25 = .ok (.iconst 0, 1) := by decide +kernel
theorem d_MC_part_26 : decode prog_13_method_6_code 26 = .ok (.putfield 24, 3) := by decide +kernel
theorem d_MC_part_29 : decode prog_13_method_6_code 29 = .ok (.aload_n 0, 1) := by decide +kernel
theorem d_MC_part_30 : decode prog_13_method_6_code 30 = .ok (.getfield 24, 3) := by decide +kernel
theorem d_MC_part_33 : decode prog_13_method_6_code 33 = .ok (.ifCond .le 5, 3) := by decide +kernel
theorem d_MC_part_36 : decode prog_13_method_6_code 36 = .ok (.iconst 0, 1) := by decide +kernel
theorem d_MC_part_37 : decode prog_13_method_6_code 37 = .ok (.ireturn, 1) := by decide +kernel
theorem d_MC_part_38 : decode prog_13_method_6_code 38 = .ok (.iload_n 2, 1) := by decide +kernel
theorem d_MC_part_39 : decode prog_13_method_6_code 39 = .ok (.ifCond .ne 12, 3) := by decide +kernel
theorem d_MC_part_42 : decode prog_13_method_6_code 42 = .ok (.aload_n 0, 1) := by decide +kernel
theorem d_MC_part_43 : decode prog_13_method_6_code 43 = .ok (.getfield 13, 3) := by decide +kernel
theorem d_MC_part_46 : decode prog_13_method_6_code 46 = .ok (.iload_n 1, 1) := by decide +kernel
theorem d_MC_part_47 : decode prog_13_method_6_code 47 = .ok (.iaload, 1) := by decide +kernel
theorem d_MC_part_48 : decode prog_13_method_6_code 48 = .ok (.goto 28, 3) := by decide +kernel
theorem d_MC_part_51 : decode prog_13_method_6_code 51 = .ok (.iload_n 2, 1) := by decide +kernel
theorem d_MC_part_52 : decode prog_13_method_6_code 52 = .ok (.iconst 1, 1) := by decide +kernel
theorem d_MC_part_53 : decode prog_13_method_6_code 53 = .ok (.if_icmp .ne 16, 3) := by decide +kernel
theorem d_MC_part_56 : decode prog_13_method_6_code 56 = .ok (.aload_n 0, 1) := by decide +kernel
theorem d_MC_part_57 : decode prog_13_method_6_code 57 = .ok (.getfield 17, 3) := by decide +kernel
theorem d_MC_part_60 : decode prog_13_method_6_code 60 = .ok (.iload_n 1, 1) := by decide +kernel
theorem d_MC_part_61 : decode prog_13_method_6_code 61 = .ok (.laload, 1) := by decide +kernel
theorem d_MC_part_62 : decode prog_13_method_6_code 62 = .ok (.bipush 32, 2) := by decide +kernel
theorem d_MC_part_64 : decode prog_13_method_6_code 64 = .ok (.lshr, 1) := by decide +kernel
theorem d_MC_part_65 : decode prog_13_method_6_code 65 = .ok (.l2i, 1) := by decide +kernel
theorem d_MC_part_66 : decode prog_13_method_6_code 66 = .ok (.goto 10, 3) := by decide +kernel
theorem d_MC_part_69 : decode prog_13_method_6_code 69 = .ok (.aload_n 0, 1) := by decide +kernel
theorem d_MC_part_70 : decode prog_13_method_6_code 70 = .ok (.getfield 17, 3) := by decide +kernel
theorem d_MC_part_73 : decode prog_13_method_6_code 73 = .ok (.iload_n 1, 1) := by decide +kernel
theorem d_MC_part_74 : decode prog_13_method_6_code 74 = .ok (.laload, 1) := by decide +kernel
theorem d_MC_part_75 : decode prog_13_method_6_code 75 = .ok (.l2i, 1) := by decide +kernel
theorem d_MC_part_76 : decode prog_13_method_6_code 76 = .ok (.ireturn, 1) := by decide +kernel
theorem d_MC_set_0 : decode prog_13_method_5_code 0 = .ok (.aload_n 0, 1) := by decide +kernel
theorem d_MC_set_1 : decode prog_13_method_5_code 1 = .ok (.iload_n 1, 1) := by decide +kernel
theorem d_MC_set_2 : decode prog_13_method_5_code 2 = .ok (.invokestatic 28, 3) := by decide +kernel
theorem d_MC_set_5 : decode prog_13_method_5_code 5 = .ok (.ifCond .eq 7, 3) := by decide +kernel
theorem d_MC_set_8 : decode prog_13_method_5_code 8 = .ok (.iconst 1, 1) := by decide +kernel
theorem d_MC_set_9 : decode prog_13_method_5_code 9 = .ok (.goto 18, 3) := by decide +kernel
theorem d_MC_set_12 : decode prog_13_method_5_code 12 = .ok (.iload_n 2, 1) := by decide +kernel
theorem d_MC_set_13 : decode prog_13_method_5_code 13 = .ok (.ifCond .lt 9, 3) := by decide +kernel
theorem d_MC_set_16 : decode prog_13_method_5_code 16 = .ok (.iload_n 2, 1) := by decide +kernel
theorem d_MC_set_17 : decode prog_13_method_5_code 17 = .ok (.ldc 27, 2) := by decide +kernel
theorem d_MC_set_19 : decode prog_13_method_5_code 19 = .ok (.if_icmp .le 7, 3) := by decide +kernel
theorem d_MC_set_22 : decode prog_13_method_5_code 22 = .ok (.iconst 2, 1) := by decide +kernel
theorem d_MC_set_23 : decode prog_13_method_5_code 23 = .ok (.goto 4, 3) := by decide +kernel
theorem d_MC_set_26 : decode prog_13_method_5_code 26 = .ok (.iconst 0, 1) := by decide +kernel
theorem d_MC_set_27 : decode prog_13_method_5_code 27 = .ok (.putfield 24, 3) := by decide +kernel
theorem d_MC_set_30 : decode prog_13_method_5_code 30 = .ok (.aload_n 0, 1) := by decide +kernel
theorem d_MC_set_31 : decode prog_13_method_5_code 31 = .ok (.getfield 24, 3) := by decide +kernel
theorem d_MC_set_34 : decode prog_13_method_5_code 34 = .ok (.ifCond .le 4, 3) := by decide +kernel
theorem d_MC_set_37 : decode prog_13_method_5_code 37 = .ok (.return_, 1) := by decide +kernel
theorem d_MC_set_38 : decode prog_13_method_5_code 38 = .ok (.aload_n 0, 1) := by decide +kernel
theorem d_MC_set_39 : decode prog_13_method_5_code 39 = .ok (.getfield 13, 3) := by decide +kernel
theorem d_MC_set_42 : decode prog_13_method_5_code 42 = .ok (.iload_n 1, 1) := by decide +kernel
theorem d_MC_set_43 : decode prog_13_method_5_code 43 = .ok (.iload_n 2, 1) := by decide +kernel
theorem d_MC_set_44 : decode prog_13_method_5_code 44 = .ok (.iastore, 1) := by decide +kernel
theorem d_MC_set_45 : decode prog_13_method_5_code 45 = .ok (.aload_n 0, 1) := by decide +kernel
theorem d_MC_set_46 : decode prog_13_method_5_code 46 = .ok (.getfield 17, 3) := by decide +kernel
theorem d_MC_set_49 : decode prog_13_method_5_code 49 = .ok (.iload_n 1, 1) := by decide +kernel
theorem d_MC_set_50 : decode prog_13_method_5_code 50 = .ok (.iload_n 3, 1) := by decide +kernel
theorem d_MC_set_51 : decode prog_13_method_5_code 51 = .ok (.i2l, 1) := by decide +kernel
theorem d_MC_set_52 : decode prog_13_method_5_code 52 = .ok (.bipush 32, 2) := by decide +kernel
theorem d_MC_set_54 : decode prog_13_method_5_code 54 = .ok (.lshl, 1) := by decide +kernel
theorem d_MC_set_55 : decode prog_13_method_5_code 55 = .ok (.iload 4, 2) := by decide +kernel
theorem d_MC_set_57 : decode prog_13_method_5_code 57 = .ok (.i2l, 1) := by decide +kernel
theorem d_MC_set_58 : decode prog_13_method_5_code 58 = .ok (.ldc2_w 32, 3) := by decide +kernel
theorem d_MC_set_61 : decode prog_13_method_5_code 61 = .ok (.land, 1) := by decide +kernel
theorem d_MC_set_62 : decode prog_13_method_5_code 62 = .ok (.lor, 1) := by decide +kernel
theorem d_MC_set_63 : decode prog_13_method_5_code 63 = .ok (.lastore, 1) := by decide +kernel
theorem d_MC_set_64 : decode prog_13_method_5_code 64 = .ok (.return_, 1) := by decide +kernel
theorem d_MC_isNumber_0 : decode prog_13_method_19_code 0 = .ok (.aload_n 0, 1) := by decide +kernel
theorem d_MC_isNumber_1 : decode prog_13_method_19_code 1 = .ok (.getfield 64, 3) := by decide +kernel
theorem d_MC_isNumber_4 : decode prog_13_method_19_code 4 = .ok (.sipush 32767, 3) := by decide +kernel
theorem d_MC_isNumber_7 : decode prog_13_method_19_code 7 = .ok (.if_icmp .ge 7, 3) := by decide +kernel
theorem d_MC_isNumber_10 : decode prog_13_method_19_code 10 = .ok (.iconst 1, 1) := by decide +kernel
theorem d_MC_isNumber_11 : decode prog_13_method_19_code 11 = .ok (.goto 4, 3) := by decide +kernel
theorem d_MC_isNumber_14 : decode prog_13_method_19_code 14 = .ok (.iconst 0, 1) := by decide +kernel
theorem d_MC_isNumber_15 : decode prog_13_method_19_code 15 = .ok (.ireturn, 1) := by decide +kernel
theorem d_MC_way_0 : decode prog_13_method_18_code 0 = .ok (.aload_n 0, 1) := by decide +kernel
theorem d_MC_way_1 : decode prog_13_method_18_code 1 = .ok (.getfield 7, 3) := by decide +kernel
theorem d_MC_way_4 : decode prog_13_method_18_code 4 = .ok (.sipush 1024, 3) := by decide +kernel
theorem d_MC_way_7 : decode prog_13_method_18_code 7 = .ok (.idiv, 1) := by decide +kernel
theorem d_MC_way_8 : decode prog_13_method_18_code 8 = .ok (.iconst 4, 1) := by decide +kernel
theorem d_MC_way_9 : decode prog_13_method_18_code 9 = .ok (.irem, 1) := by decide +kernel
theorem d_MC_way_10 : decode prog_13_method_18_code 10 = .ok (.ireturn, 1) := by decide +kernel
theorem d_MC_round_0 : decode prog_13_method_17_code 0 = .ok (.aload_n 0, 1) := by decide +kernel
theorem d_MC_round_1 : decode prog_13_method_17_code 1 = .ok (.getfield 64, 3) := by decide +kernel
theorem d_MC_round_4 : decode prog_13_method_17_code 4 = .ok (.ifCond .ne 7, 3) := by decide +kernel
theorem d_MC_round_7 : decode prog_13_method_17_code 7 = .ok (.iconst 1, 1) := by decide +kernel
theorem d_MC_round_8 : decode prog_13_method_17_code 8 = .ok (.goto 7, 3) := by decide +kernel
theorem d_MC_round_11 : decode prog_13_method_17_code 11 = .ok (.aload_n 0, 1) := by decide +kernel
theorem d_MC_round_12 : decode prog_13_method_17_code 12 = .ok (.getfield 64, 3) := by decide +kernel
theorem d_MC_round_15 : decode prog_13_method_17_code 15 = .ok (.sipush 16446, 3) := by decide +kernel
theorem d_MC_round_18 : decode prog_13_method_17_code 18 = .ok (.isub, 1) := by decide +kernel
theorem d_MC_round_19 : decode prog_13_method_17_code 19 = .ok (.istore_n 3, 1) := by decide +kernel
theorem d_MC_round_20 : decode prog_13_method_17_code 20 = .ok (.aload_n 0, 1) := by decide +kernel
theorem d_MC_round_21 : decode prog_13_method_17_code 21 = .ok (.lconst 0, 1) := by decide +kernel
theorem d_MC_round_22 : decode prog_13_method_17_code 22 = .ok (.putfield 67, 3) := by decide +kernel
theorem d_MC_round_25 : decode prog_13_method_17_code 25 = .ok (.aload_n 0, 1) := by decide +kernel
theorem d_MC_round_26 : decode prog_13_method_17_code 26 = .ok (.iconst 0, 1) := by decide +kernel
theorem d_MC_round_27 : decode prog_13_method_17_code 27 = .ok (.putfield 71, 3) := by decide +kernel
theorem d_MC_round_30 : decode prog_13_method_17_code 30 = .ok (.iconst 0, 1) := by decide +kernel
theorem d_MC_round_31 : decode prog_13_method_17_code 31 = .ok (.istore 4, 2) := by decide +kernel
theorem d_MC_round_33 : decode prog_13_method_17_code 33 = .ok (.iconst 0, 1) := by decide +kernel
theorem d_MC_round_34 : decode prog_13_method_17_code 34 = .ok (.istore 5, 2) := by decide +kernel
theorem d_MC_round_36 : decode prog_13_method_17_code 36 = .ok (.iconst 0, 1) := by decide +kernel
theorem d_MC_round_37 : decode prog_13_method_17_code 37 = .ok (.istore 6, 2) := by decide +kernel
theorem d_MC_round_39 : decode prog_13_method_17_code 39 = .ok (.iload 6, 2) := by decide +kernel
theorem d_MC_round_41 : decode prog_13_method_17_code 41 = .ok (.bipush 64, 2) := by decide +kernel
theorem d_MC_round_43 : decode prog_13_method_17_code 43 = .ok (.if_icmp .ge 115, 3) := by decide +kernel
theorem d_MC_round_46 : decode prog_13_method_17_code 46 = .ok (.iload_n 3, 1) := by decide +kernel
theorem d_MC_round_47 : decode prog_13_method_17_code 47 = .ok (.iload 6, 2) := by decide +kernel
theorem d_MC_round_49 : decode prog_13_method_17_code 49 = .ok (.iadd, 1) := by decide +kernel
theorem d_MC_round_50 : decode prog_13_method_17_code 50 = .ok (.iload_n 1, 1) := by decide +kernel
theorem d_MC_round_51 : decode prog_13_method_17_code 51 = .ok (.isub, 1) := by decide +kernel
theorem d_MC_round_52 : decode prog_13_method_17_code 52 = .ok (.istore 7, 2) := by decide +kernel
theorem d_MC_round_54 : decode prog_13_method_17_code 54 = .ok (.aload_n 0, 1) := by decide +kernel
theorem d_MC_round_55 : decode prog_13_method_17_code 55 = .ok (.getfield 75, 3) := by decide +kernel
theorem d_MC_round_58 : decode prog_13_method_17_code 58 = .ok (.iload 6, 2) := by decide +kernel
theorem d_MC_round_60 : decode prog_13_method_17_code 60 = .ok (.lshr, 1) := by decide +kernel
theorem d_MC_round_61 : decode prog_13_method_17_code 61 = .ok (.lconst 1, 1) := by decide +kernel
theorem d_MC_round_62 : decode prog_13_method_17_code 62 = .ok (.land, 1) := by decide +kernel
theorem d_MC_round_63 : decode prog_13_method_17_code 63 = .ok (.lconst 1, 1) := by decide +kernel
theorem d_MC_round_64 : decode prog_13_method_17_code 64 = .ok (.lcmp, 1) := by decide +kernel
theorem d_MC_round_65 : decode prog_13_method_17_code 65 = .ok (.ifCond .ne 87, 3) := by decide +kernel
theorem d_MC_round_68 : decode prog_13_method_17_code 68 = .ok (.aload_n 0, 1) := by decide +kernel
theorem d_MC_round_69 : decode prog_13_method_17_code 69 = .ok (.aload_n 0, 1) := by decide +kernel
theorem d_MC_round_70 : decode prog_13_method_17_code 70 = .ok (.getfield 71, 3) := by decide +kernel
theorem d_MC_round_73 : decode prog_13_method_17_code 73 = .ok (.ifCond .ne 10, 3) := by decide +kernel
theorem d_MC_round_76 : decode prog_13_method_17_code 76 = .ok (.iload 7, 2) := by decide +kernel
theorem d_MC_round_78 : decode prog_13_method_17_code 78 = .ok (.bipush 63, 2) := by decide +kernel
theorem d_MC_round_80 : decode prog_13_method_17_code 80 = .ok (.if_icmp .le 7, 3) := by decide +kernel
theorem d_MC_round_83 : decode prog_13_method_17_code 83 = .ok (.iconst 1, 1) := by decide +kernel
theorem d_MC_round_84 : decode prog_13_method_17_code 84 = .ok (.goto 4, 3) := by decide +kernel
theorem d_MC_round_87 : decode prog_13_method_17_code 87 = .ok (.iconst 0, 1) := by decide +kernel
theorem d_MC_round_88 : decode prog_13_method_17_code 88 = .ok (.putfield 71, 3) := by decide +kernel
theorem d_MC_round_91 : decode prog_13_method_17_code 91 = .ok (.iload 7, 2) := by decide +kernel
theorem d_MC_round_93 : decode prog_13_method_17_code 93 = .ok (.ifCond .lt 23, 3) := by decide +kernel
theorem d_MC_round_96 : decode prog_13_method_17_code 96 = .ok (.iload 7, 2) := by decide +kernel
theorem d_MC_round_98 : decode prog_13_method_17_code 98 = .ok (.bipush 64, 2) := by decide +kernel
theorem d_MC_round_100 : decode prog_13_method_17_code 100 = .ok (.if_icmp .ge 16, 3) := by decide +kernel
theorem d_MC_round_103 : decode prog_13_method_17_code 103 = .ok (.aload_n 0, 1) := by decide +kernel
theorem d_MC_round_104 : decode prog_13_method_17_code 104 = .ok (.dup, 1) := by decide +kernel
theorem d_MC_round_105 : decode prog_13_method_17_code 105 = .ok (.getfield 67, 3) := by decide +kernel
theorem d_MC_round_108 : decode prog_13_method_17_code 108 = .ok (.lconst 1, 1) := by decide +kernel
theorem d_MC_round_109 : decode prog_13_method_17_code 109 = .ok (.iload 7, 2) := by decide +kernel
theorem d_MC_round_111 : decode prog_13_method_17_code 111 = .ok (.lshl, 1) := by decide +kernel
theorem d_MC_round_112 : decode prog_13_method_17_code 112 = .ok (.ladd, 1) := by decide +kernel
theorem d_MC_round_113 : decode prog_13_method_17_code 113 = .ok (.putfield 67, 3) := by decide +kernel
theorem d_MC_round_116 : decode prog_13_method_17_code 116 = .ok (.iload 4, 2) := by decide +kernel
theorem d_MC_round_118 : decode prog_13_method_17_code 118 = .ok (.ifCond .ne 9, 3) := by decide +kernel
theorem d_MC_round_121 : decode prog_13_method_17_code 121 = .ok (.iload 7, 2) := by decide +kernel
theorem d_MC_round_123 : decode prog_13_method_17_code 123 = .ok (.iconst (-1), 1) := by decide +kernel
theorem d_MC_round_124 : decode prog_13_method_17_code 124 = .ok (.if_icmp .ne 7, 3) := by decide +kernel
theorem d_MC_round_127 : decode prog_13_method_17_code 127 = .ok (.iconst 1, 1) := by decide +kernel
theorem d_MC_round_128 : decode prog_13_method_17_code 128 = .ok (.goto 4, 3) := by decide +kernel
theorem d_MC_round_131 : decode prog_13_method_17_code 131 = .ok (.iconst 0, 1) := by decide +kernel
theorem d_MC_round_132 : decode prog_13_method_17_code 132 = .ok (.istore 4, 2) := by decide +kernel
theorem d_MC_round_134 : decode prog_13_method_17_code 134 = .ok (.iload 5, 2) := by decide +kernel
theorem d_MC_round_136 : decode prog_13_method_17_code 136 = .ok (.ifCond .ne 9, 3) := by decide +kernel
theorem d_MC_round_139 : decode prog_13_method_17_code 139 = .ok (.iload 7, 2) := by decide +kernel
theorem d_MC_round_141 : decode prog_13_method_17_code 141 = .ok (.iconst (-1), 1) := by decide +kernel
theorem d_MC_round_142 : decode prog_13_method_17_code 142 = .ok (.if_icmp .ge 7, 3) := by decide +kernel
theorem d_MC_round_145 : decode prog_13_method_17_code 145 = .ok (.iconst 1, 1) := by decide +kernel
theorem d_MC_round_146 : decode prog_13_method_17_code 146 = .ok (.goto 4, 3) := by decide +kernel
theorem d_MC_round_149 : decode prog_13_method_17_code 149 = .ok (.iconst 0, 1) := by decide +kernel
theorem d_MC_round_150 : decode prog_13_method_17_code 150 = .ok (.istore 5, 2) := by decide +kernel
theorem d_MC_round_152 : decode prog_13_method_17_code 152 = .ok (.iinc 6 1, 3) := by decide +kernel
theorem d_MC_round_155 : decode prog_13_method_17_code 155 = .ok (.goto (-116), 3) := by decide +kernel
theorem d_MC_round_158 : decode prog_13_method_17_code 158 = .ok (.aload_n 0, 1) := by decide +kernel
theorem d_MC_round_159 : decode prog_13_method_17_code 159 = .ok (.iload 4, 2) := by decide +kernel
theorem d_MC_round_161 : decode prog_13_method_17_code 161 = .ok (.ifCond .ne 8, 3) := by decide +kernel
theorem d_MC_round_164 : decode prog_13_method_17_code 164 = .ok (.iload 5, 2) := by decide +kernel
theorem d_MC_round_166 : decode prog_13_method_17_code 166 = .ok (.ifCond .eq 7, 3) := by decide +kernel
theorem d_MC_round_169 : decode prog_13_method_17_code 169 = .ok (.iconst 1, 1) := by decide +kernel
theorem d_MC_round_170 : decode prog_13_method_17_code 170 = .ok (.goto 4, 3) := by decide +kernel
theorem d_MC_round_173 : decode prog_13_method_17_code 173 = .ok (.iconst 0, 1) := by decide +kernel
theorem d_MC_round_174 : decode prog_13_method_17_code 174 = .ok (.putfield 78, 3) := by decide +kernel
theorem d_MC_round_177 : decode prog_13_method_17_code 177 = .ok (.iload_n 2, 1) := by decide +kernel
theorem d_MC_round_178 : decode prog_13_method_17_code 178 = .ok (.ifCond .ne 34, 3) := by decide +kernel
theorem d_MC_round_181 : decode prog_13_method_17_code 181 = .ok (.iload 4, 2) := by decide +kernel
theorem d_MC_round_183 : decode prog_13_method_17_code 183 = .ok (.ifCond .eq 25, 3) := by decide +kernel
theorem d_MC_round_186 : decode prog_13_method_17_code 186 = .ok (.iload 5, 2) := by decide +kernel
theorem d_MC_round_188 : decode prog_13_method_17_code 188 = .ok (.ifCond .ne 16, 3) := by decide +kernel
theorem d_MC_round_191 : decode prog_13_method_17_code 191 = .ok (.aload_n 0, 1) := by decide +kernel
theorem d_MC_round_192 : decode prog_13_method_17_code 192 = .ok (.getfield 67, 3) := by decide +kernel
theorem d_MC_round_195 : decode prog_13_method_17_code 195 = .ok (.ldc2_w 38, 3) := by decide +kernel
theorem d_MC_round_198 : decode prog_13_method_17_code 198 = .ok (.lrem, 1) := by decide +kernel
theorem d_MC_round_199 : decode prog_13_method_17_code 199 = .ok (.lconst 0, 1) := by decide +kernel
theorem d_MC_round_200 : decode prog_13_method_17_code 200 = .ok (.lcmp, 1) := by decide +kernel
theorem d_MC_round_201 : decode prog_13_method_17_code 201 = .ok (.ifCond .eq 7, 3) := by decide +kernel
theorem d_MC_round_204 : decode prog_13_method_17_code 204 = .ok (.iconst 1, 1) := by decide +kernel
theorem d_MC_round_205 : decode prog_13_method_17_code 205 = .ok (.goto 58, 3) := by decide +kernel
theorem d_MC_round_208 : decode prog_13_method_17_code 208 = .ok (.iconst 0, 1) := by decide +kernel
theorem d_MC_round_209 : decode prog_13_method_17_code 209 = .ok (.goto 54, 3) := by decide +kernel
theorem d_MC_round_212 : decode prog_13_method_17_code 212 = .ok (.iload_n 2, 1) := by decide +kernel
theorem d_MC_round_213 : decode prog_13_method_17_code 213 = .ok (.iconst 4, 1) := by decide +kernel
theorem d_MC_round_214 : decode prog_13_method_17_code 214 = .ok (.if_icmp .ne 21, 3) := by decide +kernel
theorem d_MC_round_217 : decode prog_13_method_17_code 217 = .ok (.iload 4, 2) := by decide +kernel
theorem d_MC_round_219 : decode prog_13_method_17_code 219 = .ok (.ifCond .eq 12, 3) := by decide +kernel
theorem d_MC_round_222 : decode prog_13_method_17_code 222 = .ok (.iload 5, 2) := by decide +kernel
theorem d_MC_round_224 : decode prog_13_method_17_code 224 = .ok (.ifCond .eq 7, 3) := by decide +kernel
theorem d_MC_round_227 : decode prog_13_method_17_code 227 = .ok (.iconst 1, 1) := by decide +kernel
theorem d_MC_round_228 : decode prog_13_method_17_code 228 = .ok (.goto 35, 3) := by decide +kernel
theorem d_MC_round_231 : decode prog_13_method_17_code 231 = .ok (.iconst 0, 1) := by decide +kernel
theorem d_MC_round_232 : decode prog_13_method_17_code 232 = .ok (.goto 31, 3) := by decide +kernel
theorem d_MC_round_235 : decode prog_13_method_17_code 235 = .ok (.aload_n 0, 1) := by decide +kernel
theorem d_MC_round_236 : decode prog_13_method_17_code 236 = .ok (.getfield 78, 3) := by decide +kernel
theorem d_MC_round_239 : decode prog_13_method_17_code 239 = .ok (.ifCond .eq 23, 3) := by decide +kernel
theorem d_MC_round_242 : decode prog_13_method_17_code 242 = .ok (.iload_n 2, 1) := by decide +kernel
theorem d_MC_round_243 : decode prog_13_method_17_code 243 = .ok (.aload_n 0, 1) := by decide +kernel
theorem d_MC_round_244 : decode prog_13_method_17_code 244 = .ok (.getfield 81, 3) := by decide +kernel
theorem d_MC_round_247 : decode prog_13_method_17_code 247 = .ok (.ifCond .eq 7, 3) := by decide +kernel
theorem d_MC_round_250 : decode prog_13_method_17_code 250 = .ok (.iconst 1, 1) := by decide +kernel
theorem d_MC_round_251 : decode prog_13_method_17_code 251 = .ok (.goto 4, 3) := by decide +kernel
theorem d_MC_round_254 : decode prog_13_method_17_code 254 = .ok (.iconst 2, 1) := by decide +kernel
theorem d_MC_round_255 : decode prog_13_method_17_code 255 = .ok (.if_icmp .ne 7, 3) := by decide +kernel
theorem d_MC_round_258 : decode prog_13_method_17_code 258 = .ok (.iconst 1, 1) := by decide +kernel
theorem d_MC_round_259 : decode prog_13_method_17_code 259 = .ok (.goto 4, 3) := by decide +kernel
theorem d_MC_round_262 : decode prog_13_method_17_code 262 = .ok (.iconst 0, 1) := by decide +kernel
theorem d_MC_round_263 : decode prog_13_method_17_code 263 = .ok (.istore 6, 2) := by decide +kernel
theorem d_MC_round_265 : decode prog_13_method_17_code 265 = .ok (.aload_n 0, 1) := by decide +kernel
theorem d_MC_round_266 : decode prog_13_method_17_code 266 = .ok (.iload 6, 2) := by decide +kernel
theorem d_MC_round_268 : decode prog_13_method_17_code 268 = .ok (.ifCond .eq 12, 3) := by decide +kernel
theorem d_MC_round_271 : decode prog_13_method_17_code 271 = .ok (.aload_n 0, 1) := by decide +kernel
theorem d_MC_round_272 : decode prog_13_method_17_code 272 = .ok (.getfield 67, 3) := by decide +kernel
theorem d_MC_round_275 : decode prog_13_method_17_code 275 = .ok (.lconst 1, 1) := by decide +kernel
theorem d_MC_round_276 : decode prog_13_method_17_code 276 = .ok (.ladd, 1) := by decide +kernel
theorem d_MC_round_277 : decode prog_13_method_17_code 277 = .ok (.goto 7, 3) := by decide +kernel
theorem d_MC_round_280 : decode prog_13_method_17_code 280 = .ok (.aload_n 0, 1) := by decide +kernel
theorem d_MC_round_281 : decode prog_13_method_17_code 281 = .ok (.getfield 67, 3) := by decide +kernel
theorem d_MC_round_284 : decode prog_13_method_17_code 284 = .ok (.putfield 67, 3) := by decide +kernel
theorem d_MC_round_287 : decode prog_13_method_17_code 287 = .ok (.return_, 1) := by decide +kernel
theorem d_MC_setBit_0 : decode prog_13_method_11_code 0 = .ok (.aload_n 0, 1) := by decide +kernel
theorem d_MC_setBit_1 : decode prog_13_method_11_code 1 = .ok (.iload_n 1, 1) := by decide +kernel
theorem d_MC_setBit_2 : decode prog_13_method_11_code 2 = .ok (.invokevirtual 34, 3) := by decide +kernel
theorem d_MC_setBit_5 : decode prog_13_method_11_code 5 = .ok (.iconst 1, 1) := by decide +kernel
theorem d_MC_setBit_6 : decode prog_13_method_11_code 6 = .ok (.if_icmp .ne 7, 3) := by decide +kernel
theorem d_MC_setBit_9 : decode prog_13_method_11_code 9 = .ok (.iconst 1, 1) := by decide +kernel
theorem d_MC_setBit_10 : decode prog_13_method_11_code 10 = .ok (.goto 4, 3) := by decide +kernel
theorem d_MC_setBit_13 : decode prog_13_method_11_code 13 = .ok (.iconst 0, 1) := by decide +kernel
theorem d_MC_setBit_14 : decode prog_13_method_11_code 14 = .ok (.istore_n 3, 1) := by decide +kernel
theorem d_MC_setBit_15 : decode prog_13_method_11_code 15 = .ok (.iload_n 3, 1) := by decide +kernel
theorem d_MC_setBit_16 : decode prog_13_method_11_code 16 = .ok (.iload_n 2, 1) := by decide +kernel
theorem d_MC_setBit_17 : decode prog_13_method_11_code 17 = .ok (.if_icmp .eq 35, 3) := by decide +kernel
theorem d_MC_setBit_20 : decode prog_13_method_11_code 20 = .ok (.aload_n 0, 1) := by decide +kernel
theorem d_MC_setBit_21 : decode prog_13_method_11_code 21 = .ok (.getfield 21, 3) := by decide +kernel
theorem d_MC_setBit_24 : decode prog_13_method_11_code 24 = .ok (.iload_n 1, 1) := by decide +kernel
theorem d_MC_setBit_25 : decode prog_13_method_11_code 25 = .ok (.bipush 8, 2) := by decide +kernel
theorem d_MC_setBit_27 : decode prog_13_method_11_code 27 = .ok (.idiv, 1) := by decide +kernel
theorem d_MC_setBit_28 : decode prog_13_method_11_code 28 = .ok (.dup2, 1) := by decide +kernel
theorem d_MC_setBit_29 : decode prog_13_method_11_code 29 = .ok (.iaload, 1) := by decide +kernel
theorem d_MC_setBit_30 : decode prog_13_method_11_code 30 = .ok (.iload_n 2, 1) := by decide +kernel
theorem d_MC_setBit_31 : decode prog_13_method_11_code 31 = .ok (.ifCond .eq 12, 3) := by decide +kernel
theorem d_MC_setBit_34 : decode prog_13_method_11_code 34 = .ok (.iconst 1, 1) := by decide +kernel
theorem d_MC_setBit_35 : decode prog_13_method_11_code 35 = .ok (.iload_n 1, 1) := by decide +kernel
theorem d_MC_setBit_36 : decode prog_13_method_11_code 36 = .ok (.bipush 8, 2) := by decide +kernel
theorem d_MC_setBit_38 : decode prog_13_method_11_code 38 = .ok (.irem, 1) := by decide +kernel
theorem d_MC_setBit_39 : decode prog_13_method_11_code 39 = .ok (.ishl, 1) := by decide +kernel
theorem d_MC_setBit_40 : decode prog_13_method_11_code 40 = .ok (.goto 10, 3) := by decide +kernel
theorem d_MC_setBit_43 : decode prog_13_method_11_code 43 = .ok (.iconst 1, 1) := by decide +kernel
theorem d_MC_setBit_44 : decode prog_13_method_11_code 44 = .ok (.iload_n 1, 1) := by decide +kernel
theorem d_MC_setBit_45 : decode prog_13_method_11_code 45 = .ok (.bipush 8, 2) := by decide +kernel
theorem d_MC_setBit_47 : decode prog_13_method_11_code 47 = .ok (.irem, 1) := by decide +kernel
theorem d_MC_setBit_48 : decode prog_13_method_11_code 48 = .ok (.ishl, 1) := by decide +kernel
theorem d_MC_setBit_49 : decode prog_13_method_11_code 49 = .ok (.ineg, 1) := by decide +kernel
theorem d_MC_setBit_50 : decode prog_13_method_11_code 50 = .ok (.iadd, 1) := by decide +kernel
theorem d_MC_setBit_51 : decode prog_13_method_11_code 51 = .ok (.iastore, 1) := by decide +kernel
theorem d_MC_setBit_52 : decode prog_13_method_11_code 52 = .ok (.return_, 1) := by decide +kernel
theorem d_MC_setBits_0 : decode prog_13_method_13_code 0 = .ok (.iconst 0, 1) := by decide +kernel
theorem d_MC_setBits_1 : decode prog_13_method_13_code 1 = .ok (.istore 5, 2) := by decide +kernel
theorem d_MC_setBits_3 : decode prog_13_method_13_code 3 = .ok (.iload 5, 2) := by decide +kernel
theorem d_MC_setBits_5 : decode prog_13_method_13_code 5 = .ok (.iload_n 2, 1) := by decide +kernel
theorem d_MC_setBits_6 : decode prog_13_method_13_code 6 = .ok (.if_icmp .ge 33, 3) := by decide +kernel
theorem d_MC_setBits_9 : decode prog_13_method_13_code 9 = .ok (.aload_n 0, 1) := by decide +kernel
theorem d_MC_setBits_10 : decode prog_13_method_13_code 10 = .ok (.iload_n 1, 1) := by decide +kernel
theorem d_MC_setBits_11 : decode prog_13_method_13_code 11 = .ok (.iload 5, 2) := by decide +kernel
theorem d_MC_setBits_13 : decode prog_13_method_13_code 13 = .ok (.iadd, 1) := by decide +kernel
theorem d_MC_setBits_14 : decode prog_13_method_13_code 14 = .ok (.lload_n 3, 1) := by decide +kernel
theorem d_MC_setBits_15 : decode prog_13_method_13_code 15 = .ok (.iload 5, 2) := by decide +kernel
theorem d_MC_setBits_17 : decode prog_13_method_13_code 17 = .ok (.lshr, 1) := by decide +kernel
theorem d_MC_setBits_18 : decode prog_13_method_13_code 18 = .ok (.lconst 1, 1) := by decide +kernel
theorem d_MC_setBits_19 : decode prog_13_method_13_code 19 = .ok (.land, 1) := by decide +kernel
theorem d_MC_setBits_20 : decode prog_13_method_13_code 20 = .ok (.lconst 1, 1) := by decide +kernel
theorem d_MC_setBits_21 : decode prog_13_method_13_code 21 = .ok (.lcmp, 1) := by decide +kernel
theorem d_MC_setBits_22 : decode prog_13_method_13_code 22 = .ok (.ifCond .ne 7, 3) := by decide +kernel
theorem d_MC_setBits_25 : decode prog_13_method_13_code 25 = .ok (.iconst 1, 1) := by decide +kernel
theorem d_MC_setBits_26 : decode prog_13_method_13_code 26 = .ok (.goto 4, 3) := by decide +kernel
theorem d_MC_setBits_29 : decode prog_13_method_13_code 29 = .ok (.iconst 0, 1) := by decide +kernel
theorem d_MC_setBits_30 : decode prog_13_method_13_code 30 = .ok (.invokevirtual 40, 3) := by decide +kernel
theorem d_MC_setBits_33 : decode prog_13_method_13_code 33 = .ok (.iinc 5 1, 3) := by decide +kernel
theorem d_MC_setBits_36 : decode prog_13_method_13_code 36 = .ok (.goto (-33), 3) := by decide +kernel
theorem d_MC_setBits_39 : decode prog_13_method_13_code 39 = .ok (.return_, 1) := by decide +kernel
theorem d_MC_writeWhole_0 : decode prog_13_method_21_code 0 = .ok (.aload_n 0, 1) := by decide +kernel
theorem d_MC_writeWhole_1 : decode prog_13_method_21_code 1 = .ok (.invokevirtual 84, 3) := by decide +kernel
theorem d_MC_writeWhole_4 : decode prog_13_method_21_code 4 = .ok (.istore_n 2, 1) := by decide +kernel
theorem d_MC_writeWhole_5 : decode prog_13_method_21_code 5 = .ok (.iload_n 2, 1) := by decide +kernel
theorem d_MC_writeWhole_6 : decode prog_13_method_21_code 6 = .ok (.ifCond .eq 83, 3) := by decide +kernel
theorem d_MC_writeWhole_9 : decode prog_13_method_21_code 9 = .ok (.aload_n 0, 1) := by decide +kernel
theorem d_MC_writeWhole_10 : decode prog_13_method_21_code 10 = .ok (.iconst 0, 1) := by decide +kernel
theorem d_MC_writeWhole_11 : decode prog_13_method_21_code 11 = .ok (.aload_n 0, 1) := by decide +kernel
theorem d_MC_writeWhole_12 : decode prog_13_method_21_code 12 = .ok (.invokevirtual 88, 3) := by decide +kernel
theorem d_MC_writeWhole_15 : decode prog_13_method_21_code 15 = .ok (.invokevirtual 92, 3) := by decide +kernel
theorem d_MC_writeWhole_18 : decode prog_13_method_21_code 18 = .ok (.lconst 1, 1) := by decide +kernel
theorem d_MC_writeWhole_19 : decode prog_13_method_21_code 19 = .ok (.iload_n 1, 1) := by decide +kernel
theorem d_MC_writeWhole_20 : decode prog_13_method_21_code 20 = .ok (.iconst 1, 1) := by decide +kernel
theorem d_MC_writeWhole_21 : decode prog_13_method_21_code 21 = .ok (.isub, 1) := by decide +kernel
theorem d_MC_writeWhole_22 : decode prog_13_method_21_code 22 = .ok (.lshl, 1) := by decide +kernel
theorem d_MC_writeWhole_23 : decode prog_13_method_21_code 23 = .ok (.lstore_n 3, 1) := by decide +kernel
theorem d_MC_writeWhole_24 : decode prog_13_method_21_code 24 = .ok (.aload_n 0, 1) := by decide +kernel
theorem d_MC_writeWhole_25 : decode prog_13_method_21_code 25 = .ok (.getfield 67, 3) := by decide +kernel
theorem d_MC_writeWhole_28 : decode prog_13_method_21_code 28 = .ok (.lconst 0, 1) := by decide +kernel
theorem d_MC_writeWhole_29 : decode prog_13_method_21_code 29 = .ok (.lcmp, 1) := by decide +kernel
theorem d_MC_writeWhole_30 : decode prog_13_method_21_code 30 = .ok (.ifCond .lt 22, 3) := by decide +kernel
theorem d_MC_writeWhole_33 : decode prog_13_method_21_code 33 = .ok (.iload_n 1, 1) := by decide +kernel
theorem d_MC_writeWhole_34 : decode prog_13_method_21_code 34 = .ok (.bipush 64, 2) := by decide +kernel
theorem d_MC_writeWhole_36 : decode prog_13_method_21_code 36 = .ok (.if_icmp .eq 12, 3) := by decide +kernel
theorem d_MC_writeWhole_39 : decode prog_13_method_21_code 39 = .ok (.aload_n 0, 1) := by decide +kernel
theorem d_MC_writeWhole_40 : decode prog_13_method_21_code 40 = .ok (.getfield 67, 3) := by decide +kernel
theorem d_MC_writeWhole_43 : decode prog_13_method_21_code 43 = .ok (.lload_n 3, 1) := by decide +kernel
theorem d_MC_writeWhole_44 : decode prog_13_method_21_code 44 = .ok (.lcmp, 1) := by decide +kernel
theorem d_MC_writeWhole_45 : decode prog_13_method_21_code 45 = .ok (.ifCond .ge 7, 3) := by decide +kernel
theorem d_MC_writeWhole_48 : decode prog_13_method_21_code 48 = .ok (.iconst 1, 1) := by decide +kernel
theorem d_MC_writeWhole_49 : decode prog_13_method_21_code 49 = .ok (.goto 4, 3) := by decide +kernel
theorem d_MC_writeWhole_52 : decode prog_13_method_21_code 52 = .ok (.iconst 0, 1) := by decide +kernel
theorem d_MC_writeWhole_53 : decode prog_13_method_21_code 53 = .ok (.istore 5, 2) := by decide +kernel
theorem d_MC_writeWhole_55 : decode prog_13_method_21_code 55 = .ok (.aload_n 0, 1) := by decide +kernel
theorem d_MC_writeWhole_56 : decode prog_13_method_21_code 56 = .ok (.getfield 71, 3) := by decide +kernel
theorem d_MC_writeWhole_59 : decode prog_13_method_21_code 59 = .ok (.ifCond .ne 28, 3) := by decide +kernel
theorem d_MC_writeWhole_62 : decode prog_13_method_21_code 62 = .ok (.iload 5, 2) := by decide +kernel
theorem d_MC_writeWhole_64 : decode prog_13_method_21_code 64 = .ok (.ifCond .ne 19, 3) := by decide +kernel
theorem d_MC_writeWhole_67 : decode prog_13_method_21_code 67 = .ok (.aload_n 0, 1) := by decide +kernel
theorem d_MC_writeWhole_68 : decode prog_13_method_21_code 68 = .ok (.getfield 81, 3) := by decide +kernel
theorem d_MC_writeWhole_71 : decode prog_13_method_21_code 71 = .ok (.ifCond .eq 16, 3) := by decide +kernel
theorem d_MC_writeWhole_74 : decode prog_13_method_21_code 74 = .ok (.aload_n 0, 1) := by decide +kernel
theorem d_MC_writeWhole_75 : decode prog_13_method_21_code 75 = .ok (.getfield 67, 3) := by decide +kernel
theorem d_MC_writeWhole_78 : decode prog_13_method_21_code 78 = .ok (.lload_n 3, 1) := by decide +kernel
theorem d_MC_writeWhole_79 : decode prog_13_method_21_code 79 = .ok (.lcmp, 1) := by decide +kernel
theorem d_MC_writeWhole_80 : decode prog_13_method_21_code 80 = .ok (.ifCond .ne 7, 3) := by decide +kernel
theorem d_MC_writeWhole_83 : decode prog_13_method_21_code 83 = .ok (.iconst 1, 1) := by decide +kernel
theorem d_MC_writeWhole_84 : decode prog_13_method_21_code 84 = .ok (.goto 4, 3) := by decide +kernel
theorem d_MC_writeWhole_87 : decode prog_13_method_21_code 87 = .ok (.iconst 0, 1) := by decide +kernel
theorem d_MC_writeWhole_88 : decode prog_13_method_21_code 88 = .ok (.istore_n 2, 1) := by decide +kernel
theorem d_MC_writeWhole_89 : decode prog_13_method_21_code 89 = .ok (.iload_n 2, 1) := by decide +kernel
theorem d_MC_writeWhole_90 : decode prog_13_method_21_code 90 = .ok (.ifCond .ne 24, 3) := by decide +kernel
theorem d_MC_writeWhole_93 : decode prog_13_method_21_code 93 = .ok (.aload_n 0, 1) := by decide +kernel
theorem d_MC_writeWhole_94 : decode prog_13_method_21_code 94 = .ok (.iconst 1, 1) := by decide +kernel
theorem d_MC_writeWhole_95 : decode prog_13_method_21_code 95 = .ok (.invokevirtual 51, 3) := by decide +kernel
theorem d_MC_writeWhole_98 : decode prog_13_method_21_code 98 = .ok (.ifCond .eq 14, 3) := by decide +kernel
theorem d_MC_writeWhole_101 : decode prog_13_method_21_code 101 = .ok (.aload_n 0, 1) := by decide +kernel
theorem d_MC_writeWhole_102 : decode prog_13_method_21_code 102 = .ok (.iconst 0, 1) := by decide +kernel
theorem d_MC_writeWhole_103 : decode prog_13_method_21_code 103 = .ok (.iload_n 1, 1) := by decide +kernel
theorem d_MC_writeWhole_104 : decode prog_13_method_21_code 104 = .ok (.lconst 1, 1) := by decide +kernel
theorem d_MC_writeWhole_105 : decode prog_13_method_21_code 105 = .ok (.iload_n 1, 1) := by decide +kernel
theorem d_MC_writeWhole_106 : decode prog_13_method_21_code 106 = .ok (.iconst 1, 1) := by decide +kernel
theorem d_MC_writeWhole_107 : decode prog_13_method_21_code 107 = .ok (.isub, 1) := by decide +kernel
theorem d_MC_writeWhole_108 : decode prog_13_method_21_code 108 = .ok (.lshl, 1) := by decide +kernel
theorem d_MC_writeWhole_109 : decode prog_13_method_21_code 109 = .ok (.invokevirtual 96, 3) := by decide +kernel
theorem d_MC_writeWhole_112 : decode prog_13_method_21_code 112 = .ok (.iconst 1, 1) := by decide +kernel
theorem d_MC_writeWhole_113 : decode prog_13_method_21_code 113 = .ok (.ireturn, 1) := by decide +kernel
theorem d_MC_writeWhole_114 : decode prog_13_method_21_code 114 = .ok (.aload_n 0, 1) := by decide +kernel
theorem d_MC_writeWhole_115 : decode prog_13_method_21_code 115 = .ok (.iconst 0, 1) := by decide +kernel
theorem d_MC_writeWhole_116 : decode prog_13_method_21_code 116 = .ok (.iload_n 1, 1) := by decide +kernel
theorem d_MC_writeWhole_117 : decode prog_13_method_21_code 117 = .ok (.aload_n 0, 1) := by decide +kernel
theorem d_MC_writeWhole_118 : decode prog_13_method_21_code 118 = .ok (.getfield 81, 3) := by decide +kernel
theorem d_MC_writeWhole_121 : decode prog_13_method_21_code 121 = .ok (.ifCond .eq 12, 3) := by decide +kernel
theorem d_MC_writeWhole_124 : decode prog_13_method_21_code 124 = .ok (.lconst 0, 1) := by decide +kernel
theorem d_MC_writeWhole_125 : decode prog_13_method_21_code 125 = .ok (.aload_n 0, 1) := by decide +kernel
theorem d_MC_writeWhole_126 : decode prog_13_method_21_code 126 = .ok (.getfield 67, 3) := by decide +kernel
theorem d_MC_writeWhole_129 : decode prog_13_method_21_code 129 = .ok (.lsub, 1) := by decide +kernel
theorem d_MC_writeWhole_130 : decode prog_13_method_21_code 130 = .ok (.goto 7, 3) := by decide +kernel
theorem d_MC_writeWhole_133 : decode prog_13_method_21_code 133 = .ok (.aload_n 0, 1) := by decide +kernel
theorem d_MC_writeWhole_134 : decode prog_13_method_21_code 134 = .ok (.getfield 67, 3) := by decide +kernel
theorem d_MC_writeWhole_137 : decode prog_13_method_21_code 137 = .ok (.invokevirtual 96, 3) := by decide +kernel
theorem d_MC_writeWhole_140 : decode prog_13_method_21_code 140 = .ok (.aload_n 0, 1) := by decide +kernel
theorem d_MC_writeWhole_141 : decode prog_13_method_21_code 141 = .ok (.getfield 78, 3) := by decide +kernel
theorem d_MC_writeWhole_144 : decode prog_13_method_21_code 144 = .ok (.ifCond .eq 8, 3) := by decide +kernel
theorem d_MC_writeWhole_147 : decode prog_13_method_21_code 147 = .ok (.bipush 32, 2) := by decide +kernel
theorem d_MC_writeWhole_149 : decode prog_13_method_21_code 149 = .ok (.goto 4, 3) := by decide +kernel
theorem d_MC_writeWhole_152 : decode prog_13_method_21_code 152 = .ok (.iconst 0, 1) := by decide +kernel
theorem d_MC_writeWhole_153 : decode prog_13_method_21_code 153 = .ok (.ireturn, 1) := by decide +kernel
theorem d_MC_isEndless_0 : decode prog_13_method_20_code 0 = .ok (.aload_n 0, 1) := by decide +kernel
theorem d_MC_isEndless_1 : decode prog_13_method_20_code 1 = .ok (.getfield 64, 3) := by decide +kernel
theorem d_MC_isEndless_4 : decode prog_13_method_20_code 4 = .ok (.sipush 32767, 3) := by decide +kernel
theorem d_MC_isEndless_7 : decode prog_13_method_20_code 7 = .ok (.if_icmp .ne 18, 3) := by decide +kernel
theorem d_MC_isEndless_10 : decode prog_13_method_20_code 10 = .ok (.aload_n 0, 1) := by decide +kernel
theorem d_MC_isEndless_11 : decode prog_13_method_20_code 11 = .ok (.getfield 75, 3) := by decide +kernel
theorem d_MC_isEndless_14 : decode prog_13_method_20_code 14 = .ok (.iconst 1, 1) := by decide +kernel
theorem d_MC_isEndless_15 : decode prog_13_method_20_code 15 = .ok (.lshl, 1) := by decide +kernel
theorem d_MC_isEndless_16 : decode prog_13_method_20_code 16 = .ok (.lconst 0, 1) := by decide +kernel
theorem d_MC_isEndless_17 : decode prog_13_method_20_code 17 = .ok (.lcmp, 1) := by decide +kernel
theorem d_MC_isEndless_18 : decode prog_13_method_20_code 18 = .ok (.ifCond .ne 7, 3) := by decide +kernel
theorem d_MC_isEndless_21 : decode prog_13_method_20_code 21 = .ok (.iconst 1, 1) := by decide +kernel
theorem d_MC_isEndless_22 : decode prog_13_method_20_code 22 = .ok (.goto 4, 3) := by decide +kernel
theorem d_MC_isEndless_25 : decode prog_13_method_20_code 25 = .ok (.iconst 0, 1) := by decide +kernel
theorem d_MC_isEndless_26 : decode prog_13_method_20_code 26 = .ok (.ireturn, 1) := by decide +kernel
theorem d_MC_pack_0 : decode prog_13_method_23_code 0 = .ok (.aload_n 0, 1) := by decide +kernel
theorem d_MC_pack_1 : decode prog_13_method_23_code 1 = .ok (.iconst 0, 1) := by decide +kernel
theorem d_MC_pack_2 : decode prog_13_method_23_code 2 = .ok (.iload_n 1, 1) := by decide +kernel
theorem d_MC_pack_3 : decode prog_13_method_23_code 3 = .ok (.iconst 1, 1) := by decide +kernel
theorem d_MC_pack_4 : decode prog_13_method_23_code 4 = .ok (.isub, 1) := by decide +kernel
theorem d_MC_pack_5 : decode prog_13_method_23_code 5 = .ok (.lload 6, 2) := by decide +kernel
theorem d_MC_pack_7 : decode prog_13_method_23_code 7 = .ok (.invokevirtual 96, 3) := by decide +kernel
theorem d_MC_pack_10 : decode prog_13_method_23_code 10 = .ok (.aload_n 0, 1) := by decide +kernel
theorem d_MC_pack_11 : decode prog_13_method_23_code 11 = .ok (.iload_n 1, 1) := by decide +kernel
theorem d_MC_pack_12 : decode prog_13_method_23_code 12 = .ok (.iconst 1, 1) := by decide +kernel
theorem d_MC_pack_13 : decode prog_13_method_23_code 13 = .ok (.isub, 1) := by decide +kernel
theorem d_MC_pack_14 : decode prog_13_method_23_code 14 = .ok (.iload_n 2, 1) := by decide +kernel
theorem d_MC_pack_15 : decode prog_13_method_23_code 15 = .ok (.lload 4, 2) := by decide +kernel
theorem d_MC_pack_17 : decode prog_13_method_23_code 17 = .ok (.invokevirtual 96, 3) := by decide +kernel
theorem d_MC_pack_20 : decode prog_13_method_23_code 20 = .ok (.aload_n 0, 1) := by decide +kernel
theorem d_MC_pack_21 : decode prog_13_method_23_code 21 = .ok (.iload_n 1, 1) := by decide +kernel
theorem d_MC_pack_22 : decode prog_13_method_23_code 22 = .ok (.iconst 1, 1) := by decide +kernel
theorem d_MC_pack_23 : decode prog_13_method_23_code 23 = .ok (.isub, 1) := by decide +kernel
theorem d_MC_pack_24 : decode prog_13_method_23_code 24 = .ok (.iload_n 2, 1) := by decide +kernel
theorem d_MC_pack_25 : decode prog_13_method_23_code 25 = .ok (.iadd, 1) := by decide +kernel
theorem d_MC_pack_26 : decode prog_13_method_23_code 26 = .ok (.iload_n 3, 1) := by decide +kernel
theorem d_MC_pack_27 : decode prog_13_method_23_code 27 = .ok (.invokevirtual 40, 3) := by decide +kernel
theorem d_MC_pack_30 : decode prog_13_method_23_code 30 = .ok (.return_, 1) := by decide +kernel
theorem d_MC_writeReal_0 : decode prog_13_method_24_code 0 = .ok (.lconst 1, 1) := by decide +kernel
theorem d_MC_writeReal_1 : decode prog_13_method_24_code 1 = .ok (.iload_n 2, 1) := by decide +kernel
theorem d_MC_writeReal_2 : decode prog_13_method_24_code 2 = .ok (.lshl, 1) := by decide +kernel
theorem d_MC_writeReal_3 : decode prog_13_method_24_code 3 = .ok (.lconst 1, 1) := by decide +kernel
theorem d_MC_writeReal_4 : decode prog_13_method_24_code 4 = .ok (.lsub, 1) := by decide +kernel
theorem d_MC_writeReal_5 : decode prog_13_method_24_code 5 = .ok (.lstore_n 3, 1) := by decide +kernel
theorem d_MC_writeReal_6 : decode prog_13_method_24_code 6 = .ok (.iconst 1, 1) := by decide +kernel
theorem d_MC_writeReal_7 : decode prog_13_method_24_code 7 = .ok (.iload_n 2, 1) := by decide +kernel
theorem d_MC_writeReal_8 : decode prog_13_method_24_code 8 = .ok (.iconst 1, 1) := by decide +kernel
theorem d_MC_writeReal_9 : decode prog_13_method_24_code 9 = .ok (.isub, 1) := by decide +kernel
theorem d_MC_writeReal_10 : decode prog_13_method_24_code 10 = .ok (.ishl, 1) := by decide +kernel
theorem d_MC_writeReal_11 : decode prog_13_method_24_code 11 = .ok (.istore 5, 2) := by decide +kernel
theorem d_MC_writeReal_13 : decode prog_13_method_24_code 13 = .ok (.aload_n 0, 1) := by decide +kernel
theorem d_MC_writeReal_14 : decode prog_13_method_24_code 14 = .ok (.invokevirtual 84, 3) := by decide +kernel
theorem d_MC_writeReal_17 : decode prog_13_method_24_code 17 = .ok (.ifCond .ne 86, 3) := by decide +kernel
theorem d_MC_writeReal_20 : decode prog_13_method_24_code 20 = .ok (.aload_n 0, 1) := by decide +kernel
theorem d_MC_writeReal_21 : decode prog_13_method_24_code 21 = .ok (.invokevirtual 102, 3) := by decide +kernel
theorem d_MC_writeReal_24 : decode prog_13_method_24_code 24 = .ok (.ifCond .ne 79, 3) := by decide +kernel
theorem d_MC_writeReal_27 : decode prog_13_method_24_code 27 = .ok (.lconst 0, 1) := by decide +kernel
theorem d_MC_writeReal_28 : decode prog_13_method_24_code 28 = .ok (.lstore 6, 2) := by decide +kernel
theorem d_MC_writeReal_30 : decode prog_13_method_24_code 30 = .ok (.iconst 0, 1) := by decide +kernel
theorem d_MC_writeReal_31 : decode prog_13_method_24_code 31 = .ok (.istore 8, 2) := by decide +kernel
theorem d_MC_writeReal_33 : decode prog_13_method_24_code 33 = .ok (.iload 8, 2) := by decide +kernel
theorem d_MC_writeReal_35 : decode prog_13_method_24_code 35 = .ok (.iload_n 1, 1) := by decide +kernel
theorem d_MC_writeReal_36 : decode prog_13_method_24_code 36 = .ok (.iconst 1, 1) := by decide +kernel
theorem d_MC_writeReal_37 : decode prog_13_method_24_code 37 = .ok (.isub, 1) := by decide +kernel
theorem d_MC_writeReal_38 : decode prog_13_method_24_code 38 = .ok (.if_icmp .ge 31, 3) := by decide +kernel
theorem d_MC_writeReal_41 : decode prog_13_method_24_code 41 = .ok (.lload 6, 2) := by decide +kernel
theorem d_MC_writeReal_43 : decode prog_13_method_24_code 43 = .ok (.aload_n 0, 1) := by decide +kernel
theorem d_MC_writeReal_44 : decode prog_13_method_24_code 44 = .ok (.getfield 75, 3) := by decide +kernel
theorem d_MC_writeReal_47 : decode prog_13_method_24_code 47 = .ok (.bipush 64, 2) := by decide +kernel
theorem d_MC_writeReal_49 : decode prog_13_method_24_code 49 = .ok (.iload_n 1, 1) := by decide +kernel
theorem d_MC_writeReal_50 : decode prog_13_method_24_code 50 = .ok (.isub, 1) := by decide +kernel
theorem d_MC_writeReal_51 : decode prog_13_method_24_code 51 = .ok (.iload 8, 2) := by decide +kernel
theorem d_MC_writeReal_53 : decode prog_13_method_24_code 53 = .ok (.iadd, 1) := by decide +kernel
theorem d_MC_writeReal_54 : decode prog_13_method_24_code 54 = .ok (.lshr, 1) := by decide +kernel
theorem d_MC_writeReal_55 : decode prog_13_method_24_code 55 = .ok (.lconst 1, 1) := by decide +kernel
theorem d_MC_writeReal_56 : decode prog_13_method_24_code 56 = .ok (.land, 1) := by decide +kernel
theorem d_MC_writeReal_57 : decode prog_13_method_24_code 57 = .ok (.iload 8, 2) := by decide +kernel
theorem d_MC_writeReal_59 : decode prog_13_method_24_code 59 = .ok (.lshl, 1) := by decide +kernel
theorem d_MC_writeReal_60 : decode prog_13_method_24_code 60 = .ok (.ladd, 1) := by decide +kernel
theorem d_MC_writeReal_61 : decode prog_13_method_24_code 61 = .ok (.lstore 6, 2) := by decide +kernel
theorem d_MC_writeReal_63 : decode prog_13_method_24_code 63 = .ok (.iinc 8 1, 3) := by decide +kernel
theorem d_MC_writeReal_66 : decode prog_13_method_24_code 66 = .ok (.goto (-33), 3) := by decide +kernel
theorem d_MC_writeReal_69 : decode prog_13_method_24_code 69 = .ok (.aload_n 0, 1) := by decide +kernel
theorem d_MC_writeReal_70 : decode prog_13_method_24_code 70 = .ok (.iconst 1, 1) := by decide +kernel
theorem d_MC_writeReal_71 : decode prog_13_method_24_code 71 = .ok (.invokevirtual 51, 3) := by decide +kernel
theorem d_MC_writeReal_74 : decode prog_13_method_24_code 74 = .ok (.ifCond .eq 27, 3) := by decide +kernel
theorem d_MC_writeReal_77 : decode prog_13_method_24_code 77 = .ok (.aload_n 0, 1) := by decide +kernel
theorem d_MC_writeReal_78 : decode prog_13_method_24_code 78 = .ok (.iload_n 1, 1) := by decide +kernel
theorem d_MC_writeReal_79 : decode prog_13_method_24_code 79 = .ok (.iload_n 2, 1) := by decide +kernel
theorem d_MC_writeReal_80 : decode prog_13_method_24_code 80 = .ok (.aload_n 0, 1) := by decide +kernel
theorem d_MC_writeReal_81 : decode prog_13_method_24_code 81 = .ok (.getfield 81, 3) := by decide +kernel
theorem d_MC_writeReal_84 : decode prog_13_method_24_code 84 = .ok (.lload_n 3, 1) := by decide +kernel
theorem d_MC_writeReal_85 : decode prog_13_method_24_code 85 = .ok (.lload 6, 2) := by decide +kernel
theorem d_MC_writeReal_87 : decode prog_13_method_24_code 87 = .ok (.lconst 0, 1) := by decide +kernel
theorem d_MC_writeReal_88 : decode prog_13_method_24_code 88 = .ok (.lcmp, 1) := by decide +kernel
theorem d_MC_writeReal_89 : decode prog_13_method_24_code 89 = .ok (.ifCond .ne 7, 3) := by decide +kernel
theorem d_MC_writeReal_92 : decode prog_13_method_24_code 92 = .ok (.lconst 1, 1) := by decide +kernel
theorem d_MC_writeReal_93 : decode prog_13_method_24_code 93 = .ok (.goto 5, 3) := by decide +kernel
theorem d_MC_writeReal_96 : decode prog_13_method_24_code 96 = .ok (.lload 6, 2) := by decide +kernel
theorem d_MC_writeReal_98 : decode prog_13_method_24_code 98 = .ok (.invokevirtual 105, 3) := by decide +kernel
theorem d_MC_writeReal_101 : decode prog_13_method_24_code 101 = .ok (.iconst 1, 1) := by decide +kernel
theorem d_MC_writeReal_102 : decode prog_13_method_24_code 102 = .ok (.ireturn, 1) := by decide +kernel
theorem d_MC_writeReal_103 : decode prog_13_method_24_code 103 = .ok (.aload_n 0, 1) := by decide +kernel
theorem d_MC_writeReal_104 : decode prog_13_method_24_code 104 = .ok (.invokevirtual 102, 3) := by decide +kernel
theorem d_MC_writeReal_107 : decode prog_13_method_24_code 107 = .ok (.ifCond .ne 12, 3) := by decide +kernel
theorem d_MC_writeReal_110 : decode prog_13_method_24_code 110 = .ok (.aload_n 0, 1) := by decide +kernel
theorem d_MC_writeReal_111 : decode prog_13_method_24_code 111 = .ok (.getfield 75, 3) := by decide +kernel
theorem d_MC_writeReal_114 : decode prog_13_method_24_code 114 = .ok (.lconst 0, 1) := by decide +kernel
theorem d_MC_writeReal_115 : decode prog_13_method_24_code 115 = .ok (.lcmp, 1) := by decide +kernel
theorem d_MC_writeReal_116 : decode prog_13_method_24_code 116 = .ok (.ifCond .ne 28, 3) := by decide +kernel
theorem d_MC_writeReal_119 : decode prog_13_method_24_code 119 = .ok (.aload_n 0, 1) := by decide +kernel
theorem d_MC_writeReal_120 : decode prog_13_method_24_code 120 = .ok (.iload_n 1, 1) := by decide +kernel
theorem d_MC_writeReal_121 : decode prog_13_method_24_code 121 = .ok (.iload_n 2, 1) := by decide +kernel
theorem d_MC_writeReal_122 : decode prog_13_method_24_code 122 = .ok (.aload_n 0, 1) := by decide +kernel
theorem d_MC_writeReal_123 : decode prog_13_method_24_code 123 = .ok (.getfield 81, 3) := by decide +kernel
theorem d_MC_writeReal_126 : decode prog_13_method_24_code 126 = .ok (.aload_n 0, 1) := by decide +kernel
theorem d_MC_writeReal_127 : decode prog_13_method_24_code 127 = .ok (.invokevirtual 102, 3) := by decide +kernel
theorem d_MC_writeReal_130 : decode prog_13_method_24_code 130 = .ok (.ifCond .eq 7, 3) := by decide +kernel
theorem d_MC_writeReal_133 : decode prog_13_method_24_code 133 = .ok (.lload_n 3, 1) := by decide +kernel
theorem d_MC_writeReal_134 : decode prog_13_method_24_code 134 = .ok (.goto 4, 3) := by decide +kernel
theorem d_MC_writeReal_137 : decode prog_13_method_24_code 137 = .ok (.lconst 0, 1) := by decide +kernel
theorem d_MC_writeReal_138 : decode prog_13_method_24_code 138 = .ok (.lconst 0, 1) := by decide +kernel
theorem d_MC_writeReal_139 : decode prog_13_method_24_code 139 = .ok (.invokevirtual 105, 3) := by decide +kernel
theorem d_MC_writeReal_142 : decode prog_13_method_24_code 142 = .ok (.iconst 0, 1) := by decide +kernel
theorem d_MC_writeReal_143 : decode prog_13_method_24_code 143 = .ok (.ireturn, 1) := by decide +kernel
theorem d_MC_writeReal_144 : decode prog_13_method_24_code 144 = .ok (.aload_n 0, 1) := by decide +kernel
theorem d_MC_writeReal_145 : decode prog_13_method_24_code 145 = .ok (.getfield 64, 3) := by decide +kernel
theorem d_MC_writeReal_148 : decode prog_13_method_24_code 148 = .ok (.ifCond .le 40, 3) := by decide +kernel
theorem d_MC_writeReal_151 : decode prog_13_method_24_code 151 = .ok (.aload_n 0, 1) := by decide +kernel
theorem d_MC_writeReal_152 : decode prog_13_method_24_code 152 = .ok (.getfield 75, 3) := by decide +kernel
theorem d_MC_writeReal_155 : decode prog_13_method_24_code 155 = .ok (.bipush 63, 2) := by decide +kernel
theorem d_MC_writeReal_157 : decode prog_13_method_24_code 157 = .ok (.lshr, 1) := by decide +kernel
theorem d_MC_writeReal_158 : decode prog_13_method_24_code 158 = .ok (.lconst 1, 1) := by decide +kernel
theorem d_MC_writeReal_159 : decode prog_13_method_24_code 159 = .ok (.land, 1) := by decide +kernel
theorem d_MC_writeReal_160 : decode prog_13_method_24_code 160 = .ok (.lconst 0, 1) := by decide +kernel
theorem d_MC_writeReal_161 : decode prog_13_method_24_code 161 = .ok (.lcmp, 1) := by decide +kernel
theorem d_MC_writeReal_162 : decode prog_13_method_24_code 162 = .ok (.ifCond .ne 26, 3) := by decide +kernel
theorem d_MC_writeReal_165 : decode prog_13_method_24_code 165 = .ok (.aload_n 0, 1) := by decide +kernel
theorem d_MC_writeReal_166 : decode prog_13_method_24_code 166 = .ok (.iconst 1, 1) := by decide +kernel
theorem d_MC_writeReal_167 : decode prog_13_method_24_code 167 = .ok (.invokevirtual 51, 3) := by decide +kernel
theorem d_MC_writeReal_170 : decode prog_13_method_24_code 170 = .ok (.ifCond .eq 16, 3) := by decide +kernel
theorem d_MC_writeReal_173 : decode prog_13_method_24_code 173 = .ok (.aload_n 0, 1) := by decide +kernel
theorem d_MC_writeReal_174 : decode prog_13_method_24_code 174 = .ok (.iload_n 1, 1) := by decide +kernel
theorem d_MC_writeReal_175 : decode prog_13_method_24_code 175 = .ok (.iload_n 2, 1) := by decide +kernel
theorem d_MC_writeReal_176 : decode prog_13_method_24_code 176 = .ok (.iconst 1, 1) := by decide +kernel
theorem d_MC_writeReal_177 : decode prog_13_method_24_code 177 = .ok (.lload_n 3, 1) := by decide +kernel
theorem d_MC_writeReal_178 : decode prog_13_method_24_code 178 = .ok (.lconst 1, 1) := by decide +kernel
theorem d_MC_writeReal_179 : decode prog_13_method_24_code 179 = .ok (.iload_n 1, 1) := by decide +kernel
theorem d_MC_writeReal_180 : decode prog_13_method_24_code 180 = .ok (.iconst 2, 1) := by decide +kernel
theorem d_MC_writeReal_181 : decode prog_13_method_24_code 181 = .ok (.isub, 1) := by decide +kernel
theorem d_MC_writeReal_182 : decode prog_13_method_24_code 182 = .ok (.lshl, 1) := by decide +kernel
theorem d_MC_writeReal_183 : decode prog_13_method_24_code 183 = .ok (.invokevirtual 105, 3) := by decide +kernel
theorem d_MC_writeReal_186 : decode prog_13_method_24_code 186 = .ok (.iconst 1, 1) := by decide +kernel
theorem d_MC_writeReal_187 : decode prog_13_method_24_code 187 = .ok (.ireturn, 1) := by decide +kernel
theorem d_MC_writeReal_188 : decode prog_13_method_24_code 188 = .ok (.bipush 63, 2) := by decide +kernel
theorem d_MC_writeReal_190 : decode prog_13_method_24_code 190 = .ok (.istore 6, 2) := by decide +kernel
theorem d_MC_writeReal_192 : decode prog_13_method_24_code 192 = .ok (.aload_n 0, 1) := by decide +kernel
theorem d_MC_writeReal_193 : decode prog_13_method_24_code 193 = .ok (.getfield 75, 3) := by decide +kernel
theorem d_MC_writeReal_196 : decode prog_13_method_24_code 196 = .ok (.iload 6, 2) := by decide +kernel
theorem d_MC_writeReal_198 : decode prog_13_method_24_code 198 = .ok (.lshr, 1) := by decide +kernel
theorem d_MC_writeReal_199 : decode prog_13_method_24_code 199 = .ok (.lconst 1, 1) := by decide +kernel
theorem d_MC_writeReal_200 : decode prog_13_method_24_code 200 = .ok (.land, 1) := by decide +kernel
theorem d_MC_writeReal_201 : decode prog_13_method_24_code 201 = .ok (.lconst 0, 1) := by decide +kernel
theorem d_MC_writeReal_202 : decode prog_13_method_24_code 202 = .ok (.lcmp, 1) := by decide +kernel
theorem d_MC_writeReal_203 : decode prog_13_method_24_code 203 = .ok (.ifCond .ne 9, 3) := by decide +kernel
theorem d_MC_writeReal_206 : decode prog_13_method_24_code 206 = .ok (.iinc 6 (-1), 3) := by decide +kernel
theorem d_MC_writeReal_209 : decode prog_13_method_24_code 209 = .ok (.goto (-17), 3) := by decide +kernel
theorem d_MC_writeReal_212 : decode prog_13_method_24_code 212 = .ok (.aload_n 0, 1) := by decide +kernel
theorem d_MC_writeReal_213 : decode prog_13_method_24_code 213 = .ok (.getfield 64, 3) := by decide +kernel
theorem d_MC_writeReal_216 : decode prog_13_method_24_code 216 = .ok (.ifCond .ne 7, 3) := by decide +kernel
theorem d_MC_writeReal_219 : decode prog_13_method_24_code 219 = .ok (.iconst 1, 1) := by decide +kernel
theorem d_MC_writeReal_220 : decode prog_13_method_24_code 220 = .ok (.goto 7, 3) := by decide +kernel
theorem d_MC_writeReal_223 : decode prog_13_method_24_code 223 = .ok (.aload_n 0, 1) := by decide +kernel
theorem d_MC_writeReal_224 : decode prog_13_method_24_code 224 = .ok (.getfield 64, 3) := by decide +kernel
theorem d_MC_writeReal_227 : decode prog_13_method_24_code 227 = .ok (.sipush 16446, 3) := by decide +kernel
theorem d_MC_writeReal_230 : decode prog_13_method_24_code 230 = .ok (.isub, 1) := by decide +kernel
theorem d_MC_writeReal_231 : decode prog_13_method_24_code 231 = .ok (.iload 6, 2) := by decide +kernel
theorem d_MC_writeReal_233 : decode prog_13_method_24_code 233 = .ok (.iadd, 1) := by decide +kernel
theorem d_MC_writeReal_234 : decode prog_13_method_24_code 234 = .ok (.istore 7, 2) := by decide +kernel
theorem d_MC_writeReal_236 : decode prog_13_method_24_code 236 = .ok (.iload 7, 2) := by decide +kernel
theorem d_MC_writeReal_238 : decode prog_13_method_24_code 238 = .ok (.iconst 2, 1) := by decide +kernel
theorem d_MC_writeReal_239 : decode prog_13_method_24_code 239 = .ok (.iload 5, 2) := by decide +kernel
theorem d_MC_writeReal_241 : decode prog_13_method_24_code 241 = .ok (.isub, 1) := by decide +kernel
theorem d_MC_writeReal_242 : decode prog_13_method_24_code 242 = .ok (.if_icmp .ge 87, 3) := by decide +kernel
theorem d_MC_writeReal_245 : decode prog_13_method_24_code 245 = .ok (.aload_n 0, 1) := by decide +kernel
theorem d_MC_writeReal_246 : decode prog_13_method_24_code 246 = .ok (.bipush 16, 2) := by decide +kernel
theorem d_MC_writeReal_248 : decode prog_13_method_24_code 248 = .ok (.invokevirtual 51, 3) := by decide +kernel
theorem d_MC_writeReal_251 : decode prog_13_method_24_code 251 = .ok (.ifCond .ne 6, 3) := by decide +kernel
theorem d_MC_writeReal_254 : decode prog_13_method_24_code 254 = .ok (.bipush 16, 2) := by decide +kernel
theorem d_MC_writeReal_256 : decode prog_13_method_24_code 256 = .ok (.ireturn, 1) := by decide +kernel
theorem d_MC_writeReal_257 : decode prog_13_method_24_code 257 = .ok (.aload_n 0, 1) := by decide +kernel
theorem d_MC_writeReal_258 : decode prog_13_method_24_code 258 = .ok (.iconst 3, 1) := by decide +kernel
theorem d_MC_writeReal_259 : decode prog_13_method_24_code 259 = .ok (.iload 5, 2) := by decide +kernel
theorem d_MC_writeReal_261 : decode prog_13_method_24_code 261 = .ok (.isub, 1) := by decide +kernel
theorem d_MC_writeReal_262 : decode prog_13_method_24_code 262 = .ok (.iload_n 1, 1) := by decide +kernel
theorem d_MC_writeReal_263 : decode prog_13_method_24_code 263 = .ok (.isub, 1) := by decide +kernel
theorem d_MC_writeReal_264 : decode prog_13_method_24_code 264 = .ok (.aload_n 0, 1) := by decide +kernel
theorem d_MC_writeReal_265 : decode prog_13_method_24_code 265 = .ok (.invokevirtual 88, 3) := by decide +kernel
theorem d_MC_writeReal_268 : decode prog_13_method_24_code 268 = .ok (.invokevirtual 92, 3) := by decide +kernel
theorem d_MC_writeReal_271 : decode prog_13_method_24_code 271 = .ok (.aload_n 0, 1) := by decide +kernel
theorem d_MC_writeReal_272 : decode prog_13_method_24_code 272 = .ok (.getfield 67, 3) := by decide +kernel
theorem d_MC_writeReal_275 : decode prog_13_method_24_code 275 = .ok (.iload_n 1, 1) := by decide +kernel
theorem d_MC_writeReal_276 : decode prog_13_method_24_code 276 = .ok (.iconst 1, 1) := by decide +kernel
theorem d_MC_writeReal_277 : decode prog_13_method_24_code 277 = .ok (.isub, 1) := by decide +kernel
theorem d_MC_writeReal_278 : decode prog_13_method_24_code 278 = .ok (.lshr, 1) := by decide +kernel
theorem d_MC_writeReal_279 : decode prog_13_method_24_code 279 = .ok (.lconst 1, 1) := by decide +kernel
theorem d_MC_writeReal_280 : decode prog_13_method_24_code 280 = .ok (.lcmp, 1) := by decide +kernel
theorem d_MC_writeReal_281 : decode prog_13_method_24_code 281 = .ok (.ifCond .ne 7, 3) := by decide +kernel
theorem d_MC_writeReal_284 : decode prog_13_method_24_code 284 = .ok (.iconst 1, 1) := by decide +kernel
theorem d_MC_writeReal_285 : decode prog_13_method_24_code 285 = .ok (.goto 4, 3) := by decide +kernel
theorem d_MC_writeReal_288 : decode prog_13_method_24_code 288 = .ok (.iconst 0, 1) := by decide +kernel
theorem d_MC_writeReal_289 : decode prog_13_method_24_code 289 = .ok (.istore 8, 2) := by decide +kernel
theorem d_MC_writeReal_291 : decode prog_13_method_24_code 291 = .ok (.aload_n 0, 1) := by decide +kernel
theorem d_MC_writeReal_292 : decode prog_13_method_24_code 292 = .ok (.iload_n 1, 1) := by decide +kernel
theorem d_MC_writeReal_293 : decode prog_13_method_24_code 293 = .ok (.iload_n 2, 1) := by decide +kernel
theorem d_MC_writeReal_294 : decode prog_13_method_24_code 294 = .ok (.aload_n 0, 1) := by decide +kernel
theorem d_MC_writeReal_295 : decode prog_13_method_24_code 295 = .ok (.getfield 81, 3) := by decide +kernel
theorem d_MC_writeReal_298 : decode prog_13_method_24_code 298 = .ok (.iload 8, 2) := by decide +kernel
theorem d_MC_writeReal_300 : decode prog_13_method_24_code 300 = .ok (.ifCond .eq 7, 3) := by decide +kernel
theorem d_MC_writeReal_303 : decode prog_13_method_24_code 303 = .ok (.lconst 1, 1) := by decide +kernel
theorem d_MC_writeReal_304 : decode prog_13_method_24_code 304 = .ok (.goto 4, 3) := by decide +kernel
theorem d_MC_writeReal_307 : decode prog_13_method_24_code 307 = .ok (.lconst 0, 1) := by decide +kernel
theorem d_MC_writeReal_308 : decode prog_13_method_24_code 308 = .ok (.aload_n 0, 1) := by decide +kernel
theorem d_MC_writeReal_309 : decode prog_13_method_24_code 309 = .ok (.getfield 67, 3) := by decide +kernel
theorem d_MC_writeReal_312 : decode prog_13_method_24_code 312 = .ok (.invokevirtual 105, 3) := by decide +kernel
theorem d_MC_writeReal_315 : decode prog_13_method_24_code 315 = .ok (.aload_n 0, 1) := by decide +kernel
theorem d_MC_writeReal_316 : decode prog_13_method_24_code 316 = .ok (.getfield 78, 3) := by decide +kernel
theorem d_MC_writeReal_319 : decode prog_13_method_24_code 319 = .ok (.ifCond .eq 8, 3) := by decide +kernel
theorem d_MC_writeReal_322 : decode prog_13_method_24_code 322 = .ok (.bipush 48, 2) := by decide +kernel
theorem d_MC_writeReal_324 : decode prog_13_method_24_code 324 = .ok (.goto 4, 3) := by decide +kernel
theorem d_MC_writeReal_327 : decode prog_13_method_24_code 327 = .ok (.iconst 0, 1) := by decide +kernel
theorem d_MC_writeReal_328 : decode prog_13_method_24_code 328 = .ok (.ireturn, 1) := by decide +kernel
theorem d_MC_writeReal_329 : decode prog_13_method_24_code 329 = .ok (.aload_n 0, 1) := by decide +kernel
theorem d_MC_writeReal_330 : decode prog_13_method_24_code 330 = .ok (.iload 7, 2) := by decide +kernel
theorem d_MC_writeReal_332 : decode prog_13_method_24_code 332 = .ok (.iconst 1, 1) := by decide +kernel
theorem d_MC_writeReal_333 : decode prog_13_method_24_code 333 = .ok (.iadd, 1) := by decide +kernel
theorem d_MC_writeReal_334 : decode prog_13_method_24_code 334 = .ok (.iload_n 1, 1) := by decide +kernel
theorem d_MC_writeReal_335 : decode prog_13_method_24_code 335 = .ok (.isub, 1) := by decide +kernel
theorem d_MC_writeReal_336 : decode prog_13_method_24_code 336 = .ok (.aload_n 0, 1) := by decide +kernel
theorem d_MC_writeReal_337 : decode prog_13_method_24_code 337 = .ok (.invokevirtual 88, 3) := by decide +kernel
theorem d_MC_writeReal_340 : decode prog_13_method_24_code 340 = .ok (.invokevirtual 92, 3) := by decide +kernel
theorem d_MC_writeReal_343 : decode prog_13_method_24_code 343 = .ok (.aload_n 0, 1) := by decide +kernel
theorem d_MC_writeReal_344 : decode prog_13_method_24_code 344 = .ok (.getfield 67, 3) := by decide +kernel
theorem d_MC_writeReal_347 : decode prog_13_method_24_code 347 = .ok (.iload_n 1, 1) := by decide +kernel
theorem d_MC_writeReal_348 : decode prog_13_method_24_code 348 = .ok (.lshr, 1) := by decide +kernel
theorem d_MC_writeReal_349 : decode prog_13_method_24_code 349 = .ok (.lconst 1, 1) := by decide +kernel
theorem d_MC_writeReal_350 : decode prog_13_method_24_code 350 = .ok (.lcmp, 1) := by decide +kernel
theorem d_MC_writeReal_351 : decode prog_13_method_24_code 351 = .ok (.ifCond .ne 7, 3) := by decide +kernel
theorem d_MC_writeReal_354 : decode prog_13_method_24_code 354 = .ok (.iconst 1, 1) := by decide +kernel
theorem d_MC_writeReal_355 : decode prog_13_method_24_code 355 = .ok (.goto 4, 3) := by decide +kernel
theorem d_MC_writeReal_358 : decode prog_13_method_24_code 358 = .ok (.iconst 0, 1) := by decide +kernel
theorem d_MC_writeReal_359 : decode prog_13_method_24_code 359 = .ok (.istore 8, 2) := by decide +kernel
theorem d_MC_writeReal_361 : decode prog_13_method_24_code 361 = .ok (.iload 8, 2) := by decide +kernel
theorem d_MC_writeReal_363 : decode prog_13_method_24_code 363 = .ok (.ifCond .eq 10, 3) := by decide +kernel
theorem d_MC_writeReal_366 : decode prog_13_method_24_code 366 = .ok (.iload 7, 2) := by decide +kernel
theorem d_MC_writeReal_368 : decode prog_13_method_24_code 368 = .ok (.iconst 1, 1) := by decide +kernel
theorem d_MC_writeReal_369 : decode prog_13_method_24_code 369 = .ok (.iadd, 1) := by decide +kernel
theorem d_MC_writeReal_370 : decode prog_13_method_24_code 370 = .ok (.goto 5, 3) := by decide +kernel
theorem d_MC_writeReal_373 : decode prog_13_method_24_code 373 = .ok (.iload 7, 2) := by decide +kernel
theorem d_MC_writeReal_375 : decode prog_13_method_24_code 375 = .ok (.istore 9, 2) := by decide +kernel
theorem d_MC_writeReal_377 : decode prog_13_method_24_code 377 = .ok (.iload 9, 2) := by decide +kernel
theorem d_MC_writeReal_379 : decode prog_13_method_24_code 379 = .ok (.iload 5, 2) := by decide +kernel
theorem d_MC_writeReal_381 : decode prog_13_method_24_code 381 = .ok (.if_icmp .ge 48, 3) := by decide +kernel
theorem d_MC_writeReal_384 : decode prog_13_method_24_code 384 = .ok (.aload_n 0, 1) := by decide +kernel
theorem d_MC_writeReal_385 : decode prog_13_method_24_code 385 = .ok (.iload_n 1, 1) := by decide +kernel
theorem d_MC_writeReal_386 : decode prog_13_method_24_code 386 = .ok (.iload_n 2, 1) := by decide +kernel
theorem d_MC_writeReal_387 : decode prog_13_method_24_code 387 = .ok (.aload_n 0, 1) := by decide +kernel
theorem d_MC_writeReal_388 : decode prog_13_method_24_code 388 = .ok (.getfield 81, 3) := by decide +kernel
theorem d_MC_writeReal_391 : decode prog_13_method_24_code 391 = .ok (.iload 9, 2) := by decide +kernel
theorem d_MC_writeReal_393 : decode prog_13_method_24_code 393 = .ok (.iload 5, 2) := by decide +kernel
theorem d_MC_writeReal_395 : decode prog_13_method_24_code 395 = .ok (.iadd, 1) := by decide +kernel
theorem d_MC_writeReal_396 : decode prog_13_method_24_code 396 = .ok (.iconst 1, 1) := by decide +kernel
theorem d_MC_writeReal_397 : decode prog_13_method_24_code 397 = .ok (.isub, 1) := by decide +kernel
theorem d_MC_writeReal_398 : decode prog_13_method_24_code 398 = .ok (.i2l, 1) := by decide +kernel
theorem d_MC_writeReal_399 : decode prog_13_method_24_code 399 = .ok (.iload 8, 2) := by decide +kernel
theorem d_MC_writeReal_401 : decode prog_13_method_24_code 401 = .ok (.ifCond .eq 7, 3) := by decide +kernel
theorem d_MC_writeReal_404 : decode prog_13_method_24_code 404 = .ok (.lconst 0, 1) := by decide +kernel
theorem d_MC_writeReal_405 : decode prog_13_method_24_code 405 = .ok (.goto 7, 3) := by decide +kernel
theorem d_MC_writeReal_408 : decode prog_13_method_24_code 408 = .ok (.aload_n 0, 1) := by decide +kernel
theorem d_MC_writeReal_409 : decode prog_13_method_24_code 409 = .ok (.getfield 67, 3) := by decide +kernel
theorem d_MC_writeReal_412 : decode prog_13_method_24_code 412 = .ok (.invokevirtual 105, 3) := by decide +kernel
theorem d_MC_writeReal_415 : decode prog_13_method_24_code 415 = .ok (.aload_n 0, 1) := by decide +kernel
theorem d_MC_writeReal_416 : decode prog_13_method_24_code 416 = .ok (.getfield 78, 3) := by decide +kernel
theorem d_MC_writeReal_419 : decode prog_13_method_24_code 419 = .ok (.ifCond .eq 8, 3) := by decide +kernel
theorem d_MC_writeReal_422 : decode prog_13_method_24_code 422 = .ok (.bipush 32, 2) := by decide +kernel
theorem d_MC_writeReal_424 : decode prog_13_method_24_code 424 = .ok (.goto 4, 3) := by decide +kernel
theorem d_MC_writeReal_427 : decode prog_13_method_24_code 427 = .ok (.iconst 0, 1) := by decide +kernel
theorem d_MC_writeReal_428 : decode prog_13_method_24_code 428 = .ok (.ireturn, 1) := by decide +kernel
theorem d_MC_writeReal_429 : decode prog_13_method_24_code 429 = .ok (.aload_n 0, 1) := by decide +kernel
theorem d_MC_writeReal_430 : decode prog_13_method_24_code 430 = .ok (.bipush 8, 2) := by decide +kernel
theorem d_MC_writeReal_432 : decode prog_13_method_24_code 432 = .ok (.invokevirtual 51, 3) := by decide +kernel
theorem d_MC_writeReal_435 : decode prog_13_method_24_code 435 = .ok (.ifCond .ne 6, 3) := by decide +kernel
theorem d_MC_writeReal_438 : decode prog_13_method_24_code 438 = .ok (.bipush 8, 2) := by decide +kernel
theorem d_MC_writeReal_440 : decode prog_13_method_24_code 440 = .ok (.ireturn, 1) := by decide +kernel
theorem d_MC_writeReal_441 : decode prog_13_method_24_code 441 = .ok (.aload_n 0, 1) := by decide +kernel
theorem d_MC_writeReal_442 : decode prog_13_method_24_code 442 = .ok (.invokevirtual 88, 3) := by decide +kernel
theorem d_MC_writeReal_445 : decode prog_13_method_24_code 445 = .ok (.ifCond .eq 22, 3) := by decide +kernel
theorem d_MC_writeReal_448 : decode prog_13_method_24_code 448 = .ok (.aload_n 0, 1) := by decide +kernel
theorem d_MC_writeReal_449 : decode prog_13_method_24_code 449 = .ok (.invokevirtual 88, 3) := by decide +kernel
theorem d_MC_writeReal_452 : decode prog_13_method_24_code 452 = .ok (.aload_n 0, 1) := by decide +kernel
theorem d_MC_writeReal_453 : decode prog_13_method_24_code 453 = .ok (.getfield 81, 3) := by decide +kernel
theorem d_MC_writeReal_456 : decode prog_13_method_24_code 456 = .ok (.ifCond .eq 7, 3) := by decide +kernel
theorem d_MC_writeReal_459 : decode prog_13_method_24_code 459 = .ok (.iconst 1, 1) := by decide +kernel
theorem d_MC_writeReal_460 : decode prog_13_method_24_code 460 = .ok (.goto 4, 3) := by decide +kernel
theorem d_MC_writeReal_463 : decode prog_13_method_24_code 463 = .ok (.iconst 2, 1) := by decide +kernel
theorem d_MC_writeReal_464 : decode prog_13_method_24_code 464 = .ok (.if_icmp .ne 7, 3) := by decide +kernel
theorem d_MC_writeReal_467 : decode prog_13_method_24_code 467 = .ok (.iconst 1, 1) := by decide +kernel
theorem d_MC_writeReal_468 : decode prog_13_method_24_code 468 = .ok (.goto 4, 3) := by decide +kernel
theorem d_MC_writeReal_471 : decode prog_13_method_24_code 471 = .ok (.iconst 0, 1) := by decide +kernel
theorem d_MC_writeReal_472 : decode prog_13_method_24_code 472 = .ok (.istore 10, 2) := by decide +kernel
theorem d_MC_writeReal_474 : decode prog_13_method_24_code 474 = .ok (.aload_n 0, 1) := by decide +kernel
theorem d_MC_writeReal_475 : decode prog_13_method_24_code 475 = .ok (.iload_n 1, 1) := by decide +kernel
theorem d_MC_writeReal_476 : decode prog_13_method_24_code 476 = .ok (.iload_n 2, 1) := by decide +kernel
theorem d_MC_writeReal_477 : decode prog_13_method_24_code 477 = .ok (.aload_n 0, 1) := by decide +kernel
theorem d_MC_writeReal_478 : decode prog_13_method_24_code 478 = .ok (.getfield 81, 3) := by decide +kernel
theorem d_MC_writeReal_481 : decode prog_13_method_24_code 481 = .ok (.iload 10, 2) := by decide +kernel
theorem d_MC_writeReal_483 : decode prog_13_method_24_code 483 = .ok (.ifCond .eq 7, 3) := by decide +kernel
theorem d_MC_writeReal_486 : decode prog_13_method_24_code 486 = .ok (.lload_n 3, 1) := by decide +kernel
theorem d_MC_writeReal_487 : decode prog_13_method_24_code 487 = .ok (.goto 6, 3) := by decide +kernel
theorem d_MC_writeReal_490 : decode prog_13_method_24_code 490 = .ok (.lload_n 3, 1) := by decide +kernel
theorem d_MC_writeReal_491 : decode prog_13_method_24_code 491 = .ok (.lconst 1, 1) := by decide +kernel
theorem d_MC_writeReal_492 : decode prog_13_method_24_code 492 = .ok (.lsub, 1) := by decide +kernel
theorem d_MC_writeReal_493 : decode prog_13_method_24_code 493 = .ok (.iload 10, 2) := by decide +kernel
theorem d_MC_writeReal_495 : decode prog_13_method_24_code 495 = .ok (.ifCond .eq 7, 3) := by decide +kernel
theorem d_MC_writeReal_498 : decode prog_13_method_24_code 498 = .ok (.lconst 0, 1) := by decide +kernel
theorem d_MC_writeReal_499 : decode prog_13_method_24_code 499 = .ok (.goto 6, 3) := by decide +kernel
theorem d_MC_writeReal_502 : decode prog_13_method_24_code 502 = .ok (.ldc2_w 109, 3) := by decide +kernel
theorem d_MC_writeReal_505 : decode prog_13_method_24_code 505 = .ok (.invokevirtual 105, 3) := by decide +kernel
theorem d_MC_writeReal_508 : decode prog_13_method_24_code 508 = .ok (.bipush 40, 2) := by decide +kernel
theorem d_MC_writeReal_510 : decode prog_13_method_24_code 510 = .ok (.ireturn, 1) := by decide +kernel
theorem d_MC_writeDecimals_0 : decode prog_13_method_22_code 0 = .ok (.aload_n 0, 1) := by decide +kernel
theorem d_MC_writeDecimals_1 : decode prog_13_method_22_code 1 = .ok (.invokevirtual 84, 3) := by decide +kernel
theorem d_MC_writeDecimals_4 : decode prog_13_method_22_code 4 = .ok (.istore_n 1, 1) := by decide +kernel
theorem d_MC_writeDecimals_5 : decode prog_13_method_22_code 5 = .ok (.iload_n 1, 1) := by decide +kernel
theorem d_MC_writeDecimals_6 : decode prog_13_method_22_code 6 = .ok (.ifCond .eq 42, 3) := by decide +kernel
theorem d_MC_writeDecimals_9 : decode prog_13_method_22_code 9 = .ok (.aload_n 0, 1) := by decide +kernel
theorem d_MC_writeDecimals_10 : decode prog_13_method_22_code 10 = .ok (.iconst 0, 1) := by decide +kernel
theorem d_MC_writeDecimals_11 : decode prog_13_method_22_code 11 = .ok (.iconst 4, 1) := by decide +kernel
theorem d_MC_writeDecimals_12 : decode prog_13_method_22_code 12 = .ok (.invokevirtual 92, 3) := by decide +kernel
theorem d_MC_writeDecimals_15 : decode prog_13_method_22_code 15 = .ok (.aload_n 0, 1) := by decide +kernel
theorem d_MC_writeDecimals_16 : decode prog_13_method_22_code 16 = .ok (.getfield 71, 3) := by decide +kernel
theorem d_MC_writeDecimals_19 : decode prog_13_method_22_code 19 = .ok (.ifCond .ne 27, 3) := by decide +kernel
theorem d_MC_writeDecimals_22 : decode prog_13_method_22_code 22 = .ok (.aload_n 0, 1) := by decide +kernel
theorem d_MC_writeDecimals_23 : decode prog_13_method_22_code 23 = .ok (.getfield 67, 3) := by decide +kernel
theorem d_MC_writeDecimals_26 : decode prog_13_method_22_code 26 = .ok (.lconst 0, 1) := by decide +kernel
theorem d_MC_writeDecimals_27 : decode prog_13_method_22_code 27 = .ok (.lcmp, 1) := by decide +kernel
theorem d_MC_writeDecimals_28 : decode prog_13_method_22_code 28 = .ok (.ifCond .lt 18, 3) := by decide +kernel
theorem d_MC_writeDecimals_31 : decode prog_13_method_22_code 31 = .ok (.aload_n 0, 1) := by decide +kernel
theorem d_MC_writeDecimals_32 : decode prog_13_method_22_code 32 = .ok (.getfield 67, 3) := by decide +kernel
theorem d_MC_writeDecimals_35 : decode prog_13_method_22_code 35 = .ok (.ldc2_w 100, 3) := by decide +kernel
theorem d_MC_writeDecimals_38 : decode prog_13_method_22_code 38 = .ok (.lcmp, 1) := by decide +kernel
theorem d_MC_writeDecimals_39 : decode prog_13_method_22_code 39 = .ok (.ifCond .ge 7, 3) := by decide +kernel
theorem d_MC_writeDecimals_42 : decode prog_13_method_22_code 42 = .ok (.iconst 1, 1) := by decide +kernel
theorem d_MC_writeDecimals_43 : decode prog_13_method_22_code 43 = .ok (.goto 4, 3) := by decide +kernel
theorem d_MC_writeDecimals_46 : decode prog_13_method_22_code 46 = .ok (.iconst 0, 1) := by decide +kernel
theorem d_MC_writeDecimals_47 : decode prog_13_method_22_code 47 = .ok (.istore_n 1, 1) := by decide +kernel
theorem d_MC_writeDecimals_48 : decode prog_13_method_22_code 48 = .ok (.iload_n 1, 1) := by decide +kernel
theorem d_MC_writeDecimals_49 : decode prog_13_method_22_code 49 = .ok (.ifCond .ne 60, 3) := by decide +kernel
theorem d_MC_writeDecimals_52 : decode prog_13_method_22_code 52 = .ok (.aload_n 0, 1) := by decide +kernel
theorem d_MC_writeDecimals_53 : decode prog_13_method_22_code 53 = .ok (.iconst 1, 1) := by decide +kernel
theorem d_MC_writeDecimals_54 : decode prog_13_method_22_code 54 = .ok (.invokevirtual 51, 3) := by decide +kernel
theorem d_MC_writeDecimals_57 : decode prog_13_method_22_code 57 = .ok (.ifCond .ne 5, 3) := by decide +kernel
theorem d_MC_writeDecimals_60 : decode prog_13_method_22_code 60 = .ok (.iconst 1, 1) := by decide +kernel
theorem d_MC_writeDecimals_61 : decode prog_13_method_22_code 61 = .ok (.ireturn, 1) := by decide +kernel
theorem d_MC_writeDecimals_62 : decode prog_13_method_22_code 62 = .ok (.iconst 0, 1) := by decide +kernel
theorem d_MC_writeDecimals_63 : decode prog_13_method_22_code 63 = .ok (.istore_n 2, 1) := by decide +kernel
theorem d_MC_writeDecimals_64 : decode prog_13_method_22_code 64 = .ok (.iload_n 2, 1) := by decide +kernel
theorem d_MC_writeDecimals_65 : decode prog_13_method_22_code 65 = .ok (.bipush 10, 2) := by decide +kernel
theorem d_MC_writeDecimals_67 : decode prog_13_method_22_code 67 = .ok (.if_icmp .ge 40, 3) := by decide +kernel
theorem d_MC_writeDecimals_70 : decode prog_13_method_22_code 70 = .ok (.aload_n 0, 1) := by decide +kernel
theorem d_MC_writeDecimals_71 : decode prog_13_method_22_code 71 = .ok (.getfield 21, 3) := by decide +kernel
theorem d_MC_writeDecimals_74 : decode prog_13_method_22_code 74 = .ok (.iload_n 2, 1) := by decide +kernel
theorem d_MC_writeDecimals_75 : decode prog_13_method_22_code 75 = .ok (.iload_n 2, 1) := by decide +kernel
theorem d_MC_writeDecimals_76 : decode prog_13_method_22_code 76 = .ok (.bipush 7, 2) := by decide +kernel
theorem d_MC_writeDecimals_78 : decode prog_13_method_22_code 78 = .ok (.if_icmp .ge 7, 3) := by decide +kernel
theorem d_MC_writeDecimals_81 : decode prog_13_method_22_code 81 = .ok (.iconst 0, 1) := by decide +kernel
theorem d_MC_writeDecimals_82 : decode prog_13_method_22_code 82 = .ok (.goto 18, 3) := by decide +kernel
theorem d_MC_writeDecimals_85 : decode prog_13_method_22_code 85 = .ok (.iload_n 2, 1) := by decide +kernel
theorem d_MC_writeDecimals_86 : decode prog_13_method_22_code 86 = .ok (.bipush 7, 2) := by decide +kernel
theorem d_MC_writeDecimals_88 : decode prog_13_method_22_code 88 = .ok (.if_icmp .ne 9, 3) := by decide +kernel
theorem d_MC_writeDecimals_91 : decode prog_13_method_22_code 91 = .ok (.sipush 192, 3) := by decide +kernel
theorem d_MC_writeDecimals_94 : decode prog_13_method_22_code 94 = .ok (.goto 6, 3) := by decide +kernel
theorem d_MC_writeDecimals_97 : decode prog_13_method_22_code 97 = .ok (.sipush 255, 3) := by decide +kernel
theorem d_MC_writeDecimals_100 : decode prog_13_method_22_code 100 = .ok (.iastore, 1) := by decide +kernel
theorem d_MC_writeDecimals_101 : decode prog_13_method_22_code 101 = .ok (.iinc 2 1, 3) := by decide +kernel
theorem d_MC_writeDecimals_104 : decode prog_13_method_22_code 104 = .ok (.goto (-40), 3) := by decide +kernel
theorem d_MC_writeDecimals_107 : decode prog_13_method_22_code 107 = .ok (.iconst 1, 1) := by decide +kernel
theorem d_MC_writeDecimals_108 : decode prog_13_method_22_code 108 = .ok (.ireturn, 1) := by decide +kernel
theorem d_MC_writeDecimals_109 : decode prog_13_method_22_code 109 = .ok (.iconst 0, 1) := by decide +kernel
theorem d_MC_writeDecimals_110 : decode prog_13_method_22_code 110 = .ok (.istore_n 2, 1) := by decide +kernel
theorem d_MC_writeDecimals_111 : decode prog_13_method_22_code 111 = .ok (.iload_n 2, 1) := by decide +kernel
theorem d_MC_writeDecimals_112 : decode prog_13_method_22_code 112 = .ok (.bipush 18, 2) := by decide +kernel
theorem d_MC_writeDecimals_114 : decode prog_13_method_22_code 114 = .ok (.if_icmp .ge 37, 3) := by decide +kernel
theorem d_MC_writeDecimals_117 : decode prog_13_method_22_code 117 = .ok (.aload_n 0, 1) := by decide +kernel
theorem d_MC_writeDecimals_118 : decode prog_13_method_22_code 118 = .ok (.iconst 4, 1) := by decide +kernel
theorem d_MC_writeDecimals_119 : decode prog_13_method_22_code 119 = .ok (.iload_n 2, 1) := by decide +kernel
theorem d_MC_writeDecimals_120 : decode prog_13_method_22_code 120 = .ok (.imul, 1) := by decide +kernel
theorem d_MC_writeDecimals_121 : decode prog_13_method_22_code 121 = .ok (.iconst 4, 1) := by decide +kernel
theorem d_MC_writeDecimals_122 : decode prog_13_method_22_code 122 = .ok (.aload_n 0, 1) := by decide +kernel
theorem d_MC_writeDecimals_123 : decode prog_13_method_22_code 123 = .ok (.getfield 67, 3) := by decide +kernel
theorem d_MC_writeDecimals_126 : decode prog_13_method_22_code 126 = .ok (.ldc2_w 62, 3) := by decide +kernel
theorem d_MC_writeDecimals_129 : decode prog_13_method_22_code 129 = .ok (.lrem, 1) := by decide +kernel
theorem d_MC_writeDecimals_130 : decode prog_13_method_22_code 130 = .ok (.invokevirtual 96, 3) := by decide +kernel
theorem d_MC_writeDecimals_133 : decode prog_13_method_22_code 133 = .ok (.aload_n 0, 1) := by decide +kernel
theorem d_MC_writeDecimals_134 : decode prog_13_method_22_code 134 = .ok (.aload_n 0, 1) := by decide +kernel
theorem d_MC_writeDecimals_135 : decode prog_13_method_22_code 135 = .ok (.getfield 67, 3) := by decide +kernel
theorem d_MC_writeDecimals_138 : decode prog_13_method_22_code 138 = .ok (.ldc2_w 62, 3) := by decide +kernel
theorem d_MC_writeDecimals_141 : decode prog_13_method_22_code 141 = .ok (.ldiv, 1) := by decide +kernel
theorem d_MC_writeDecimals_142 : decode prog_13_method_22_code 142 = .ok (.putfield 67, 3) := by decide +kernel
theorem d_MC_writeDecimals_145 : decode prog_13_method_22_code 145 = .ok (.iinc 2 1, 3) := by decide +kernel
theorem d_MC_writeDecimals_148 : decode prog_13_method_22_code 148 = .ok (.goto (-37), 3) := by decide +kernel
theorem d_MC_writeDecimals_151 : decode prog_13_method_22_code 151 = .ok (.aload_n 0, 1) := by decide +kernel
theorem d_MC_writeDecimals_152 : decode prog_13_method_22_code 152 = .ok (.getfield 21, 3) := by decide +kernel
theorem d_MC_writeDecimals_155 : decode prog_13_method_22_code 155 = .ok (.bipush 9, 2) := by decide +kernel
theorem d_MC_writeDecimals_157 : decode prog_13_method_22_code 157 = .ok (.aload_n 0, 1) := by decide +kernel
theorem d_MC_writeDecimals_158 : decode prog_13_method_22_code 158 = .ok (.getfield 81, 3) := by decide +kernel
theorem d_MC_writeDecimals_161 : decode prog_13_method_22_code 161 = .ok (.ifCond .eq 9, 3) := by decide +kernel
theorem d_MC_writeDecimals_164 : decode prog_13_method_22_code 164 = .ok (.sipush 128, 3) := by decide +kernel
theorem d_MC_writeDecimals_167 : decode prog_13_method_22_code 167 = .ok (.goto 4, 3) := by decide +kernel
theorem d_MC_writeDecimals_170 : decode prog_13_method_22_code 170 = .ok (.iconst 0, 1) := by decide +kernel
theorem d_MC_writeDecimals_171 : decode prog_13_method_22_code 171 = .ok (.iastore, 1) := by decide +kernel
theorem d_MC_writeDecimals_172 : decode prog_13_method_22_code 172 = .ok (.aload_n 0, 1) := by decide +kernel
theorem d_MC_writeDecimals_173 : decode prog_13_method_22_code 173 = .ok (.getfield 78, 3) := by decide +kernel
theorem d_MC_writeDecimals_176 : decode prog_13_method_22_code 176 = .ok (.ifCond .eq 8, 3) := by decide +kernel
theorem d_MC_writeDecimals_179 : decode prog_13_method_22_code 179 = .ok (.bipush 32, 2) := by decide +kernel
theorem d_MC_writeDecimals_181 : decode prog_13_method_22_code 181 = .ok (.goto 4, 3) := by decide +kernel
theorem d_MC_writeDecimals_184 : decode prog_13_method_22_code 184 = .ok (.iconst 0, 1) := by decide +kernel
theorem d_MC_writeDecimals_185 : decode prog_13_method_22_code 185 = .ok (.ireturn, 1) := by decide +kernel
theorem d_MC_write_0 : decode prog_13_method_25_code 0 = .ok (.aload_n 0, 1) := by decide +kernel
theorem d_MC_write_1 : decode prog_13_method_25_code 1 = .ok (.iload_n 2, 1) := by decide +kernel
theorem d_MC_write_2 : decode prog_13_method_25_code 2 = .ok (.invokestatic 28, 3) := by decide +kernel
theorem d_MC_write_5 : decode prog_13_method_25_code 5 = .ok (.ifCond .eq 7, 3) := by decide +kernel
theorem d_MC_write_8 : decode prog_13_method_25_code 8 = .ok (.iconst 1, 1) := by decide +kernel
theorem d_MC_write_9 : decode prog_13_method_25_code 9 = .ok (.goto 18, 3) := by decide +kernel
theorem d_MC_write_12 : decode prog_13_method_25_code 12 = .ok (.iload_n 1, 1) := by decide +kernel
theorem d_MC_write_13 : decode prog_13_method_25_code 13 = .ok (.ifCond .lt 9, 3) := by decide +kernel
theorem d_MC_write_16 : decode prog_13_method_25_code 16 = .ok (.iload_n 1, 1) := by decide +kernel
theorem d_MC_write_17 : decode prog_13_method_25_code 17 = .ok (.bipush 6, 2) := by decide +kernel
theorem d_MC_write_19 : decode prog_13_method_25_code 19 = .ok (.if_icmp .le 7, 3) := by decide +kernel
theorem d_MC_write_22 : decode prog_13_method_25_code 22 = .ok (.iconst 2, 1) := by decide +kernel
theorem d_MC_write_23 : decode prog_13_method_25_code 23 = .ok (.goto 4, 3) := by decide +kernel
theorem d_MC_write_26 : decode prog_13_method_25_code 26 = .ok (.iconst 0, 1) := by decide +kernel
theorem d_MC_write_27 : decode prog_13_method_25_code 27 = .ok (.putfield 24, 3) := by decide +kernel
theorem d_MC_write_30 : decode prog_13_method_25_code 30 = .ok (.aload_n 0, 1) := by decide +kernel
theorem d_MC_write_31 : decode prog_13_method_25_code 31 = .ok (.getfield 24, 3) := by decide +kernel
theorem d_MC_write_34 : decode prog_13_method_25_code 34 = .ok (.ifCond .le 5, 3) := by decide +kernel
theorem d_MC_write_37 : decode prog_13_method_25_code 37 = .ok (.iconst 0, 1) := by decide +kernel
theorem d_MC_write_38 : decode prog_13_method_25_code 38 = .ok (.ireturn, 1) := by decide +kernel
theorem d_MC_write_39 : decode prog_13_method_25_code 39 = .ok (.aload_n 0, 1) := by decide +kernel
theorem d_MC_write_40 : decode prog_13_method_25_code 40 = .ok (.aload_n 0, 1) := by decide +kernel
theorem d_MC_write_41 : decode prog_13_method_25_code 41 = .ok (.getfield 13, 3) := by decide +kernel
theorem d_MC_write_44 : decode prog_13_method_25_code 44 = .ok (.iload_n 2, 1) := by decide +kernel
theorem d_MC_write_45 : decode prog_13_method_25_code 45 = .ok (.iaload, 1) := by decide +kernel
theorem d_MC_write_46 : decode prog_13_method_25_code 46 = .ok (.sipush 32767, 3) := by decide +kernel
theorem d_MC_write_49 : decode prog_13_method_25_code 49 = .ok (.if_icmp .le 7, 3) := by decide +kernel
theorem d_MC_write_52 : decode prog_13_method_25_code 52 = .ok (.iconst 1, 1) := by decide +kernel
theorem d_MC_write_53 : decode prog_13_method_25_code 53 = .ok (.goto 4, 3) := by decide +kernel
theorem d_MC_write_56 : decode prog_13_method_25_code 56 = .ok (.iconst 0, 1) := by decide +kernel
theorem d_MC_write_57 : decode prog_13_method_25_code 57 = .ok (.putfield 81, 3) := by decide +kernel
theorem d_MC_write_60 : decode prog_13_method_25_code 60 = .ok (.aload_n 0, 1) := by decide +kernel
theorem d_MC_write_61 : decode prog_13_method_25_code 61 = .ok (.aload_n 0, 1) := by decide +kernel
theorem d_MC_write_62 : decode prog_13_method_25_code 62 = .ok (.getfield 13, 3) := by decide +kernel
theorem d_MC_write_65 : decode prog_13_method_25_code 65 = .ok (.iload_n 2, 1) := by decide +kernel
theorem d_MC_write_66 : decode prog_13_method_25_code 66 = .ok (.iaload, 1) := by decide +kernel
theorem d_MC_write_67 : decode prog_13_method_25_code 67 = .ok (.ldc 44, 2) := by decide +kernel
theorem d_MC_write_69 : decode prog_13_method_25_code 69 = .ok (.irem, 1) := by decide +kernel
theorem d_MC_write_70 : decode prog_13_method_25_code 70 = .ok (.putfield 64, 3) := by decide +kernel
theorem d_MC_write_73 : decode prog_13_method_25_code 73 = .ok (.aload_n 0, 1) := by decide +kernel
theorem d_MC_write_74 : decode prog_13_method_25_code 74 = .ok (.aload_n 0, 1) := by decide +kernel
theorem d_MC_write_75 : decode prog_13_method_25_code 75 = .ok (.getfield 17, 3) := by decide +kernel
theorem d_MC_write_78 : decode prog_13_method_25_code 78 = .ok (.iload_n 2, 1) := by decide +kernel
theorem d_MC_write_79 : decode prog_13_method_25_code 79 = .ok (.laload, 1) := by decide +kernel
theorem d_MC_write_80 : decode prog_13_method_25_code 80 = .ok (.putfield 75, 3) := by decide +kernel
theorem d_MC_write_83 : decode prog_13_method_25_code 83 = .ok (.iload_n 1, 1) := by decide +kernel
theorem d_MC_write_84 : decode prog_13_method_25_code 84 = .ok (.tableswitch 84 0 5 #[40, 47, 54, 61, 70, 79], 40) := by decide +kernel
theorem d_MC_write_124 : decode prog_13_method_25_code 124 = .ok (.aload_n 0, 1) := by decide +kernel
theorem d_MC_write_125 : decode prog_13_method_25_code 125 = .ok (.bipush 16, 2) := by decide +kernel
theorem d_MC_write_127 : decode prog_13_method_25_code 127 = .ok (.invokevirtual 111, 3) := by decide +kernel
theorem d_MC_write_130 : decode prog_13_method_25_code 130 = .ok (.ireturn, 1) := by decide +kernel
theorem d_MC_write_131 : decode prog_13_method_25_code 131 = .ok (.aload_n 0, 1) := by decide +kernel
theorem d_MC_write_132 : decode prog_13_method_25_code 132 = .ok (.bipush 32, 2) := by decide +kernel
theorem d_MC_write_134 : decode prog_13_method_25_code 134 = .ok (.invokevirtual 111, 3) := by decide +kernel
theorem d_MC_write_137 : decode prog_13_method_25_code 137 = .ok (.ireturn, 1) := by decide +kernel
theorem d_MC_write_138 : decode prog_13_method_25_code 138 = .ok (.aload_n 0, 1) := by decide +kernel
theorem d_MC_write_139 : decode prog_13_method_25_code 139 = .ok (.bipush 64, 2) := by decide +kernel
theorem d_MC_write_141 : decode prog_13_method_25_code 141 = .ok (.invokevirtual 111, 3) := by decide +kernel
theorem d_MC_write_144 : decode prog_13_method_25_code 144 = .ok (.ireturn, 1) := by decide +kernel
theorem d_MC_write_145 : decode prog_13_method_25_code 145 = .ok (.aload_n 0, 1) := by decide +kernel
theorem d_MC_write_146 : decode prog_13_method_25_code 146 = .ok (.bipush 24, 2) := by decide +kernel
theorem d_MC_write_148 : decode prog_13_method_25_code 148 = .ok (.bipush 8, 2) := by decide +kernel
theorem d_MC_write_150 : decode prog_13_method_25_code 150 = .ok (.invokevirtual 114, 3) := by decide +kernel
theorem d_MC_write_153 : decode prog_13_method_25_code 153 = .ok (.ireturn, 1) := by decide +kernel
theorem d_MC_write_154 : decode prog_13_method_25_code 154 = .ok (.aload_n 0, 1) := by decide +kernel
theorem d_MC_write_155 : decode prog_13_method_25_code 155 = .ok (.bipush 53, 2) := by decide +kernel
theorem d_MC_write_157 : decode prog_13_method_25_code 157 = .ok (.bipush 11, 2) := by decide +kernel
theorem d_MC_write_159 : decode prog_13_method_25_code 159 = .ok (.invokevirtual 114, 3) := by decide +kernel
theorem d_MC_write_162 : decode prog_13_method_25_code 162 = .ok (.ireturn, 1) := by decide +kernel
theorem d_MC_write_163 : decode prog_13_method_25_code 163 = .ok (.aload_n 0, 1) := by decide +kernel
theorem d_MC_write_164 : decode prog_13_method_25_code 164 = .ok (.invokevirtual 118, 3) := by decide +kernel
theorem d_MC_write_167 : decode prog_13_method_25_code 167 = .ok (.ireturn, 1) := by decide +kernel
theorem d_MC_write_168 : decode prog_13_method_25_code 168 = .ok (.aload_n 0, 1) := by decide +kernel
theorem d_MC_write_169 : decode prog_13_method_25_code 169 = .ok (.iconst 0, 1) := by decide +kernel
theorem d_MC_write_170 : decode prog_13_method_25_code 170 = .ok (.bipush 64, 2) := by decide +kernel
theorem d_MC_write_172 : decode prog_13_method_25_code 172 = .ok (.aload_n 0, 1) := by decide +kernel
theorem d_MC_write_173 : decode prog_13_method_25_code 173 = .ok (.getfield 75, 3) := by decide +kernel
theorem d_MC_write_176 : decode prog_13_method_25_code 176 = .ok (.invokevirtual 96, 3) := by decide +kernel
theorem d_MC_write_179 : decode prog_13_method_25_code 179 = .ok (.aload_n 0, 1) := by decide +kernel
theorem d_MC_write_180 : decode prog_13_method_25_code 180 = .ok (.getfield 21, 3) := by decide +kernel
theorem d_MC_write_183 : decode prog_13_method_25_code 183 = .ok (.bipush 8, 2) := by decide +kernel
theorem d_MC_write_185 : decode prog_13_method_25_code 185 = .ok (.aload_n 0, 1) := by decide +kernel
theorem d_MC_write_186 : decode prog_13_method_25_code 186 = .ok (.getfield 13, 3) := by decide +kernel
theorem d_MC_write_189 : decode prog_13_method_25_code 189 = .ok (.iload_n 2, 1) := by decide +kernel
theorem d_MC_write_190 : decode prog_13_method_25_code 190 = .ok (.iaload, 1) := by decide +kernel
theorem d_MC_write_191 : decode prog_13_method_25_code 191 = .ok (.sipush 256, 3) := by decide +kernel
theorem d_MC_write_194 : decode prog_13_method_25_code 194 = .ok (.irem, 1) := by decide +kernel
theorem d_MC_write_195 : decode prog_13_method_25_code 195 = .ok (.iastore, 1) := by decide +kernel
theorem d_MC_write_196 : decode prog_13_method_25_code 196 = .ok (.aload_n 0, 1) := by decide +kernel
theorem d_MC_write_197 : decode prog_13_method_25_code 197 = .ok (.getfield 21, 3) := by decide +kernel
theorem d_MC_write_200 : decode prog_13_method_25_code 200 = .ok (.bipush 9, 2) := by decide +kernel
theorem d_MC_write_202 : decode prog_13_method_25_code 202 = .ok (.aload_n 0, 1) := by decide +kernel
theorem d_MC_write_203 : decode prog_13_method_25_code 203 = .ok (.getfield 13, 3) := by decide +kernel
theorem d_MC_write_206 : decode prog_13_method_25_code 206 = .ok (.iload_n 2, 1) := by decide +kernel
theorem d_MC_write_207 : decode prog_13_method_25_code 207 = .ok (.iaload, 1) := by decide +kernel
theorem d_MC_write_208 : decode prog_13_method_25_code 208 = .ok (.sipush 256, 3) := by decide +kernel
theorem d_MC_write_211 : decode prog_13_method_25_code 211 = .ok (.idiv, 1) := by decide +kernel
theorem d_MC_write_212 : decode prog_13_method_25_code 212 = .ok (.iastore, 1) := by decide +kernel
theorem d_MC_write_213 : decode prog_13_method_25_code 213 = .ok (.iconst 0, 1) := by decide +kernel
theorem d_MC_write_214 : decode prog_13_method_25_code 214 = .ok (.ireturn, 1) := by decide +kernel
theorem d_MC_byteAt_0 : decode prog_13_method_8_code 0 = .ok (.aload_n 0, 1) := by decide +kernel
theorem d_MC_byteAt_1 : decode prog_13_method_8_code 1 = .ok (.iload_n 1, 1) := by decide +kernel
theorem d_MC_byteAt_2 : decode prog_13_method_8_code 2 = .ok (.ifCond .lt 9, 3) := by decide +kernel
theorem d_MC_byteAt_5 : decode prog_13_method_8_code 5 = .ok (.iload_n 1, 1) := by decide +kernel
theorem d_MC_byteAt_6 : decode prog_13_method_8_code 6 = .ok (.bipush 9, 2) := by decide +kernel
theorem d_MC_byteAt_8 : decode prog_13_method_8_code 8 = .ok (.if_icmp .le 7, 3) := by decide +kernel
theorem d_MC_byteAt_11 : decode prog_13_method_8_code 11 = .ok (.iconst 1, 1) := by decide +kernel
theorem d_MC_byteAt_12 : decode prog_13_method_8_code 12 = .ok (.goto 4, 3) := by decide +kernel
theorem d_MC_byteAt_15 : decode prog_13_method_8_code 15 = .ok (.iconst 0, 1) := by decide +kernel
theorem d_MC_byteAt_16 : decode prog_13_method_8_code 16 = .ok (.putfield 24, 3) := by decide +kernel
theorem d_MC_byteAt_19 : decode prog_13_method_8_code 19 = .ok (.aload_n 0, 1) := by decide +kernel
theorem d_MC_byteAt_20 : decode prog_13_method_8_code 20 = .ok (.getfield 24, 3) := by decide +kernel
theorem d_MC_byteAt_23 : decode prog_13_method_8_code 23 = .ok (.ifCond .le 7, 3) := by decide +kernel
theorem d_MC_byteAt_26 : decode prog_13_method_8_code 26 = .ok (.iconst 0, 1) := by decide +kernel
theorem d_MC_byteAt_27 : decode prog_13_method_8_code 27 = .ok (.goto 9, 3) := by decide +kernel
theorem d_MC_byteAt_30 : decode prog_13_method_8_code 30 = .ok (.aload_n 0, 1) := by decide +kernel
theorem d_MC_byteAt_31 : decode prog_13_method_8_code 31 = .ok (.getfield 21, 3) := by decide +kernel
theorem d_MC_byteAt_34 : decode prog_13_method_8_code 34 = .ok (.iload_n 1, 1) := by decide +kernel
theorem d_MC_byteAt_35 : decode prog_13_method_8_code 35 = .ok (.iaload, 1) := by decide +kernel
theorem d_MC_byteAt_36 : decode prog_13_method_8_code 36 = .ok (.ireturn, 1) := by decide +kernel
