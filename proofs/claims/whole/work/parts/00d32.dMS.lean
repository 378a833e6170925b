theorem d_MS_control_0 : decode prog_15_method_6_code 0 = .ok (.aload_n 0, 1) := by decide +kernel
theorem d_MS_control_1 : decode prog_15_method_6_code 1 = .ok (.iload_n 1, 1) := by decide +kernel
theorem d_MS_control_2 : decode prog_15_method_6_code 2 = .ok (.ifCond .lt 9, 3) := by decide +kernel
theorem d_MS_control_5 : decode prog_15_method_6_code 5 = .ok (.iload_n 1, 1) := by decide +kernel
theorem d_MS_control_6 : decode prog_15_method_6_code 6 = .ok (.ldc 24, 2) := by decide +kernel
theorem d_MS_control_8 : decode prog_15_method_6_code 8 = .ok (.if_icmp .le 7, 3) := by decide +kernel
theorem d_MS_control_11 : decode prog_15_method_6_code 11 = .ok (.iconst 1, 1) := by decide +kernel
theorem d_MS_control_12 : decode prog_15_method_6_code 12 = .ok (.goto 4, 3) := by decide +kernel
theorem d_MS_control_15 : decode prog_15_method_6_code 15 = .ok (.iconst 0, 1) := by decide +kernel
theorem d_MS_control_16 : decode prog_15_method_6_code 16 = .ok (.putfield 21, 3) := by decide +kernel
theorem d_MS_control_19 : decode prog_15_method_6_code 19 = .ok (.aload_n 0, 1) := by decide +kernel
theorem d_MS_control_20 : decode prog_15_method_6_code 20 = .ok (.getfield 21, 3) := by decide +kernel
theorem d_MS_control_23 : decode prog_15_method_6_code 23 = .ok (.ifCond .ne 8, 3) := by decide +kernel
theorem d_MS_control_26 : decode prog_15_method_6_code 26 = .ok (.aload_n 0, 1) := by decide +kernel
theorem d_MS_control_27 : decode prog_15_method_6_code 27 = .ok (.iload_n 1, 1) := by decide +kernel
theorem d_MS_control_28 : decode prog_15_method_6_code 28 = .ok (.putfield 7, 3) := by decide +kernel
theorem d_MS_control_31 : decode prog_15_method_6_code 31 = .ok (.return_, 1) := by decide +kernel
theorem d_MS_none_0 : decode prog_15_method_3_code 0 = .ok (.iload_n 0, 1) := by decide +kernel
theorem d_MS_none_1 : decode prog_15_method_3_code 1 = .ok (.ifCond .lt 9, 3) := by decide +kernel
theorem d_MS_none_4 : decode prog_15_method_3_code 4 = .ok (.iload_n 0, 1) := by decide +kernel
theorem d_MS_none_5 : decode prog_15_method_3_code 5 = .ok (.bipush 7, 2) := by decide +kernel
theorem d_MS_none_7 : decode prog_15_method_3_code 7 = .ok (.if_icmp .le 7, 3) := by decide +kernel
theorem d_MS_none_10 : decode prog_15_method_3_code 10 = .ok (.iconst 1, 1) := by decide +kernel
theorem d_MS_none_11 : decode prog_15_method_3_code 11 = .ok (.goto 4, 3) := by decide +kernel
theorem d_MS_none_14 : decode prog_15_method_3_code 14 = .ok (.iconst 0, 1) := by decide +kernel
theorem d_MS_none_15 : decode prog_15_method_3_code 15 = .ok (.ireturn, 1) := by decide +kernel
theorem d_MS_set_0 : decode prog_15_method_7_code 0 = .ok (.aload_n 0, 1) := by decide +kernel
theorem d_MS_set_1 : decode prog_15_method_7_code 1 = .ok (.iload_n 1, 1) := by decide +kernel
theorem d_MS_set_2 : decode prog_15_method_7_code 2 = .ok (.invokestatic 25, 3) := by decide +kernel
theorem d_MS_set_5 : decode prog_15_method_7_code 5 = .ok (.ifCond .eq 7, 3) := by decide +kernel
theorem d_MS_set_8 : decode prog_15_method_7_code 8 = .ok (.iconst 1, 1) := by decide +kernel
theorem d_MS_set_9 : decode prog_15_method_7_code 9 = .ok (.goto 18, 3) := by decide +kernel
theorem d_MS_set_12 : decode prog_15_method_7_code 12 = .ok (.iload_n 2, 1) := by decide +kernel
theorem d_MS_set_13 : decode prog_15_method_7_code 13 = .ok (.ifCond .lt 9, 3) := by decide +kernel
theorem d_MS_set_16 : decode prog_15_method_7_code 16 = .ok (.iload_n 2, 1) := by decide +kernel
theorem d_MS_set_17 : decode prog_15_method_7_code 17 = .ok (.ldc 24, 2) := by decide +kernel
theorem d_MS_set_19 : decode prog_15_method_7_code 19 = .ok (.if_icmp .le 7, 3) := by decide +kernel
theorem d_MS_set_22 : decode prog_15_method_7_code 22 = .ok (.iconst 2, 1) := by decide +kernel
theorem d_MS_set_23 : decode prog_15_method_7_code 23 = .ok (.goto 4, 3) := by decide +kernel
theorem d_MS_set_26 : decode prog_15_method_7_code 26 = .ok (.iconst 0, 1) := by decide +kernel
theorem d_MS_set_27 : decode prog_15_method_7_code 27 = .ok (.putfield 21, 3) := by decide +kernel
theorem d_MS_set_30 : decode prog_15_method_7_code 30 = .ok (.aload_n 0, 1) := by decide +kernel
theorem d_MS_set_31 : decode prog_15_method_7_code 31 = .ok (.getfield 21, 3) := by decide +kernel
theorem d_MS_set_34 : decode prog_15_method_7_code 34 = .ok (.ifCond .le 4, 3) := by decide +kernel
theorem d_MS_set_37 : decode prog_15_method_7_code 37 = .ok (.return_, 1) := by decide +kernel
theorem d_MS_set_38 : decode prog_15_method_7_code 38 = .ok (.aload_n 0, 1) := by decide +kernel
theorem d_MS_set_39 : decode prog_15_method_7_code 39 = .ok (.getfield 13, 3) := by decide +kernel
theorem d_MS_set_42 : decode prog_15_method_7_code 42 = .ok (.iload_n 1, 1) := by decide +kernel
theorem d_MS_set_43 : decode prog_15_method_7_code 43 = .ok (.iload_n 2, 1) := by decide +kernel
theorem d_MS_set_44 : decode prog_15_method_7_code 44 = .ok (.iastore, 1) := by decide +kernel
theorem d_MS_set_45 : decode prog_15_method_7_code 45 = .ok (.aload_n 0, 1) := by decide +kernel
theorem d_MS_set_46 : decode prog_15_method_7_code 46 = .ok (.getfield 17, 3) := by decide +kernel
theorem d_MS_set_49 : decode prog_15_method_7_code 49 = .ok (.iload_n 1, 1) := by decide +kernel
theorem d_MS_set_50 : decode prog_15_method_7_code 50 = .ok (.iload_n 3, 1) := by decide +kernel
theorem d_MS_set_51 : decode prog_15_method_7_code 51 = .ok (.i2l, 1) := by decide +kernel
theorem d_MS_set_52 : decode prog_15_method_7_code 52 = .ok (.ldc2_w 29, 3) := by decide +kernel
theorem d_MS_set_55 : decode prog_15_method_7_code 55 = .ok (.lmul, 1) := by decide +kernel
theorem d_MS_set_56 : decode prog_15_method_7_code 56 = .ok (.iload 4, 2) := by decide +kernel
theorem d_MS_set_58 : decode prog_15_method_7_code 58 = .ok (.i2l, 1) := by decide +kernel
theorem d_MS_set_59 : decode prog_15_method_7_code 59 = .ok (.ldc2_w 31, 3) := by decide +kernel
theorem d_MS_set_62 : decode prog_15_method_7_code 62 = .ok (.land, 1) := by decide +kernel
theorem d_MS_set_63 : decode prog_15_method_7_code 63 = .ok (.ladd, 1) := by decide +kernel
theorem d_MS_set_64 : decode prog_15_method_7_code 64 = .ok (.lastore, 1) := by decide +kernel
theorem d_MS_set_65 : decode prog_15_method_7_code 65 = .ok (.return_, 1) := by decide +kernel
theorem d_MS_part_0 : decode prog_15_method_8_code 0 = .ok (.aload_n 0, 1) := by decide +kernel
theorem d_MS_part_1 : decode prog_15_method_8_code 1 = .ok (.iload_n 1, 1) := by decide +kernel
theorem d_MS_part_2 : decode prog_15_method_8_code 2 = .ok (.invokestatic 25, 3) := by decide +kernel
theorem d_MS_part_5 : decode prog_15_method_8_code 5 = .ok (.ifCond .eq 7, 3) := by decide +kernel
theorem d_MS_part_8 : decode prog_15_method_8_code 8 = .ok (.iconst 1, 1) := by decide +kernel
theorem d_MS_part_9 : decode prog_15_method_8_code 9 = .ok (.goto 17, 3) := by decide +kernel
theorem d_MS_part_12 : decode prog_15_method_8_code 12 = .ok (.iload_n 2, 1) := by decide +kernel
theorem d_MS_part_13 : decode prog_15_method_8_code 13 = .ok (.ifCond .lt 8, 3) := by decide +kernel
theorem d_MS_part_16 : decode prog_15_method_8_code 16 = .ok (.iload_n 2, 1) := by decide +kernel
theorem d_MS_part_17 : decode prog_15_method_8_code 17 = .ok (.iconst 2, 1) := by decide +kernel
theorem d_MS_part_18 : decode prog_15_method_8_code 18 = .ok (.if_icmp .le 7, 3) := by decide +kernel
theorem d_MS_part_21 : decode prog_15_method_8_code 21 = .ok (.iconst 2, 1) := by decide +kernel
theorem d_MS_part_22 : decode prog_15_method_8_code 22 = .ok (.goto 4, 3) := by decide +kernel
theorem d_MS_part_25 : decode prog_15_method_8_code 25 = .ok (.iconst 0, 1) := by decide +kernel
theorem d_MS_part_26 : decode prog_15_method_8_code 26 = .ok (.putfield 21, 3) := by decide +kernel
theorem d_MS_part_29 : decode prog_15_method_8_code 29 = .ok (.aload_n 0, 1) := by decide +kernel
theorem d_MS_part_30 : decode prog_15_method_8_code 30 = .ok (.getfield 21, 3) := by decide +kernel
theorem d_MS_part_33 : decode prog_15_method_8_code 33 = .ok (.ifCond .le 5, 3) := by decide +kernel
theorem d_MS_part_36 : decode prog_15_method_8_code 36 = .ok (.iconst 0, 1) := by decide +kernel
theorem d_MS_part_37 : decode prog_15_method_8_code 37 = .ok (.ireturn, 1) := by decide +kernel
theorem d_MS_part_38 : decode prog_15_method_8_code 38 = .ok (.iload_n 2, 1) := by decide +kernel
theorem d_MS_part_39 : decode prog_15_method_8_code 39 = .ok (.ifCond .ne 12, 3) := by decide +kernel
theorem d_MS_part_42 : decode prog_15_method_8_code 42 = .ok (.aload_n 0, 1) := by decide +kernel
theorem d_MS_part_43 : decode prog_15_method_8_code 43 = .ok (.getfield 13, 3) := by decide +kernel
theorem d_MS_part_46 : decode prog_15_method_8_code 46 = .ok (.iload_n 1, 1) := by decide +kernel
theorem d_MS_part_47 : decode prog_15_method_8_code 47 = .ok (.iaload, 1) := by decide +kernel
theorem d_MS_part_48 : decode prog_15_method_8_code 48 = .ok (.goto 28, 3) := by decide +kernel
theorem d_MS_part_51 : decode prog_15_method_8_code 51 = .ok (.iload_n 2, 1) := by decide +kernel
theorem d_MS_part_52 : decode prog_15_method_8_code 52 = .ok (.iconst 1, 1) := by decide +kernel
theorem d_MS_part_53 : decode prog_15_method_8_code 53 = .ok (.if_icmp .ne 16, 3) := by decide +kernel
theorem d_MS_part_56 : decode prog_15_method_8_code 56 = .ok (.aload_n 0, 1) := by decide +kernel
theorem d_MS_part_57 : decode prog_15_method_8_code 57 = .ok (.getfield 17, 3) := by decide +kernel
theorem d_MS_part_60 : decode prog_15_method_8_code 60 = .ok (.iload_n 1, 1) := by decide +kernel
theorem d_MS_part_61 : decode prog_15_method_8_code 61 = .ok (.laload, 1) := by decide +kernel
theorem d_MS_part_62 : decode prog_15_method_8_code 62 = .ok (.bipush 32, 2) := by decide +kernel
theorem d_MS_part_64 : decode prog_15_method_8_code 64 = .ok (.lshr, 1) := by decide +kernel
theorem d_MS_part_65 : decode prog_15_method_8_code 65 = .ok (.l2i, 1) := by decide +kernel
theorem d_MS_part_66 : decode prog_15_method_8_code 66 = .ok (.goto 10, 3) := by decide +kernel
theorem d_MS_part_69 : decode prog_15_method_8_code 69 = .ok (.aload_n 0, 1) := by decide +kernel
theorem d_MS_part_70 : decode prog_15_method_8_code 70 = .ok (.getfield 17, 3) := by decide +kernel
theorem d_MS_part_73 : decode prog_15_method_8_code 73 = .ok (.iload_n 1, 1) := by decide +kernel
theorem d_MS_part_74 : decode prog_15_method_8_code 74 = .ok (.laload, 1) := by decide +kernel
theorem d_MS_part_75 : decode prog_15_method_8_code 75 = .ok (.l2i, 1) := by decide +kernel
theorem d_MS_part_76 : decode prog_15_method_8_code 76 = .ok (.ireturn, 1) := by decide +kernel
theorem d_MS_begin_0 : decode prog_15_method_19_code 0 = .ok (.aload_n 0, 1) := by decide +kernel
theorem d_MS_begin_1 : decode prog_15_method_19_code 1 = .ok (.iconst 0, 1) := by decide +kernel
theorem d_MS_begin_2 : decode prog_15_method_19_code 2 = .ok (.putfield 72, 3) := by decide +kernel
theorem d_MS_begin_5 : decode prog_15_method_19_code 5 = .ok (.aload_n 0, 1) := by decide +kernel
theorem d_MS_begin_6 : decode prog_15_method_19_code 6 = .ok (.iconst 0, 1) := by decide +kernel
theorem d_MS_begin_7 : decode prog_15_method_19_code 7 = .ok (.putfield 68, 3) := by decide +kernel
theorem d_MS_begin_10 : decode prog_15_method_19_code 10 = .ok (.return_, 1) := by decide +kernel
theorem d_MS_kind_0 : decode prog_15_method_11_code 0 = .ok (.aload_n 0, 1) := by decide +kernel
theorem d_MS_kind_1 : decode prog_15_method_11_code 1 = .ok (.getfield 13, 3) := by decide +kernel
theorem d_MS_kind_4 : decode prog_15_method_11_code 4 = .ok (.iload_n 1, 1) := by decide +kernel
theorem d_MS_kind_5 : decode prog_15_method_11_code 5 = .ok (.iaload, 1) := by decide +kernel
theorem d_MS_kind_6 : decode prog_15_method_11_code 6 = .ok (.ldc 33, 2) := by decide +kernel
theorem d_MS_kind_8 : decode prog_15_method_11_code 8 = .ok (.irem, 1) := by decide +kernel
theorem d_MS_kind_9 : decode prog_15_method_11_code 9 = .ok (.istore_n 2, 1) := by decide +kernel
theorem d_MS_kind_10 : decode prog_15_method_11_code 10 = .ok (.aload_n 0, 1) := by decide +kernel
theorem d_MS_kind_11 : decode prog_15_method_11_code 11 = .ok (.getfield 17, 3) := by decide +kernel
theorem d_MS_kind_14 : decode prog_15_method_11_code 14 = .ok (.iload_n 1, 1) := by decide +kernel
theorem d_MS_kind_15 : decode prog_15_method_11_code 15 = .ok (.laload, 1) := by decide +kernel
theorem d_MS_kind_16 : decode prog_15_method_11_code 16 = .ok (.lconst 0, 1) := by decide +kernel
theorem d_MS_kind_17 : decode prog_15_method_11_code 17 = .ok (.lcmp, 1) := by decide +kernel
theorem d_MS_kind_18 : decode prog_15_method_11_code 18 = .ok (.ifCond .eq 16, 3) := by decide +kernel
theorem d_MS_kind_21 : decode prog_15_method_11_code 21 = .ok (.aload_n 0, 1) := by decide +kernel
theorem d_MS_kind_22 : decode prog_15_method_11_code 22 = .ok (.getfield 17, 3) := by decide +kernel
theorem d_MS_kind_25 : decode prog_15_method_11_code 25 = .ok (.iload_n 1, 1) := by decide +kernel
theorem d_MS_kind_26 : decode prog_15_method_11_code 26 = .ok (.laload, 1) := by decide +kernel
theorem d_MS_kind_27 : decode prog_15_method_11_code 27 = .ok (.ldc2_w 34, 3) := by decide +kernel
theorem d_MS_kind_30 : decode prog_15_method_11_code 30 = .ok (.lcmp, 1) := by decide +kernel
theorem d_MS_kind_31 : decode prog_15_method_11_code 31 = .ok (.ifCond .ne 7, 3) := by decide +kernel
theorem d_MS_kind_34 : decode prog_15_method_11_code 34 = .ok (.iconst 1, 1) := by decide +kernel
theorem d_MS_kind_35 : decode prog_15_method_11_code 35 = .ok (.goto 4, 3) := by decide +kernel
theorem d_MS_kind_38 : decode prog_15_method_11_code 38 = .ok (.iconst 0, 1) := by decide +kernel
theorem d_MS_kind_39 : decode prog_15_method_11_code 39 = .ok (.istore_n 3, 1) := by decide +kernel
theorem d_MS_kind_40 : decode prog_15_method_11_code 40 = .ok (.iload_n 2, 1) := by decide +kernel
theorem d_MS_kind_41 : decode prog_15_method_11_code 41 = .ok (.sipush 32767, 3) := by decide +kernel
theorem d_MS_kind_44 : decode prog_15_method_11_code 44 = .ok (.if_icmp .ne 13, 3) := by decide +kernel
theorem d_MS_kind_47 : decode prog_15_method_11_code 47 = .ok (.iload_n 3, 1) := by decide +kernel
theorem d_MS_kind_48 : decode prog_15_method_11_code 48 = .ok (.ifCond .eq 7, 3) := by decide +kernel
theorem d_MS_kind_51 : decode prog_15_method_11_code 51 = .ok (.iconst 4, 1) := by decide +kernel
theorem d_MS_kind_52 : decode prog_15_method_11_code 52 = .ok (.goto 4, 3) := by decide +kernel
theorem d_MS_kind_55 : decode prog_15_method_11_code 55 = .ok (.iconst 5, 1) := by decide +kernel
theorem d_MS_kind_56 : decode prog_15_method_11_code 56 = .ok (.ireturn, 1) := by decide +kernel
theorem d_MS_kind_57 : decode prog_15_method_11_code 57 = .ok (.iload_n 2, 1) := by decide +kernel
theorem d_MS_kind_58 : decode prog_15_method_11_code 58 = .ok (.ifCond .ne 20, 3) := by decide +kernel
theorem d_MS_kind_61 : decode prog_15_method_11_code 61 = .ok (.aload_n 0, 1) := by decide +kernel
theorem d_MS_kind_62 : decode prog_15_method_11_code 62 = .ok (.getfield 17, 3) := by decide +kernel
theorem d_MS_kind_65 : decode prog_15_method_11_code 65 = .ok (.iload_n 1, 1) := by decide +kernel
theorem d_MS_kind_66 : decode prog_15_method_11_code 66 = .ok (.laload, 1) := by decide +kernel
theorem d_MS_kind_67 : decode prog_15_method_11_code 67 = .ok (.lconst 0, 1) := by decide +kernel
theorem d_MS_kind_68 : decode prog_15_method_11_code 68 = .ok (.lcmp, 1) := by decide +kernel
theorem d_MS_kind_69 : decode prog_15_method_11_code 69 = .ok (.ifCond .ne 7, 3) := by decide +kernel
theorem d_MS_kind_72 : decode prog_15_method_11_code 72 = .ok (.iconst 0, 1) := by decide +kernel
theorem d_MS_kind_73 : decode prog_15_method_11_code 73 = .ok (.goto 4, 3) := by decide +kernel
theorem d_MS_kind_76 : decode prog_15_method_11_code 76 = .ok (.iconst 1, 1) := by decide +kernel
theorem d_MS_kind_77 : decode prog_15_method_11_code 77 = .ok (.ireturn, 1) := by decide +kernel
theorem d_MS_kind_78 : decode prog_15_method_11_code 78 = .ok (.aload_n 0, 1) := by decide +kernel
theorem d_MS_kind_79 : decode prog_15_method_11_code 79 = .ok (.getfield 17, 3) := by decide +kernel
theorem d_MS_kind_82 : decode prog_15_method_11_code 82 = .ok (.iload_n 1, 1) := by decide +kernel
theorem d_MS_kind_83 : decode prog_15_method_11_code 83 = .ok (.laload, 1) := by decide +kernel
theorem d_MS_kind_84 : decode prog_15_method_11_code 84 = .ok (.lconst 0, 1) := by decide +kernel
theorem d_MS_kind_85 : decode prog_15_method_11_code 85 = .ok (.lcmp, 1) := by decide +kernel
theorem d_MS_kind_86 : decode prog_15_method_11_code 86 = .ok (.ifCond .ge 7, 3) := by decide +kernel
theorem d_MS_kind_89 : decode prog_15_method_11_code 89 = .ok (.iconst 3, 1) := by decide +kernel
theorem d_MS_kind_90 : decode prog_15_method_11_code 90 = .ok (.goto 4, 3) := by decide +kernel
theorem d_MS_kind_93 : decode prog_15_method_11_code 93 = .ok (.iconst 2, 1) := by decide +kernel
theorem d_MS_kind_94 : decode prog_15_method_11_code 94 = .ok (.ireturn, 1) := by decide +kernel
theorem d_MS_masked_0 : decode prog_15_method_4_code 0 = .ok (.aload_n 0, 1) := by decide +kernel
theorem d_MS_masked_1 : decode prog_15_method_4_code 1 = .ok (.getfield 7, 3) := by decide +kernel
theorem d_MS_masked_4 : decode prog_15_method_4_code 4 = .ok (.iload_n 1, 1) := by decide +kernel
theorem d_MS_masked_5 : decode prog_15_method_4_code 5 = .ok (.idiv, 1) := by decide +kernel
theorem d_MS_masked_6 : decode prog_15_method_4_code 6 = .ok (.iconst 2, 1) := by decide +kernel
theorem d_MS_masked_7 : decode prog_15_method_4_code 7 = .ok (.irem, 1) := by decide +kernel
theorem d_MS_masked_8 : decode prog_15_method_4_code 8 = .ok (.iconst 1, 1) := by decide +kernel
theorem d_MS_masked_9 : decode prog_15_method_4_code 9 = .ok (.if_icmp .ne 7, 3) := by decide +kernel
theorem d_MS_masked_12 : decode prog_15_method_4_code 12 = .ok (.iconst 1, 1) := by decide +kernel
theorem d_MS_masked_13 : decode prog_15_method_4_code 13 = .ok (.goto 4, 3) := by decide +kernel
theorem d_MS_masked_16 : decode prog_15_method_4_code 16 = .ok (.iconst 0, 1) := by decide +kernel
theorem d_MS_masked_17 : decode prog_15_method_4_code 17 = .ok (.ireturn, 1) := by decide +kernel
theorem d_MS_lessSize_0 : decode prog_15_method_16_code 0 = .ok (.lload_n 0, 1) := by decide +kernel
theorem d_MS_lessSize_1 : decode prog_15_method_16_code 1 = .ok (.ldc2_w 34, 3) := by decide +kernel
theorem d_MS_lessSize_4 : decode prog_15_method_16_code 4 = .ok (.ladd, 1) := by decide +kernel
theorem d_MS_lessSize_5 : decode prog_15_method_16_code 5 = .ok (.lload_n 2, 1) := by decide +kernel
theorem d_MS_lessSize_6 : decode prog_15_method_16_code 6 = .ok (.ldc2_w 34, 3) := by decide +kernel
theorem d_MS_lessSize_9 : decode prog_15_method_16_code 9 = .ok (.ladd, 1) := by decide +kernel
theorem d_MS_lessSize_10 : decode prog_15_method_16_code 10 = .ok (.lcmp, 1) := by decide +kernel
theorem d_MS_lessSize_11 : decode prog_15_method_16_code 11 = .ok (.ifCond .ge 7, 3) := by decide +kernel
theorem d_MS_lessSize_14 : decode prog_15_method_16_code 14 = .ok (.iconst 1, 1) := by decide +kernel
theorem d_MS_lessSize_15 : decode prog_15_method_16_code 15 = .ok (.goto 4, 3) := by decide +kernel
theorem d_MS_lessSize_18 : decode prog_15_method_16_code 18 = .ok (.iconst 0, 1) := by decide +kernel
theorem d_MS_lessSize_19 : decode prog_15_method_16_code 19 = .ok (.ireturn, 1) := by decide +kernel
theorem d_MS_minus_0 : decode prog_15_method_12_code 0 = .ok (.aload_n 0, 1) := by decide +kernel
theorem d_MS_minus_1 : decode prog_15_method_12_code 1 = .ok (.getfield 13, 3) := by decide +kernel
theorem d_MS_minus_4 : decode prog_15_method_12_code 4 = .ok (.iload_n 1, 1) := by decide +kernel
theorem d_MS_minus_5 : decode prog_15_method_12_code 5 = .ok (.iaload, 1) := by decide +kernel
theorem d_MS_minus_6 : decode prog_15_method_12_code 6 = .ok (.sipush 32767, 3) := by decide +kernel
theorem d_MS_minus_9 : decode prog_15_method_12_code 9 = .ok (.if_icmp .le 7, 3) := by decide +kernel
theorem d_MS_minus_12 : decode prog_15_method_12_code 12 = .ok (.iconst 1, 1) := by decide +kernel
theorem d_MS_minus_13 : decode prog_15_method_12_code 13 = .ok (.goto 4, 3) := by decide +kernel
theorem d_MS_minus_16 : decode prog_15_method_12_code 16 = .ok (.iconst 0, 1) := by decide +kernel
theorem d_MS_minus_17 : decode prog_15_method_12_code 17 = .ok (.ireturn, 1) := by decide +kernel
theorem d_MS_tell_0 : decode prog_15_method_18_code 0 = .ok (.aload_n 0, 1) := by decide +kernel
theorem d_MS_tell_1 : decode prog_15_method_18_code 1 = .ok (.aload_n 0, 1) := by decide +kernel
theorem d_MS_tell_2 : decode prog_15_method_18_code 2 = .ok (.getfield 72, 3) := by decide +kernel
theorem d_MS_tell_5 : decode prog_15_method_18_code 5 = .ok (.iload_n 1, 1) := by decide +kernel
theorem d_MS_tell_6 : decode prog_15_method_18_code 6 = .ok (.idiv, 1) := by decide +kernel
theorem d_MS_tell_7 : decode prog_15_method_18_code 7 = .ok (.iconst 2, 1) := by decide +kernel
theorem d_MS_tell_8 : decode prog_15_method_18_code 8 = .ok (.irem, 1) := by decide +kernel
theorem d_MS_tell_9 : decode prog_15_method_18_code 9 = .ok (.iconst 1, 1) := by decide +kernel
theorem d_MS_tell_10 : decode prog_15_method_18_code 10 = .ok (.if_icmp .ne 10, 3) := by decide +kernel
theorem d_MS_tell_13 : decode prog_15_method_18_code 13 = .ok (.aload_n 0, 1) := by decide +kernel
theorem d_MS_tell_14 : decode prog_15_method_18_code 14 = .ok (.getfield 72, 3) := by decide +kernel
theorem d_MS_tell_17 : decode prog_15_method_18_code 17 = .ok (.goto 9, 3) := by decide +kernel
theorem d_MS_tell_20 : decode prog_15_method_18_code 20 = .ok (.aload_n 0, 1) := by decide +kernel
theorem d_MS_tell_21 : decode prog_15_method_18_code 21 = .ok (.getfield 72, 3) := by decide +kernel
theorem d_MS_tell_24 : decode prog_15_method_18_code 24 = .ok (.iload_n 1, 1) := by decide +kernel
theorem d_MS_tell_25 : decode prog_15_method_18_code 25 = .ok (.iadd, 1) := by decide +kernel
theorem d_MS_tell_26 : decode prog_15_method_18_code 26 = .ok (.putfield 72, 3) := by decide +kernel
theorem d_MS_tell_29 : decode prog_15_method_18_code 29 = .ok (.aload_n 0, 1) := by decide +kernel
theorem d_MS_tell_30 : decode prog_15_method_18_code 30 = .ok (.iload_n 1, 1) := by decide +kernel
theorem d_MS_tell_31 : decode prog_15_method_18_code 31 = .ok (.invokevirtual 75, 3) := by decide +kernel
theorem d_MS_tell_34 : decode prog_15_method_18_code 34 = .ok (.ireturn, 1) := by decide +kernel
theorem d_MS_answer_0 : decode prog_15_method_17_code 0 = .ok (.aload_n 0, 1) := by decide +kernel
theorem d_MS_answer_1 : decode prog_15_method_17_code 1 = .ok (.iload_n 1, 1) := by decide +kernel
theorem d_MS_answer_2 : decode prog_15_method_17_code 2 = .ok (.putfield 62, 3) := by decide +kernel
theorem d_MS_answer_5 : decode prog_15_method_17_code 5 = .ok (.aload_n 0, 1) := by decide +kernel
theorem d_MS_answer_6 : decode prog_15_method_17_code 6 = .ok (.lload_n 2, 1) := by decide +kernel
theorem d_MS_answer_7 : decode prog_15_method_17_code 7 = .ok (.putfield 65, 3) := by decide +kernel
theorem d_MS_answer_10 : decode prog_15_method_17_code 10 = .ok (.aload_n 0, 1) := by decide +kernel
theorem d_MS_answer_11 : decode prog_15_method_17_code 11 = .ok (.iconst 1, 1) := by decide +kernel
theorem d_MS_answer_12 : decode prog_15_method_17_code 12 = .ok (.putfield 68, 3) := by decide +kernel
theorem d_MS_answer_15 : decode prog_15_method_17_code 15 = .ok (.return_, 1) := by decide +kernel
theorem d_MS_goesOn_0 : decode prog_15_method_20_code 0 = .ok (.aload_n 0, 1) := by decide +kernel
theorem d_MS_goesOn_1 : decode prog_15_method_20_code 1 = .ok (.iload_n 1, 1) := by decide +kernel
theorem d_MS_goesOn_2 : decode prog_15_method_20_code 2 = .ok (.invokevirtual 46, 3) := by decide +kernel
theorem d_MS_goesOn_5 : decode prog_15_method_20_code 5 = .ok (.iconst 5, 1) := by decide +kernel
theorem d_MS_goesOn_6 : decode prog_15_method_20_code 6 = .ok (.if_icmp .ne 7, 3) := by decide +kernel
theorem d_MS_goesOn_9 : decode prog_15_method_20_code 9 = .ok (.iconst 1, 1) := by decide +kernel
theorem d_MS_goesOn_10 : decode prog_15_method_20_code 10 = .ok (.goto 4, 3) := by decide +kernel
theorem d_MS_goesOn_13 : decode prog_15_method_20_code 13 = .ok (.iconst 0, 1) := by decide +kernel
theorem d_MS_goesOn_14 : decode prog_15_method_20_code 14 = .ok (.istore 4, 2) := by decide +kernel
theorem d_MS_goesOn_16 : decode prog_15_method_20_code 16 = .ok (.iload_n 2, 1) := by decide +kernel
theorem d_MS_goesOn_17 : decode prog_15_method_20_code 17 = .ok (.ifCond .lt 16, 3) := by decide +kernel
theorem d_MS_goesOn_33 : decode prog_15_method_20_code 33 = .ok (.iconst 0, 1) := by decide +kernel
theorem d_MS_goesOn_34 : decode prog_15_method_20_code 34 = .ok (.istore 5, 2) := by decide +kernel
theorem d_MS_goesOn_36 : decode prog_15_method_20_code 36 = .ok (.iload 4, 2) := by decide +kernel
theorem d_MS_goesOn_38 : decode prog_15_method_20_code 38 = .ok (.ifCond .ne 8, 3) := by decide +kernel
theorem d_MS_goesOn_41 : decode prog_15_method_20_code 41 = .ok (.iload 5, 2) := by decide +kernel
theorem d_MS_goesOn_43 : decode prog_15_method_20_code 43 = .ok (.ifCond .eq 126, 3) := by decide +kernel
theorem d_MS_goesOn_46 : decode prog_15_method_20_code 46 = .ok (.iload 4, 2) := by decide +kernel
theorem d_MS_goesOn_48 : decode prog_15_method_20_code 48 = .ok (.ifCond .ne 7, 3) := by decide +kernel
theorem d_MS_goesOn_55 : decode prog_15_method_20_code 55 = .ok (.iconst 0, 1) := by decide +kernel
theorem d_MS_goesOn_56 : decode prog_15_method_20_code 56 = .ok (.istore 6, 2) := by decide +kernel
theorem d_MS_goesOn_58 : decode prog_15_method_20_code 58 = .ok (.iload 4, 2) := by decide +kernel
theorem d_MS_goesOn_60 : decode prog_15_method_20_code 60 = .ok (.ifCond .eq 65, 3) := by decide +kernel
theorem d_MS_goesOn_63 : decode prog_15_method_20_code 63 = .ok (.iload 5, 2) := by decide +kernel
theorem d_MS_goesOn_65 : decode prog_15_method_20_code 65 = .ok (.ifCond .eq 60, 3) := by decide +kernel
theorem d_MS_goesOn_125 : decode prog_15_method_20_code 125 = .ok (.aload_n 0, 1) := by decide +kernel
theorem d_MS_goesOn_126 : decode prog_15_method_20_code 126 = .ok (.iconst 1, 1) := by decide +kernel
theorem d_MS_goesOn_127 : decode prog_15_method_20_code 127 = .ok (.invokevirtual 85, 3) := by decide +kernel
theorem d_MS_goesOn_130 : decode prog_15_method_20_code 130 = .ok (.ifCond .eq 37, 3) := by decide +kernel
theorem d_MS_goesOn_133 : decode prog_15_method_20_code 133 = .ok (.aload_n 0, 1) := by decide +kernel
theorem d_MS_goesOn_134 : decode prog_15_method_20_code 134 = .ok (.aload_n 0, 1) := by decide +kernel
theorem d_MS_goesOn_135 : decode prog_15_method_20_code 135 = .ok (.getfield 13, 3) := by decide +kernel
theorem d_MS_goesOn_138 : decode prog_15_method_20_code 138 = .ok (.iload 6, 2) := by decide +kernel
theorem d_MS_goesOn_140 : decode prog_15_method_20_code 140 = .ok (.ifCond .eq 7, 3) := by decide +kernel
theorem d_MS_goesOn_147 : decode prog_15_method_20_code 147 = .ok (.iload_n 1, 1) := by decide +kernel
theorem d_MS_goesOn_148 : decode prog_15_method_20_code 148 = .ok (.iaload, 1) := by decide +kernel
theorem d_MS_goesOn_149 : decode prog_15_method_20_code 149 = .ok (.aload_n 0, 1) := by decide +kernel
theorem d_MS_goesOn_150 : decode prog_15_method_20_code 150 = .ok (.getfield 17, 3) := by decide +kernel
theorem d_MS_goesOn_153 : decode prog_15_method_20_code 153 = .ok (.iload 6, 2) := by decide +kernel
theorem d_MS_goesOn_155 : decode prog_15_method_20_code 155 = .ok (.ifCond .eq 7, 3) := by decide +kernel
theorem d_MS_goesOn_162 : decode prog_15_method_20_code 162 = .ok (.iload_n 1, 1) := by decide +kernel
theorem d_MS_goesOn_163 : decode prog_15_method_20_code 163 = .ok (.laload, 1) := by decide +kernel
theorem d_MS_goesOn_164 : decode prog_15_method_20_code 164 = .ok (.invokevirtual 88, 3) := by decide +kernel
theorem d_MS_goesOn_167 : decode prog_15_method_20_code 167 = .ok (.iconst 0, 1) := by decide +kernel
theorem d_MS_goesOn_168 : decode prog_15_method_20_code 168 = .ok (.ireturn, 1) := by decide +kernel
theorem d_MS_goesOn_169 : decode prog_15_method_20_code 169 = .ok (.iload_n 3, 1) := by decide +kernel
theorem d_MS_goesOn_170 : decode prog_15_method_20_code 170 = .ok (.ifCond .ne 22, 3) := by decide +kernel
theorem d_MS_goesOn_173 : decode prog_15_method_20_code 173 = .ok (.aload_n 0, 1) := by decide +kernel
theorem d_MS_goesOn_174 : decode prog_15_method_20_code 174 = .ok (.iconst 1, 1) := by decide +kernel
theorem d_MS_goesOn_175 : decode prog_15_method_20_code 175 = .ok (.invokevirtual 85, 3) := by decide +kernel
theorem d_MS_goesOn_178 : decode prog_15_method_20_code 178 = .ok (.ifCond .eq 12, 3) := by decide +kernel
theorem d_MS_goesOn_181 : decode prog_15_method_20_code 181 = .ok (.aload_n 0, 1) := by decide +kernel
theorem d_MS_goesOn_182 : decode prog_15_method_20_code 182 = .ok (.ldc 24, 2) := by decide +kernel
theorem d_MS_goesOn_184 : decode prog_15_method_20_code 184 = .ok (.ldc2_w 92, 3) := by decide +kernel
theorem d_MS_goesOn_187 : decode prog_15_method_20_code 187 = .ok (.invokevirtual 88, 3) := by decide +kernel
theorem d_MS_goesOn_190 : decode prog_15_method_20_code 190 = .ok (.iconst 0, 1) := by decide +kernel
theorem d_MS_goesOn_191 : decode prog_15_method_20_code 191 = .ok (.ireturn, 1) := by decide +kernel
theorem d_MS_goesOn_192 : decode prog_15_method_20_code 192 = .ok (.aload_n 0, 1) := by decide +kernel
theorem d_MS_goesOn_193 : decode prog_15_method_20_code 193 = .ok (.iload_n 1, 1) := by decide +kernel
theorem d_MS_goesOn_194 : decode prog_15_method_20_code 194 = .ok (.invokevirtual 46, 3) := by decide +kernel
theorem d_MS_goesOn_197 : decode prog_15_method_20_code 197 = .ok (.iconst 1, 1) := by decide +kernel
theorem d_MS_goesOn_198 : decode prog_15_method_20_code 198 = .ok (.if_icmp .eq 16, 3) := by decide +kernel
theorem d_MS_goesOn_201 : decode prog_15_method_20_code 201 = .ok (.iload_n 2, 1) := by decide +kernel
theorem d_MS_goesOn_202 : decode prog_15_method_20_code 202 = .ok (.ifCond .lt 16, 3) := by decide +kernel
theorem d_MS_goesOn_214 : decode prog_15_method_20_code 214 = .ok (.iconst 1, 1) := by decide +kernel
theorem d_MS_goesOn_215 : decode prog_15_method_20_code 215 = .ok (.goto 4, 3) := by decide +kernel
theorem d_MS_goesOn_218 : decode prog_15_method_20_code 218 = .ok (.iconst 0, 1) := by decide +kernel
theorem d_MS_goesOn_219 : decode prog_15_method_20_code 219 = .ok (.istore 6, 2) := by decide +kernel
theorem d_MS_goesOn_221 : decode prog_15_method_20_code 221 = .ok (.iload 6, 2) := by decide +kernel
theorem d_MS_goesOn_223 : decode prog_15_method_20_code 223 = .ok (.ifCond .eq 11, 3) := by decide +kernel
theorem d_MS_goesOn_226 : decode prog_15_method_20_code 226 = .ok (.aload_n 0, 1) := by decide +kernel
theorem d_MS_goesOn_227 : decode prog_15_method_20_code 227 = .ok (.iconst 2, 1) := by decide +kernel
theorem d_MS_goesOn_228 : decode prog_15_method_20_code 228 = .ok (.invokevirtual 85, 3) := by decide +kernel
theorem d_MS_goesOn_231 : decode prog_15_method_20_code 231 = .ok (.ifCond .eq 7, 3) := by decide +kernel
theorem d_MS_goesOn_234 : decode prog_15_method_20_code 234 = .ok (.iconst 1, 1) := by decide +kernel
theorem d_MS_goesOn_235 : decode prog_15_method_20_code 235 = .ok (.goto 4, 3) := by decide +kernel
theorem d_MS_goesOn_238 : decode prog_15_method_20_code 238 = .ok (.iconst 0, 1) := by decide +kernel
theorem d_MS_goesOn_239 : decode prog_15_method_20_code 239 = .ok (.ireturn, 1) := by decide +kernel
theorem d_MS_goesOn_20 : decode prog_15_method_20_code 20 = .ok (.aload_n 0, 1) := by decide +kernel
theorem d_MS_goesOn_21 : decode prog_15_method_20_code 21 = .ok (.iload_n 2, 1) := by decide +kernel
theorem d_MS_goesOn_22 : decode prog_15_method_20_code 22 = .ok (.invokevirtual 46, 3) := by decide +kernel
theorem d_MS_goesOn_25 : decode prog_15_method_20_code 25 = .ok (.iconst 5, 1) := by decide +kernel
theorem d_MS_goesOn_26 : decode prog_15_method_20_code 26 = .ok (.if_icmp .ne 7, 3) := by decide +kernel
theorem d_MS_goesOn_29 : decode prog_15_method_20_code 29 = .ok (.iconst 1, 1) := by decide +kernel
theorem d_MS_goesOn_30 : decode prog_15_method_20_code 30 = .ok (.goto 4, 3) := by decide +kernel
theorem d_MS_goesOn_51 : decode prog_15_method_20_code 51 = .ok (.iconst 1, 1) := by decide +kernel
theorem d_MS_goesOn_52 : decode prog_15_method_20_code 52 = .ok (.goto 4, 3) := by decide +kernel
theorem d_MS_goesOn_68 : decode prog_15_method_20_code 68 = .ok (.aload_n 0, 1) := by decide +kernel
theorem d_MS_goesOn_69 : decode prog_15_method_20_code 69 = .ok (.getfield 17, 3) := by decide +kernel
theorem d_MS_goesOn_72 : decode prog_15_method_20_code 72 = .ok (.iload_n 1, 1) := by decide +kernel
theorem d_MS_goesOn_73 : decode prog_15_method_20_code 73 = .ok (.laload, 1) := by decide +kernel
theorem d_MS_goesOn_74 : decode prog_15_method_20_code 74 = .ok (.aload_n 0, 1) := by decide +kernel
theorem d_MS_goesOn_75 : decode prog_15_method_20_code 75 = .ok (.getfield 17, 3) := by decide +kernel
theorem d_MS_goesOn_78 : decode prog_15_method_20_code 78 = .ok (.iload_n 2, 1) := by decide +kernel
theorem d_MS_goesOn_79 : decode prog_15_method_20_code 79 = .ok (.laload, 1) := by decide +kernel
theorem d_MS_goesOn_80 : decode prog_15_method_20_code 80 = .ok (.invokestatic 78, 3) := by decide +kernel
theorem d_MS_goesOn_83 : decode prog_15_method_20_code 83 = .ok (.ifCond .ne 35, 3) := by decide +kernel
theorem d_MS_goesOn_86 : decode prog_15_method_20_code 86 = .ok (.aload_n 0, 1) := by decide +kernel
theorem d_MS_goesOn_87 : decode prog_15_method_20_code 87 = .ok (.getfield 17, 3) := by decide +kernel
theorem d_MS_goesOn_90 : decode prog_15_method_20_code 90 = .ok (.iload_n 1, 1) := by decide +kernel
theorem d_MS_goesOn_91 : decode prog_15_method_20_code 91 = .ok (.laload, 1) := by decide +kernel
theorem d_MS_goesOn_92 : decode prog_15_method_20_code 92 = .ok (.aload_n 0, 1) := by decide +kernel
theorem d_MS_goesOn_93 : decode prog_15_method_20_code 93 = .ok (.getfield 17, 3) := by decide +kernel
theorem d_MS_goesOn_96 : decode prog_15_method_20_code 96 = .ok (.iload_n 2, 1) := by decide +kernel
theorem d_MS_goesOn_97 : decode prog_15_method_20_code 97 = .ok (.laload, 1) := by decide +kernel
theorem d_MS_goesOn_98 : decode prog_15_method_20_code 98 = .ok (.lcmp, 1) := by decide +kernel
theorem d_MS_goesOn_99 : decode prog_15_method_20_code 99 = .ok (.ifCond .ne 23, 3) := by decide +kernel
theorem d_MS_goesOn_102 : decode prog_15_method_20_code 102 = .ok (.aload_n 0, 1) := by decide +kernel
theorem d_MS_goesOn_103 : decode prog_15_method_20_code 103 = .ok (.iload_n 1, 1) := by decide +kernel
theorem d_MS_goesOn_104 : decode prog_15_method_20_code 104 = .ok (.invokevirtual 82, 3) := by decide +kernel
theorem d_MS_goesOn_107 : decode prog_15_method_20_code 107 = .ok (.ifCond .eq 15, 3) := by decide +kernel
theorem d_MS_goesOn_110 : decode prog_15_method_20_code 110 = .ok (.aload_n 0, 1) := by decide +kernel
theorem d_MS_goesOn_111 : decode prog_15_method_20_code 111 = .ok (.iload_n 2, 1) := by decide +kernel
theorem d_MS_goesOn_112 : decode prog_15_method_20_code 112 = .ok (.invokevirtual 82, 3) := by decide +kernel
theorem d_MS_goesOn_115 : decode prog_15_method_20_code 115 = .ok (.ifCond .ne 7, 3) := by decide +kernel
theorem d_MS_goesOn_118 : decode prog_15_method_20_code 118 = .ok (.iconst 1, 1) := by decide +kernel
theorem d_MS_goesOn_119 : decode prog_15_method_20_code 119 = .ok (.goto 4, 3) := by decide +kernel
theorem d_MS_goesOn_122 : decode prog_15_method_20_code 122 = .ok (.iconst 0, 1) := by decide +kernel
theorem d_MS_goesOn_123 : decode prog_15_method_20_code 123 = .ok (.istore 6, 2) := by decide +kernel
theorem d_MS_goesOn_143 : decode prog_15_method_20_code 143 = .ok (.iload_n 2, 1) := by decide +kernel
theorem d_MS_goesOn_144 : decode prog_15_method_20_code 144 = .ok (.goto 4, 3) := by decide +kernel
theorem d_MS_goesOn_158 : decode prog_15_method_20_code 158 = .ok (.iload_n 2, 1) := by decide +kernel
theorem d_MS_goesOn_159 : decode prog_15_method_20_code 159 = .ok (.goto 4, 3) := by decide +kernel
theorem d_MS_goesOn_205 : decode prog_15_method_20_code 205 = .ok (.aload_n 0, 1) := by decide +kernel
theorem d_MS_goesOn_206 : decode prog_15_method_20_code 206 = .ok (.iload_n 2, 1) := by decide +kernel
theorem d_MS_goesOn_207 : decode prog_15_method_20_code 207 = .ok (.invokevirtual 46, 3) := by decide +kernel
theorem d_MS_goesOn_210 : decode prog_15_method_20_code 210 = .ok (.iconst 1, 1) := by decide +kernel
theorem d_MS_goesOn_211 : decode prog_15_method_20_code 211 = .ok (.if_icmp .ne 7, 3) := by decide +kernel
theorem d_MS_nothing_0 : decode prog_15_method_13_code 0 = .ok (.aload_n 0, 1) := by decide +kernel
theorem d_MS_nothing_1 : decode prog_15_method_13_code 1 = .ok (.iload_n 1, 1) := by decide +kernel
theorem d_MS_nothing_2 : decode prog_15_method_13_code 2 = .ok (.invokevirtual 46, 3) := by decide +kernel
theorem d_MS_nothing_5 : decode prog_15_method_13_code 5 = .ok (.iconst 3, 1) := by decide +kernel
theorem d_MS_nothing_6 : decode prog_15_method_13_code 6 = .ok (.if_icmp .ge 18, 3) := by decide +kernel
theorem d_MS_nothing_9 : decode prog_15_method_13_code 9 = .ok (.aload_n 0, 1) := by decide +kernel
theorem d_MS_nothing_10 : decode prog_15_method_13_code 10 = .ok (.getfield 17, 3) := by decide +kernel
theorem d_MS_nothing_13 : decode prog_15_method_13_code 13 = .ok (.iload_n 1, 1) := by decide +kernel
theorem d_MS_nothing_14 : decode prog_15_method_13_code 14 = .ok (.laload, 1) := by decide +kernel
theorem d_MS_nothing_15 : decode prog_15_method_13_code 15 = .ok (.lconst 0, 1) := by decide +kernel
theorem d_MS_nothing_16 : decode prog_15_method_13_code 16 = .ok (.lcmp, 1) := by decide +kernel
theorem d_MS_nothing_17 : decode prog_15_method_13_code 17 = .ok (.ifCond .ne 7, 3) := by decide +kernel
theorem d_MS_nothing_20 : decode prog_15_method_13_code 20 = .ok (.iconst 1, 1) := by decide +kernel
theorem d_MS_nothing_21 : decode prog_15_method_13_code 21 = .ok (.goto 4, 3) := by decide +kernel
theorem d_MS_nothing_24 : decode prog_15_method_13_code 24 = .ok (.iconst 0, 1) := by decide +kernel
theorem d_MS_nothing_25 : decode prog_15_method_13_code 25 = .ok (.ireturn, 1) := by decide +kernel
theorem d_MS_unit_0 : decode prog_15_method_14_code 0 = .ok (.aload_n 0, 1) := by decide +kernel
theorem d_MS_unit_1 : decode prog_15_method_14_code 1 = .ok (.getfield 13, 3) := by decide +kernel
theorem d_MS_unit_4 : decode prog_15_method_14_code 4 = .ok (.iload_n 1, 1) := by decide +kernel
theorem d_MS_unit_5 : decode prog_15_method_14_code 5 = .ok (.iaload, 1) := by decide +kernel
theorem d_MS_unit_6 : decode prog_15_method_14_code 6 = .ok (.ldc 33, 2) := by decide +kernel
theorem d_MS_unit_8 : decode prog_15_method_14_code 8 = .ok (.irem, 1) := by decide +kernel
theorem d_MS_unit_9 : decode prog_15_method_14_code 9 = .ok (.ifCond .ne 7, 3) := by decide +kernel
theorem d_MS_unit_12 : decode prog_15_method_14_code 12 = .ok (.iconst 1, 1) := by decide +kernel
theorem d_MS_unit_13 : decode prog_15_method_14_code 13 = .ok (.goto 12, 3) := by decide +kernel
theorem d_MS_unit_16 : decode prog_15_method_14_code 16 = .ok (.aload_n 0, 1) := by decide +kernel
theorem d_MS_unit_17 : decode prog_15_method_14_code 17 = .ok (.getfield 13, 3) := by decide +kernel
theorem d_MS_unit_20 : decode prog_15_method_14_code 20 = .ok (.iload_n 1, 1) := by decide +kernel
theorem d_MS_unit_21 : decode prog_15_method_14_code 21 = .ok (.iaload, 1) := by decide +kernel
theorem d_MS_unit_22 : decode prog_15_method_14_code 22 = .ok (.ldc 33, 2) := by decide +kernel
theorem d_MS_unit_24 : decode prog_15_method_14_code 24 = .ok (.irem, 1) := by decide +kernel
theorem d_MS_unit_25 : decode prog_15_method_14_code 25 = .ok (.sipush 16446, 3) := by decide +kernel
theorem d_MS_unit_28 : decode prog_15_method_14_code 28 = .ok (.isub, 1) := by decide +kernel
theorem d_MS_unit_29 : decode prog_15_method_14_code 29 = .ok (.ireturn, 1) := by decide +kernel
theorem d_MS_apart_0 : decode prog_15_method_15_code 0 = .ok (.aload_n 0, 1) := by decide +kernel
theorem d_MS_apart_1 : decode prog_15_method_15_code 1 = .ok (.aload_n 0, 1) := by decide +kernel
theorem d_MS_apart_2 : decode prog_15_method_15_code 2 = .ok (.getfield 17, 3) := by decide +kernel
theorem d_MS_apart_5 : decode prog_15_method_15_code 5 = .ok (.iload_n 1, 1) := by decide +kernel
theorem d_MS_apart_6 : decode prog_15_method_15_code 6 = .ok (.laload, 1) := by decide +kernel
theorem d_MS_apart_7 : decode prog_15_method_15_code 7 = .ok (.putfield 50, 3) := by decide +kernel
theorem d_MS_apart_10 : decode prog_15_method_15_code 10 = .ok (.aload_n 0, 1) := by decide +kernel
theorem d_MS_apart_11 : decode prog_15_method_15_code 11 = .ok (.aload_n 0, 1) := by decide +kernel
theorem d_MS_apart_12 : decode prog_15_method_15_code 12 = .ok (.iload_n 1, 1) := by decide +kernel
theorem d_MS_apart_13 : decode prog_15_method_15_code 13 = .ok (.invokevirtual 54, 3) := by decide +kernel
theorem d_MS_apart_16 : decode prog_15_method_15_code 16 = .ok (.bipush 63, 2) := by decide +kernel
theorem d_MS_apart_18 : decode prog_15_method_15_code 18 = .ok (.iadd, 1) := by decide +kernel
theorem d_MS_apart_19 : decode prog_15_method_15_code 19 = .ok (.putfield 57, 3) := by decide +kernel
theorem d_MS_apart_22 : decode prog_15_method_15_code 22 = .ok (.aload_n 0, 1) := by decide +kernel
theorem d_MS_apart_23 : decode prog_15_method_15_code 23 = .ok (.getfield 50, 3) := by decide +kernel
theorem d_MS_apart_26 : decode prog_15_method_15_code 26 = .ok (.lconst 0, 1) := by decide +kernel
theorem d_MS_apart_27 : decode prog_15_method_15_code 27 = .ok (.lcmp, 1) := by decide +kernel
theorem d_MS_apart_28 : decode prog_15_method_15_code 28 = .ok (.ifCond .le 28, 3) := by decide +kernel
theorem d_MS_apart_31 : decode prog_15_method_15_code 31 = .ok (.aload_n 0, 1) := by decide +kernel
theorem d_MS_apart_32 : decode prog_15_method_15_code 32 = .ok (.ldc2_w 60, 3) := by decide +kernel
theorem d_MS_apart_35 : decode prog_15_method_15_code 35 = .ok (.aload_n 0, 1) := by decide +kernel
theorem d_MS_apart_36 : decode prog_15_method_15_code 36 = .ok (.getfield 50, 3) := by decide +kernel
theorem d_MS_apart_39 : decode prog_15_method_15_code 39 = .ok (.lmul, 1) := by decide +kernel
theorem d_MS_apart_40 : decode prog_15_method_15_code 40 = .ok (.putfield 50, 3) := by decide +kernel
theorem d_MS_apart_43 : decode prog_15_method_15_code 43 = .ok (.aload_n 0, 1) := by decide +kernel
theorem d_MS_apart_44 : decode prog_15_method_15_code 44 = .ok (.dup, 1) := by decide +kernel
theorem d_MS_apart_45 : decode prog_15_method_15_code 45 = .ok (.getfield 57, 3) := by decide +kernel
theorem d_MS_apart_48 : decode prog_15_method_15_code 48 = .ok (.iconst 1, 1) := by decide +kernel
theorem d_MS_apart_49 : decode prog_15_method_15_code 49 = .ok (.isub, 1) := by decide +kernel
theorem d_MS_apart_50 : decode prog_15_method_15_code 50 = .ok (.putfield 57, 3) := by decide +kernel
theorem d_MS_apart_53 : decode prog_15_method_15_code 53 = .ok (.goto (-31), 3) := by decide +kernel
theorem d_MS_apart_56 : decode prog_15_method_15_code 56 = .ok (.return_, 1) := by decide +kernel
theorem d_MS_order_0 : decode prog_15_method_29_code 0 = .ok (.aload_n 0, 1) := by decide +kernel
theorem d_MS_order_1 : decode prog_15_method_29_code 1 = .ok (.iload_n 1, 1) := by decide +kernel
theorem d_MS_order_2 : decode prog_15_method_29_code 2 = .ok (.invokevirtual 126, 3) := by decide +kernel
theorem d_MS_order_5 : decode prog_15_method_29_code 5 = .ok (.ifCond .eq 7, 3) := by decide +kernel
theorem d_MS_order_8 : decode prog_15_method_29_code 8 = .ok (.iconst 0, 1) := by decide +kernel
theorem d_MS_order_9 : decode prog_15_method_29_code 9 = .ok (.goto 16, 3) := by decide +kernel
theorem d_MS_order_12 : decode prog_15_method_29_code 12 = .ok (.aload_n 0, 1) := by decide +kernel
theorem d_MS_order_13 : decode prog_15_method_29_code 13 = .ok (.iload_n 1, 1) := by decide +kernel
theorem d_MS_order_14 : decode prog_15_method_29_code 14 = .ok (.invokevirtual 82, 3) := by decide +kernel
theorem d_MS_order_17 : decode prog_15_method_29_code 17 = .ok (.ifCond .eq 7, 3) := by decide +kernel
theorem d_MS_order_20 : decode prog_15_method_29_code 20 = .ok (.iconst (-1), 1) := by decide +kernel
theorem d_MS_order_21 : decode prog_15_method_29_code 21 = .ok (.goto 4, 3) := by decide +kernel
theorem d_MS_order_24 : decode prog_15_method_29_code 24 = .ok (.iconst 1, 1) := by decide +kernel
theorem d_MS_order_25 : decode prog_15_method_29_code 25 = .ok (.istore 4, 2) := by decide +kernel
theorem d_MS_order_27 : decode prog_15_method_29_code 27 = .ok (.iload_n 2, 1) := by decide +kernel
theorem d_MS_order_28 : decode prog_15_method_29_code 28 = .ok (.ifCond .ne 11, 3) := by decide +kernel
theorem d_MS_order_39 : decode prog_15_method_29_code 39 = .ok (.iconst 0, 1) := by decide +kernel
theorem d_MS_order_40 : decode prog_15_method_29_code 40 = .ok (.goto 16, 3) := by decide +kernel
theorem d_MS_order_56 : decode prog_15_method_29_code 56 = .ok (.istore 5, 2) := by decide +kernel
theorem d_MS_order_58 : decode prog_15_method_29_code 58 = .ok (.aload_n 0, 1) := by decide +kernel
theorem d_MS_order_59 : decode prog_15_method_29_code 59 = .ok (.iload_n 1, 1) := by decide +kernel
theorem d_MS_order_60 : decode prog_15_method_29_code 60 = .ok (.invokevirtual 46, 3) := by decide +kernel
theorem d_MS_order_63 : decode prog_15_method_29_code 63 = .ok (.iconst 4, 1) := by decide +kernel
theorem d_MS_order_64 : decode prog_15_method_29_code 64 = .ok (.if_icmp .ne 7, 3) := by decide +kernel
theorem d_MS_order_67 : decode prog_15_method_29_code 67 = .ok (.iconst 1, 1) := by decide +kernel
theorem d_MS_order_68 : decode prog_15_method_29_code 68 = .ok (.goto 4, 3) := by decide +kernel
theorem d_MS_order_71 : decode prog_15_method_29_code 71 = .ok (.iconst 0, 1) := by decide +kernel
theorem d_MS_order_72 : decode prog_15_method_29_code 72 = .ok (.istore 6, 2) := by decide +kernel
theorem d_MS_order_74 : decode prog_15_method_29_code 74 = .ok (.iload_n 2, 1) := by decide +kernel
theorem d_MS_order_75 : decode prog_15_method_29_code 75 = .ok (.ifCond .ne 16, 3) := by decide +kernel
theorem d_MS_order_91 : decode prog_15_method_29_code 91 = .ok (.iconst 0, 1) := by decide +kernel
theorem d_MS_order_92 : decode prog_15_method_29_code 92 = .ok (.istore 7, 2) := by decide +kernel
theorem d_MS_order_94 : decode prog_15_method_29_code 94 = .ok (.iload 6, 2) := by decide +kernel
theorem d_MS_order_96 : decode prog_15_method_29_code 96 = .ok (.ifCond .eq 20, 3) := by decide +kernel
theorem d_MS_order_99 : decode prog_15_method_29_code 99 = .ok (.iload 7, 2) := by decide +kernel
theorem d_MS_order_101 : decode prog_15_method_29_code 101 = .ok (.ifCond .eq 15, 3) := by decide +kernel
theorem d_MS_order_116 : decode prog_15_method_29_code 116 = .ok (.iload 4, 2) := by decide +kernel
theorem d_MS_order_118 : decode prog_15_method_29_code 118 = .ok (.iload 5, 2) := by decide +kernel
theorem d_MS_order_120 : decode prog_15_method_29_code 120 = .ok (.if_icmp .eq 16, 3) := by decide +kernel
theorem d_MS_order_123 : decode prog_15_method_29_code 123 = .ok (.iload 4, 2) := by decide +kernel
theorem d_MS_order_125 : decode prog_15_method_29_code 125 = .ok (.iload 5, 2) := by decide +kernel
theorem d_MS_order_127 : decode prog_15_method_29_code 127 = .ok (.if_icmp .ge 7, 3) := by decide +kernel
theorem d_MS_order_130 : decode prog_15_method_29_code 130 = .ok (.iconst (-1), 1) := by decide +kernel
theorem d_MS_order_131 : decode prog_15_method_29_code 131 = .ok (.goto 4, 3) := by decide +kernel
theorem d_MS_order_134 : decode prog_15_method_29_code 134 = .ok (.iconst 1, 1) := by decide +kernel
theorem d_MS_order_135 : decode prog_15_method_29_code 135 = .ok (.ireturn, 1) := by decide +kernel
theorem d_MS_order_136 : decode prog_15_method_29_code 136 = .ok (.iload 4, 2) := by decide +kernel
theorem d_MS_order_138 : decode prog_15_method_29_code 138 = .ok (.ifCond .eq 13, 3) := by decide +kernel
theorem d_MS_order_151 : decode prog_15_method_29_code 151 = .ok (.iconst 0, 1) := by decide +kernel
theorem d_MS_order_152 : decode prog_15_method_29_code 152 = .ok (.ireturn, 1) := by decide +kernel
theorem d_MS_order_31 : decode prog_15_method_29_code 31 = .ok (.aload_n 0, 1) := by decide +kernel
theorem d_MS_order_32 : decode prog_15_method_29_code 32 = .ok (.iload_n 3, 1) := by decide +kernel
theorem d_MS_order_33 : decode prog_15_method_29_code 33 = .ok (.invokevirtual 126, 3) := by decide +kernel
theorem d_MS_order_36 : decode prog_15_method_29_code 36 = .ok (.ifCond .eq 7, 3) := by decide +kernel
theorem d_MS_order_43 : decode prog_15_method_29_code 43 = .ok (.aload_n 0, 1) := by decide +kernel
theorem d_MS_order_44 : decode prog_15_method_29_code 44 = .ok (.iload_n 3, 1) := by decide +kernel
theorem d_MS_order_45 : decode prog_15_method_29_code 45 = .ok (.invokevirtual 82, 3) := by decide +kernel
theorem d_MS_order_48 : decode prog_15_method_29_code 48 = .ok (.ifCond .eq 7, 3) := by decide +kernel
theorem d_MS_order_51 : decode prog_15_method_29_code 51 = .ok (.iconst (-1), 1) := by decide +kernel
theorem d_MS_order_52 : decode prog_15_method_29_code 52 = .ok (.goto 4, 3) := by decide +kernel
theorem d_MS_order_55 : decode prog_15_method_29_code 55 = .ok (.iconst 1, 1) := by decide +kernel
theorem d_MS_order_78 : decode prog_15_method_29_code 78 = .ok (.aload_n 0, 1) := by decide +kernel
theorem d_MS_order_79 : decode prog_15_method_29_code 79 = .ok (.iload_n 3, 1) := by decide +kernel
theorem d_MS_order_80 : decode prog_15_method_29_code 80 = .ok (.invokevirtual 46, 3) := by decide +kernel
theorem d_MS_order_83 : decode prog_15_method_29_code 83 = .ok (.iconst 4, 1) := by decide +kernel
theorem d_MS_order_84 : decode prog_15_method_29_code 84 = .ok (.if_icmp .ne 7, 3) := by decide +kernel
theorem d_MS_order_87 : decode prog_15_method_29_code 87 = .ok (.iconst 1, 1) := by decide +kernel
theorem d_MS_order_88 : decode prog_15_method_29_code 88 = .ok (.goto 4, 3) := by decide +kernel
theorem d_MS_order_104 : decode prog_15_method_29_code 104 = .ok (.aload_n 0, 1) := by decide +kernel
theorem d_MS_order_105 : decode prog_15_method_29_code 105 = .ok (.sipush 4096, 3) := by decide +kernel
theorem d_MS_order_108 : decode prog_15_method_29_code 108 = .ok (.invokevirtual 75, 3) := by decide +kernel
theorem d_MS_order_111 : decode prog_15_method_29_code 111 = .ok (.ifCond .ne 5, 3) := by decide +kernel
theorem d_MS_order_114 : decode prog_15_method_29_code 114 = .ok (.iconst 0, 1) := by decide +kernel
theorem d_MS_order_115 : decode prog_15_method_29_code 115 = .ok (.ireturn, 1) := by decide +kernel
theorem d_MS_order_141 : decode prog_15_method_29_code 141 = .ok (.iload 6, 2) := by decide +kernel
theorem d_MS_order_143 : decode prog_15_method_29_code 143 = .ok (.ifCond .eq 10, 3) := by decide +kernel
theorem d_MS_order_146 : decode prog_15_method_29_code 146 = .ok (.iload 7, 2) := by decide +kernel
theorem d_MS_order_148 : decode prog_15_method_29_code 148 = .ok (.ifCond .eq 5, 3) := by decide +kernel
theorem d_MS_order_153 : decode prog_15_method_29_code 153 = .ok (.iload 6, 2) := by decide +kernel
theorem d_MS_order_155 : decode prog_15_method_29_code 155 = .ok (.ifCond .ne 8, 3) := by decide +kernel
theorem d_MS_order_158 : decode prog_15_method_29_code 158 = .ok (.iload 7, 2) := by decide +kernel
theorem d_MS_order_160 : decode prog_15_method_29_code 160 = .ok (.ifCond .eq 17, 3) := by decide +kernel
theorem d_MS_order_163 : decode prog_15_method_29_code 163 = .ok (.iload 6, 2) := by decide +kernel
theorem d_MS_order_165 : decode prog_15_method_29_code 165 = .ok (.ifCond .eq 8, 3) := by decide +kernel
theorem d_MS_order_168 : decode prog_15_method_29_code 168 = .ok (.iload 4, 2) := by decide +kernel
theorem d_MS_order_170 : decode prog_15_method_29_code 170 = .ok (.goto 6, 3) := by decide +kernel
theorem d_MS_order_173 : decode prog_15_method_29_code 173 = .ok (.iload 4, 2) := by decide +kernel
theorem d_MS_order_175 : decode prog_15_method_29_code 175 = .ok (.ineg, 1) := by decide +kernel
theorem d_MS_order_176 : decode prog_15_method_29_code 176 = .ok (.ireturn, 1) := by decide +kernel
theorem d_MS_order_177 : decode prog_15_method_29_code 177 = .ok (.aload_n 0, 1) := by decide +kernel
theorem d_MS_order_178 : decode prog_15_method_29_code 178 = .ok (.iload_n 1, 1) := by decide +kernel
theorem d_MS_order_179 : decode prog_15_method_29_code 179 = .ok (.invokevirtual 129, 3) := by decide +kernel
theorem d_MS_order_182 : decode prog_15_method_29_code 182 = .ok (.aload_n 0, 1) := by decide +kernel
theorem d_MS_order_183 : decode prog_15_method_29_code 183 = .ok (.getfield 50, 3) := by decide +kernel
theorem d_MS_order_186 : decode prog_15_method_29_code 186 = .ok (.lstore 8, 2) := by decide +kernel
theorem d_MS_order_188 : decode prog_15_method_29_code 188 = .ok (.aload_n 0, 1) := by decide +kernel
theorem d_MS_order_189 : decode prog_15_method_29_code 189 = .ok (.getfield 57, 3) := by decide +kernel
theorem d_MS_order_192 : decode prog_15_method_29_code 192 = .ok (.istore 10, 2) := by decide +kernel
theorem d_MS_order_194 : decode prog_15_method_29_code 194 = .ok (.aload_n 0, 1) := by decide +kernel
theorem d_MS_order_195 : decode prog_15_method_29_code 195 = .ok (.iload_n 3, 1) := by decide +kernel
theorem d_MS_order_196 : decode prog_15_method_29_code 196 = .ok (.invokevirtual 129, 3) := by decide +kernel
theorem d_MS_order_199 : decode prog_15_method_29_code 199 = .ok (.iload 10, 2) := by decide +kernel
theorem d_MS_order_201 : decode prog_15_method_29_code 201 = .ok (.aload_n 0, 1) := by decide +kernel
theorem d_MS_order_202 : decode prog_15_method_29_code 202 = .ok (.getfield 57, 3) := by decide +kernel
theorem d_MS_order_205 : decode prog_15_method_29_code 205 = .ok (.if_icmp .eq 21, 3) := by decide +kernel
theorem d_MS_order_208 : decode prog_15_method_29_code 208 = .ok (.iload 10, 2) := by decide +kernel
theorem d_MS_order_210 : decode prog_15_method_29_code 210 = .ok (.aload_n 0, 1) := by decide +kernel
theorem d_MS_order_211 : decode prog_15_method_29_code 211 = .ok (.getfield 57, 3) := by decide +kernel
theorem d_MS_order_214 : decode prog_15_method_29_code 214 = .ok (.if_icmp .ge 9, 3) := by decide +kernel
theorem d_MS_order_217 : decode prog_15_method_29_code 217 = .ok (.iload 4, 2) := by decide +kernel
theorem d_MS_order_219 : decode prog_15_method_29_code 219 = .ok (.ineg, 1) := by decide +kernel
theorem d_MS_order_220 : decode prog_15_method_29_code 220 = .ok (.goto 5, 3) := by decide +kernel
theorem d_MS_order_223 : decode prog_15_method_29_code 223 = .ok (.iload 4, 2) := by decide +kernel
theorem d_MS_order_225 : decode prog_15_method_29_code 225 = .ok (.ireturn, 1) := by decide +kernel
theorem d_MS_order_226 : decode prog_15_method_29_code 226 = .ok (.lload 8, 2) := by decide +kernel
theorem d_MS_order_228 : decode prog_15_method_29_code 228 = .ok (.aload_n 0, 1) := by decide +kernel
theorem d_MS_order_229 : decode prog_15_method_29_code 229 = .ok (.getfield 50, 3) := by decide +kernel
theorem d_MS_order_232 : decode prog_15_method_29_code 232 = .ok (.lcmp, 1) := by decide +kernel
theorem d_MS_order_233 : decode prog_15_method_29_code 233 = .ok (.ifCond .ne 7, 3) := by decide +kernel
theorem d_MS_order_236 : decode prog_15_method_29_code 236 = .ok (.iconst 0, 1) := by decide +kernel
theorem d_MS_order_237 : decode prog_15_method_29_code 237 = .ok (.goto 23, 3) := by decide +kernel
theorem d_MS_order_240 : decode prog_15_method_29_code 240 = .ok (.lload 8, 2) := by decide +kernel
theorem d_MS_order_242 : decode prog_15_method_29_code 242 = .ok (.aload_n 0, 1) := by decide +kernel
theorem d_MS_order_243 : decode prog_15_method_29_code 243 = .ok (.getfield 50, 3) := by decide +kernel
theorem d_MS_order_246 : decode prog_15_method_29_code 246 = .ok (.invokestatic 78, 3) := by decide +kernel
theorem d_MS_order_249 : decode prog_15_method_29_code 249 = .ok (.ifCond .eq 9, 3) := by decide +kernel
theorem d_MS_order_252 : decode prog_15_method_29_code 252 = .ok (.iload 4, 2) := by decide +kernel
theorem d_MS_order_254 : decode prog_15_method_29_code 254 = .ok (.ineg, 1) := by decide +kernel
theorem d_MS_order_255 : decode prog_15_method_29_code 255 = .ok (.goto 5, 3) := by decide +kernel
theorem d_MS_order_258 : decode prog_15_method_29_code 258 = .ok (.iload 4, 2) := by decide +kernel
theorem d_MS_order_260 : decode prog_15_method_29_code 260 = .ok (.ireturn, 1) := by decide +kernel
theorem d_MS_compared_0 : decode prog_15_method_30_code 0 = .ok (.aload_n 0, 1) := by decide +kernel
theorem d_MS_compared_1 : decode prog_15_method_30_code 1 = .ok (.invokevirtual 111, 3) := by decide +kernel
theorem d_MS_compared_4 : decode prog_15_method_30_code 4 = .ok (.aload_n 0, 1) := by decide +kernel
theorem d_MS_compared_5 : decode prog_15_method_30_code 5 = .ok (.iload_n 1, 1) := by decide +kernel
theorem d_MS_compared_6 : decode prog_15_method_30_code 6 = .ok (.invokevirtual 46, 3) := by decide +kernel
theorem d_MS_compared_9 : decode prog_15_method_30_code 9 = .ok (.iconst 4, 1) := by decide +kernel
theorem d_MS_compared_10 : decode prog_15_method_30_code 10 = .ok (.if_icmp .ne 7, 3) := by decide +kernel
theorem d_MS_compared_13 : decode prog_15_method_30_code 13 = .ok (.iconst 1, 1) := by decide +kernel
theorem d_MS_compared_14 : decode prog_15_method_30_code 14 = .ok (.goto 4, 3) := by decide +kernel
theorem d_MS_compared_17 : decode prog_15_method_30_code 17 = .ok (.iconst 0, 1) := by decide +kernel
theorem d_MS_compared_18 : decode prog_15_method_30_code 18 = .ok (.istore 4, 2) := by decide +kernel
theorem d_MS_compared_20 : decode prog_15_method_30_code 20 = .ok (.iload_n 2, 1) := by decide +kernel
theorem d_MS_compared_21 : decode prog_15_method_30_code 21 = .ok (.ifCond .ne 16, 3) := by decide +kernel
theorem d_MS_compared_37 : decode prog_15_method_30_code 37 = .ok (.iconst 0, 1) := by decide +kernel
theorem d_MS_compared_38 : decode prog_15_method_30_code 38 = .ok (.istore 5, 2) := by decide +kernel
theorem d_MS_compared_40 : decode prog_15_method_30_code 40 = .ok (.aload_n 0, 1) := by decide +kernel
theorem d_MS_compared_41 : decode prog_15_method_30_code 41 = .ok (.iload_n 1, 1) := by decide +kernel
theorem d_MS_compared_42 : decode prog_15_method_30_code 42 = .ok (.iload_n 2, 1) := by decide +kernel
theorem d_MS_compared_43 : decode prog_15_method_30_code 43 = .ok (.ifCond .eq 7, 3) := by decide +kernel
theorem d_MS_compared_46 : decode prog_15_method_30_code 46 = .ok (.iconst (-1), 1) := by decide +kernel
theorem d_MS_compared_47 : decode prog_15_method_30_code 47 = .ok (.goto 4, 3) := by decide +kernel
theorem d_MS_compared_51 : decode prog_15_method_30_code 51 = .ok (.aload_n 0, 1) := by decide +kernel
theorem d_MS_compared_52 : decode prog_15_method_30_code 52 = .ok (.sipush 4096, 3) := by decide +kernel
theorem d_MS_compared_55 : decode prog_15_method_30_code 55 = .ok (.invokevirtual 75, 3) := by decide +kernel
theorem d_MS_compared_58 : decode prog_15_method_30_code 58 = .ok (.ifCond .ne 10, 3) := by decide +kernel
theorem d_MS_compared_61 : decode prog_15_method_30_code 61 = .ok (.iload 4, 2) := by decide +kernel
theorem d_MS_compared_63 : decode prog_15_method_30_code 63 = .ok (.iload 5, 2) := by decide +kernel
theorem d_MS_compared_65 : decode prog_15_method_30_code 65 = .ok (.if_icmp .ne 7, 3) := by decide +kernel
theorem d_MS_compared_68 : decode prog_15_method_30_code 68 = .ok (.iconst 1, 1) := by decide +kernel
theorem d_MS_compared_69 : decode prog_15_method_30_code 69 = .ok (.goto 4, 3) := by decide +kernel
theorem d_MS_compared_72 : decode prog_15_method_30_code 72 = .ok (.iconst 0, 1) := by decide +kernel
theorem d_MS_compared_73 : decode prog_15_method_30_code 73 = .ok (.invokevirtual 114, 3) := by decide +kernel
theorem d_MS_compared_76 : decode prog_15_method_30_code 76 = .ok (.ifCond .ne 16, 3) := by decide +kernel
theorem d_MS_compared_79 : decode prog_15_method_30_code 79 = .ok (.aload_n 0, 1) := by decide +kernel
theorem d_MS_compared_80 : decode prog_15_method_30_code 80 = .ok (.getfield 68, 3) := by decide +kernel
theorem d_MS_compared_83 : decode prog_15_method_30_code 83 = .ok (.ifCond .eq 7, 3) := by decide +kernel
theorem d_MS_compared_86 : decode prog_15_method_30_code 86 = .ok (.iconst 2, 1) := by decide +kernel
theorem d_MS_compared_87 : decode prog_15_method_30_code 87 = .ok (.goto 4, 3) := by decide +kernel
theorem d_MS_compared_90 : decode prog_15_method_30_code 90 = .ok (.iconst 3, 1) := by decide +kernel
theorem d_MS_compared_91 : decode prog_15_method_30_code 91 = .ok (.ireturn, 1) := by decide +kernel
theorem d_MS_compared_92 : decode prog_15_method_30_code 92 = .ok (.aload_n 0, 1) := by decide +kernel
theorem d_MS_compared_93 : decode prog_15_method_30_code 93 = .ok (.iconst 1, 1) := by decide +kernel
theorem d_MS_compared_94 : decode prog_15_method_30_code 94 = .ok (.putfield 68, 3) := by decide +kernel
theorem d_MS_compared_97 : decode prog_15_method_30_code 97 = .ok (.aload_n 0, 1) := by decide +kernel
theorem d_MS_compared_98 : decode prog_15_method_30_code 98 = .ok (.iload_n 1, 1) := by decide +kernel
theorem d_MS_compared_99 : decode prog_15_method_30_code 99 = .ok (.iload_n 2, 1) := by decide +kernel
theorem d_MS_compared_100 : decode prog_15_method_30_code 100 = .ok (.iload_n 3, 1) := by decide +kernel
theorem d_MS_compared_101 : decode prog_15_method_30_code 101 = .ok (.invokevirtual 142, 3) := by decide +kernel
theorem d_MS_compared_104 : decode prog_15_method_30_code 104 = .ok (.ireturn, 1) := by decide +kernel
theorem d_MS_compared_24 : decode prog_15_method_30_code 24 = .ok (.aload_n 0, 1) := by decide +kernel
theorem d_MS_compared_25 : decode prog_15_method_30_code 25 = .ok (.iload_n 3, 1) := by decide +kernel
theorem d_MS_compared_26 : decode prog_15_method_30_code 26 = .ok (.invokevirtual 46, 3) := by decide +kernel
theorem d_MS_compared_29 : decode prog_15_method_30_code 29 = .ok (.iconst 4, 1) := by decide +kernel
theorem d_MS_compared_30 : decode prog_15_method_30_code 30 = .ok (.if_icmp .ne 7, 3) := by decide +kernel
theorem d_MS_compared_33 : decode prog_15_method_30_code 33 = .ok (.iconst 1, 1) := by decide +kernel
theorem d_MS_compared_34 : decode prog_15_method_30_code 34 = .ok (.goto 4, 3) := by decide +kernel
theorem d_MS_compared_50 : decode prog_15_method_30_code 50 = .ok (.iload_n 3, 1) := by decide +kernel
theorem d_MS_test_0 : decode prog_15_method_32_code 0 = .ok (.aload_n 0, 1) := by decide +kernel
theorem d_MS_test_1 : decode prog_15_method_32_code 1 = .ok (.iload_n 1, 1) := by decide +kernel
theorem d_MS_test_2 : decode prog_15_method_32_code 2 = .ok (.invokestatic 25, 3) := by decide +kernel
theorem d_MS_test_5 : decode prog_15_method_32_code 5 = .ok (.ifCond .eq 7, 3) := by decide +kernel
theorem d_MS_test_8 : decode prog_15_method_32_code 8 = .ok (.iconst 1, 1) := by decide +kernel
theorem d_MS_test_9 : decode prog_15_method_32_code 9 = .ok (.goto 4, 3) := by decide +kernel
theorem d_MS_test_12 : decode prog_15_method_32_code 12 = .ok (.iconst 0, 1) := by decide +kernel
theorem d_MS_test_13 : decode prog_15_method_32_code 13 = .ok (.putfield 21, 3) := by decide +kernel
theorem d_MS_test_16 : decode prog_15_method_32_code 16 = .ok (.aload_n 0, 1) := by decide +kernel
theorem d_MS_test_17 : decode prog_15_method_32_code 17 = .ok (.getfield 21, 3) := by decide +kernel
theorem d_MS_test_20 : decode prog_15_method_32_code 20 = .ok (.ifCond .le 7, 3) := by decide +kernel
theorem d_MS_test_23 : decode prog_15_method_32_code 23 = .ok (.iconst 0, 1) := by decide +kernel
theorem d_MS_test_24 : decode prog_15_method_32_code 24 = .ok (.goto 10, 3) := by decide +kernel
theorem d_MS_test_27 : decode prog_15_method_32_code 27 = .ok (.aload_n 0, 1) := by decide +kernel
theorem d_MS_test_28 : decode prog_15_method_32_code 28 = .ok (.iload_n 1, 1) := by decide +kernel
theorem d_MS_test_29 : decode prog_15_method_32_code 29 = .ok (.iconst 1, 1) := by decide +kernel
theorem d_MS_test_30 : decode prog_15_method_32_code 30 = .ok (.iconst (-1), 1) := by decide +kernel
theorem d_MS_test_31 : decode prog_15_method_32_code 31 = .ok (.invokevirtual 146, 3) := by decide +kernel
theorem d_MS_test_34 : decode prog_15_method_32_code 34 = .ok (.ireturn, 1) := by decide +kernel
theorem d_MS_compare_0 : decode prog_15_method_31_code 0 = .ok (.aload_n 0, 1) := by decide +kernel
theorem d_MS_compare_1 : decode prog_15_method_31_code 1 = .ok (.iload_n 1, 1) := by decide +kernel
theorem d_MS_compare_2 : decode prog_15_method_31_code 2 = .ok (.invokestatic 25, 3) := by decide +kernel
theorem d_MS_compare_5 : decode prog_15_method_31_code 5 = .ok (.ifCond .ne 10, 3) := by decide +kernel
theorem d_MS_compare_8 : decode prog_15_method_31_code 8 = .ok (.iload_n 2, 1) := by decide +kernel
theorem d_MS_compare_9 : decode prog_15_method_31_code 9 = .ok (.invokestatic 25, 3) := by decide +kernel
theorem d_MS_compare_12 : decode prog_15_method_31_code 12 = .ok (.ifCond .eq 7, 3) := by decide +kernel
theorem d_MS_compare_15 : decode prog_15_method_31_code 15 = .ok (.iconst 1, 1) := by decide +kernel
theorem d_MS_compare_16 : decode prog_15_method_31_code 16 = .ok (.goto 4, 3) := by decide +kernel
theorem d_MS_compare_19 : decode prog_15_method_31_code 19 = .ok (.iconst 0, 1) := by decide +kernel
theorem d_MS_compare_20 : decode prog_15_method_31_code 20 = .ok (.putfield 21, 3) := by decide +kernel
theorem d_MS_compare_23 : decode prog_15_method_31_code 23 = .ok (.aload_n 0, 1) := by decide +kernel
theorem d_MS_compare_24 : decode prog_15_method_31_code 24 = .ok (.getfield 21, 3) := by decide +kernel
theorem d_MS_compare_27 : decode prog_15_method_31_code 27 = .ok (.ifCond .le 7, 3) := by decide +kernel
theorem d_MS_compare_30 : decode prog_15_method_31_code 30 = .ok (.iconst 0, 1) := by decide +kernel
theorem d_MS_compare_31 : decode prog_15_method_31_code 31 = .ok (.goto 10, 3) := by decide +kernel
theorem d_MS_compare_34 : decode prog_15_method_31_code 34 = .ok (.aload_n 0, 1) := by decide +kernel
theorem d_MS_compare_35 : decode prog_15_method_31_code 35 = .ok (.iload_n 1, 1) := by decide +kernel
theorem d_MS_compare_36 : decode prog_15_method_31_code 36 = .ok (.iconst 0, 1) := by decide +kernel
theorem d_MS_compare_37 : decode prog_15_method_31_code 37 = .ok (.iload_n 2, 1) := by decide +kernel
theorem d_MS_compare_38 : decode prog_15_method_31_code 38 = .ok (.invokevirtual 146, 3) := by decide +kernel
theorem d_MS_compare_41 : decode prog_15_method_31_code 41 = .ok (.ireturn, 1) := by decide +kernel
theorem d_MS_told_0 : decode prog_15_method_34_code 0 = .ok (.aload_n 0, 1) := by decide +kernel
theorem d_MS_told_1 : decode prog_15_method_34_code 1 = .ok (.iload_n 1, 1) := by decide +kernel
theorem d_MS_told_2 : decode prog_15_method_34_code 2 = .ok (.ifCond .lt 8, 3) := by decide +kernel
theorem d_MS_told_5 : decode prog_15_method_34_code 5 = .ok (.iload_n 1, 1) := by decide +kernel
theorem d_MS_told_6 : decode prog_15_method_34_code 6 = .ok (.iconst 3, 1) := by decide +kernel
theorem d_MS_told_7 : decode prog_15_method_34_code 7 = .ok (.if_icmp .le 7, 3) := by decide +kernel
theorem d_MS_told_10 : decode prog_15_method_34_code 10 = .ok (.iconst 1, 1) := by decide +kernel
theorem d_MS_told_11 : decode prog_15_method_34_code 11 = .ok (.goto 4, 3) := by decide +kernel
theorem d_MS_told_14 : decode prog_15_method_34_code 14 = .ok (.iconst 0, 1) := by decide +kernel
theorem d_MS_told_15 : decode prog_15_method_34_code 15 = .ok (.putfield 21, 3) := by decide +kernel
theorem d_MS_told_18 : decode prog_15_method_34_code 18 = .ok (.aload_n 0, 1) := by decide +kernel
theorem d_MS_told_19 : decode prog_15_method_34_code 19 = .ok (.getfield 21, 3) := by decide +kernel
theorem d_MS_told_22 : decode prog_15_method_34_code 22 = .ok (.ifCond .le 5, 3) := by decide +kernel
theorem d_MS_told_25 : decode prog_15_method_34_code 25 = .ok (.iconst 0, 1) := by decide +kernel
theorem d_MS_told_26 : decode prog_15_method_34_code 26 = .ok (.ireturn, 1) := by decide +kernel
theorem d_MS_told_27 : decode prog_15_method_34_code 27 = .ok (.iload_n 1, 1) := by decide +kernel
theorem d_MS_told_28 : decode prog_15_method_34_code 28 = .ok (.ifCond .ne 10, 3) := by decide +kernel
theorem d_MS_told_31 : decode prog_15_method_34_code 31 = .ok (.aload_n 0, 1) := by decide +kernel
theorem d_MS_told_32 : decode prog_15_method_34_code 32 = .ok (.getfield 72, 3) := by decide +kernel
theorem d_MS_told_35 : decode prog_15_method_34_code 35 = .ok (.goto 47, 3) := by decide +kernel
theorem d_MS_told_38 : decode prog_15_method_34_code 38 = .ok (.iload_n 1, 1) := by decide +kernel
theorem d_MS_told_39 : decode prog_15_method_34_code 39 = .ok (.iconst 1, 1) := by decide +kernel
theorem d_MS_told_40 : decode prog_15_method_34_code 40 = .ok (.if_icmp .ne 18, 3) := by decide +kernel
theorem d_MS_told_43 : decode prog_15_method_34_code 43 = .ok (.aload_n 0, 1) := by decide +kernel
theorem d_MS_told_44 : decode prog_15_method_34_code 44 = .ok (.getfield 68, 3) := by decide +kernel
theorem d_MS_told_47 : decode prog_15_method_34_code 47 = .ok (.ifCond .eq 7, 3) := by decide +kernel
theorem d_MS_told_50 : decode prog_15_method_34_code 50 = .ok (.iconst 1, 1) := by decide +kernel
theorem d_MS_told_51 : decode prog_15_method_34_code 51 = .ok (.goto 31, 3) := by decide +kernel
theorem d_MS_told_54 : decode prog_15_method_34_code 54 = .ok (.iconst 0, 1) := by decide +kernel
theorem d_MS_told_55 : decode prog_15_method_34_code 55 = .ok (.goto 27, 3) := by decide +kernel
theorem d_MS_told_58 : decode prog_15_method_34_code 58 = .ok (.iload_n 1, 1) := by decide +kernel
theorem d_MS_told_59 : decode prog_15_method_34_code 59 = .ok (.iconst 2, 1) := by decide +kernel
theorem d_MS_told_60 : decode prog_15_method_34_code 60 = .ok (.if_icmp .ne 10, 3) := by decide +kernel
theorem d_MS_told_63 : decode prog_15_method_34_code 63 = .ok (.aload_n 0, 1) := by decide +kernel
theorem d_MS_told_64 : decode prog_15_method_34_code 64 = .ok (.getfield 136, 3) := by decide +kernel
theorem d_MS_told_67 : decode prog_15_method_34_code 67 = .ok (.goto 15, 3) := by decide +kernel
theorem d_MS_told_70 : decode prog_15_method_34_code 70 = .ok (.aload_n 0, 1) := by decide +kernel
theorem d_MS_told_71 : decode prog_15_method_34_code 71 = .ok (.getfield 139, 3) := by decide +kernel
theorem d_MS_told_74 : decode prog_15_method_34_code 74 = .ok (.ifCond .eq 7, 3) := by decide +kernel
theorem d_MS_told_77 : decode prog_15_method_34_code 77 = .ok (.iconst 1, 1) := by decide +kernel
theorem d_MS_told_78 : decode prog_15_method_34_code 78 = .ok (.goto 4, 3) := by decide +kernel
theorem d_MS_told_81 : decode prog_15_method_34_code 81 = .ok (.iconst 0, 1) := by decide +kernel
theorem d_MS_told_82 : decode prog_15_method_34_code 82 = .ok (.ireturn, 1) := by decide +kernel
theorem d_MS_examine_0 : decode prog_15_method_33_code 0 = .ok (.aload_n 0, 1) := by decide +kernel
theorem d_MS_examine_1 : decode prog_15_method_33_code 1 = .ok (.iload_n 1, 1) := by decide +kernel
theorem d_MS_examine_2 : decode prog_15_method_33_code 2 = .ok (.invokestatic 25, 3) := by decide +kernel
theorem d_MS_examine_5 : decode prog_15_method_33_code 5 = .ok (.ifCond .eq 7, 3) := by decide +kernel
theorem d_MS_examine_8 : decode prog_15_method_33_code 8 = .ok (.iconst 1, 1) := by decide +kernel
theorem d_MS_examine_9 : decode prog_15_method_33_code 9 = .ok (.goto 4, 3) := by decide +kernel
theorem d_MS_examine_12 : decode prog_15_method_33_code 12 = .ok (.iconst 0, 1) := by decide +kernel
theorem d_MS_examine_13 : decode prog_15_method_33_code 13 = .ok (.putfield 21, 3) := by decide +kernel
theorem d_MS_examine_16 : decode prog_15_method_33_code 16 = .ok (.aload_n 0, 1) := by decide +kernel
theorem d_MS_examine_17 : decode prog_15_method_33_code 17 = .ok (.getfield 21, 3) := by decide +kernel
theorem d_MS_examine_20 : decode prog_15_method_33_code 20 = .ok (.ifCond .le 5, 3) := by decide +kernel
theorem d_MS_examine_23 : decode prog_15_method_33_code 23 = .ok (.iconst 0, 1) := by decide +kernel
theorem d_MS_examine_24 : decode prog_15_method_33_code 24 = .ok (.ireturn, 1) := by decide +kernel
theorem d_MS_examine_25 : decode prog_15_method_33_code 25 = .ok (.aload_n 0, 1) := by decide +kernel
theorem d_MS_examine_26 : decode prog_15_method_33_code 26 = .ok (.iload_n 1, 1) := by decide +kernel
theorem d_MS_examine_27 : decode prog_15_method_33_code 27 = .ok (.invokevirtual 46, 3) := by decide +kernel
theorem d_MS_examine_30 : decode prog_15_method_33_code 30 = .ok (.istore_n 2, 1) := by decide +kernel
theorem d_MS_examine_31 : decode prog_15_method_33_code 31 = .ok (.iload_n 2, 1) := by decide +kernel
theorem d_MS_examine_32 : decode prog_15_method_33_code 32 = .ok (.ifCond .ne 8, 3) := by decide +kernel
theorem d_MS_examine_35 : decode prog_15_method_33_code 35 = .ok (.bipush 8, 2) := by decide +kernel
theorem d_MS_examine_37 : decode prog_15_method_33_code 37 = .ok (.goto 41, 3) := by decide +kernel
theorem d_MS_examine_40 : decode prog_15_method_33_code 40 = .ok (.iload_n 2, 1) := by decide +kernel
theorem d_MS_examine_41 : decode prog_15_method_33_code 41 = .ok (.iconst 1, 1) := by decide +kernel
theorem d_MS_examine_42 : decode prog_15_method_33_code 42 = .ok (.if_icmp .ne 8, 3) := by decide +kernel
theorem d_MS_examine_45 : decode prog_15_method_33_code 45 = .ok (.bipush 12, 2) := by decide +kernel
theorem d_MS_examine_47 : decode prog_15_method_33_code 47 = .ok (.goto 31, 3) := by decide +kernel
theorem d_MS_examine_50 : decode prog_15_method_33_code 50 = .ok (.iload_n 2, 1) := by decide +kernel
theorem d_MS_examine_51 : decode prog_15_method_33_code 51 = .ok (.iconst 2, 1) := by decide +kernel
theorem d_MS_examine_52 : decode prog_15_method_33_code 52 = .ok (.if_icmp .ne 7, 3) := by decide +kernel
theorem d_MS_examine_55 : decode prog_15_method_33_code 55 = .ok (.iconst 0, 1) := by decide +kernel
theorem d_MS_examine_56 : decode prog_15_method_33_code 56 = .ok (.goto 22, 3) := by decide +kernel
theorem d_MS_examine_59 : decode prog_15_method_33_code 59 = .ok (.iload_n 2, 1) := by decide +kernel
theorem d_MS_examine_60 : decode prog_15_method_33_code 60 = .ok (.iconst 3, 1) := by decide +kernel
theorem d_MS_examine_61 : decode prog_15_method_33_code 61 = .ok (.if_icmp .ne 7, 3) := by decide +kernel
theorem d_MS_examine_64 : decode prog_15_method_33_code 64 = .ok (.iconst 4, 1) := by decide +kernel
theorem d_MS_examine_65 : decode prog_15_method_33_code 65 = .ok (.goto 13, 3) := by decide +kernel
theorem d_MS_examine_68 : decode prog_15_method_33_code 68 = .ok (.iload_n 2, 1) := by decide +kernel
theorem d_MS_examine_69 : decode prog_15_method_33_code 69 = .ok (.iconst 4, 1) := by decide +kernel
theorem d_MS_examine_70 : decode prog_15_method_33_code 70 = .ok (.if_icmp .ne 7, 3) := by decide +kernel
theorem d_MS_examine_73 : decode prog_15_method_33_code 73 = .ok (.iconst 5, 1) := by decide +kernel
theorem d_MS_examine_74 : decode prog_15_method_33_code 74 = .ok (.goto 4, 3) := by decide +kernel
theorem d_MS_examine_77 : decode prog_15_method_33_code 77 = .ok (.iconst 1, 1) := by decide +kernel
theorem d_MS_examine_78 : decode prog_15_method_33_code 78 = .ok (.istore_n 3, 1) := by decide +kernel
theorem d_MS_examine_79 : decode prog_15_method_33_code 79 = .ok (.aload_n 0, 1) := by decide +kernel
theorem d_MS_examine_80 : decode prog_15_method_33_code 80 = .ok (.iload_n 1, 1) := by decide +kernel
theorem d_MS_examine_81 : decode prog_15_method_33_code 81 = .ok (.invokevirtual 82, 3) := by decide +kernel
theorem d_MS_examine_84 : decode prog_15_method_33_code 84 = .ok (.ifCond .eq 9, 3) := by decide +kernel
theorem d_MS_examine_87 : decode prog_15_method_33_code 87 = .ok (.iload_n 3, 1) := by decide +kernel
theorem d_MS_examine_88 : decode prog_15_method_33_code 88 = .ok (.iconst 2, 1) := by decide +kernel
theorem d_MS_examine_89 : decode prog_15_method_33_code 89 = .ok (.iadd, 1) := by decide +kernel
theorem d_MS_examine_90 : decode prog_15_method_33_code 90 = .ok (.goto 4, 3) := by decide +kernel
theorem d_MS_examine_93 : decode prog_15_method_33_code 93 = .ok (.iload_n 3, 1) := by decide +kernel
theorem d_MS_examine_94 : decode prog_15_method_33_code 94 = .ok (.ireturn, 1) := by decide +kernel
theorem d_MS_constant_0 : decode prog_15_method_10_code 0 = .ok (.aload_n 0, 1) := by decide +kernel
theorem d_MS_constant_1 : decode prog_15_method_10_code 1 = .ok (.iload_n 2, 1) := by decide +kernel
theorem d_MS_constant_2 : decode prog_15_method_10_code 2 = .ok (.invokestatic 25, 3) := by decide +kernel
theorem d_MS_constant_5 : decode prog_15_method_10_code 5 = .ok (.ifCond .eq 7, 3) := by decide +kernel
theorem d_MS_constant_8 : decode prog_15_method_10_code 8 = .ok (.iconst 1, 1) := by decide +kernel
theorem d_MS_constant_9 : decode prog_15_method_10_code 9 = .ok (.goto 18, 3) := by decide +kernel
theorem d_MS_constant_12 : decode prog_15_method_10_code 12 = .ok (.iload_n 1, 1) := by decide +kernel
theorem d_MS_constant_13 : decode prog_15_method_10_code 13 = .ok (.ifCond .lt 9, 3) := by decide +kernel
theorem d_MS_constant_16 : decode prog_15_method_10_code 16 = .ok (.iload_n 1, 1) := by decide +kernel
theorem d_MS_constant_17 : decode prog_15_method_10_code 17 = .ok (.bipush 6, 2) := by decide +kernel
theorem d_MS_constant_19 : decode prog_15_method_10_code 19 = .ok (.if_icmp .le 7, 3) := by decide +kernel
theorem d_MS_constant_22 : decode prog_15_method_10_code 22 = .ok (.iconst 2, 1) := by decide +kernel
theorem d_MS_constant_23 : decode prog_15_method_10_code 23 = .ok (.goto 4, 3) := by decide +kernel
theorem d_MS_constant_26 : decode prog_15_method_10_code 26 = .ok (.iconst 0, 1) := by decide +kernel
theorem d_MS_constant_27 : decode prog_15_method_10_code 27 = .ok (.putfield 21, 3) := by decide +kernel
theorem d_MS_constant_30 : decode prog_15_method_10_code 30 = .ok (.aload_n 0, 1) := by decide +kernel
theorem d_MS_constant_31 : decode prog_15_method_10_code 31 = .ok (.getfield 21, 3) := by decide +kernel
theorem d_MS_constant_34 : decode prog_15_method_10_code 34 = .ok (.ifCond .le 4, 3) := by decide +kernel
theorem d_MS_constant_37 : decode prog_15_method_10_code 37 = .ok (.return_, 1) := by decide +kernel
theorem d_MS_constant_38 : decode prog_15_method_10_code 38 = .ok (.aload_n 0, 1) := by decide +kernel
theorem d_MS_constant_39 : decode prog_15_method_10_code 39 = .ok (.getfield 13, 3) := by decide +kernel
theorem d_MS_constant_42 : decode prog_15_method_10_code 42 = .ok (.iload_n 2, 1) := by decide +kernel
theorem d_MS_constant_43 : decode prog_15_method_10_code 43 = .ok (.iload_n 1, 1) := by decide +kernel
theorem d_MS_constant_44 : decode prog_15_method_10_code 44 = .ok (.ifCond .ne 7, 3) := by decide +kernel
theorem d_MS_constant_47 : decode prog_15_method_10_code 47 = .ok (.iconst 0, 1) := by decide +kernel
theorem d_MS_constant_48 : decode prog_15_method_10_code 48 = .ok (.goto 42, 3) := by decide +kernel
theorem d_MS_constant_51 : decode prog_15_method_10_code 51 = .ok (.sipush 16383, 3) := by decide +kernel
theorem d_MS_constant_54 : decode prog_15_method_10_code 54 = .ok (.iload_n 1, 1) := by decide +kernel
theorem d_MS_constant_55 : decode prog_15_method_10_code 55 = .ok (.iconst 2, 1) := by decide +kernel
theorem d_MS_constant_56 : decode prog_15_method_10_code 56 = .ok (.if_icmp .eq 8, 3) := by decide +kernel
theorem d_MS_constant_59 : decode prog_15_method_10_code 59 = .ok (.iload_n 1, 1) := by decide +kernel
theorem d_MS_constant_60 : decode prog_15_method_10_code 60 = .ok (.iconst 4, 1) := by decide +kernel
theorem d_MS_constant_61 : decode prog_15_method_10_code 61 = .ok (.if_icmp .ne 7, 3) := by decide +kernel
theorem d_MS_constant_64 : decode prog_15_method_10_code 64 = .ok (.iconst 1, 1) := by decide +kernel
theorem d_MS_constant_65 : decode prog_15_method_10_code 65 = .ok (.goto 24, 3) := by decide +kernel
theorem d_MS_constant_68 : decode prog_15_method_10_code 68 = .ok (.iload_n 1, 1) := by decide +kernel
theorem d_MS_constant_69 : decode prog_15_method_10_code 69 = .ok (.iconst 5, 1) := by decide +kernel
theorem d_MS_constant_70 : decode prog_15_method_10_code 70 = .ok (.if_icmp .ne 8, 3) := by decide +kernel
theorem d_MS_constant_73 : decode prog_15_method_10_code 73 = .ok (.bipush (-2), 2) := by decide +kernel
theorem d_MS_constant_75 : decode prog_15_method_10_code 75 = .ok (.goto 14, 3) := by decide +kernel
theorem d_MS_constant_78 : decode prog_15_method_10_code 78 = .ok (.iload_n 1, 1) := by decide +kernel
theorem d_MS_constant_79 : decode prog_15_method_10_code 79 = .ok (.bipush 6, 2) := by decide +kernel
theorem d_MS_constant_81 : decode prog_15_method_10_code 81 = .ok (.if_icmp .ne 7, 3) := by decide +kernel
theorem d_MS_constant_84 : decode prog_15_method_10_code 84 = .ok (.iconst (-1), 1) := by decide +kernel
theorem d_MS_constant_85 : decode prog_15_method_10_code 85 = .ok (.goto 4, 3) := by decide +kernel
theorem d_MS_constant_88 : decode prog_15_method_10_code 88 = .ok (.iconst 0, 1) := by decide +kernel
theorem d_MS_constant_89 : decode prog_15_method_10_code 89 = .ok (.iadd, 1) := by decide +kernel
theorem d_MS_constant_90 : decode prog_15_method_10_code 90 = .ok (.iastore, 1) := by decide +kernel
theorem d_MS_constant_91 : decode prog_15_method_10_code 91 = .ok (.aload_n 0, 1) := by decide +kernel
theorem d_MS_constant_92 : decode prog_15_method_10_code 92 = .ok (.getfield 17, 3) := by decide +kernel
theorem d_MS_constant_95 : decode prog_15_method_10_code 95 = .ok (.iload_n 2, 1) := by decide +kernel
theorem d_MS_constant_96 : decode prog_15_method_10_code 96 = .ok (.iload_n 1, 1) := by decide +kernel
theorem d_MS_constant_97 : decode prog_15_method_10_code 97 = .ok (.ifCond .ne 7, 3) := by decide +kernel
theorem d_MS_constant_100 : decode prog_15_method_10_code 100 = .ok (.lconst 0, 1) := by decide +kernel
theorem d_MS_constant_101 : decode prog_15_method_10_code 101 = .ok (.goto 61, 3) := by decide +kernel
theorem d_MS_constant_104 : decode prog_15_method_10_code 104 = .ok (.iload_n 1, 1) := by decide +kernel
theorem d_MS_constant_105 : decode prog_15_method_10_code 105 = .ok (.iconst 1, 1) := by decide +kernel
theorem d_MS_constant_106 : decode prog_15_method_10_code 106 = .ok (.if_icmp .ne 9, 3) := by decide +kernel
theorem d_MS_constant_109 : decode prog_15_method_10_code 109 = .ok (.ldc2_w 34, 3) := by decide +kernel
theorem d_MS_constant_112 : decode prog_15_method_10_code 112 = .ok (.goto 50, 3) := by decide +kernel
theorem d_MS_constant_115 : decode prog_15_method_10_code 115 = .ok (.iload_n 1, 1) := by decide +kernel
theorem d_MS_constant_116 : decode prog_15_method_10_code 116 = .ok (.iconst 2, 1) := by decide +kernel
theorem d_MS_constant_117 : decode prog_15_method_10_code 117 = .ok (.if_icmp .ne 9, 3) := by decide +kernel
theorem d_MS_constant_120 : decode prog_15_method_10_code 120 = .ok (.ldc2_w 36, 3) := by decide +kernel
theorem d_MS_constant_123 : decode prog_15_method_10_code 123 = .ok (.goto 39, 3) := by decide +kernel
theorem d_MS_constant_126 : decode prog_15_method_10_code 126 = .ok (.iload_n 1, 1) := by decide +kernel
theorem d_MS_constant_127 : decode prog_15_method_10_code 127 = .ok (.iconst 3, 1) := by decide +kernel
theorem d_MS_constant_128 : decode prog_15_method_10_code 128 = .ok (.if_icmp .ne 9, 3) := by decide +kernel
theorem d_MS_constant_131 : decode prog_15_method_10_code 131 = .ok (.ldc2_w 38, 3) := by decide +kernel
theorem d_MS_constant_134 : decode prog_15_method_10_code 134 = .ok (.goto 28, 3) := by decide +kernel
theorem d_MS_constant_137 : decode prog_15_method_10_code 137 = .ok (.iload_n 1, 1) := by decide +kernel
theorem d_MS_constant_138 : decode prog_15_method_10_code 138 = .ok (.iconst 4, 1) := by decide +kernel
theorem d_MS_constant_139 : decode prog_15_method_10_code 139 = .ok (.if_icmp .ne 9, 3) := by decide +kernel
theorem d_MS_constant_142 : decode prog_15_method_10_code 142 = .ok (.ldc2_w 40, 3) := by decide +kernel
theorem d_MS_constant_145 : decode prog_15_method_10_code 145 = .ok (.goto 17, 3) := by decide +kernel
theorem d_MS_constant_148 : decode prog_15_method_10_code 148 = .ok (.iload_n 1, 1) := by decide +kernel
theorem d_MS_constant_149 : decode prog_15_method_10_code 149 = .ok (.iconst 5, 1) := by decide +kernel
theorem d_MS_constant_150 : decode prog_15_method_10_code 150 = .ok (.if_icmp .ne 9, 3) := by decide +kernel
theorem d_MS_constant_153 : decode prog_15_method_10_code 153 = .ok (.ldc2_w 42, 3) := by decide +kernel
theorem d_MS_constant_156 : decode prog_15_method_10_code 156 = .ok (.goto 6, 3) := by decide +kernel
theorem d_MS_constant_159 : decode prog_15_method_10_code 159 = .ok (.ldc2_w 44, 3) := by decide +kernel
theorem d_MS_constant_162 : decode prog_15_method_10_code 162 = .ok (.lastore, 1) := by decide +kernel
theorem d_MS_constant_163 : decode prog_15_method_10_code 163 = .ok (.return_, 1) := by decide +kernel
theorem d_MS_way_0 : decode prog_15_method_5_code 0 = .ok (.aload_n 0, 1) := by decide +kernel
theorem d_MS_way_1 : decode prog_15_method_5_code 1 = .ok (.getfield 7, 3) := by decide +kernel
theorem d_MS_way_4 : decode prog_15_method_5_code 4 = .ok (.sipush 1024, 3) := by decide +kernel
theorem d_MS_way_7 : decode prog_15_method_5_code 7 = .ok (.idiv, 1) := by decide +kernel
theorem d_MS_way_8 : decode prog_15_method_5_code 8 = .ok (.iconst 4, 1) := by decide +kernel
theorem d_MS_way_9 : decode prog_15_method_5_code 9 = .ok (.irem, 1) := by decide +kernel
theorem d_MS_way_10 : decode prog_15_method_5_code 10 = .ok (.ireturn, 1) := by decide +kernel
theorem d_MS_rounded_0 : decode prog_15_method_21_code 0 = .ok (.lload_n 1, 1) := by decide +kernel
theorem d_MS_rounded_1 : decode prog_15_method_21_code 1 = .ok (.lstore 5, 2) := by decide +kernel
theorem d_MS_rounded_3 : decode prog_15_method_21_code 3 = .ok (.iconst 0, 1) := by decide +kernel
theorem d_MS_rounded_4 : decode prog_15_method_21_code 4 = .ok (.istore 7, 2) := by decide +kernel
theorem d_MS_rounded_6 : decode prog_15_method_21_code 6 = .ok (.iconst 0, 1) := by decide +kernel
theorem d_MS_rounded_7 : decode prog_15_method_21_code 7 = .ok (.istore 8, 2) := by decide +kernel
theorem d_MS_rounded_9 : decode prog_15_method_21_code 9 = .ok (.iconst 0, 1) := by decide +kernel
theorem d_MS_rounded_10 : decode prog_15_method_21_code 10 = .ok (.istore 9, 2) := by decide +kernel
theorem d_MS_rounded_12 : decode prog_15_method_21_code 12 = .ok (.iload 9, 2) := by decide +kernel
theorem d_MS_rounded_14 : decode prog_15_method_21_code 14 = .ok (.iload_n 3, 1) := by decide +kernel
theorem d_MS_rounded_15 : decode prog_15_method_21_code 15 = .ok (.if_icmp .ge 61, 3) := by decide +kernel
theorem d_MS_rounded_18 : decode prog_15_method_21_code 18 = .ok (.iload 9, 2) := by decide +kernel
theorem d_MS_rounded_20 : decode prog_15_method_21_code 20 = .ok (.bipush 70, 2) := by decide +kernel
theorem d_MS_rounded_22 : decode prog_15_method_21_code 22 = .ok (.if_icmp .ge 54, 3) := by decide +kernel
theorem d_MS_rounded_25 : decode prog_15_method_21_code 25 = .ok (.iload 8, 2) := by decide +kernel
theorem d_MS_rounded_27 : decode prog_15_method_21_code 27 = .ok (.ifCond .ne 8, 3) := by decide +kernel
theorem d_MS_rounded_30 : decode prog_15_method_21_code 30 = .ok (.iload 7, 2) := by decide +kernel
theorem d_MS_rounded_32 : decode prog_15_method_21_code 32 = .ok (.ifCond .eq 7, 3) := by decide +kernel
theorem d_MS_rounded_35 : decode prog_15_method_21_code 35 = .ok (.iconst 1, 1) := by decide +kernel
theorem d_MS_rounded_36 : decode prog_15_method_21_code 36 = .ok (.goto 4, 3) := by decide +kernel
theorem d_MS_rounded_39 : decode prog_15_method_21_code 39 = .ok (.iconst 0, 1) := by decide +kernel
theorem d_MS_rounded_40 : decode prog_15_method_21_code 40 = .ok (.istore 8, 2) := by decide +kernel
theorem d_MS_rounded_42 : decode prog_15_method_21_code 42 = .ok (.lload 5, 2) := by decide +kernel
theorem d_MS_rounded_44 : decode prog_15_method_21_code 44 = .ok (.ldc2_w 60, 3) := by decide +kernel
theorem d_MS_rounded_47 : decode prog_15_method_21_code 47 = .ok (.lrem, 1) := by decide +kernel
theorem d_MS_rounded_48 : decode prog_15_method_21_code 48 = .ok (.lconst 0, 1) := by decide +kernel
theorem d_MS_rounded_49 : decode prog_15_method_21_code 49 = .ok (.lcmp, 1) := by decide +kernel
theorem d_MS_rounded_50 : decode prog_15_method_21_code 50 = .ok (.ifCond .eq 7, 3) := by decide +kernel
theorem d_MS_rounded_53 : decode prog_15_method_21_code 53 = .ok (.iconst 1, 1) := by decide +kernel
theorem d_MS_rounded_54 : decode prog_15_method_21_code 54 = .ok (.goto 4, 3) := by decide +kernel
theorem d_MS_rounded_57 : decode prog_15_method_21_code 57 = .ok (.iconst 0, 1) := by decide +kernel
theorem d_MS_rounded_58 : decode prog_15_method_21_code 58 = .ok (.istore 7, 2) := by decide +kernel
theorem d_MS_rounded_60 : decode prog_15_method_21_code 60 = .ok (.lload 5, 2) := by decide +kernel
theorem d_MS_rounded_62 : decode prog_15_method_21_code 62 = .ok (.iconst 1, 1) := by decide +kernel
theorem d_MS_rounded_63 : decode prog_15_method_21_code 63 = .ok (.lshr, 1) := by decide +kernel
theorem d_MS_rounded_64 : decode prog_15_method_21_code 64 = .ok (.ldc2_w 96, 3) := by decide +kernel
theorem d_MS_rounded_67 : decode prog_15_method_21_code 67 = .ok (.land, 1) := by decide +kernel
theorem d_MS_rounded_68 : decode prog_15_method_21_code 68 = .ok (.lstore 5, 2) := by decide +kernel
theorem d_MS_rounded_70 : decode prog_15_method_21_code 70 = .ok (.iinc 9 1, 3) := by decide +kernel
theorem d_MS_rounded_73 : decode prog_15_method_21_code 73 = .ok (.goto (-61), 3) := by decide +kernel
theorem d_MS_rounded_76 : decode prog_15_method_21_code 76 = .ok (.iload 8, 2) := by decide +kernel
theorem d_MS_rounded_78 : decode prog_15_method_21_code 78 = .ok (.ifCond .ne 14, 3) := by decide +kernel
theorem d_MS_rounded_81 : decode prog_15_method_21_code 81 = .ok (.iload_n 3, 1) := by decide +kernel
theorem d_MS_rounded_82 : decode prog_15_method_21_code 82 = .ok (.bipush 70, 2) := by decide +kernel
theorem d_MS_rounded_84 : decode prog_15_method_21_code 84 = .ok (.if_icmp .le 12, 3) := by decide +kernel
theorem d_MS_rounded_87 : decode prog_15_method_21_code 87 = .ok (.iload 7, 2) := by decide +kernel
theorem d_MS_rounded_89 : decode prog_15_method_21_code 89 = .ok (.ifCond .eq 7, 3) := by decide +kernel
theorem d_MS_rounded_92 : decode prog_15_method_21_code 92 = .ok (.iconst 1, 1) := by decide +kernel
theorem d_MS_rounded_93 : decode prog_15_method_21_code 93 = .ok (.goto 4, 3) := by decide +kernel
theorem d_MS_rounded_96 : decode prog_15_method_21_code 96 = .ok (.iconst 0, 1) := by decide +kernel
theorem d_MS_rounded_97 : decode prog_15_method_21_code 97 = .ok (.istore 8, 2) := by decide +kernel
theorem d_MS_rounded_99 : decode prog_15_method_21_code 99 = .ok (.iload 7, 2) := by decide +kernel
theorem d_MS_rounded_101 : decode prog_15_method_21_code 101 = .ok (.ifCond .eq 13, 3) := by decide +kernel
theorem d_MS_rounded_104 : decode prog_15_method_21_code 104 = .ok (.iload_n 3, 1) := by decide +kernel
theorem d_MS_rounded_105 : decode prog_15_method_21_code 105 = .ok (.bipush 70, 2) := by decide +kernel
theorem d_MS_rounded_107 : decode prog_15_method_21_code 107 = .ok (.if_icmp .gt 7, 3) := by decide +kernel
theorem d_MS_rounded_110 : decode prog_15_method_21_code 110 = .ok (.iconst 1, 1) := by decide +kernel
theorem d_MS_rounded_111 : decode prog_15_method_21_code 111 = .ok (.goto 4, 3) := by decide +kernel
theorem d_MS_rounded_114 : decode prog_15_method_21_code 114 = .ok (.iconst 0, 1) := by decide +kernel
theorem d_MS_rounded_115 : decode prog_15_method_21_code 115 = .ok (.istore 7, 2) := by decide +kernel
theorem d_MS_rounded_117 : decode prog_15_method_21_code 117 = .ok (.aload_n 0, 1) := by decide +kernel
theorem d_MS_rounded_118 : decode prog_15_method_21_code 118 = .ok (.iload 7, 2) := by decide +kernel
theorem d_MS_rounded_120 : decode prog_15_method_21_code 120 = .ok (.ifCond .ne 8, 3) := by decide +kernel
theorem d_MS_rounded_123 : decode prog_15_method_21_code 123 = .ok (.iload 8, 2) := by decide +kernel
theorem d_MS_rounded_125 : decode prog_15_method_21_code 125 = .ok (.ifCond .eq 7, 3) := by decide +kernel
theorem d_MS_rounded_128 : decode prog_15_method_21_code 128 = .ok (.iconst 1, 1) := by decide +kernel
theorem d_MS_rounded_129 : decode prog_15_method_21_code 129 = .ok (.goto 4, 3) := by decide +kernel
theorem d_MS_rounded_132 : decode prog_15_method_21_code 132 = .ok (.iconst 0, 1) := by decide +kernel
theorem d_MS_rounded_133 : decode prog_15_method_21_code 133 = .ok (.putfield 98, 3) := by decide +kernel
theorem d_MS_rounded_136 : decode prog_15_method_21_code 136 = .ok (.aload_n 0, 1) := by decide +kernel
theorem d_MS_rounded_137 : decode prog_15_method_21_code 137 = .ok (.invokevirtual 101, 3) := by decide +kernel
theorem d_MS_rounded_140 : decode prog_15_method_21_code 140 = .ok (.ifCond .ne 32, 3) := by decide +kernel
theorem d_MS_rounded_143 : decode prog_15_method_21_code 143 = .ok (.iload 7, 2) := by decide +kernel
theorem d_MS_rounded_145 : decode prog_15_method_21_code 145 = .ok (.ifCond .eq 23, 3) := by decide +kernel
theorem d_MS_rounded_148 : decode prog_15_method_21_code 148 = .ok (.iload 8, 2) := by decide +kernel
theorem d_MS_rounded_150 : decode prog_15_method_21_code 150 = .ok (.ifCond .ne 14, 3) := by decide +kernel
theorem d_MS_rounded_153 : decode prog_15_method_21_code 153 = .ok (.lload 5, 2) := by decide +kernel
theorem d_MS_rounded_155 : decode prog_15_method_21_code 155 = .ok (.ldc2_w 60, 3) := by decide +kernel
theorem d_MS_rounded_158 : decode prog_15_method_21_code 158 = .ok (.lrem, 1) := by decide +kernel
theorem d_MS_rounded_159 : decode prog_15_method_21_code 159 = .ok (.lconst 1, 1) := by decide +kernel
theorem d_MS_rounded_160 : decode prog_15_method_21_code 160 = .ok (.lcmp, 1) := by decide +kernel
theorem d_MS_rounded_161 : decode prog_15_method_21_code 161 = .ok (.ifCond .ne 7, 3) := by decide +kernel
theorem d_MS_rounded_164 : decode prog_15_method_21_code 164 = .ok (.iconst 1, 1) := by decide +kernel
theorem d_MS_rounded_165 : decode prog_15_method_21_code 165 = .ok (.goto 36, 3) := by decide +kernel
theorem d_MS_rounded_168 : decode prog_15_method_21_code 168 = .ok (.iconst 0, 1) := by decide +kernel
theorem d_MS_rounded_169 : decode prog_15_method_21_code 169 = .ok (.goto 32, 3) := by decide +kernel
theorem d_MS_rounded_172 : decode prog_15_method_21_code 172 = .ok (.aload_n 0, 1) := by decide +kernel
theorem d_MS_rounded_173 : decode prog_15_method_21_code 173 = .ok (.getfield 98, 3) := by decide +kernel
theorem d_MS_rounded_176 : decode prog_15_method_21_code 176 = .ok (.ifCond .eq 24, 3) := by decide +kernel
theorem d_MS_rounded_179 : decode prog_15_method_21_code 179 = .ok (.aload_n 0, 1) := by decide +kernel
theorem d_MS_rounded_180 : decode prog_15_method_21_code 180 = .ok (.invokevirtual 101, 3) := by decide +kernel
theorem d_MS_rounded_183 : decode prog_15_method_21_code 183 = .ok (.iload 4, 2) := by decide +kernel
theorem d_MS_rounded_185 : decode prog_15_method_21_code 185 = .ok (.ifCond .eq 7, 3) := by decide +kernel
theorem d_MS_rounded_188 : decode prog_15_method_21_code 188 = .ok (.iconst 1, 1) := by decide +kernel
theorem d_MS_rounded_189 : decode prog_15_method_21_code 189 = .ok (.goto 4, 3) := by decide +kernel
theorem d_MS_rounded_192 : decode prog_15_method_21_code 192 = .ok (.iconst 2, 1) := by decide +kernel
theorem d_MS_rounded_193 : decode prog_15_method_21_code 193 = .ok (.if_icmp .ne 7, 3) := by decide +kernel
theorem d_MS_rounded_196 : decode prog_15_method_21_code 196 = .ok (.iconst 1, 1) := by decide +kernel
theorem d_MS_rounded_197 : decode prog_15_method_21_code 197 = .ok (.goto 4, 3) := by decide +kernel
theorem d_MS_rounded_200 : decode prog_15_method_21_code 200 = .ok (.iconst 0, 1) := by decide +kernel
theorem d_MS_rounded_201 : decode prog_15_method_21_code 201 = .ok (.istore 9, 2) := by decide +kernel
theorem d_MS_rounded_203 : decode prog_15_method_21_code 203 = .ok (.iload 9, 2) := by decide +kernel
theorem d_MS_rounded_205 : decode prog_15_method_21_code 205 = .ok (.ifCond .eq 10, 3) := by decide +kernel
theorem d_MS_rounded_208 : decode prog_15_method_21_code 208 = .ok (.lload 5, 2) := by decide +kernel
theorem d_MS_rounded_210 : decode prog_15_method_21_code 210 = .ok (.lconst 1, 1) := by decide +kernel
theorem d_MS_rounded_211 : decode prog_15_method_21_code 211 = .ok (.ladd, 1) := by decide +kernel
theorem d_MS_rounded_212 : decode prog_15_method_21_code 212 = .ok (.goto 5, 3) := by decide +kernel
theorem d_MS_rounded_215 : decode prog_15_method_21_code 215 = .ok (.lload 5, 2) := by decide +kernel
theorem d_MS_rounded_217 : decode prog_15_method_21_code 217 = .ok (.lreturn, 1) := by decide +kernel
theorem d_MS_make_0 : decode prog_15_method_22_code 0 = .ok (.iload_n 1, 1) := by decide +kernel
theorem d_MS_make_1 : decode prog_15_method_22_code 1 = .ok (.ifCond .eq 8, 3) := by decide +kernel
theorem d_MS_make_4 : decode prog_15_method_22_code 4 = .ok (.ldc 33, 2) := by decide +kernel
theorem d_MS_make_6 : decode prog_15_method_22_code 6 = .ok (.goto 4, 3) := by decide +kernel
theorem d_MS_make_9 : decode prog_15_method_22_code 9 = .ok (.iconst 0, 1) := by decide +kernel
theorem d_MS_make_10 : decode prog_15_method_22_code 10 = .ok (.istore 5, 2) := by decide +kernel
theorem d_MS_make_12 : decode prog_15_method_22_code 12 = .ok (.lload_n 2, 1) := by decide +kernel
theorem d_MS_make_13 : decode prog_15_method_22_code 13 = .ok (.lconst 0, 1) := by decide +kernel
theorem d_MS_make_14 : decode prog_15_method_22_code 14 = .ok (.lcmp, 1) := by decide +kernel
theorem d_MS_make_15 : decode prog_15_method_22_code 15 = .ok (.ifCond .ne 11, 3) := by decide +kernel
theorem d_MS_make_18 : decode prog_15_method_22_code 18 = .ok (.aload_n 0, 1) := by decide +kernel
theorem d_MS_make_19 : decode prog_15_method_22_code 19 = .ok (.iload 5, 2) := by decide +kernel
theorem d_MS_make_21 : decode prog_15_method_22_code 21 = .ok (.lconst 0, 1) := by decide +kernel
theorem d_MS_make_22 : decode prog_15_method_22_code 22 = .ok (.invokevirtual 88, 3) := by decide +kernel
theorem d_MS_make_25 : decode prog_15_method_22_code 25 = .ok (.return_, 1) := by decide +kernel
theorem d_MS_make_26 : decode prog_15_method_22_code 26 = .ok (.lload_n 2, 1) := by decide +kernel
theorem d_MS_make_27 : decode prog_15_method_22_code 27 = .ok (.lstore 6, 2) := by decide +kernel
theorem d_MS_make_29 : decode prog_15_method_22_code 29 = .ok (.iload 4, 2) := by decide +kernel
theorem d_MS_make_31 : decode prog_15_method_22_code 31 = .ok (.bipush 63, 2) := by decide +kernel
theorem d_MS_make_33 : decode prog_15_method_22_code 33 = .ok (.iadd, 1) := by decide +kernel
theorem d_MS_make_34 : decode prog_15_method_22_code 34 = .ok (.istore 8, 2) := by decide +kernel
theorem d_MS_make_36 : decode prog_15_method_22_code 36 = .ok (.lload 6, 2) := by decide +kernel
theorem d_MS_make_38 : decode prog_15_method_22_code 38 = .ok (.lconst 0, 1) := by decide +kernel
theorem d_MS_make_39 : decode prog_15_method_22_code 39 = .ok (.lcmp, 1) := by decide +kernel
theorem d_MS_make_40 : decode prog_15_method_22_code 40 = .ok (.ifCond .le 17, 3) := by decide +kernel
theorem d_MS_make_43 : decode prog_15_method_22_code 43 = .ok (.ldc2_w 60, 3) := by decide +kernel
theorem d_MS_make_46 : decode prog_15_method_22_code 46 = .ok (.lload 6, 2) := by decide +kernel
theorem d_MS_make_48 : decode prog_15_method_22_code 48 = .ok (.lmul, 1) := by decide +kernel
theorem d_MS_make_49 : decode prog_15_method_22_code 49 = .ok (.lstore 6, 2) := by decide +kernel
theorem d_MS_make_51 : decode prog_15_method_22_code 51 = .ok (.iinc 8 (-1), 3) := by decide +kernel
theorem d_MS_make_54 : decode prog_15_method_22_code 54 = .ok (.goto (-18), 3) := by decide +kernel
theorem d_MS_make_57 : decode prog_15_method_22_code 57 = .ok (.iload 8, 2) := by decide +kernel
theorem d_MS_make_59 : decode prog_15_method_22_code 59 = .ok (.sipush (-16382), 3) := by decide +kernel
theorem d_MS_make_62 : decode prog_15_method_22_code 62 = .ok (.if_icmp .ge 111, 3) := by decide +kernel
theorem d_MS_make_65 : decode prog_15_method_22_code 65 = .ok (.aload_n 0, 1) := by decide +kernel
theorem d_MS_make_66 : decode prog_15_method_22_code 66 = .ok (.bipush 16, 2) := by decide +kernel
theorem d_MS_make_68 : decode prog_15_method_22_code 68 = .ok (.invokevirtual 75, 3) := by decide +kernel
theorem d_MS_make_71 : decode prog_15_method_22_code 71 = .ok (.ifCond .eq 102, 3) := by decide +kernel
theorem d_MS_make_74 : decode prog_15_method_22_code 74 = .ok (.sipush (-16445), 3) := by decide +kernel
theorem d_MS_make_77 : decode prog_15_method_22_code 77 = .ok (.iload 4, 2) := by decide +kernel
theorem d_MS_make_79 : decode prog_15_method_22_code 79 = .ok (.isub, 1) := by decide +kernel
theorem d_MS_make_80 : decode prog_15_method_22_code 80 = .ok (.istore 9, 2) := by decide +kernel
theorem d_MS_make_82 : decode prog_15_method_22_code 82 = .ok (.lload_n 2, 1) := by decide +kernel
theorem d_MS_make_83 : decode prog_15_method_22_code 83 = .ok (.lstore 10, 2) := by decide +kernel
theorem d_MS_make_85 : decode prog_15_method_22_code 85 = .ok (.aload_n 0, 1) := by decide +kernel
theorem d_MS_make_86 : decode prog_15_method_22_code 86 = .ok (.iconst 0, 1) := by decide +kernel
theorem d_MS_make_87 : decode prog_15_method_22_code 87 = .ok (.putfield 98, 3) := by decide +kernel
theorem d_MS_make_90 : decode prog_15_method_22_code 90 = .ok (.iload 9, 2) := by decide +kernel
theorem d_MS_make_92 : decode prog_15_method_22_code 92 = .ok (.ifCond .le 13, 3) := by decide +kernel
theorem d_MS_make_95 : decode prog_15_method_22_code 95 = .ok (.aload_n 0, 1) := by decide +kernel
theorem d_MS_make_96 : decode prog_15_method_22_code 96 = .ok (.lload_n 2, 1) := by decide +kernel
theorem d_MS_make_97 : decode prog_15_method_22_code 97 = .ok (.iload 9, 2) := by decide +kernel
theorem d_MS_make_99 : decode prog_15_method_22_code 99 = .ok (.iload_n 1, 1) := by decide +kernel
theorem d_MS_make_100 : decode prog_15_method_22_code 100 = .ok (.invokevirtual 105, 3) := by decide +kernel
theorem d_MS_make_103 : decode prog_15_method_22_code 103 = .ok (.lstore 10, 2) := by decide +kernel
theorem d_MS_make_105 : decode prog_15_method_22_code 105 = .ok (.iload 9, 2) := by decide +kernel
theorem d_MS_make_107 : decode prog_15_method_22_code 107 = .ok (.istore 12, 2) := by decide +kernel
theorem d_MS_make_109 : decode prog_15_method_22_code 109 = .ok (.iload 12, 2) := by decide +kernel
theorem d_MS_make_111 : decode prog_15_method_22_code 111 = .ok (.ifCond .ge 17, 3) := by decide +kernel
theorem d_MS_make_114 : decode prog_15_method_22_code 114 = .ok (.ldc2_w 60, 3) := by decide +kernel
theorem d_MS_make_117 : decode prog_15_method_22_code 117 = .ok (.lload 10, 2) := by decide +kernel
theorem d_MS_make_119 : decode prog_15_method_22_code 119 = .ok (.lmul, 1) := by decide +kernel
theorem d_MS_make_120 : decode prog_15_method_22_code 120 = .ok (.lstore 10, 2) := by decide +kernel
theorem d_MS_make_122 : decode prog_15_method_22_code 122 = .ok (.iinc 12 1, 3) := by decide +kernel
theorem d_MS_make_125 : decode prog_15_method_22_code 125 = .ok (.goto (-16), 3) := by decide +kernel
theorem d_MS_make_128 : decode prog_15_method_22_code 128 = .ok (.aload_n 0, 1) := by decide +kernel
theorem d_MS_make_129 : decode prog_15_method_22_code 129 = .ok (.getfield 98, 3) := by decide +kernel
theorem d_MS_make_132 : decode prog_15_method_22_code 132 = .ok (.ifCond .eq 17, 3) := by decide +kernel
theorem d_MS_make_135 : decode prog_15_method_22_code 135 = .ok (.aload_n 0, 1) := by decide +kernel
theorem d_MS_make_136 : decode prog_15_method_22_code 136 = .ok (.bipush 16, 2) := by decide +kernel
theorem d_MS_make_138 : decode prog_15_method_22_code 138 = .ok (.invokevirtual 85, 3) := by decide +kernel
theorem d_MS_make_141 : decode prog_15_method_22_code 141 = .ok (.pop, 1) := by decide +kernel
theorem d_MS_make_142 : decode prog_15_method_22_code 142 = .ok (.aload_n 0, 1) := by decide +kernel
theorem d_MS_make_143 : decode prog_15_method_22_code 143 = .ok (.bipush 32, 2) := by decide +kernel
theorem d_MS_make_145 : decode prog_15_method_22_code 145 = .ok (.invokevirtual 85, 3) := by decide +kernel
theorem d_MS_make_148 : decode prog_15_method_22_code 148 = .ok (.pop, 1) := by decide +kernel
theorem d_MS_make_149 : decode prog_15_method_22_code 149 = .ok (.aload_n 0, 1) := by decide +kernel
theorem d_MS_make_150 : decode prog_15_method_22_code 150 = .ok (.iload 5, 2) := by decide +kernel
theorem d_MS_make_152 : decode prog_15_method_22_code 152 = .ok (.lload 10, 2) := by decide +kernel
theorem d_MS_make_154 : decode prog_15_method_22_code 154 = .ok (.lconst 0, 1) := by decide +kernel
theorem d_MS_make_155 : decode prog_15_method_22_code 155 = .ok (.lcmp, 1) := by decide +kernel
theorem d_MS_make_156 : decode prog_15_method_22_code 156 = .ok (.ifCond .ge 7, 3) := by decide +kernel
theorem d_MS_make_159 : decode prog_15_method_22_code 159 = .ok (.iconst 1, 1) := by decide +kernel
theorem d_MS_make_160 : decode prog_15_method_22_code 160 = .ok (.goto 4, 3) := by decide +kernel
theorem d_MS_make_163 : decode prog_15_method_22_code 163 = .ok (.iconst 0, 1) := by decide +kernel
theorem d_MS_make_164 : decode prog_15_method_22_code 164 = .ok (.iadd, 1) := by decide +kernel
theorem d_MS_make_165 : decode prog_15_method_22_code 165 = .ok (.lload 10, 2) := by decide +kernel
theorem d_MS_make_167 : decode prog_15_method_22_code 167 = .ok (.invokevirtual 88, 3) := by decide +kernel
theorem d_MS_make_170 : decode prog_15_method_22_code 170 = .ok (.goto 183, 3) := by decide +kernel
theorem d_MS_make_173 : decode prog_15_method_22_code 173 = .ok (.iload 8, 2) := by decide +kernel
theorem d_MS_make_175 : decode prog_15_method_22_code 175 = .ok (.sipush (-16382), 3) := by decide +kernel
theorem d_MS_make_178 : decode prog_15_method_22_code 178 = .ok (.if_icmp .ge 32, 3) := by decide +kernel
theorem d_MS_make_181 : decode prog_15_method_22_code 181 = .ok (.aload_n 0, 1) := by decide +kernel
theorem d_MS_make_182 : decode prog_15_method_22_code 182 = .ok (.bipush 16, 2) := by decide +kernel
theorem d_MS_make_184 : decode prog_15_method_22_code 184 = .ok (.invokevirtual 85, 3) := by decide +kernel
theorem d_MS_make_187 : decode prog_15_method_22_code 187 = .ok (.pop, 1) := by decide +kernel
theorem d_MS_make_188 : decode prog_15_method_22_code 188 = .ok (.aload_n 0, 1) := by decide +kernel
theorem d_MS_make_189 : decode prog_15_method_22_code 189 = .ok (.iload 5, 2) := by decide +kernel
theorem d_MS_make_191 : decode prog_15_method_22_code 191 = .ok (.iload 8, 2) := by decide +kernel
theorem d_MS_make_193 : decode prog_15_method_22_code 193 = .ok (.iadd, 1) := by decide +kernel
theorem d_MS_make_194 : decode prog_15_method_22_code 194 = .ok (.sipush 16383, 3) := by decide +kernel
theorem d_MS_make_197 : decode prog_15_method_22_code 197 = .ok (.iadd, 1) := by decide +kernel
theorem d_MS_make_198 : decode prog_15_method_22_code 198 = .ok (.sipush 24576, 3) := by decide +kernel
theorem d_MS_make_201 : decode prog_15_method_22_code 201 = .ok (.iadd, 1) := by decide +kernel
theorem d_MS_make_202 : decode prog_15_method_22_code 202 = .ok (.lload 6, 2) := by decide +kernel
theorem d_MS_make_204 : decode prog_15_method_22_code 204 = .ok (.invokevirtual 88, 3) := by decide +kernel
theorem d_MS_make_207 : decode prog_15_method_22_code 207 = .ok (.goto 146, 3) := by decide +kernel
theorem d_MS_make_210 : decode prog_15_method_22_code 210 = .ok (.iload 8, 2) := by decide +kernel
theorem d_MS_make_212 : decode prog_15_method_22_code 212 = .ok (.sipush 16384, 3) := by decide +kernel
theorem d_MS_make_215 : decode prog_15_method_22_code 215 = .ok (.if_icmp .ge 21, 3) := by decide +kernel
theorem d_MS_make_218 : decode prog_15_method_22_code 218 = .ok (.aload_n 0, 1) := by decide +kernel
theorem d_MS_make_219 : decode prog_15_method_22_code 219 = .ok (.iload 5, 2) := by decide +kernel
theorem d_MS_make_221 : decode prog_15_method_22_code 221 = .ok (.iload 8, 2) := by decide +kernel
theorem d_MS_make_223 : decode prog_15_method_22_code 223 = .ok (.iadd, 1) := by decide +kernel
theorem d_MS_make_224 : decode prog_15_method_22_code 224 = .ok (.sipush 16383, 3) := by decide +kernel
theorem d_MS_make_227 : decode prog_15_method_22_code 227 = .ok (.iadd, 1) := by decide +kernel
theorem d_MS_make_228 : decode prog_15_method_22_code 228 = .ok (.lload 6, 2) := by decide +kernel
theorem d_MS_make_230 : decode prog_15_method_22_code 230 = .ok (.invokevirtual 88, 3) := by decide +kernel
theorem d_MS_make_233 : decode prog_15_method_22_code 233 = .ok (.goto 120, 3) := by decide +kernel
theorem d_MS_make_236 : decode prog_15_method_22_code 236 = .ok (.aload_n 0, 1) := by decide +kernel
theorem d_MS_make_237 : decode prog_15_method_22_code 237 = .ok (.bipush 8, 2) := by decide +kernel
theorem d_MS_make_239 : decode prog_15_method_22_code 239 = .ok (.invokevirtual 75, 3) := by decide +kernel
theorem d_MS_make_242 : decode prog_15_method_22_code 242 = .ok (.ifCond .ne 32, 3) := by decide +kernel
theorem d_MS_make_245 : decode prog_15_method_22_code 245 = .ok (.aload_n 0, 1) := by decide +kernel
theorem d_MS_make_246 : decode prog_15_method_22_code 246 = .ok (.bipush 8, 2) := by decide +kernel
theorem d_MS_make_248 : decode prog_15_method_22_code 248 = .ok (.invokevirtual 85, 3) := by decide +kernel
theorem d_MS_make_251 : decode prog_15_method_22_code 251 = .ok (.pop, 1) := by decide +kernel
theorem d_MS_make_252 : decode prog_15_method_22_code 252 = .ok (.aload_n 0, 1) := by decide +kernel
theorem d_MS_make_253 : decode prog_15_method_22_code 253 = .ok (.iload 5, 2) := by decide +kernel
theorem d_MS_make_255 : decode prog_15_method_22_code 255 = .ok (.iload 8, 2) := by decide +kernel
theorem d_MS_make_257 : decode prog_15_method_22_code 257 = .ok (.iadd, 1) := by decide +kernel
theorem d_MS_make_258 : decode prog_15_method_22_code 258 = .ok (.sipush 16383, 3) := by decide +kernel
theorem d_MS_make_261 : decode prog_15_method_22_code 261 = .ok (.iadd, 1) := by decide +kernel
theorem d_MS_make_262 : decode prog_15_method_22_code 262 = .ok (.sipush 24576, 3) := by decide +kernel
theorem d_MS_make_265 : decode prog_15_method_22_code 265 = .ok (.isub, 1) := by decide +kernel
theorem d_MS_make_266 : decode prog_15_method_22_code 266 = .ok (.lload 6, 2) := by decide +kernel
theorem d_MS_make_268 : decode prog_15_method_22_code 268 = .ok (.invokevirtual 88, 3) := by decide +kernel
theorem d_MS_make_271 : decode prog_15_method_22_code 271 = .ok (.goto 82, 3) := by decide +kernel
theorem d_MS_make_274 : decode prog_15_method_22_code 274 = .ok (.aload_n 0, 1) := by decide +kernel
theorem d_MS_make_275 : decode prog_15_method_22_code 275 = .ok (.bipush 8, 2) := by decide +kernel
theorem d_MS_make_277 : decode prog_15_method_22_code 277 = .ok (.invokevirtual 85, 3) := by decide +kernel
theorem d_MS_make_280 : decode prog_15_method_22_code 280 = .ok (.pop, 1) := by decide +kernel
theorem d_MS_make_281 : decode prog_15_method_22_code 281 = .ok (.aload_n 0, 1) := by decide +kernel
theorem d_MS_make_282 : decode prog_15_method_22_code 282 = .ok (.bipush 32, 2) := by decide +kernel
theorem d_MS_make_284 : decode prog_15_method_22_code 284 = .ok (.invokevirtual 85, 3) := by decide +kernel
theorem d_MS_make_287 : decode prog_15_method_22_code 287 = .ok (.pop, 1) := by decide +kernel
theorem d_MS_make_288 : decode prog_15_method_22_code 288 = .ok (.aload_n 0, 1) := by decide +kernel
theorem d_MS_make_289 : decode prog_15_method_22_code 289 = .ok (.invokevirtual 101, 3) := by decide +kernel
theorem d_MS_make_292 : decode prog_15_method_22_code 292 = .ok (.ifCond .eq 19, 3) := by decide +kernel
theorem d_MS_make_295 : decode prog_15_method_22_code 295 = .ok (.aload_n 0, 1) := by decide +kernel
theorem d_MS_make_296 : decode prog_15_method_22_code 296 = .ok (.invokevirtual 101, 3) := by decide +kernel
theorem d_MS_make_299 : decode prog_15_method_22_code 299 = .ok (.iload_n 1, 1) := by decide +kernel
theorem d_MS_make_300 : decode prog_15_method_22_code 300 = .ok (.ifCond .eq 7, 3) := by decide +kernel
theorem d_MS_make_303 : decode prog_15_method_22_code 303 = .ok (.iconst 1, 1) := by decide +kernel
theorem d_MS_make_304 : decode prog_15_method_22_code 304 = .ok (.goto 4, 3) := by decide +kernel
theorem d_MS_make_307 : decode prog_15_method_22_code 307 = .ok (.iconst 2, 1) := by decide +kernel
theorem d_MS_make_308 : decode prog_15_method_22_code 308 = .ok (.if_icmp .ne 7, 3) := by decide +kernel
theorem d_MS_make_311 : decode prog_15_method_22_code 311 = .ok (.iconst 1, 1) := by decide +kernel
theorem d_MS_make_312 : decode prog_15_method_22_code 312 = .ok (.goto 4, 3) := by decide +kernel
theorem d_MS_make_315 : decode prog_15_method_22_code 315 = .ok (.iconst 0, 1) := by decide +kernel
theorem d_MS_make_316 : decode prog_15_method_22_code 316 = .ok (.istore 9, 2) := by decide +kernel
theorem d_MS_make_318 : decode prog_15_method_22_code 318 = .ok (.aload_n 0, 1) := by decide +kernel
theorem d_MS_make_319 : decode prog_15_method_22_code 319 = .ok (.iload 5, 2) := by decide +kernel
theorem d_MS_make_321 : decode prog_15_method_22_code 321 = .ok (.iload 9, 2) := by decide +kernel
theorem d_MS_make_323 : decode prog_15_method_22_code 323 = .ok (.ifCond .eq 9, 3) := by decide +kernel
theorem d_MS_make_326 : decode prog_15_method_22_code 326 = .ok (.sipush 32767, 3) := by decide +kernel
theorem d_MS_make_329 : decode prog_15_method_22_code 329 = .ok (.goto 6, 3) := by decide +kernel
theorem d_MS_make_332 : decode prog_15_method_22_code 332 = .ok (.sipush 32766, 3) := by decide +kernel
theorem d_MS_make_335 : decode prog_15_method_22_code 335 = .ok (.iadd, 1) := by decide +kernel
theorem d_MS_make_336 : decode prog_15_method_22_code 336 = .ok (.iload 9, 2) := by decide +kernel
theorem d_MS_make_338 : decode prog_15_method_22_code 338 = .ok (.ifCond .eq 9, 3) := by decide +kernel
theorem d_MS_make_341 : decode prog_15_method_22_code 341 = .ok (.ldc2_w 34, 3) := by decide +kernel
theorem d_MS_make_344 : decode prog_15_method_22_code 344 = .ok (.goto 6, 3) := by decide +kernel
theorem d_MS_make_347 : decode prog_15_method_22_code 347 = .ok (.ldc2_w 109, 3) := by decide +kernel
theorem d_MS_make_350 : decode prog_15_method_22_code 350 = .ok (.invokevirtual 88, 3) := by decide +kernel
theorem d_MS_make_353 : decode prog_15_method_22_code 353 = .ok (.return_, 1) := by decide +kernel
theorem d_MS_keep_0 : decode prog_15_method_23_code 0 = .ok (.aload_n 0, 1) := by decide +kernel
theorem d_MS_keep_1 : decode prog_15_method_23_code 1 = .ok (.getfield 68, 3) := by decide +kernel
theorem d_MS_keep_4 : decode prog_15_method_23_code 4 = .ok (.ifCond .ne 4, 3) := by decide +kernel
theorem d_MS_keep_7 : decode prog_15_method_23_code 7 = .ok (.return_, 1) := by decide +kernel
theorem d_MS_keep_8 : decode prog_15_method_23_code 8 = .ok (.aload_n 0, 1) := by decide +kernel
theorem d_MS_keep_9 : decode prog_15_method_23_code 9 = .ok (.getfield 13, 3) := by decide +kernel
theorem d_MS_keep_12 : decode prog_15_method_23_code 12 = .ok (.iload_n 1, 1) := by decide +kernel
theorem d_MS_keep_13 : decode prog_15_method_23_code 13 = .ok (.aload_n 0, 1) := by decide +kernel
theorem d_MS_keep_14 : decode prog_15_method_23_code 14 = .ok (.getfield 62, 3) := by decide +kernel
theorem d_MS_keep_17 : decode prog_15_method_23_code 17 = .ok (.iastore, 1) := by decide +kernel
theorem d_MS_keep_18 : decode prog_15_method_23_code 18 = .ok (.aload_n 0, 1) := by decide +kernel
theorem d_MS_keep_19 : decode prog_15_method_23_code 19 = .ok (.getfield 17, 3) := by decide +kernel
theorem d_MS_keep_22 : decode prog_15_method_23_code 22 = .ok (.iload_n 1, 1) := by decide +kernel
theorem d_MS_keep_23 : decode prog_15_method_23_code 23 = .ok (.aload_n 0, 1) := by decide +kernel
theorem d_MS_keep_24 : decode prog_15_method_23_code 24 = .ok (.getfield 65, 3) := by decide +kernel
theorem d_MS_keep_27 : decode prog_15_method_23_code 27 = .ok (.lastore, 1) := by decide +kernel
theorem d_MS_keep_28 : decode prog_15_method_23_code 28 = .ok (.return_, 1) := by decide +kernel
theorem d_MS_extract_0 : decode prog_15_method_26_code 0 = .ok (.aload_n 0, 1) := by decide +kernel
theorem d_MS_extract_1 : decode prog_15_method_26_code 1 = .ok (.iload_n 1, 1) := by decide +kernel
theorem d_MS_extract_2 : decode prog_15_method_26_code 2 = .ok (.invokestatic 25, 3) := by decide +kernel
theorem d_MS_extract_5 : decode prog_15_method_26_code 5 = .ok (.ifCond .ne 17, 3) := by decide +kernel
theorem d_MS_extract_8 : decode prog_15_method_26_code 8 = .ok (.iload_n 2, 1) := by decide +kernel
theorem d_MS_extract_9 : decode prog_15_method_26_code 9 = .ok (.invokestatic 25, 3) := by decide +kernel
theorem d_MS_extract_12 : decode prog_15_method_26_code 12 = .ok (.ifCond .ne 10, 3) := by decide +kernel
theorem d_MS_extract_15 : decode prog_15_method_26_code 15 = .ok (.iload_n 3, 1) := by decide +kernel
theorem d_MS_extract_16 : decode prog_15_method_26_code 16 = .ok (.invokestatic 25, 3) := by decide +kernel
theorem d_MS_extract_19 : decode prog_15_method_26_code 19 = .ok (.ifCond .eq 7, 3) := by decide +kernel
theorem d_MS_extract_22 : decode prog_15_method_26_code 22 = .ok (.iconst 1, 1) := by decide +kernel
theorem d_MS_extract_23 : decode prog_15_method_26_code 23 = .ok (.goto 13, 3) := by decide +kernel
theorem d_MS_extract_26 : decode prog_15_method_26_code 26 = .ok (.iload_n 2, 1) := by decide +kernel
theorem d_MS_extract_27 : decode prog_15_method_26_code 27 = .ok (.iload_n 3, 1) := by decide +kernel
theorem d_MS_extract_28 : decode prog_15_method_26_code 28 = .ok (.if_icmp .ne 7, 3) := by decide +kernel
theorem d_MS_extract_31 : decode prog_15_method_26_code 31 = .ok (.iconst 2, 1) := by decide +kernel
theorem d_MS_extract_32 : decode prog_15_method_26_code 32 = .ok (.goto 4, 3) := by decide +kernel
theorem d_MS_extract_35 : decode prog_15_method_26_code 35 = .ok (.iconst 0, 1) := by decide +kernel
theorem d_MS_extract_36 : decode prog_15_method_26_code 36 = .ok (.putfield 21, 3) := by decide +kernel
theorem d_MS_extract_39 : decode prog_15_method_26_code 39 = .ok (.aload_n 0, 1) := by decide +kernel
theorem d_MS_extract_40 : decode prog_15_method_26_code 40 = .ok (.getfield 21, 3) := by decide +kernel
theorem d_MS_extract_43 : decode prog_15_method_26_code 43 = .ok (.ifCond .le 5, 3) := by decide +kernel
theorem d_MS_extract_46 : decode prog_15_method_26_code 46 = .ok (.iconst 0, 1) := by decide +kernel
theorem d_MS_extract_47 : decode prog_15_method_26_code 47 = .ok (.ireturn, 1) := by decide +kernel
theorem d_MS_extract_48 : decode prog_15_method_26_code 48 = .ok (.aload_n 0, 1) := by decide +kernel
theorem d_MS_extract_49 : decode prog_15_method_26_code 49 = .ok (.invokevirtual 111, 3) := by decide +kernel
theorem d_MS_extract_52 : decode prog_15_method_26_code 52 = .ok (.iconst 0, 1) := by decide +kernel
theorem d_MS_extract_53 : decode prog_15_method_26_code 53 = .ok (.istore 4, 2) := by decide +kernel
theorem d_MS_extract_55 : decode prog_15_method_26_code 55 = .ok (.lconst 0, 1) := by decide +kernel
theorem d_MS_extract_56 : decode prog_15_method_26_code 56 = .ok (.lstore 5, 2) := by decide +kernel
theorem d_MS_extract_58 : decode prog_15_method_26_code 58 = .ok (.aload_n 0, 1) := by decide +kernel
theorem d_MS_extract_59 : decode prog_15_method_26_code 59 = .ok (.iload_n 1, 1) := by decide +kernel
theorem d_MS_extract_60 : decode prog_15_method_26_code 60 = .ok (.iconst (-1), 1) := by decide +kernel
theorem d_MS_extract_61 : decode prog_15_method_26_code 61 = .ok (.iconst 1, 1) := by decide +kernel
theorem d_MS_extract_62 : decode prog_15_method_26_code 62 = .ok (.invokevirtual 114, 3) := by decide +kernel
theorem d_MS_extract_65 : decode prog_15_method_26_code 65 = .ok (.ifCond .eq 163, 3) := by decide +kernel
theorem d_MS_extract_68 : decode prog_15_method_26_code 68 = .ok (.aload_n 0, 1) := by decide +kernel
theorem d_MS_extract_69 : decode prog_15_method_26_code 69 = .ok (.iload_n 1, 1) := by decide +kernel
theorem d_MS_extract_70 : decode prog_15_method_26_code 70 = .ok (.invokevirtual 46, 3) := by decide +kernel
theorem d_MS_extract_73 : decode prog_15_method_26_code 73 = .ok (.iconst 4, 1) := by decide +kernel
theorem d_MS_extract_74 : decode prog_15_method_26_code 74 = .ok (.if_icmp .ne 32, 3) := by decide +kernel
theorem d_MS_extract_77 : decode prog_15_method_26_code 77 = .ok (.sipush 32767, 3) := by decide +kernel
theorem d_MS_extract_80 : decode prog_15_method_26_code 80 = .ok (.istore 4, 2) := by decide +kernel
theorem d_MS_extract_82 : decode prog_15_method_26_code 82 = .ok (.ldc2_w 34, 3) := by decide +kernel
theorem d_MS_extract_85 : decode prog_15_method_26_code 85 = .ok (.lstore 5, 2) := by decide +kernel
theorem d_MS_extract_87 : decode prog_15_method_26_code 87 = .ok (.aload_n 0, 1) := by decide +kernel
theorem d_MS_extract_88 : decode prog_15_method_26_code 88 = .ok (.aload_n 0, 1) := by decide +kernel
theorem d_MS_extract_89 : decode prog_15_method_26_code 89 = .ok (.getfield 13, 3) := by decide +kernel
theorem d_MS_extract_92 : decode prog_15_method_26_code 92 = .ok (.iload_n 1, 1) := by decide +kernel
theorem d_MS_extract_93 : decode prog_15_method_26_code 93 = .ok (.iaload, 1) := by decide +kernel
theorem d_MS_extract_94 : decode prog_15_method_26_code 94 = .ok (.aload_n 0, 1) := by decide +kernel
theorem d_MS_extract_95 : decode prog_15_method_26_code 95 = .ok (.getfield 17, 3) := by decide +kernel
theorem d_MS_extract_98 : decode prog_15_method_26_code 98 = .ok (.iload_n 1, 1) := by decide +kernel
theorem d_MS_extract_99 : decode prog_15_method_26_code 99 = .ok (.laload, 1) := by decide +kernel
theorem d_MS_extract_100 : decode prog_15_method_26_code 100 = .ok (.invokevirtual 88, 3) := by decide +kernel
theorem d_MS_extract_103 : decode prog_15_method_26_code 103 = .ok (.goto 137, 3) := by decide +kernel
theorem d_MS_extract_106 : decode prog_15_method_26_code 106 = .ok (.aload_n 0, 1) := by decide +kernel
theorem d_MS_extract_107 : decode prog_15_method_26_code 107 = .ok (.iload_n 1, 1) := by decide +kernel
theorem d_MS_extract_108 : decode prog_15_method_26_code 108 = .ok (.invokevirtual 126, 3) := by decide +kernel
theorem d_MS_extract_111 : decode prog_15_method_26_code 111 = .ok (.ifCond .eq 42, 3) := by decide +kernel
theorem d_MS_extract_114 : decode prog_15_method_26_code 114 = .ok (.ldc 24, 2) := by decide +kernel
theorem d_MS_extract_116 : decode prog_15_method_26_code 116 = .ok (.istore 4, 2) := by decide +kernel
theorem d_MS_extract_118 : decode prog_15_method_26_code 118 = .ok (.ldc2_w 34, 3) := by decide +kernel
theorem d_MS_extract_121 : decode prog_15_method_26_code 121 = .ok (.lstore 5, 2) := by decide +kernel
theorem d_MS_extract_123 : decode prog_15_method_26_code 123 = .ok (.aload_n 0, 1) := by decide +kernel
theorem d_MS_extract_124 : decode prog_15_method_26_code 124 = .ok (.iconst 4, 1) := by decide +kernel
theorem d_MS_extract_125 : decode prog_15_method_26_code 125 = .ok (.invokevirtual 85, 3) := by decide +kernel
theorem d_MS_extract_128 : decode prog_15_method_26_code 128 = .ok (.ifCond .eq 112, 3) := by decide +kernel
theorem d_MS_extract_131 : decode prog_15_method_26_code 131 = .ok (.aload_n 0, 1) := by decide +kernel
theorem d_MS_extract_132 : decode prog_15_method_26_code 132 = .ok (.aload_n 0, 1) := by decide +kernel
theorem d_MS_extract_133 : decode prog_15_method_26_code 133 = .ok (.iload_n 1, 1) := by decide +kernel
theorem d_MS_extract_134 : decode prog_15_method_26_code 134 = .ok (.invokevirtual 82, 3) := by decide +kernel
theorem d_MS_extract_137 : decode prog_15_method_26_code 137 = .ok (.ifCond .eq 8, 3) := by decide +kernel
theorem d_MS_extract_140 : decode prog_15_method_26_code 140 = .ok (.ldc 33, 2) := by decide +kernel
theorem d_MS_extract_142 : decode prog_15_method_26_code 142 = .ok (.goto 4, 3) := by decide +kernel
theorem d_MS_extract_145 : decode prog_15_method_26_code 145 = .ok (.iconst 0, 1) := by decide +kernel
theorem d_MS_extract_146 : decode prog_15_method_26_code 146 = .ok (.lconst 0, 1) := by decide +kernel
theorem d_MS_extract_147 : decode prog_15_method_26_code 147 = .ok (.invokevirtual 88, 3) := by decide +kernel
theorem d_MS_extract_150 : decode prog_15_method_26_code 150 = .ok (.goto 90, 3) := by decide +kernel
theorem d_MS_extract_153 : decode prog_15_method_26_code 153 = .ok (.aload_n 0, 1) := by decide +kernel
theorem d_MS_extract_154 : decode prog_15_method_26_code 154 = .ok (.iload_n 1, 1) := by decide +kernel
theorem d_MS_extract_155 : decode prog_15_method_26_code 155 = .ok (.invokevirtual 129, 3) := by decide +kernel
theorem d_MS_extract_158 : decode prog_15_method_26_code 158 = .ok (.aload_n 0, 1) := by decide +kernel
theorem d_MS_extract_159 : decode prog_15_method_26_code 159 = .ok (.getfield 57, 3) := by decide +kernel
theorem d_MS_extract_162 : decode prog_15_method_26_code 162 = .ok (.istore 7, 2) := by decide +kernel
theorem d_MS_extract_164 : decode prog_15_method_26_code 164 = .ok (.aload_n 0, 1) := by decide +kernel
theorem d_MS_extract_165 : decode prog_15_method_26_code 165 = .ok (.getfield 50, 3) := by decide +kernel
theorem d_MS_extract_168 : decode prog_15_method_26_code 168 = .ok (.lstore 8, 2) := by decide +kernel
theorem d_MS_extract_170 : decode prog_15_method_26_code 170 = .ok (.aload_n 0, 1) := by decide +kernel
theorem d_MS_extract_171 : decode prog_15_method_26_code 171 = .ok (.iload 7, 2) := by decide +kernel
theorem d_MS_extract_173 : decode prog_15_method_26_code 173 = .ok (.ifCond .ge 7, 3) := by decide +kernel
theorem d_MS_extract_176 : decode prog_15_method_26_code 176 = .ok (.iconst 1, 1) := by decide +kernel
theorem d_MS_extract_177 : decode prog_15_method_26_code 177 = .ok (.goto 4, 3) := by decide +kernel
theorem d_MS_extract_180 : decode prog_15_method_26_code 180 = .ok (.iconst 0, 1) := by decide +kernel
theorem d_MS_extract_181 : decode prog_15_method_26_code 181 = .ok (.iload 7, 2) := by decide +kernel
theorem d_MS_extract_183 : decode prog_15_method_26_code 183 = .ok (.ifCond .ge 10, 3) := by decide +kernel
theorem d_MS_extract_186 : decode prog_15_method_26_code 186 = .ok (.iload 7, 2) := by decide +kernel
theorem d_MS_extract_188 : decode prog_15_method_26_code 188 = .ok (.ineg, 1) := by decide +kernel
theorem d_MS_extract_189 : decode prog_15_method_26_code 189 = .ok (.i2l, 1) := by decide +kernel
theorem d_MS_extract_190 : decode prog_15_method_26_code 190 = .ok (.goto 6, 3) := by decide +kernel
theorem d_MS_extract_193 : decode prog_15_method_26_code 193 = .ok (.iload 7, 2) := by decide +kernel
theorem d_MS_extract_195 : decode prog_15_method_26_code 195 = .ok (.i2l, 1) := by decide +kernel
theorem d_MS_extract_196 : decode prog_15_method_26_code 196 = .ok (.iconst 0, 1) := by decide +kernel
theorem d_MS_extract_197 : decode prog_15_method_26_code 197 = .ok (.invokevirtual 118, 3) := by decide +kernel
theorem d_MS_extract_200 : decode prog_15_method_26_code 200 = .ok (.aload_n 0, 1) := by decide +kernel
theorem d_MS_extract_201 : decode prog_15_method_26_code 201 = .ok (.getfield 62, 3) := by decide +kernel
theorem d_MS_extract_204 : decode prog_15_method_26_code 204 = .ok (.istore 4, 2) := by decide +kernel
theorem d_MS_extract_206 : decode prog_15_method_26_code 206 = .ok (.aload_n 0, 1) := by decide +kernel
theorem d_MS_extract_207 : decode prog_15_method_26_code 207 = .ok (.getfield 65, 3) := by decide +kernel
theorem d_MS_extract_210 : decode prog_15_method_26_code 210 = .ok (.lstore 5, 2) := by decide +kernel
theorem d_MS_extract_212 : decode prog_15_method_26_code 212 = .ok (.aload_n 0, 1) := by decide +kernel
theorem d_MS_extract_213 : decode prog_15_method_26_code 213 = .ok (.aload_n 0, 1) := by decide +kernel
theorem d_MS_extract_214 : decode prog_15_method_26_code 214 = .ok (.iload_n 1, 1) := by decide +kernel
theorem d_MS_extract_215 : decode prog_15_method_26_code 215 = .ok (.invokevirtual 82, 3) := by decide +kernel
theorem d_MS_extract_218 : decode prog_15_method_26_code 218 = .ok (.lload 8, 2) := by decide +kernel
theorem d_MS_extract_220 : decode prog_15_method_26_code 220 = .ok (.bipush (-63), 2) := by decide +kernel
theorem d_MS_extract_222 : decode prog_15_method_26_code 222 = .ok (.invokevirtual 118, 3) := by decide +kernel
theorem d_MS_extract_225 : decode prog_15_method_26_code 225 = .ok (.goto 15, 3) := by decide +kernel
theorem d_MS_extract_228 : decode prog_15_method_26_code 228 = .ok (.aload_n 0, 1) := by decide +kernel
theorem d_MS_extract_229 : decode prog_15_method_26_code 229 = .ok (.getfield 62, 3) := by decide +kernel
theorem d_MS_extract_232 : decode prog_15_method_26_code 232 = .ok (.istore 4, 2) := by decide +kernel
theorem d_MS_extract_234 : decode prog_15_method_26_code 234 = .ok (.aload_n 0, 1) := by decide +kernel
theorem d_MS_extract_235 : decode prog_15_method_26_code 235 = .ok (.getfield 65, 3) := by decide +kernel
theorem d_MS_extract_238 : decode prog_15_method_26_code 238 = .ok (.lstore 5, 2) := by decide +kernel
theorem d_MS_extract_240 : decode prog_15_method_26_code 240 = .ok (.aload_n 0, 1) := by decide +kernel
theorem d_MS_extract_241 : decode prog_15_method_26_code 241 = .ok (.getfield 68, 3) := by decide +kernel
theorem d_MS_extract_244 : decode prog_15_method_26_code 244 = .ok (.ifCond .eq 24, 3) := by decide +kernel
theorem d_MS_extract_247 : decode prog_15_method_26_code 247 = .ok (.aload_n 0, 1) := by decide +kernel
theorem d_MS_extract_248 : decode prog_15_method_26_code 248 = .ok (.iload_n 3, 1) := by decide +kernel
theorem d_MS_extract_249 : decode prog_15_method_26_code 249 = .ok (.invokevirtual 122, 3) := by decide +kernel
theorem d_MS_extract_252 : decode prog_15_method_26_code 252 = .ok (.aload_n 0, 1) := by decide +kernel
theorem d_MS_extract_253 : decode prog_15_method_26_code 253 = .ok (.getfield 13, 3) := by decide +kernel
theorem d_MS_extract_256 : decode prog_15_method_26_code 256 = .ok (.iload_n 2, 1) := by decide +kernel
theorem d_MS_extract_257 : decode prog_15_method_26_code 257 = .ok (.iload 4, 2) := by decide +kernel
theorem d_MS_extract_259 : decode prog_15_method_26_code 259 = .ok (.iastore, 1) := by decide +kernel
theorem d_MS_extract_260 : decode prog_15_method_26_code 260 = .ok (.aload_n 0, 1) := by decide +kernel
theorem d_MS_extract_261 : decode prog_15_method_26_code 261 = .ok (.getfield 17, 3) := by decide +kernel
theorem d_MS_extract_264 : decode prog_15_method_26_code 264 = .ok (.iload_n 2, 1) := by decide +kernel
theorem d_MS_extract_265 : decode prog_15_method_26_code 265 = .ok (.lload 5, 2) := by decide +kernel
theorem d_MS_extract_267 : decode prog_15_method_26_code 267 = .ok (.lastore, 1) := by decide +kernel
theorem d_MS_extract_268 : decode prog_15_method_26_code 268 = .ok (.aload_n 0, 1) := by decide +kernel
theorem d_MS_extract_269 : decode prog_15_method_26_code 269 = .ok (.getfield 72, 3) := by decide +kernel
theorem d_MS_extract_272 : decode prog_15_method_26_code 272 = .ok (.ireturn, 1) := by decide +kernel
theorem d_MS_divide_0 : decode prog_15_method_28_code 0 = .ok (.aload_n 0, 1) := by decide +kernel
theorem d_MS_divide_1 : decode prog_15_method_28_code 1 = .ok (.iconst 0, 1) := by decide +kernel
theorem d_MS_divide_2 : decode prog_15_method_28_code 2 = .ok (.putfield 136, 3) := by decide +kernel
theorem d_MS_divide_5 : decode prog_15_method_28_code 5 = .ok (.aload_n 0, 1) := by decide +kernel
theorem d_MS_divide_6 : decode prog_15_method_28_code 6 = .ok (.iconst 0, 1) := by decide +kernel
theorem d_MS_divide_7 : decode prog_15_method_28_code 7 = .ok (.putfield 139, 3) := by decide +kernel
theorem d_MS_divide_10 : decode prog_15_method_28_code 10 = .ok (.iconst (-1), 1) := by decide +kernel
theorem d_MS_divide_11 : decode prog_15_method_28_code 11 = .ok (.istore_n 3, 1) := by decide +kernel
theorem d_MS_divide_12 : decode prog_15_method_28_code 12 = .ok (.lconst 0, 1) := by decide +kernel
theorem d_MS_divide_13 : decode prog_15_method_28_code 13 = .ok (.lstore 4, 2) := by decide +kernel
theorem d_MS_divide_15 : decode prog_15_method_28_code 15 = .ok (.aload_n 0, 1) := by decide +kernel
theorem d_MS_divide_16 : decode prog_15_method_28_code 16 = .ok (.iload_n 2, 1) := by decide +kernel
theorem d_MS_divide_17 : decode prog_15_method_28_code 17 = .ok (.invokevirtual 46, 3) := by decide +kernel
theorem d_MS_divide_20 : decode prog_15_method_28_code 20 = .ok (.iconst 4, 1) := by decide +kernel
theorem d_MS_divide_21 : decode prog_15_method_28_code 21 = .ok (.if_icmp .eq 39, 3) := by decide +kernel
theorem d_MS_divide_24 : decode prog_15_method_28_code 24 = .ok (.aload_n 0, 1) := by decide +kernel
theorem d_MS_divide_25 : decode prog_15_method_28_code 25 = .ok (.iload_n 1, 1) := by decide +kernel
theorem d_MS_divide_26 : decode prog_15_method_28_code 26 = .ok (.invokevirtual 126, 3) := by decide +kernel
theorem d_MS_divide_29 : decode prog_15_method_28_code 29 = .ok (.ifCond .ne 31, 3) := by decide +kernel
theorem d_MS_divide_32 : decode prog_15_method_28_code 32 = .ok (.aload_n 0, 1) := by decide +kernel
theorem d_MS_divide_33 : decode prog_15_method_28_code 33 = .ok (.iload_n 1, 1) := by decide +kernel
theorem d_MS_divide_34 : decode prog_15_method_28_code 34 = .ok (.invokevirtual 129, 3) := by decide +kernel
theorem d_MS_divide_37 : decode prog_15_method_28_code 37 = .ok (.aload_n 0, 1) := by decide +kernel
theorem d_MS_divide_38 : decode prog_15_method_28_code 38 = .ok (.getfield 50, 3) := by decide +kernel
theorem d_MS_divide_41 : decode prog_15_method_28_code 41 = .ok (.lstore 4, 2) := by decide +kernel
theorem d_MS_divide_43 : decode prog_15_method_28_code 43 = .ok (.aload_n 0, 1) := by decide +kernel
theorem d_MS_divide_44 : decode prog_15_method_28_code 44 = .ok (.getfield 57, 3) := by decide +kernel
theorem d_MS_divide_47 : decode prog_15_method_28_code 47 = .ok (.istore_n 3, 1) := by decide +kernel
theorem d_MS_divide_48 : decode prog_15_method_28_code 48 = .ok (.aload_n 0, 1) := by decide +kernel
theorem d_MS_divide_49 : decode prog_15_method_28_code 49 = .ok (.iload_n 2, 1) := by decide +kernel
theorem d_MS_divide_50 : decode prog_15_method_28_code 50 = .ok (.invokevirtual 129, 3) := by decide +kernel
theorem d_MS_divide_53 : decode prog_15_method_28_code 53 = .ok (.iload_n 3, 1) := by decide +kernel
theorem d_MS_divide_54 : decode prog_15_method_28_code 54 = .ok (.aload_n 0, 1) := by decide +kernel
theorem d_MS_divide_55 : decode prog_15_method_28_code 55 = .ok (.getfield 57, 3) := by decide +kernel
theorem d_MS_divide_58 : decode prog_15_method_28_code 58 = .ok (.isub, 1) := by decide +kernel
theorem d_MS_divide_59 : decode prog_15_method_28_code 59 = .ok (.istore_n 3, 1) := by decide +kernel
theorem d_MS_divide_60 : decode prog_15_method_28_code 60 = .ok (.iload_n 3, 1) := by decide +kernel
theorem d_MS_divide_61 : decode prog_15_method_28_code 61 = .ok (.ifCond .ge 24, 3) := by decide +kernel
theorem d_MS_divide_64 : decode prog_15_method_28_code 64 = .ok (.aload_n 0, 1) := by decide +kernel
theorem d_MS_divide_65 : decode prog_15_method_28_code 65 = .ok (.aload_n 0, 1) := by decide +kernel
theorem d_MS_divide_66 : decode prog_15_method_28_code 66 = .ok (.iload_n 1, 1) := by decide +kernel
theorem d_MS_divide_67 : decode prog_15_method_28_code 67 = .ok (.invokevirtual 82, 3) := by decide +kernel
theorem d_MS_divide_70 : decode prog_15_method_28_code 70 = .ok (.aload_n 0, 1) := by decide +kernel
theorem d_MS_divide_71 : decode prog_15_method_28_code 71 = .ok (.getfield 17, 3) := by decide +kernel
theorem d_MS_divide_74 : decode prog_15_method_28_code 74 = .ok (.iload_n 1, 1) := by decide +kernel
theorem d_MS_divide_75 : decode prog_15_method_28_code 75 = .ok (.laload, 1) := by decide +kernel
theorem d_MS_divide_76 : decode prog_15_method_28_code 76 = .ok (.aload_n 0, 1) := by decide +kernel
theorem d_MS_divide_77 : decode prog_15_method_28_code 77 = .ok (.iload_n 1, 1) := by decide +kernel
theorem d_MS_divide_78 : decode prog_15_method_28_code 78 = .ok (.invokevirtual 54, 3) := by decide +kernel
theorem d_MS_divide_81 : decode prog_15_method_28_code 81 = .ok (.invokevirtual 118, 3) := by decide +kernel
theorem d_MS_divide_84 : decode prog_15_method_28_code 84 = .ok (.return_, 1) := by decide +kernel
theorem d_MS_divide_85 : decode prog_15_method_28_code 85 = .ok (.aload_n 0, 1) := by decide +kernel
theorem d_MS_divide_86 : decode prog_15_method_28_code 86 = .ok (.iload_n 3, 1) := by decide +kernel
theorem d_MS_divide_87 : decode prog_15_method_28_code 87 = .ok (.bipush 63, 2) := by decide +kernel
theorem d_MS_divide_89 : decode prog_15_method_28_code 89 = .ok (.if_icmp .le 7, 3) := by decide +kernel
theorem d_MS_divide_92 : decode prog_15_method_28_code 92 = .ok (.iconst 1, 1) := by decide +kernel
theorem d_MS_divide_93 : decode prog_15_method_28_code 93 = .ok (.goto 4, 3) := by decide +kernel
theorem d_MS_divide_96 : decode prog_15_method_28_code 96 = .ok (.iconst 0, 1) := by decide +kernel
theorem d_MS_divide_97 : decode prog_15_method_28_code 97 = .ok (.putfield 139, 3) := by decide +kernel
theorem d_MS_divide_100 : decode prog_15_method_28_code 100 = .ok (.aload_n 0, 1) := by decide +kernel
theorem d_MS_divide_101 : decode prog_15_method_28_code 101 = .ok (.getfield 139, 3) := by decide +kernel
theorem d_MS_divide_104 : decode prog_15_method_28_code 104 = .ok (.ifCond .eq 8, 3) := by decide +kernel
theorem d_MS_divide_107 : decode prog_15_method_28_code 107 = .ok (.bipush 63, 2) := by decide +kernel
theorem d_MS_divide_109 : decode prog_15_method_28_code 109 = .ok (.goto 4, 3) := by decide +kernel
theorem d_MS_divide_112 : decode prog_15_method_28_code 112 = .ok (.iload_n 3, 1) := by decide +kernel
theorem d_MS_divide_113 : decode prog_15_method_28_code 113 = .ok (.istore 6, 2) := by decide +kernel
theorem d_MS_divide_115 : decode prog_15_method_28_code 115 = .ok (.lconst 0, 1) := by decide +kernel
theorem d_MS_divide_116 : decode prog_15_method_28_code 116 = .ok (.lstore 7, 2) := by decide +kernel
theorem d_MS_divide_118 : decode prog_15_method_28_code 118 = .ok (.iconst 0, 1) := by decide +kernel
theorem d_MS_divide_119 : decode prog_15_method_28_code 119 = .ok (.istore 9, 2) := by decide +kernel
theorem d_MS_divide_121 : decode prog_15_method_28_code 121 = .ok (.iload 9, 2) := by decide +kernel
theorem d_MS_divide_123 : decode prog_15_method_28_code 123 = .ok (.bipush 64, 2) := by decide +kernel
theorem d_MS_divide_125 : decode prog_15_method_28_code 125 = .ok (.iload 6, 2) := by decide +kernel
theorem d_MS_divide_127 : decode prog_15_method_28_code 127 = .ok (.iadd, 1) := by decide +kernel
theorem d_MS_divide_128 : decode prog_15_method_28_code 128 = .ok (.if_icmp .ge 121, 3) := by decide +kernel
theorem d_MS_divide_131 : decode prog_15_method_28_code 131 = .ok (.lload 7, 2) := by decide +kernel
theorem d_MS_divide_133 : decode prog_15_method_28_code 133 = .ok (.lconst 0, 1) := by decide +kernel
theorem d_MS_divide_134 : decode prog_15_method_28_code 134 = .ok (.lcmp, 1) := by decide +kernel
theorem d_MS_divide_135 : decode prog_15_method_28_code 135 = .ok (.ifCond .ge 7, 3) := by decide +kernel
theorem d_MS_divide_138 : decode prog_15_method_28_code 138 = .ok (.iconst 1, 1) := by decide +kernel
theorem d_MS_divide_139 : decode prog_15_method_28_code 139 = .ok (.goto 4, 3) := by decide +kernel
theorem d_MS_divide_142 : decode prog_15_method_28_code 142 = .ok (.iconst 0, 1) := by decide +kernel
theorem d_MS_divide_143 : decode prog_15_method_28_code 143 = .ok (.istore 10, 2) := by decide +kernel
theorem d_MS_divide_145 : decode prog_15_method_28_code 145 = .ok (.ldc2_w 60, 3) := by decide +kernel
theorem d_MS_divide_148 : decode prog_15_method_28_code 148 = .ok (.lload 7, 2) := by decide +kernel
theorem d_MS_divide_150 : decode prog_15_method_28_code 150 = .ok (.lmul, 1) := by decide +kernel
theorem d_MS_divide_151 : decode prog_15_method_28_code 151 = .ok (.iload 9, 2) := by decide +kernel
theorem d_MS_divide_153 : decode prog_15_method_28_code 153 = .ok (.bipush 64, 2) := by decide +kernel
theorem d_MS_divide_155 : decode prog_15_method_28_code 155 = .ok (.if_icmp .ge 17, 3) := by decide +kernel
theorem d_MS_divide_158 : decode prog_15_method_28_code 158 = .ok (.lload 4, 2) := by decide +kernel
theorem d_MS_divide_160 : decode prog_15_method_28_code 160 = .ok (.iload 9, 2) := by decide +kernel
theorem d_MS_divide_162 : decode prog_15_method_28_code 162 = .ok (.lshl, 1) := by decide +kernel
theorem d_MS_divide_163 : decode prog_15_method_28_code 163 = .ok (.lconst 0, 1) := by decide +kernel
theorem d_MS_divide_164 : decode prog_15_method_28_code 164 = .ok (.lcmp, 1) := by decide +kernel
theorem d_MS_divide_165 : decode prog_15_method_28_code 165 = .ok (.ifCond .ge 7, 3) := by decide +kernel
theorem d_MS_divide_168 : decode prog_15_method_28_code 168 = .ok (.lconst 1, 1) := by decide +kernel
theorem d_MS_divide_169 : decode prog_15_method_28_code 169 = .ok (.goto 4, 3) := by decide +kernel
theorem d_MS_divide_172 : decode prog_15_method_28_code 172 = .ok (.lconst 0, 1) := by decide +kernel
theorem d_MS_divide_173 : decode prog_15_method_28_code 173 = .ok (.ladd, 1) := by decide +kernel
theorem d_MS_divide_174 : decode prog_15_method_28_code 174 = .ok (.lstore 7, 2) := by decide +kernel
theorem d_MS_divide_176 : decode prog_15_method_28_code 176 = .ok (.iload 10, 2) := by decide +kernel
theorem d_MS_divide_178 : decode prog_15_method_28_code 178 = .ok (.ifCond .ne 15, 3) := by decide +kernel
theorem d_MS_divide_181 : decode prog_15_method_28_code 181 = .ok (.lload 7, 2) := by decide +kernel
theorem d_MS_divide_183 : decode prog_15_method_28_code 183 = .ok (.aload_n 0, 1) := by decide +kernel
theorem d_MS_divide_184 : decode prog_15_method_28_code 184 = .ok (.getfield 50, 3) := by decide +kernel
theorem d_MS_divide_187 : decode prog_15_method_28_code 187 = .ok (.invokestatic 78, 3) := by decide +kernel
theorem d_MS_divide_190 : decode prog_15_method_28_code 190 = .ok (.ifCond .ne 7, 3) := by decide +kernel
theorem d_MS_divide_193 : decode prog_15_method_28_code 193 = .ok (.iconst 1, 1) := by decide +kernel
theorem d_MS_divide_194 : decode prog_15_method_28_code 194 = .ok (.goto 4, 3) := by decide +kernel
theorem d_MS_divide_197 : decode prog_15_method_28_code 197 = .ok (.iconst 0, 1) := by decide +kernel
theorem d_MS_divide_198 : decode prog_15_method_28_code 198 = .ok (.istore 11, 2) := by decide +kernel
theorem d_MS_divide_200 : decode prog_15_method_28_code 200 = .ok (.iload 11, 2) := by decide +kernel
theorem d_MS_divide_202 : decode prog_15_method_28_code 202 = .ok (.ifCond .eq 13, 3) := by decide +kernel
theorem d_MS_divide_205 : decode prog_15_method_28_code 205 = .ok (.lload 7, 2) := by decide +kernel
theorem d_MS_divide_207 : decode prog_15_method_28_code 207 = .ok (.aload_n 0, 1) := by decide +kernel
theorem d_MS_divide_208 : decode prog_15_method_28_code 208 = .ok (.getfield 50, 3) := by decide +kernel
theorem d_MS_divide_211 : decode prog_15_method_28_code 211 = .ok (.lsub, 1) := by decide +kernel
theorem d_MS_divide_212 : decode prog_15_method_28_code 212 = .ok (.goto 5, 3) := by decide +kernel
theorem d_MS_divide_215 : decode prog_15_method_28_code 215 = .ok (.lload 7, 2) := by decide +kernel
theorem d_MS_divide_217 : decode prog_15_method_28_code 217 = .ok (.lstore 7, 2) := by decide +kernel
theorem d_MS_divide_219 : decode prog_15_method_28_code 219 = .ok (.aload_n 0, 1) := by decide +kernel
theorem d_MS_divide_220 : decode prog_15_method_28_code 220 = .ok (.iconst 2, 1) := by decide +kernel
theorem d_MS_divide_221 : decode prog_15_method_28_code 221 = .ok (.aload_n 0, 1) := by decide +kernel
theorem d_MS_divide_222 : decode prog_15_method_28_code 222 = .ok (.getfield 136, 3) := by decide +kernel
theorem d_MS_divide_225 : decode prog_15_method_28_code 225 = .ok (.imul, 1) := by decide +kernel
theorem d_MS_divide_226 : decode prog_15_method_28_code 226 = .ok (.iload 11, 2) := by decide +kernel
theorem d_MS_divide_228 : decode prog_15_method_28_code 228 = .ok (.ifCond .eq 7, 3) := by decide +kernel
theorem d_MS_divide_231 : decode prog_15_method_28_code 231 = .ok (.iconst 1, 1) := by decide +kernel
theorem d_MS_divide_232 : decode prog_15_method_28_code 232 = .ok (.goto 4, 3) := by decide +kernel
theorem d_MS_divide_235 : decode prog_15_method_28_code 235 = .ok (.iconst 0, 1) := by decide +kernel
theorem d_MS_divide_236 : decode prog_15_method_28_code 236 = .ok (.iadd, 1) := by decide +kernel
theorem d_MS_divide_237 : decode prog_15_method_28_code 237 = .ok (.bipush 8, 2) := by decide +kernel
theorem d_MS_divide_239 : decode prog_15_method_28_code 239 = .ok (.irem, 1) := by decide +kernel
theorem d_MS_divide_240 : decode prog_15_method_28_code 240 = .ok (.putfield 136, 3) := by decide +kernel
theorem d_MS_divide_243 : decode prog_15_method_28_code 243 = .ok (.iinc 9 1, 3) := by decide +kernel
theorem d_MS_divide_246 : decode prog_15_method_28_code 246 = .ok (.goto (-125), 3) := by decide +kernel
theorem d_MS_divide_249 : decode prog_15_method_28_code 249 = .ok (.aload_n 0, 1) := by decide +kernel
theorem d_MS_divide_250 : decode prog_15_method_28_code 250 = .ok (.aload_n 0, 1) := by decide +kernel
theorem d_MS_divide_251 : decode prog_15_method_28_code 251 = .ok (.iload_n 1, 1) := by decide +kernel
theorem d_MS_divide_252 : decode prog_15_method_28_code 252 = .ok (.invokevirtual 82, 3) := by decide +kernel
theorem d_MS_divide_255 : decode prog_15_method_28_code 255 = .ok (.lload 7, 2) := by decide +kernel
theorem d_MS_divide_257 : decode prog_15_method_28_code 257 = .ok (.aload_n 0, 1) := by decide +kernel
theorem d_MS_divide_258 : decode prog_15_method_28_code 258 = .ok (.getfield 57, 3) := by decide +kernel
theorem d_MS_divide_261 : decode prog_15_method_28_code 261 = .ok (.iload_n 3, 1) := by decide +kernel
theorem d_MS_divide_262 : decode prog_15_method_28_code 262 = .ok (.iadd, 1) := by decide +kernel
theorem d_MS_divide_263 : decode prog_15_method_28_code 263 = .ok (.iload 6, 2) := by decide +kernel
theorem d_MS_divide_265 : decode prog_15_method_28_code 265 = .ok (.isub, 1) := by decide +kernel
theorem d_MS_divide_266 : decode prog_15_method_28_code 266 = .ok (.bipush 63, 2) := by decide +kernel
theorem d_MS_divide_268 : decode prog_15_method_28_code 268 = .ok (.isub, 1) := by decide +kernel
theorem d_MS_divide_269 : decode prog_15_method_28_code 269 = .ok (.invokevirtual 118, 3) := by decide +kernel
theorem d_MS_divide_272 : decode prog_15_method_28_code 272 = .ok (.return_, 1) := by decide +kernel
theorem d_MS_remainder_0 : decode prog_15_method_27_code 0 = .ok (.aload_n 0, 1) := by decide +kernel
theorem d_MS_remainder_1 : decode prog_15_method_27_code 1 = .ok (.iload_n 1, 1) := by decide +kernel
theorem d_MS_remainder_2 : decode prog_15_method_27_code 2 = .ok (.invokestatic 25, 3) := by decide +kernel
theorem d_MS_remainder_5 : decode prog_15_method_27_code 5 = .ok (.ifCond .ne 17, 3) := by decide +kernel
theorem d_MS_remainder_8 : decode prog_15_method_27_code 8 = .ok (.iload_n 2, 1) := by decide +kernel
theorem d_MS_remainder_9 : decode prog_15_method_27_code 9 = .ok (.invokestatic 25, 3) := by decide +kernel
theorem d_MS_remainder_12 : decode prog_15_method_27_code 12 = .ok (.ifCond .ne 10, 3) := by decide +kernel
theorem d_MS_remainder_15 : decode prog_15_method_27_code 15 = .ok (.iload_n 3, 1) := by decide +kernel
theorem d_MS_remainder_16 : decode prog_15_method_27_code 16 = .ok (.invokestatic 25, 3) := by decide +kernel
theorem d_MS_remainder_19 : decode prog_15_method_27_code 19 = .ok (.ifCond .eq 7, 3) := by decide +kernel
theorem d_MS_remainder_22 : decode prog_15_method_27_code 22 = .ok (.iconst 1, 1) := by decide +kernel
theorem d_MS_remainder_23 : decode prog_15_method_27_code 23 = .ok (.goto 4, 3) := by decide +kernel
theorem d_MS_remainder_26 : decode prog_15_method_27_code 26 = .ok (.iconst 0, 1) := by decide +kernel
theorem d_MS_remainder_27 : decode prog_15_method_27_code 27 = .ok (.putfield 21, 3) := by decide +kernel
theorem d_MS_remainder_30 : decode prog_15_method_27_code 30 = .ok (.aload_n 0, 1) := by decide +kernel
theorem d_MS_remainder_31 : decode prog_15_method_27_code 31 = .ok (.getfield 21, 3) := by decide +kernel
theorem d_MS_remainder_34 : decode prog_15_method_27_code 34 = .ok (.ifCond .le 5, 3) := by decide +kernel
theorem d_MS_remainder_37 : decode prog_15_method_27_code 37 = .ok (.iconst 0, 1) := by decide +kernel
theorem d_MS_remainder_38 : decode prog_15_method_27_code 38 = .ok (.ireturn, 1) := by decide +kernel
theorem d_MS_remainder_39 : decode prog_15_method_27_code 39 = .ok (.aload_n 0, 1) := by decide +kernel
theorem d_MS_remainder_40 : decode prog_15_method_27_code 40 = .ok (.invokevirtual 111, 3) := by decide +kernel
theorem d_MS_remainder_43 : decode prog_15_method_27_code 43 = .ok (.aload_n 0, 1) := by decide +kernel
theorem d_MS_remainder_44 : decode prog_15_method_27_code 44 = .ok (.iload_n 1, 1) := by decide +kernel
theorem d_MS_remainder_45 : decode prog_15_method_27_code 45 = .ok (.iload_n 2, 1) := by decide +kernel
theorem d_MS_remainder_46 : decode prog_15_method_27_code 46 = .ok (.aload_n 0, 1) := by decide +kernel
theorem d_MS_remainder_47 : decode prog_15_method_27_code 47 = .ok (.iload_n 1, 1) := by decide +kernel
theorem d_MS_remainder_48 : decode prog_15_method_27_code 48 = .ok (.invokevirtual 46, 3) := by decide +kernel
theorem d_MS_remainder_51 : decode prog_15_method_27_code 51 = .ok (.iconst 4, 1) := by decide +kernel
theorem d_MS_remainder_52 : decode prog_15_method_27_code 52 = .ok (.if_icmp .eq 24, 3) := by decide +kernel
theorem d_MS_remainder_55 : decode prog_15_method_27_code 55 = .ok (.aload_n 0, 1) := by decide +kernel
theorem d_MS_remainder_56 : decode prog_15_method_27_code 56 = .ok (.iload_n 2, 1) := by decide +kernel
theorem d_MS_remainder_57 : decode prog_15_method_27_code 57 = .ok (.invokevirtual 126, 3) := by decide +kernel
theorem d_MS_remainder_60 : decode prog_15_method_27_code 60 = .ok (.ifCond .ne 16, 3) := by decide +kernel
theorem d_MS_remainder_63 : decode prog_15_method_27_code 63 = .ok (.aload_n 0, 1) := by decide +kernel
theorem d_MS_remainder_64 : decode prog_15_method_27_code 64 = .ok (.iload_n 2, 1) := by decide +kernel
theorem d_MS_remainder_65 : decode prog_15_method_27_code 65 = .ok (.invokevirtual 46, 3) := by decide +kernel
theorem d_MS_remainder_68 : decode prog_15_method_27_code 68 = .ok (.iconst 2, 1) := by decide +kernel
theorem d_MS_remainder_69 : decode prog_15_method_27_code 69 = .ok (.if_icmp .eq 7, 3) := by decide +kernel
theorem d_MS_remainder_72 : decode prog_15_method_27_code 72 = .ok (.iconst 1, 1) := by decide +kernel
theorem d_MS_remainder_73 : decode prog_15_method_27_code 73 = .ok (.goto 4, 3) := by decide +kernel
theorem d_MS_remainder_76 : decode prog_15_method_27_code 76 = .ok (.iconst 0, 1) := by decide +kernel
theorem d_MS_remainder_77 : decode prog_15_method_27_code 77 = .ok (.invokevirtual 114, 3) := by decide +kernel
theorem d_MS_remainder_80 : decode prog_15_method_27_code 80 = .ok (.ifCond .eq 9, 3) := by decide +kernel
theorem d_MS_remainder_83 : decode prog_15_method_27_code 83 = .ok (.aload_n 0, 1) := by decide +kernel
theorem d_MS_remainder_84 : decode prog_15_method_27_code 84 = .ok (.iload_n 1, 1) := by decide +kernel
theorem d_MS_remainder_85 : decode prog_15_method_27_code 85 = .ok (.iload_n 2, 1) := by decide +kernel
theorem d_MS_remainder_86 : decode prog_15_method_27_code 86 = .ok (.invokevirtual 132, 3) := by decide +kernel
theorem d_MS_remainder_89 : decode prog_15_method_27_code 89 = .ok (.aload_n 0, 1) := by decide +kernel
theorem d_MS_remainder_90 : decode prog_15_method_27_code 90 = .ok (.iload_n 3, 1) := by decide +kernel
theorem d_MS_remainder_91 : decode prog_15_method_27_code 91 = .ok (.invokevirtual 122, 3) := by decide +kernel
theorem d_MS_remainder_94 : decode prog_15_method_27_code 94 = .ok (.aload_n 0, 1) := by decide +kernel
theorem d_MS_remainder_95 : decode prog_15_method_27_code 95 = .ok (.getfield 72, 3) := by decide +kernel
theorem d_MS_remainder_98 : decode prog_15_method_27_code 98 = .ok (.ireturn, 1) := by decide +kernel
theorem d_MS_whole_0 : decode prog_15_method_24_code 0 = .ok (.aload_n 0, 1) := by decide +kernel
theorem d_MS_whole_1 : decode prog_15_method_24_code 1 = .ok (.iload_n 1, 1) := by decide +kernel
theorem d_MS_whole_2 : decode prog_15_method_24_code 2 = .ok (.invokestatic 25, 3) := by decide +kernel
theorem d_MS_whole_5 : decode prog_15_method_24_code 5 = .ok (.ifCond .ne 10, 3) := by decide +kernel
theorem d_MS_whole_8 : decode prog_15_method_24_code 8 = .ok (.iload_n 2, 1) := by decide +kernel
theorem d_MS_whole_9 : decode prog_15_method_24_code 9 = .ok (.invokestatic 25, 3) := by decide +kernel
theorem d_MS_whole_12 : decode prog_15_method_24_code 12 = .ok (.ifCond .eq 7, 3) := by decide +kernel
theorem d_MS_whole_15 : decode prog_15_method_24_code 15 = .ok (.iconst 1, 1) := by decide +kernel
theorem d_MS_whole_16 : decode prog_15_method_24_code 16 = .ok (.goto 4, 3) := by decide +kernel
theorem d_MS_whole_19 : decode prog_15_method_24_code 19 = .ok (.iconst 0, 1) := by decide +kernel
theorem d_MS_whole_20 : decode prog_15_method_24_code 20 = .ok (.putfield 21, 3) := by decide +kernel
theorem d_MS_whole_23 : decode prog_15_method_24_code 23 = .ok (.aload_n 0, 1) := by decide +kernel
theorem d_MS_whole_24 : decode prog_15_method_24_code 24 = .ok (.getfield 21, 3) := by decide +kernel
theorem d_MS_whole_27 : decode prog_15_method_24_code 27 = .ok (.ifCond .le 5, 3) := by decide +kernel
theorem d_MS_whole_30 : decode prog_15_method_24_code 30 = .ok (.iconst 0, 1) := by decide +kernel
theorem d_MS_whole_31 : decode prog_15_method_24_code 31 = .ok (.ireturn, 1) := by decide +kernel
theorem d_MS_whole_32 : decode prog_15_method_24_code 32 = .ok (.aload_n 0, 1) := by decide +kernel
theorem d_MS_whole_33 : decode prog_15_method_24_code 33 = .ok (.invokevirtual 111, 3) := by decide +kernel
theorem d_MS_whole_36 : decode prog_15_method_24_code 36 = .ok (.aload_n 0, 1) := by decide +kernel
theorem d_MS_whole_37 : decode prog_15_method_24_code 37 = .ok (.iload_n 1, 1) := by decide +kernel
theorem d_MS_whole_38 : decode prog_15_method_24_code 38 = .ok (.iconst (-1), 1) := by decide +kernel
theorem d_MS_whole_39 : decode prog_15_method_24_code 39 = .ok (.iconst 1, 1) := by decide +kernel
theorem d_MS_whole_40 : decode prog_15_method_24_code 40 = .ok (.invokevirtual 114, 3) := by decide +kernel
theorem d_MS_whole_43 : decode prog_15_method_24_code 43 = .ok (.ifCond .eq 109, 3) := by decide +kernel
theorem d_MS_whole_46 : decode prog_15_method_24_code 46 = .ok (.aload_n 0, 1) := by decide +kernel
theorem d_MS_whole_47 : decode prog_15_method_24_code 47 = .ok (.iload_n 1, 1) := by decide +kernel
theorem d_MS_whole_48 : decode prog_15_method_24_code 48 = .ok (.invokevirtual 46, 3) := by decide +kernel
theorem d_MS_whole_51 : decode prog_15_method_24_code 51 = .ok (.iconst 4, 1) := by decide +kernel
theorem d_MS_whole_52 : decode prog_15_method_24_code 52 = .ok (.if_icmp .ne 22, 3) := by decide +kernel
theorem d_MS_whole_55 : decode prog_15_method_24_code 55 = .ok (.aload_n 0, 1) := by decide +kernel
theorem d_MS_whole_56 : decode prog_15_method_24_code 56 = .ok (.aload_n 0, 1) := by decide +kernel
theorem d_MS_whole_57 : decode prog_15_method_24_code 57 = .ok (.getfield 13, 3) := by decide +kernel
theorem d_MS_whole_60 : decode prog_15_method_24_code 60 = .ok (.iload_n 1, 1) := by decide +kernel
theorem d_MS_whole_61 : decode prog_15_method_24_code 61 = .ok (.iaload, 1) := by decide +kernel
theorem d_MS_whole_62 : decode prog_15_method_24_code 62 = .ok (.aload_n 0, 1) := by decide +kernel
theorem d_MS_whole_63 : decode prog_15_method_24_code 63 = .ok (.getfield 17, 3) := by decide +kernel
theorem d_MS_whole_66 : decode prog_15_method_24_code 66 = .ok (.iload_n 1, 1) := by decide +kernel
theorem d_MS_whole_67 : decode prog_15_method_24_code 67 = .ok (.laload, 1) := by decide +kernel
theorem d_MS_whole_68 : decode prog_15_method_24_code 68 = .ok (.invokevirtual 88, 3) := by decide +kernel
theorem d_MS_whole_71 : decode prog_15_method_24_code 71 = .ok (.goto 81, 3) := by decide +kernel
theorem d_MS_whole_74 : decode prog_15_method_24_code 74 = .ok (.aload_n 0, 1) := by decide +kernel
theorem d_MS_whole_75 : decode prog_15_method_24_code 75 = .ok (.iload_n 1, 1) := by decide +kernel
theorem d_MS_whole_76 : decode prog_15_method_24_code 76 = .ok (.invokevirtual 54, 3) := by decide +kernel
theorem d_MS_whole_79 : decode prog_15_method_24_code 79 = .ok (.ifCond .lt 26, 3) := by decide +kernel
theorem d_MS_whole_82 : decode prog_15_method_24_code 82 = .ok (.aload_n 0, 1) := by decide +kernel
theorem d_MS_whole_83 : decode prog_15_method_24_code 83 = .ok (.aload_n 0, 1) := by decide +kernel
theorem d_MS_whole_84 : decode prog_15_method_24_code 84 = .ok (.iload_n 1, 1) := by decide +kernel
theorem d_MS_whole_85 : decode prog_15_method_24_code 85 = .ok (.invokevirtual 82, 3) := by decide +kernel
theorem d_MS_whole_88 : decode prog_15_method_24_code 88 = .ok (.aload_n 0, 1) := by decide +kernel
theorem d_MS_whole_89 : decode prog_15_method_24_code 89 = .ok (.getfield 17, 3) := by decide +kernel
theorem d_MS_whole_92 : decode prog_15_method_24_code 92 = .ok (.iload_n 1, 1) := by decide +kernel
theorem d_MS_whole_93 : decode prog_15_method_24_code 93 = .ok (.laload, 1) := by decide +kernel
theorem d_MS_whole_94 : decode prog_15_method_24_code 94 = .ok (.aload_n 0, 1) := by decide +kernel
theorem d_MS_whole_95 : decode prog_15_method_24_code 95 = .ok (.iload_n 1, 1) := by decide +kernel
theorem d_MS_whole_96 : decode prog_15_method_24_code 96 = .ok (.invokevirtual 54, 3) := by decide +kernel
theorem d_MS_whole_99 : decode prog_15_method_24_code 99 = .ok (.invokevirtual 118, 3) := by decide +kernel
theorem d_MS_whole_102 : decode prog_15_method_24_code 102 = .ok (.goto 50, 3) := by decide +kernel
theorem d_MS_whole_105 : decode prog_15_method_24_code 105 = .ok (.aload_n 0, 1) := by decide +kernel
theorem d_MS_whole_106 : decode prog_15_method_24_code 106 = .ok (.aload_n 0, 1) := by decide +kernel
theorem d_MS_whole_107 : decode prog_15_method_24_code 107 = .ok (.getfield 17, 3) := by decide +kernel
theorem d_MS_whole_110 : decode prog_15_method_24_code 110 = .ok (.iload_n 1, 1) := by decide +kernel
theorem d_MS_whole_111 : decode prog_15_method_24_code 111 = .ok (.laload, 1) := by decide +kernel
theorem d_MS_whole_112 : decode prog_15_method_24_code 112 = .ok (.aload_n 0, 1) := by decide +kernel
theorem d_MS_whole_113 : decode prog_15_method_24_code 113 = .ok (.iload_n 1, 1) := by decide +kernel
theorem d_MS_whole_114 : decode prog_15_method_24_code 114 = .ok (.invokevirtual 54, 3) := by decide +kernel
theorem d_MS_whole_117 : decode prog_15_method_24_code 117 = .ok (.ineg, 1) := by decide +kernel
theorem d_MS_whole_118 : decode prog_15_method_24_code 118 = .ok (.aload_n 0, 1) := by decide +kernel
theorem d_MS_whole_119 : decode prog_15_method_24_code 119 = .ok (.iload_n 1, 1) := by decide +kernel
theorem d_MS_whole_120 : decode prog_15_method_24_code 120 = .ok (.invokevirtual 82, 3) := by decide +kernel
theorem d_MS_whole_123 : decode prog_15_method_24_code 123 = .ok (.invokevirtual 105, 3) := by decide +kernel
theorem d_MS_whole_126 : decode prog_15_method_24_code 126 = .ok (.lstore_n 3, 1) := by decide +kernel
theorem d_MS_whole_127 : decode prog_15_method_24_code 127 = .ok (.aload_n 0, 1) := by decide +kernel
theorem d_MS_whole_128 : decode prog_15_method_24_code 128 = .ok (.getfield 98, 3) := by decide +kernel
theorem d_MS_whole_131 : decode prog_15_method_24_code 131 = .ok (.ifCond .eq 10, 3) := by decide +kernel
theorem d_MS_whole_134 : decode prog_15_method_24_code 134 = .ok (.aload_n 0, 1) := by decide +kernel
theorem d_MS_whole_135 : decode prog_15_method_24_code 135 = .ok (.bipush 32, 2) := by decide +kernel
theorem d_MS_whole_137 : decode prog_15_method_24_code 137 = .ok (.invokevirtual 85, 3) := by decide +kernel
theorem d_MS_whole_140 : decode prog_15_method_24_code 140 = .ok (.pop, 1) := by decide +kernel
theorem d_MS_whole_141 : decode prog_15_method_24_code 141 = .ok (.aload_n 0, 1) := by decide +kernel
theorem d_MS_whole_142 : decode prog_15_method_24_code 142 = .ok (.aload_n 0, 1) := by decide +kernel
theorem d_MS_whole_143 : decode prog_15_method_24_code 143 = .ok (.iload_n 1, 1) := by decide +kernel
theorem d_MS_whole_144 : decode prog_15_method_24_code 144 = .ok (.invokevirtual 82, 3) := by decide +kernel
theorem d_MS_whole_147 : decode prog_15_method_24_code 147 = .ok (.lload_n 3, 1) := by decide +kernel
theorem d_MS_whole_148 : decode prog_15_method_24_code 148 = .ok (.iconst 0, 1) := by decide +kernel
theorem d_MS_whole_149 : decode prog_15_method_24_code 149 = .ok (.invokevirtual 118, 3) := by decide +kernel
theorem d_MS_whole_152 : decode prog_15_method_24_code 152 = .ok (.aload_n 0, 1) := by decide +kernel
theorem d_MS_whole_153 : decode prog_15_method_24_code 153 = .ok (.iload_n 2, 1) := by decide +kernel
theorem d_MS_whole_154 : decode prog_15_method_24_code 154 = .ok (.invokevirtual 122, 3) := by decide +kernel
theorem d_MS_whole_157 : decode prog_15_method_24_code 157 = .ok (.aload_n 0, 1) := by decide +kernel
theorem d_MS_whole_158 : decode prog_15_method_24_code 158 = .ok (.getfield 72, 3) := by decide +kernel
theorem d_MS_whole_161 : decode prog_15_method_24_code 161 = .ok (.ireturn, 1) := by decide +kernel
theorem d_MS_scale_0 : decode prog_15_method_25_code 0 = .ok (.aload_n 0, 1) := by decide +kernel
theorem d_MS_scale_1 : decode prog_15_method_25_code 1 = .ok (.iload_n 1, 1) := by decide +kernel
theorem d_MS_scale_2 : decode prog_15_method_25_code 2 = .ok (.invokestatic 25, 3) := by decide +kernel
theorem d_MS_scale_5 : decode prog_15_method_25_code 5 = .ok (.ifCond .ne 17, 3) := by decide +kernel
theorem d_MS_scale_8 : decode prog_15_method_25_code 8 = .ok (.iload_n 2, 1) := by decide +kernel
theorem d_MS_scale_9 : decode prog_15_method_25_code 9 = .ok (.invokestatic 25, 3) := by decide +kernel
theorem d_MS_scale_12 : decode prog_15_method_25_code 12 = .ok (.ifCond .ne 10, 3) := by decide +kernel
theorem d_MS_scale_15 : decode prog_15_method_25_code 15 = .ok (.iload_n 3, 1) := by decide +kernel
theorem d_MS_scale_16 : decode prog_15_method_25_code 16 = .ok (.invokestatic 25, 3) := by decide +kernel
theorem d_MS_scale_19 : decode prog_15_method_25_code 19 = .ok (.ifCond .eq 7, 3) := by decide +kernel
theorem d_MS_scale_22 : decode prog_15_method_25_code 22 = .ok (.iconst 1, 1) := by decide +kernel
theorem d_MS_scale_23 : decode prog_15_method_25_code 23 = .ok (.goto 4, 3) := by decide +kernel
theorem d_MS_scale_26 : decode prog_15_method_25_code 26 = .ok (.iconst 0, 1) := by decide +kernel
theorem d_MS_scale_27 : decode prog_15_method_25_code 27 = .ok (.putfield 21, 3) := by decide +kernel
theorem d_MS_scale_30 : decode prog_15_method_25_code 30 = .ok (.aload_n 0, 1) := by decide +kernel
theorem d_MS_scale_31 : decode prog_15_method_25_code 31 = .ok (.getfield 21, 3) := by decide +kernel
theorem d_MS_scale_34 : decode prog_15_method_25_code 34 = .ok (.ifCond .le 5, 3) := by decide +kernel
theorem d_MS_scale_37 : decode prog_15_method_25_code 37 = .ok (.iconst 0, 1) := by decide +kernel
theorem d_MS_scale_38 : decode prog_15_method_25_code 38 = .ok (.ireturn, 1) := by decide +kernel
theorem d_MS_scale_39 : decode prog_15_method_25_code 39 = .ok (.aload_n 0, 1) := by decide +kernel
theorem d_MS_scale_40 : decode prog_15_method_25_code 40 = .ok (.invokevirtual 111, 3) := by decide +kernel
theorem d_MS_scale_43 : decode prog_15_method_25_code 43 = .ok (.aload_n 0, 1) := by decide +kernel
theorem d_MS_scale_44 : decode prog_15_method_25_code 44 = .ok (.iload_n 2, 1) := by decide +kernel
theorem d_MS_scale_45 : decode prog_15_method_25_code 45 = .ok (.invokevirtual 46, 3) := by decide +kernel
theorem d_MS_scale_48 : decode prog_15_method_25_code 48 = .ok (.iconst 4, 1) := by decide +kernel
theorem d_MS_scale_49 : decode prog_15_method_25_code 49 = .ok (.if_icmp .ge 7, 3) := by decide +kernel
theorem d_MS_scale_52 : decode prog_15_method_25_code 52 = .ok (.iconst 1, 1) := by decide +kernel
theorem d_MS_scale_53 : decode prog_15_method_25_code 53 = .ok (.goto 4, 3) := by decide +kernel
theorem d_MS_scale_56 : decode prog_15_method_25_code 56 = .ok (.iconst 0, 1) := by decide +kernel
theorem d_MS_scale_57 : decode prog_15_method_25_code 57 = .ok (.istore 4, 2) := by decide +kernel
theorem d_MS_scale_59 : decode prog_15_method_25_code 59 = .ok (.iload 4, 2) := by decide +kernel
theorem d_MS_scale_61 : decode prog_15_method_25_code 61 = .ok (.ifCond .eq 32, 3) := by decide +kernel
theorem d_MS_scale_64 : decode prog_15_method_25_code 64 = .ok (.aload_n 0, 1) := by decide +kernel
theorem d_MS_scale_65 : decode prog_15_method_25_code 65 = .ok (.iload_n 2, 1) := by decide +kernel
theorem d_MS_scale_66 : decode prog_15_method_25_code 66 = .ok (.invokevirtual 126, 3) := by decide +kernel
theorem d_MS_scale_69 : decode prog_15_method_25_code 69 = .ok (.ifCond .ne 24, 3) := by decide +kernel
theorem d_MS_scale_72 : decode prog_15_method_25_code 72 = .ok (.aload_n 0, 1) := by decide +kernel
theorem d_MS_scale_73 : decode prog_15_method_25_code 73 = .ok (.iload_n 2, 1) := by decide +kernel
theorem d_MS_scale_74 : decode prog_15_method_25_code 74 = .ok (.invokevirtual 129, 3) := by decide +kernel
theorem d_MS_scale_77 : decode prog_15_method_25_code 77 = .ok (.aload_n 0, 1) := by decide +kernel
theorem d_MS_scale_78 : decode prog_15_method_25_code 78 = .ok (.getfield 57, 3) := by decide +kernel
theorem d_MS_scale_81 : decode prog_15_method_25_code 81 = .ok (.bipush 14, 2) := by decide +kernel
theorem d_MS_scale_83 : decode prog_15_method_25_code 83 = .ok (.if_icmp .ge 7, 3) := by decide +kernel
theorem d_MS_scale_86 : decode prog_15_method_25_code 86 = .ok (.iconst 1, 1) := by decide +kernel
theorem d_MS_scale_87 : decode prog_15_method_25_code 87 = .ok (.goto 4, 3) := by decide +kernel
theorem d_MS_scale_90 : decode prog_15_method_25_code 90 = .ok (.iconst 0, 1) := by decide +kernel
theorem d_MS_scale_91 : decode prog_15_method_25_code 91 = .ok (.istore 4, 2) := by decide +kernel
theorem d_MS_scale_93 : decode prog_15_method_25_code 93 = .ok (.aload_n 0, 1) := by decide +kernel
theorem d_MS_scale_94 : decode prog_15_method_25_code 94 = .ok (.iload_n 1, 1) := by decide +kernel
theorem d_MS_scale_95 : decode prog_15_method_25_code 95 = .ok (.iload_n 2, 1) := by decide +kernel
theorem d_MS_scale_96 : decode prog_15_method_25_code 96 = .ok (.iload 4, 2) := by decide +kernel
theorem d_MS_scale_98 : decode prog_15_method_25_code 98 = .ok (.invokevirtual 114, 3) := by decide +kernel
theorem d_MS_scale_101 : decode prog_15_method_25_code 101 = .ok (.ifCond .eq 126, 3) := by decide +kernel
theorem d_MS_scale_104 : decode prog_15_method_25_code 104 = .ok (.aload_n 0, 1) := by decide +kernel
theorem d_MS_scale_105 : decode prog_15_method_25_code 105 = .ok (.iload_n 1, 1) := by decide +kernel
theorem d_MS_scale_106 : decode prog_15_method_25_code 106 = .ok (.invokevirtual 46, 3) := by decide +kernel
theorem d_MS_scale_109 : decode prog_15_method_25_code 109 = .ok (.iconst 4, 1) := by decide +kernel
theorem d_MS_scale_110 : decode prog_15_method_25_code 110 = .ok (.if_icmp .ne 22, 3) := by decide +kernel
theorem d_MS_scale_113 : decode prog_15_method_25_code 113 = .ok (.aload_n 0, 1) := by decide +kernel
theorem d_MS_scale_114 : decode prog_15_method_25_code 114 = .ok (.aload_n 0, 1) := by decide +kernel
theorem d_MS_scale_115 : decode prog_15_method_25_code 115 = .ok (.getfield 13, 3) := by decide +kernel
theorem d_MS_scale_118 : decode prog_15_method_25_code 118 = .ok (.iload_n 1, 1) := by decide +kernel
theorem d_MS_scale_119 : decode prog_15_method_25_code 119 = .ok (.iaload, 1) := by decide +kernel
theorem d_MS_scale_120 : decode prog_15_method_25_code 120 = .ok (.aload_n 0, 1) := by decide +kernel
theorem d_MS_scale_121 : decode prog_15_method_25_code 121 = .ok (.getfield 17, 3) := by decide +kernel
theorem d_MS_scale_124 : decode prog_15_method_25_code 124 = .ok (.iload_n 1, 1) := by decide +kernel
theorem d_MS_scale_125 : decode prog_15_method_25_code 125 = .ok (.laload, 1) := by decide +kernel
theorem d_MS_scale_126 : decode prog_15_method_25_code 126 = .ok (.invokevirtual 88, 3) := by decide +kernel
theorem d_MS_scale_129 : decode prog_15_method_25_code 129 = .ok (.goto 98, 3) := by decide +kernel
theorem d_MS_scale_132 : decode prog_15_method_25_code 132 = .ok (.iconst 0, 1) := by decide +kernel
theorem d_MS_scale_133 : decode prog_15_method_25_code 133 = .ok (.istore 5, 2) := by decide +kernel
theorem d_MS_scale_135 : decode prog_15_method_25_code 135 = .ok (.aload_n 0, 1) := by decide +kernel
theorem d_MS_scale_136 : decode prog_15_method_25_code 136 = .ok (.iload_n 2, 1) := by decide +kernel
theorem d_MS_scale_137 : decode prog_15_method_25_code 137 = .ok (.invokevirtual 126, 3) := by decide +kernel
theorem d_MS_scale_140 : decode prog_15_method_25_code 140 = .ok (.ifCond .ne 50, 3) := by decide +kernel
theorem d_MS_scale_143 : decode prog_15_method_25_code 143 = .ok (.aload_n 0, 1) := by decide +kernel
theorem d_MS_scale_144 : decode prog_15_method_25_code 144 = .ok (.iload_n 2, 1) := by decide +kernel
theorem d_MS_scale_145 : decode prog_15_method_25_code 145 = .ok (.invokevirtual 129, 3) := by decide +kernel
theorem d_MS_scale_148 : decode prog_15_method_25_code 148 = .ok (.iconst 0, 1) := by decide +kernel
theorem d_MS_scale_149 : decode prog_15_method_25_code 149 = .ok (.istore 6, 2) := by decide +kernel
theorem d_MS_scale_151 : decode prog_15_method_25_code 151 = .ok (.iload 6, 2) := by decide +kernel
theorem d_MS_scale_153 : decode prog_15_method_25_code 153 = .ok (.aload_n 0, 1) := by decide +kernel
theorem d_MS_scale_154 : decode prog_15_method_25_code 154 = .ok (.getfield 57, 3) := by decide +kernel
theorem d_MS_scale_157 : decode prog_15_method_25_code 157 = .ok (.if_icmp .gt 33, 3) := by decide +kernel
theorem d_MS_scale_160 : decode prog_15_method_25_code 160 = .ok (.iconst 2, 1) := by decide +kernel
theorem d_MS_scale_161 : decode prog_15_method_25_code 161 = .ok (.iload 5, 2) := by decide +kernel
theorem d_MS_scale_163 : decode prog_15_method_25_code 163 = .ok (.imul, 1) := by decide +kernel
theorem d_MS_scale_164 : decode prog_15_method_25_code 164 = .ok (.aload_n 0, 1) := by decide +kernel
theorem d_MS_scale_165 : decode prog_15_method_25_code 165 = .ok (.getfield 50, 3) := by decide +kernel
theorem d_MS_scale_168 : decode prog_15_method_25_code 168 = .ok (.iload 6, 2) := by decide +kernel
theorem d_MS_scale_170 : decode prog_15_method_25_code 170 = .ok (.lshl, 1) := by decide +kernel
theorem d_MS_scale_171 : decode prog_15_method_25_code 171 = .ok (.lconst 0, 1) := by decide +kernel
theorem d_MS_scale_172 : decode prog_15_method_25_code 172 = .ok (.lcmp, 1) := by decide +kernel
theorem d_MS_scale_173 : decode prog_15_method_25_code 173 = .ok (.ifCond .ge 7, 3) := by decide +kernel
theorem d_MS_scale_176 : decode prog_15_method_25_code 176 = .ok (.iconst 1, 1) := by decide +kernel
theorem d_MS_scale_177 : decode prog_15_method_25_code 177 = .ok (.goto 4, 3) := by decide +kernel
theorem d_MS_scale_180 : decode prog_15_method_25_code 180 = .ok (.iconst 0, 1) := by decide +kernel
theorem d_MS_scale_181 : decode prog_15_method_25_code 181 = .ok (.iadd, 1) := by decide +kernel
theorem d_MS_scale_182 : decode prog_15_method_25_code 182 = .ok (.istore 5, 2) := by decide +kernel
theorem d_MS_scale_184 : decode prog_15_method_25_code 184 = .ok (.iinc 6 1, 3) := by decide +kernel
theorem d_MS_scale_187 : decode prog_15_method_25_code 187 = .ok (.goto (-36), 3) := by decide +kernel
theorem d_MS_scale_190 : decode prog_15_method_25_code 190 = .ok (.aload_n 0, 1) := by decide +kernel
theorem d_MS_scale_191 : decode prog_15_method_25_code 191 = .ok (.aload_n 0, 1) := by decide +kernel
theorem d_MS_scale_192 : decode prog_15_method_25_code 192 = .ok (.iload_n 1, 1) := by decide +kernel
theorem d_MS_scale_193 : decode prog_15_method_25_code 193 = .ok (.invokevirtual 82, 3) := by decide +kernel
theorem d_MS_scale_196 : decode prog_15_method_25_code 196 = .ok (.aload_n 0, 1) := by decide +kernel
theorem d_MS_scale_197 : decode prog_15_method_25_code 197 = .ok (.getfield 17, 3) := by decide +kernel
theorem d_MS_scale_200 : decode prog_15_method_25_code 200 = .ok (.iload_n 1, 1) := by decide +kernel
theorem d_MS_scale_201 : decode prog_15_method_25_code 201 = .ok (.laload, 1) := by decide +kernel
theorem d_MS_scale_202 : decode prog_15_method_25_code 202 = .ok (.aload_n 0, 1) := by decide +kernel
theorem d_MS_scale_203 : decode prog_15_method_25_code 203 = .ok (.iload_n 1, 1) := by decide +kernel
theorem d_MS_scale_204 : decode prog_15_method_25_code 204 = .ok (.invokevirtual 54, 3) := by decide +kernel
theorem d_MS_scale_207 : decode prog_15_method_25_code 207 = .ok (.aload_n 0, 1) := by decide +kernel
theorem d_MS_scale_208 : decode prog_15_method_25_code 208 = .ok (.iload_n 2, 1) := by decide +kernel
theorem d_MS_scale_209 : decode prog_15_method_25_code 209 = .ok (.invokevirtual 82, 3) := by decide +kernel
theorem d_MS_scale_212 : decode prog_15_method_25_code 212 = .ok (.ifCond .eq 9, 3) := by decide +kernel
theorem d_MS_scale_215 : decode prog_15_method_25_code 215 = .ok (.iload 5, 2) := by decide +kernel
theorem d_MS_scale_217 : decode prog_15_method_25_code 217 = .ok (.ineg, 1) := by decide +kernel
theorem d_MS_scale_218 : decode prog_15_method_25_code 218 = .ok (.goto 5, 3) := by decide +kernel
theorem d_MS_scale_221 : decode prog_15_method_25_code 221 = .ok (.iload 5, 2) := by decide +kernel
theorem d_MS_scale_223 : decode prog_15_method_25_code 223 = .ok (.iadd, 1) := by decide +kernel
theorem d_MS_scale_224 : decode prog_15_method_25_code 224 = .ok (.invokevirtual 118, 3) := by decide +kernel
theorem d_MS_scale_227 : decode prog_15_method_25_code 227 = .ok (.aload_n 0, 1) := by decide +kernel
theorem d_MS_scale_228 : decode prog_15_method_25_code 228 = .ok (.iload_n 3, 1) := by decide +kernel
theorem d_MS_scale_229 : decode prog_15_method_25_code 229 = .ok (.invokevirtual 122, 3) := by decide +kernel
theorem d_MS_scale_232 : decode prog_15_method_25_code 232 = .ok (.aload_n 0, 1) := by decide +kernel
theorem d_MS_scale_233 : decode prog_15_method_25_code 233 = .ok (.getfield 72, 3) := by decide +kernel
theorem d_MS_scale_236 : decode prog_15_method_25_code 236 = .ok (.ireturn, 1) := by decide +kernel
