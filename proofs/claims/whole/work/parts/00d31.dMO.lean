theorem d_MO_control_0 : decode prog_14_method_3_code 0 = .ok (.aload_n 0, 1) := by decide +kernel
theorem d_MO_control_1 : decode prog_14_method_3_code 1 = .ok (.iload_n 1, 1) := by decide +kernel
theorem d_MO_control_2 : decode prog_14_method_3_code 2 = .ok (.ifCond .lt 9, 3) := by decide +kernel
theorem d_MO_control_5 : decode prog_14_method_3_code 5 = .ok (.iload_n 1, 1) := by decide +kernel
theorem d_MO_control_6 : decode prog_14_method_3_code 6 = .ok (.ldc 38, 2) := by decide +kernel
theorem d_MO_control_8 : decode prog_14_method_3_code 8 = .ok (.if_icmp .le 7, 3) := by decide +kernel
theorem d_MO_control_11 : decode prog_14_method_3_code 11 = .ok (.iconst 1, 1) := by decide +kernel
theorem d_MO_control_12 : decode prog_14_method_3_code 12 = .ok (.goto 4, 3) := by decide +kernel
theorem d_MO_control_15 : decode prog_14_method_3_code 15 = .ok (.iconst 0, 1) := by decide +kernel
theorem d_MO_control_16 : decode prog_14_method_3_code 16 = .ok (.putfield 35, 3) := by decide +kernel
theorem d_MO_control_19 : decode prog_14_method_3_code 19 = .ok (.aload_n 0, 1) := by decide +kernel
theorem d_MO_control_20 : decode prog_14_method_3_code 20 = .ok (.getfield 35, 3) := by decide +kernel
theorem d_MO_control_23 : decode prog_14_method_3_code 23 = .ok (.ifCond .ne 8, 3) := by decide +kernel
theorem d_MO_control_26 : decode prog_14_method_3_code 26 = .ok (.aload_n 0, 1) := by decide +kernel
theorem d_MO_control_27 : decode prog_14_method_3_code 27 = .ok (.iload_n 1, 1) := by decide +kernel
theorem d_MO_control_28 : decode prog_14_method_3_code 28 = .ok (.putfield 7, 3) := by decide +kernel
theorem d_MO_control_31 : decode prog_14_method_3_code 31 = .ok (.return_, 1) := by decide +kernel
theorem d_MO_none_0 : decode prog_14_method_4_code 0 = .ok (.iload_n 0, 1) := by decide +kernel
theorem d_MO_none_1 : decode prog_14_method_4_code 1 = .ok (.ifCond .lt 9, 3) := by decide +kernel
theorem d_MO_none_4 : decode prog_14_method_4_code 4 = .ok (.iload_n 0, 1) := by decide +kernel
theorem d_MO_none_5 : decode prog_14_method_4_code 5 = .ok (.bipush 7, 2) := by decide +kernel
theorem d_MO_none_7 : decode prog_14_method_4_code 7 = .ok (.if_icmp .le 7, 3) := by decide +kernel
theorem d_MO_none_10 : decode prog_14_method_4_code 10 = .ok (.iconst 1, 1) := by decide +kernel
theorem d_MO_none_11 : decode prog_14_method_4_code 11 = .ok (.goto 4, 3) := by decide +kernel
theorem d_MO_none_14 : decode prog_14_method_4_code 14 = .ok (.iconst 0, 1) := by decide +kernel
theorem d_MO_none_15 : decode prog_14_method_4_code 15 = .ok (.ireturn, 1) := by decide +kernel
theorem d_MO_set_0 : decode prog_14_method_5_code 0 = .ok (.aload_n 0, 1) := by decide +kernel
theorem d_MO_set_1 : decode prog_14_method_5_code 1 = .ok (.iload_n 1, 1) := by decide +kernel
theorem d_MO_set_2 : decode prog_14_method_5_code 2 = .ok (.invokestatic 39, 3) := by decide +kernel
theorem d_MO_set_5 : decode prog_14_method_5_code 5 = .ok (.ifCond .eq 7, 3) := by decide +kernel
theorem d_MO_set_8 : decode prog_14_method_5_code 8 = .ok (.iconst 1, 1) := by decide +kernel
theorem d_MO_set_9 : decode prog_14_method_5_code 9 = .ok (.goto 18, 3) := by decide +kernel
theorem d_MO_set_12 : decode prog_14_method_5_code 12 = .ok (.iload_n 2, 1) := by decide +kernel
theorem d_MO_set_13 : decode prog_14_method_5_code 13 = .ok (.ifCond .lt 9, 3) := by decide +kernel
theorem d_MO_set_16 : decode prog_14_method_5_code 16 = .ok (.iload_n 2, 1) := by decide +kernel
theorem d_MO_set_17 : decode prog_14_method_5_code 17 = .ok (.ldc 38, 2) := by decide +kernel
theorem d_MO_set_19 : decode prog_14_method_5_code 19 = .ok (.if_icmp .le 7, 3) := by decide +kernel
theorem d_MO_set_22 : decode prog_14_method_5_code 22 = .ok (.iconst 2, 1) := by decide +kernel
theorem d_MO_set_23 : decode prog_14_method_5_code 23 = .ok (.goto 4, 3) := by decide +kernel
theorem d_MO_set_26 : decode prog_14_method_5_code 26 = .ok (.iconst 0, 1) := by decide +kernel
theorem d_MO_set_27 : decode prog_14_method_5_code 27 = .ok (.putfield 35, 3) := by decide +kernel
theorem d_MO_set_30 : decode prog_14_method_5_code 30 = .ok (.aload_n 0, 1) := by decide +kernel
theorem d_MO_set_31 : decode prog_14_method_5_code 31 = .ok (.getfield 35, 3) := by decide +kernel
theorem d_MO_set_34 : decode prog_14_method_5_code 34 = .ok (.ifCond .le 4, 3) := by decide +kernel
theorem d_MO_set_37 : decode prog_14_method_5_code 37 = .ok (.return_, 1) := by decide +kernel
theorem d_MO_set_38 : decode prog_14_method_5_code 38 = .ok (.aload_n 0, 1) := by decide +kernel
theorem d_MO_set_39 : decode prog_14_method_5_code 39 = .ok (.getfield 13, 3) := by decide +kernel
theorem d_MO_set_42 : decode prog_14_method_5_code 42 = .ok (.iload_n 1, 1) := by decide +kernel
theorem d_MO_set_43 : decode prog_14_method_5_code 43 = .ok (.iload_n 2, 1) := by decide +kernel
theorem d_MO_set_44 : decode prog_14_method_5_code 44 = .ok (.iastore, 1) := by decide +kernel
theorem d_MO_set_45 : decode prog_14_method_5_code 45 = .ok (.aload_n 0, 1) := by decide +kernel
theorem d_MO_set_46 : decode prog_14_method_5_code 46 = .ok (.getfield 17, 3) := by decide +kernel
theorem d_MO_set_49 : decode prog_14_method_5_code 49 = .ok (.iload_n 1, 1) := by decide +kernel
theorem d_MO_set_50 : decode prog_14_method_5_code 50 = .ok (.iload_n 3, 1) := by decide +kernel
theorem d_MO_set_51 : decode prog_14_method_5_code 51 = .ok (.i2l, 1) := by decide +kernel
theorem d_MO_set_52 : decode prog_14_method_5_code 52 = .ok (.bipush 32, 2) := by decide +kernel
theorem d_MO_set_54 : decode prog_14_method_5_code 54 = .ok (.lshl, 1) := by decide +kernel
theorem d_MO_set_55 : decode prog_14_method_5_code 55 = .ok (.iload 4, 2) := by decide +kernel
theorem d_MO_set_57 : decode prog_14_method_5_code 57 = .ok (.i2l, 1) := by decide +kernel
theorem d_MO_set_58 : decode prog_14_method_5_code 58 = .ok (.ldc2_w 43, 3) := by decide +kernel
theorem d_MO_set_61 : decode prog_14_method_5_code 61 = .ok (.land, 1) := by decide +kernel
theorem d_MO_set_62 : decode prog_14_method_5_code 62 = .ok (.lor, 1) := by decide +kernel
theorem d_MO_set_63 : decode prog_14_method_5_code 63 = .ok (.lastore, 1) := by decide +kernel
theorem d_MO_set_64 : decode prog_14_method_5_code 64 = .ok (.return_, 1) := by decide +kernel
theorem d_MO_take_0 : decode prog_14_method_32_code 0 = .ok (.aload_n 0, 1) := by decide +kernel
theorem d_MO_take_1 : decode prog_14_method_32_code 1 = .ok (.getfield 21, 3) := by decide +kernel
theorem d_MO_take_4 : decode prog_14_method_32_code 4 = .ok (.iload_n 1, 1) := by decide +kernel
theorem d_MO_take_5 : decode prog_14_method_32_code 5 = .ok (.aload_n 0, 1) := by decide +kernel
theorem d_MO_take_6 : decode prog_14_method_32_code 6 = .ok (.getfield 13, 3) := by decide +kernel
theorem d_MO_take_9 : decode prog_14_method_32_code 9 = .ok (.iload_n 2, 1) := by decide +kernel
theorem d_MO_take_10 : decode prog_14_method_32_code 10 = .ok (.iaload, 1) := by decide +kernel
theorem d_MO_take_11 : decode prog_14_method_32_code 11 = .ok (.sipush 32767, 3) := by decide +kernel
theorem d_MO_take_14 : decode prog_14_method_32_code 14 = .ok (.if_icmp .le 7, 3) := by decide +kernel
theorem d_MO_take_17 : decode prog_14_method_32_code 17 = .ok (.iconst 1, 1) := by decide +kernel
theorem d_MO_take_18 : decode prog_14_method_32_code 18 = .ok (.goto 4, 3) := by decide +kernel
theorem d_MO_take_21 : decode prog_14_method_32_code 21 = .ok (.iconst 0, 1) := by decide +kernel
theorem d_MO_take_22 : decode prog_14_method_32_code 22 = .ok (.bastore, 1) := by decide +kernel
theorem d_MO_take_23 : decode prog_14_method_32_code 23 = .ok (.aload_n 0, 1) := by decide +kernel
theorem d_MO_take_24 : decode prog_14_method_32_code 24 = .ok (.getfield 25, 3) := by decide +kernel
theorem d_MO_take_27 : decode prog_14_method_32_code 27 = .ok (.iload_n 1, 1) := by decide +kernel
theorem d_MO_take_28 : decode prog_14_method_32_code 28 = .ok (.aload_n 0, 1) := by decide +kernel
theorem d_MO_take_29 : decode prog_14_method_32_code 29 = .ok (.getfield 13, 3) := by decide +kernel
theorem d_MO_take_32 : decode prog_14_method_32_code 32 = .ok (.iload_n 2, 1) := by decide +kernel
theorem d_MO_take_33 : decode prog_14_method_32_code 33 = .ok (.iaload, 1) := by decide +kernel
theorem d_MO_take_34 : decode prog_14_method_32_code 34 = .ok (.ldc 55, 2) := by decide +kernel
theorem d_MO_take_36 : decode prog_14_method_32_code 36 = .ok (.irem, 1) := by decide +kernel
theorem d_MO_take_37 : decode prog_14_method_32_code 37 = .ok (.iastore, 1) := by decide +kernel
theorem d_MO_take_38 : decode prog_14_method_32_code 38 = .ok (.aload_n 0, 1) := by decide +kernel
theorem d_MO_take_39 : decode prog_14_method_32_code 39 = .ok (.getfield 28, 3) := by decide +kernel
theorem d_MO_take_42 : decode prog_14_method_32_code 42 = .ok (.iload_n 1, 1) := by decide +kernel
theorem d_MO_take_43 : decode prog_14_method_32_code 43 = .ok (.aload_n 0, 1) := by decide +kernel
theorem d_MO_take_44 : decode prog_14_method_32_code 44 = .ok (.getfield 17, 3) := by decide +kernel
theorem d_MO_take_47 : decode prog_14_method_32_code 47 = .ok (.iload_n 2, 1) := by decide +kernel
theorem d_MO_take_48 : decode prog_14_method_32_code 48 = .ok (.laload, 1) := by decide +kernel
theorem d_MO_take_49 : decode prog_14_method_32_code 49 = .ok (.lastore, 1) := by decide +kernel
theorem d_MO_take_50 : decode prog_14_method_32_code 50 = .ok (.return_, 1) := by decide +kernel
theorem d_MO_isNone_0 : decode prog_14_method_9_code 0 = .ok (.aload_n 0, 1) := by decide +kernel
theorem d_MO_isNone_1 : decode prog_14_method_9_code 1 = .ok (.getfield 25, 3) := by decide +kernel
theorem d_MO_isNone_4 : decode prog_14_method_9_code 4 = .ok (.iload_n 1, 1) := by decide +kernel
theorem d_MO_isNone_5 : decode prog_14_method_9_code 5 = .ok (.iaload, 1) := by decide +kernel
theorem d_MO_isNone_6 : decode prog_14_method_9_code 6 = .ok (.sipush 32767, 3) := by decide +kernel
theorem d_MO_isNone_9 : decode prog_14_method_9_code 9 = .ok (.if_icmp .ne 20, 3) := by decide +kernel
theorem d_MO_isNone_12 : decode prog_14_method_9_code 12 = .ok (.aload_n 0, 1) := by decide +kernel
theorem d_MO_isNone_13 : decode prog_14_method_9_code 13 = .ok (.getfield 28, 3) := by decide +kernel
theorem d_MO_isNone_16 : decode prog_14_method_9_code 16 = .ok (.iload_n 1, 1) := by decide +kernel
theorem d_MO_isNone_17 : decode prog_14_method_9_code 17 = .ok (.laload, 1) := by decide +kernel
theorem d_MO_isNone_18 : decode prog_14_method_9_code 18 = .ok (.iconst 1, 1) := by decide +kernel
theorem d_MO_isNone_19 : decode prog_14_method_9_code 19 = .ok (.lshl, 1) := by decide +kernel
theorem d_MO_isNone_20 : decode prog_14_method_9_code 20 = .ok (.lconst 0, 1) := by decide +kernel
theorem d_MO_isNone_21 : decode prog_14_method_9_code 21 = .ok (.lcmp, 1) := by decide +kernel
theorem d_MO_isNone_22 : decode prog_14_method_9_code 22 = .ok (.ifCond .eq 7, 3) := by decide +kernel
theorem d_MO_isNone_25 : decode prog_14_method_9_code 25 = .ok (.iconst 1, 1) := by decide +kernel
theorem d_MO_isNone_26 : decode prog_14_method_9_code 26 = .ok (.goto 4, 3) := by decide +kernel
theorem d_MO_isNone_29 : decode prog_14_method_9_code 29 = .ok (.iconst 0, 1) := by decide +kernel
theorem d_MO_isNone_30 : decode prog_14_method_9_code 30 = .ok (.ireturn, 1) := by decide +kernel
theorem d_MO_below_0 : decode prog_14_method_15_code 0 = .ok (.lload_n 0, 1) := by decide +kernel
theorem d_MO_below_1 : decode prog_14_method_15_code 1 = .ok (.lconst 0, 1) := by decide +kernel
theorem d_MO_below_2 : decode prog_14_method_15_code 2 = .ok (.lcmp, 1) := by decide +kernel
theorem d_MO_below_3 : decode prog_14_method_15_code 3 = .ok (.ifCond .lt 7, 3) := by decide +kernel
theorem d_MO_below_6 : decode prog_14_method_15_code 6 = .ok (.iconst 1, 1) := by decide +kernel
theorem d_MO_below_7 : decode prog_14_method_15_code 7 = .ok (.goto 4, 3) := by decide +kernel
theorem d_MO_below_10 : decode prog_14_method_15_code 10 = .ok (.iconst 0, 1) := by decide +kernel
theorem d_MO_below_11 : decode prog_14_method_15_code 11 = .ok (.lload_n 2, 1) := by decide +kernel
theorem d_MO_below_12 : decode prog_14_method_15_code 12 = .ok (.lconst 0, 1) := by decide +kernel
theorem d_MO_below_13 : decode prog_14_method_15_code 13 = .ok (.lcmp, 1) := by decide +kernel
theorem d_MO_below_14 : decode prog_14_method_15_code 14 = .ok (.ifCond .lt 7, 3) := by decide +kernel
theorem d_MO_below_17 : decode prog_14_method_15_code 17 = .ok (.iconst 1, 1) := by decide +kernel
theorem d_MO_below_18 : decode prog_14_method_15_code 18 = .ok (.goto 4, 3) := by decide +kernel
theorem d_MO_below_21 : decode prog_14_method_15_code 21 = .ok (.iconst 0, 1) := by decide +kernel
theorem d_MO_below_22 : decode prog_14_method_15_code 22 = .ok (.if_icmp .ne 17, 3) := by decide +kernel
theorem d_MO_below_25 : decode prog_14_method_15_code 25 = .ok (.lload_n 0, 1) := by decide +kernel
theorem d_MO_below_26 : decode prog_14_method_15_code 26 = .ok (.lload_n 2, 1) := by decide +kernel
theorem d_MO_below_27 : decode prog_14_method_15_code 27 = .ok (.lcmp, 1) := by decide +kernel
theorem d_MO_below_28 : decode prog_14_method_15_code 28 = .ok (.ifCond .ge 7, 3) := by decide +kernel
theorem d_MO_below_31 : decode prog_14_method_15_code 31 = .ok (.iconst 1, 1) := by decide +kernel
theorem d_MO_below_32 : decode prog_14_method_15_code 32 = .ok (.goto 18, 3) := by decide +kernel
theorem d_MO_below_35 : decode prog_14_method_15_code 35 = .ok (.iconst 0, 1) := by decide +kernel
theorem d_MO_below_36 : decode prog_14_method_15_code 36 = .ok (.goto 14, 3) := by decide +kernel
theorem d_MO_below_39 : decode prog_14_method_15_code 39 = .ok (.lload_n 0, 1) := by decide +kernel
theorem d_MO_below_40 : decode prog_14_method_15_code 40 = .ok (.lconst 0, 1) := by decide +kernel
theorem d_MO_below_41 : decode prog_14_method_15_code 41 = .ok (.lcmp, 1) := by decide +kernel
theorem d_MO_below_42 : decode prog_14_method_15_code 42 = .ok (.ifCond .lt 7, 3) := by decide +kernel
theorem d_MO_below_45 : decode prog_14_method_15_code 45 = .ok (.iconst 1, 1) := by decide +kernel
theorem d_MO_below_46 : decode prog_14_method_15_code 46 = .ok (.goto 4, 3) := by decide +kernel
theorem d_MO_below_49 : decode prog_14_method_15_code 49 = .ok (.iconst 0, 1) := by decide +kernel
theorem d_MO_below_50 : decode prog_14_method_15_code 50 = .ok (.ireturn, 1) := by decide +kernel
theorem d_MO_tell_0 : decode prog_14_method_16_code 0 = .ok (.aload_n 0, 1) := by decide +kernel
theorem d_MO_tell_1 : decode prog_14_method_16_code 1 = .ok (.aload_n 0, 1) := by decide +kernel
theorem d_MO_tell_2 : decode prog_14_method_16_code 2 = .ok (.getfield 48, 3) := by decide +kernel
theorem d_MO_tell_5 : decode prog_14_method_16_code 5 = .ok (.iload_n 1, 1) := by decide +kernel
theorem d_MO_tell_6 : decode prog_14_method_16_code 6 = .ok (.iadd, 1) := by decide +kernel
theorem d_MO_tell_7 : decode prog_14_method_16_code 7 = .ok (.putfield 48, 3) := by decide +kernel
theorem d_MO_tell_10 : decode prog_14_method_16_code 10 = .ok (.aload_n 0, 1) := by decide +kernel
theorem d_MO_tell_11 : decode prog_14_method_16_code 11 = .ok (.aload_n 0, 1) := by decide +kernel
theorem d_MO_tell_12 : decode prog_14_method_16_code 12 = .ok (.getfield 7, 3) := by decide +kernel
theorem d_MO_tell_15 : decode prog_14_method_16_code 15 = .ok (.iload_n 1, 1) := by decide +kernel
theorem d_MO_tell_16 : decode prog_14_method_16_code 16 = .ok (.iand, 1) := by decide +kernel
theorem d_MO_tell_17 : decode prog_14_method_16_code 17 = .ok (.ifCond .ne 7, 3) := by decide +kernel
theorem d_MO_tell_20 : decode prog_14_method_16_code 20 = .ok (.iconst 1, 1) := by decide +kernel
theorem d_MO_tell_21 : decode prog_14_method_16_code 21 = .ok (.goto 4, 3) := by decide +kernel
theorem d_MO_tell_24 : decode prog_14_method_16_code 24 = .ok (.iconst 0, 1) := by decide +kernel
theorem d_MO_tell_25 : decode prog_14_method_16_code 25 = .ok (.putfield 51, 3) := by decide +kernel
theorem d_MO_tell_28 : decode prog_14_method_16_code 28 = .ok (.aload_n 0, 1) := by decide +kernel
theorem d_MO_tell_29 : decode prog_14_method_16_code 29 = .ok (.getfield 51, 3) := by decide +kernel
theorem d_MO_tell_32 : decode prog_14_method_16_code 32 = .ok (.ifCond .ne 7, 3) := by decide +kernel
theorem d_MO_tell_35 : decode prog_14_method_16_code 35 = .ok (.iconst 1, 1) := by decide +kernel
theorem d_MO_tell_36 : decode prog_14_method_16_code 36 = .ok (.goto 4, 3) := by decide +kernel
theorem d_MO_tell_39 : decode prog_14_method_16_code 39 = .ok (.iconst 0, 1) := by decide +kernel
theorem d_MO_tell_40 : decode prog_14_method_16_code 40 = .ok (.ireturn, 1) := by decide +kernel
theorem d_MO_noNumber_0 : decode prog_14_method_33_code 0 = .ok (.aload_n 0, 1) := by decide +kernel
theorem d_MO_noNumber_1 : decode prog_14_method_33_code 1 = .ok (.iconst 0, 1) := by decide +kernel
theorem d_MO_noNumber_2 : decode prog_14_method_33_code 2 = .ok (.invokevirtual 133, 3) := by decide +kernel
theorem d_MO_noNumber_5 : decode prog_14_method_33_code 5 = .ok (.ifCond .ne 7, 3) := by decide +kernel
theorem d_MO_noNumber_8 : decode prog_14_method_33_code 8 = .ok (.iconst 1, 1) := by decide +kernel
theorem d_MO_noNumber_9 : decode prog_14_method_33_code 9 = .ok (.goto 4, 3) := by decide +kernel
theorem d_MO_noNumber_12 : decode prog_14_method_33_code 12 = .ok (.iconst 0, 1) := by decide +kernel
theorem d_MO_noNumber_13 : decode prog_14_method_33_code 13 = .ok (.istore 4, 2) := by decide +kernel
theorem d_MO_noNumber_15 : decode prog_14_method_33_code 15 = .ok (.iload_n 1, 1) := by decide +kernel
theorem d_MO_noNumber_16 : decode prog_14_method_33_code 16 = .ok (.iconst 2, 1) := by decide +kernel
theorem d_MO_noNumber_17 : decode prog_14_method_33_code 17 = .ok (.if_icmp .ne 84, 3) := by decide +kernel
theorem d_MO_noNumber_20 : decode prog_14_method_33_code 20 = .ok (.aload_n 0, 1) := by decide +kernel
theorem d_MO_noNumber_21 : decode prog_14_method_33_code 21 = .ok (.iconst 0, 1) := by decide +kernel
theorem d_MO_noNumber_22 : decode prog_14_method_33_code 22 = .ok (.invokevirtual 133, 3) := by decide +kernel
theorem d_MO_noNumber_25 : decode prog_14_method_33_code 25 = .ok (.ifCond .eq 76, 3) := by decide +kernel
theorem d_MO_noNumber_28 : decode prog_14_method_33_code 28 = .ok (.aload_n 0, 1) := by decide +kernel
theorem d_MO_noNumber_29 : decode prog_14_method_33_code 29 = .ok (.iconst 1, 1) := by decide +kernel
theorem d_MO_noNumber_30 : decode prog_14_method_33_code 30 = .ok (.invokevirtual 133, 3) := by decide +kernel
theorem d_MO_noNumber_33 : decode prog_14_method_33_code 33 = .ok (.ifCond .eq 68, 3) := by decide +kernel
theorem d_MO_noNumber_36 : decode prog_14_method_33_code 36 = .ok (.aload_n 0, 1) := by decide +kernel
theorem d_MO_noNumber_37 : decode prog_14_method_33_code 37 = .ok (.getfield 28, 3) := by decide +kernel
theorem d_MO_noNumber_40 : decode prog_14_method_33_code 40 = .ok (.iconst 0, 1) := by decide +kernel
theorem d_MO_noNumber_41 : decode prog_14_method_33_code 41 = .ok (.laload, 1) := by decide +kernel
theorem d_MO_noNumber_42 : decode prog_14_method_33_code 42 = .ok (.aload_n 0, 1) := by decide +kernel
theorem d_MO_noNumber_43 : decode prog_14_method_33_code 43 = .ok (.getfield 28, 3) := by decide +kernel
theorem d_MO_noNumber_46 : decode prog_14_method_33_code 46 = .ok (.iconst 1, 1) := by decide +kernel
theorem d_MO_noNumber_47 : decode prog_14_method_33_code 47 = .ok (.laload, 1) := by decide +kernel
theorem d_MO_noNumber_48 : decode prog_14_method_33_code 48 = .ok (.lcmp, 1) := by decide +kernel
theorem d_MO_noNumber_49 : decode prog_14_method_33_code 49 = .ok (.ifCond .ne 35, 3) := by decide +kernel
theorem d_MO_noNumber_52 : decode prog_14_method_33_code 52 = .ok (.aload_n 0, 1) := by decide +kernel
theorem d_MO_noNumber_53 : decode prog_14_method_33_code 53 = .ok (.getfield 13, 3) := by decide +kernel
theorem d_MO_noNumber_56 : decode prog_14_method_33_code 56 = .ok (.iload_n 2, 1) := by decide +kernel
theorem d_MO_noNumber_57 : decode prog_14_method_33_code 57 = .ok (.iaload, 1) := by decide +kernel
theorem d_MO_noNumber_58 : decode prog_14_method_33_code 58 = .ok (.sipush 32767, 3) := by decide +kernel
theorem d_MO_noNumber_61 : decode prog_14_method_33_code 61 = .ok (.if_icmp .le 19, 3) := by decide +kernel
theorem d_MO_noNumber_64 : decode prog_14_method_33_code 64 = .ok (.aload_n 0, 1) := by decide +kernel
theorem d_MO_noNumber_65 : decode prog_14_method_33_code 65 = .ok (.getfield 13, 3) := by decide +kernel
theorem d_MO_noNumber_68 : decode prog_14_method_33_code 68 = .ok (.iload_n 3, 1) := by decide +kernel
theorem d_MO_noNumber_69 : decode prog_14_method_33_code 69 = .ok (.iaload, 1) := by decide +kernel
theorem d_MO_noNumber_70 : decode prog_14_method_33_code 70 = .ok (.sipush 32767, 3) := by decide +kernel
theorem d_MO_noNumber_73 : decode prog_14_method_33_code 73 = .ok (.if_icmp .gt 7, 3) := by decide +kernel
theorem d_MO_noNumber_76 : decode prog_14_method_33_code 76 = .ok (.iconst 1, 1) := by decide +kernel
theorem d_MO_noNumber_77 : decode prog_14_method_33_code 77 = .ok (.goto 22, 3) := by decide +kernel
theorem d_MO_noNumber_80 : decode prog_14_method_33_code 80 = .ok (.iconst 0, 1) := by decide +kernel
theorem d_MO_noNumber_81 : decode prog_14_method_33_code 81 = .ok (.goto 18, 3) := by decide +kernel
theorem d_MO_noNumber_84 : decode prog_14_method_33_code 84 = .ok (.aload_n 0, 1) := by decide +kernel
theorem d_MO_noNumber_85 : decode prog_14_method_33_code 85 = .ok (.getfield 28, 3) := by decide +kernel
theorem d_MO_noNumber_88 : decode prog_14_method_33_code 88 = .ok (.iconst 0, 1) := by decide +kernel
theorem d_MO_noNumber_89 : decode prog_14_method_33_code 89 = .ok (.laload, 1) := by decide +kernel
theorem d_MO_noNumber_90 : decode prog_14_method_33_code 90 = .ok (.aload_n 0, 1) := by decide +kernel
theorem d_MO_noNumber_91 : decode prog_14_method_33_code 91 = .ok (.getfield 28, 3) := by decide +kernel
theorem d_MO_noNumber_94 : decode prog_14_method_33_code 94 = .ok (.iconst 1, 1) := by decide +kernel
theorem d_MO_noNumber_95 : decode prog_14_method_33_code 95 = .ok (.laload, 1) := by decide +kernel
theorem d_MO_noNumber_96 : decode prog_14_method_33_code 96 = .ok (.invokestatic 129, 3) := by decide +kernel
theorem d_MO_noNumber_99 : decode prog_14_method_33_code 99 = .ok (.istore 4, 2) := by decide +kernel
theorem d_MO_noNumber_101 : decode prog_14_method_33_code 101 = .ok (.aload_n 0, 1) := by decide +kernel
theorem d_MO_noNumber_102 : decode prog_14_method_33_code 102 = .ok (.iconst 1, 1) := by decide +kernel
theorem d_MO_noNumber_103 : decode prog_14_method_33_code 103 = .ok (.invokevirtual 136, 3) := by decide +kernel
theorem d_MO_noNumber_106 : decode prog_14_method_33_code 106 = .ok (.ifCond .ne 4, 3) := by decide +kernel
theorem d_MO_noNumber_109 : decode prog_14_method_33_code 109 = .ok (.return_, 1) := by decide +kernel
theorem d_MO_noNumber_110 : decode prog_14_method_33_code 110 = .ok (.aload_n 0, 1) := by decide +kernel
theorem d_MO_noNumber_111 : decode prog_14_method_33_code 111 = .ok (.iload 4, 2) := by decide +kernel
theorem d_MO_noNumber_113 : decode prog_14_method_33_code 113 = .ok (.ifCond .eq 12, 3) := by decide +kernel
theorem d_MO_noNumber_116 : decode prog_14_method_33_code 116 = .ok (.aload_n 0, 1) := by decide +kernel
theorem d_MO_noNumber_117 : decode prog_14_method_33_code 117 = .ok (.getfield 13, 3) := by decide +kernel
theorem d_MO_noNumber_120 : decode prog_14_method_33_code 120 = .ok (.iload_n 3, 1) := by decide +kernel
theorem d_MO_noNumber_121 : decode prog_14_method_33_code 121 = .ok (.iaload, 1) := by decide +kernel
theorem d_MO_noNumber_122 : decode prog_14_method_33_code 122 = .ok (.goto 9, 3) := by decide +kernel
theorem d_MO_noNumber_125 : decode prog_14_method_33_code 125 = .ok (.aload_n 0, 1) := by decide +kernel
theorem d_MO_noNumber_126 : decode prog_14_method_33_code 126 = .ok (.getfield 13, 3) := by decide +kernel
theorem d_MO_noNumber_129 : decode prog_14_method_33_code 129 = .ok (.iload_n 2, 1) := by decide +kernel
theorem d_MO_noNumber_130 : decode prog_14_method_33_code 130 = .ok (.iaload, 1) := by decide +kernel
theorem d_MO_noNumber_131 : decode prog_14_method_33_code 131 = .ok (.putfield 56, 3) := by decide +kernel
theorem d_MO_noNumber_134 : decode prog_14_method_33_code 134 = .ok (.aload_n 0, 1) := by decide +kernel
theorem d_MO_noNumber_135 : decode prog_14_method_33_code 135 = .ok (.iload 4, 2) := by decide +kernel
theorem d_MO_noNumber_137 : decode prog_14_method_33_code 137 = .ok (.ifCond .eq 12, 3) := by decide +kernel
theorem d_MO_noNumber_140 : decode prog_14_method_33_code 140 = .ok (.aload_n 0, 1) := by decide +kernel
theorem d_MO_noNumber_141 : decode prog_14_method_33_code 141 = .ok (.getfield 17, 3) := by decide +kernel
theorem d_MO_noNumber_144 : decode prog_14_method_33_code 144 = .ok (.iload_n 3, 1) := by decide +kernel
theorem d_MO_noNumber_145 : decode prog_14_method_33_code 145 = .ok (.laload, 1) := by decide +kernel
theorem d_MO_noNumber_146 : decode prog_14_method_33_code 146 = .ok (.goto 9, 3) := by decide +kernel
theorem d_MO_noNumber_149 : decode prog_14_method_33_code 149 = .ok (.aload_n 0, 1) := by decide +kernel
theorem d_MO_noNumber_150 : decode prog_14_method_33_code 150 = .ok (.getfield 17, 3) := by decide +kernel
theorem d_MO_noNumber_153 : decode prog_14_method_33_code 153 = .ok (.iload_n 2, 1) := by decide +kernel
theorem d_MO_noNumber_154 : decode prog_14_method_33_code 154 = .ok (.laload, 1) := by decide +kernel
theorem d_MO_noNumber_155 : decode prog_14_method_33_code 155 = .ok (.putfield 59, 3) := by decide +kernel
theorem d_MO_noNumber_158 : decode prog_14_method_33_code 158 = .ok (.return_, 1) := by decide +kernel
theorem d_MO_isNothing_0 : decode prog_14_method_11_code 0 = .ok (.aload_n 0, 1) := by decide +kernel
theorem d_MO_isNothing_1 : decode prog_14_method_11_code 1 = .ok (.getfield 25, 3) := by decide +kernel
theorem d_MO_isNothing_4 : decode prog_14_method_11_code 4 = .ok (.iload_n 1, 1) := by decide +kernel
theorem d_MO_isNothing_5 : decode prog_14_method_11_code 5 = .ok (.iaload, 1) := by decide +kernel
theorem d_MO_isNothing_6 : decode prog_14_method_11_code 6 = .ok (.sipush 32767, 3) := by decide +kernel
theorem d_MO_isNothing_9 : decode prog_14_method_11_code 9 = .ok (.if_icmp .ge 18, 3) := by decide +kernel
theorem d_MO_isNothing_12 : decode prog_14_method_11_code 12 = .ok (.aload_n 0, 1) := by decide +kernel
theorem d_MO_isNothing_13 : decode prog_14_method_11_code 13 = .ok (.getfield 28, 3) := by decide +kernel
theorem d_MO_isNothing_16 : decode prog_14_method_11_code 16 = .ok (.iload_n 1, 1) := by decide +kernel
theorem d_MO_isNothing_17 : decode prog_14_method_11_code 17 = .ok (.laload, 1) := by decide +kernel
theorem d_MO_isNothing_18 : decode prog_14_method_11_code 18 = .ok (.lconst 0, 1) := by decide +kernel
theorem d_MO_isNothing_19 : decode prog_14_method_11_code 19 = .ok (.lcmp, 1) := by decide +kernel
theorem d_MO_isNothing_20 : decode prog_14_method_11_code 20 = .ok (.ifCond .ne 7, 3) := by decide +kernel
theorem d_MO_isNothing_23 : decode prog_14_method_11_code 23 = .ok (.iconst 1, 1) := by decide +kernel
theorem d_MO_isNothing_24 : decode prog_14_method_11_code 24 = .ok (.goto 4, 3) := by decide +kernel
theorem d_MO_isNothing_27 : decode prog_14_method_11_code 27 = .ok (.iconst 0, 1) := by decide +kernel
theorem d_MO_isNothing_28 : decode prog_14_method_11_code 28 = .ok (.ireturn, 1) := by decide +kernel
theorem d_MO_isUnnormal_0 : decode prog_14_method_13_code 0 = .ok (.aload_n 0, 1) := by decide +kernel
theorem d_MO_isUnnormal_1 : decode prog_14_method_13_code 1 = .ok (.getfield 25, 3) := by decide +kernel
theorem d_MO_isUnnormal_4 : decode prog_14_method_13_code 4 = .ok (.iload_n 1, 1) := by decide +kernel
theorem d_MO_isUnnormal_5 : decode prog_14_method_13_code 5 = .ok (.iaload, 1) := by decide +kernel
theorem d_MO_isUnnormal_6 : decode prog_14_method_13_code 6 = .ok (.ifCond .le 30, 3) := by decide +kernel
theorem d_MO_isUnnormal_9 : decode prog_14_method_13_code 9 = .ok (.aload_n 0, 1) := by decide +kernel
theorem d_MO_isUnnormal_10 : decode prog_14_method_13_code 10 = .ok (.getfield 25, 3) := by decide +kernel
theorem d_MO_isUnnormal_13 : decode prog_14_method_13_code 13 = .ok (.iload_n 1, 1) := by decide +kernel
theorem d_MO_isUnnormal_14 : decode prog_14_method_13_code 14 = .ok (.iaload, 1) := by decide +kernel
theorem d_MO_isUnnormal_15 : decode prog_14_method_13_code 15 = .ok (.sipush 32767, 3) := by decide +kernel
theorem d_MO_isUnnormal_18 : decode prog_14_method_13_code 18 = .ok (.if_icmp .ge 18, 3) := by decide +kernel
theorem d_MO_isUnnormal_21 : decode prog_14_method_13_code 21 = .ok (.aload_n 0, 1) := by decide +kernel
theorem d_MO_isUnnormal_22 : decode prog_14_method_13_code 22 = .ok (.getfield 28, 3) := by decide +kernel
theorem d_MO_isUnnormal_25 : decode prog_14_method_13_code 25 = .ok (.iload_n 1, 1) := by decide +kernel
theorem d_MO_isUnnormal_26 : decode prog_14_method_13_code 26 = .ok (.laload, 1) := by decide +kernel
theorem d_MO_isUnnormal_27 : decode prog_14_method_13_code 27 = .ok (.lconst 0, 1) := by decide +kernel
theorem d_MO_isUnnormal_28 : decode prog_14_method_13_code 28 = .ok (.lcmp, 1) := by decide +kernel
theorem d_MO_isUnnormal_29 : decode prog_14_method_13_code 29 = .ok (.ifCond .le 7, 3) := by decide +kernel
theorem d_MO_isUnnormal_32 : decode prog_14_method_13_code 32 = .ok (.iconst 1, 1) := by decide +kernel
theorem d_MO_isUnnormal_33 : decode prog_14_method_13_code 33 = .ok (.goto 4, 3) := by decide +kernel
theorem d_MO_isUnnormal_36 : decode prog_14_method_13_code 36 = .ok (.iconst 0, 1) := by decide +kernel
theorem d_MO_isUnnormal_37 : decode prog_14_method_13_code 37 = .ok (.ireturn, 1) := by decide +kernel
theorem d_MO_isEndless_0 : decode prog_14_method_10_code 0 = .ok (.aload_n 0, 1) := by decide +kernel
theorem d_MO_isEndless_1 : decode prog_14_method_10_code 1 = .ok (.getfield 25, 3) := by decide +kernel
theorem d_MO_isEndless_4 : decode prog_14_method_10_code 4 = .ok (.iload_n 1, 1) := by decide +kernel
theorem d_MO_isEndless_5 : decode prog_14_method_10_code 5 = .ok (.iaload, 1) := by decide +kernel
theorem d_MO_isEndless_6 : decode prog_14_method_10_code 6 = .ok (.sipush 32767, 3) := by decide +kernel
theorem d_MO_isEndless_9 : decode prog_14_method_10_code 9 = .ok (.if_icmp .ne 20, 3) := by decide +kernel
theorem d_MO_isEndless_12 : decode prog_14_method_10_code 12 = .ok (.aload_n 0, 1) := by decide +kernel
theorem d_MO_isEndless_13 : decode prog_14_method_10_code 13 = .ok (.getfield 28, 3) := by decide +kernel
theorem d_MO_isEndless_16 : decode prog_14_method_10_code 16 = .ok (.iload_n 1, 1) := by decide +kernel
theorem d_MO_isEndless_17 : decode prog_14_method_10_code 17 = .ok (.laload, 1) := by decide +kernel
theorem d_MO_isEndless_18 : decode prog_14_method_10_code 18 = .ok (.iconst 1, 1) := by decide +kernel
theorem d_MO_isEndless_19 : decode prog_14_method_10_code 19 = .ok (.lshl, 1) := by decide +kernel
theorem d_MO_isEndless_20 : decode prog_14_method_10_code 20 = .ok (.lconst 0, 1) := by decide +kernel
theorem d_MO_isEndless_21 : decode prog_14_method_10_code 21 = .ok (.lcmp, 1) := by decide +kernel
theorem d_MO_isEndless_22 : decode prog_14_method_10_code 22 = .ok (.ifCond .ne 7, 3) := by decide +kernel
theorem d_MO_isEndless_25 : decode prog_14_method_10_code 25 = .ok (.iconst 1, 1) := by decide +kernel
theorem d_MO_isEndless_26 : decode prog_14_method_10_code 26 = .ok (.goto 4, 3) := by decide +kernel
theorem d_MO_isEndless_29 : decode prog_14_method_10_code 29 = .ok (.iconst 0, 1) := by decide +kernel
theorem d_MO_isEndless_30 : decode prog_14_method_10_code 30 = .ok (.ireturn, 1) := by decide +kernel
theorem d_MO_isWrong_0 : decode prog_14_method_34_code 0 = .ok (.aload_n 0, 1) := by decide +kernel
theorem d_MO_isWrong_1 : decode prog_14_method_34_code 1 = .ok (.getfield 7, 3) := by decide +kernel
theorem d_MO_isWrong_4 : decode prog_14_method_34_code 4 = .ok (.sipush 4096, 3) := by decide +kernel
theorem d_MO_isWrong_7 : decode prog_14_method_34_code 7 = .ok (.iand, 1) := by decide +kernel
theorem d_MO_isWrong_8 : decode prog_14_method_34_code 8 = .ok (.ifCond .ne 7, 3) := by decide +kernel
theorem d_MO_isWrong_11 : decode prog_14_method_34_code 11 = .ok (.iconst 1, 1) := by decide +kernel
theorem d_MO_isWrong_12 : decode prog_14_method_34_code 12 = .ok (.goto 4, 3) := by decide +kernel
theorem d_MO_isWrong_15 : decode prog_14_method_34_code 15 = .ok (.iconst 0, 1) := by decide +kernel
theorem d_MO_isWrong_16 : decode prog_14_method_34_code 16 = .ok (.istore_n 2, 1) := by decide +kernel
theorem d_MO_isWrong_17 : decode prog_14_method_34_code 17 = .ok (.iload_n 1, 1) := by decide +kernel
theorem d_MO_isWrong_18 : decode prog_14_method_34_code 18 = .ok (.bipush 6, 2) := by decide +kernel
theorem d_MO_isWrong_20 : decode prog_14_method_34_code 20 = .ok (.if_icmp .ne 46, 3) := by decide +kernel
theorem d_MO_isWrong_23 : decode prog_14_method_34_code 23 = .ok (.aload_n 0, 1) := by decide +kernel
theorem d_MO_isWrong_24 : decode prog_14_method_34_code 24 = .ok (.getfield 21, 3) := by decide +kernel
theorem d_MO_isWrong_27 : decode prog_14_method_34_code 27 = .ok (.iconst 0, 1) := by decide +kernel
theorem d_MO_isWrong_28 : decode prog_14_method_34_code 28 = .ok (.baload, 1) := by decide +kernel
theorem d_MO_isWrong_29 : decode prog_14_method_34_code 29 = .ok (.ifCond .eq 11, 3) := by decide +kernel
theorem d_MO_isWrong_32 : decode prog_14_method_34_code 32 = .ok (.aload_n 0, 1) := by decide +kernel
theorem d_MO_isWrong_33 : decode prog_14_method_34_code 33 = .ok (.iconst 0, 1) := by decide +kernel
theorem d_MO_isWrong_34 : decode prog_14_method_34_code 34 = .ok (.invokevirtual 126, 3) := by decide +kernel
theorem d_MO_isWrong_37 : decode prog_14_method_34_code 37 = .ok (.ifCond .eq 23, 3) := by decide +kernel
theorem d_MO_isWrong_40 : decode prog_14_method_34_code 40 = .ok (.aload_n 0, 1) := by decide +kernel
theorem d_MO_isWrong_41 : decode prog_14_method_34_code 41 = .ok (.iconst 0, 1) := by decide +kernel
theorem d_MO_isWrong_42 : decode prog_14_method_34_code 42 = .ok (.invokevirtual 139, 3) := by decide +kernel
theorem d_MO_isWrong_45 : decode prog_14_method_34_code 45 = .ok (.ifCond .ne 15, 3) := by decide +kernel
theorem d_MO_isWrong_48 : decode prog_14_method_34_code 48 = .ok (.aload_n 0, 1) := by decide +kernel
theorem d_MO_isWrong_49 : decode prog_14_method_34_code 49 = .ok (.iconst 0, 1) := by decide +kernel
theorem d_MO_isWrong_50 : decode prog_14_method_34_code 50 = .ok (.invokevirtual 142, 3) := by decide +kernel
theorem d_MO_isWrong_53 : decode prog_14_method_34_code 53 = .ok (.ifCond .eq 11, 3) := by decide +kernel
theorem d_MO_isWrong_56 : decode prog_14_method_34_code 56 = .ok (.iload_n 2, 1) := by decide +kernel
theorem d_MO_isWrong_57 : decode prog_14_method_34_code 57 = .ok (.ifCond .eq 7, 3) := by decide +kernel
theorem d_MO_isWrong_60 : decode prog_14_method_34_code 60 = .ok (.iconst 1, 1) := by decide +kernel
theorem d_MO_isWrong_61 : decode prog_14_method_34_code 61 = .ok (.goto 4, 3) := by decide +kernel
theorem d_MO_isWrong_64 : decode prog_14_method_34_code 64 = .ok (.iconst 0, 1) := by decide +kernel
theorem d_MO_isWrong_65 : decode prog_14_method_34_code 65 = .ok (.ireturn, 1) := by decide +kernel
theorem d_MO_isWrong_66 : decode prog_14_method_34_code 66 = .ok (.iload_n 1, 1) := by decide +kernel
theorem d_MO_isWrong_67 : decode prog_14_method_34_code 67 = .ok (.iconst 3, 1) := by decide +kernel
theorem d_MO_isWrong_68 : decode prog_14_method_34_code 68 = .ok (.if_icmp .ge 44, 3) := by decide +kernel
theorem d_MO_isWrong_71 : decode prog_14_method_34_code 71 = .ok (.aload_n 0, 1) := by decide +kernel
theorem d_MO_isWrong_72 : decode prog_14_method_34_code 72 = .ok (.iconst 0, 1) := by decide +kernel
theorem d_MO_isWrong_73 : decode prog_14_method_34_code 73 = .ok (.invokevirtual 142, 3) := by decide +kernel
theorem d_MO_isWrong_76 : decode prog_14_method_34_code 76 = .ok (.ifCond .eq 34, 3) := by decide +kernel
theorem d_MO_isWrong_79 : decode prog_14_method_34_code 79 = .ok (.aload_n 0, 1) := by decide +kernel
theorem d_MO_isWrong_80 : decode prog_14_method_34_code 80 = .ok (.iconst 1, 1) := by decide +kernel
theorem d_MO_isWrong_81 : decode prog_14_method_34_code 81 = .ok (.invokevirtual 142, 3) := by decide +kernel
theorem d_MO_isWrong_84 : decode prog_14_method_34_code 84 = .ok (.ifCond .eq 26, 3) := by decide +kernel
theorem d_MO_isWrong_87 : decode prog_14_method_34_code 87 = .ok (.iload_n 2, 1) := by decide +kernel
theorem d_MO_isWrong_88 : decode prog_14_method_34_code 88 = .ok (.ifCond .ne 18, 3) := by decide +kernel
theorem d_MO_isWrong_91 : decode prog_14_method_34_code 91 = .ok (.aload_n 0, 1) := by decide +kernel
theorem d_MO_isWrong_92 : decode prog_14_method_34_code 92 = .ok (.getfield 21, 3) := by decide +kernel
theorem d_MO_isWrong_95 : decode prog_14_method_34_code 95 = .ok (.iconst 0, 1) := by decide +kernel
theorem d_MO_isWrong_96 : decode prog_14_method_34_code 96 = .ok (.baload, 1) := by decide +kernel
theorem d_MO_isWrong_97 : decode prog_14_method_34_code 97 = .ok (.aload_n 0, 1) := by decide +kernel
theorem d_MO_isWrong_98 : decode prog_14_method_34_code 98 = .ok (.getfield 21, 3) := by decide +kernel
theorem d_MO_isWrong_101 : decode prog_14_method_34_code 101 = .ok (.iconst 1, 1) := by decide +kernel
theorem d_MO_isWrong_102 : decode prog_14_method_34_code 102 = .ok (.baload, 1) := by decide +kernel
theorem d_MO_isWrong_103 : decode prog_14_method_34_code 103 = .ok (.if_icmp .eq 7, 3) := by decide +kernel
theorem d_MO_isWrong_106 : decode prog_14_method_34_code 106 = .ok (.iconst 1, 1) := by decide +kernel
theorem d_MO_isWrong_107 : decode prog_14_method_34_code 107 = .ok (.goto 4, 3) := by decide +kernel
theorem d_MO_isWrong_110 : decode prog_14_method_34_code 110 = .ok (.iconst 0, 1) := by decide +kernel
theorem d_MO_isWrong_111 : decode prog_14_method_34_code 111 = .ok (.ireturn, 1) := by decide +kernel
theorem d_MO_isWrong_112 : decode prog_14_method_34_code 112 = .ok (.iload_n 1, 1) := by decide +kernel
theorem d_MO_isWrong_113 : decode prog_14_method_34_code 113 = .ok (.iconst 3, 1) := by decide +kernel
theorem d_MO_isWrong_114 : decode prog_14_method_34_code 114 = .ok (.if_icmp .ne 41, 3) := by decide +kernel
theorem d_MO_isWrong_117 : decode prog_14_method_34_code 117 = .ok (.aload_n 0, 1) := by decide +kernel
theorem d_MO_isWrong_118 : decode prog_14_method_34_code 118 = .ok (.iconst 0, 1) := by decide +kernel
theorem d_MO_isWrong_119 : decode prog_14_method_34_code 119 = .ok (.invokevirtual 142, 3) := by decide +kernel
theorem d_MO_isWrong_122 : decode prog_14_method_34_code 122 = .ok (.ifCond .eq 11, 3) := by decide +kernel
theorem d_MO_isWrong_125 : decode prog_14_method_34_code 125 = .ok (.aload_n 0, 1) := by decide +kernel
theorem d_MO_isWrong_126 : decode prog_14_method_34_code 126 = .ok (.iconst 1, 1) := by decide +kernel
theorem d_MO_isWrong_127 : decode prog_14_method_34_code 127 = .ok (.invokevirtual 126, 3) := by decide +kernel
theorem d_MO_isWrong_130 : decode prog_14_method_34_code 130 = .ok (.ifCond .ne 19, 3) := by decide +kernel
theorem d_MO_isWrong_133 : decode prog_14_method_34_code 133 = .ok (.aload_n 0, 1) := by decide +kernel
theorem d_MO_isWrong_134 : decode prog_14_method_34_code 134 = .ok (.iconst 0, 1) := by decide +kernel
theorem d_MO_isWrong_135 : decode prog_14_method_34_code 135 = .ok (.invokevirtual 126, 3) := by decide +kernel
theorem d_MO_isWrong_138 : decode prog_14_method_34_code 138 = .ok (.ifCond .eq 15, 3) := by decide +kernel
theorem d_MO_isWrong_141 : decode prog_14_method_34_code 141 = .ok (.aload_n 0, 1) := by decide +kernel
theorem d_MO_isWrong_142 : decode prog_14_method_34_code 142 = .ok (.iconst 1, 1) := by decide +kernel
theorem d_MO_isWrong_143 : decode prog_14_method_34_code 143 = .ok (.invokevirtual 142, 3) := by decide +kernel
theorem d_MO_isWrong_146 : decode prog_14_method_34_code 146 = .ok (.ifCond .eq 7, 3) := by decide +kernel
theorem d_MO_isWrong_149 : decode prog_14_method_34_code 149 = .ok (.iconst 1, 1) := by decide +kernel
theorem d_MO_isWrong_150 : decode prog_14_method_34_code 150 = .ok (.goto 4, 3) := by decide +kernel
theorem d_MO_isWrong_153 : decode prog_14_method_34_code 153 = .ok (.iconst 0, 1) := by decide +kernel
theorem d_MO_isWrong_154 : decode prog_14_method_34_code 154 = .ok (.ireturn, 1) := by decide +kernel
theorem d_MO_isWrong_155 : decode prog_14_method_34_code 155 = .ok (.aload_n 0, 1) := by decide +kernel
theorem d_MO_isWrong_156 : decode prog_14_method_34_code 156 = .ok (.iconst 0, 1) := by decide +kernel
theorem d_MO_isWrong_157 : decode prog_14_method_34_code 157 = .ok (.invokevirtual 142, 3) := by decide +kernel
theorem d_MO_isWrong_160 : decode prog_14_method_34_code 160 = .ok (.ifCond .eq 11, 3) := by decide +kernel
theorem d_MO_isWrong_163 : decode prog_14_method_34_code 163 = .ok (.aload_n 0, 1) := by decide +kernel
theorem d_MO_isWrong_164 : decode prog_14_method_34_code 164 = .ok (.iconst 1, 1) := by decide +kernel
theorem d_MO_isWrong_165 : decode prog_14_method_34_code 165 = .ok (.invokevirtual 142, 3) := by decide +kernel
theorem d_MO_isWrong_168 : decode prog_14_method_34_code 168 = .ok (.ifCond .ne 27, 3) := by decide +kernel
theorem d_MO_isWrong_171 : decode prog_14_method_34_code 171 = .ok (.aload_n 0, 1) := by decide +kernel
theorem d_MO_isWrong_172 : decode prog_14_method_34_code 172 = .ok (.iconst 0, 1) := by decide +kernel
theorem d_MO_isWrong_173 : decode prog_14_method_34_code 173 = .ok (.invokevirtual 126, 3) := by decide +kernel
theorem d_MO_isWrong_176 : decode prog_14_method_34_code 176 = .ok (.ifCond .eq 11, 3) := by decide +kernel
theorem d_MO_isWrong_179 : decode prog_14_method_34_code 179 = .ok (.aload_n 0, 1) := by decide +kernel
theorem d_MO_isWrong_180 : decode prog_14_method_34_code 180 = .ok (.iconst 1, 1) := by decide +kernel
theorem d_MO_isWrong_181 : decode prog_14_method_34_code 181 = .ok (.invokevirtual 126, 3) := by decide +kernel
theorem d_MO_isWrong_184 : decode prog_14_method_34_code 184 = .ok (.ifCond .ne 11, 3) := by decide +kernel
theorem d_MO_isWrong_187 : decode prog_14_method_34_code 187 = .ok (.aload_n 0, 1) := by decide +kernel
theorem d_MO_isWrong_188 : decode prog_14_method_34_code 188 = .ok (.iconst 1, 1) := by decide +kernel
theorem d_MO_isWrong_189 : decode prog_14_method_34_code 189 = .ok (.invokevirtual 139, 3) := by decide +kernel
theorem d_MO_isWrong_192 : decode prog_14_method_34_code 192 = .ok (.ifCond .eq 7, 3) := by decide +kernel
theorem d_MO_isWrong_195 : decode prog_14_method_34_code 195 = .ok (.iconst 1, 1) := by decide +kernel
theorem d_MO_isWrong_196 : decode prog_14_method_34_code 196 = .ok (.goto 4, 3) := by decide +kernel
theorem d_MO_isWrong_199 : decode prog_14_method_34_code 199 = .ok (.iconst 0, 1) := by decide +kernel
theorem d_MO_isWrong_200 : decode prog_14_method_34_code 200 = .ok (.ireturn, 1) := by decide +kernel
theorem d_MO_answer_0 : decode prog_14_method_17_code 0 = .ok (.aload_n 0, 1) := by decide +kernel
theorem d_MO_answer_1 : decode prog_14_method_17_code 1 = .ok (.iload_n 1, 1) := by decide +kernel
theorem d_MO_answer_2 : decode prog_14_method_17_code 2 = .ok (.ifCond .eq 8, 3) := by decide +kernel
theorem d_MO_answer_5 : decode prog_14_method_17_code 5 = .ok (.ldc 55, 2) := by decide +kernel
theorem d_MO_answer_7 : decode prog_14_method_17_code 7 = .ok (.goto 4, 3) := by decide +kernel
theorem d_MO_answer_10 : decode prog_14_method_17_code 10 = .ok (.iconst 0, 1) := by decide +kernel
theorem d_MO_answer_11 : decode prog_14_method_17_code 11 = .ok (.iload_n 2, 1) := by decide +kernel
theorem d_MO_answer_12 : decode prog_14_method_17_code 12 = .ok (.iadd, 1) := by decide +kernel
theorem d_MO_answer_13 : decode prog_14_method_17_code 13 = .ok (.putfield 56, 3) := by decide +kernel
theorem d_MO_answer_16 : decode prog_14_method_17_code 16 = .ok (.aload_n 0, 1) := by decide +kernel
theorem d_MO_answer_17 : decode prog_14_method_17_code 17 = .ok (.lload_n 3, 1) := by decide +kernel
theorem d_MO_answer_18 : decode prog_14_method_17_code 18 = .ok (.putfield 59, 3) := by decide +kernel
theorem d_MO_answer_21 : decode prog_14_method_17_code 21 = .ok (.return_, 1) := by decide +kernel
theorem d_MO_isDenormal_0 : decode prog_14_method_12_code 0 = .ok (.aload_n 0, 1) := by decide +kernel
theorem d_MO_isDenormal_1 : decode prog_14_method_12_code 1 = .ok (.getfield 25, 3) := by decide +kernel
theorem d_MO_isDenormal_4 : decode prog_14_method_12_code 4 = .ok (.iload_n 1, 1) := by decide +kernel
theorem d_MO_isDenormal_5 : decode prog_14_method_12_code 5 = .ok (.iaload, 1) := by decide +kernel
theorem d_MO_isDenormal_6 : decode prog_14_method_12_code 6 = .ok (.ifCond .ne 18, 3) := by decide +kernel
theorem d_MO_isDenormal_9 : decode prog_14_method_12_code 9 = .ok (.aload_n 0, 1) := by decide +kernel
theorem d_MO_isDenormal_10 : decode prog_14_method_12_code 10 = .ok (.getfield 28, 3) := by decide +kernel
theorem d_MO_isDenormal_13 : decode prog_14_method_12_code 13 = .ok (.iload_n 1, 1) := by decide +kernel
theorem d_MO_isDenormal_14 : decode prog_14_method_12_code 14 = .ok (.laload, 1) := by decide +kernel
theorem d_MO_isDenormal_15 : decode prog_14_method_12_code 15 = .ok (.lconst 0, 1) := by decide +kernel
theorem d_MO_isDenormal_16 : decode prog_14_method_12_code 16 = .ok (.lcmp, 1) := by decide +kernel
theorem d_MO_isDenormal_17 : decode prog_14_method_12_code 17 = .ok (.ifCond .eq 7, 3) := by decide +kernel
theorem d_MO_isDenormal_20 : decode prog_14_method_12_code 20 = .ok (.iconst 1, 1) := by decide +kernel
theorem d_MO_isDenormal_21 : decode prog_14_method_12_code 21 = .ok (.goto 4, 3) := by decide +kernel
theorem d_MO_isDenormal_24 : decode prog_14_method_12_code 24 = .ok (.iconst 0, 1) := by decide +kernel
theorem d_MO_isDenormal_25 : decode prog_14_method_12_code 25 = .ok (.ireturn, 1) := by decide +kernel
theorem d_MO_unitOf_0 : decode prog_14_method_14_code 0 = .ok (.aload_n 0, 1) := by decide +kernel
theorem d_MO_unitOf_1 : decode prog_14_method_14_code 1 = .ok (.getfield 25, 3) := by decide +kernel
theorem d_MO_unitOf_4 : decode prog_14_method_14_code 4 = .ok (.iload_n 1, 1) := by decide +kernel
theorem d_MO_unitOf_5 : decode prog_14_method_14_code 5 = .ok (.iaload, 1) := by decide +kernel
theorem d_MO_unitOf_6 : decode prog_14_method_14_code 6 = .ok (.ifCond .ne 7, 3) := by decide +kernel
theorem d_MO_unitOf_9 : decode prog_14_method_14_code 9 = .ok (.iconst 1, 1) := by decide +kernel
theorem d_MO_unitOf_10 : decode prog_14_method_14_code 10 = .ok (.goto 9, 3) := by decide +kernel
theorem d_MO_unitOf_13 : decode prog_14_method_14_code 13 = .ok (.aload_n 0, 1) := by decide +kernel
theorem d_MO_unitOf_14 : decode prog_14_method_14_code 14 = .ok (.getfield 25, 3) := by decide +kernel
theorem d_MO_unitOf_17 : decode prog_14_method_14_code 17 = .ok (.iload_n 1, 1) := by decide +kernel
theorem d_MO_unitOf_18 : decode prog_14_method_14_code 18 = .ok (.iaload, 1) := by decide +kernel
theorem d_MO_unitOf_19 : decode prog_14_method_14_code 19 = .ok (.sipush 16446, 3) := by decide +kernel
theorem d_MO_unitOf_22 : decode prog_14_method_14_code 22 = .ok (.isub, 1) := by decide +kernel
theorem d_MO_unitOf_23 : decode prog_14_method_14_code 23 = .ok (.ireturn, 1) := by decide +kernel
theorem d_MO_isLess_0 : decode prog_14_method_27_code 0 = .ok (.aload_n 0, 1) := by decide +kernel
theorem d_MO_isLess_1 : decode prog_14_method_27_code 1 = .ok (.iconst 0, 1) := by decide +kernel
theorem d_MO_isLess_2 : decode prog_14_method_27_code 2 = .ok (.invokevirtual 106, 3) := by decide +kernel
theorem d_MO_isLess_5 : decode prog_14_method_27_code 5 = .ok (.aload_n 0, 1) := by decide +kernel
theorem d_MO_isLess_6 : decode prog_14_method_27_code 6 = .ok (.iconst 1, 1) := by decide +kernel
theorem d_MO_isLess_7 : decode prog_14_method_27_code 7 = .ok (.invokevirtual 106, 3) := by decide +kernel
theorem d_MO_isLess_10 : decode prog_14_method_27_code 10 = .ok (.if_icmp .ge 11, 3) := by decide +kernel
theorem d_MO_isLess_13 : decode prog_14_method_27_code 13 = .ok (.aload_n 0, 1) := by decide +kernel
theorem d_MO_isLess_14 : decode prog_14_method_27_code 14 = .ok (.iconst 0, 1) := by decide +kernel
theorem d_MO_isLess_15 : decode prog_14_method_27_code 15 = .ok (.invokevirtual 106, 3) := by decide +kernel
theorem d_MO_isLess_18 : decode prog_14_method_27_code 18 = .ok (.goto 8, 3) := by decide +kernel
theorem d_MO_isLess_21 : decode prog_14_method_27_code 21 = .ok (.aload_n 0, 1) := by decide +kernel
theorem d_MO_isLess_22 : decode prog_14_method_27_code 22 = .ok (.iconst 1, 1) := by decide +kernel
theorem d_MO_isLess_23 : decode prog_14_method_27_code 23 = .ok (.invokevirtual 106, 3) := by decide +kernel
theorem d_MO_isLess_26 : decode prog_14_method_27_code 26 = .ok (.istore_n 1, 1) := by decide +kernel
theorem d_MO_isLess_27 : decode prog_14_method_27_code 27 = .ok (.aload_n 0, 1) := by decide +kernel
theorem d_MO_isLess_28 : decode prog_14_method_27_code 28 = .ok (.iconst 0, 1) := by decide +kernel
theorem d_MO_isLess_29 : decode prog_14_method_27_code 29 = .ok (.invokevirtual 106, 3) := by decide +kernel
theorem d_MO_isLess_32 : decode prog_14_method_27_code 32 = .ok (.iload_n 1, 1) := by decide +kernel
theorem d_MO_isLess_33 : decode prog_14_method_27_code 33 = .ok (.isub, 1) := by decide +kernel
theorem d_MO_isLess_34 : decode prog_14_method_27_code 34 = .ok (.istore_n 2, 1) := by decide +kernel
theorem d_MO_isLess_35 : decode prog_14_method_27_code 35 = .ok (.aload_n 0, 1) := by decide +kernel
theorem d_MO_isLess_36 : decode prog_14_method_27_code 36 = .ok (.iconst 1, 1) := by decide +kernel
theorem d_MO_isLess_37 : decode prog_14_method_27_code 37 = .ok (.invokevirtual 106, 3) := by decide +kernel
theorem d_MO_isLess_40 : decode prog_14_method_27_code 40 = .ok (.iload_n 1, 1) := by decide +kernel
theorem d_MO_isLess_41 : decode prog_14_method_27_code 41 = .ok (.isub, 1) := by decide +kernel
theorem d_MO_isLess_42 : decode prog_14_method_27_code 42 = .ok (.istore_n 3, 1) := by decide +kernel
theorem d_MO_isLess_43 : decode prog_14_method_27_code 43 = .ok (.iconst 0, 1) := by decide +kernel
theorem d_MO_isLess_44 : decode prog_14_method_27_code 44 = .ok (.istore 4, 2) := by decide +kernel
theorem d_MO_isLess_46 : decode prog_14_method_27_code 46 = .ok (.iconst 0, 1) := by decide +kernel
theorem d_MO_isLess_47 : decode prog_14_method_27_code 47 = .ok (.istore 5, 2) := by decide +kernel
theorem d_MO_isLess_49 : decode prog_14_method_27_code 49 = .ok (.iload 5, 2) := by decide +kernel
theorem d_MO_isLess_51 : decode prog_14_method_27_code 51 = .ok (.iload_n 2, 1) := by decide +kernel
theorem d_MO_isLess_52 : decode prog_14_method_27_code 52 = .ok (.iload_n 3, 1) := by decide +kernel
theorem d_MO_isLess_53 : decode prog_14_method_27_code 53 = .ok (.if_icmp .ge 7, 3) := by decide +kernel
theorem d_MO_isLess_56 : decode prog_14_method_27_code 56 = .ok (.iload_n 3, 1) := by decide +kernel
theorem d_MO_isLess_57 : decode prog_14_method_27_code 57 = .ok (.goto 4, 3) := by decide +kernel
theorem d_MO_isLess_60 : decode prog_14_method_27_code 60 = .ok (.iload_n 2, 1) := by decide +kernel
theorem d_MO_isLess_61 : decode prog_14_method_27_code 61 = .ok (.bipush 64, 2) := by decide +kernel
theorem d_MO_isLess_63 : decode prog_14_method_27_code 63 = .ok (.iadd, 1) := by decide +kernel
theorem d_MO_isLess_64 : decode prog_14_method_27_code 64 = .ok (.if_icmp .ge 105, 3) := by decide +kernel
theorem d_MO_isLess_67 : decode prog_14_method_27_code 67 = .ok (.iload 5, 2) := by decide +kernel
theorem d_MO_isLess_69 : decode prog_14_method_27_code 69 = .ok (.iload_n 2, 1) := by decide +kernel
theorem d_MO_isLess_70 : decode prog_14_method_27_code 70 = .ok (.if_icmp .lt 34, 3) := by decide +kernel
theorem d_MO_isLess_73 : decode prog_14_method_27_code 73 = .ok (.iload 5, 2) := by decide +kernel
theorem d_MO_isLess_75 : decode prog_14_method_27_code 75 = .ok (.iload_n 2, 1) := by decide +kernel
theorem d_MO_isLess_76 : decode prog_14_method_27_code 76 = .ok (.isub, 1) := by decide +kernel
theorem d_MO_isLess_77 : decode prog_14_method_27_code 77 = .ok (.bipush 64, 2) := by decide +kernel
theorem d_MO_isLess_79 : decode prog_14_method_27_code 79 = .ok (.if_icmp .ge 25, 3) := by decide +kernel
theorem d_MO_isLess_82 : decode prog_14_method_27_code 82 = .ok (.aload_n 0, 1) := by decide +kernel
theorem d_MO_isLess_83 : decode prog_14_method_27_code 83 = .ok (.getfield 28, 3) := by decide +kernel
theorem d_MO_isLess_86 : decode prog_14_method_27_code 86 = .ok (.iconst 0, 1) := by decide +kernel
theorem d_MO_isLess_87 : decode prog_14_method_27_code 87 = .ok (.laload, 1) := by decide +kernel
theorem d_MO_isLess_88 : decode prog_14_method_27_code 88 = .ok (.iload 5, 2) := by decide +kernel
theorem d_MO_isLess_90 : decode prog_14_method_27_code 90 = .ok (.iload_n 2, 1) := by decide +kernel
theorem d_MO_isLess_91 : decode prog_14_method_27_code 91 = .ok (.isub, 1) := by decide +kernel
theorem d_MO_isLess_92 : decode prog_14_method_27_code 92 = .ok (.lshr, 1) := by decide +kernel
theorem d_MO_isLess_93 : decode prog_14_method_27_code 93 = .ok (.lconst 1, 1) := by decide +kernel
theorem d_MO_isLess_94 : decode prog_14_method_27_code 94 = .ok (.land, 1) := by decide +kernel
theorem d_MO_isLess_95 : decode prog_14_method_27_code 95 = .ok (.lconst 1, 1) := by decide +kernel
theorem d_MO_isLess_96 : decode prog_14_method_27_code 96 = .ok (.lcmp, 1) := by decide +kernel
theorem d_MO_isLess_97 : decode prog_14_method_27_code 97 = .ok (.ifCond .ne 7, 3) := by decide +kernel
theorem d_MO_isLess_100 : decode prog_14_method_27_code 100 = .ok (.iconst 1, 1) := by decide +kernel
theorem d_MO_isLess_101 : decode prog_14_method_27_code 101 = .ok (.goto 4, 3) := by decide +kernel
theorem d_MO_isLess_104 : decode prog_14_method_27_code 104 = .ok (.iconst 0, 1) := by decide +kernel
theorem d_MO_isLess_105 : decode prog_14_method_27_code 105 = .ok (.istore 6, 2) := by decide +kernel
theorem d_MO_isLess_107 : decode prog_14_method_27_code 107 = .ok (.iload 5, 2) := by decide +kernel
theorem d_MO_isLess_109 : decode prog_14_method_27_code 109 = .ok (.iload_n 3, 1) := by decide +kernel
theorem d_MO_isLess_110 : decode prog_14_method_27_code 110 = .ok (.if_icmp .lt 34, 3) := by decide +kernel
theorem d_MO_isLess_113 : decode prog_14_method_27_code 113 = .ok (.iload 5, 2) := by decide +kernel
theorem d_MO_isLess_115 : decode prog_14_method_27_code 115 = .ok (.iload_n 3, 1) := by decide +kernel
theorem d_MO_isLess_116 : decode prog_14_method_27_code 116 = .ok (.isub, 1) := by decide +kernel
theorem d_MO_isLess_117 : decode prog_14_method_27_code 117 = .ok (.bipush 64, 2) := by decide +kernel
theorem d_MO_isLess_119 : decode prog_14_method_27_code 119 = .ok (.if_icmp .ge 25, 3) := by decide +kernel
theorem d_MO_isLess_122 : decode prog_14_method_27_code 122 = .ok (.aload_n 0, 1) := by decide +kernel
theorem d_MO_isLess_123 : decode prog_14_method_27_code 123 = .ok (.getfield 28, 3) := by decide +kernel
theorem d_MO_isLess_126 : decode prog_14_method_27_code 126 = .ok (.iconst 1, 1) := by decide +kernel
theorem d_MO_isLess_127 : decode prog_14_method_27_code 127 = .ok (.laload, 1) := by decide +kernel
theorem d_MO_isLess_128 : decode prog_14_method_27_code 128 = .ok (.iload 5, 2) := by decide +kernel
theorem d_MO_isLess_130 : decode prog_14_method_27_code 130 = .ok (.iload_n 3, 1) := by decide +kernel
theorem d_MO_isLess_131 : decode prog_14_method_27_code 131 = .ok (.isub, 1) := by decide +kernel
theorem d_MO_isLess_132 : decode prog_14_method_27_code 132 = .ok (.lshr, 1) := by decide +kernel
theorem d_MO_isLess_133 : decode prog_14_method_27_code 133 = .ok (.lconst 1, 1) := by decide +kernel
theorem d_MO_isLess_134 : decode prog_14_method_27_code 134 = .ok (.land, 1) := by decide +kernel
theorem d_MO_isLess_135 : decode prog_14_method_27_code 135 = .ok (.lconst 1, 1) := by decide +kernel
theorem d_MO_isLess_136 : decode prog_14_method_27_code 136 = .ok (.lcmp, 1) := by decide +kernel
theorem d_MO_isLess_137 : decode prog_14_method_27_code 137 = .ok (.ifCond .ne 7, 3) := by decide +kernel
theorem d_MO_isLess_140 : decode prog_14_method_27_code 140 = .ok (.iconst 1, 1) := by decide +kernel
theorem d_MO_isLess_141 : decode prog_14_method_27_code 141 = .ok (.goto 4, 3) := by decide +kernel
theorem d_MO_isLess_144 : decode prog_14_method_27_code 144 = .ok (.iconst 0, 1) := by decide +kernel
theorem d_MO_isLess_145 : decode prog_14_method_27_code 145 = .ok (.istore 7, 2) := by decide +kernel
theorem d_MO_isLess_147 : decode prog_14_method_27_code 147 = .ok (.iload 6, 2) := by decide +kernel
theorem d_MO_isLess_149 : decode prog_14_method_27_code 149 = .ok (.iload 7, 2) := by decide +kernel
theorem d_MO_isLess_151 : decode prog_14_method_27_code 151 = .ok (.if_icmp .ne 8, 3) := by decide +kernel
theorem d_MO_isLess_154 : decode prog_14_method_27_code 154 = .ok (.iload 4, 2) := by decide +kernel
theorem d_MO_isLess_156 : decode prog_14_method_27_code 156 = .ok (.goto 5, 3) := by decide +kernel
theorem d_MO_isLess_159 : decode prog_14_method_27_code 159 = .ok (.iload 7, 2) := by decide +kernel
theorem d_MO_isLess_161 : decode prog_14_method_27_code 161 = .ok (.istore 4, 2) := by decide +kernel
theorem d_MO_isLess_163 : decode prog_14_method_27_code 163 = .ok (.iinc 5 1, 3) := by decide +kernel
theorem d_MO_isLess_166 : decode prog_14_method_27_code 166 = .ok (.goto (-117), 3) := by decide +kernel
theorem d_MO_isLess_169 : decode prog_14_method_27_code 169 = .ok (.iload 4, 2) := by decide +kernel
theorem d_MO_isLess_171 : decode prog_14_method_27_code 171 = .ok (.ireturn, 1) := by decide +kernel
theorem d_MO_empty_0 : decode prog_14_method_25_code 0 = .ok (.aload_n 0, 1) := by decide +kernel
theorem d_MO_empty_1 : decode prog_14_method_25_code 1 = .ok (.iload_n 1, 1) := by decide +kernel
theorem d_MO_empty_2 : decode prog_14_method_25_code 2 = .ok (.putfield 63, 3) := by decide +kernel
theorem d_MO_empty_5 : decode prog_14_method_25_code 5 = .ok (.aload_n 0, 1) := by decide +kernel
theorem d_MO_empty_6 : decode prog_14_method_25_code 6 = .ok (.iload_n 2, 1) := by decide +kernel
theorem d_MO_empty_7 : decode prog_14_method_25_code 7 = .ok (.putfield 69, 3) := by decide +kernel
theorem d_MO_empty_10 : decode prog_14_method_25_code 10 = .ok (.aload_n 0, 1) := by decide +kernel
theorem d_MO_empty_11 : decode prog_14_method_25_code 11 = .ok (.iconst 0, 1) := by decide +kernel
theorem d_MO_empty_12 : decode prog_14_method_25_code 12 = .ok (.putfield 66, 3) := by decide +kernel
theorem d_MO_empty_15 : decode prog_14_method_25_code 15 = .ok (.iconst 0, 1) := by decide +kernel
theorem d_MO_empty_16 : decode prog_14_method_25_code 16 = .ok (.istore_n 3, 1) := by decide +kernel
theorem d_MO_empty_17 : decode prog_14_method_25_code 17 = .ok (.iload_n 3, 1) := by decide +kernel
theorem d_MO_empty_18 : decode prog_14_method_25_code 18 = .ok (.iload_n 1, 1) := by decide +kernel
theorem d_MO_empty_19 : decode prog_14_method_25_code 19 = .ok (.if_icmp .ge 16, 3) := by decide +kernel
theorem d_MO_empty_22 : decode prog_14_method_25_code 22 = .ok (.aload_n 0, 1) := by decide +kernel
theorem d_MO_empty_23 : decode prog_14_method_25_code 23 = .ok (.getfield 32, 3) := by decide +kernel
theorem d_MO_empty_26 : decode prog_14_method_25_code 26 = .ok (.iload_n 3, 1) := by decide +kernel
theorem d_MO_empty_27 : decode prog_14_method_25_code 27 = .ok (.iconst 0, 1) := by decide +kernel
theorem d_MO_empty_28 : decode prog_14_method_25_code 28 = .ok (.bastore, 1) := by decide +kernel
theorem d_MO_empty_29 : decode prog_14_method_25_code 29 = .ok (.iinc 3 1, 3) := by decide +kernel
theorem d_MO_empty_32 : decode prog_14_method_25_code 32 = .ok (.goto (-15), 3) := by decide +kernel
theorem d_MO_empty_35 : decode prog_14_method_25_code 35 = .ok (.return_, 1) := by decide +kernel
theorem d_MO_join_0 : decode prog_14_method_26_code 0 = .ok (.iconst 0, 1) := by decide +kernel
theorem d_MO_join_1 : decode prog_14_method_26_code 1 = .ok (.istore 5, 2) := by decide +kernel
theorem d_MO_join_3 : decode prog_14_method_26_code 3 = .ok (.iload_n 3, 1) := by decide +kernel
theorem d_MO_join_4 : decode prog_14_method_26_code 4 = .ok (.istore 6, 2) := by decide +kernel
theorem d_MO_join_6 : decode prog_14_method_26_code 6 = .ok (.iload 6, 2) := by decide +kernel
theorem d_MO_join_8 : decode prog_14_method_26_code 8 = .ok (.aload_n 0, 1) := by decide +kernel
theorem d_MO_join_9 : decode prog_14_method_26_code 9 = .ok (.getfield 63, 3) := by decide +kernel
theorem d_MO_join_12 : decode prog_14_method_26_code 12 = .ok (.if_icmp .ge 151, 3) := by decide +kernel
theorem d_MO_join_15 : decode prog_14_method_26_code 15 = .ok (.aload_n 0, 1) := by decide +kernel
theorem d_MO_join_16 : decode prog_14_method_26_code 16 = .ok (.getfield 32, 3) := by decide +kernel
theorem d_MO_join_19 : decode prog_14_method_26_code 19 = .ok (.iload 6, 2) := by decide +kernel
theorem d_MO_join_21 : decode prog_14_method_26_code 21 = .ok (.baload, 1) := by decide +kernel
theorem d_MO_join_22 : decode prog_14_method_26_code 22 = .ok (.istore 7, 2) := by decide +kernel
theorem d_MO_join_24 : decode prog_14_method_26_code 24 = .ok (.iload 6, 2) := by decide +kernel
theorem d_MO_join_26 : decode prog_14_method_26_code 26 = .ok (.iload_n 3, 1) := by decide +kernel
theorem d_MO_join_27 : decode prog_14_method_26_code 27 = .ok (.isub, 1) := by decide +kernel
theorem d_MO_join_28 : decode prog_14_method_26_code 28 = .ok (.bipush 64, 2) := by decide +kernel
theorem d_MO_join_30 : decode prog_14_method_26_code 30 = .ok (.if_icmp .ge 20, 3) := by decide +kernel
theorem d_MO_join_33 : decode prog_14_method_26_code 33 = .ok (.lload_n 1, 1) := by decide +kernel
theorem d_MO_join_34 : decode prog_14_method_26_code 34 = .ok (.iload 6, 2) := by decide +kernel
theorem d_MO_join_36 : decode prog_14_method_26_code 36 = .ok (.iload_n 3, 1) := by decide +kernel
theorem d_MO_join_37 : decode prog_14_method_26_code 37 = .ok (.isub, 1) := by decide +kernel
theorem d_MO_join_38 : decode prog_14_method_26_code 38 = .ok (.lshr, 1) := by decide +kernel
theorem d_MO_join_39 : decode prog_14_method_26_code 39 = .ok (.lconst 1, 1) := by decide +kernel
theorem d_MO_join_40 : decode prog_14_method_26_code 40 = .ok (.land, 1) := by decide +kernel
theorem d_MO_join_41 : decode prog_14_method_26_code 41 = .ok (.lconst 1, 1) := by decide +kernel
theorem d_MO_join_42 : decode prog_14_method_26_code 42 = .ok (.lcmp, 1) := by decide +kernel
theorem d_MO_join_43 : decode prog_14_method_26_code 43 = .ok (.ifCond .ne 7, 3) := by decide +kernel
theorem d_MO_join_46 : decode prog_14_method_26_code 46 = .ok (.iconst 1, 1) := by decide +kernel
theorem d_MO_join_47 : decode prog_14_method_26_code 47 = .ok (.goto 4, 3) := by decide +kernel
theorem d_MO_join_50 : decode prog_14_method_26_code 50 = .ok (.iconst 0, 1) := by decide +kernel
theorem d_MO_join_51 : decode prog_14_method_26_code 51 = .ok (.istore 8, 2) := by decide +kernel
theorem d_MO_join_53 : decode prog_14_method_26_code 53 = .ok (.aload_n 0, 1) := by decide +kernel
theorem d_MO_join_54 : decode prog_14_method_26_code 54 = .ok (.getfield 32, 3) := by decide +kernel
theorem d_MO_join_57 : decode prog_14_method_26_code 57 = .ok (.iload 6, 2) := by decide +kernel
theorem d_MO_join_59 : decode prog_14_method_26_code 59 = .ok (.iload 7, 2) := by decide +kernel
theorem d_MO_join_61 : decode prog_14_method_26_code 61 = .ok (.iload 8, 2) := by decide +kernel
theorem d_MO_join_63 : decode prog_14_method_26_code 63 = .ok (.if_icmp .eq 7, 3) := by decide +kernel
theorem d_MO_join_66 : decode prog_14_method_26_code 66 = .ok (.iconst 1, 1) := by decide +kernel
theorem d_MO_join_67 : decode prog_14_method_26_code 67 = .ok (.goto 4, 3) := by decide +kernel
theorem d_MO_join_70 : decode prog_14_method_26_code 70 = .ok (.iconst 0, 1) := by decide +kernel
theorem d_MO_join_71 : decode prog_14_method_26_code 71 = .ok (.iload 5, 2) := by decide +kernel
theorem d_MO_join_73 : decode prog_14_method_26_code 73 = .ok (.if_icmp .eq 7, 3) := by decide +kernel
theorem d_MO_join_76 : decode prog_14_method_26_code 76 = .ok (.iconst 1, 1) := by decide +kernel
theorem d_MO_join_77 : decode prog_14_method_26_code 77 = .ok (.goto 4, 3) := by decide +kernel
theorem d_MO_join_80 : decode prog_14_method_26_code 80 = .ok (.iconst 0, 1) := by decide +kernel
theorem d_MO_join_81 : decode prog_14_method_26_code 81 = .ok (.bastore, 1) := by decide +kernel
theorem d_MO_join_82 : decode prog_14_method_26_code 82 = .ok (.iload 4, 2) := by decide +kernel
theorem d_MO_join_84 : decode prog_14_method_26_code 84 = .ok (.ifCond .eq 36, 3) := by decide +kernel
theorem d_MO_join_87 : decode prog_14_method_26_code 87 = .ok (.iload 7, 2) := by decide +kernel
theorem d_MO_join_89 : decode prog_14_method_26_code 89 = .ok (.ifCond .ne 13, 3) := by decide +kernel
theorem d_MO_join_92 : decode prog_14_method_26_code 92 = .ok (.iload 8, 2) := by decide +kernel
theorem d_MO_join_94 : decode prog_14_method_26_code 94 = .ok (.ifCond .ne 18, 3) := by decide +kernel
theorem d_MO_join_97 : decode prog_14_method_26_code 97 = .ok (.iload 5, 2) := by decide +kernel
theorem d_MO_join_99 : decode prog_14_method_26_code 99 = .ok (.ifCond .ne 13, 3) := by decide +kernel
theorem d_MO_join_102 : decode prog_14_method_26_code 102 = .ok (.iload 8, 2) := by decide +kernel
theorem d_MO_join_104 : decode prog_14_method_26_code 104 = .ok (.ifCond .eq 12, 3) := by decide +kernel
theorem d_MO_join_107 : decode prog_14_method_26_code 107 = .ok (.iload 5, 2) := by decide +kernel
theorem d_MO_join_109 : decode prog_14_method_26_code 109 = .ok (.ifCond .eq 7, 3) := by decide +kernel
theorem d_MO_join_112 : decode prog_14_method_26_code 112 = .ok (.iconst 1, 1) := by decide +kernel
theorem d_MO_join_113 : decode prog_14_method_26_code 113 = .ok (.goto 42, 3) := by decide +kernel
theorem d_MO_join_116 : decode prog_14_method_26_code 116 = .ok (.iconst 0, 1) := by decide +kernel
theorem d_MO_join_117 : decode prog_14_method_26_code 117 = .ok (.goto 38, 3) := by decide +kernel
theorem d_MO_join_120 : decode prog_14_method_26_code 120 = .ok (.iload 7, 2) := by decide +kernel
theorem d_MO_join_122 : decode prog_14_method_26_code 122 = .ok (.ifCond .eq 8, 3) := by decide +kernel
theorem d_MO_join_125 : decode prog_14_method_26_code 125 = .ok (.iload 8, 2) := by decide +kernel
theorem d_MO_join_127 : decode prog_14_method_26_code 127 = .ok (.ifCond .ne 23, 3) := by decide +kernel
theorem d_MO_join_130 : decode prog_14_method_26_code 130 = .ok (.iload 7, 2) := by decide +kernel
theorem d_MO_join_132 : decode prog_14_method_26_code 132 = .ok (.ifCond .eq 8, 3) := by decide +kernel
theorem d_MO_join_135 : decode prog_14_method_26_code 135 = .ok (.iload 5, 2) := by decide +kernel
theorem d_MO_join_137 : decode prog_14_method_26_code 137 = .ok (.ifCond .ne 13, 3) := by decide +kernel
theorem d_MO_join_140 : decode prog_14_method_26_code 140 = .ok (.iload 8, 2) := by decide +kernel
theorem d_MO_join_142 : decode prog_14_method_26_code 142 = .ok (.ifCond .eq 12, 3) := by decide +kernel
theorem d_MO_join_145 : decode prog_14_method_26_code 145 = .ok (.iload 5, 2) := by decide +kernel
theorem d_MO_join_147 : decode prog_14_method_26_code 147 = .ok (.ifCond .eq 7, 3) := by decide +kernel
theorem d_MO_join_150 : decode prog_14_method_26_code 150 = .ok (.iconst 1, 1) := by decide +kernel
theorem d_MO_join_151 : decode prog_14_method_26_code 151 = .ok (.goto 4, 3) := by decide +kernel
theorem d_MO_join_154 : decode prog_14_method_26_code 154 = .ok (.iconst 0, 1) := by decide +kernel
theorem d_MO_join_155 : decode prog_14_method_26_code 155 = .ok (.istore 5, 2) := by decide +kernel
theorem d_MO_join_157 : decode prog_14_method_26_code 157 = .ok (.iinc 6 1, 3) := by decide +kernel
theorem d_MO_join_160 : decode prog_14_method_26_code 160 = .ok (.goto (-154), 3) := by decide +kernel
theorem d_MO_join_163 : decode prog_14_method_26_code 163 = .ok (.return_, 1) := by decide +kernel
theorem d_MO_highest_0 : decode prog_14_method_19_code 0 = .ok (.aload_n 0, 1) := by decide +kernel
theorem d_MO_highest_1 : decode prog_14_method_19_code 1 = .ok (.getfield 63, 3) := by decide +kernel
theorem d_MO_highest_4 : decode prog_14_method_19_code 4 = .ok (.iconst 1, 1) := by decide +kernel
theorem d_MO_highest_5 : decode prog_14_method_19_code 5 = .ok (.isub, 1) := by decide +kernel
theorem d_MO_highest_6 : decode prog_14_method_19_code 6 = .ok (.istore_n 1, 1) := by decide +kernel
theorem d_MO_highest_7 : decode prog_14_method_19_code 7 = .ok (.iload_n 1, 1) := by decide +kernel
theorem d_MO_highest_8 : decode prog_14_method_19_code 8 = .ok (.ifCond .lt 18, 3) := by decide +kernel
theorem d_MO_highest_11 : decode prog_14_method_19_code 11 = .ok (.aload_n 0, 1) := by decide +kernel
theorem d_MO_highest_12 : decode prog_14_method_19_code 12 = .ok (.getfield 32, 3) := by decide +kernel
theorem d_MO_highest_15 : decode prog_14_method_19_code 15 = .ok (.iload_n 1, 1) := by decide +kernel
theorem d_MO_highest_16 : decode prog_14_method_19_code 16 = .ok (.baload, 1) := by decide +kernel
theorem d_MO_highest_17 : decode prog_14_method_19_code 17 = .ok (.ifCond .ne 9, 3) := by decide +kernel
theorem d_MO_highest_20 : decode prog_14_method_19_code 20 = .ok (.iinc 1 (-1), 3) := by decide +kernel
theorem d_MO_highest_23 : decode prog_14_method_19_code 23 = .ok (.goto (-16), 3) := by decide +kernel
theorem d_MO_highest_26 : decode prog_14_method_19_code 26 = .ok (.iload_n 1, 1) := by decide +kernel
theorem d_MO_highest_27 : decode prog_14_method_19_code 27 = .ok (.ireturn, 1) := by decide +kernel
theorem d_MO_digits_0 : decode prog_14_method_23_code 0 = .ok (.aload_n 0, 1) := by decide +kernel
theorem d_MO_digits_1 : decode prog_14_method_23_code 1 = .ok (.getfield 7, 3) := by decide +kernel
theorem d_MO_digits_4 : decode prog_14_method_23_code 4 = .ok (.sipush 256, 3) := by decide +kernel
theorem d_MO_digits_7 : decode prog_14_method_23_code 7 = .ok (.idiv, 1) := by decide +kernel
theorem d_MO_digits_8 : decode prog_14_method_23_code 8 = .ok (.iconst 4, 1) := by decide +kernel
theorem d_MO_digits_9 : decode prog_14_method_23_code 9 = .ok (.irem, 1) := by decide +kernel
theorem d_MO_digits_10 : decode prog_14_method_23_code 10 = .ok (.istore_n 1, 1) := by decide +kernel
theorem d_MO_digits_11 : decode prog_14_method_23_code 11 = .ok (.iload_n 1, 1) := by decide +kernel
theorem d_MO_digits_12 : decode prog_14_method_23_code 12 = .ok (.ifCond .ne 8, 3) := by decide +kernel
theorem d_MO_digits_15 : decode prog_14_method_23_code 15 = .ok (.bipush 24, 2) := by decide +kernel
theorem d_MO_digits_17 : decode prog_14_method_23_code 17 = .ok (.goto 15, 3) := by decide +kernel
theorem d_MO_digits_20 : decode prog_14_method_23_code 20 = .ok (.iload_n 1, 1) := by decide +kernel
theorem d_MO_digits_21 : decode prog_14_method_23_code 21 = .ok (.iconst 2, 1) := by decide +kernel
theorem d_MO_digits_22 : decode prog_14_method_23_code 22 = .ok (.if_icmp .ne 8, 3) := by decide +kernel
theorem d_MO_digits_25 : decode prog_14_method_23_code 25 = .ok (.bipush 53, 2) := by decide +kernel
theorem d_MO_digits_27 : decode prog_14_method_23_code 27 = .ok (.goto 5, 3) := by decide +kernel
theorem d_MO_digits_30 : decode prog_14_method_23_code 30 = .ok (.bipush 64, 2) := by decide +kernel
theorem d_MO_digits_32 : decode prog_14_method_23_code 32 = .ok (.ireturn, 1) := by decide +kernel
theorem d_MO_bit_0 : decode prog_14_method_18_code 0 = .ok (.iload_n 1, 1) := by decide +kernel
theorem d_MO_bit_1 : decode prog_14_method_18_code 1 = .ok (.ifCond .lt 24, 3) := by decide +kernel
theorem d_MO_bit_4 : decode prog_14_method_18_code 4 = .ok (.iload_n 1, 1) := by decide +kernel
theorem d_MO_bit_5 : decode prog_14_method_18_code 5 = .ok (.aload_n 0, 1) := by decide +kernel
theorem d_MO_bit_6 : decode prog_14_method_18_code 6 = .ok (.getfield 63, 3) := by decide +kernel
theorem d_MO_bit_9 : decode prog_14_method_18_code 9 = .ok (.if_icmp .ge 16, 3) := by decide +kernel
theorem d_MO_bit_12 : decode prog_14_method_18_code 12 = .ok (.aload_n 0, 1) := by decide +kernel
theorem d_MO_bit_13 : decode prog_14_method_18_code 13 = .ok (.getfield 32, 3) := by decide +kernel
theorem d_MO_bit_16 : decode prog_14_method_18_code 16 = .ok (.iload_n 1, 1) := by decide +kernel
theorem d_MO_bit_17 : decode prog_14_method_18_code 17 = .ok (.baload, 1) := by decide +kernel
theorem d_MO_bit_18 : decode prog_14_method_18_code 18 = .ok (.ifCond .eq 7, 3) := by decide +kernel
theorem d_MO_bit_21 : decode prog_14_method_18_code 21 = .ok (.iconst 1, 1) := by decide +kernel
theorem d_MO_bit_22 : decode prog_14_method_18_code 22 = .ok (.goto 4, 3) := by decide +kernel
theorem d_MO_bit_25 : decode prog_14_method_18_code 25 = .ok (.iconst 0, 1) := by decide +kernel
theorem d_MO_bit_26 : decode prog_14_method_18_code 26 = .ok (.ireturn, 1) := by decide +kernel
theorem d_MO_rest_0 : decode prog_14_method_20_code 0 = .ok (.aload_n 0, 1) := by decide +kernel
theorem d_MO_rest_1 : decode prog_14_method_20_code 1 = .ok (.getfield 66, 3) := by decide +kernel
theorem d_MO_rest_4 : decode prog_14_method_20_code 4 = .ok (.istore_n 2, 1) := by decide +kernel
theorem d_MO_rest_5 : decode prog_14_method_20_code 5 = .ok (.iconst 0, 1) := by decide +kernel
theorem d_MO_rest_6 : decode prog_14_method_20_code 6 = .ok (.istore_n 3, 1) := by decide +kernel
theorem d_MO_rest_7 : decode prog_14_method_20_code 7 = .ok (.iload_n 3, 1) := by decide +kernel
theorem d_MO_rest_8 : decode prog_14_method_20_code 8 = .ok (.iload_n 1, 1) := by decide +kernel
theorem d_MO_rest_9 : decode prog_14_method_20_code 9 = .ok (.if_icmp .ge 36, 3) := by decide +kernel
theorem d_MO_rest_12 : decode prog_14_method_20_code 12 = .ok (.iload_n 3, 1) := by decide +kernel
theorem d_MO_rest_13 : decode prog_14_method_20_code 13 = .ok (.aload_n 0, 1) := by decide +kernel
theorem d_MO_rest_14 : decode prog_14_method_20_code 14 = .ok (.getfield 63, 3) := by decide +kernel
theorem d_MO_rest_17 : decode prog_14_method_20_code 17 = .ok (.if_icmp .ge 28, 3) := by decide +kernel
theorem d_MO_rest_20 : decode prog_14_method_20_code 20 = .ok (.iload_n 2, 1) := by decide +kernel
theorem d_MO_rest_21 : decode prog_14_method_20_code 21 = .ok (.ifCond .ne 12, 3) := by decide +kernel
theorem d_MO_rest_24 : decode prog_14_method_20_code 24 = .ok (.aload_n 0, 1) := by decide +kernel
theorem d_MO_rest_25 : decode prog_14_method_20_code 25 = .ok (.getfield 32, 3) := by decide +kernel
theorem d_MO_rest_28 : decode prog_14_method_20_code 28 = .ok (.iload_n 3, 1) := by decide +kernel
theorem d_MO_rest_29 : decode prog_14_method_20_code 29 = .ok (.baload, 1) := by decide +kernel
theorem d_MO_rest_30 : decode prog_14_method_20_code 30 = .ok (.ifCond .eq 7, 3) := by decide +kernel
theorem d_MO_rest_33 : decode prog_14_method_20_code 33 = .ok (.iconst 1, 1) := by decide +kernel
theorem d_MO_rest_34 : decode prog_14_method_20_code 34 = .ok (.goto 4, 3) := by decide +kernel
theorem d_MO_rest_37 : decode prog_14_method_20_code 37 = .ok (.iconst 0, 1) := by decide +kernel
theorem d_MO_rest_38 : decode prog_14_method_20_code 38 = .ok (.istore_n 2, 1) := by decide +kernel
theorem d_MO_rest_39 : decode prog_14_method_20_code 39 = .ok (.iinc 3 1, 3) := by decide +kernel
theorem d_MO_rest_42 : decode prog_14_method_20_code 42 = .ok (.goto (-35), 3) := by decide +kernel
theorem d_MO_rest_45 : decode prog_14_method_20_code 45 = .ok (.iload_n 2, 1) := by decide +kernel
theorem d_MO_rest_46 : decode prog_14_method_20_code 46 = .ok (.ireturn, 1) := by decide +kernel
theorem d_MO_times_0 : decode prog_14_method_21_code 0 = .ok (.iload_n 1, 1) := by decide +kernel
theorem d_MO_times_1 : decode prog_14_method_21_code 1 = .ok (.aload_n 0, 1) := by decide +kernel
theorem d_MO_times_2 : decode prog_14_method_21_code 2 = .ok (.getfield 69, 3) := by decide +kernel
theorem d_MO_times_5 : decode prog_14_method_21_code 5 = .ok (.isub, 1) := by decide +kernel
theorem d_MO_times_6 : decode prog_14_method_21_code 6 = .ok (.istore_n 3, 1) := by decide +kernel
theorem d_MO_times_7 : decode prog_14_method_21_code 7 = .ok (.lconst 0, 1) := by decide +kernel
theorem d_MO_times_8 : decode prog_14_method_21_code 8 = .ok (.lstore 4, 2) := by decide +kernel
theorem d_MO_times_10 : decode prog_14_method_21_code 10 = .ok (.bipush 63, 2) := by decide +kernel
theorem d_MO_times_12 : decode prog_14_method_21_code 12 = .ok (.istore 6, 2) := by decide +kernel
theorem d_MO_times_14 : decode prog_14_method_21_code 14 = .ok (.iload 6, 2) := by decide +kernel
theorem d_MO_times_16 : decode prog_14_method_21_code 16 = .ok (.ifCond .lt 34, 3) := by decide +kernel
theorem d_MO_times_19 : decode prog_14_method_21_code 19 = .ok (.ldc2_w 72, 3) := by decide +kernel
theorem d_MO_times_22 : decode prog_14_method_21_code 22 = .ok (.lload 4, 2) := by decide +kernel
theorem d_MO_times_24 : decode prog_14_method_21_code 24 = .ok (.lmul, 1) := by decide +kernel
theorem d_MO_times_25 : decode prog_14_method_21_code 25 = .ok (.aload_n 0, 1) := by decide +kernel
theorem d_MO_times_26 : decode prog_14_method_21_code 26 = .ok (.iload_n 3, 1) := by decide +kernel
theorem d_MO_times_27 : decode prog_14_method_21_code 27 = .ok (.iload 6, 2) := by decide +kernel
theorem d_MO_times_29 : decode prog_14_method_21_code 29 = .ok (.iadd, 1) := by decide +kernel
theorem d_MO_times_30 : decode prog_14_method_21_code 30 = .ok (.invokevirtual 74, 3) := by decide +kernel
theorem d_MO_times_33 : decode prog_14_method_21_code 33 = .ok (.ifCond .eq 7, 3) := by decide +kernel
theorem d_MO_times_36 : decode prog_14_method_21_code 36 = .ok (.lconst 1, 1) := by decide +kernel
theorem d_MO_times_37 : decode prog_14_method_21_code 37 = .ok (.goto 4, 3) := by decide +kernel
theorem d_MO_times_40 : decode prog_14_method_21_code 40 = .ok (.lconst 0, 1) := by decide +kernel
theorem d_MO_times_41 : decode prog_14_method_21_code 41 = .ok (.ladd, 1) := by decide +kernel
theorem d_MO_times_42 : decode prog_14_method_21_code 42 = .ok (.lstore 4, 2) := by decide +kernel
theorem d_MO_times_44 : decode prog_14_method_21_code 44 = .ok (.iinc 6 (-1), 3) := by decide +kernel
theorem d_MO_times_47 : decode prog_14_method_21_code 47 = .ok (.goto (-33), 3) := by decide +kernel
theorem d_MO_times_50 : decode prog_14_method_21_code 50 = .ok (.aload_n 0, 1) := by decide +kernel
theorem d_MO_times_51 : decode prog_14_method_21_code 51 = .ok (.iload_n 3, 1) := by decide +kernel
theorem d_MO_times_52 : decode prog_14_method_21_code 52 = .ok (.iconst 1, 1) := by decide +kernel
theorem d_MO_times_53 : decode prog_14_method_21_code 53 = .ok (.isub, 1) := by decide +kernel
theorem d_MO_times_54 : decode prog_14_method_21_code 54 = .ok (.invokevirtual 74, 3) := by decide +kernel
theorem d_MO_times_57 : decode prog_14_method_21_code 57 = .ok (.istore 6, 2) := by decide +kernel
theorem d_MO_times_59 : decode prog_14_method_21_code 59 = .ok (.aload_n 0, 1) := by decide +kernel
theorem d_MO_times_60 : decode prog_14_method_21_code 60 = .ok (.iload_n 3, 1) := by decide +kernel
theorem d_MO_times_61 : decode prog_14_method_21_code 61 = .ok (.iconst 1, 1) := by decide +kernel
theorem d_MO_times_62 : decode prog_14_method_21_code 62 = .ok (.isub, 1) := by decide +kernel
theorem d_MO_times_63 : decode prog_14_method_21_code 63 = .ok (.invokevirtual 77, 3) := by decide +kernel
theorem d_MO_times_66 : decode prog_14_method_21_code 66 = .ok (.istore 7, 2) := by decide +kernel
theorem d_MO_times_68 : decode prog_14_method_21_code 68 = .ok (.aload_n 0, 1) := by decide +kernel
theorem d_MO_times_69 : decode prog_14_method_21_code 69 = .ok (.iload 6, 2) := by decide +kernel
theorem d_MO_times_71 : decode prog_14_method_21_code 71 = .ok (.ifCond .ne 8, 3) := by decide +kernel
theorem d_MO_times_74 : decode prog_14_method_21_code 74 = .ok (.iload 7, 2) := by decide +kernel
theorem d_MO_times_76 : decode prog_14_method_21_code 76 = .ok (.ifCond .eq 7, 3) := by decide +kernel
theorem d_MO_times_79 : decode prog_14_method_21_code 79 = .ok (.iconst 1, 1) := by decide +kernel
theorem d_MO_times_80 : decode prog_14_method_21_code 80 = .ok (.goto 4, 3) := by decide +kernel
theorem d_MO_times_83 : decode prog_14_method_21_code 83 = .ok (.iconst 0, 1) := by decide +kernel
theorem d_MO_times_84 : decode prog_14_method_21_code 84 = .ok (.putfield 80, 3) := by decide +kernel
theorem d_MO_times_87 : decode prog_14_method_21_code 87 = .ok (.aload_n 0, 1) := by decide +kernel
theorem d_MO_times_88 : decode prog_14_method_21_code 88 = .ok (.getfield 7, 3) := by decide +kernel
theorem d_MO_times_91 : decode prog_14_method_21_code 91 = .ok (.sipush 1024, 3) := by decide +kernel
theorem d_MO_times_94 : decode prog_14_method_21_code 94 = .ok (.idiv, 1) := by decide +kernel
theorem d_MO_times_95 : decode prog_14_method_21_code 95 = .ok (.iconst 4, 1) := by decide +kernel
theorem d_MO_times_96 : decode prog_14_method_21_code 96 = .ok (.irem, 1) := by decide +kernel
theorem d_MO_times_97 : decode prog_14_method_21_code 97 = .ok (.istore 8, 2) := by decide +kernel
theorem d_MO_times_99 : decode prog_14_method_21_code 99 = .ok (.iload 8, 2) := by decide +kernel
theorem d_MO_times_101 : decode prog_14_method_21_code 101 = .ok (.ifCond .ne 29, 3) := by decide +kernel
theorem d_MO_times_104 : decode prog_14_method_21_code 104 = .ok (.iload 6, 2) := by decide +kernel
theorem d_MO_times_106 : decode prog_14_method_21_code 106 = .ok (.ifCond .eq 20, 3) := by decide +kernel
theorem d_MO_times_109 : decode prog_14_method_21_code 109 = .ok (.iload 7, 2) := by decide +kernel
theorem d_MO_times_111 : decode prog_14_method_21_code 111 = .ok (.ifCond .ne 11, 3) := by decide +kernel
theorem d_MO_times_114 : decode prog_14_method_21_code 114 = .ok (.aload_n 0, 1) := by decide +kernel
theorem d_MO_times_115 : decode prog_14_method_21_code 115 = .ok (.iload_n 3, 1) := by decide +kernel
theorem d_MO_times_116 : decode prog_14_method_21_code 116 = .ok (.invokevirtual 74, 3) := by decide +kernel
theorem d_MO_times_119 : decode prog_14_method_21_code 119 = .ok (.ifCond .eq 7, 3) := by decide +kernel
theorem d_MO_times_122 : decode prog_14_method_21_code 122 = .ok (.iconst 1, 1) := by decide +kernel
theorem d_MO_times_123 : decode prog_14_method_21_code 123 = .ok (.goto 54, 3) := by decide +kernel
theorem d_MO_times_126 : decode prog_14_method_21_code 126 = .ok (.iconst 0, 1) := by decide +kernel
theorem d_MO_times_127 : decode prog_14_method_21_code 127 = .ok (.goto 50, 3) := by decide +kernel
theorem d_MO_times_130 : decode prog_14_method_21_code 130 = .ok (.iload 8, 2) := by decide +kernel
theorem d_MO_times_132 : decode prog_14_method_21_code 132 = .ok (.iconst 1, 1) := by decide +kernel
theorem d_MO_times_133 : decode prog_14_method_21_code 133 = .ok (.if_icmp .ne 22, 3) := by decide +kernel
theorem d_MO_times_136 : decode prog_14_method_21_code 136 = .ok (.iload_n 2, 1) := by decide +kernel
theorem d_MO_times_137 : decode prog_14_method_21_code 137 = .ok (.ifCond .eq 14, 3) := by decide +kernel
theorem d_MO_times_140 : decode prog_14_method_21_code 140 = .ok (.aload_n 0, 1) := by decide +kernel
theorem d_MO_times_141 : decode prog_14_method_21_code 141 = .ok (.getfield 80, 3) := by decide +kernel
theorem d_MO_times_144 : decode prog_14_method_21_code 144 = .ok (.ifCond .eq 7, 3) := by decide +kernel
theorem d_MO_times_147 : decode prog_14_method_21_code 147 = .ok (.iconst 1, 1) := by decide +kernel
theorem d_MO_times_148 : decode prog_14_method_21_code 148 = .ok (.goto 29, 3) := by decide +kernel
theorem d_MO_times_151 : decode prog_14_method_21_code 151 = .ok (.iconst 0, 1) := by decide +kernel
theorem d_MO_times_152 : decode prog_14_method_21_code 152 = .ok (.goto 25, 3) := by decide +kernel
theorem d_MO_times_155 : decode prog_14_method_21_code 155 = .ok (.iload 8, 2) := by decide +kernel
theorem d_MO_times_157 : decode prog_14_method_21_code 157 = .ok (.iconst 2, 1) := by decide +kernel
theorem d_MO_times_158 : decode prog_14_method_21_code 158 = .ok (.if_icmp .ne 18, 3) := by decide +kernel
theorem d_MO_times_161 : decode prog_14_method_21_code 161 = .ok (.iload_n 2, 1) := by decide +kernel
theorem d_MO_times_162 : decode prog_14_method_21_code 162 = .ok (.ifCond .ne 14, 3) := by decide +kernel
theorem d_MO_times_165 : decode prog_14_method_21_code 165 = .ok (.aload_n 0, 1) := by decide +kernel
theorem d_MO_times_166 : decode prog_14_method_21_code 166 = .ok (.getfield 80, 3) := by decide +kernel
theorem d_MO_times_169 : decode prog_14_method_21_code 169 = .ok (.ifCond .eq 7, 3) := by decide +kernel
theorem d_MO_times_172 : decode prog_14_method_21_code 172 = .ok (.iconst 1, 1) := by decide +kernel
theorem d_MO_times_173 : decode prog_14_method_21_code 173 = .ok (.goto 4, 3) := by decide +kernel
theorem d_MO_times_176 : decode prog_14_method_21_code 176 = .ok (.iconst 0, 1) := by decide +kernel
theorem d_MO_times_177 : decode prog_14_method_21_code 177 = .ok (.istore 9, 2) := by decide +kernel
theorem d_MO_times_179 : decode prog_14_method_21_code 179 = .ok (.iload 9, 2) := by decide +kernel
theorem d_MO_times_181 : decode prog_14_method_21_code 181 = .ok (.ifCond .eq 10, 3) := by decide +kernel
theorem d_MO_times_184 : decode prog_14_method_21_code 184 = .ok (.lload 4, 2) := by decide +kernel
theorem d_MO_times_186 : decode prog_14_method_21_code 186 = .ok (.lconst 1, 1) := by decide +kernel
theorem d_MO_times_187 : decode prog_14_method_21_code 187 = .ok (.ladd, 1) := by decide +kernel
theorem d_MO_times_188 : decode prog_14_method_21_code 188 = .ok (.goto 5, 3) := by decide +kernel
theorem d_MO_times_191 : decode prog_14_method_21_code 191 = .ok (.lload 4, 2) := by decide +kernel
theorem d_MO_times_193 : decode prog_14_method_21_code 193 = .ok (.lreturn, 1) := by decide +kernel
theorem d_MO_put_0 : decode prog_14_method_22_code 0 = .ok (.lload_n 2, 1) := by decide +kernel
theorem d_MO_put_1 : decode prog_14_method_22_code 1 = .ok (.lconst 0, 1) := by decide +kernel
theorem d_MO_put_2 : decode prog_14_method_22_code 2 = .ok (.lcmp, 1) := by decide +kernel
theorem d_MO_put_3 : decode prog_14_method_22_code 3 = .ok (.ifCond .ne 16, 3) := by decide +kernel
theorem d_MO_put_6 : decode prog_14_method_22_code 6 = .ok (.iload 4, 2) := by decide +kernel
theorem d_MO_put_8 : decode prog_14_method_22_code 8 = .ok (.ifCond .ne 11, 3) := by decide +kernel
theorem d_MO_put_11 : decode prog_14_method_22_code 11 = .ok (.aload_n 0, 1) := by decide +kernel
theorem d_MO_put_12 : decode prog_14_method_22_code 12 = .ok (.iload_n 1, 1) := by decide +kernel
theorem d_MO_put_13 : decode prog_14_method_22_code 13 = .ok (.iconst 0, 1) := by decide +kernel
theorem d_MO_put_14 : decode prog_14_method_22_code 14 = .ok (.lconst 0, 1) := by decide +kernel
theorem d_MO_put_15 : decode prog_14_method_22_code 15 = .ok (.invokevirtual 83, 3) := by decide +kernel
theorem d_MO_put_18 : decode prog_14_method_22_code 18 = .ok (.return_, 1) := by decide +kernel
theorem d_MO_put_19 : decode prog_14_method_22_code 19 = .ok (.bipush 64, 2) := by decide +kernel
theorem d_MO_put_21 : decode prog_14_method_22_code 21 = .ok (.istore 7, 2) := by decide +kernel
theorem d_MO_put_23 : decode prog_14_method_22_code 23 = .ok (.iload 4, 2) := by decide +kernel
theorem d_MO_put_25 : decode prog_14_method_22_code 25 = .ok (.ifCond .ne 24, 3) := by decide +kernel
theorem d_MO_put_28 : decode prog_14_method_22_code 28 = .ok (.bipush 63, 2) := by decide +kernel
theorem d_MO_put_30 : decode prog_14_method_22_code 30 = .ok (.istore 7, 2) := by decide +kernel
theorem d_MO_put_32 : decode prog_14_method_22_code 32 = .ok (.lload_n 2, 1) := by decide +kernel
theorem d_MO_put_33 : decode prog_14_method_22_code 33 = .ok (.iload 7, 2) := by decide +kernel
theorem d_MO_put_35 : decode prog_14_method_22_code 35 = .ok (.lshr, 1) := by decide +kernel
theorem d_MO_put_36 : decode prog_14_method_22_code 36 = .ok (.lconst 1, 1) := by decide +kernel
theorem d_MO_put_37 : decode prog_14_method_22_code 37 = .ok (.land, 1) := by decide +kernel
theorem d_MO_put_38 : decode prog_14_method_22_code 38 = .ok (.lconst 0, 1) := by decide +kernel
theorem d_MO_put_39 : decode prog_14_method_22_code 39 = .ok (.lcmp, 1) := by decide +kernel
theorem d_MO_put_40 : decode prog_14_method_22_code 40 = .ok (.ifCond .ne 9, 3) := by decide +kernel
theorem d_MO_put_43 : decode prog_14_method_22_code 43 = .ok (.iinc 7 (-1), 3) := by decide +kernel
theorem d_MO_put_46 : decode prog_14_method_22_code 46 = .ok (.goto (-14), 3) := by decide +kernel
theorem d_MO_put_49 : decode prog_14_method_22_code 49 = .ok (.iload 5, 2) := by decide +kernel
theorem d_MO_put_51 : decode prog_14_method_22_code 51 = .ok (.iload 7, 2) := by decide +kernel
theorem d_MO_put_53 : decode prog_14_method_22_code 53 = .ok (.iadd, 1) := by decide +kernel
theorem d_MO_put_54 : decode prog_14_method_22_code 54 = .ok (.sipush 16383, 3) := by decide +kernel
theorem d_MO_put_57 : decode prog_14_method_22_code 57 = .ok (.iadd, 1) := by decide +kernel
theorem d_MO_put_58 : decode prog_14_method_22_code 58 = .ok (.iload 6, 2) := by decide +kernel
theorem d_MO_put_60 : decode prog_14_method_22_code 60 = .ok (.iadd, 1) := by decide +kernel
theorem d_MO_put_61 : decode prog_14_method_22_code 61 = .ok (.istore 8, 2) := by decide +kernel
theorem d_MO_put_63 : decode prog_14_method_22_code 63 = .ok (.iload 4, 2) := by decide +kernel
theorem d_MO_put_65 : decode prog_14_method_22_code 65 = .ok (.ifCond .eq 9, 3) := by decide +kernel
theorem d_MO_put_68 : decode prog_14_method_22_code 68 = .ok (.ldc2_w 87, 3) := by decide +kernel
theorem d_MO_put_71 : decode prog_14_method_22_code 71 = .ok (.goto 10, 3) := by decide +kernel
theorem d_MO_put_74 : decode prog_14_method_22_code 74 = .ok (.lload_n 2, 1) := by decide +kernel
theorem d_MO_put_75 : decode prog_14_method_22_code 75 = .ok (.bipush 63, 2) := by decide +kernel
theorem d_MO_put_77 : decode prog_14_method_22_code 77 = .ok (.iload 7, 2) := by decide +kernel
theorem d_MO_put_79 : decode prog_14_method_22_code 79 = .ok (.isub, 1) := by decide +kernel
theorem d_MO_put_80 : decode prog_14_method_22_code 80 = .ok (.lshl, 1) := by decide +kernel
theorem d_MO_put_81 : decode prog_14_method_22_code 81 = .ok (.lstore 9, 2) := by decide +kernel
theorem d_MO_put_83 : decode prog_14_method_22_code 83 = .ok (.iload 8, 2) := by decide +kernel
theorem d_MO_put_85 : decode prog_14_method_22_code 85 = .ok (.ifCond .le 15, 3) := by decide +kernel
theorem d_MO_put_88 : decode prog_14_method_22_code 88 = .ok (.aload_n 0, 1) := by decide +kernel
theorem d_MO_put_89 : decode prog_14_method_22_code 89 = .ok (.iload_n 1, 1) := by decide +kernel
theorem d_MO_put_90 : decode prog_14_method_22_code 90 = .ok (.iload 8, 2) := by decide +kernel
theorem d_MO_put_92 : decode prog_14_method_22_code 92 = .ok (.lload 9, 2) := by decide +kernel
theorem d_MO_put_94 : decode prog_14_method_22_code 94 = .ok (.invokevirtual 83, 3) := by decide +kernel
theorem d_MO_put_97 : decode prog_14_method_22_code 97 = .ok (.goto 17, 3) := by decide +kernel
theorem d_MO_put_100 : decode prog_14_method_22_code 100 = .ok (.aload_n 0, 1) := by decide +kernel
theorem d_MO_put_101 : decode prog_14_method_22_code 101 = .ok (.iload_n 1, 1) := by decide +kernel
theorem d_MO_put_102 : decode prog_14_method_22_code 102 = .ok (.iconst 0, 1) := by decide +kernel
theorem d_MO_put_103 : decode prog_14_method_22_code 103 = .ok (.lload_n 2, 1) := by decide +kernel
theorem d_MO_put_104 : decode prog_14_method_22_code 104 = .ok (.iload 5, 2) := by decide +kernel
theorem d_MO_put_106 : decode prog_14_method_22_code 106 = .ok (.sipush 16445, 3) := by decide +kernel
theorem d_MO_put_109 : decode prog_14_method_22_code 109 = .ok (.iadd, 1) := by decide +kernel
theorem d_MO_put_110 : decode prog_14_method_22_code 110 = .ok (.lshl, 1) := by decide +kernel
theorem d_MO_put_111 : decode prog_14_method_22_code 111 = .ok (.invokevirtual 83, 3) := by decide +kernel
theorem d_MO_put_114 : decode prog_14_method_22_code 114 = .ok (.return_, 1) := by decide +kernel
theorem d_MO_make_0 : decode prog_14_method_24_code 0 = .ok (.aload_n 0, 1) := by decide +kernel
theorem d_MO_make_1 : decode prog_14_method_24_code 1 = .ok (.invokevirtual 89, 3) := by decide +kernel
theorem d_MO_make_4 : decode prog_14_method_24_code 4 = .ok (.istore_n 2, 1) := by decide +kernel
theorem d_MO_make_5 : decode prog_14_method_24_code 5 = .ok (.aload_n 0, 1) := by decide +kernel
theorem d_MO_make_6 : decode prog_14_method_24_code 6 = .ok (.getfield 69, 3) := by decide +kernel
theorem d_MO_make_9 : decode prog_14_method_24_code 9 = .ok (.iload_n 2, 1) := by decide +kernel
theorem d_MO_make_10 : decode prog_14_method_24_code 10 = .ok (.iadd, 1) := by decide +kernel
theorem d_MO_make_11 : decode prog_14_method_24_code 11 = .ok (.istore_n 3, 1) := by decide +kernel
theorem d_MO_make_12 : decode prog_14_method_24_code 12 = .ok (.aload_n 0, 1) := by decide +kernel
theorem d_MO_make_13 : decode prog_14_method_24_code 13 = .ok (.invokevirtual 93, 3) := by decide +kernel
theorem d_MO_make_16 : decode prog_14_method_24_code 16 = .ok (.istore 4, 2) := by decide +kernel
theorem d_MO_make_18 : decode prog_14_method_24_code 18 = .ok (.iload_n 3, 1) := by decide +kernel
theorem d_MO_make_19 : decode prog_14_method_24_code 19 = .ok (.sipush (-16382), 3) := by decide +kernel
theorem d_MO_make_22 : decode prog_14_method_24_code 22 = .ok (.if_icmp .ge 7, 3) := by decide +kernel
theorem d_MO_make_25 : decode prog_14_method_24_code 25 = .ok (.iconst 1, 1) := by decide +kernel
theorem d_MO_make_26 : decode prog_14_method_24_code 26 = .ok (.goto 4, 3) := by decide +kernel
theorem d_MO_make_29 : decode prog_14_method_24_code 29 = .ok (.iconst 0, 1) := by decide +kernel
theorem d_MO_make_30 : decode prog_14_method_24_code 30 = .ok (.istore 5, 2) := by decide +kernel
theorem d_MO_make_32 : decode prog_14_method_24_code 32 = .ok (.iload 5, 2) := by decide +kernel
theorem d_MO_make_34 : decode prog_14_method_24_code 34 = .ok (.ifCond .eq 70, 3) := by decide +kernel
theorem d_MO_make_37 : decode prog_14_method_24_code 37 = .ok (.aload_n 0, 1) := by decide +kernel
theorem d_MO_make_38 : decode prog_14_method_24_code 38 = .ok (.getfield 7, 3) := by decide +kernel
theorem d_MO_make_41 : decode prog_14_method_24_code 41 = .ok (.bipush 16, 2) := by decide +kernel
theorem d_MO_make_43 : decode prog_14_method_24_code 43 = .ok (.iand, 1) := by decide +kernel
theorem d_MO_make_44 : decode prog_14_method_24_code 44 = .ok (.ifCond .eq 60, 3) := by decide +kernel
theorem d_MO_make_47 : decode prog_14_method_24_code 47 = .ok (.aload_n 0, 1) := by decide +kernel
theorem d_MO_make_48 : decode prog_14_method_24_code 48 = .ok (.sipush (-16381), 3) := by decide +kernel
theorem d_MO_make_51 : decode prog_14_method_24_code 51 = .ok (.iload 4, 2) := by decide +kernel
theorem d_MO_make_53 : decode prog_14_method_24_code 53 = .ok (.isub, 1) := by decide +kernel
theorem d_MO_make_54 : decode prog_14_method_24_code 54 = .ok (.iload_n 1, 1) := by decide +kernel
theorem d_MO_make_55 : decode prog_14_method_24_code 55 = .ok (.invokevirtual 96, 3) := by decide +kernel
theorem d_MO_make_58 : decode prog_14_method_24_code 58 = .ok (.lstore 6, 2) := by decide +kernel
theorem d_MO_make_60 : decode prog_14_method_24_code 60 = .ok (.aload_n 0, 1) := by decide +kernel
theorem d_MO_make_61 : decode prog_14_method_24_code 61 = .ok (.aload_n 0, 1) := by decide +kernel
theorem d_MO_make_62 : decode prog_14_method_24_code 62 = .ok (.getfield 80, 3) := by decide +kernel
theorem d_MO_make_65 : decode prog_14_method_24_code 65 = .ok (.ifCond .eq 16, 3) := by decide +kernel
theorem d_MO_make_68 : decode prog_14_method_24_code 68 = .ok (.aload_n 0, 1) := by decide +kernel
theorem d_MO_make_69 : decode prog_14_method_24_code 69 = .ok (.getfield 48, 3) := by decide +kernel
theorem d_MO_make_72 : decode prog_14_method_24_code 72 = .ok (.bipush 16, 2) := by decide +kernel
theorem d_MO_make_74 : decode prog_14_method_24_code 74 = .ok (.iadd, 1) := by decide +kernel
theorem d_MO_make_75 : decode prog_14_method_24_code 75 = .ok (.bipush 32, 2) := by decide +kernel
theorem d_MO_make_77 : decode prog_14_method_24_code 77 = .ok (.iadd, 1) := by decide +kernel
theorem d_MO_make_78 : decode prog_14_method_24_code 78 = .ok (.goto 7, 3) := by decide +kernel
theorem d_MO_make_81 : decode prog_14_method_24_code 81 = .ok (.aload_n 0, 1) := by decide +kernel
theorem d_MO_make_82 : decode prog_14_method_24_code 82 = .ok (.getfield 48, 3) := by decide +kernel
theorem d_MO_make_85 : decode prog_14_method_24_code 85 = .ok (.putfield 48, 3) := by decide +kernel
theorem d_MO_make_88 : decode prog_14_method_24_code 88 = .ok (.aload_n 0, 1) := by decide +kernel
theorem d_MO_make_89 : decode prog_14_method_24_code 89 = .ok (.iload_n 1, 1) := by decide +kernel
theorem d_MO_make_90 : decode prog_14_method_24_code 90 = .ok (.lload 6, 2) := by decide +kernel
theorem d_MO_make_92 : decode prog_14_method_24_code 92 = .ok (.iconst 0, 1) := by decide +kernel
theorem d_MO_make_93 : decode prog_14_method_24_code 93 = .ok (.sipush (-16381), 3) := by decide +kernel
theorem d_MO_make_96 : decode prog_14_method_24_code 96 = .ok (.iload 4, 2) := by decide +kernel
theorem d_MO_make_98 : decode prog_14_method_24_code 98 = .ok (.isub, 1) := by decide +kernel
theorem d_MO_make_99 : decode prog_14_method_24_code 99 = .ok (.iconst 0, 1) := by decide +kernel
theorem d_MO_make_100 : decode prog_14_method_24_code 100 = .ok (.invokevirtual 100, 3) := by decide +kernel
theorem d_MO_make_103 : decode prog_14_method_24_code 103 = .ok (.return_, 1) := by decide +kernel
theorem d_MO_make_104 : decode prog_14_method_24_code 104 = .ok (.iload_n 3, 1) := by decide +kernel
theorem d_MO_make_105 : decode prog_14_method_24_code 105 = .ok (.iconst 1, 1) := by decide +kernel
theorem d_MO_make_106 : decode prog_14_method_24_code 106 = .ok (.iadd, 1) := by decide +kernel
theorem d_MO_make_107 : decode prog_14_method_24_code 107 = .ok (.iload 4, 2) := by decide +kernel
theorem d_MO_make_109 : decode prog_14_method_24_code 109 = .ok (.isub, 1) := by decide +kernel
theorem d_MO_make_110 : decode prog_14_method_24_code 110 = .ok (.istore 6, 2) := by decide +kernel
theorem d_MO_make_112 : decode prog_14_method_24_code 112 = .ok (.aload_n 0, 1) := by decide +kernel
theorem d_MO_make_113 : decode prog_14_method_24_code 113 = .ok (.iload 6, 2) := by decide +kernel
theorem d_MO_make_115 : decode prog_14_method_24_code 115 = .ok (.iload_n 1, 1) := by decide +kernel
theorem d_MO_make_116 : decode prog_14_method_24_code 116 = .ok (.invokevirtual 96, 3) := by decide +kernel
theorem d_MO_make_119 : decode prog_14_method_24_code 119 = .ok (.lstore 7, 2) := by decide +kernel
theorem d_MO_make_121 : decode prog_14_method_24_code 121 = .ok (.iload 4, 2) := by decide +kernel
theorem d_MO_make_123 : decode prog_14_method_24_code 123 = .ok (.bipush 64, 2) := by decide +kernel
theorem d_MO_make_125 : decode prog_14_method_24_code 125 = .ok (.if_icmp .ne 14, 3) := by decide +kernel
theorem d_MO_make_128 : decode prog_14_method_24_code 128 = .ok (.lload 7, 2) := by decide +kernel
theorem d_MO_make_130 : decode prog_14_method_24_code 130 = .ok (.lconst 0, 1) := by decide +kernel
theorem d_MO_make_131 : decode prog_14_method_24_code 131 = .ok (.lcmp, 1) := by decide +kernel
theorem d_MO_make_132 : decode prog_14_method_24_code 132 = .ok (.ifCond .ne 7, 3) := by decide +kernel
theorem d_MO_make_135 : decode prog_14_method_24_code 135 = .ok (.iconst 1, 1) := by decide +kernel
theorem d_MO_make_136 : decode prog_14_method_24_code 136 = .ok (.goto 4, 3) := by decide +kernel
theorem d_MO_make_139 : decode prog_14_method_24_code 139 = .ok (.iconst 0, 1) := by decide +kernel
theorem d_MO_make_140 : decode prog_14_method_24_code 140 = .ok (.istore 9, 2) := by decide +kernel
theorem d_MO_make_142 : decode prog_14_method_24_code 142 = .ok (.iload 9, 2) := by decide +kernel
theorem d_MO_make_144 : decode prog_14_method_24_code 144 = .ok (.ifCond .ne 20, 3) := by decide +kernel
theorem d_MO_make_147 : decode prog_14_method_24_code 147 = .ok (.iload 4, 2) := by decide +kernel
theorem d_MO_make_149 : decode prog_14_method_24_code 149 = .ok (.bipush 64, 2) := by decide +kernel
theorem d_MO_make_151 : decode prog_14_method_24_code 151 = .ok (.if_icmp .ge 17, 3) := by decide +kernel
theorem d_MO_make_154 : decode prog_14_method_24_code 154 = .ok (.lload 7, 2) := by decide +kernel
theorem d_MO_make_156 : decode prog_14_method_24_code 156 = .ok (.iload 4, 2) := by decide +kernel
theorem d_MO_make_158 : decode prog_14_method_24_code 158 = .ok (.lshr, 1) := by decide +kernel
theorem d_MO_make_159 : decode prog_14_method_24_code 159 = .ok (.lconst 0, 1) := by decide +kernel
theorem d_MO_make_160 : decode prog_14_method_24_code 160 = .ok (.lcmp, 1) := by decide +kernel
theorem d_MO_make_161 : decode prog_14_method_24_code 161 = .ok (.ifCond .eq 7, 3) := by decide +kernel
theorem d_MO_make_164 : decode prog_14_method_24_code 164 = .ok (.iconst 1, 1) := by decide +kernel
theorem d_MO_make_165 : decode prog_14_method_24_code 165 = .ok (.goto 4, 3) := by decide +kernel
theorem d_MO_make_168 : decode prog_14_method_24_code 168 = .ok (.iconst 0, 1) := by decide +kernel
theorem d_MO_make_169 : decode prog_14_method_24_code 169 = .ok (.istore 10, 2) := by decide +kernel
theorem d_MO_make_171 : decode prog_14_method_24_code 171 = .ok (.aload_n 0, 1) := by decide +kernel
theorem d_MO_make_172 : decode prog_14_method_24_code 172 = .ok (.aload_n 0, 1) := by decide +kernel
theorem d_MO_make_173 : decode prog_14_method_24_code 173 = .ok (.getfield 80, 3) := by decide +kernel
theorem d_MO_make_176 : decode prog_14_method_24_code 176 = .ok (.ifCond .eq 13, 3) := by decide +kernel
theorem d_MO_make_179 : decode prog_14_method_24_code 179 = .ok (.aload_n 0, 1) := by decide +kernel
theorem d_MO_make_180 : decode prog_14_method_24_code 180 = .ok (.getfield 48, 3) := by decide +kernel
theorem d_MO_make_183 : decode prog_14_method_24_code 183 = .ok (.bipush 32, 2) := by decide +kernel
theorem d_MO_make_185 : decode prog_14_method_24_code 185 = .ok (.iadd, 1) := by decide +kernel
theorem d_MO_make_186 : decode prog_14_method_24_code 186 = .ok (.goto 7, 3) := by decide +kernel
theorem d_MO_make_189 : decode prog_14_method_24_code 189 = .ok (.aload_n 0, 1) := by decide +kernel
theorem d_MO_make_190 : decode prog_14_method_24_code 190 = .ok (.getfield 48, 3) := by decide +kernel
theorem d_MO_make_193 : decode prog_14_method_24_code 193 = .ok (.putfield 48, 3) := by decide +kernel
theorem d_MO_make_196 : decode prog_14_method_24_code 196 = .ok (.iload 5, 2) := by decide +kernel
theorem d_MO_make_198 : decode prog_14_method_24_code 198 = .ok (.ifCond .eq 31, 3) := by decide +kernel
theorem d_MO_make_201 : decode prog_14_method_24_code 201 = .ok (.aload_n 0, 1) := by decide +kernel
theorem d_MO_make_202 : decode prog_14_method_24_code 202 = .ok (.aload_n 0, 1) := by decide +kernel
theorem d_MO_make_203 : decode prog_14_method_24_code 203 = .ok (.getfield 48, 3) := by decide +kernel
theorem d_MO_make_206 : decode prog_14_method_24_code 206 = .ok (.bipush 16, 2) := by decide +kernel
theorem d_MO_make_208 : decode prog_14_method_24_code 208 = .ok (.iadd, 1) := by decide +kernel
theorem d_MO_make_209 : decode prog_14_method_24_code 209 = .ok (.putfield 48, 3) := by decide +kernel
theorem d_MO_make_212 : decode prog_14_method_24_code 212 = .ok (.aload_n 0, 1) := by decide +kernel
theorem d_MO_make_213 : decode prog_14_method_24_code 213 = .ok (.iload_n 1, 1) := by decide +kernel
theorem d_MO_make_214 : decode prog_14_method_24_code 214 = .ok (.lload 7, 2) := by decide +kernel
theorem d_MO_make_216 : decode prog_14_method_24_code 216 = .ok (.iload 9, 2) := by decide +kernel
theorem d_MO_make_218 : decode prog_14_method_24_code 218 = .ok (.iload 6, 2) := by decide +kernel
theorem d_MO_make_220 : decode prog_14_method_24_code 220 = .ok (.sipush 24576, 3) := by decide +kernel
theorem d_MO_make_223 : decode prog_14_method_24_code 223 = .ok (.invokevirtual 100, 3) := by decide +kernel
theorem d_MO_make_226 : decode prog_14_method_24_code 226 = .ok (.goto 173, 3) := by decide +kernel
theorem d_MO_make_229 : decode prog_14_method_24_code 229 = .ok (.iload_n 3, 1) := by decide +kernel
theorem d_MO_make_230 : decode prog_14_method_24_code 230 = .ok (.iload 10, 2) := by decide +kernel
theorem d_MO_make_232 : decode prog_14_method_24_code 232 = .ok (.ifCond .eq 7, 3) := by decide +kernel
theorem d_MO_make_235 : decode prog_14_method_24_code 235 = .ok (.iconst 1, 1) := by decide +kernel
theorem d_MO_make_236 : decode prog_14_method_24_code 236 = .ok (.goto 4, 3) := by decide +kernel
theorem d_MO_make_239 : decode prog_14_method_24_code 239 = .ok (.iconst 0, 1) := by decide +kernel
theorem d_MO_make_240 : decode prog_14_method_24_code 240 = .ok (.iadd, 1) := by decide +kernel
theorem d_MO_make_241 : decode prog_14_method_24_code 241 = .ok (.sipush 16384, 3) := by decide +kernel
theorem d_MO_make_244 : decode prog_14_method_24_code 244 = .ok (.if_icmp .ge 18, 3) := by decide +kernel
theorem d_MO_make_247 : decode prog_14_method_24_code 247 = .ok (.aload_n 0, 1) := by decide +kernel
theorem d_MO_make_248 : decode prog_14_method_24_code 248 = .ok (.iload_n 1, 1) := by decide +kernel
theorem d_MO_make_249 : decode prog_14_method_24_code 249 = .ok (.lload 7, 2) := by decide +kernel
theorem d_MO_make_251 : decode prog_14_method_24_code 251 = .ok (.iload 9, 2) := by decide +kernel
theorem d_MO_make_253 : decode prog_14_method_24_code 253 = .ok (.iload 6, 2) := by decide +kernel
theorem d_MO_make_255 : decode prog_14_method_24_code 255 = .ok (.iconst 0, 1) := by decide +kernel
theorem d_MO_make_256 : decode prog_14_method_24_code 256 = .ok (.invokevirtual 100, 3) := by decide +kernel
theorem d_MO_make_259 : decode prog_14_method_24_code 259 = .ok (.goto 140, 3) := by decide +kernel
theorem d_MO_make_262 : decode prog_14_method_24_code 262 = .ok (.aload_n 0, 1) := by decide +kernel
theorem d_MO_make_263 : decode prog_14_method_24_code 263 = .ok (.getfield 7, 3) := by decide +kernel
theorem d_MO_make_266 : decode prog_14_method_24_code 266 = .ok (.bipush 8, 2) := by decide +kernel
theorem d_MO_make_268 : decode prog_14_method_24_code 268 = .ok (.iand, 1) := by decide +kernel
theorem d_MO_make_269 : decode prog_14_method_24_code 269 = .ok (.ifCond .ne 31, 3) := by decide +kernel
theorem d_MO_make_272 : decode prog_14_method_24_code 272 = .ok (.aload_n 0, 1) := by decide +kernel
theorem d_MO_make_273 : decode prog_14_method_24_code 273 = .ok (.aload_n 0, 1) := by decide +kernel
theorem d_MO_make_274 : decode prog_14_method_24_code 274 = .ok (.getfield 48, 3) := by decide +kernel
theorem d_MO_make_277 : decode prog_14_method_24_code 277 = .ok (.bipush 8, 2) := by decide +kernel
theorem d_MO_make_279 : decode prog_14_method_24_code 279 = .ok (.iadd, 1) := by decide +kernel
theorem d_MO_make_280 : decode prog_14_method_24_code 280 = .ok (.putfield 48, 3) := by decide +kernel
theorem d_MO_make_283 : decode prog_14_method_24_code 283 = .ok (.aload_n 0, 1) := by decide +kernel
theorem d_MO_make_284 : decode prog_14_method_24_code 284 = .ok (.iload_n 1, 1) := by decide +kernel
theorem d_MO_make_285 : decode prog_14_method_24_code 285 = .ok (.lload 7, 2) := by decide +kernel
theorem d_MO_make_287 : decode prog_14_method_24_code 287 = .ok (.iload 9, 2) := by decide +kernel
theorem d_MO_make_289 : decode prog_14_method_24_code 289 = .ok (.iload 6, 2) := by decide +kernel
theorem d_MO_make_291 : decode prog_14_method_24_code 291 = .ok (.sipush (-24576), 3) := by decide +kernel
theorem d_MO_make_294 : decode prog_14_method_24_code 294 = .ok (.invokevirtual 100, 3) := by decide +kernel
theorem d_MO_make_297 : decode prog_14_method_24_code 297 = .ok (.goto 102, 3) := by decide +kernel
theorem d_MO_make_300 : decode prog_14_method_24_code 300 = .ok (.aload_n 0, 1) := by decide +kernel
theorem d_MO_make_301 : decode prog_14_method_24_code 301 = .ok (.aload_n 0, 1) := by decide +kernel
theorem d_MO_make_302 : decode prog_14_method_24_code 302 = .ok (.getfield 48, 3) := by decide +kernel
theorem d_MO_make_305 : decode prog_14_method_24_code 305 = .ok (.bipush 8, 2) := by decide +kernel
theorem d_MO_make_307 : decode prog_14_method_24_code 307 = .ok (.iadd, 1) := by decide +kernel
theorem d_MO_make_308 : decode prog_14_method_24_code 308 = .ok (.aload_n 0, 1) := by decide +kernel
theorem d_MO_make_309 : decode prog_14_method_24_code 309 = .ok (.getfield 80, 3) := by decide +kernel
theorem d_MO_make_312 : decode prog_14_method_24_code 312 = .ok (.ifCond .eq 7, 3) := by decide +kernel
theorem d_MO_make_315 : decode prog_14_method_24_code 315 = .ok (.iconst 0, 1) := by decide +kernel
theorem d_MO_make_316 : decode prog_14_method_24_code 316 = .ok (.goto 5, 3) := by decide +kernel
theorem d_MO_make_319 : decode prog_14_method_24_code 319 = .ok (.bipush 32, 2) := by decide +kernel
theorem d_MO_make_321 : decode prog_14_method_24_code 321 = .ok (.iadd, 1) := by decide +kernel
theorem d_MO_make_322 : decode prog_14_method_24_code 322 = .ok (.putfield 48, 3) := by decide +kernel
theorem d_MO_make_325 : decode prog_14_method_24_code 325 = .ok (.aload_n 0, 1) := by decide +kernel
theorem d_MO_make_326 : decode prog_14_method_24_code 326 = .ok (.getfield 7, 3) := by decide +kernel
theorem d_MO_make_329 : decode prog_14_method_24_code 329 = .ok (.sipush 1024, 3) := by decide +kernel
theorem d_MO_make_332 : decode prog_14_method_24_code 332 = .ok (.idiv, 1) := by decide +kernel
theorem d_MO_make_333 : decode prog_14_method_24_code 333 = .ok (.iconst 4, 1) := by decide +kernel
theorem d_MO_make_334 : decode prog_14_method_24_code 334 = .ok (.irem, 1) := by decide +kernel
theorem d_MO_make_335 : decode prog_14_method_24_code 335 = .ok (.istore 11, 2) := by decide +kernel
theorem d_MO_make_337 : decode prog_14_method_24_code 337 = .ok (.iload 11, 2) := by decide +kernel
theorem d_MO_make_339 : decode prog_14_method_24_code 339 = .ok (.ifCond .eq 17, 3) := by decide +kernel
theorem d_MO_make_342 : decode prog_14_method_24_code 342 = .ok (.iload 11, 2) := by decide +kernel
theorem d_MO_make_344 : decode prog_14_method_24_code 344 = .ok (.iload_n 1, 1) := by decide +kernel
theorem d_MO_make_345 : decode prog_14_method_24_code 345 = .ok (.ifCond .eq 7, 3) := by decide +kernel
theorem d_MO_make_348 : decode prog_14_method_24_code 348 = .ok (.iconst 1, 1) := by decide +kernel
theorem d_MO_make_349 : decode prog_14_method_24_code 349 = .ok (.goto 4, 3) := by decide +kernel
theorem d_MO_make_352 : decode prog_14_method_24_code 352 = .ok (.iconst 2, 1) := by decide +kernel
theorem d_MO_make_353 : decode prog_14_method_24_code 353 = .ok (.if_icmp .ne 7, 3) := by decide +kernel
theorem d_MO_make_356 : decode prog_14_method_24_code 356 = .ok (.iconst 1, 1) := by decide +kernel
theorem d_MO_make_357 : decode prog_14_method_24_code 357 = .ok (.goto 4, 3) := by decide +kernel
theorem d_MO_make_360 : decode prog_14_method_24_code 360 = .ok (.iconst 0, 1) := by decide +kernel
theorem d_MO_make_361 : decode prog_14_method_24_code 361 = .ok (.istore 12, 2) := by decide +kernel
theorem d_MO_make_363 : decode prog_14_method_24_code 363 = .ok (.iload 12, 2) := by decide +kernel
theorem d_MO_make_365 : decode prog_14_method_24_code 365 = .ok (.ifCond .eq 17, 3) := by decide +kernel
theorem d_MO_make_368 : decode prog_14_method_24_code 368 = .ok (.aload_n 0, 1) := by decide +kernel
theorem d_MO_make_369 : decode prog_14_method_24_code 369 = .ok (.iload_n 1, 1) := by decide +kernel
theorem d_MO_make_370 : decode prog_14_method_24_code 370 = .ok (.sipush 32767, 3) := by decide +kernel
theorem d_MO_make_373 : decode prog_14_method_24_code 373 = .ok (.ldc2_w 87, 3) := by decide +kernel
theorem d_MO_make_376 : decode prog_14_method_24_code 376 = .ok (.invokevirtual 83, 3) := by decide +kernel
theorem d_MO_make_379 : decode prog_14_method_24_code 379 = .ok (.goto 20, 3) := by decide +kernel
theorem d_MO_make_382 : decode prog_14_method_24_code 382 = .ok (.aload_n 0, 1) := by decide +kernel
theorem d_MO_make_383 : decode prog_14_method_24_code 383 = .ok (.iload_n 1, 1) := by decide +kernel
theorem d_MO_make_384 : decode prog_14_method_24_code 384 = .ok (.sipush 32766, 3) := by decide +kernel
theorem d_MO_make_387 : decode prog_14_method_24_code 387 = .ok (.ldc2_w 104, 3) := by decide +kernel
theorem d_MO_make_390 : decode prog_14_method_24_code 390 = .ok (.bipush 64, 2) := by decide +kernel
theorem d_MO_make_392 : decode prog_14_method_24_code 392 = .ok (.iload 4, 2) := by decide +kernel
theorem d_MO_make_394 : decode prog_14_method_24_code 394 = .ok (.isub, 1) := by decide +kernel
theorem d_MO_make_395 : decode prog_14_method_24_code 395 = .ok (.lshl, 1) := by decide +kernel
theorem d_MO_make_396 : decode prog_14_method_24_code 396 = .ok (.invokevirtual 83, 3) := by decide +kernel
theorem d_MO_make_399 : decode prog_14_method_24_code 399 = .ok (.return_, 1) := by decide +kernel
theorem d_MO_sum_0 : decode prog_14_method_28_code 0 = .ok (.aload_n 0, 1) := by decide +kernel
theorem d_MO_sum_1 : decode prog_14_method_28_code 1 = .ok (.iconst 0, 1) := by decide +kernel
theorem d_MO_sum_2 : decode prog_14_method_28_code 2 = .ok (.invokevirtual 106, 3) := by decide +kernel
theorem d_MO_sum_5 : decode prog_14_method_28_code 5 = .ok (.aload_n 0, 1) := by decide +kernel
theorem d_MO_sum_6 : decode prog_14_method_28_code 6 = .ok (.iconst 1, 1) := by decide +kernel
theorem d_MO_sum_7 : decode prog_14_method_28_code 7 = .ok (.invokevirtual 106, 3) := by decide +kernel
theorem d_MO_sum_10 : decode prog_14_method_28_code 10 = .ok (.if_icmp .ge 11, 3) := by decide +kernel
theorem d_MO_sum_13 : decode prog_14_method_28_code 13 = .ok (.aload_n 0, 1) := by decide +kernel
theorem d_MO_sum_14 : decode prog_14_method_28_code 14 = .ok (.iconst 0, 1) := by decide +kernel
theorem d_MO_sum_15 : decode prog_14_method_28_code 15 = .ok (.invokevirtual 106, 3) := by decide +kernel
theorem d_MO_sum_18 : decode prog_14_method_28_code 18 = .ok (.goto 8, 3) := by decide +kernel
theorem d_MO_sum_21 : decode prog_14_method_28_code 21 = .ok (.aload_n 0, 1) := by decide +kernel
theorem d_MO_sum_22 : decode prog_14_method_28_code 22 = .ok (.iconst 1, 1) := by decide +kernel
theorem d_MO_sum_23 : decode prog_14_method_28_code 23 = .ok (.invokevirtual 106, 3) := by decide +kernel
theorem d_MO_sum_26 : decode prog_14_method_28_code 26 = .ok (.istore_n 1, 1) := by decide +kernel
theorem d_MO_sum_27 : decode prog_14_method_28_code 27 = .ok (.aload_n 0, 1) := by decide +kernel
theorem d_MO_sum_28 : decode prog_14_method_28_code 28 = .ok (.iconst 0, 1) := by decide +kernel
theorem d_MO_sum_29 : decode prog_14_method_28_code 29 = .ok (.invokevirtual 106, 3) := by decide +kernel
theorem d_MO_sum_32 : decode prog_14_method_28_code 32 = .ok (.aload_n 0, 1) := by decide +kernel
theorem d_MO_sum_33 : decode prog_14_method_28_code 33 = .ok (.iconst 1, 1) := by decide +kernel
theorem d_MO_sum_34 : decode prog_14_method_28_code 34 = .ok (.invokevirtual 106, 3) := by decide +kernel
theorem d_MO_sum_37 : decode prog_14_method_28_code 37 = .ok (.iadd, 1) := by decide +kernel
theorem d_MO_sum_38 : decode prog_14_method_28_code 38 = .ok (.iconst 2, 1) := by decide +kernel
theorem d_MO_sum_39 : decode prog_14_method_28_code 39 = .ok (.iload_n 1, 1) := by decide +kernel
theorem d_MO_sum_40 : decode prog_14_method_28_code 40 = .ok (.imul, 1) := by decide +kernel
theorem d_MO_sum_41 : decode prog_14_method_28_code 41 = .ok (.isub, 1) := by decide +kernel
theorem d_MO_sum_42 : decode prog_14_method_28_code 42 = .ok (.istore_n 2, 1) := by decide +kernel
theorem d_MO_sum_43 : decode prog_14_method_28_code 43 = .ok (.aload_n 0, 1) := by decide +kernel
theorem d_MO_sum_44 : decode prog_14_method_28_code 44 = .ok (.getfield 21, 3) := by decide +kernel
theorem d_MO_sum_47 : decode prog_14_method_28_code 47 = .ok (.iconst 0, 1) := by decide +kernel
theorem d_MO_sum_48 : decode prog_14_method_28_code 48 = .ok (.baload, 1) := by decide +kernel
theorem d_MO_sum_49 : decode prog_14_method_28_code 49 = .ok (.aload_n 0, 1) := by decide +kernel
theorem d_MO_sum_50 : decode prog_14_method_28_code 50 = .ok (.getfield 21, 3) := by decide +kernel
theorem d_MO_sum_53 : decode prog_14_method_28_code 53 = .ok (.iconst 1, 1) := by decide +kernel
theorem d_MO_sum_54 : decode prog_14_method_28_code 54 = .ok (.baload, 1) := by decide +kernel
theorem d_MO_sum_55 : decode prog_14_method_28_code 55 = .ok (.if_icmp .eq 7, 3) := by decide +kernel
theorem d_MO_sum_58 : decode prog_14_method_28_code 58 = .ok (.iconst 1, 1) := by decide +kernel
theorem d_MO_sum_59 : decode prog_14_method_28_code 59 = .ok (.goto 4, 3) := by decide +kernel
theorem d_MO_sum_62 : decode prog_14_method_28_code 62 = .ok (.iconst 0, 1) := by decide +kernel
theorem d_MO_sum_63 : decode prog_14_method_28_code 63 = .ok (.istore_n 3, 1) := by decide +kernel
theorem d_MO_sum_64 : decode prog_14_method_28_code 64 = .ok (.iload_n 3, 1) := by decide +kernel
theorem d_MO_sum_65 : decode prog_14_method_28_code 65 = .ok (.ifCond .eq 14, 3) := by decide +kernel
theorem d_MO_sum_68 : decode prog_14_method_28_code 68 = .ok (.aload_n 0, 1) := by decide +kernel
theorem d_MO_sum_69 : decode prog_14_method_28_code 69 = .ok (.invokevirtual 110, 3) := by decide +kernel
theorem d_MO_sum_72 : decode prog_14_method_28_code 72 = .ok (.ifCond .eq 7, 3) := by decide +kernel
theorem d_MO_sum_75 : decode prog_14_method_28_code 75 = .ok (.iconst 1, 1) := by decide +kernel
theorem d_MO_sum_76 : decode prog_14_method_28_code 76 = .ok (.goto 4, 3) := by decide +kernel
theorem d_MO_sum_79 : decode prog_14_method_28_code 79 = .ok (.iconst 0, 1) := by decide +kernel
theorem d_MO_sum_80 : decode prog_14_method_28_code 80 = .ok (.istore 4, 2) := by decide +kernel
theorem d_MO_sum_82 : decode prog_14_method_28_code 82 = .ok (.aload_n 0, 1) := by decide +kernel
theorem d_MO_sum_83 : decode prog_14_method_28_code 83 = .ok (.iload_n 2, 1) := by decide +kernel
theorem d_MO_sum_84 : decode prog_14_method_28_code 84 = .ok (.bipush 66, 2) := by decide +kernel
theorem d_MO_sum_86 : decode prog_14_method_28_code 86 = .ok (.iadd, 1) := by decide +kernel
theorem d_MO_sum_87 : decode prog_14_method_28_code 87 = .ok (.iload_n 1, 1) := by decide +kernel
theorem d_MO_sum_88 : decode prog_14_method_28_code 88 = .ok (.invokevirtual 114, 3) := by decide +kernel
theorem d_MO_sum_91 : decode prog_14_method_28_code 91 = .ok (.aload_n 0, 1) := by decide +kernel
theorem d_MO_sum_92 : decode prog_14_method_28_code 92 = .ok (.aload_n 0, 1) := by decide +kernel
theorem d_MO_sum_93 : decode prog_14_method_28_code 93 = .ok (.getfield 28, 3) := by decide +kernel
theorem d_MO_sum_96 : decode prog_14_method_28_code 96 = .ok (.iload 4, 2) := by decide +kernel
theorem d_MO_sum_98 : decode prog_14_method_28_code 98 = .ok (.laload, 1) := by decide +kernel
theorem d_MO_sum_99 : decode prog_14_method_28_code 99 = .ok (.aload_n 0, 1) := by decide +kernel
theorem d_MO_sum_100 : decode prog_14_method_28_code 100 = .ok (.iload 4, 2) := by decide +kernel
theorem d_MO_sum_102 : decode prog_14_method_28_code 102 = .ok (.invokevirtual 106, 3) := by decide +kernel
theorem d_MO_sum_105 : decode prog_14_method_28_code 105 = .ok (.iload_n 1, 1) := by decide +kernel
theorem d_MO_sum_106 : decode prog_14_method_28_code 106 = .ok (.isub, 1) := by decide +kernel
theorem d_MO_sum_107 : decode prog_14_method_28_code 107 = .ok (.iconst 0, 1) := by decide +kernel
theorem d_MO_sum_108 : decode prog_14_method_28_code 108 = .ok (.invokevirtual 118, 3) := by decide +kernel
theorem d_MO_sum_111 : decode prog_14_method_28_code 111 = .ok (.aload_n 0, 1) := by decide +kernel
theorem d_MO_sum_112 : decode prog_14_method_28_code 112 = .ok (.aload_n 0, 1) := by decide +kernel
theorem d_MO_sum_113 : decode prog_14_method_28_code 113 = .ok (.getfield 28, 3) := by decide +kernel
theorem d_MO_sum_116 : decode prog_14_method_28_code 116 = .ok (.iconst 1, 1) := by decide +kernel
theorem d_MO_sum_117 : decode prog_14_method_28_code 117 = .ok (.iload 4, 2) := by decide +kernel
theorem d_MO_sum_119 : decode prog_14_method_28_code 119 = .ok (.isub, 1) := by decide +kernel
theorem d_MO_sum_120 : decode prog_14_method_28_code 120 = .ok (.laload, 1) := by decide +kernel
theorem d_MO_sum_121 : decode prog_14_method_28_code 121 = .ok (.aload_n 0, 1) := by decide +kernel
theorem d_MO_sum_122 : decode prog_14_method_28_code 122 = .ok (.iconst 1, 1) := by decide +kernel
theorem d_MO_sum_123 : decode prog_14_method_28_code 123 = .ok (.iload 4, 2) := by decide +kernel
theorem d_MO_sum_125 : decode prog_14_method_28_code 125 = .ok (.isub, 1) := by decide +kernel
theorem d_MO_sum_126 : decode prog_14_method_28_code 126 = .ok (.invokevirtual 106, 3) := by decide +kernel
theorem d_MO_sum_129 : decode prog_14_method_28_code 129 = .ok (.iload_n 1, 1) := by decide +kernel
theorem d_MO_sum_130 : decode prog_14_method_28_code 130 = .ok (.isub, 1) := by decide +kernel
theorem d_MO_sum_131 : decode prog_14_method_28_code 131 = .ok (.iload_n 3, 1) := by decide +kernel
theorem d_MO_sum_132 : decode prog_14_method_28_code 132 = .ok (.invokevirtual 118, 3) := by decide +kernel
theorem d_MO_sum_135 : decode prog_14_method_28_code 135 = .ok (.aload_n 0, 1) := by decide +kernel
theorem d_MO_sum_136 : decode prog_14_method_28_code 136 = .ok (.getfield 7, 3) := by decide +kernel
theorem d_MO_sum_139 : decode prog_14_method_28_code 139 = .ok (.sipush 1024, 3) := by decide +kernel
theorem d_MO_sum_142 : decode prog_14_method_28_code 142 = .ok (.idiv, 1) := by decide +kernel
theorem d_MO_sum_143 : decode prog_14_method_28_code 143 = .ok (.iconst 4, 1) := by decide +kernel
theorem d_MO_sum_144 : decode prog_14_method_28_code 144 = .ok (.irem, 1) := by decide +kernel
theorem d_MO_sum_145 : decode prog_14_method_28_code 145 = .ok (.iconst 1, 1) := by decide +kernel
theorem d_MO_sum_146 : decode prog_14_method_28_code 146 = .ok (.if_icmp .ne 7, 3) := by decide +kernel
theorem d_MO_sum_149 : decode prog_14_method_28_code 149 = .ok (.iconst 1, 1) := by decide +kernel
theorem d_MO_sum_150 : decode prog_14_method_28_code 150 = .ok (.goto 4, 3) := by decide +kernel
theorem d_MO_sum_153 : decode prog_14_method_28_code 153 = .ok (.iconst 0, 1) := by decide +kernel
theorem d_MO_sum_154 : decode prog_14_method_28_code 154 = .ok (.istore 5, 2) := by decide +kernel
theorem d_MO_sum_156 : decode prog_14_method_28_code 156 = .ok (.aload_n 0, 1) := by decide +kernel
theorem d_MO_sum_157 : decode prog_14_method_28_code 157 = .ok (.invokevirtual 89, 3) := by decide +kernel
theorem d_MO_sum_160 : decode prog_14_method_28_code 160 = .ok (.ifCond .lt 17, 3) := by decide +kernel
theorem d_MO_sum_163 : decode prog_14_method_28_code 163 = .ok (.aload_n 0, 1) := by decide +kernel
theorem d_MO_sum_164 : decode prog_14_method_28_code 164 = .ok (.aload_n 0, 1) := by decide +kernel
theorem d_MO_sum_165 : decode prog_14_method_28_code 165 = .ok (.getfield 21, 3) := by decide +kernel
theorem d_MO_sum_168 : decode prog_14_method_28_code 168 = .ok (.iload 4, 2) := by decide +kernel
theorem d_MO_sum_170 : decode prog_14_method_28_code 170 = .ok (.baload, 1) := by decide +kernel
theorem d_MO_sum_171 : decode prog_14_method_28_code 171 = .ok (.invokevirtual 122, 3) := by decide +kernel
theorem d_MO_sum_174 : decode prog_14_method_28_code 174 = .ok (.goto 40, 3) := by decide +kernel
theorem d_MO_sum_177 : decode prog_14_method_28_code 177 = .ok (.aload_n 0, 1) := by decide +kernel
theorem d_MO_sum_178 : decode prog_14_method_28_code 178 = .ok (.aload_n 0, 1) := by decide +kernel
theorem d_MO_sum_179 : decode prog_14_method_28_code 179 = .ok (.iconst 0, 1) := by decide +kernel
theorem d_MO_sum_180 : decode prog_14_method_28_code 180 = .ok (.invokevirtual 126, 3) := by decide +kernel
theorem d_MO_sum_183 : decode prog_14_method_28_code 183 = .ok (.ifCond .eq 24, 3) := by decide +kernel
theorem d_MO_sum_186 : decode prog_14_method_28_code 186 = .ok (.aload_n 0, 1) := by decide +kernel
theorem d_MO_sum_187 : decode prog_14_method_28_code 187 = .ok (.iconst 1, 1) := by decide +kernel
theorem d_MO_sum_188 : decode prog_14_method_28_code 188 = .ok (.invokevirtual 126, 3) := by decide +kernel
theorem d_MO_sum_191 : decode prog_14_method_28_code 191 = .ok (.ifCond .eq 16, 3) := by decide +kernel
theorem d_MO_sum_194 : decode prog_14_method_28_code 194 = .ok (.iload_n 3, 1) := by decide +kernel
theorem d_MO_sum_195 : decode prog_14_method_28_code 195 = .ok (.ifCond .ne 12, 3) := by decide +kernel
theorem d_MO_sum_198 : decode prog_14_method_28_code 198 = .ok (.aload_n 0, 1) := by decide +kernel
theorem d_MO_sum_199 : decode prog_14_method_28_code 199 = .ok (.getfield 21, 3) := by decide +kernel
theorem d_MO_sum_202 : decode prog_14_method_28_code 202 = .ok (.iconst 0, 1) := by decide +kernel
theorem d_MO_sum_203 : decode prog_14_method_28_code 203 = .ok (.baload, 1) := by decide +kernel
theorem d_MO_sum_204 : decode prog_14_method_28_code 204 = .ok (.goto 5, 3) := by decide +kernel
theorem d_MO_sum_207 : decode prog_14_method_28_code 207 = .ok (.iload 5, 2) := by decide +kernel
theorem d_MO_sum_209 : decode prog_14_method_28_code 209 = .ok (.iconst 0, 1) := by decide +kernel
theorem d_MO_sum_210 : decode prog_14_method_28_code 210 = .ok (.lconst 0, 1) := by decide +kernel
theorem d_MO_sum_211 : decode prog_14_method_28_code 211 = .ok (.invokevirtual 83, 3) := by decide +kernel
theorem d_MO_sum_214 : decode prog_14_method_28_code 214 = .ok (.return_, 1) := by decide +kernel
theorem d_MO_product_0 : decode prog_14_method_29_code 0 = .ok (.aload_n 0, 1) := by decide +kernel
theorem d_MO_product_1 : decode prog_14_method_29_code 1 = .ok (.sipush 130, 3) := by decide +kernel
theorem d_MO_product_4 : decode prog_14_method_29_code 4 = .ok (.aload_n 0, 1) := by decide +kernel
theorem d_MO_product_5 : decode prog_14_method_29_code 5 = .ok (.iconst 0, 1) := by decide +kernel
theorem d_MO_product_6 : decode prog_14_method_29_code 6 = .ok (.invokevirtual 106, 3) := by decide +kernel
theorem d_MO_product_9 : decode prog_14_method_29_code 9 = .ok (.aload_n 0, 1) := by decide +kernel
theorem d_MO_product_10 : decode prog_14_method_29_code 10 = .ok (.iconst 1, 1) := by decide +kernel
theorem d_MO_product_11 : decode prog_14_method_29_code 11 = .ok (.invokevirtual 106, 3) := by decide +kernel
theorem d_MO_product_14 : decode prog_14_method_29_code 14 = .ok (.iadd, 1) := by decide +kernel
theorem d_MO_product_15 : decode prog_14_method_29_code 15 = .ok (.invokevirtual 114, 3) := by decide +kernel
theorem d_MO_product_18 : decode prog_14_method_29_code 18 = .ok (.iconst 0, 1) := by decide +kernel
theorem d_MO_product_19 : decode prog_14_method_29_code 19 = .ok (.istore_n 2, 1) := by decide +kernel
theorem d_MO_product_20 : decode prog_14_method_29_code 20 = .ok (.iload_n 2, 1) := by decide +kernel
theorem d_MO_product_21 : decode prog_14_method_29_code 21 = .ok (.bipush 64, 2) := by decide +kernel
theorem d_MO_product_23 : decode prog_14_method_29_code 23 = .ok (.if_icmp .ge 36, 3) := by decide +kernel
theorem d_MO_product_26 : decode prog_14_method_29_code 26 = .ok (.aload_n 0, 1) := by decide +kernel
theorem d_MO_product_27 : decode prog_14_method_29_code 27 = .ok (.getfield 28, 3) := by decide +kernel
theorem d_MO_product_30 : decode prog_14_method_29_code 30 = .ok (.iconst 1, 1) := by decide +kernel
theorem d_MO_product_31 : decode prog_14_method_29_code 31 = .ok (.laload, 1) := by decide +kernel
theorem d_MO_product_32 : decode prog_14_method_29_code 32 = .ok (.iload_n 2, 1) := by decide +kernel
theorem d_MO_product_33 : decode prog_14_method_29_code 33 = .ok (.lshr, 1) := by decide +kernel
theorem d_MO_product_34 : decode prog_14_method_29_code 34 = .ok (.lconst 1, 1) := by decide +kernel
theorem d_MO_product_35 : decode prog_14_method_29_code 35 = .ok (.land, 1) := by decide +kernel
theorem d_MO_product_36 : decode prog_14_method_29_code 36 = .ok (.lconst 1, 1) := by decide +kernel
theorem d_MO_product_37 : decode prog_14_method_29_code 37 = .ok (.lcmp, 1) := by decide +kernel
theorem d_MO_product_38 : decode prog_14_method_29_code 38 = .ok (.ifCond .ne 15, 3) := by decide +kernel
theorem d_MO_product_41 : decode prog_14_method_29_code 41 = .ok (.aload_n 0, 1) := by decide +kernel
theorem d_MO_product_42 : decode prog_14_method_29_code 42 = .ok (.aload_n 0, 1) := by decide +kernel
theorem d_MO_product_43 : decode prog_14_method_29_code 43 = .ok (.getfield 28, 3) := by decide +kernel
theorem d_MO_product_46 : decode prog_14_method_29_code 46 = .ok (.iconst 0, 1) := by decide +kernel
theorem d_MO_product_47 : decode prog_14_method_29_code 47 = .ok (.laload, 1) := by decide +kernel
theorem d_MO_product_48 : decode prog_14_method_29_code 48 = .ok (.iload_n 2, 1) := by decide +kernel
theorem d_MO_product_49 : decode prog_14_method_29_code 49 = .ok (.iconst 0, 1) := by decide +kernel
theorem d_MO_product_50 : decode prog_14_method_29_code 50 = .ok (.invokevirtual 118, 3) := by decide +kernel
theorem d_MO_product_53 : decode prog_14_method_29_code 53 = .ok (.iinc 2 1, 3) := by decide +kernel
theorem d_MO_product_56 : decode prog_14_method_29_code 56 = .ok (.goto (-36), 3) := by decide +kernel
theorem d_MO_product_59 : decode prog_14_method_29_code 59 = .ok (.aload_n 0, 1) := by decide +kernel
theorem d_MO_product_60 : decode prog_14_method_29_code 60 = .ok (.invokevirtual 89, 3) := by decide +kernel
theorem d_MO_product_63 : decode prog_14_method_29_code 63 = .ok (.ifCond .lt 11, 3) := by decide +kernel
theorem d_MO_product_66 : decode prog_14_method_29_code 66 = .ok (.aload_n 0, 1) := by decide +kernel
theorem d_MO_product_67 : decode prog_14_method_29_code 67 = .ok (.iload_n 1, 1) := by decide +kernel
theorem d_MO_product_68 : decode prog_14_method_29_code 68 = .ok (.invokevirtual 122, 3) := by decide +kernel
theorem d_MO_product_71 : decode prog_14_method_29_code 71 = .ok (.goto 10, 3) := by decide +kernel
theorem d_MO_product_74 : decode prog_14_method_29_code 74 = .ok (.aload_n 0, 1) := by decide +kernel
theorem d_MO_product_75 : decode prog_14_method_29_code 75 = .ok (.iload_n 1, 1) := by decide +kernel
theorem d_MO_product_76 : decode prog_14_method_29_code 76 = .ok (.iconst 0, 1) := by decide +kernel
theorem d_MO_product_77 : decode prog_14_method_29_code 77 = .ok (.lconst 0, 1) := by decide +kernel
theorem d_MO_product_78 : decode prog_14_method_29_code 78 = .ok (.invokevirtual 83, 3) := by decide +kernel
theorem d_MO_product_81 : decode prog_14_method_29_code 81 = .ok (.return_, 1) := by decide +kernel
theorem d_MO_quotient_0 : decode prog_14_method_30_code 0 = .ok (.aload_n 0, 1) := by decide +kernel
theorem d_MO_quotient_1 : decode prog_14_method_30_code 1 = .ok (.iconst 0, 1) := by decide +kernel
theorem d_MO_quotient_2 : decode prog_14_method_30_code 2 = .ok (.invokevirtual 126, 3) := by decide +kernel
theorem d_MO_quotient_5 : decode prog_14_method_30_code 5 = .ok (.ifCond .eq 11, 3) := by decide +kernel
theorem d_MO_quotient_8 : decode prog_14_method_30_code 8 = .ok (.aload_n 0, 1) := by decide +kernel
theorem d_MO_quotient_9 : decode prog_14_method_30_code 9 = .ok (.iload_n 1, 1) := by decide +kernel
theorem d_MO_quotient_10 : decode prog_14_method_30_code 10 = .ok (.iconst 0, 1) := by decide +kernel
theorem d_MO_quotient_11 : decode prog_14_method_30_code 11 = .ok (.lconst 0, 1) := by decide +kernel
theorem d_MO_quotient_12 : decode prog_14_method_30_code 12 = .ok (.invokevirtual 83, 3) := by decide +kernel
theorem d_MO_quotient_15 : decode prog_14_method_30_code 15 = .ok (.return_, 1) := by decide +kernel
theorem d_MO_quotient_16 : decode prog_14_method_30_code 16 = .ok (.aload_n 0, 1) := by decide +kernel
theorem d_MO_quotient_17 : decode prog_14_method_30_code 17 = .ok (.sipush 200, 3) := by decide +kernel
theorem d_MO_quotient_20 : decode prog_14_method_30_code 20 = .ok (.aload_n 0, 1) := by decide +kernel
theorem d_MO_quotient_21 : decode prog_14_method_30_code 21 = .ok (.iconst 0, 1) := by decide +kernel
theorem d_MO_quotient_22 : decode prog_14_method_30_code 22 = .ok (.invokevirtual 106, 3) := by decide +kernel
theorem d_MO_quotient_25 : decode prog_14_method_30_code 25 = .ok (.aload_n 0, 1) := by decide +kernel
theorem d_MO_quotient_26 : decode prog_14_method_30_code 26 = .ok (.iconst 1, 1) := by decide +kernel
theorem d_MO_quotient_27 : decode prog_14_method_30_code 27 = .ok (.invokevirtual 106, 3) := by decide +kernel
theorem d_MO_quotient_30 : decode prog_14_method_30_code 30 = .ok (.isub, 1) := by decide +kernel
theorem d_MO_quotient_31 : decode prog_14_method_30_code 31 = .ok (.sipush 136, 3) := by decide +kernel
theorem d_MO_quotient_34 : decode prog_14_method_30_code 34 = .ok (.isub, 1) := by decide +kernel
theorem d_MO_quotient_35 : decode prog_14_method_30_code 35 = .ok (.invokevirtual 114, 3) := by decide +kernel
theorem d_MO_quotient_38 : decode prog_14_method_30_code 38 = .ok (.lconst 0, 1) := by decide +kernel
theorem d_MO_quotient_39 : decode prog_14_method_30_code 39 = .ok (.lstore_n 2, 1) := by decide +kernel
theorem d_MO_quotient_40 : decode prog_14_method_30_code 40 = .ok (.sipush 199, 3) := by decide +kernel
theorem d_MO_quotient_43 : decode prog_14_method_30_code 43 = .ok (.istore 4, 2) := by decide +kernel
theorem d_MO_quotient_45 : decode prog_14_method_30_code 45 = .ok (.iload 4, 2) := by decide +kernel
theorem d_MO_quotient_47 : decode prog_14_method_30_code 47 = .ok (.ifCond .lt 108, 3) := by decide +kernel
theorem d_MO_quotient_50 : decode prog_14_method_30_code 50 = .ok (.lload_n 2, 1) := by decide +kernel
theorem d_MO_quotient_51 : decode prog_14_method_30_code 51 = .ok (.lconst 0, 1) := by decide +kernel
theorem d_MO_quotient_52 : decode prog_14_method_30_code 52 = .ok (.lcmp, 1) := by decide +kernel
theorem d_MO_quotient_53 : decode prog_14_method_30_code 53 = .ok (.ifCond .ge 7, 3) := by decide +kernel
theorem d_MO_quotient_56 : decode prog_14_method_30_code 56 = .ok (.iconst 1, 1) := by decide +kernel
theorem d_MO_quotient_57 : decode prog_14_method_30_code 57 = .ok (.goto 4, 3) := by decide +kernel
theorem d_MO_quotient_60 : decode prog_14_method_30_code 60 = .ok (.iconst 0, 1) := by decide +kernel
theorem d_MO_quotient_61 : decode prog_14_method_30_code 61 = .ok (.istore 5, 2) := by decide +kernel
theorem d_MO_quotient_63 : decode prog_14_method_30_code 63 = .ok (.ldc2_w 72, 3) := by decide +kernel
theorem d_MO_quotient_66 : decode prog_14_method_30_code 66 = .ok (.lload_n 2, 1) := by decide +kernel
theorem d_MO_quotient_67 : decode prog_14_method_30_code 67 = .ok (.lmul, 1) := by decide +kernel
theorem d_MO_quotient_68 : decode prog_14_method_30_code 68 = .ok (.iload 4, 2) := by decide +kernel
theorem d_MO_quotient_70 : decode prog_14_method_30_code 70 = .ok (.sipush 136, 3) := by decide +kernel
theorem d_MO_quotient_73 : decode prog_14_method_30_code 73 = .ok (.if_icmp .lt 21, 3) := by decide +kernel
theorem d_MO_quotient_76 : decode prog_14_method_30_code 76 = .ok (.aload_n 0, 1) := by decide +kernel
theorem d_MO_quotient_77 : decode prog_14_method_30_code 77 = .ok (.getfield 28, 3) := by decide +kernel
theorem d_MO_quotient_80 : decode prog_14_method_30_code 80 = .ok (.iconst 0, 1) := by decide +kernel
theorem d_MO_quotient_81 : decode prog_14_method_30_code 81 = .ok (.laload, 1) := by decide +kernel
theorem d_MO_quotient_82 : decode prog_14_method_30_code 82 = .ok (.iload 4, 2) := by decide +kernel
theorem d_MO_quotient_84 : decode prog_14_method_30_code 84 = .ok (.sipush 136, 3) := by decide +kernel
theorem d_MO_quotient_87 : decode prog_14_method_30_code 87 = .ok (.isub, 1) := by decide +kernel
theorem d_MO_quotient_88 : decode prog_14_method_30_code 88 = .ok (.lshr, 1) := by decide +kernel
theorem d_MO_quotient_89 : decode prog_14_method_30_code 89 = .ok (.lconst 1, 1) := by decide +kernel
theorem d_MO_quotient_90 : decode prog_14_method_30_code 90 = .ok (.land, 1) := by decide +kernel
theorem d_MO_quotient_91 : decode prog_14_method_30_code 91 = .ok (.goto 4, 3) := by decide +kernel
theorem d_MO_quotient_94 : decode prog_14_method_30_code 94 = .ok (.lconst 0, 1) := by decide +kernel
theorem d_MO_quotient_95 : decode prog_14_method_30_code 95 = .ok (.ladd, 1) := by decide +kernel
theorem d_MO_quotient_96 : decode prog_14_method_30_code 96 = .ok (.lstore_n 2, 1) := by decide +kernel
theorem d_MO_quotient_97 : decode prog_14_method_30_code 97 = .ok (.iload 5, 2) := by decide +kernel
theorem d_MO_quotient_99 : decode prog_14_method_30_code 99 = .ok (.ifCond .ne 16, 3) := by decide +kernel
theorem d_MO_quotient_102 : decode prog_14_method_30_code 102 = .ok (.lload_n 2, 1) := by decide +kernel
theorem d_MO_quotient_103 : decode prog_14_method_30_code 103 = .ok (.aload_n 0, 1) := by decide +kernel
theorem d_MO_quotient_104 : decode prog_14_method_30_code 104 = .ok (.getfield 28, 3) := by decide +kernel
theorem d_MO_quotient_107 : decode prog_14_method_30_code 107 = .ok (.iconst 1, 1) := by decide +kernel
theorem d_MO_quotient_108 : decode prog_14_method_30_code 108 = .ok (.laload, 1) := by decide +kernel
theorem d_MO_quotient_109 : decode prog_14_method_30_code 109 = .ok (.invokestatic 129, 3) := by decide +kernel
theorem d_MO_quotient_112 : decode prog_14_method_30_code 112 = .ok (.ifCond .ne 7, 3) := by decide +kernel
theorem d_MO_quotient_115 : decode prog_14_method_30_code 115 = .ok (.iconst 1, 1) := by decide +kernel
theorem d_MO_quotient_116 : decode prog_14_method_30_code 116 = .ok (.goto 4, 3) := by decide +kernel
theorem d_MO_quotient_119 : decode prog_14_method_30_code 119 = .ok (.iconst 0, 1) := by decide +kernel
theorem d_MO_quotient_120 : decode prog_14_method_30_code 120 = .ok (.istore 6, 2) := by decide +kernel
theorem d_MO_quotient_122 : decode prog_14_method_30_code 122 = .ok (.iload 6, 2) := by decide +kernel
theorem d_MO_quotient_124 : decode prog_14_method_30_code 124 = .ok (.ifCond .eq 14, 3) := by decide +kernel
theorem d_MO_quotient_127 : decode prog_14_method_30_code 127 = .ok (.lload_n 2, 1) := by decide +kernel
theorem d_MO_quotient_128 : decode prog_14_method_30_code 128 = .ok (.aload_n 0, 1) := by decide +kernel
theorem d_MO_quotient_129 : decode prog_14_method_30_code 129 = .ok (.getfield 28, 3) := by decide +kernel
theorem d_MO_quotient_132 : decode prog_14_method_30_code 132 = .ok (.iconst 1, 1) := by decide +kernel
theorem d_MO_quotient_133 : decode prog_14_method_30_code 133 = .ok (.laload, 1) := by decide +kernel
theorem d_MO_quotient_134 : decode prog_14_method_30_code 134 = .ok (.lsub, 1) := by decide +kernel
theorem d_MO_quotient_135 : decode prog_14_method_30_code 135 = .ok (.goto 4, 3) := by decide +kernel
theorem d_MO_quotient_138 : decode prog_14_method_30_code 138 = .ok (.lload_n 2, 1) := by decide +kernel
theorem d_MO_quotient_139 : decode prog_14_method_30_code 139 = .ok (.lstore_n 2, 1) := by decide +kernel
theorem d_MO_quotient_140 : decode prog_14_method_30_code 140 = .ok (.aload_n 0, 1) := by decide +kernel
theorem d_MO_quotient_141 : decode prog_14_method_30_code 141 = .ok (.getfield 32, 3) := by decide +kernel
theorem d_MO_quotient_144 : decode prog_14_method_30_code 144 = .ok (.iload 4, 2) := by decide +kernel
theorem d_MO_quotient_146 : decode prog_14_method_30_code 146 = .ok (.iload 6, 2) := by decide +kernel
theorem d_MO_quotient_148 : decode prog_14_method_30_code 148 = .ok (.bastore, 1) := by decide +kernel
theorem d_MO_quotient_149 : decode prog_14_method_30_code 149 = .ok (.iinc 4 (-1), 3) := by decide +kernel
theorem d_MO_quotient_152 : decode prog_14_method_30_code 152 = .ok (.goto (-107), 3) := by decide +kernel
theorem d_MO_quotient_155 : decode prog_14_method_30_code 155 = .ok (.aload_n 0, 1) := by decide +kernel
theorem d_MO_quotient_156 : decode prog_14_method_30_code 156 = .ok (.lload_n 2, 1) := by decide +kernel
theorem d_MO_quotient_157 : decode prog_14_method_30_code 157 = .ok (.lconst 0, 1) := by decide +kernel
theorem d_MO_quotient_158 : decode prog_14_method_30_code 158 = .ok (.lcmp, 1) := by decide +kernel
theorem d_MO_quotient_159 : decode prog_14_method_30_code 159 = .ok (.ifCond .eq 7, 3) := by decide +kernel
theorem d_MO_quotient_162 : decode prog_14_method_30_code 162 = .ok (.iconst 1, 1) := by decide +kernel
theorem d_MO_quotient_163 : decode prog_14_method_30_code 163 = .ok (.goto 4, 3) := by decide +kernel
theorem d_MO_quotient_166 : decode prog_14_method_30_code 166 = .ok (.iconst 0, 1) := by decide +kernel
theorem d_MO_quotient_167 : decode prog_14_method_30_code 167 = .ok (.putfield 66, 3) := by decide +kernel
theorem d_MO_quotient_170 : decode prog_14_method_30_code 170 = .ok (.aload_n 0, 1) := by decide +kernel
theorem d_MO_quotient_171 : decode prog_14_method_30_code 171 = .ok (.iload_n 1, 1) := by decide +kernel
theorem d_MO_quotient_172 : decode prog_14_method_30_code 172 = .ok (.invokevirtual 122, 3) := by decide +kernel
theorem d_MO_quotient_175 : decode prog_14_method_30_code 175 = .ok (.return_, 1) := by decide +kernel
theorem d_MO_root_0 : decode prog_14_method_31_code 0 = .ok (.aload_n 0, 1) := by decide +kernel
theorem d_MO_root_1 : decode prog_14_method_31_code 1 = .ok (.iconst 0, 1) := by decide +kernel
theorem d_MO_root_2 : decode prog_14_method_31_code 2 = .ok (.invokevirtual 126, 3) := by decide +kernel
theorem d_MO_root_5 : decode prog_14_method_31_code 5 = .ok (.ifCond .eq 16, 3) := by decide +kernel
theorem d_MO_root_8 : decode prog_14_method_31_code 8 = .ok (.aload_n 0, 1) := by decide +kernel
theorem d_MO_root_9 : decode prog_14_method_31_code 9 = .ok (.aload_n 0, 1) := by decide +kernel
theorem d_MO_root_10 : decode prog_14_method_31_code 10 = .ok (.getfield 21, 3) := by decide +kernel
theorem d_MO_root_13 : decode prog_14_method_31_code 13 = .ok (.iconst 0, 1) := by decide +kernel
theorem d_MO_root_14 : decode prog_14_method_31_code 14 = .ok (.baload, 1) := by decide +kernel
theorem d_MO_root_15 : decode prog_14_method_31_code 15 = .ok (.iconst 0, 1) := by decide +kernel
theorem d_MO_root_16 : decode prog_14_method_31_code 16 = .ok (.lconst 0, 1) := by decide +kernel
theorem d_MO_root_17 : decode prog_14_method_31_code 17 = .ok (.invokevirtual 83, 3) := by decide +kernel
theorem d_MO_root_20 : decode prog_14_method_31_code 20 = .ok (.return_, 1) := by decide +kernel
theorem d_MO_root_21 : decode prog_14_method_31_code 21 = .ok (.aload_n 0, 1) := by decide +kernel
theorem d_MO_root_22 : decode prog_14_method_31_code 22 = .ok (.iconst 0, 1) := by decide +kernel
theorem d_MO_root_23 : decode prog_14_method_31_code 23 = .ok (.invokevirtual 106, 3) := by decide +kernel
theorem d_MO_root_26 : decode prog_14_method_31_code 26 = .ok (.istore_n 1, 1) := by decide +kernel
theorem d_MO_root_27 : decode prog_14_method_31_code 27 = .ok (.iload_n 1, 1) := by decide +kernel
theorem d_MO_root_28 : decode prog_14_method_31_code 28 = .ok (.iconst 2, 1) := by decide +kernel
theorem d_MO_root_29 : decode prog_14_method_31_code 29 = .ok (.irem, 1) := by decide +kernel
theorem d_MO_root_30 : decode prog_14_method_31_code 30 = .ok (.ifCond .eq 7, 3) := by decide +kernel
theorem d_MO_root_33 : decode prog_14_method_31_code 33 = .ok (.iconst 1, 1) := by decide +kernel
theorem d_MO_root_34 : decode prog_14_method_31_code 34 = .ok (.goto 4, 3) := by decide +kernel
theorem d_MO_root_37 : decode prog_14_method_31_code 37 = .ok (.iconst 0, 1) := by decide +kernel
theorem d_MO_root_38 : decode prog_14_method_31_code 38 = .ok (.istore_n 2, 1) := by decide +kernel
theorem d_MO_root_39 : decode prog_14_method_31_code 39 = .ok (.iload_n 2, 1) := by decide +kernel
theorem d_MO_root_40 : decode prog_14_method_31_code 40 = .ok (.ifCond .eq 9, 3) := by decide +kernel
theorem d_MO_root_43 : decode prog_14_method_31_code 43 = .ok (.iload_n 1, 1) := by decide +kernel
theorem d_MO_root_44 : decode prog_14_method_31_code 44 = .ok (.iconst 1, 1) := by decide +kernel
theorem d_MO_root_45 : decode prog_14_method_31_code 45 = .ok (.isub, 1) := by decide +kernel
theorem d_MO_root_46 : decode prog_14_method_31_code 46 = .ok (.goto 4, 3) := by decide +kernel
theorem d_MO_root_49 : decode prog_14_method_31_code 49 = .ok (.iload_n 1, 1) := by decide +kernel
theorem d_MO_root_50 : decode prog_14_method_31_code 50 = .ok (.iconst 2, 1) := by decide +kernel
theorem d_MO_root_51 : decode prog_14_method_31_code 51 = .ok (.idiv, 1) := by decide +kernel
theorem d_MO_root_52 : decode prog_14_method_31_code 52 = .ok (.istore_n 3, 1) := by decide +kernel
theorem d_MO_root_53 : decode prog_14_method_31_code 53 = .ok (.aload_n 0, 1) := by decide +kernel
theorem d_MO_root_54 : decode prog_14_method_31_code 54 = .ok (.bipush 104, 2) := by decide +kernel
theorem d_MO_root_56 : decode prog_14_method_31_code 56 = .ok (.iload_n 3, 1) := by decide +kernel
theorem d_MO_root_57 : decode prog_14_method_31_code 57 = .ok (.bipush 70, 2) := by decide +kernel
theorem d_MO_root_59 : decode prog_14_method_31_code 59 = .ok (.isub, 1) := by decide +kernel
theorem d_MO_root_60 : decode prog_14_method_31_code 60 = .ok (.invokevirtual 114, 3) := by decide +kernel
theorem d_MO_root_63 : decode prog_14_method_31_code 63 = .ok (.lconst 0, 1) := by decide +kernel
theorem d_MO_root_64 : decode prog_14_method_31_code 64 = .ok (.lstore 4, 2) := by decide +kernel
theorem d_MO_root_66 : decode prog_14_method_31_code 66 = .ok (.lconst 0, 1) := by decide +kernel
theorem d_MO_root_67 : decode prog_14_method_31_code 67 = .ok (.lstore 6, 2) := by decide +kernel
theorem d_MO_root_69 : decode prog_14_method_31_code 69 = .ok (.lconst 0, 1) := by decide +kernel
theorem d_MO_root_70 : decode prog_14_method_31_code 70 = .ok (.lstore 8, 2) := by decide +kernel
theorem d_MO_root_72 : decode prog_14_method_31_code 72 = .ok (.lconst 0, 1) := by decide +kernel
theorem d_MO_root_73 : decode prog_14_method_31_code 73 = .ok (.lstore 10, 2) := by decide +kernel
theorem d_MO_root_75 : decode prog_14_method_31_code 75 = .ok (.bipush 103, 2) := by decide +kernel
theorem d_MO_root_77 : decode prog_14_method_31_code 77 = .ok (.istore 12, 2) := by decide +kernel
theorem d_MO_root_79 : decode prog_14_method_31_code 79 = .ok (.iload 12, 2) := by decide +kernel
theorem d_MO_root_81 : decode prog_14_method_31_code 81 = .ok (.ifCond .lt 242, 3) := by decide +kernel
theorem d_MO_root_84 : decode prog_14_method_31_code 84 = .ok (.iconst 0, 1) := by decide +kernel
theorem d_MO_root_85 : decode prog_14_method_31_code 85 = .ok (.istore 13, 2) := by decide +kernel
theorem d_MO_root_87 : decode prog_14_method_31_code 87 = .ok (.iconst 1, 1) := by decide +kernel
theorem d_MO_root_88 : decode prog_14_method_31_code 88 = .ok (.istore 14, 2) := by decide +kernel
theorem d_MO_root_90 : decode prog_14_method_31_code 90 = .ok (.iload 14, 2) := by decide +kernel
theorem d_MO_root_92 : decode prog_14_method_31_code 92 = .ok (.ifCond .lt 67, 3) := by decide +kernel
theorem d_MO_root_95 : decode prog_14_method_31_code 95 = .ok (.iconst 2, 1) := by decide +kernel
theorem d_MO_root_96 : decode prog_14_method_31_code 96 = .ok (.iload 12, 2) := by decide +kernel
theorem d_MO_root_98 : decode prog_14_method_31_code 98 = .ok (.imul, 1) := by decide +kernel
theorem d_MO_root_99 : decode prog_14_method_31_code 99 = .ok (.iload 14, 2) := by decide +kernel
theorem d_MO_root_101 : decode prog_14_method_31_code 101 = .ok (.iadd, 1) := by decide +kernel
theorem d_MO_root_102 : decode prog_14_method_31_code 102 = .ok (.sipush 140, 3) := by decide +kernel
theorem d_MO_root_105 : decode prog_14_method_31_code 105 = .ok (.isub, 1) := by decide +kernel
theorem d_MO_root_106 : decode prog_14_method_31_code 106 = .ok (.iload_n 2, 1) := by decide +kernel
theorem d_MO_root_107 : decode prog_14_method_31_code 107 = .ok (.ifCond .eq 7, 3) := by decide +kernel
theorem d_MO_root_110 : decode prog_14_method_31_code 110 = .ok (.iconst 1, 1) := by decide +kernel
theorem d_MO_root_111 : decode prog_14_method_31_code 111 = .ok (.goto 4, 3) := by decide +kernel
theorem d_MO_root_114 : decode prog_14_method_31_code 114 = .ok (.iconst 0, 1) := by decide +kernel
theorem d_MO_root_115 : decode prog_14_method_31_code 115 = .ok (.isub, 1) := by decide +kernel
theorem d_MO_root_116 : decode prog_14_method_31_code 116 = .ok (.istore 15, 2) := by decide +kernel
theorem d_MO_root_118 : decode prog_14_method_31_code 118 = .ok (.iconst 2, 1) := by decide +kernel
theorem d_MO_root_119 : decode prog_14_method_31_code 119 = .ok (.iload 13, 2) := by decide +kernel
theorem d_MO_root_121 : decode prog_14_method_31_code 121 = .ok (.imul, 1) := by decide +kernel
theorem d_MO_root_122 : decode prog_14_method_31_code 122 = .ok (.iload 15, 2) := by decide +kernel
theorem d_MO_root_124 : decode prog_14_method_31_code 124 = .ok (.ifCond .lt 25, 3) := by decide +kernel
theorem d_MO_root_127 : decode prog_14_method_31_code 127 = .ok (.iload 15, 2) := by decide +kernel
theorem d_MO_root_129 : decode prog_14_method_31_code 129 = .ok (.bipush 64, 2) := by decide +kernel
theorem d_MO_root_131 : decode prog_14_method_31_code 131 = .ok (.if_icmp .ge 18, 3) := by decide +kernel
theorem d_MO_root_134 : decode prog_14_method_31_code 134 = .ok (.aload_n 0, 1) := by decide +kernel
theorem d_MO_root_135 : decode prog_14_method_31_code 135 = .ok (.getfield 28, 3) := by decide +kernel
theorem d_MO_root_138 : decode prog_14_method_31_code 138 = .ok (.iconst 0, 1) := by decide +kernel
theorem d_MO_root_139 : decode prog_14_method_31_code 139 = .ok (.laload, 1) := by decide +kernel
theorem d_MO_root_140 : decode prog_14_method_31_code 140 = .ok (.iload 15, 2) := by decide +kernel
theorem d_MO_root_142 : decode prog_14_method_31_code 142 = .ok (.lshr, 1) := by decide +kernel
theorem d_MO_root_143 : decode prog_14_method_31_code 143 = .ok (.lconst 1, 1) := by decide +kernel
theorem d_MO_root_144 : decode prog_14_method_31_code 144 = .ok (.land, 1) := by decide +kernel
theorem d_MO_root_145 : decode prog_14_method_31_code 145 = .ok (.l2i, 1) := by decide +kernel
theorem d_MO_root_146 : decode prog_14_method_31_code 146 = .ok (.goto 4, 3) := by decide +kernel
theorem d_MO_root_149 : decode prog_14_method_31_code 149 = .ok (.iconst 0, 1) := by decide +kernel
theorem d_MO_root_150 : decode prog_14_method_31_code 150 = .ok (.iadd, 1) := by decide +kernel
theorem d_MO_root_151 : decode prog_14_method_31_code 151 = .ok (.istore 13, 2) := by decide +kernel
theorem d_MO_root_153 : decode prog_14_method_31_code 153 = .ok (.iinc 14 (-1), 3) := by decide +kernel
theorem d_MO_root_156 : decode prog_14_method_31_code 156 = .ok (.goto (-66), 3) := by decide +kernel
theorem d_MO_root_159 : decode prog_14_method_31_code 159 = .ok (.lload 4, 2) := by decide +kernel
theorem d_MO_root_161 : decode prog_14_method_31_code 161 = .ok (.iconst 2, 1) := by decide +kernel
theorem d_MO_root_162 : decode prog_14_method_31_code 162 = .ok (.lshl, 1) := by decide +kernel
theorem d_MO_root_163 : decode prog_14_method_31_code 163 = .ok (.lload 6, 2) := by decide +kernel
theorem d_MO_root_165 : decode prog_14_method_31_code 165 = .ok (.bipush 62, 2) := by decide +kernel
theorem d_MO_root_167 : decode prog_14_method_31_code 167 = .ok (.lushr, 1) := by decide +kernel
theorem d_MO_root_168 : decode prog_14_method_31_code 168 = .ok (.lor, 1) := by decide +kernel
theorem d_MO_root_169 : decode prog_14_method_31_code 169 = .ok (.lstore 4, 2) := by decide +kernel
theorem d_MO_root_171 : decode prog_14_method_31_code 171 = .ok (.lload 6, 2) := by decide +kernel
theorem d_MO_root_173 : decode prog_14_method_31_code 173 = .ok (.iconst 2, 1) := by decide +kernel
theorem d_MO_root_174 : decode prog_14_method_31_code 174 = .ok (.lshl, 1) := by decide +kernel
theorem d_MO_root_175 : decode prog_14_method_31_code 175 = .ok (.iload 13, 2) := by decide +kernel
theorem d_MO_root_177 : decode prog_14_method_31_code 177 = .ok (.i2l, 1) := by decide +kernel
theorem d_MO_root_178 : decode prog_14_method_31_code 178 = .ok (.lor, 1) := by decide +kernel
theorem d_MO_root_179 : decode prog_14_method_31_code 179 = .ok (.lstore 6, 2) := by decide +kernel
theorem d_MO_root_181 : decode prog_14_method_31_code 181 = .ok (.lload 8, 2) := by decide +kernel
theorem d_MO_root_183 : decode prog_14_method_31_code 183 = .ok (.iconst 2, 1) := by decide +kernel
theorem d_MO_root_184 : decode prog_14_method_31_code 184 = .ok (.lshl, 1) := by decide +kernel
theorem d_MO_root_185 : decode prog_14_method_31_code 185 = .ok (.lload 10, 2) := by decide +kernel
theorem d_MO_root_187 : decode prog_14_method_31_code 187 = .ok (.bipush 62, 2) := by decide +kernel
theorem d_MO_root_189 : decode prog_14_method_31_code 189 = .ok (.lushr, 1) := by decide +kernel
theorem d_MO_root_190 : decode prog_14_method_31_code 190 = .ok (.lor, 1) := by decide +kernel
theorem d_MO_root_191 : decode prog_14_method_31_code 191 = .ok (.lstore 14, 2) := by decide +kernel
theorem d_MO_root_193 : decode prog_14_method_31_code 193 = .ok (.lload 10, 2) := by decide +kernel
theorem d_MO_root_195 : decode prog_14_method_31_code 195 = .ok (.iconst 2, 1) := by decide +kernel
theorem d_MO_root_196 : decode prog_14_method_31_code 196 = .ok (.lshl, 1) := by decide +kernel
theorem d_MO_root_197 : decode prog_14_method_31_code 197 = .ok (.lconst 1, 1) := by decide +kernel
theorem d_MO_root_198 : decode prog_14_method_31_code 198 = .ok (.lor, 1) := by decide +kernel
theorem d_MO_root_199 : decode prog_14_method_31_code 199 = .ok (.lstore 16, 2) := by decide +kernel
theorem d_MO_root_201 : decode prog_14_method_31_code 201 = .ok (.lload 4, 2) := by decide +kernel
theorem d_MO_root_203 : decode prog_14_method_31_code 203 = .ok (.lload 14, 2) := by decide +kernel
theorem d_MO_root_205 : decode prog_14_method_31_code 205 = .ok (.lcmp, 1) := by decide +kernel
theorem d_MO_root_206 : decode prog_14_method_31_code 206 = .ok (.ifCond .eq 21, 3) := by decide +kernel
theorem d_MO_root_209 : decode prog_14_method_31_code 209 = .ok (.lload 4, 2) := by decide +kernel
theorem d_MO_root_211 : decode prog_14_method_31_code 211 = .ok (.lload 14, 2) := by decide +kernel
theorem d_MO_root_213 : decode prog_14_method_31_code 213 = .ok (.invokestatic 129, 3) := by decide +kernel
theorem d_MO_root_216 : decode prog_14_method_31_code 216 = .ok (.ifCond .ne 7, 3) := by decide +kernel
theorem d_MO_root_219 : decode prog_14_method_31_code 219 = .ok (.iconst 1, 1) := by decide +kernel
theorem d_MO_root_220 : decode prog_14_method_31_code 220 = .ok (.goto 22, 3) := by decide +kernel
theorem d_MO_root_223 : decode prog_14_method_31_code 223 = .ok (.iconst 0, 1) := by decide +kernel
theorem d_MO_root_224 : decode prog_14_method_31_code 224 = .ok (.goto 18, 3) := by decide +kernel
theorem d_MO_root_227 : decode prog_14_method_31_code 227 = .ok (.lload 6, 2) := by decide +kernel
theorem d_MO_root_229 : decode prog_14_method_31_code 229 = .ok (.lload 16, 2) := by decide +kernel
theorem d_MO_root_231 : decode prog_14_method_31_code 231 = .ok (.invokestatic 129, 3) := by decide +kernel
theorem d_MO_root_234 : decode prog_14_method_31_code 234 = .ok (.ifCond .ne 7, 3) := by decide +kernel
theorem d_MO_root_237 : decode prog_14_method_31_code 237 = .ok (.iconst 1, 1) := by decide +kernel
theorem d_MO_root_238 : decode prog_14_method_31_code 238 = .ok (.goto 4, 3) := by decide +kernel
theorem d_MO_root_241 : decode prog_14_method_31_code 241 = .ok (.iconst 0, 1) := by decide +kernel
theorem d_MO_root_242 : decode prog_14_method_31_code 242 = .ok (.istore 18, 2) := by decide +kernel
theorem d_MO_root_244 : decode prog_14_method_31_code 244 = .ok (.iload 18, 2) := by decide +kernel
theorem d_MO_root_246 : decode prog_14_method_31_code 246 = .ok (.ifCond .eq 33, 3) := by decide +kernel
theorem d_MO_root_249 : decode prog_14_method_31_code 249 = .ok (.lload 4, 2) := by decide +kernel
theorem d_MO_root_251 : decode prog_14_method_31_code 251 = .ok (.lload 14, 2) := by decide +kernel
theorem d_MO_root_253 : decode prog_14_method_31_code 253 = .ok (.lsub, 1) := by decide +kernel
theorem d_MO_root_254 : decode prog_14_method_31_code 254 = .ok (.lload 6, 2) := by decide +kernel
theorem d_MO_root_256 : decode prog_14_method_31_code 256 = .ok (.lload 16, 2) := by decide +kernel
theorem d_MO_root_258 : decode prog_14_method_31_code 258 = .ok (.invokestatic 129, 3) := by decide +kernel
theorem d_MO_root_261 : decode prog_14_method_31_code 261 = .ok (.ifCond .eq 7, 3) := by decide +kernel
theorem d_MO_root_264 : decode prog_14_method_31_code 264 = .ok (.lconst 1, 1) := by decide +kernel
theorem d_MO_root_265 : decode prog_14_method_31_code 265 = .ok (.goto 4, 3) := by decide +kernel
theorem d_MO_root_268 : decode prog_14_method_31_code 268 = .ok (.lconst 0, 1) := by decide +kernel
theorem d_MO_root_269 : decode prog_14_method_31_code 269 = .ok (.lsub, 1) := by decide +kernel
theorem d_MO_root_270 : decode prog_14_method_31_code 270 = .ok (.lstore 4, 2) := by decide +kernel
theorem d_MO_root_272 : decode prog_14_method_31_code 272 = .ok (.lload 6, 2) := by decide +kernel
theorem d_MO_root_274 : decode prog_14_method_31_code 274 = .ok (.lload 16, 2) := by decide +kernel
theorem d_MO_root_276 : decode prog_14_method_31_code 276 = .ok (.lsub, 1) := by decide +kernel
theorem d_MO_root_277 : decode prog_14_method_31_code 277 = .ok (.lstore 6, 2) := by decide +kernel
theorem d_MO_root_279 : decode prog_14_method_31_code 279 = .ok (.lload 8, 2) := by decide +kernel
theorem d_MO_root_281 : decode prog_14_method_31_code 281 = .ok (.iconst 1, 1) := by decide +kernel
theorem d_MO_root_282 : decode prog_14_method_31_code 282 = .ok (.lshl, 1) := by decide +kernel
theorem d_MO_root_283 : decode prog_14_method_31_code 283 = .ok (.lload 10, 2) := by decide +kernel
theorem d_MO_root_285 : decode prog_14_method_31_code 285 = .ok (.bipush 63, 2) := by decide +kernel
theorem d_MO_root_287 : decode prog_14_method_31_code 287 = .ok (.lushr, 1) := by decide +kernel
theorem d_MO_root_288 : decode prog_14_method_31_code 288 = .ok (.lor, 1) := by decide +kernel
theorem d_MO_root_289 : decode prog_14_method_31_code 289 = .ok (.lstore 8, 2) := by decide +kernel
theorem d_MO_root_291 : decode prog_14_method_31_code 291 = .ok (.lload 10, 2) := by decide +kernel
theorem d_MO_root_293 : decode prog_14_method_31_code 293 = .ok (.iconst 1, 1) := by decide +kernel
theorem d_MO_root_294 : decode prog_14_method_31_code 294 = .ok (.lshl, 1) := by decide +kernel
theorem d_MO_root_295 : decode prog_14_method_31_code 295 = .ok (.iload 18, 2) := by decide +kernel
theorem d_MO_root_297 : decode prog_14_method_31_code 297 = .ok (.ifCond .eq 7, 3) := by decide +kernel
theorem d_MO_root_300 : decode prog_14_method_31_code 300 = .ok (.lconst 1, 1) := by decide +kernel
theorem d_MO_root_301 : decode prog_14_method_31_code 301 = .ok (.goto 4, 3) := by decide +kernel
theorem d_MO_root_304 : decode prog_14_method_31_code 304 = .ok (.lconst 0, 1) := by decide +kernel
theorem d_MO_root_305 : decode prog_14_method_31_code 305 = .ok (.lor, 1) := by decide +kernel
theorem d_MO_root_306 : decode prog_14_method_31_code 306 = .ok (.lstore 10, 2) := by decide +kernel
theorem d_MO_root_308 : decode prog_14_method_31_code 308 = .ok (.aload_n 0, 1) := by decide +kernel
theorem d_MO_root_309 : decode prog_14_method_31_code 309 = .ok (.getfield 32, 3) := by decide +kernel
theorem d_MO_root_312 : decode prog_14_method_31_code 312 = .ok (.iload 12, 2) := by decide +kernel
theorem d_MO_root_314 : decode prog_14_method_31_code 314 = .ok (.iload 18, 2) := by decide +kernel
theorem d_MO_root_316 : decode prog_14_method_31_code 316 = .ok (.bastore, 1) := by decide +kernel
theorem d_MO_root_317 : decode prog_14_method_31_code 317 = .ok (.iinc 12 (-1), 3) := by decide +kernel
theorem d_MO_root_320 : decode prog_14_method_31_code 320 = .ok (.goto (-241), 3) := by decide +kernel
theorem d_MO_root_323 : decode prog_14_method_31_code 323 = .ok (.aload_n 0, 1) := by decide +kernel
theorem d_MO_root_324 : decode prog_14_method_31_code 324 = .ok (.lload 4, 2) := by decide +kernel
theorem d_MO_root_326 : decode prog_14_method_31_code 326 = .ok (.lload 6, 2) := by decide +kernel
theorem d_MO_root_328 : decode prog_14_method_31_code 328 = .ok (.lor, 1) := by decide +kernel
theorem d_MO_root_329 : decode prog_14_method_31_code 329 = .ok (.lconst 0, 1) := by decide +kernel
theorem d_MO_root_330 : decode prog_14_method_31_code 330 = .ok (.lcmp, 1) := by decide +kernel
theorem d_MO_root_331 : decode prog_14_method_31_code 331 = .ok (.ifCond .eq 7, 3) := by decide +kernel
theorem d_MO_root_334 : decode prog_14_method_31_code 334 = .ok (.iconst 1, 1) := by decide +kernel
theorem d_MO_root_335 : decode prog_14_method_31_code 335 = .ok (.goto 4, 3) := by decide +kernel
theorem d_MO_root_338 : decode prog_14_method_31_code 338 = .ok (.iconst 0, 1) := by decide +kernel
theorem d_MO_root_339 : decode prog_14_method_31_code 339 = .ok (.putfield 66, 3) := by decide +kernel
theorem d_MO_root_342 : decode prog_14_method_31_code 342 = .ok (.aload_n 0, 1) := by decide +kernel
theorem d_MO_root_343 : decode prog_14_method_31_code 343 = .ok (.iconst 0, 1) := by decide +kernel
theorem d_MO_root_344 : decode prog_14_method_31_code 344 = .ok (.invokevirtual 122, 3) := by decide +kernel
theorem d_MO_root_347 : decode prog_14_method_31_code 347 = .ok (.return_, 1) := by decide +kernel
theorem d_MO_work_0 : decode prog_14_method_35_code 0 = .ok (.iload_n 1, 1) := by decide +kernel
theorem d_MO_work_1 : decode prog_14_method_35_code 1 = .ok (.bipush 6, 2) := by decide +kernel
theorem d_MO_work_3 : decode prog_14_method_35_code 3 = .ok (.if_icmp .ge 7, 3) := by decide +kernel
theorem d_MO_work_6 : decode prog_14_method_35_code 6 = .ok (.iconst 1, 1) := by decide +kernel
theorem d_MO_work_7 : decode prog_14_method_35_code 7 = .ok (.goto 4, 3) := by decide +kernel
theorem d_MO_work_10 : decode prog_14_method_35_code 10 = .ok (.iconst 0, 1) := by decide +kernel
theorem d_MO_work_11 : decode prog_14_method_35_code 11 = .ok (.istore_n 2, 1) := by decide +kernel
theorem d_MO_work_12 : decode prog_14_method_35_code 12 = .ok (.aload_n 0, 1) := by decide +kernel
theorem d_MO_work_13 : decode prog_14_method_35_code 13 = .ok (.iload_n 1, 1) := by decide +kernel
theorem d_MO_work_14 : decode prog_14_method_35_code 14 = .ok (.invokevirtual 145, 3) := by decide +kernel
theorem d_MO_work_17 : decode prog_14_method_35_code 17 = .ok (.ifCond .eq 23, 3) := by decide +kernel
theorem d_MO_work_20 : decode prog_14_method_35_code 20 = .ok (.aload_n 0, 1) := by decide +kernel
theorem d_MO_work_21 : decode prog_14_method_35_code 21 = .ok (.iconst 1, 1) := by decide +kernel
theorem d_MO_work_22 : decode prog_14_method_35_code 22 = .ok (.invokevirtual 136, 3) := by decide +kernel
theorem d_MO_work_25 : decode prog_14_method_35_code 25 = .ok (.ifCond .eq 14, 3) := by decide +kernel
theorem d_MO_work_28 : decode prog_14_method_35_code 28 = .ok (.aload_n 0, 1) := by decide +kernel
theorem d_MO_work_29 : decode prog_14_method_35_code 29 = .ok (.iconst 1, 1) := by decide +kernel
theorem d_MO_work_30 : decode prog_14_method_35_code 30 = .ok (.sipush 32767, 3) := by decide +kernel
theorem d_MO_work_33 : decode prog_14_method_35_code 33 = .ok (.ldc2_w 148, 3) := by decide +kernel
theorem d_MO_work_36 : decode prog_14_method_35_code 36 = .ok (.invokevirtual 83, 3) := by decide +kernel
theorem d_MO_work_39 : decode prog_14_method_35_code 39 = .ok (.return_, 1) := by decide +kernel
theorem d_MO_work_40 : decode prog_14_method_35_code 40 = .ok (.aload_n 0, 1) := by decide +kernel
theorem d_MO_work_41 : decode prog_14_method_35_code 41 = .ok (.iconst 0, 1) := by decide +kernel
theorem d_MO_work_42 : decode prog_14_method_35_code 42 = .ok (.invokevirtual 150, 3) := by decide +kernel
theorem d_MO_work_45 : decode prog_14_method_35_code 45 = .ok (.ifCond .ne 15, 3) := by decide +kernel
theorem d_MO_work_48 : decode prog_14_method_35_code 48 = .ok (.iload_n 2, 1) := by decide +kernel
theorem d_MO_work_49 : decode prog_14_method_35_code 49 = .ok (.ifCond .eq 20, 3) := by decide +kernel
theorem d_MO_work_52 : decode prog_14_method_35_code 52 = .ok (.aload_n 0, 1) := by decide +kernel
theorem d_MO_work_53 : decode prog_14_method_35_code 53 = .ok (.iconst 1, 1) := by decide +kernel
theorem d_MO_work_54 : decode prog_14_method_35_code 54 = .ok (.invokevirtual 150, 3) := by decide +kernel
theorem d_MO_work_57 : decode prog_14_method_35_code 57 = .ok (.ifCond .eq 12, 3) := by decide +kernel
theorem d_MO_work_60 : decode prog_14_method_35_code 60 = .ok (.aload_n 0, 1) := by decide +kernel
theorem d_MO_work_61 : decode prog_14_method_35_code 61 = .ok (.iconst 2, 1) := by decide +kernel
theorem d_MO_work_62 : decode prog_14_method_35_code 62 = .ok (.invokevirtual 136, 3) := by decide +kernel
theorem d_MO_work_65 : decode prog_14_method_35_code 65 = .ok (.ifCond .ne 4, 3) := by decide +kernel
theorem d_MO_work_68 : decode prog_14_method_35_code 68 = .ok (.return_, 1) := by decide +kernel
theorem d_MO_work_69 : decode prog_14_method_35_code 69 = .ok (.aload_n 0, 1) := by decide +kernel
theorem d_MO_work_70 : decode prog_14_method_35_code 70 = .ok (.getfield 21, 3) := by decide +kernel
theorem d_MO_work_73 : decode prog_14_method_35_code 73 = .ok (.iconst 0, 1) := by decide +kernel
theorem d_MO_work_74 : decode prog_14_method_35_code 74 = .ok (.baload, 1) := by decide +kernel
theorem d_MO_work_75 : decode prog_14_method_35_code 75 = .ok (.aload_n 0, 1) := by decide +kernel
theorem d_MO_work_76 : decode prog_14_method_35_code 76 = .ok (.getfield 21, 3) := by decide +kernel
theorem d_MO_work_79 : decode prog_14_method_35_code 79 = .ok (.iconst 1, 1) := by decide +kernel
theorem d_MO_work_80 : decode prog_14_method_35_code 80 = .ok (.baload, 1) := by decide +kernel
theorem d_MO_work_81 : decode prog_14_method_35_code 81 = .ok (.if_icmp .eq 7, 3) := by decide +kernel
theorem d_MO_work_84 : decode prog_14_method_35_code 84 = .ok (.iconst 1, 1) := by decide +kernel
theorem d_MO_work_85 : decode prog_14_method_35_code 85 = .ok (.goto 4, 3) := by decide +kernel
theorem d_MO_work_88 : decode prog_14_method_35_code 88 = .ok (.iconst 0, 1) := by decide +kernel
theorem d_MO_work_89 : decode prog_14_method_35_code 89 = .ok (.istore_n 3, 1) := by decide +kernel
theorem d_MO_work_90 : decode prog_14_method_35_code 90 = .ok (.iload_n 1, 1) := by decide +kernel
theorem d_MO_work_91 : decode prog_14_method_35_code 91 = .ok (.iconst 4, 1) := by decide +kernel
theorem d_MO_work_92 : decode prog_14_method_35_code 92 = .ok (.if_icmp .eq 8, 3) := by decide +kernel
theorem d_MO_work_95 : decode prog_14_method_35_code 95 = .ok (.iload_n 1, 1) := by decide +kernel
theorem d_MO_work_96 : decode prog_14_method_35_code 96 = .ok (.iconst 5, 1) := by decide +kernel
theorem d_MO_work_97 : decode prog_14_method_35_code 97 = .ok (.if_icmp .ne 7, 3) := by decide +kernel
theorem d_MO_work_100 : decode prog_14_method_35_code 100 = .ok (.iconst 1, 1) := by decide +kernel
theorem d_MO_work_101 : decode prog_14_method_35_code 101 = .ok (.goto 4, 3) := by decide +kernel
theorem d_MO_work_104 : decode prog_14_method_35_code 104 = .ok (.iconst 0, 1) := by decide +kernel
theorem d_MO_work_105 : decode prog_14_method_35_code 105 = .ok (.istore 4, 2) := by decide +kernel
theorem d_MO_work_107 : decode prog_14_method_35_code 107 = .ok (.iload 4, 2) := by decide +kernel
theorem d_MO_work_109 : decode prog_14_method_35_code 109 = .ok (.ifCond .eq 41, 3) := by decide +kernel
theorem d_MO_work_112 : decode prog_14_method_35_code 112 = .ok (.aload_n 0, 1) := by decide +kernel
theorem d_MO_work_113 : decode prog_14_method_35_code 113 = .ok (.iconst 1, 1) := by decide +kernel
theorem d_MO_work_114 : decode prog_14_method_35_code 114 = .ok (.invokevirtual 126, 3) := by decide +kernel
theorem d_MO_work_117 : decode prog_14_method_35_code 117 = .ok (.ifCond .eq 33, 3) := by decide +kernel
theorem d_MO_work_120 : decode prog_14_method_35_code 120 = .ok (.aload_n 0, 1) := by decide +kernel
theorem d_MO_work_121 : decode prog_14_method_35_code 121 = .ok (.iconst 0, 1) := by decide +kernel
theorem d_MO_work_122 : decode prog_14_method_35_code 122 = .ok (.invokevirtual 142, 3) := by decide +kernel
theorem d_MO_work_125 : decode prog_14_method_35_code 125 = .ok (.ifCond .ne 25, 3) := by decide +kernel
theorem d_MO_work_128 : decode prog_14_method_35_code 128 = .ok (.aload_n 0, 1) := by decide +kernel
theorem d_MO_work_129 : decode prog_14_method_35_code 129 = .ok (.iconst 4, 1) := by decide +kernel
theorem d_MO_work_130 : decode prog_14_method_35_code 130 = .ok (.invokevirtual 136, 3) := by decide +kernel
theorem d_MO_work_133 : decode prog_14_method_35_code 133 = .ok (.ifCond .eq 177, 3) := by decide +kernel
theorem d_MO_work_136 : decode prog_14_method_35_code 136 = .ok (.aload_n 0, 1) := by decide +kernel
theorem d_MO_work_137 : decode prog_14_method_35_code 137 = .ok (.iload_n 3, 1) := by decide +kernel
theorem d_MO_work_138 : decode prog_14_method_35_code 138 = .ok (.sipush 32767, 3) := by decide +kernel
theorem d_MO_work_141 : decode prog_14_method_35_code 141 = .ok (.ldc2_w 87, 3) := by decide +kernel
theorem d_MO_work_144 : decode prog_14_method_35_code 144 = .ok (.invokevirtual 83, 3) := by decide +kernel
theorem d_MO_work_147 : decode prog_14_method_35_code 147 = .ok (.goto 163, 3) := by decide +kernel
theorem d_MO_work_150 : decode prog_14_method_35_code 150 = .ok (.aload_n 0, 1) := by decide +kernel
theorem d_MO_work_151 : decode prog_14_method_35_code 151 = .ok (.iconst 0, 1) := by decide +kernel
theorem d_MO_work_152 : decode prog_14_method_35_code 152 = .ok (.invokevirtual 142, 3) := by decide +kernel
theorem d_MO_work_155 : decode prog_14_method_35_code 155 = .ok (.ifCond .ne 15, 3) := by decide +kernel
theorem d_MO_work_158 : decode prog_14_method_35_code 158 = .ok (.iload_n 2, 1) := by decide +kernel
theorem d_MO_work_159 : decode prog_14_method_35_code 159 = .ok (.ifCond .eq 109, 3) := by decide +kernel
theorem d_MO_work_162 : decode prog_14_method_35_code 162 = .ok (.aload_n 0, 1) := by decide +kernel
theorem d_MO_work_163 : decode prog_14_method_35_code 163 = .ok (.iconst 1, 1) := by decide +kernel
theorem d_MO_work_164 : decode prog_14_method_35_code 164 = .ok (.invokevirtual 142, 3) := by decide +kernel
theorem d_MO_work_167 : decode prog_14_method_35_code 167 = .ok (.ifCond .eq 101, 3) := by decide +kernel
theorem d_MO_work_170 : decode prog_14_method_35_code 170 = .ok (.iload_n 1, 1) := by decide +kernel
theorem d_MO_work_171 : decode prog_14_method_35_code 171 = .ok (.bipush 6, 2) := by decide +kernel
theorem d_MO_work_173 : decode prog_14_method_35_code 173 = .ok (.if_icmp .ne 17, 3) := by decide +kernel
theorem d_MO_work_176 : decode prog_14_method_35_code 176 = .ok (.aload_n 0, 1) := by decide +kernel
theorem d_MO_work_177 : decode prog_14_method_35_code 177 = .ok (.iconst 0, 1) := by decide +kernel
theorem d_MO_work_178 : decode prog_14_method_35_code 178 = .ok (.sipush 32767, 3) := by decide +kernel
theorem d_MO_work_181 : decode prog_14_method_35_code 181 = .ok (.ldc2_w 87, 3) := by decide +kernel
theorem d_MO_work_184 : decode prog_14_method_35_code 184 = .ok (.invokevirtual 83, 3) := by decide +kernel
theorem d_MO_work_187 : decode prog_14_method_35_code 187 = .ok (.goto 123, 3) := by decide +kernel
theorem d_MO_work_190 : decode prog_14_method_35_code 190 = .ok (.iload_n 1, 1) := by decide +kernel
theorem d_MO_work_191 : decode prog_14_method_35_code 191 = .ok (.iconst 3, 1) := by decide +kernel
theorem d_MO_work_192 : decode prog_14_method_35_code 192 = .ok (.if_icmp .ge 39, 3) := by decide +kernel
theorem d_MO_work_195 : decode prog_14_method_35_code 195 = .ok (.aload_n 0, 1) := by decide +kernel
theorem d_MO_work_196 : decode prog_14_method_35_code 196 = .ok (.aload_n 0, 1) := by decide +kernel
theorem d_MO_work_197 : decode prog_14_method_35_code 197 = .ok (.iconst 0, 1) := by decide +kernel
theorem d_MO_work_198 : decode prog_14_method_35_code 198 = .ok (.invokevirtual 142, 3) := by decide +kernel
theorem d_MO_work_201 : decode prog_14_method_35_code 201 = .ok (.ifCond .eq 12, 3) := by decide +kernel
theorem d_MO_work_204 : decode prog_14_method_35_code 204 = .ok (.aload_n 0, 1) := by decide +kernel
theorem d_MO_work_205 : decode prog_14_method_35_code 205 = .ok (.getfield 21, 3) := by decide +kernel
theorem d_MO_work_208 : decode prog_14_method_35_code 208 = .ok (.iconst 0, 1) := by decide +kernel
theorem d_MO_work_209 : decode prog_14_method_35_code 209 = .ok (.baload, 1) := by decide +kernel
theorem d_MO_work_210 : decode prog_14_method_35_code 210 = .ok (.goto 9, 3) := by decide +kernel
theorem d_MO_work_213 : decode prog_14_method_35_code 213 = .ok (.aload_n 0, 1) := by decide +kernel
theorem d_MO_work_214 : decode prog_14_method_35_code 214 = .ok (.getfield 21, 3) := by decide +kernel
theorem d_MO_work_217 : decode prog_14_method_35_code 217 = .ok (.iconst 1, 1) := by decide +kernel
theorem d_MO_work_218 : decode prog_14_method_35_code 218 = .ok (.baload, 1) := by decide +kernel
theorem d_MO_work_219 : decode prog_14_method_35_code 219 = .ok (.sipush 32767, 3) := by decide +kernel
theorem d_MO_work_222 : decode prog_14_method_35_code 222 = .ok (.ldc2_w 87, 3) := by decide +kernel
theorem d_MO_work_225 : decode prog_14_method_35_code 225 = .ok (.invokevirtual 83, 3) := by decide +kernel
theorem d_MO_work_228 : decode prog_14_method_35_code 228 = .ok (.goto 82, 3) := by decide +kernel
theorem d_MO_work_231 : decode prog_14_method_35_code 231 = .ok (.iload 4, 2) := by decide +kernel
theorem d_MO_work_233 : decode prog_14_method_35_code 233 = .ok (.ifCond .eq 21, 3) := by decide +kernel
theorem d_MO_work_236 : decode prog_14_method_35_code 236 = .ok (.aload_n 0, 1) := by decide +kernel
theorem d_MO_work_237 : decode prog_14_method_35_code 237 = .ok (.iconst 1, 1) := by decide +kernel
theorem d_MO_work_238 : decode prog_14_method_35_code 238 = .ok (.invokevirtual 142, 3) := by decide +kernel
theorem d_MO_work_241 : decode prog_14_method_35_code 241 = .ok (.ifCond .eq 13, 3) := by decide +kernel
theorem d_MO_work_244 : decode prog_14_method_35_code 244 = .ok (.aload_n 0, 1) := by decide +kernel
theorem d_MO_work_245 : decode prog_14_method_35_code 245 = .ok (.iload_n 3, 1) := by decide +kernel
theorem d_MO_work_246 : decode prog_14_method_35_code 246 = .ok (.iconst 0, 1) := by decide +kernel
theorem d_MO_work_247 : decode prog_14_method_35_code 247 = .ok (.lconst 0, 1) := by decide +kernel
theorem d_MO_work_248 : decode prog_14_method_35_code 248 = .ok (.invokevirtual 83, 3) := by decide +kernel
theorem d_MO_work_251 : decode prog_14_method_35_code 251 = .ok (.goto 59, 3) := by decide +kernel
theorem d_MO_work_254 : decode prog_14_method_35_code 254 = .ok (.aload_n 0, 1) := by decide +kernel
theorem d_MO_work_255 : decode prog_14_method_35_code 255 = .ok (.iload_n 3, 1) := by decide +kernel
theorem d_MO_work_256 : decode prog_14_method_35_code 256 = .ok (.sipush 32767, 3) := by decide +kernel
theorem d_MO_work_259 : decode prog_14_method_35_code 259 = .ok (.ldc2_w 87, 3) := by decide +kernel
theorem d_MO_work_262 : decode prog_14_method_35_code 262 = .ok (.invokevirtual 83, 3) := by decide +kernel
theorem d_MO_work_265 : decode prog_14_method_35_code 265 = .ok (.goto 45, 3) := by decide +kernel
theorem d_MO_work_268 : decode prog_14_method_35_code 268 = .ok (.iload_n 1, 1) := by decide +kernel
theorem d_MO_work_269 : decode prog_14_method_35_code 269 = .ok (.iconst 3, 1) := by decide +kernel
theorem d_MO_work_270 : decode prog_14_method_35_code 270 = .ok (.if_icmp .ge 10, 3) := by decide +kernel
theorem d_MO_work_273 : decode prog_14_method_35_code 273 = .ok (.aload_n 0, 1) := by decide +kernel
theorem d_MO_work_274 : decode prog_14_method_35_code 274 = .ok (.invokevirtual 153, 3) := by decide +kernel
theorem d_MO_work_277 : decode prog_14_method_35_code 277 = .ok (.goto 33, 3) := by decide +kernel
theorem d_MO_work_280 : decode prog_14_method_35_code 280 = .ok (.iload_n 1, 1) := by decide +kernel
theorem d_MO_work_281 : decode prog_14_method_35_code 281 = .ok (.iconst 3, 1) := by decide +kernel
theorem d_MO_work_282 : decode prog_14_method_35_code 282 = .ok (.if_icmp .ne 11, 3) := by decide +kernel
theorem d_MO_work_285 : decode prog_14_method_35_code 285 = .ok (.aload_n 0, 1) := by decide +kernel
theorem d_MO_work_286 : decode prog_14_method_35_code 286 = .ok (.iload_n 3, 1) := by decide +kernel
theorem d_MO_work_287 : decode prog_14_method_35_code 287 = .ok (.invokevirtual 156, 3) := by decide +kernel
theorem d_MO_work_290 : decode prog_14_method_35_code 290 = .ok (.goto 20, 3) := by decide +kernel
theorem d_MO_work_293 : decode prog_14_method_35_code 293 = .ok (.iload 4, 2) := by decide +kernel
theorem d_MO_work_295 : decode prog_14_method_35_code 295 = .ok (.ifCond .eq 11, 3) := by decide +kernel
theorem d_MO_work_298 : decode prog_14_method_35_code 298 = .ok (.aload_n 0, 1) := by decide +kernel
theorem d_MO_work_299 : decode prog_14_method_35_code 299 = .ok (.iload_n 3, 1) := by decide +kernel
theorem d_MO_work_300 : decode prog_14_method_35_code 300 = .ok (.invokevirtual 159, 3) := by decide +kernel
theorem d_MO_work_303 : decode prog_14_method_35_code 303 = .ok (.goto 7, 3) := by decide +kernel
theorem d_MO_work_306 : decode prog_14_method_35_code 306 = .ok (.aload_n 0, 1) := by decide +kernel
theorem d_MO_work_307 : decode prog_14_method_35_code 307 = .ok (.invokevirtual 162, 3) := by decide +kernel
theorem d_MO_work_310 : decode prog_14_method_35_code 310 = .ok (.return_, 1) := by decide +kernel
theorem d_MO_operate_0 : decode prog_14_method_36_code 0 = .ok (.aload_n 0, 1) := by decide +kernel
theorem d_MO_operate_1 : decode prog_14_method_36_code 1 = .ok (.iload_n 2, 1) := by decide +kernel
theorem d_MO_operate_2 : decode prog_14_method_36_code 2 = .ok (.invokestatic 39, 3) := by decide +kernel
theorem d_MO_operate_5 : decode prog_14_method_36_code 5 = .ok (.ifCond .ne 18, 3) := by decide +kernel
theorem d_MO_operate_8 : decode prog_14_method_36_code 8 = .ok (.iload_n 3, 1) := by decide +kernel
theorem d_MO_operate_9 : decode prog_14_method_36_code 9 = .ok (.invokestatic 39, 3) := by decide +kernel
theorem d_MO_operate_12 : decode prog_14_method_36_code 12 = .ok (.ifCond .ne 11, 3) := by decide +kernel
theorem d_MO_operate_15 : decode prog_14_method_36_code 15 = .ok (.iload 4, 2) := by decide +kernel
theorem d_MO_operate_17 : decode prog_14_method_36_code 17 = .ok (.invokestatic 39, 3) := by decide +kernel
theorem d_MO_operate_20 : decode prog_14_method_36_code 20 = .ok (.ifCond .eq 7, 3) := by decide +kernel
theorem d_MO_operate_23 : decode prog_14_method_36_code 23 = .ok (.iconst 1, 1) := by decide +kernel
theorem d_MO_operate_24 : decode prog_14_method_36_code 24 = .ok (.goto 18, 3) := by decide +kernel
theorem d_MO_operate_27 : decode prog_14_method_36_code 27 = .ok (.iload_n 1, 1) := by decide +kernel
theorem d_MO_operate_28 : decode prog_14_method_36_code 28 = .ok (.ifCond .lt 9, 3) := by decide +kernel
theorem d_MO_operate_31 : decode prog_14_method_36_code 31 = .ok (.iload_n 1, 1) := by decide +kernel
theorem d_MO_operate_32 : decode prog_14_method_36_code 32 = .ok (.bipush 6, 2) := by decide +kernel
theorem d_MO_operate_34 : decode prog_14_method_36_code 34 = .ok (.if_icmp .le 7, 3) := by decide +kernel
theorem d_MO_operate_37 : decode prog_14_method_36_code 37 = .ok (.iconst 2, 1) := by decide +kernel
theorem d_MO_operate_38 : decode prog_14_method_36_code 38 = .ok (.goto 4, 3) := by decide +kernel
theorem d_MO_operate_41 : decode prog_14_method_36_code 41 = .ok (.iconst 0, 1) := by decide +kernel
theorem d_MO_operate_42 : decode prog_14_method_36_code 42 = .ok (.putfield 35, 3) := by decide +kernel
theorem d_MO_operate_45 : decode prog_14_method_36_code 45 = .ok (.aload_n 0, 1) := by decide +kernel
theorem d_MO_operate_46 : decode prog_14_method_36_code 46 = .ok (.getfield 35, 3) := by decide +kernel
theorem d_MO_operate_49 : decode prog_14_method_36_code 49 = .ok (.ifCond .le 5, 3) := by decide +kernel
theorem d_MO_operate_52 : decode prog_14_method_36_code 52 = .ok (.iconst 0, 1) := by decide +kernel
theorem d_MO_operate_53 : decode prog_14_method_36_code 53 = .ok (.ireturn, 1) := by decide +kernel
theorem d_MO_operate_54 : decode prog_14_method_36_code 54 = .ok (.iload_n 1, 1) := by decide +kernel
theorem d_MO_operate_55 : decode prog_14_method_36_code 55 = .ok (.iconst 2, 1) := by decide +kernel
theorem d_MO_operate_56 : decode prog_14_method_36_code 56 = .ok (.if_icmp .eq 8, 3) := by decide +kernel
theorem d_MO_operate_59 : decode prog_14_method_36_code 59 = .ok (.iload_n 1, 1) := by decide +kernel
theorem d_MO_operate_60 : decode prog_14_method_36_code 60 = .ok (.iconst 5, 1) := by decide +kernel
theorem d_MO_operate_61 : decode prog_14_method_36_code 61 = .ok (.if_icmp .ne 7, 3) := by decide +kernel
theorem d_MO_operate_64 : decode prog_14_method_36_code 64 = .ok (.iconst 1, 1) := by decide +kernel
theorem d_MO_operate_65 : decode prog_14_method_36_code 65 = .ok (.goto 4, 3) := by decide +kernel
theorem d_MO_operate_68 : decode prog_14_method_36_code 68 = .ok (.iconst 0, 1) := by decide +kernel
theorem d_MO_operate_69 : decode prog_14_method_36_code 69 = .ok (.istore 5, 2) := by decide +kernel
theorem d_MO_operate_71 : decode prog_14_method_36_code 71 = .ok (.aload_n 0, 1) := by decide +kernel
theorem d_MO_operate_72 : decode prog_14_method_36_code 72 = .ok (.iconst 0, 1) := by decide +kernel
theorem d_MO_operate_73 : decode prog_14_method_36_code 73 = .ok (.iload 5, 2) := by decide +kernel
theorem d_MO_operate_75 : decode prog_14_method_36_code 75 = .ok (.ifCond .eq 7, 3) := by decide +kernel
theorem d_MO_operate_78 : decode prog_14_method_36_code 78 = .ok (.iload_n 3, 1) := by decide +kernel
theorem d_MO_operate_79 : decode prog_14_method_36_code 79 = .ok (.goto 4, 3) := by decide +kernel
theorem d_MO_operate_82 : decode prog_14_method_36_code 82 = .ok (.iload_n 2, 1) := by decide +kernel
theorem d_MO_operate_83 : decode prog_14_method_36_code 83 = .ok (.invokevirtual 165, 3) := by decide +kernel
theorem d_MO_operate_86 : decode prog_14_method_36_code 86 = .ok (.aload_n 0, 1) := by decide +kernel
theorem d_MO_operate_87 : decode prog_14_method_36_code 87 = .ok (.iconst 1, 1) := by decide +kernel
theorem d_MO_operate_88 : decode prog_14_method_36_code 88 = .ok (.iload 5, 2) := by decide +kernel
theorem d_MO_operate_90 : decode prog_14_method_36_code 90 = .ok (.ifCond .eq 7, 3) := by decide +kernel
theorem d_MO_operate_93 : decode prog_14_method_36_code 93 = .ok (.iload_n 2, 1) := by decide +kernel
theorem d_MO_operate_94 : decode prog_14_method_36_code 94 = .ok (.goto 4, 3) := by decide +kernel
theorem d_MO_operate_97 : decode prog_14_method_36_code 97 = .ok (.iload_n 3, 1) := by decide +kernel
theorem d_MO_operate_98 : decode prog_14_method_36_code 98 = .ok (.invokevirtual 165, 3) := by decide +kernel
theorem d_MO_operate_101 : decode prog_14_method_36_code 101 = .ok (.aload_n 0, 1) := by decide +kernel
theorem d_MO_operate_102 : decode prog_14_method_36_code 102 = .ok (.iconst 0, 1) := by decide +kernel
theorem d_MO_operate_103 : decode prog_14_method_36_code 103 = .ok (.putfield 48, 3) := by decide +kernel
theorem d_MO_operate_106 : decode prog_14_method_36_code 106 = .ok (.aload_n 0, 1) := by decide +kernel
theorem d_MO_operate_107 : decode prog_14_method_36_code 107 = .ok (.iconst 0, 1) := by decide +kernel
theorem d_MO_operate_108 : decode prog_14_method_36_code 108 = .ok (.putfield 51, 3) := by decide +kernel
theorem d_MO_operate_111 : decode prog_14_method_36_code 111 = .ok (.iload_n 1, 1) := by decide +kernel
theorem d_MO_operate_112 : decode prog_14_method_36_code 112 = .ok (.bipush 6, 2) := by decide +kernel
theorem d_MO_operate_114 : decode prog_14_method_36_code 114 = .ok (.if_icmp .ge 7, 3) := by decide +kernel
theorem d_MO_operate_117 : decode prog_14_method_36_code 117 = .ok (.iconst 1, 1) := by decide +kernel
theorem d_MO_operate_118 : decode prog_14_method_36_code 118 = .ok (.goto 4, 3) := by decide +kernel
theorem d_MO_operate_121 : decode prog_14_method_36_code 121 = .ok (.iconst 0, 1) := by decide +kernel
theorem d_MO_operate_122 : decode prog_14_method_36_code 122 = .ok (.istore 6, 2) := by decide +kernel
theorem d_MO_operate_124 : decode prog_14_method_36_code 124 = .ok (.aload_n 0, 1) := by decide +kernel
theorem d_MO_operate_125 : decode prog_14_method_36_code 125 = .ok (.iconst 0, 1) := by decide +kernel
theorem d_MO_operate_126 : decode prog_14_method_36_code 126 = .ok (.invokevirtual 133, 3) := by decide +kernel
theorem d_MO_operate_129 : decode prog_14_method_36_code 129 = .ok (.ifCond .ne 16, 3) := by decide +kernel
theorem d_MO_operate_132 : decode prog_14_method_36_code 132 = .ok (.iload 6, 2) := by decide +kernel
theorem d_MO_operate_134 : decode prog_14_method_36_code 134 = .ok (.ifCond .eq 42, 3) := by decide +kernel
theorem d_MO_operate_137 : decode prog_14_method_36_code 137 = .ok (.aload_n 0, 1) := by decide +kernel
theorem d_MO_operate_138 : decode prog_14_method_36_code 138 = .ok (.iconst 1, 1) := by decide +kernel
theorem d_MO_operate_139 : decode prog_14_method_36_code 139 = .ok (.invokevirtual 133, 3) := by decide +kernel
theorem d_MO_operate_142 : decode prog_14_method_36_code 142 = .ok (.ifCond .eq 34, 3) := by decide +kernel
theorem d_MO_operate_145 : decode prog_14_method_36_code 145 = .ok (.aload_n 0, 1) := by decide +kernel
theorem d_MO_operate_146 : decode prog_14_method_36_code 146 = .ok (.iconst 0, 1) := by decide +kernel
theorem d_MO_operate_147 : decode prog_14_method_36_code 147 = .ok (.iload_n 2, 1) := by decide +kernel
theorem d_MO_operate_148 : decode prog_14_method_36_code 148 = .ok (.invokevirtual 165, 3) := by decide +kernel
theorem d_MO_operate_151 : decode prog_14_method_36_code 151 = .ok (.aload_n 0, 1) := by decide +kernel
theorem d_MO_operate_152 : decode prog_14_method_36_code 152 = .ok (.iconst 1, 1) := by decide +kernel
theorem d_MO_operate_153 : decode prog_14_method_36_code 153 = .ok (.iload_n 3, 1) := by decide +kernel
theorem d_MO_operate_154 : decode prog_14_method_36_code 154 = .ok (.invokevirtual 165, 3) := by decide +kernel
theorem d_MO_operate_157 : decode prog_14_method_36_code 157 = .ok (.aload_n 0, 1) := by decide +kernel
theorem d_MO_operate_158 : decode prog_14_method_36_code 158 = .ok (.iload 6, 2) := by decide +kernel
theorem d_MO_operate_160 : decode prog_14_method_36_code 160 = .ok (.ifCond .eq 7, 3) := by decide +kernel
theorem d_MO_operate_163 : decode prog_14_method_36_code 163 = .ok (.iconst 2, 1) := by decide +kernel
theorem d_MO_operate_164 : decode prog_14_method_36_code 164 = .ok (.goto 4, 3) := by decide +kernel
theorem d_MO_operate_167 : decode prog_14_method_36_code 167 = .ok (.iconst 1, 1) := by decide +kernel
theorem d_MO_operate_168 : decode prog_14_method_36_code 168 = .ok (.iload_n 2, 1) := by decide +kernel
theorem d_MO_operate_169 : decode prog_14_method_36_code 169 = .ok (.iload_n 3, 1) := by decide +kernel
theorem d_MO_operate_170 : decode prog_14_method_36_code 170 = .ok (.invokevirtual 168, 3) := by decide +kernel
theorem d_MO_operate_173 : decode prog_14_method_36_code 173 = .ok (.goto 47, 3) := by decide +kernel
theorem d_MO_operate_176 : decode prog_14_method_36_code 176 = .ok (.aload_n 0, 1) := by decide +kernel
theorem d_MO_operate_177 : decode prog_14_method_36_code 177 = .ok (.getfield 21, 3) := by decide +kernel
theorem d_MO_operate_180 : decode prog_14_method_36_code 180 = .ok (.iconst 1, 1) := by decide +kernel
theorem d_MO_operate_181 : decode prog_14_method_36_code 181 = .ok (.iload_n 1, 1) := by decide +kernel
theorem d_MO_operate_182 : decode prog_14_method_36_code 182 = .ok (.iconst 1, 1) := by decide +kernel
theorem d_MO_operate_183 : decode prog_14_method_36_code 183 = .ok (.if_icmp .eq 8, 3) := by decide +kernel
theorem d_MO_operate_186 : decode prog_14_method_36_code 186 = .ok (.iload_n 1, 1) := by decide +kernel
theorem d_MO_operate_187 : decode prog_14_method_36_code 187 = .ok (.iconst 2, 1) := by decide +kernel
theorem d_MO_operate_188 : decode prog_14_method_36_code 188 = .ok (.if_icmp .ne 20, 3) := by decide +kernel
theorem d_MO_operate_191 : decode prog_14_method_36_code 191 = .ok (.aload_n 0, 1) := by decide +kernel
theorem d_MO_operate_192 : decode prog_14_method_36_code 192 = .ok (.getfield 21, 3) := by decide +kernel
theorem d_MO_operate_195 : decode prog_14_method_36_code 195 = .ok (.iconst 1, 1) := by decide +kernel
theorem d_MO_operate_196 : decode prog_14_method_36_code 196 = .ok (.baload, 1) := by decide +kernel
theorem d_MO_operate_197 : decode prog_14_method_36_code 197 = .ok (.ifCond .ne 7, 3) := by decide +kernel
theorem d_MO_operate_200 : decode prog_14_method_36_code 200 = .ok (.iconst 1, 1) := by decide +kernel
theorem d_MO_operate_201 : decode prog_14_method_36_code 201 = .ok (.goto 13, 3) := by decide +kernel
theorem d_MO_operate_204 : decode prog_14_method_36_code 204 = .ok (.iconst 0, 1) := by decide +kernel
theorem d_MO_operate_205 : decode prog_14_method_36_code 205 = .ok (.goto 9, 3) := by decide +kernel
theorem d_MO_operate_208 : decode prog_14_method_36_code 208 = .ok (.aload_n 0, 1) := by decide +kernel
theorem d_MO_operate_209 : decode prog_14_method_36_code 209 = .ok (.getfield 21, 3) := by decide +kernel
theorem d_MO_operate_212 : decode prog_14_method_36_code 212 = .ok (.iconst 1, 1) := by decide +kernel
theorem d_MO_operate_213 : decode prog_14_method_36_code 213 = .ok (.baload, 1) := by decide +kernel
theorem d_MO_operate_214 : decode prog_14_method_36_code 214 = .ok (.bastore, 1) := by decide +kernel
theorem d_MO_operate_215 : decode prog_14_method_36_code 215 = .ok (.aload_n 0, 1) := by decide +kernel
theorem d_MO_operate_216 : decode prog_14_method_36_code 216 = .ok (.iload_n 1, 1) := by decide +kernel
theorem d_MO_operate_217 : decode prog_14_method_36_code 217 = .ok (.invokevirtual 172, 3) := by decide +kernel
theorem d_MO_operate_220 : decode prog_14_method_36_code 220 = .ok (.aload_n 0, 1) := by decide +kernel
theorem d_MO_operate_221 : decode prog_14_method_36_code 221 = .ok (.aload_n 0, 1) := by decide +kernel
theorem d_MO_operate_222 : decode prog_14_method_36_code 222 = .ok (.getfield 45, 3) := by decide +kernel
theorem d_MO_operate_225 : decode prog_14_method_36_code 225 = .ok (.aload_n 0, 1) := by decide +kernel
theorem d_MO_operate_226 : decode prog_14_method_36_code 226 = .ok (.getfield 48, 3) := by decide +kernel
theorem d_MO_operate_229 : decode prog_14_method_36_code 229 = .ok (.ior, 1) := by decide +kernel
theorem d_MO_operate_230 : decode prog_14_method_36_code 230 = .ok (.putfield 45, 3) := by decide +kernel
theorem d_MO_operate_233 : decode prog_14_method_36_code 233 = .ok (.aload_n 0, 1) := by decide +kernel
theorem d_MO_operate_234 : decode prog_14_method_36_code 234 = .ok (.getfield 51, 3) := by decide +kernel
theorem d_MO_operate_237 : decode prog_14_method_36_code 237 = .ok (.ifCond .ne 25, 3) := by decide +kernel
theorem d_MO_operate_240 : decode prog_14_method_36_code 240 = .ok (.aload_n 0, 1) := by decide +kernel
theorem d_MO_operate_241 : decode prog_14_method_36_code 241 = .ok (.getfield 13, 3) := by decide +kernel
theorem d_MO_operate_244 : decode prog_14_method_36_code 244 = .ok (.iload 4, 2) := by decide +kernel
theorem d_MO_operate_246 : decode prog_14_method_36_code 246 = .ok (.aload_n 0, 1) := by decide +kernel
theorem d_MO_operate_247 : decode prog_14_method_36_code 247 = .ok (.getfield 56, 3) := by decide +kernel
theorem d_MO_operate_250 : decode prog_14_method_36_code 250 = .ok (.iastore, 1) := by decide +kernel
theorem d_MO_operate_251 : decode prog_14_method_36_code 251 = .ok (.aload_n 0, 1) := by decide +kernel
theorem d_MO_operate_252 : decode prog_14_method_36_code 252 = .ok (.getfield 17, 3) := by decide +kernel
theorem d_MO_operate_255 : decode prog_14_method_36_code 255 = .ok (.iload 4, 2) := by decide +kernel
theorem d_MO_operate_257 : decode prog_14_method_36_code 257 = .ok (.aload_n 0, 1) := by decide +kernel
theorem d_MO_operate_258 : decode prog_14_method_36_code 258 = .ok (.getfield 59, 3) := by decide +kernel
theorem d_MO_operate_261 : decode prog_14_method_36_code 261 = .ok (.lastore, 1) := by decide +kernel
theorem d_MO_operate_262 : decode prog_14_method_36_code 262 = .ok (.aload_n 0, 1) := by decide +kernel
theorem d_MO_operate_263 : decode prog_14_method_36_code 263 = .ok (.getfield 48, 3) := by decide +kernel
theorem d_MO_operate_266 : decode prog_14_method_36_code 266 = .ok (.ireturn, 1) := by decide +kernel
theorem d_MO_part_0 : decode prog_14_method_6_code 0 = .ok (.aload_n 0, 1) := by decide +kernel
theorem d_MO_part_1 : decode prog_14_method_6_code 1 = .ok (.iload_n 1, 1) := by decide +kernel
theorem d_MO_part_2 : decode prog_14_method_6_code 2 = .ok (.invokestatic 39, 3) := by decide +kernel
theorem d_MO_part_5 : decode prog_14_method_6_code 5 = .ok (.ifCond .eq 7, 3) := by decide +kernel
theorem d_MO_part_8 : decode prog_14_method_6_code 8 = .ok (.iconst 1, 1) := by decide +kernel
theorem d_MO_part_9 : decode prog_14_method_6_code 9 = .ok (.goto 17, 3) := by decide +kernel
theorem d_MO_part_12 : decode prog_14_method_6_code 12 = .ok (.iload_n 2, 1) := by decide +kernel
theorem d_MO_part_13 : decode prog_14_method_6_code 13 = .ok (.ifCond .lt 8, 3) := by decide +kernel
theorem d_MO_part_16 : decode prog_14_method_6_code 16 = .ok (.iload_n 2, 1) := by decide +kernel
theorem d_MO_part_17 : decode prog_14_method_6_code 17 = .ok (.iconst 2, 1) := by decide +kernel
theorem d_MO_part_18 : decode prog_14_method_6_code 18 = .ok (.if_icmp .le 7, 3) := by decide +kernel
theorem d_MO_part_21 : decode prog_14_method_6_code 21 = .ok (.iconst 2, 1) := by decide +kernel
theorem d_MO_part_22 : decode prog_14_method_6_code 22 = .ok (.goto 4, 3) := by decide +kernel
theorem d_MO_part_25 : decode prog_14_method_6_code 25 = .ok (.iconst 0, 1) := by decide +kernel
theorem d_MO_part_26 : decode prog_14_method_6_code 26 = .ok (.putfield 35, 3) := by decide +kernel
theorem d_MO_part_29 : decode prog_14_method_6_code 29 = .ok (.aload_n 0, 1) := by decide +kernel
theorem d_MO_part_30 : decode prog_14_method_6_code 30 = .ok (.getfield 35, 3) := by decide +kernel
theorem d_MO_part_33 : decode prog_14_method_6_code 33 = .ok (.ifCond .le 5, 3) := by decide +kernel
theorem d_MO_part_36 : decode prog_14_method_6_code 36 = .ok (.iconst 0, 1) := by decide +kernel
theorem d_MO_part_37 : decode prog_14_method_6_code 37 = .ok (.ireturn, 1) := by decide +kernel
theorem d_MO_part_38 : decode prog_14_method_6_code 38 = .ok (.iload_n 2, 1) := by decide +kernel
theorem d_MO_part_39 : decode prog_14_method_6_code 39 = .ok (.ifCond .ne 12, 3) := by decide +kernel
theorem d_MO_part_42 : decode prog_14_method_6_code 42 = .ok (.aload_n 0, 1) := by decide +kernel
theorem d_MO_part_43 : decode prog_14_method_6_code 43 = .ok (.getfield 13, 3) := by decide +kernel
theorem d_MO_part_46 : decode prog_14_method_6_code 46 = .ok (.iload_n 1, 1) := by decide +kernel
theorem d_MO_part_47 : decode prog_14_method_6_code 47 = .ok (.iaload, 1) := by decide +kernel
theorem d_MO_part_48 : decode prog_14_method_6_code 48 = .ok (.goto 28, 3) := by decide +kernel
theorem d_MO_part_51 : decode prog_14_method_6_code 51 = .ok (.iload_n 2, 1) := by decide +kernel
theorem d_MO_part_52 : decode prog_14_method_6_code 52 = .ok (.iconst 1, 1) := by decide +kernel
theorem d_MO_part_53 : decode prog_14_method_6_code 53 = .ok (.if_icmp .ne 16, 3) := by decide +kernel
theorem d_MO_part_56 : decode prog_14_method_6_code 56 = .ok (.aload_n 0, 1) := by decide +kernel
theorem d_MO_part_57 : decode prog_14_method_6_code 57 = .ok (.getfield 17, 3) := by decide +kernel
theorem d_MO_part_60 : decode prog_14_method_6_code 60 = .ok (.iload_n 1, 1) := by decide +kernel
theorem d_MO_part_61 : decode prog_14_method_6_code 61 = .ok (.laload, 1) := by decide +kernel
theorem d_MO_part_62 : decode prog_14_method_6_code 62 = .ok (.bipush 32, 2) := by decide +kernel
theorem d_MO_part_64 : decode prog_14_method_6_code 64 = .ok (.lshr, 1) := by decide +kernel
theorem d_MO_part_65 : decode prog_14_method_6_code 65 = .ok (.l2i, 1) := by decide +kernel
theorem d_MO_part_66 : decode prog_14_method_6_code 66 = .ok (.goto 10, 3) := by decide +kernel
theorem d_MO_part_69 : decode prog_14_method_6_code 69 = .ok (.aload_n 0, 1) := by decide +kernel
theorem d_MO_part_70 : decode prog_14_method_6_code 70 = .ok (.getfield 17, 3) := by decide +kernel
theorem d_MO_part_73 : decode prog_14_method_6_code 73 = .ok (.iload_n 1, 1) := by decide +kernel
theorem d_MO_part_74 : decode prog_14_method_6_code 74 = .ok (.laload, 1) := by decide +kernel
theorem d_MO_part_75 : decode prog_14_method_6_code 75 = .ok (.l2i, 1) := by decide +kernel
theorem d_MO_part_76 : decode prog_14_method_6_code 76 = .ok (.ireturn, 1) := by decide +kernel
