theorem d_Real_set_0 : decode prog_7_method_8_code 0 = .ok (.aload_n 0, 1) := by decide +kernel
theorem d_Real_set_1 : decode prog_7_method_8_code 1 = .ok (.iload_n 1, 1) := by decide +kernel
theorem d_Real_set_2 : decode prog_7_method_8_code 2 = .ok (.putfield 25, 3) := by decide +kernel
theorem d_Real_set_5 : decode prog_7_method_8_code 5 = .ok (.aload_n 0, 1) := by decide +kernel
theorem d_Real_set_6 : decode prog_7_method_8_code 6 = .ok (.iload_n 2, 1) := by decide +kernel
theorem d_Real_set_7 : decode prog_7_method_8_code 7 = .ok (.putfield 7, 3) := by decide +kernel
theorem d_Real_set_10 : decode prog_7_method_8_code 10 = .ok (.aload_n 0, 1) := by decide +kernel
theorem d_Real_set_11 : decode prog_7_method_8_code 11 = .ok (.lload_n 3, 1) := by decide +kernel
theorem d_Real_set_12 : decode prog_7_method_8_code 12 = .ok (.putfield 13, 3) := by decide +kernel
theorem d_Real_set_15 : decode prog_7_method_8_code 15 = .ok (.return_, 1) := by decide +kernel
theorem d_Real_isNothing_0 : decode prog_7_method_4_code 0 = .ok (.aload_n 0, 1) := by decide +kernel
theorem d_Real_isNothing_1 : decode prog_7_method_4_code 1 = .ok (.getfield 7, 3) := by decide +kernel
theorem d_Real_isNothing_4 : decode prog_7_method_4_code 4 = .ok (.sipush 32767, 3) := by decide +kernel
theorem d_Real_isNothing_7 : decode prog_7_method_4_code 7 = .ok (.if_icmp .eq 16, 3) := by decide +kernel
theorem d_Real_isNothing_10 : decode prog_7_method_4_code 10 = .ok (.aload_n 0, 1) := by decide +kernel
theorem d_Real_isNothing_11 : decode prog_7_method_4_code 11 = .ok (.getfield 13, 3) := by decide +kernel
theorem d_Real_isNothing_14 : decode prog_7_method_4_code 14 = .ok (.lconst 0, 1) := by decide +kernel
theorem d_Real_isNothing_15 : decode prog_7_method_4_code 15 = .ok (.lcmp, 1) := by decide +kernel
theorem d_Real_isNothing_16 : decode prog_7_method_4_code 16 = .ok (.ifCond .ne 7, 3) := by decide +kernel
theorem d_Real_isNothing_19 : decode prog_7_method_4_code 19 = .ok (.iconst 1, 1) := by decide +kernel
theorem d_Real_isNothing_20 : decode prog_7_method_4_code 20 = .ok (.goto 4, 3) := by decide +kernel
theorem d_Real_isNothing_23 : decode prog_7_method_4_code 23 = .ok (.iconst 0, 1) := by decide +kernel
theorem d_Real_isNothing_24 : decode prog_7_method_4_code 24 = .ok (.ireturn, 1) := by decide +kernel
theorem d_Real_kind_0 : decode prog_7_method_2_code 0 = .ok (.aload_n 0, 1) := by decide +kernel
theorem d_Real_kind_1 : decode prog_7_method_2_code 1 = .ok (.getfield 7, 3) := by decide +kernel
theorem d_Real_kind_4 : decode prog_7_method_2_code 4 = .ok (.sipush 32767, 3) := by decide +kernel
theorem d_Real_kind_7 : decode prog_7_method_2_code 7 = .ok (.if_icmp .ne 20, 3) := by decide +kernel
theorem d_Real_kind_10 : decode prog_7_method_2_code 10 = .ok (.aload_n 0, 1) := by decide +kernel
theorem d_Real_kind_11 : decode prog_7_method_2_code 11 = .ok (.getfield 13, 3) := by decide +kernel
theorem d_Real_kind_14 : decode prog_7_method_2_code 14 = .ok (.iconst 1, 1) := by decide +kernel
theorem d_Real_kind_15 : decode prog_7_method_2_code 15 = .ok (.lshl, 1) := by decide +kernel
theorem d_Real_kind_16 : decode prog_7_method_2_code 16 = .ok (.lconst 0, 1) := by decide +kernel
theorem d_Real_kind_17 : decode prog_7_method_2_code 17 = .ok (.lcmp, 1) := by decide +kernel
theorem d_Real_kind_18 : decode prog_7_method_2_code 18 = .ok (.ifCond .ne 7, 3) := by decide +kernel
theorem d_Real_kind_21 : decode prog_7_method_2_code 21 = .ok (.iconst 4, 1) := by decide +kernel
theorem d_Real_kind_22 : decode prog_7_method_2_code 22 = .ok (.goto 4, 3) := by decide +kernel
theorem d_Real_kind_25 : decode prog_7_method_2_code 25 = .ok (.iconst 5, 1) := by decide +kernel
theorem d_Real_kind_26 : decode prog_7_method_2_code 26 = .ok (.ireturn, 1) := by decide +kernel
theorem d_Real_kind_27 : decode prog_7_method_2_code 27 = .ok (.aload_n 0, 1) := by decide +kernel
theorem d_Real_kind_28 : decode prog_7_method_2_code 28 = .ok (.getfield 7, 3) := by decide +kernel
theorem d_Real_kind_31 : decode prog_7_method_2_code 31 = .ok (.ifCond .ne 18, 3) := by decide +kernel
theorem d_Real_kind_34 : decode prog_7_method_2_code 34 = .ok (.aload_n 0, 1) := by decide +kernel
theorem d_Real_kind_35 : decode prog_7_method_2_code 35 = .ok (.getfield 13, 3) := by decide +kernel
theorem d_Real_kind_38 : decode prog_7_method_2_code 38 = .ok (.lconst 0, 1) := by decide +kernel
theorem d_Real_kind_39 : decode prog_7_method_2_code 39 = .ok (.lcmp, 1) := by decide +kernel
theorem d_Real_kind_40 : decode prog_7_method_2_code 40 = .ok (.ifCond .ne 7, 3) := by decide +kernel
theorem d_Real_kind_43 : decode prog_7_method_2_code 43 = .ok (.iconst 0, 1) := by decide +kernel
theorem d_Real_kind_44 : decode prog_7_method_2_code 44 = .ok (.goto 4, 3) := by decide +kernel
theorem d_Real_kind_47 : decode prog_7_method_2_code 47 = .ok (.iconst 1, 1) := by decide +kernel
theorem d_Real_kind_48 : decode prog_7_method_2_code 48 = .ok (.ireturn, 1) := by decide +kernel
theorem d_Real_kind_49 : decode prog_7_method_2_code 49 = .ok (.aload_n 0, 1) := by decide +kernel
theorem d_Real_kind_50 : decode prog_7_method_2_code 50 = .ok (.getfield 13, 3) := by decide +kernel
theorem d_Real_kind_53 : decode prog_7_method_2_code 53 = .ok (.lconst 0, 1) := by decide +kernel
theorem d_Real_kind_54 : decode prog_7_method_2_code 54 = .ok (.lcmp, 1) := by decide +kernel
theorem d_Real_kind_55 : decode prog_7_method_2_code 55 = .ok (.ifCond .ge 7, 3) := by decide +kernel
theorem d_Real_kind_58 : decode prog_7_method_2_code 58 = .ok (.iconst 3, 1) := by decide +kernel
theorem d_Real_kind_59 : decode prog_7_method_2_code 59 = .ok (.goto 4, 3) := by decide +kernel
theorem d_Real_kind_62 : decode prog_7_method_2_code 62 = .ok (.iconst 2, 1) := by decide +kernel
theorem d_Real_kind_63 : decode prog_7_method_2_code 63 = .ok (.ireturn, 1) := by decide +kernel
theorem d_Real_tag_0 : decode prog_7_method_6_code 0 = .ok (.aload_n 0, 1) := by decide +kernel
theorem d_Real_tag_1 : decode prog_7_method_6_code 1 = .ok (.invokevirtual 17, 3) := by decide +kernel
theorem d_Real_tag_4 : decode prog_7_method_6_code 4 = .ok (.ifCond .eq 5, 3) := by decide +kernel
theorem d_Real_tag_7 : decode prog_7_method_6_code 7 = .ok (.iconst 1, 1) := by decide +kernel
theorem d_Real_tag_8 : decode prog_7_method_6_code 8 = .ok (.ireturn, 1) := by decide +kernel
theorem d_Real_tag_9 : decode prog_7_method_6_code 9 = .ok (.aload_n 0, 1) := by decide +kernel
theorem d_Real_tag_10 : decode prog_7_method_6_code 10 = .ok (.invokevirtual 21, 3) := by decide +kernel
theorem d_Real_tag_13 : decode prog_7_method_6_code 13 = .ok (.iconst 3, 1) := by decide +kernel
theorem d_Real_tag_14 : decode prog_7_method_6_code 14 = .ok (.if_icmp .ne 7, 3) := by decide +kernel
theorem d_Real_tag_17 : decode prog_7_method_6_code 17 = .ok (.iconst 0, 1) := by decide +kernel
theorem d_Real_tag_18 : decode prog_7_method_6_code 18 = .ok (.goto 4, 3) := by decide +kernel
theorem d_Real_tag_21 : decode prog_7_method_6_code 21 = .ok (.iconst 2, 1) := by decide +kernel
theorem d_Real_tag_22 : decode prog_7_method_6_code 22 = .ok (.ireturn, 1) := by decide +kernel
theorem d_Real_top_0 : decode prog_7_method_7_code 0 = .ok (.aload_n 0, 1) := by decide +kernel
theorem d_Real_top_1 : decode prog_7_method_7_code 1 = .ok (.getfield 25, 3) := by decide +kernel
theorem d_Real_top_4 : decode prog_7_method_7_code 4 = .ok (.ifCond .eq 8, 3) := by decide +kernel
theorem d_Real_top_7 : decode prog_7_method_7_code 7 = .ok (.ldc 29, 2) := by decide +kernel
theorem d_Real_top_9 : decode prog_7_method_7_code 9 = .ok (.goto 4, 3) := by decide +kernel
theorem d_Real_top_12 : decode prog_7_method_7_code 12 = .ok (.iconst 0, 1) := by decide +kernel
theorem d_Real_top_13 : decode prog_7_method_7_code 13 = .ok (.aload_n 0, 1) := by decide +kernel
theorem d_Real_top_14 : decode prog_7_method_7_code 14 = .ok (.getfield 7, 3) := by decide +kernel
theorem d_Real_top_17 : decode prog_7_method_7_code 17 = .ok (.ior, 1) := by decide +kernel
theorem d_Real_top_18 : decode prog_7_method_7_code 18 = .ok (.ireturn, 1) := by decide +kernel
theorem d_Real_setIndefinite_0 : decode prog_7_method_11_code 0 = .ok (.aload_n 0, 1) := by decide +kernel
theorem d_Real_setIndefinite_1 : decode prog_7_method_11_code 1 = .ok (.iconst 1, 1) := by decide +kernel
theorem d_Real_setIndefinite_2 : decode prog_7_method_11_code 2 = .ok (.sipush 32767, 3) := by decide +kernel
theorem d_Real_setIndefinite_5 : decode prog_7_method_11_code 5 = .ok (.ldc2_w 36, 3) := by decide +kernel
theorem d_Real_setIndefinite_8 : decode prog_7_method_11_code 8 = .ok (.invokevirtual 30, 3) := by decide +kernel
theorem d_Real_setIndefinite_11 : decode prog_7_method_11_code 11 = .ok (.return_, 1) := by decide +kernel
theorem d_Real_take_0 : decode prog_7_method_12_code 0 = .ok (.aload_n 0, 1) := by decide +kernel
theorem d_Real_take_1 : decode prog_7_method_12_code 1 = .ok (.aload_n 1, 1) := by decide +kernel
theorem d_Real_take_2 : decode prog_7_method_12_code 2 = .ok (.getfield 25, 3) := by decide +kernel
theorem d_Real_take_5 : decode prog_7_method_12_code 5 = .ok (.putfield 25, 3) := by decide +kernel
theorem d_Real_take_8 : decode prog_7_method_12_code 8 = .ok (.aload_n 0, 1) := by decide +kernel
theorem d_Real_take_9 : decode prog_7_method_12_code 9 = .ok (.aload_n 1, 1) := by decide +kernel
theorem d_Real_take_10 : decode prog_7_method_12_code 10 = .ok (.getfield 7, 3) := by decide +kernel
theorem d_Real_take_13 : decode prog_7_method_12_code 13 = .ok (.putfield 7, 3) := by decide +kernel
theorem d_Real_take_16 : decode prog_7_method_12_code 16 = .ok (.aload_n 0, 1) := by decide +kernel
theorem d_Real_take_17 : decode prog_7_method_12_code 17 = .ok (.aload_n 1, 1) := by decide +kernel
theorem d_Real_take_18 : decode prog_7_method_12_code 18 = .ok (.getfield 13, 3) := by decide +kernel
theorem d_Real_take_21 : decode prog_7_method_12_code 21 = .ok (.putfield 13, 3) := by decide +kernel
theorem d_Real_take_24 : decode prog_7_method_12_code 24 = .ok (.return_, 1) := by decide +kernel
theorem d_Real_setZero_0 : decode prog_7_method_9_code 0 = .ok (.aload_n 0, 1) := by decide +kernel
theorem d_Real_setZero_1 : decode prog_7_method_9_code 1 = .ok (.iload_n 1, 1) := by decide +kernel
theorem d_Real_setZero_2 : decode prog_7_method_9_code 2 = .ok (.iconst 0, 1) := by decide +kernel
theorem d_Real_setZero_3 : decode prog_7_method_9_code 3 = .ok (.lconst 0, 1) := by decide +kernel
theorem d_Real_setZero_4 : decode prog_7_method_9_code 4 = .ok (.invokevirtual 30, 3) := by decide +kernel
theorem d_Real_setZero_7 : decode prog_7_method_9_code 7 = .ok (.return_, 1) := by decide +kernel
theorem d_Real_isInfinite_0 : decode prog_7_method_3_code 0 = .ok (.aload_n 0, 1) := by decide +kernel
theorem d_Real_isInfinite_1 : decode prog_7_method_3_code 1 = .ok (.getfield 7, 3) := by decide +kernel
theorem d_Real_isInfinite_4 : decode prog_7_method_3_code 4 = .ok (.sipush 32767, 3) := by decide +kernel
theorem d_Real_isInfinite_7 : decode prog_7_method_3_code 7 = .ok (.if_icmp .ne 18, 3) := by decide +kernel
theorem d_Real_isInfinite_10 : decode prog_7_method_3_code 10 = .ok (.aload_n 0, 1) := by decide +kernel
theorem d_Real_isInfinite_11 : decode prog_7_method_3_code 11 = .ok (.getfield 13, 3) := by decide +kernel
theorem d_Real_isInfinite_14 : decode prog_7_method_3_code 14 = .ok (.iconst 1, 1) := by decide +kernel
theorem d_Real_isInfinite_15 : decode prog_7_method_3_code 15 = .ok (.lshl, 1) := by decide +kernel
theorem d_Real_isInfinite_16 : decode prog_7_method_3_code 16 = .ok (.lconst 0, 1) := by decide +kernel
theorem d_Real_isInfinite_17 : decode prog_7_method_3_code 17 = .ok (.lcmp, 1) := by decide +kernel
theorem d_Real_isInfinite_18 : decode prog_7_method_3_code 18 = .ok (.ifCond .ne 7, 3) := by decide +kernel
theorem d_Real_isInfinite_21 : decode prog_7_method_3_code 21 = .ok (.iconst 1, 1) := by decide +kernel
theorem d_Real_isInfinite_22 : decode prog_7_method_3_code 22 = .ok (.goto 4, 3) := by decide +kernel
theorem d_Real_isInfinite_25 : decode prog_7_method_3_code 25 = .ok (.iconst 0, 1) := by decide +kernel
theorem d_Real_isInfinite_26 : decode prog_7_method_3_code 26 = .ok (.ireturn, 1) := by decide +kernel
theorem d_Real_goesBefore_0 : decode prog_7_method_14_code 0 = .ok (.aload_n 0, 1) := by decide +kernel
theorem d_Real_goesBefore_1 : decode prog_7_method_14_code 1 = .ok (.getfield 13, 3) := by decide +kernel
theorem d_Real_goesBefore_4 : decode prog_7_method_14_code 4 = .ok (.aload_n 1, 1) := by decide +kernel
theorem d_Real_goesBefore_5 : decode prog_7_method_14_code 5 = .ok (.getfield 13, 3) := by decide +kernel
theorem d_Real_goesBefore_8 : decode prog_7_method_14_code 8 = .ok (.lcmp, 1) := by decide +kernel
theorem d_Real_goesBefore_9 : decode prog_7_method_14_code 9 = .ok (.ifCond .ne 23, 3) := by decide +kernel
theorem d_Real_goesBefore_12 : decode prog_7_method_14_code 12 = .ok (.aload_n 0, 1) := by decide +kernel
theorem d_Real_goesBefore_13 : decode prog_7_method_14_code 13 = .ok (.getfield 25, 3) := by decide +kernel
theorem d_Real_goesBefore_16 : decode prog_7_method_14_code 16 = .ok (.ifCond .ne 14, 3) := by decide +kernel
theorem d_Real_goesBefore_19 : decode prog_7_method_14_code 19 = .ok (.aload_n 1, 1) := by decide +kernel
theorem d_Real_goesBefore_20 : decode prog_7_method_14_code 20 = .ok (.getfield 25, 3) := by decide +kernel
theorem d_Real_goesBefore_23 : decode prog_7_method_14_code 23 = .ok (.ifCond .eq 7, 3) := by decide +kernel
theorem d_Real_goesBefore_26 : decode prog_7_method_14_code 26 = .ok (.iconst 1, 1) := by decide +kernel
theorem d_Real_goesBefore_27 : decode prog_7_method_14_code 27 = .ok (.goto 4, 3) := by decide +kernel
theorem d_Real_goesBefore_30 : decode prog_7_method_14_code 30 = .ok (.iconst 0, 1) := by decide +kernel
theorem d_Real_goesBefore_31 : decode prog_7_method_14_code 31 = .ok (.ireturn, 1) := by decide +kernel
theorem d_Real_goesBefore_32 : decode prog_7_method_14_code 32 = .ok (.aload_n 0, 1) := by decide +kernel
theorem d_Real_goesBefore_33 : decode prog_7_method_14_code 33 = .ok (.getfield 13, 3) := by decide +kernel
theorem d_Real_goesBefore_36 : decode prog_7_method_14_code 36 = .ok (.ldc2_w 34, 3) := by decide +kernel
theorem d_Real_goesBefore_39 : decode prog_7_method_14_code 39 = .ok (.lxor, 1) := by decide +kernel
theorem d_Real_goesBefore_40 : decode prog_7_method_14_code 40 = .ok (.aload_n 1, 1) := by decide +kernel
theorem d_Real_goesBefore_41 : decode prog_7_method_14_code 41 = .ok (.getfield 13, 3) := by decide +kernel
theorem d_Real_goesBefore_44 : decode prog_7_method_14_code 44 = .ok (.ldc2_w 34, 3) := by decide +kernel
theorem d_Real_goesBefore_47 : decode prog_7_method_14_code 47 = .ok (.lxor, 1) := by decide +kernel
theorem d_Real_goesBefore_48 : decode prog_7_method_14_code 48 = .ok (.lcmp, 1) := by decide +kernel
theorem d_Real_goesBefore_49 : decode prog_7_method_14_code 49 = .ok (.ifCond .le 7, 3) := by decide +kernel
theorem d_Real_goesBefore_52 : decode prog_7_method_14_code 52 = .ok (.iconst 1, 1) := by decide +kernel
theorem d_Real_goesBefore_53 : decode prog_7_method_14_code 53 = .ok (.goto 4, 3) := by decide +kernel
theorem d_Real_goesBefore_56 : decode prog_7_method_14_code 56 = .ok (.iconst 0, 1) := by decide +kernel
theorem d_Real_goesBefore_57 : decode prog_7_method_14_code 57 = .ok (.ireturn, 1) := by decide +kernel
theorem d_Real_takeNoNumber_0 : decode prog_7_method_13_code 0 = .ok (.aload_n 1, 1) := by decide +kernel
theorem d_Real_takeNoNumber_1 : decode prog_7_method_13_code 1 = .ok (.invokevirtual 21, 3) := by decide +kernel
theorem d_Real_takeNoNumber_4 : decode prog_7_method_13_code 4 = .ok (.iconst 5, 1) := by decide +kernel
theorem d_Real_takeNoNumber_5 : decode prog_7_method_13_code 5 = .ok (.if_icmp .ne 7, 3) := by decide +kernel
theorem d_Real_takeNoNumber_8 : decode prog_7_method_13_code 8 = .ok (.iconst 1, 1) := by decide +kernel
theorem d_Real_takeNoNumber_9 : decode prog_7_method_13_code 9 = .ok (.goto 4, 3) := by decide +kernel
theorem d_Real_takeNoNumber_12 : decode prog_7_method_13_code 12 = .ok (.iconst 0, 1) := by decide +kernel
theorem d_Real_takeNoNumber_13 : decode prog_7_method_13_code 13 = .ok (.istore_n 3, 1) := by decide +kernel
theorem d_Real_takeNoNumber_14 : decode prog_7_method_13_code 14 = .ok (.aload_n 2, 1) := by decide +kernel
theorem d_Real_takeNoNumber_15 : decode prog_7_method_13_code 15 = .ok (.invokevirtual 21, 3) := by decide +kernel
theorem d_Real_takeNoNumber_18 : decode prog_7_method_13_code 18 = .ok (.iconst 5, 1) := by decide +kernel
theorem d_Real_takeNoNumber_19 : decode prog_7_method_13_code 19 = .ok (.if_icmp .ne 7, 3) := by decide +kernel
theorem d_Real_takeNoNumber_22 : decode prog_7_method_13_code 22 = .ok (.iconst 1, 1) := by decide +kernel
theorem d_Real_takeNoNumber_23 : decode prog_7_method_13_code 23 = .ok (.goto 4, 3) := by decide +kernel
theorem d_Real_takeNoNumber_26 : decode prog_7_method_13_code 26 = .ok (.iconst 0, 1) := by decide +kernel
theorem d_Real_takeNoNumber_27 : decode prog_7_method_13_code 27 = .ok (.istore 4, 2) := by decide +kernel
theorem d_Real_takeNoNumber_29 : decode prog_7_method_13_code 29 = .ok (.iload_n 3, 1) := by decide +kernel
theorem d_Real_takeNoNumber_30 : decode prog_7_method_13_code 30 = .ok (.ifCond .ne 10, 3) := by decide +kernel
theorem d_Real_takeNoNumber_33 : decode prog_7_method_13_code 33 = .ok (.iload 4, 2) := by decide +kernel
theorem d_Real_takeNoNumber_35 : decode prog_7_method_13_code 35 = .ok (.ifCond .ne 5, 3) := by decide +kernel
theorem d_Real_takeNoNumber_38 : decode prog_7_method_13_code 38 = .ok (.iconst 0, 1) := by decide +kernel
theorem d_Real_takeNoNumber_39 : decode prog_7_method_13_code 39 = .ok (.ireturn, 1) := by decide +kernel
theorem d_Real_takeNoNumber_40 : decode prog_7_method_13_code 40 = .ok (.aload_n 0, 1) := by decide +kernel
theorem d_Real_takeNoNumber_41 : decode prog_7_method_13_code 41 = .ok (.iload_n 3, 1) := by decide +kernel
theorem d_Real_takeNoNumber_42 : decode prog_7_method_13_code 42 = .ok (.ifCond .eq 20, 3) := by decide +kernel
theorem d_Real_takeNoNumber_45 : decode prog_7_method_13_code 45 = .ok (.iload 4, 2) := by decide +kernel
theorem d_Real_takeNoNumber_47 : decode prog_7_method_13_code 47 = .ok (.ifCond .eq 11, 3) := by decide +kernel
theorem d_Real_takeNoNumber_50 : decode prog_7_method_13_code 50 = .ok (.aload_n 2, 1) := by decide +kernel
theorem d_Real_takeNoNumber_51 : decode prog_7_method_13_code 51 = .ok (.aload_n 1, 1) := by decide +kernel
theorem d_Real_takeNoNumber_52 : decode prog_7_method_13_code 52 = .ok (.invokevirtual 38, 3) := by decide +kernel
theorem d_Real_takeNoNumber_55 : decode prog_7_method_13_code 55 = .ok (.ifCond .ne 7, 3) := by decide +kernel
theorem d_Real_takeNoNumber_58 : decode prog_7_method_13_code 58 = .ok (.aload_n 1, 1) := by decide +kernel
theorem d_Real_takeNoNumber_59 : decode prog_7_method_13_code 59 = .ok (.goto 4, 3) := by decide +kernel
theorem d_Real_takeNoNumber_62 : decode prog_7_method_13_code 62 = .ok (.aload_n 2, 1) := by decide +kernel
theorem d_Real_takeNoNumber_63 : decode prog_7_method_13_code 63 = .ok (.invokevirtual 42, 3) := by decide +kernel
theorem d_Real_takeNoNumber_66 : decode prog_7_method_13_code 66 = .ok (.iconst 1, 1) := by decide +kernel
theorem d_Real_takeNoNumber_67 : decode prog_7_method_13_code 67 = .ok (.ireturn, 1) := by decide +kernel
theorem d_Real_isUnnormalSomething_0 : decode prog_7_method_5_code 0 = .ok (.aload_n 0, 1) := by decide +kernel
theorem d_Real_isUnnormalSomething_1 : decode prog_7_method_5_code 1 = .ok (.getfield 13, 3) := by decide +kernel
theorem d_Real_isUnnormalSomething_4 : decode prog_7_method_5_code 4 = .ok (.lconst 0, 1) := by decide +kernel
theorem d_Real_isUnnormalSomething_5 : decode prog_7_method_5_code 5 = .ok (.lcmp, 1) := by decide +kernel
theorem d_Real_isUnnormalSomething_6 : decode prog_7_method_5_code 6 = .ok (.ifCond .le 24, 3) := by decide +kernel
theorem d_Real_isUnnormalSomething_9 : decode prog_7_method_5_code 9 = .ok (.aload_n 0, 1) := by decide +kernel
theorem d_Real_isUnnormalSomething_10 : decode prog_7_method_5_code 10 = .ok (.getfield 7, 3) := by decide +kernel
theorem d_Real_isUnnormalSomething_13 : decode prog_7_method_5_code 13 = .ok (.ifCond .le 17, 3) := by decide +kernel
theorem d_Real_isUnnormalSomething_16 : decode prog_7_method_5_code 16 = .ok (.aload_n 0, 1) := by decide +kernel
theorem d_Real_isUnnormalSomething_17 : decode prog_7_method_5_code 17 = .ok (.getfield 7, 3) := by decide +kernel
theorem d_Real_isUnnormalSomething_20 : decode prog_7_method_5_code 20 = .ok (.sipush 32767, 3) := by decide +kernel
theorem d_Real_isUnnormalSomething_23 : decode prog_7_method_5_code 23 = .ok (.if_icmp .ge 7, 3) := by decide +kernel
theorem d_Real_isUnnormalSomething_26 : decode prog_7_method_5_code 26 = .ok (.iconst 1, 1) := by decide +kernel
theorem d_Real_isUnnormalSomething_27 : decode prog_7_method_5_code 27 = .ok (.goto 4, 3) := by decide +kernel
theorem d_Real_isUnnormalSomething_30 : decode prog_7_method_5_code 30 = .ok (.iconst 0, 1) := by decide +kernel
theorem d_Real_isUnnormalSomething_31 : decode prog_7_method_5_code 31 = .ok (.ireturn, 1) := by decide +kernel
theorem d_Real_setInfinite_0 : decode prog_7_method_10_code 0 = .ok (.aload_n 0, 1) := by decide +kernel
theorem d_Real_setInfinite_1 : decode prog_7_method_10_code 1 = .ok (.iload_n 1, 1) := by decide +kernel
theorem d_Real_setInfinite_2 : decode prog_7_method_10_code 2 = .ok (.sipush 32767, 3) := by decide +kernel
theorem d_Real_setInfinite_5 : decode prog_7_method_10_code 5 = .ok (.ldc2_w 34, 3) := by decide +kernel
theorem d_Real_setInfinite_8 : decode prog_7_method_10_code 8 = .ok (.invokevirtual 30, 3) := by decide +kernel
theorem d_Real_setInfinite_11 : decode prog_7_method_10_code 11 = .ok (.return_, 1) := by decide +kernel
