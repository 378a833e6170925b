theorem d_Ctl_tell_0 : decode prog_2_method_2_code 0 = .ok (.aload_n 0, 1) := by decide +kernel
theorem d_Ctl_tell_1 : decode prog_2_method_2_code 1 = .ok (.dup, 1) := by decide +kernel
theorem d_Ctl_tell_2 : decode prog_2_method_2_code 2 = .ok (.getfield 9, 3) := by decide +kernel
theorem d_Ctl_tell_5 : decode prog_2_method_2_code 5 = .ok (.iload_n 1, 1) := by decide +kernel
theorem d_Ctl_tell_6 : decode prog_2_method_2_code 6 = .ok (.ior, 1) := by decide +kernel
theorem d_Ctl_tell_7 : decode prog_2_method_2_code 7 = .ok (.putfield 9, 3) := by decide +kernel
theorem d_Ctl_tell_10 : decode prog_2_method_2_code 10 = .ok (.return_, 1) := by decide +kernel
theorem d_Ctl_ends_0 : decode prog_2_method_4_code 0 = .ok (.aload_n 0, 1) := by decide +kernel
theorem d_Ctl_ends_1 : decode prog_2_method_4_code 1 = .ok (.getfield 9, 3) := by decide +kernel
theorem d_Ctl_ends_4 : decode prog_2_method_4_code 4 = .ok (.aload_n 0, 1) := by decide +kernel
theorem d_Ctl_ends_5 : decode prog_2_method_4_code 5 = .ok (.getfield 13, 3) := by decide +kernel
theorem d_Ctl_ends_8 : decode prog_2_method_4_code 8 = .ok (.iconst (-1), 1) := by decide +kernel
theorem d_Ctl_ends_9 : decode prog_2_method_4_code 9 = .ok (.ixor, 1) := by decide +kernel
theorem d_Ctl_ends_10 : decode prog_2_method_4_code 10 = .ok (.iand, 1) := by decide +kernel
theorem d_Ctl_ends_11 : decode prog_2_method_4_code 11 = .ok (.bipush 7, 2) := by decide +kernel
theorem d_Ctl_ends_13 : decode prog_2_method_4_code 13 = .ok (.iand, 1) := by decide +kernel
theorem d_Ctl_ends_14 : decode prog_2_method_4_code 14 = .ok (.ifCond .eq 7, 3) := by decide +kernel
theorem d_Ctl_ends_17 : decode prog_2_method_4_code 17 = .ok (.iconst 1, 1) := by decide +kernel
theorem d_Ctl_ends_18 : decode prog_2_method_4_code 18 = .ok (.goto 4, 3) := by decide +kernel
theorem d_Ctl_ends_21 : decode prog_2_method_4_code 21 = .ok (.iconst 0, 1) := by decide +kernel
theorem d_Ctl_ends_22 : decode prog_2_method_4_code 22 = .ok (.ireturn, 1) := by decide +kernel
theorem d_Ctl_knowsOneInfinite_0 : decode prog_2_method_9_code 0 = .ok (.aload_n 0, 1) := by decide +kernel
theorem d_Ctl_knowsOneInfinite_1 : decode prog_2_method_9_code 1 = .ok (.getfield 13, 3) := by decide +kernel
theorem d_Ctl_knowsOneInfinite_4 : decode prog_2_method_9_code 4 = .ok (.sipush 4096, 3) := by decide +kernel
theorem d_Ctl_knowsOneInfinite_7 : decode prog_2_method_9_code 7 = .ok (.iand, 1) := by decide +kernel
theorem d_Ctl_knowsOneInfinite_8 : decode prog_2_method_9_code 8 = .ok (.ifCond .ne 7, 3) := by decide +kernel
theorem d_Ctl_knowsOneInfinite_11 : decode prog_2_method_9_code 11 = .ok (.iconst 1, 1) := by decide +kernel
theorem d_Ctl_knowsOneInfinite_12 : decode prog_2_method_9_code 12 = .ok (.goto 4, 3) := by decide +kernel
theorem d_Ctl_knowsOneInfinite_15 : decode prog_2_method_9_code 15 = .ok (.iconst 0, 1) := by decide +kernel
theorem d_Ctl_knowsOneInfinite_16 : decode prog_2_method_9_code 16 = .ok (.ireturn, 1) := by decide +kernel
theorem d_Ctl_settles_0 : decode prog_2_method_10_code 0 = .ok (.aload 4, 2) := by decide +kernel
theorem d_Ctl_settles_2 : decode prog_2_method_10_code 2 = .ok (.aload_n 1, 1) := by decide +kernel
theorem d_Ctl_settles_3 : decode prog_2_method_10_code 3 = .ok (.aload_n 2, 1) := by decide +kernel
theorem d_Ctl_settles_4 : decode prog_2_method_10_code 4 = .ok (.invokevirtual 20, 3) := by decide +kernel
theorem d_Ctl_settles_7 : decode prog_2_method_10_code 7 = .ok (.ifCond .eq 10, 3) := by decide +kernel
theorem d_Ctl_settles_10 : decode prog_2_method_10_code 10 = .ok (.aload_n 0, 1) := by decide +kernel
theorem d_Ctl_settles_11 : decode prog_2_method_10_code 11 = .ok (.iconst 1, 1) := by decide +kernel
theorem d_Ctl_settles_12 : decode prog_2_method_10_code 12 = .ok (.invokevirtual 26, 3) := by decide +kernel
theorem d_Ctl_settles_15 : decode prog_2_method_10_code 15 = .ok (.iconst 1, 1) := by decide +kernel
theorem d_Ctl_settles_16 : decode prog_2_method_10_code 16 = .ok (.ireturn, 1) := by decide +kernel
theorem d_Ctl_settles_17 : decode prog_2_method_10_code 17 = .ok (.iload_n 3, 1) := by decide +kernel
theorem d_Ctl_settles_18 : decode prog_2_method_10_code 18 = .ok (.ifCond .eq 15, 3) := by decide +kernel
theorem d_Ctl_settles_21 : decode prog_2_method_10_code 21 = .ok (.aload_n 0, 1) := by decide +kernel
theorem d_Ctl_settles_22 : decode prog_2_method_10_code 22 = .ok (.iconst 1, 1) := by decide +kernel
theorem d_Ctl_settles_23 : decode prog_2_method_10_code 23 = .ok (.invokevirtual 26, 3) := by decide +kernel
theorem d_Ctl_settles_26 : decode prog_2_method_10_code 26 = .ok (.aload 4, 2) := by decide +kernel
theorem d_Ctl_settles_28 : decode prog_2_method_10_code 28 = .ok (.invokevirtual 30, 3) := by decide +kernel
theorem d_Ctl_settles_31 : decode prog_2_method_10_code 31 = .ok (.iconst 1, 1) := by decide +kernel
theorem d_Ctl_settles_32 : decode prog_2_method_10_code 32 = .ok (.ireturn, 1) := by decide +kernel
theorem d_Ctl_settles_33 : decode prog_2_method_10_code 33 = .ok (.aload_n 1, 1) := by decide +kernel
theorem d_Ctl_settles_34 : decode prog_2_method_10_code 34 = .ok (.invokevirtual 33, 3) := by decide +kernel
theorem d_Ctl_settles_37 : decode prog_2_method_10_code 37 = .ok (.iconst 1, 1) := by decide +kernel
theorem d_Ctl_settles_38 : decode prog_2_method_10_code 38 = .ok (.if_icmp .eq 11, 3) := by decide +kernel
theorem d_Ctl_settles_41 : decode prog_2_method_10_code 41 = .ok (.aload_n 2, 1) := by decide +kernel
theorem d_Ctl_settles_42 : decode prog_2_method_10_code 42 = .ok (.invokevirtual 33, 3) := by decide +kernel
theorem d_Ctl_settles_45 : decode prog_2_method_10_code 45 = .ok (.iconst 1, 1) := by decide +kernel
theorem d_Ctl_settles_46 : decode prog_2_method_10_code 46 = .ok (.if_icmp .ne 8, 3) := by decide +kernel
theorem d_Ctl_settles_49 : decode prog_2_method_10_code 49 = .ok (.aload_n 0, 1) := by decide +kernel
theorem d_Ctl_settles_50 : decode prog_2_method_10_code 50 = .ok (.iconst 2, 1) := by decide +kernel
theorem d_Ctl_settles_51 : decode prog_2_method_10_code 51 = .ok (.invokevirtual 26, 3) := by decide +kernel
theorem d_Ctl_settles_54 : decode prog_2_method_10_code 54 = .ok (.aload_n 0, 1) := by decide +kernel
theorem d_Ctl_settles_55 : decode prog_2_method_10_code 55 = .ok (.invokevirtual 36, 3) := by decide +kernel
theorem d_Ctl_settles_58 : decode prog_2_method_10_code 58 = .ok (.ireturn, 1) := by decide +kernel
theorem d_Ctl_rounding_0 : decode prog_2_method_7_code 0 = .ok (.aload_n 0, 1) := by decide +kernel
theorem d_Ctl_rounding_1 : decode prog_2_method_7_code 1 = .ok (.getfield 13, 3) := by decide +kernel
theorem d_Ctl_rounding_4 : decode prog_2_method_7_code 4 = .ok (.bipush 10, 2) := by decide +kernel
theorem d_Ctl_rounding_6 : decode prog_2_method_7_code 6 = .ok (.ishr, 1) := by decide +kernel
theorem d_Ctl_rounding_7 : decode prog_2_method_7_code 7 = .ok (.iconst 3, 1) := by decide +kernel
theorem d_Ctl_rounding_8 : decode prog_2_method_7_code 8 = .ok (.iand, 1) := by decide +kernel
theorem d_Ctl_rounding_9 : decode prog_2_method_7_code 9 = .ok (.ireturn, 1) := by decide +kernel
theorem d_Ctl_digits_0 : decode prog_2_method_6_code 0 = .ok (.aload_n 0, 1) := by decide +kernel
theorem d_Ctl_digits_1 : decode prog_2_method_6_code 1 = .ok (.getfield 13, 3) := by decide +kernel
theorem d_Ctl_digits_4 : decode prog_2_method_6_code 4 = .ok (.bipush 8, 2) := by decide +kernel
theorem d_Ctl_digits_6 : decode prog_2_method_6_code 6 = .ok (.ishr, 1) := by decide +kernel
theorem d_Ctl_digits_7 : decode prog_2_method_6_code 7 = .ok (.iconst 3, 1) := by decide +kernel
theorem d_Ctl_digits_8 : decode prog_2_method_6_code 8 = .ok (.iand, 1) := by decide +kernel
theorem d_Ctl_digits_9 : decode prog_2_method_6_code 9 = .ok (.istore_n 1, 1) := by decide +kernel
theorem d_Ctl_digits_10 : decode prog_2_method_6_code 10 = .ok (.iload_n 1, 1) := by decide +kernel
theorem d_Ctl_digits_11 : decode prog_2_method_6_code 11 = .ok (.ifCond .ne 6, 3) := by decide +kernel
theorem d_Ctl_digits_14 : decode prog_2_method_6_code 14 = .ok (.bipush 24, 2) := by decide +kernel
theorem d_Ctl_digits_16 : decode prog_2_method_6_code 16 = .ok (.ireturn, 1) := by decide +kernel
theorem d_Ctl_digits_17 : decode prog_2_method_6_code 17 = .ok (.iload_n 1, 1) := by decide +kernel
theorem d_Ctl_digits_18 : decode prog_2_method_6_code 18 = .ok (.iconst 2, 1) := by decide +kernel
theorem d_Ctl_digits_19 : decode prog_2_method_6_code 19 = .ok (.if_icmp .ne 8, 3) := by decide +kernel
theorem d_Ctl_digits_22 : decode prog_2_method_6_code 22 = .ok (.bipush 53, 2) := by decide +kernel
theorem d_Ctl_digits_24 : decode prog_2_method_6_code 24 = .ok (.goto 5, 3) := by decide +kernel
theorem d_Ctl_digits_27 : decode prog_2_method_6_code 27 = .ok (.bipush 64, 2) := by decide +kernel
theorem d_Ctl_digits_29 : decode prog_2_method_6_code 29 = .ok (.ireturn, 1) := by decide +kernel
theorem d_Ctl_masks_0 : decode prog_2_method_3_code 0 = .ok (.aload_n 0, 1) := by decide +kernel
theorem d_Ctl_masks_1 : decode prog_2_method_3_code 1 = .ok (.getfield 13, 3) := by decide +kernel
theorem d_Ctl_masks_4 : decode prog_2_method_3_code 4 = .ok (.iload_n 1, 1) := by decide +kernel
theorem d_Ctl_masks_5 : decode prog_2_method_3_code 5 = .ok (.iand, 1) := by decide +kernel
theorem d_Ctl_masks_6 : decode prog_2_method_3_code 6 = .ok (.ifCond .eq 7, 3) := by decide +kernel
theorem d_Ctl_masks_9 : decode prog_2_method_3_code 9 = .ok (.iconst 1, 1) := by decide +kernel
theorem d_Ctl_masks_10 : decode prog_2_method_3_code 10 = .ok (.goto 4, 3) := by decide +kernel
theorem d_Ctl_masks_13 : decode prog_2_method_3_code 13 = .ok (.iconst 0, 1) := by decide +kernel
theorem d_Ctl_masks_14 : decode prog_2_method_3_code 14 = .ok (.ireturn, 1) := by decide +kernel
theorem d_Ctl_overBecomesInfinite_0 : decode prog_2_method_8_code 0 = .ok (.aload_n 0, 1) := by decide +kernel
theorem d_Ctl_overBecomesInfinite_1 : decode prog_2_method_8_code 1 = .ok (.invokevirtual 16, 3) := by decide +kernel
theorem d_Ctl_overBecomesInfinite_4 : decode prog_2_method_8_code 4 = .ok (.istore_n 2, 1) := by decide +kernel
theorem d_Ctl_overBecomesInfinite_5 : decode prog_2_method_8_code 5 = .ok (.iload_n 2, 1) := by decide +kernel
theorem d_Ctl_overBecomesInfinite_6 : decode prog_2_method_8_code 6 = .ok (.ifCond .eq 16, 3) := by decide +kernel
theorem d_Ctl_overBecomesInfinite_9 : decode prog_2_method_8_code 9 = .ok (.iload_n 2, 1) := by decide +kernel
theorem d_Ctl_overBecomesInfinite_10 : decode prog_2_method_8_code 10 = .ok (.iload_n 1, 1) := by decide +kernel
theorem d_Ctl_overBecomesInfinite_11 : decode prog_2_method_8_code 11 = .ok (.ifCond .eq 7, 3) := by decide +kernel
theorem d_Ctl_overBecomesInfinite_14 : decode prog_2_method_8_code 14 = .ok (.iconst 1, 1) := by decide +kernel
theorem d_Ctl_overBecomesInfinite_15 : decode prog_2_method_8_code 15 = .ok (.goto 4, 3) := by decide +kernel
theorem d_Ctl_overBecomesInfinite_18 : decode prog_2_method_8_code 18 = .ok (.iconst 2, 1) := by decide +kernel
theorem d_Ctl_overBecomesInfinite_19 : decode prog_2_method_8_code 19 = .ok (.if_icmp .ne 7, 3) := by decide +kernel
theorem d_Ctl_overBecomesInfinite_22 : decode prog_2_method_8_code 22 = .ok (.iconst 1, 1) := by decide +kernel
theorem d_Ctl_overBecomesInfinite_23 : decode prog_2_method_8_code 23 = .ok (.goto 4, 3) := by decide +kernel
theorem d_Ctl_overBecomesInfinite_26 : decode prog_2_method_8_code 26 = .ok (.iconst 0, 1) := by decide +kernel
theorem d_Ctl_overBecomesInfinite_27 : decode prog_2_method_8_code 27 = .ok (.ireturn, 1) := by decide +kernel
theorem d_Ctl_endsWriting_0 : decode prog_2_method_5_code 0 = .ok (.aload_n 0, 1) := by decide +kernel
theorem d_Ctl_endsWriting_1 : decode prog_2_method_5_code 1 = .ok (.getfield 9, 3) := by decide +kernel
theorem d_Ctl_endsWriting_4 : decode prog_2_method_5_code 4 = .ok (.aload_n 0, 1) := by decide +kernel
theorem d_Ctl_endsWriting_5 : decode prog_2_method_5_code 5 = .ok (.getfield 13, 3) := by decide +kernel
theorem d_Ctl_endsWriting_8 : decode prog_2_method_5_code 8 = .ok (.iconst (-1), 1) := by decide +kernel
theorem d_Ctl_endsWriting_9 : decode prog_2_method_5_code 9 = .ok (.ixor, 1) := by decide +kernel
theorem d_Ctl_endsWriting_10 : decode prog_2_method_5_code 10 = .ok (.iand, 1) := by decide +kernel
theorem d_Ctl_endsWriting_11 : decode prog_2_method_5_code 11 = .ok (.bipush 31, 2) := by decide +kernel
theorem d_Ctl_endsWriting_13 : decode prog_2_method_5_code 13 = .ok (.iand, 1) := by decide +kernel
theorem d_Ctl_endsWriting_14 : decode prog_2_method_5_code 14 = .ok (.ifCond .eq 7, 3) := by decide +kernel
theorem d_Ctl_endsWriting_17 : decode prog_2_method_5_code 17 = .ok (.iconst 1, 1) := by decide +kernel
theorem d_Ctl_endsWriting_18 : decode prog_2_method_5_code 18 = .ok (.goto 4, 3) := by decide +kernel
theorem d_Ctl_endsWriting_21 : decode prog_2_method_5_code 21 = .ok (.iconst 0, 1) := by decide +kernel
theorem d_Ctl_endsWriting_22 : decode prog_2_method_5_code 22 = .ok (.ireturn, 1) := by decide +kernel
