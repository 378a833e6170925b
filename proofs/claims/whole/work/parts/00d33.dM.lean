theorem d_M_begin_0 : decode prog_12_method_3_code 0 = .ok (.aload_n 0, 1) := by decide +kernel
theorem d_M_begin_1 : decode prog_12_method_3_code 1 = .ok (.sipush 1023, 3) := by decide +kernel
theorem d_M_begin_4 : decode prog_12_method_3_code 4 = .ok (.putfield 52, 3) := by decide +kernel
theorem d_M_begin_7 : decode prog_12_method_3_code 7 = .ok (.aload_n 0, 1) := by decide +kernel
theorem d_M_begin_8 : decode prog_12_method_3_code 8 = .ok (.iconst 0, 1) := by decide +kernel
theorem d_M_begin_9 : decode prog_12_method_3_code 9 = .ok (.putfield 55, 3) := by decide +kernel
theorem d_M_begin_12 : decode prog_12_method_3_code 12 = .ok (.aload_n 0, 1) := by decide +kernel
theorem d_M_begin_13 : decode prog_12_method_3_code 13 = .ok (.iconst 0, 1) := by decide +kernel
theorem d_M_begin_14 : decode prog_12_method_3_code 14 = .ok (.putfield 58, 3) := by decide +kernel
theorem d_M_begin_17 : decode prog_12_method_3_code 17 = .ok (.aload_n 0, 1) := by decide +kernel
theorem d_M_begin_18 : decode prog_12_method_3_code 18 = .ok (.iconst 0, 1) := by decide +kernel
theorem d_M_begin_19 : decode prog_12_method_3_code 19 = .ok (.putfield 61, 3) := by decide +kernel
theorem d_M_begin_22 : decode prog_12_method_3_code 22 = .ok (.iconst 0, 1) := by decide +kernel
theorem d_M_begin_23 : decode prog_12_method_3_code 23 = .ok (.istore_n 1, 1) := by decide +kernel
theorem d_M_begin_24 : decode prog_12_method_3_code 24 = .ok (.iload_n 1, 1) := by decide +kernel
theorem d_M_begin_25 : decode prog_12_method_3_code 25 = .ok (.bipush 8, 2) := by decide +kernel
theorem d_M_begin_27 : decode prog_12_method_3_code 27 = .ok (.if_icmp .ge 16, 3) := by decide +kernel
theorem d_M_begin_30 : decode prog_12_method_3_code 30 = .ok (.aload_n 0, 1) := by decide +kernel
theorem d_M_begin_31 : decode prog_12_method_3_code 31 = .ok (.getfield 20, 3) := by decide +kernel
theorem d_M_begin_34 : decode prog_12_method_3_code 34 = .ok (.iload_n 1, 1) := by decide +kernel
theorem d_M_begin_35 : decode prog_12_method_3_code 35 = .ok (.iconst 1, 1) := by decide +kernel
theorem d_M_begin_36 : decode prog_12_method_3_code 36 = .ok (.bastore, 1) := by decide +kernel
theorem d_M_begin_37 : decode prog_12_method_3_code 37 = .ok (.iinc 1 1, 3) := by decide +kernel
theorem d_M_begin_40 : decode prog_12_method_3_code 40 = .ok (.goto (-16), 3) := by decide +kernel
theorem d_M_begin_43 : decode prog_12_method_3_code 43 = .ok (.aload_n 0, 1) := by decide +kernel
theorem d_M_begin_44 : decode prog_12_method_3_code 44 = .ok (.iconst 0, 1) := by decide +kernel
theorem d_M_begin_45 : decode prog_12_method_3_code 45 = .ok (.putfield 64, 3) := by decide +kernel
theorem d_M_begin_48 : decode prog_12_method_3_code 48 = .ok (.aload_n 0, 1) := by decide +kernel
theorem d_M_begin_49 : decode prog_12_method_3_code 49 = .ok (.iconst 0, 1) := by decide +kernel
theorem d_M_begin_50 : decode prog_12_method_3_code 50 = .ok (.putfield 67, 3) := by decide +kernel
theorem d_M_begin_53 : decode prog_12_method_3_code 53 = .ok (.aload_n 0, 1) := by decide +kernel
theorem d_M_begin_54 : decode prog_12_method_3_code 54 = .ok (.iconst 0, 1) := by decide +kernel
theorem d_M_begin_55 : decode prog_12_method_3_code 55 = .ok (.putfield 70, 3) := by decide +kernel
theorem d_M_begin_58 : decode prog_12_method_3_code 58 = .ok (.return_, 1) := by decide +kernel
theorem d_M_thrown_0 : decode prog_12_method_2_code 0 = .ok (.aload_n 0, 1) := by decide +kernel
theorem d_M_thrown_1 : decode prog_12_method_2_code 1 = .ok (.getfield 48, 3) := by decide +kernel
theorem d_M_thrown_4 : decode prog_12_method_2_code 4 = .ok (.ireturn, 1) := by decide +kernel
theorem d_M_st_0 : decode prog_12_method_4_code 0 = .ok (.aload_n 0, 1) := by decide +kernel
theorem d_M_st_1 : decode prog_12_method_4_code 1 = .ok (.getfield 61, 3) := by decide +kernel
theorem d_M_st_4 : decode prog_12_method_4_code 4 = .ok (.iload_n 1, 1) := by decide +kernel
theorem d_M_st_5 : decode prog_12_method_4_code 5 = .ok (.iadd, 1) := by decide +kernel
theorem d_M_st_6 : decode prog_12_method_4_code 6 = .ok (.bipush 8, 2) := by decide +kernel
theorem d_M_st_8 : decode prog_12_method_4_code 8 = .ok (.irem, 1) := by decide +kernel
theorem d_M_st_9 : decode prog_12_method_4_code 9 = .ok (.ireturn, 1) := by decide +kernel
theorem d_M_memory_0 : decode prog_12_method_5_code 0 = .ok (.aload_n 0, 1) := by decide +kernel
theorem d_M_memory_1 : decode prog_12_method_5_code 1 = .ok (.iload_n 1, 1) := by decide +kernel
theorem d_M_memory_2 : decode prog_12_method_5_code 2 = .ok (.ifCond .lt 9, 3) := by decide +kernel
theorem d_M_memory_5 : decode prog_12_method_5_code 5 = .ok (.iload_n 1, 1) := by decide +kernel
theorem d_M_memory_6 : decode prog_12_method_5_code 6 = .ok (.bipush 90, 2) := by decide +kernel
theorem d_M_memory_8 : decode prog_12_method_5_code 8 = .ok (.if_icmp .le 7, 3) := by decide +kernel
theorem d_M_memory_11 : decode prog_12_method_5_code 11 = .ok (.iconst 1, 1) := by decide +kernel
theorem d_M_memory_12 : decode prog_12_method_5_code 12 = .ok (.goto 4, 3) := by decide +kernel
theorem d_M_memory_15 : decode prog_12_method_5_code 15 = .ok (.iconst 0, 1) := by decide +kernel
theorem d_M_memory_16 : decode prog_12_method_5_code 16 = .ok (.putfield 48, 3) := by decide +kernel
theorem d_M_memory_19 : decode prog_12_method_5_code 19 = .ok (.iconst 0, 1) := by decide +kernel
theorem d_M_memory_20 : decode prog_12_method_5_code 20 = .ok (.istore_n 3, 1) := by decide +kernel
theorem d_M_memory_21 : decode prog_12_method_5_code 21 = .ok (.iload_n 3, 1) := by decide +kernel
theorem d_M_memory_22 : decode prog_12_method_5_code 22 = .ok (.iconst 4, 1) := by decide +kernel
theorem d_M_memory_23 : decode prog_12_method_5_code 23 = .ok (.if_icmp .ge 34, 3) := by decide +kernel
theorem d_M_memory_26 : decode prog_12_method_5_code 26 = .ok (.aload_n 0, 1) := by decide +kernel
theorem d_M_memory_27 : decode prog_12_method_5_code 27 = .ok (.getfield 48, 3) := by decide +kernel
theorem d_M_memory_30 : decode prog_12_method_5_code 30 = .ok (.ifCond .ne 27, 3) := by decide +kernel
theorem d_M_memory_33 : decode prog_12_method_5_code 33 = .ok (.aload_n 0, 1) := by decide +kernel
theorem d_M_memory_34 : decode prog_12_method_5_code 34 = .ok (.getfield 7, 3) := by decide +kernel
theorem d_M_memory_37 : decode prog_12_method_5_code 37 = .ok (.iload_n 1, 1) := by decide +kernel
theorem d_M_memory_38 : decode prog_12_method_5_code 38 = .ok (.iload_n 3, 1) := by decide +kernel
theorem d_M_memory_39 : decode prog_12_method_5_code 39 = .ok (.iadd, 1) := by decide +kernel
theorem d_M_memory_40 : decode prog_12_method_5_code 40 = .ok (.iload_n 2, 1) := by decide +kernel
theorem d_M_memory_41 : decode prog_12_method_5_code 41 = .ok (.bipush 8, 2) := by decide +kernel
theorem d_M_memory_43 : decode prog_12_method_5_code 43 = .ok (.iload_n 3, 1) := by decide +kernel
theorem d_M_memory_44 : decode prog_12_method_5_code 44 = .ok (.imul, 1) := by decide +kernel
theorem d_M_memory_45 : decode prog_12_method_5_code 45 = .ok (.ishr, 1) := by decide +kernel
theorem d_M_memory_46 : decode prog_12_method_5_code 46 = .ok (.sipush 255, 3) := by decide +kernel
theorem d_M_memory_49 : decode prog_12_method_5_code 49 = .ok (.iand, 1) := by decide +kernel
theorem d_M_memory_50 : decode prog_12_method_5_code 50 = .ok (.iastore, 1) := by decide +kernel
theorem d_M_memory_51 : decode prog_12_method_5_code 51 = .ok (.iinc 3 1, 3) := by decide +kernel
theorem d_M_memory_54 : decode prog_12_method_5_code 54 = .ok (.goto (-33), 3) := by decide +kernel
theorem d_M_memory_57 : decode prog_12_method_5_code 57 = .ok (.return_, 1) := by decide +kernel
theorem d_M_byteAt_0 : decode prog_12_method_6_code 0 = .ok (.aload_n 0, 1) := by decide +kernel
theorem d_M_byteAt_1 : decode prog_12_method_6_code 1 = .ok (.iload_n 1, 1) := by decide +kernel
theorem d_M_byteAt_2 : decode prog_12_method_6_code 2 = .ok (.ifCond .lt 9, 3) := by decide +kernel
theorem d_M_byteAt_5 : decode prog_12_method_6_code 5 = .ok (.iload_n 1, 1) := by decide +kernel
theorem d_M_byteAt_6 : decode prog_12_method_6_code 6 = .ok (.bipush 93, 2) := by decide +kernel
theorem d_M_byteAt_8 : decode prog_12_method_6_code 8 = .ok (.if_icmp .le 7, 3) := by decide +kernel
theorem d_M_byteAt_11 : decode prog_12_method_6_code 11 = .ok (.iconst 1, 1) := by decide +kernel
theorem d_M_byteAt_12 : decode prog_12_method_6_code 12 = .ok (.goto 4, 3) := by decide +kernel
theorem d_M_byteAt_15 : decode prog_12_method_6_code 15 = .ok (.iconst 0, 1) := by decide +kernel
theorem d_M_byteAt_16 : decode prog_12_method_6_code 16 = .ok (.putfield 48, 3) := by decide +kernel
theorem d_M_byteAt_19 : decode prog_12_method_6_code 19 = .ok (.aload_n 0, 1) := by decide +kernel
theorem d_M_byteAt_20 : decode prog_12_method_6_code 20 = .ok (.getfield 48, 3) := by decide +kernel
theorem d_M_byteAt_23 : decode prog_12_method_6_code 23 = .ok (.ifCond .le 7, 3) := by decide +kernel
theorem d_M_byteAt_26 : decode prog_12_method_6_code 26 = .ok (.iconst 0, 1) := by decide +kernel
theorem d_M_byteAt_27 : decode prog_12_method_6_code 27 = .ok (.goto 9, 3) := by decide +kernel
theorem d_M_byteAt_30 : decode prog_12_method_6_code 30 = .ok (.aload_n 0, 1) := by decide +kernel
theorem d_M_byteAt_31 : decode prog_12_method_6_code 31 = .ok (.getfield 7, 3) := by decide +kernel
theorem d_M_byteAt_34 : decode prog_12_method_6_code 34 = .ok (.iload_n 1, 1) := by decide +kernel
theorem d_M_byteAt_35 : decode prog_12_method_6_code 35 = .ok (.iaload, 1) := by decide +kernel
theorem d_M_byteAt_36 : decode prog_12_method_6_code 36 = .ok (.ireturn, 1) := by decide +kernel
theorem d_M_wordAt_0 : decode prog_12_method_7_code 0 = .ok (.aload_n 0, 1) := by decide +kernel
theorem d_M_wordAt_1 : decode prog_12_method_7_code 1 = .ok (.getfield 7, 3) := by decide +kernel
theorem d_M_wordAt_4 : decode prog_12_method_7_code 4 = .ok (.iload_n 1, 1) := by decide +kernel
theorem d_M_wordAt_5 : decode prog_12_method_7_code 5 = .ok (.iaload, 1) := by decide +kernel
theorem d_M_wordAt_6 : decode prog_12_method_7_code 6 = .ok (.sipush 256, 3) := by decide +kernel
theorem d_M_wordAt_9 : decode prog_12_method_7_code 9 = .ok (.aload_n 0, 1) := by decide +kernel
theorem d_M_wordAt_10 : decode prog_12_method_7_code 10 = .ok (.getfield 7, 3) := by decide +kernel
theorem d_M_wordAt_13 : decode prog_12_method_7_code 13 = .ok (.iload_n 1, 1) := by decide +kernel
theorem d_M_wordAt_14 : decode prog_12_method_7_code 14 = .ok (.iconst 1, 1) := by decide +kernel
theorem d_M_wordAt_15 : decode prog_12_method_7_code 15 = .ok (.iadd, 1) := by decide +kernel
theorem d_M_wordAt_16 : decode prog_12_method_7_code 16 = .ok (.iaload, 1) := by decide +kernel
theorem d_M_wordAt_17 : decode prog_12_method_7_code 17 = .ok (.imul, 1) := by decide +kernel
theorem d_M_wordAt_18 : decode prog_12_method_7_code 18 = .ok (.iadd, 1) := by decide +kernel
theorem d_M_wordAt_19 : decode prog_12_method_7_code 19 = .ok (.ireturn, 1) := by decide +kernel
theorem d_M_setWord_0 : decode prog_12_method_8_code 0 = .ok (.aload_n 0, 1) := by decide +kernel
theorem d_M_setWord_1 : decode prog_12_method_8_code 1 = .ok (.getfield 7, 3) := by decide +kernel
theorem d_M_setWord_4 : decode prog_12_method_8_code 4 = .ok (.iload_n 1, 1) := by decide +kernel
theorem d_M_setWord_5 : decode prog_12_method_8_code 5 = .ok (.iload_n 2, 1) := by decide +kernel
theorem d_M_setWord_6 : decode prog_12_method_8_code 6 = .ok (.sipush 256, 3) := by decide +kernel
theorem d_M_setWord_9 : decode prog_12_method_8_code 9 = .ok (.irem, 1) := by decide +kernel
theorem d_M_setWord_10 : decode prog_12_method_8_code 10 = .ok (.iastore, 1) := by decide +kernel
theorem d_M_setWord_11 : decode prog_12_method_8_code 11 = .ok (.aload_n 0, 1) := by decide +kernel
theorem d_M_setWord_12 : decode prog_12_method_8_code 12 = .ok (.getfield 7, 3) := by decide +kernel
theorem d_M_setWord_15 : decode prog_12_method_8_code 15 = .ok (.iload_n 1, 1) := by decide +kernel
theorem d_M_setWord_16 : decode prog_12_method_8_code 16 = .ok (.iconst 1, 1) := by decide +kernel
theorem d_M_setWord_17 : decode prog_12_method_8_code 17 = .ok (.iadd, 1) := by decide +kernel
theorem d_M_setWord_18 : decode prog_12_method_8_code 18 = .ok (.iload_n 2, 1) := by decide +kernel
theorem d_M_setWord_19 : decode prog_12_method_8_code 19 = .ok (.sipush 256, 3) := by decide +kernel
theorem d_M_setWord_22 : decode prog_12_method_8_code 22 = .ok (.idiv, 1) := by decide +kernel
theorem d_M_setWord_23 : decode prog_12_method_8_code 23 = .ok (.sipush 256, 3) := by decide +kernel
theorem d_M_setWord_26 : decode prog_12_method_8_code 26 = .ok (.irem, 1) := by decide +kernel
theorem d_M_setWord_27 : decode prog_12_method_8_code 27 = .ok (.iastore, 1) := by decide +kernel
theorem d_M_setWord_28 : decode prog_12_method_8_code 28 = .ok (.return_, 1) := by decide +kernel
theorem d_M_say_0 : decode prog_12_method_9_code 0 = .ok (.aload_n 0, 1) := by decide +kernel
theorem d_M_say_1 : decode prog_12_method_9_code 1 = .ok (.aload_n 0, 1) := by decide +kernel
theorem d_M_say_2 : decode prog_12_method_9_code 2 = .ok (.getfield 73, 3) := by decide +kernel
theorem d_M_say_5 : decode prog_12_method_9_code 5 = .ok (.iload_n 1, 1) := by decide +kernel
theorem d_M_say_6 : decode prog_12_method_9_code 6 = .ok (.ior, 1) := by decide +kernel
theorem d_M_say_7 : decode prog_12_method_9_code 7 = .ok (.putfield 73, 3) := by decide +kernel
theorem d_M_say_10 : decode prog_12_method_9_code 10 = .ok (.iconst 1, 1) := by decide +kernel
theorem d_M_say_11 : decode prog_12_method_9_code 11 = .ok (.istore_n 2, 1) := by decide +kernel
theorem d_M_say_12 : decode prog_12_method_9_code 12 = .ok (.iload_n 2, 1) := by decide +kernel
theorem d_M_say_13 : decode prog_12_method_9_code 13 = .ok (.bipush 8, 2) := by decide +kernel
theorem d_M_say_15 : decode prog_12_method_9_code 15 = .ok (.if_icmp .ge 46, 3) := by decide +kernel
theorem d_M_say_18 : decode prog_12_method_9_code 18 = .ok (.aload_n 0, 1) := by decide +kernel
theorem d_M_say_19 : decode prog_12_method_9_code 19 = .ok (.aload_n 0, 1) := by decide +kernel
theorem d_M_say_20 : decode prog_12_method_9_code 20 = .ok (.getfield 76, 3) := by decide +kernel
theorem d_M_say_23 : decode prog_12_method_9_code 23 = .ok (.ifCond .ne 23, 3) := by decide +kernel
theorem d_M_say_26 : decode prog_12_method_9_code 26 = .ok (.iload_n 1, 1) := by decide +kernel
theorem d_M_say_27 : decode prog_12_method_9_code 27 = .ok (.iload_n 2, 1) := by decide +kernel
theorem d_M_say_28 : decode prog_12_method_9_code 28 = .ok (.idiv, 1) := by decide +kernel
theorem d_M_say_29 : decode prog_12_method_9_code 29 = .ok (.iconst 2, 1) := by decide +kernel
theorem d_M_say_30 : decode prog_12_method_9_code 30 = .ok (.irem, 1) := by decide +kernel
theorem d_M_say_31 : decode prog_12_method_9_code 31 = .ok (.iconst 1, 1) := by decide +kernel
theorem d_M_say_32 : decode prog_12_method_9_code 32 = .ok (.if_icmp .ne 18, 3) := by decide +kernel
theorem d_M_say_35 : decode prog_12_method_9_code 35 = .ok (.aload_n 0, 1) := by decide +kernel
theorem d_M_say_36 : decode prog_12_method_9_code 36 = .ok (.getfield 52, 3) := by decide +kernel
theorem d_M_say_39 : decode prog_12_method_9_code 39 = .ok (.iload_n 2, 1) := by decide +kernel
theorem d_M_say_40 : decode prog_12_method_9_code 40 = .ok (.idiv, 1) := by decide +kernel
theorem d_M_say_41 : decode prog_12_method_9_code 41 = .ok (.iconst 2, 1) := by decide +kernel
theorem d_M_say_42 : decode prog_12_method_9_code 42 = .ok (.irem, 1) := by decide +kernel
theorem d_M_say_43 : decode prog_12_method_9_code 43 = .ok (.ifCond .ne 7, 3) := by decide +kernel
theorem d_M_say_46 : decode prog_12_method_9_code 46 = .ok (.iconst 1, 1) := by decide +kernel
theorem d_M_say_47 : decode prog_12_method_9_code 47 = .ok (.goto 4, 3) := by decide +kernel
theorem d_M_say_50 : decode prog_12_method_9_code 50 = .ok (.iconst 0, 1) := by decide +kernel
theorem d_M_say_51 : decode prog_12_method_9_code 51 = .ok (.putfield 76, 3) := by decide +kernel
theorem d_M_say_54 : decode prog_12_method_9_code 54 = .ok (.iconst 2, 1) := by decide +kernel
theorem d_M_say_55 : decode prog_12_method_9_code 55 = .ok (.iload_n 2, 1) := by decide +kernel
theorem d_M_say_56 : decode prog_12_method_9_code 56 = .ok (.imul, 1) := by decide +kernel
theorem d_M_say_57 : decode prog_12_method_9_code 57 = .ok (.istore_n 2, 1) := by decide +kernel
theorem d_M_say_58 : decode prog_12_method_9_code 58 = .ok (.goto (-46), 3) := by decide +kernel
theorem d_M_say_61 : decode prog_12_method_9_code 61 = .ok (.return_, 1) := by decide +kernel
theorem d_M_status_0 : decode prog_12_method_10_code 0 = .ok (.iconst 0, 1) := by decide +kernel
theorem d_M_status_1 : decode prog_12_method_10_code 1 = .ok (.istore_n 1, 1) := by decide +kernel
theorem d_M_status_2 : decode prog_12_method_10_code 2 = .ok (.iconst 1, 1) := by decide +kernel
theorem d_M_status_3 : decode prog_12_method_10_code 3 = .ok (.istore_n 2, 1) := by decide +kernel
theorem d_M_status_4 : decode prog_12_method_10_code 4 = .ok (.iload_n 2, 1) := by decide +kernel
theorem d_M_status_5 : decode prog_12_method_10_code 5 = .ok (.bipush 64, 2) := by decide +kernel
theorem d_M_status_7 : decode prog_12_method_10_code 7 = .ok (.if_icmp .ge 43, 3) := by decide +kernel
theorem d_M_status_10 : decode prog_12_method_10_code 10 = .ok (.iload_n 1, 1) := by decide +kernel
theorem d_M_status_11 : decode prog_12_method_10_code 11 = .ok (.ifCond .ne 26, 3) := by decide +kernel
theorem d_M_status_14 : decode prog_12_method_10_code 14 = .ok (.aload_n 0, 1) := by decide +kernel
theorem d_M_status_15 : decode prog_12_method_10_code 15 = .ok (.getfield 55, 3) := by decide +kernel
theorem d_M_status_18 : decode prog_12_method_10_code 18 = .ok (.iload_n 2, 1) := by decide +kernel
theorem d_M_status_19 : decode prog_12_method_10_code 19 = .ok (.idiv, 1) := by decide +kernel
theorem d_M_status_20 : decode prog_12_method_10_code 20 = .ok (.iconst 2, 1) := by decide +kernel
theorem d_M_status_21 : decode prog_12_method_10_code 21 = .ok (.irem, 1) := by decide +kernel
theorem d_M_status_22 : decode prog_12_method_10_code 22 = .ok (.iconst 1, 1) := by decide +kernel
theorem d_M_status_23 : decode prog_12_method_10_code 23 = .ok (.if_icmp .ne 18, 3) := by decide +kernel
theorem d_M_status_26 : decode prog_12_method_10_code 26 = .ok (.aload_n 0, 1) := by decide +kernel
theorem d_M_status_27 : decode prog_12_method_10_code 27 = .ok (.getfield 52, 3) := by decide +kernel
theorem d_M_status_30 : decode prog_12_method_10_code 30 = .ok (.iload_n 2, 1) := by decide +kernel
theorem d_M_status_31 : decode prog_12_method_10_code 31 = .ok (.idiv, 1) := by decide +kernel
theorem d_M_status_32 : decode prog_12_method_10_code 32 = .ok (.iconst 2, 1) := by decide +kernel
theorem d_M_status_33 : decode prog_12_method_10_code 33 = .ok (.irem, 1) := by decide +kernel
theorem d_M_status_34 : decode prog_12_method_10_code 34 = .ok (.ifCond .ne 7, 3) := by decide +kernel
theorem d_M_status_37 : decode prog_12_method_10_code 37 = .ok (.iconst 1, 1) := by decide +kernel
theorem d_M_status_38 : decode prog_12_method_10_code 38 = .ok (.goto 4, 3) := by decide +kernel
theorem d_M_status_41 : decode prog_12_method_10_code 41 = .ok (.iconst 0, 1) := by decide +kernel
theorem d_M_status_42 : decode prog_12_method_10_code 42 = .ok (.istore_n 1, 1) := by decide +kernel
theorem d_M_status_43 : decode prog_12_method_10_code 43 = .ok (.iconst 2, 1) := by decide +kernel
theorem d_M_status_44 : decode prog_12_method_10_code 44 = .ok (.iload_n 2, 1) := by decide +kernel
theorem d_M_status_45 : decode prog_12_method_10_code 45 = .ok (.imul, 1) := by decide +kernel
theorem d_M_status_46 : decode prog_12_method_10_code 46 = .ok (.istore_n 2, 1) := by decide +kernel
theorem d_M_status_47 : decode prog_12_method_10_code 47 = .ok (.goto (-43), 3) := by decide +kernel
theorem d_M_status_50 : decode prog_12_method_10_code 50 = .ok (.aload_n 0, 1) := by decide +kernel
theorem d_M_status_51 : decode prog_12_method_10_code 51 = .ok (.getfield 55, 3) := by decide +kernel
theorem d_M_status_54 : decode prog_12_method_10_code 54 = .ok (.aload_n 0, 1) := by decide +kernel
theorem d_M_status_55 : decode prog_12_method_10_code 55 = .ok (.getfield 58, 3) := by decide +kernel
theorem d_M_status_58 : decode prog_12_method_10_code 58 = .ok (.iadd, 1) := by decide +kernel
theorem d_M_status_59 : decode prog_12_method_10_code 59 = .ok (.sipush 2048, 3) := by decide +kernel
theorem d_M_status_62 : decode prog_12_method_10_code 62 = .ok (.aload_n 0, 1) := by decide +kernel
theorem d_M_status_63 : decode prog_12_method_10_code 63 = .ok (.getfield 61, 3) := by decide +kernel
theorem d_M_status_66 : decode prog_12_method_10_code 66 = .ok (.imul, 1) := by decide +kernel
theorem d_M_status_67 : decode prog_12_method_10_code 67 = .ok (.iadd, 1) := by decide +kernel
theorem d_M_status_68 : decode prog_12_method_10_code 68 = .ok (.iload_n 1, 1) := by decide +kernel
theorem d_M_status_69 : decode prog_12_method_10_code 69 = .ok (.ifCond .eq 9, 3) := by decide +kernel
theorem d_M_status_72 : decode prog_12_method_10_code 72 = .ok (.sipush 128, 3) := by decide +kernel
theorem d_M_status_75 : decode prog_12_method_10_code 75 = .ok (.goto 4, 3) := by decide +kernel
theorem d_M_status_78 : decode prog_12_method_10_code 78 = .ok (.iconst 0, 1) := by decide +kernel
theorem d_M_status_79 : decode prog_12_method_10_code 79 = .ok (.iadd, 1) := by decide +kernel
theorem d_M_status_80 : decode prog_12_method_10_code 80 = .ok (.ireturn, 1) := by decide +kernel
theorem d_M_tags_0 : decode prog_12_method_11_code 0 = .ok (.iconst 0, 1) := by decide +kernel
theorem d_M_tags_1 : decode prog_12_method_11_code 1 = .ok (.istore_n 1, 1) := by decide +kernel
theorem d_M_tags_2 : decode prog_12_method_11_code 2 = .ok (.bipush 7, 2) := by decide +kernel
theorem d_M_tags_4 : decode prog_12_method_11_code 4 = .ok (.istore_n 2, 1) := by decide +kernel
theorem d_M_tags_5 : decode prog_12_method_11_code 5 = .ok (.iload_n 2, 1) := by decide +kernel
theorem d_M_tags_6 : decode prog_12_method_11_code 6 = .ok (.ifCond .lt 107, 3) := by decide +kernel
theorem d_M_tags_9 : decode prog_12_method_11_code 9 = .ok (.aload_n 0, 1) := by decide +kernel
theorem d_M_tags_10 : decode prog_12_method_11_code 10 = .ok (.getfield 13, 3) := by decide +kernel
theorem d_M_tags_13 : decode prog_12_method_11_code 13 = .ok (.iload_n 2, 1) := by decide +kernel
theorem d_M_tags_14 : decode prog_12_method_11_code 14 = .ok (.iaload, 1) := by decide +kernel
theorem d_M_tags_15 : decode prog_12_method_11_code 15 = .ok (.ldc 80, 2) := by decide +kernel
theorem d_M_tags_17 : decode prog_12_method_11_code 17 = .ok (.irem, 1) := by decide +kernel
theorem d_M_tags_18 : decode prog_12_method_11_code 18 = .ok (.istore_n 3, 1) := by decide +kernel
theorem d_M_tags_19 : decode prog_12_method_11_code 19 = .ok (.aload_n 0, 1) := by decide +kernel
theorem d_M_tags_20 : decode prog_12_method_11_code 20 = .ok (.getfield 16, 3) := by decide +kernel
theorem d_M_tags_23 : decode prog_12_method_11_code 23 = .ok (.iload_n 2, 1) := by decide +kernel
theorem d_M_tags_24 : decode prog_12_method_11_code 24 = .ok (.laload, 1) := by decide +kernel
theorem d_M_tags_25 : decode prog_12_method_11_code 25 = .ok (.bipush 63, 2) := by decide +kernel
theorem d_M_tags_27 : decode prog_12_method_11_code 27 = .ok (.lshr, 1) := by decide +kernel
theorem d_M_tags_28 : decode prog_12_method_11_code 28 = .ok (.lconst 1, 1) := by decide +kernel
theorem d_M_tags_29 : decode prog_12_method_11_code 29 = .ok (.land, 1) := by decide +kernel
theorem d_M_tags_30 : decode prog_12_method_11_code 30 = .ok (.lconst 1, 1) := by decide +kernel
theorem d_M_tags_31 : decode prog_12_method_11_code 31 = .ok (.lcmp, 1) := by decide +kernel
theorem d_M_tags_32 : decode prog_12_method_11_code 32 = .ok (.ifCond .ne 7, 3) := by decide +kernel
theorem d_M_tags_35 : decode prog_12_method_11_code 35 = .ok (.iconst 1, 1) := by decide +kernel
theorem d_M_tags_36 : decode prog_12_method_11_code 36 = .ok (.goto 4, 3) := by decide +kernel
theorem d_M_tags_39 : decode prog_12_method_11_code 39 = .ok (.iconst 0, 1) := by decide +kernel
theorem d_M_tags_40 : decode prog_12_method_11_code 40 = .ok (.istore 4, 2) := by decide +kernel
theorem d_M_tags_42 : decode prog_12_method_11_code 42 = .ok (.aload_n 0, 1) := by decide +kernel
theorem d_M_tags_43 : decode prog_12_method_11_code 43 = .ok (.getfield 20, 3) := by decide +kernel
theorem d_M_tags_46 : decode prog_12_method_11_code 46 = .ok (.iload_n 2, 1) := by decide +kernel
theorem d_M_tags_47 : decode prog_12_method_11_code 47 = .ok (.baload, 1) := by decide +kernel
theorem d_M_tags_48 : decode prog_12_method_11_code 48 = .ok (.ifCond .eq 7, 3) := by decide +kernel
theorem d_M_tags_51 : decode prog_12_method_11_code 51 = .ok (.iconst 3, 1) := by decide +kernel
theorem d_M_tags_52 : decode prog_12_method_11_code 52 = .ok (.goto 46, 3) := by decide +kernel
theorem d_M_tags_55 : decode prog_12_method_11_code 55 = .ok (.iload_n 3, 1) := by decide +kernel
theorem d_M_tags_56 : decode prog_12_method_11_code 56 = .ok (.sipush 32767, 3) := by decide +kernel
theorem d_M_tags_59 : decode prog_12_method_11_code 59 = .ok (.if_icmp .ge 18, 3) := by decide +kernel
theorem d_M_tags_62 : decode prog_12_method_11_code 62 = .ok (.aload_n 0, 1) := by decide +kernel
theorem d_M_tags_63 : decode prog_12_method_11_code 63 = .ok (.getfield 16, 3) := by decide +kernel
theorem d_M_tags_66 : decode prog_12_method_11_code 66 = .ok (.iload_n 2, 1) := by decide +kernel
theorem d_M_tags_67 : decode prog_12_method_11_code 67 = .ok (.laload, 1) := by decide +kernel
theorem d_M_tags_68 : decode prog_12_method_11_code 68 = .ok (.lconst 0, 1) := by decide +kernel
theorem d_M_tags_69 : decode prog_12_method_11_code 69 = .ok (.lcmp, 1) := by decide +kernel
theorem d_M_tags_70 : decode prog_12_method_11_code 70 = .ok (.ifCond .ne 7, 3) := by decide +kernel
theorem d_M_tags_73 : decode prog_12_method_11_code 73 = .ok (.iconst 1, 1) := by decide +kernel
theorem d_M_tags_74 : decode prog_12_method_11_code 74 = .ok (.goto 24, 3) := by decide +kernel
theorem d_M_tags_77 : decode prog_12_method_11_code 77 = .ok (.iload_n 3, 1) := by decide +kernel
theorem d_M_tags_78 : decode prog_12_method_11_code 78 = .ok (.ifCond .le 19, 3) := by decide +kernel
theorem d_M_tags_81 : decode prog_12_method_11_code 81 = .ok (.iload_n 3, 1) := by decide +kernel
theorem d_M_tags_82 : decode prog_12_method_11_code 82 = .ok (.sipush 32767, 3) := by decide +kernel
theorem d_M_tags_85 : decode prog_12_method_11_code 85 = .ok (.if_icmp .ge 12, 3) := by decide +kernel
theorem d_M_tags_88 : decode prog_12_method_11_code 88 = .ok (.iload 4, 2) := by decide +kernel
theorem d_M_tags_90 : decode prog_12_method_11_code 90 = .ok (.ifCond .eq 7, 3) := by decide +kernel
theorem d_M_tags_93 : decode prog_12_method_11_code 93 = .ok (.iconst 0, 1) := by decide +kernel
theorem d_M_tags_94 : decode prog_12_method_11_code 94 = .ok (.goto 4, 3) := by decide +kernel
theorem d_M_tags_97 : decode prog_12_method_11_code 97 = .ok (.iconst 2, 1) := by decide +kernel
theorem d_M_tags_98 : decode prog_12_method_11_code 98 = .ok (.istore 5, 2) := by decide +kernel
theorem d_M_tags_100 : decode prog_12_method_11_code 100 = .ok (.iconst 4, 1) := by decide +kernel
theorem d_M_tags_101 : decode prog_12_method_11_code 101 = .ok (.iload_n 1, 1) := by decide +kernel
theorem d_M_tags_102 : decode prog_12_method_11_code 102 = .ok (.imul, 1) := by decide +kernel
theorem d_M_tags_103 : decode prog_12_method_11_code 103 = .ok (.iload 5, 2) := by decide +kernel
theorem d_M_tags_105 : decode prog_12_method_11_code 105 = .ok (.iadd, 1) := by decide +kernel
theorem d_M_tags_106 : decode prog_12_method_11_code 106 = .ok (.istore_n 1, 1) := by decide +kernel
theorem d_M_tags_107 : decode prog_12_method_11_code 107 = .ok (.iinc 2 (-1), 3) := by decide +kernel
theorem d_M_tags_110 : decode prog_12_method_11_code 110 = .ok (.goto (-105), 3) := by decide +kernel
theorem d_M_tags_113 : decode prog_12_method_11_code 113 = .ok (.iload_n 1, 1) := by decide +kernel
theorem d_M_tags_114 : decode prog_12_method_11_code 114 = .ok (.ireturn, 1) := by decide +kernel
theorem d_M_want_0 : decode prog_12_method_12_code 0 = .ok (.aload_n 0, 1) := by decide +kernel
theorem d_M_want_1 : decode prog_12_method_12_code 1 = .ok (.getfield 20, 3) := by decide +kernel
theorem d_M_want_4 : decode prog_12_method_12_code 4 = .ok (.aload_n 0, 1) := by decide +kernel
theorem d_M_want_5 : decode prog_12_method_12_code 5 = .ok (.iload_n 1, 1) := by decide +kernel
theorem d_M_want_6 : decode prog_12_method_12_code 6 = .ok (.invokevirtual 81, 3) := by decide +kernel
theorem d_M_want_9 : decode prog_12_method_12_code 9 = .ok (.baload, 1) := by decide +kernel
theorem d_M_want_10 : decode prog_12_method_12_code 10 = .ok (.ifCond .eq 8, 3) := by decide +kernel
theorem d_M_want_13 : decode prog_12_method_12_code 13 = .ok (.aload_n 0, 1) := by decide +kernel
theorem d_M_want_14 : decode prog_12_method_12_code 14 = .ok (.iconst 1, 1) := by decide +kernel
theorem d_M_want_15 : decode prog_12_method_12_code 15 = .ok (.invokevirtual 85, 3) := by decide +kernel
theorem d_M_want_18 : decode prog_12_method_12_code 18 = .ok (.return_, 1) := by decide +kernel
theorem d_M_topOf_0 : decode prog_12_method_13_code 0 = .ok (.aload_n 0, 1) := by decide +kernel
theorem d_M_topOf_1 : decode prog_12_method_13_code 1 = .ok (.getfield 20, 3) := by decide +kernel
theorem d_M_topOf_4 : decode prog_12_method_13_code 4 = .ok (.aload_n 0, 1) := by decide +kernel
theorem d_M_topOf_5 : decode prog_12_method_13_code 5 = .ok (.iload_n 1, 1) := by decide +kernel
theorem d_M_topOf_6 : decode prog_12_method_13_code 6 = .ok (.invokevirtual 81, 3) := by decide +kernel
theorem d_M_topOf_9 : decode prog_12_method_13_code 9 = .ok (.baload, 1) := by decide +kernel
theorem d_M_topOf_10 : decode prog_12_method_13_code 10 = .ok (.ifCond .eq 8, 3) := by decide +kernel
theorem d_M_topOf_13 : decode prog_12_method_13_code 13 = .ok (.ldc 89, 2) := by decide +kernel
theorem d_M_topOf_15 : decode prog_12_method_13_code 15 = .ok (.goto 13, 3) := by decide +kernel
theorem d_M_topOf_18 : decode prog_12_method_13_code 18 = .ok (.aload_n 0, 1) := by decide +kernel
theorem d_M_topOf_19 : decode prog_12_method_13_code 19 = .ok (.getfield 13, 3) := by decide +kernel
theorem d_M_topOf_22 : decode prog_12_method_13_code 22 = .ok (.aload_n 0, 1) := by decide +kernel
theorem d_M_topOf_23 : decode prog_12_method_13_code 23 = .ok (.iload_n 1, 1) := by decide +kernel
theorem d_M_topOf_24 : decode prog_12_method_13_code 24 = .ok (.invokevirtual 81, 3) := by decide +kernel
theorem d_M_topOf_27 : decode prog_12_method_13_code 27 = .ok (.iaload, 1) := by decide +kernel
theorem d_M_topOf_28 : decode prog_12_method_13_code 28 = .ok (.ireturn, 1) := by decide +kernel
theorem d_M_fractionOf_0 : decode prog_12_method_14_code 0 = .ok (.aload_n 0, 1) := by decide +kernel
theorem d_M_fractionOf_1 : decode prog_12_method_14_code 1 = .ok (.getfield 20, 3) := by decide +kernel
theorem d_M_fractionOf_4 : decode prog_12_method_14_code 4 = .ok (.aload_n 0, 1) := by decide +kernel
theorem d_M_fractionOf_5 : decode prog_12_method_14_code 5 = .ok (.iload_n 1, 1) := by decide +kernel
theorem d_M_fractionOf_6 : decode prog_12_method_14_code 6 = .ok (.invokevirtual 81, 3) := by decide +kernel
theorem d_M_fractionOf_9 : decode prog_12_method_14_code 9 = .ok (.baload, 1) := by decide +kernel
theorem d_M_fractionOf_10 : decode prog_12_method_14_code 10 = .ok (.ifCond .eq 9, 3) := by decide +kernel
theorem d_M_fractionOf_13 : decode prog_12_method_14_code 13 = .ok (.ldc2_w 90, 3) := by decide +kernel
theorem d_M_fractionOf_16 : decode prog_12_method_14_code 16 = .ok (.goto 13, 3) := by decide +kernel
theorem d_M_fractionOf_19 : decode prog_12_method_14_code 19 = .ok (.aload_n 0, 1) := by decide +kernel
theorem d_M_fractionOf_20 : decode prog_12_method_14_code 20 = .ok (.getfield 16, 3) := by decide +kernel
theorem d_M_fractionOf_23 : decode prog_12_method_14_code 23 = .ok (.aload_n 0, 1) := by decide +kernel
theorem d_M_fractionOf_24 : decode prog_12_method_14_code 24 = .ok (.iload_n 1, 1) := by decide +kernel
theorem d_M_fractionOf_25 : decode prog_12_method_14_code 25 = .ok (.invokevirtual 81, 3) := by decide +kernel
theorem d_M_fractionOf_28 : decode prog_12_method_14_code 28 = .ok (.laload, 1) := by decide +kernel
theorem d_M_fractionOf_29 : decode prog_12_method_14_code 29 = .ok (.lreturn, 1) := by decide +kernel
theorem d_M_takeX_0 : decode prog_12_method_15_code 0 = .ok (.aload_n 0, 1) := by decide +kernel
theorem d_M_takeX_1 : decode prog_12_method_15_code 1 = .ok (.aload_n 0, 1) := by decide +kernel
theorem d_M_takeX_2 : decode prog_12_method_15_code 2 = .ok (.iload_n 1, 1) := by decide +kernel
theorem d_M_takeX_3 : decode prog_12_method_15_code 3 = .ok (.invokevirtual 92, 3) := by decide +kernel
theorem d_M_takeX_6 : decode prog_12_method_15_code 6 = .ok (.putfield 95, 3) := by decide +kernel
theorem d_M_takeX_9 : decode prog_12_method_15_code 9 = .ok (.aload_n 0, 1) := by decide +kernel
theorem d_M_takeX_10 : decode prog_12_method_15_code 10 = .ok (.aload_n 0, 1) := by decide +kernel
theorem d_M_takeX_11 : decode prog_12_method_15_code 11 = .ok (.iload_n 1, 1) := by decide +kernel
theorem d_M_takeX_12 : decode prog_12_method_15_code 12 = .ok (.invokevirtual 98, 3) := by decide +kernel
theorem d_M_takeX_15 : decode prog_12_method_15_code 15 = .ok (.putfield 102, 3) := by decide +kernel
theorem d_M_takeX_18 : decode prog_12_method_15_code 18 = .ok (.return_, 1) := by decide +kernel
theorem d_M_becomeX_0 : decode prog_12_method_16_code 0 = .ok (.aload_n 0, 1) := by decide +kernel
theorem d_M_becomeX_1 : decode prog_12_method_16_code 1 = .ok (.getfield 13, 3) := by decide +kernel
theorem d_M_becomeX_4 : decode prog_12_method_16_code 4 = .ok (.aload_n 0, 1) := by decide +kernel
theorem d_M_becomeX_5 : decode prog_12_method_16_code 5 = .ok (.iload_n 1, 1) := by decide +kernel
theorem d_M_becomeX_6 : decode prog_12_method_16_code 6 = .ok (.invokevirtual 81, 3) := by decide +kernel
theorem d_M_becomeX_9 : decode prog_12_method_16_code 9 = .ok (.aload_n 0, 1) := by decide +kernel
theorem d_M_becomeX_10 : decode prog_12_method_16_code 10 = .ok (.getfield 95, 3) := by decide +kernel
theorem d_M_becomeX_13 : decode prog_12_method_16_code 13 = .ok (.iastore, 1) := by decide +kernel
theorem d_M_becomeX_14 : decode prog_12_method_16_code 14 = .ok (.aload_n 0, 1) := by decide +kernel
theorem d_M_becomeX_15 : decode prog_12_method_16_code 15 = .ok (.getfield 16, 3) := by decide +kernel
theorem d_M_becomeX_18 : decode prog_12_method_16_code 18 = .ok (.aload_n 0, 1) := by decide +kernel
theorem d_M_becomeX_19 : decode prog_12_method_16_code 19 = .ok (.iload_n 1, 1) := by decide +kernel
theorem d_M_becomeX_20 : decode prog_12_method_16_code 20 = .ok (.invokevirtual 81, 3) := by decide +kernel
theorem d_M_becomeX_23 : decode prog_12_method_16_code 23 = .ok (.aload_n 0, 1) := by decide +kernel
theorem d_M_becomeX_24 : decode prog_12_method_16_code 24 = .ok (.getfield 102, 3) := by decide +kernel
theorem d_M_becomeX_27 : decode prog_12_method_16_code 27 = .ok (.lastore, 1) := by decide +kernel
theorem d_M_becomeX_28 : decode prog_12_method_16_code 28 = .ok (.aload_n 0, 1) := by decide +kernel
theorem d_M_becomeX_29 : decode prog_12_method_16_code 29 = .ok (.getfield 20, 3) := by decide +kernel
theorem d_M_becomeX_32 : decode prog_12_method_16_code 32 = .ok (.aload_n 0, 1) := by decide +kernel
theorem d_M_becomeX_33 : decode prog_12_method_16_code 33 = .ok (.iload_n 1, 1) := by decide +kernel
theorem d_M_becomeX_34 : decode prog_12_method_16_code 34 = .ok (.invokevirtual 81, 3) := by decide +kernel
theorem d_M_becomeX_37 : decode prog_12_method_16_code 37 = .ok (.iconst 0, 1) := by decide +kernel
theorem d_M_becomeX_38 : decode prog_12_method_16_code 38 = .ok (.bastore, 1) := by decide +kernel
theorem d_M_becomeX_39 : decode prog_12_method_16_code 39 = .ok (.return_, 1) := by decide +kernel
theorem d_M_pop_0 : decode prog_12_method_17_code 0 = .ok (.aload_n 0, 1) := by decide +kernel
theorem d_M_pop_1 : decode prog_12_method_17_code 1 = .ok (.getfield 20, 3) := by decide +kernel
theorem d_M_pop_4 : decode prog_12_method_17_code 4 = .ok (.aload_n 0, 1) := by decide +kernel
theorem d_M_pop_5 : decode prog_12_method_17_code 5 = .ok (.getfield 61, 3) := by decide +kernel
theorem d_M_pop_8 : decode prog_12_method_17_code 8 = .ok (.iconst 1, 1) := by decide +kernel
theorem d_M_pop_9 : decode prog_12_method_17_code 9 = .ok (.bastore, 1) := by decide +kernel
theorem d_M_pop_10 : decode prog_12_method_17_code 10 = .ok (.aload_n 0, 1) := by decide +kernel
theorem d_M_pop_11 : decode prog_12_method_17_code 11 = .ok (.aload_n 0, 1) := by decide +kernel
theorem d_M_pop_12 : decode prog_12_method_17_code 12 = .ok (.getfield 61, 3) := by decide +kernel
theorem d_M_pop_15 : decode prog_12_method_17_code 15 = .ok (.iconst 1, 1) := by decide +kernel
theorem d_M_pop_16 : decode prog_12_method_17_code 16 = .ok (.iadd, 1) := by decide +kernel
theorem d_M_pop_17 : decode prog_12_method_17_code 17 = .ok (.bipush 8, 2) := by decide +kernel
theorem d_M_pop_19 : decode prog_12_method_17_code 19 = .ok (.irem, 1) := by decide +kernel
theorem d_M_pop_20 : decode prog_12_method_17_code 20 = .ok (.putfield 61, 3) := by decide +kernel
theorem d_M_pop_23 : decode prog_12_method_17_code 23 = .ok (.return_, 1) := by decide +kernel
theorem d_M_isFull_0 : decode prog_12_method_18_code 0 = .ok (.aload_n 0, 1) := by decide +kernel
theorem d_M_isFull_1 : decode prog_12_method_18_code 1 = .ok (.getfield 20, 3) := by decide +kernel
theorem d_M_isFull_4 : decode prog_12_method_18_code 4 = .ok (.aload_n 0, 1) := by decide +kernel
theorem d_M_isFull_5 : decode prog_12_method_18_code 5 = .ok (.bipush 7, 2) := by decide +kernel
theorem d_M_isFull_7 : decode prog_12_method_18_code 7 = .ok (.invokevirtual 81, 3) := by decide +kernel
theorem d_M_isFull_10 : decode prog_12_method_18_code 10 = .ok (.baload, 1) := by decide +kernel
theorem d_M_isFull_11 : decode prog_12_method_18_code 11 = .ok (.ifCond .ne 7, 3) := by decide +kernel
theorem d_M_isFull_14 : decode prog_12_method_18_code 14 = .ok (.iconst 1, 1) := by decide +kernel
theorem d_M_isFull_15 : decode prog_12_method_18_code 15 = .ok (.goto 4, 3) := by decide +kernel
theorem d_M_isFull_18 : decode prog_12_method_18_code 18 = .ok (.iconst 0, 1) := by decide +kernel
theorem d_M_isFull_19 : decode prog_12_method_18_code 19 = .ok (.istore_n 1, 1) := by decide +kernel
theorem d_M_isFull_20 : decode prog_12_method_18_code 20 = .ok (.iload_n 1, 1) := by decide +kernel
theorem d_M_isFull_21 : decode prog_12_method_18_code 21 = .ok (.ifCond .eq 8, 3) := by decide +kernel
theorem d_M_isFull_24 : decode prog_12_method_18_code 24 = .ok (.aload_n 0, 1) := by decide +kernel
theorem d_M_isFull_25 : decode prog_12_method_18_code 25 = .ok (.iconst 1, 1) := by decide +kernel
theorem d_M_isFull_26 : decode prog_12_method_18_code 26 = .ok (.invokevirtual 85, 3) := by decide +kernel
theorem d_M_isFull_29 : decode prog_12_method_18_code 29 = .ok (.iload_n 1, 1) := by decide +kernel
theorem d_M_isFull_30 : decode prog_12_method_18_code 30 = .ok (.ireturn, 1) := by decide +kernel
theorem d_M_push_0 : decode prog_12_method_19_code 0 = .ok (.aload_n 0, 1) := by decide +kernel
theorem d_M_push_1 : decode prog_12_method_19_code 1 = .ok (.getfield 76, 3) := by decide +kernel
theorem d_M_push_4 : decode prog_12_method_19_code 4 = .ok (.ifCond .eq 4, 3) := by decide +kernel
theorem d_M_push_7 : decode prog_12_method_19_code 7 = .ok (.return_, 1) := by decide +kernel
theorem d_M_push_8 : decode prog_12_method_19_code 8 = .ok (.aload_n 0, 1) := by decide +kernel
theorem d_M_push_9 : decode prog_12_method_19_code 9 = .ok (.aload_n 0, 1) := by decide +kernel
theorem d_M_push_10 : decode prog_12_method_19_code 10 = .ok (.getfield 61, 3) := by decide +kernel
theorem d_M_push_13 : decode prog_12_method_19_code 13 = .ok (.bipush 7, 2) := by decide +kernel
theorem d_M_push_15 : decode prog_12_method_19_code 15 = .ok (.iadd, 1) := by decide +kernel
theorem d_M_push_16 : decode prog_12_method_19_code 16 = .ok (.bipush 8, 2) := by decide +kernel
theorem d_M_push_18 : decode prog_12_method_19_code 18 = .ok (.irem, 1) := by decide +kernel
theorem d_M_push_19 : decode prog_12_method_19_code 19 = .ok (.putfield 61, 3) := by decide +kernel
theorem d_M_push_22 : decode prog_12_method_19_code 22 = .ok (.iload_n 1, 1) := by decide +kernel
theorem d_M_push_23 : decode prog_12_method_19_code 23 = .ok (.ifCond .eq 16, 3) := by decide +kernel
theorem d_M_push_26 : decode prog_12_method_19_code 26 = .ok (.aload_n 0, 1) := by decide +kernel
theorem d_M_push_27 : decode prog_12_method_19_code 27 = .ok (.ldc 89, 2) := by decide +kernel
theorem d_M_push_29 : decode prog_12_method_19_code 29 = .ok (.putfield 95, 3) := by decide +kernel
theorem d_M_push_32 : decode prog_12_method_19_code 32 = .ok (.aload_n 0, 1) := by decide +kernel
theorem d_M_push_33 : decode prog_12_method_19_code 33 = .ok (.ldc2_w 90, 3) := by decide +kernel
theorem d_M_push_36 : decode prog_12_method_19_code 36 = .ok (.putfield 102, 3) := by decide +kernel
theorem d_M_push_39 : decode prog_12_method_19_code 39 = .ok (.aload_n 0, 1) := by decide +kernel
theorem d_M_push_40 : decode prog_12_method_19_code 40 = .ok (.iconst 0, 1) := by decide +kernel
theorem d_M_push_41 : decode prog_12_method_19_code 41 = .ok (.invokevirtual 106, 3) := by decide +kernel
theorem d_M_push_44 : decode prog_12_method_19_code 44 = .ok (.return_, 1) := by decide +kernel
theorem d_M_kindOf_0 : decode prog_12_method_20_code 0 = .ok (.iload_n 2, 1) := by decide +kernel
theorem d_M_kindOf_1 : decode prog_12_method_20_code 1 = .ok (.bipush 64, 2) := by decide +kernel
theorem d_M_kindOf_3 : decode prog_12_method_20_code 3 = .ok (.idiv, 1) := by decide +kernel
theorem d_M_kindOf_4 : decode prog_12_method_20_code 4 = .ok (.istore_n 3, 1) := by decide +kernel
theorem d_M_kindOf_5 : decode prog_12_method_20_code 5 = .ok (.iload_n 2, 1) := by decide +kernel
theorem d_M_kindOf_6 : decode prog_12_method_20_code 6 = .ok (.bipush 8, 2) := by decide +kernel
theorem d_M_kindOf_8 : decode prog_12_method_20_code 8 = .ok (.idiv, 1) := by decide +kernel
theorem d_M_kindOf_9 : decode prog_12_method_20_code 9 = .ok (.bipush 8, 2) := by decide +kernel
theorem d_M_kindOf_11 : decode prog_12_method_20_code 11 = .ok (.irem, 1) := by decide +kernel
theorem d_M_kindOf_12 : decode prog_12_method_20_code 12 = .ok (.istore 4, 2) := by decide +kernel
theorem d_M_kindOf_14 : decode prog_12_method_20_code 14 = .ok (.iload_n 2, 1) := by decide +kernel
theorem d_M_kindOf_15 : decode prog_12_method_20_code 15 = .ok (.bipush 8, 2) := by decide +kernel
theorem d_M_kindOf_17 : decode prog_12_method_20_code 17 = .ok (.irem, 1) := by decide +kernel
theorem d_M_kindOf_18 : decode prog_12_method_20_code 18 = .ok (.istore 5, 2) := by decide +kernel
theorem d_M_kindOf_20 : decode prog_12_method_20_code 20 = .ok (.iload_n 3, 1) := by decide +kernel
theorem d_M_kindOf_21 : decode prog_12_method_20_code 21 = .ok (.iconst 3, 1) := by decide +kernel
theorem d_M_kindOf_22 : decode prog_12_method_20_code 22 = .ok (.if_icmp .ge 147, 3) := by decide +kernel
theorem d_M_kindOf_25 : decode prog_12_method_20_code 25 = .ok (.iload_n 1, 1) := by decide +kernel
theorem d_M_kindOf_26 : decode prog_12_method_20_code 26 = .ok (.iconst 2, 1) := by decide +kernel
theorem d_M_kindOf_27 : decode prog_12_method_20_code 27 = .ok (.irem, 1) := by decide +kernel
theorem d_M_kindOf_28 : decode prog_12_method_20_code 28 = .ok (.ifCond .ne 5, 3) := by decide +kernel
theorem d_M_kindOf_31 : decode prog_12_method_20_code 31 = .ok (.iconst 0, 1) := by decide +kernel
theorem d_M_kindOf_32 : decode prog_12_method_20_code 32 = .ok (.ireturn, 1) := by decide +kernel
theorem d_M_kindOf_33 : decode prog_12_method_20_code 33 = .ok (.iload_n 1, 1) := by decide +kernel
theorem d_M_kindOf_34 : decode prog_12_method_20_code 34 = .ok (.iconst 1, 1) := by decide +kernel
theorem d_M_kindOf_35 : decode prog_12_method_20_code 35 = .ok (.if_icmp .ne 17, 3) := by decide +kernel
theorem d_M_kindOf_38 : decode prog_12_method_20_code 38 = .ok (.iload 4, 2) := by decide +kernel
theorem d_M_kindOf_40 : decode prog_12_method_20_code 40 = .ok (.iconst 1, 1) := by decide +kernel
theorem d_M_kindOf_41 : decode prog_12_method_20_code 41 = .ok (.if_icmp .eq 7, 3) := by decide +kernel
theorem d_M_kindOf_44 : decode prog_12_method_20_code 44 = .ok (.iconst 1, 1) := by decide +kernel
theorem d_M_kindOf_45 : decode prog_12_method_20_code 45 = .ok (.goto 111, 3) := by decide +kernel
theorem d_M_kindOf_48 : decode prog_12_method_20_code 48 = .ok (.iconst 0, 1) := by decide +kernel
theorem d_M_kindOf_49 : decode prog_12_method_20_code 49 = .ok (.goto 107, 3) := by decide +kernel
theorem d_M_kindOf_52 : decode prog_12_method_20_code 52 = .ok (.iload_n 1, 1) := by decide +kernel
theorem d_M_kindOf_53 : decode prog_12_method_20_code 53 = .ok (.iconst 3, 1) := by decide +kernel
theorem d_M_kindOf_54 : decode prog_12_method_20_code 54 = .ok (.if_icmp .ne 41, 3) := by decide +kernel
theorem d_M_kindOf_57 : decode prog_12_method_20_code 57 = .ok (.iload 4, 2) := by decide +kernel
theorem d_M_kindOf_59 : decode prog_12_method_20_code 59 = .ok (.ifCond .eq 28, 3) := by decide +kernel
theorem d_M_kindOf_62 : decode prog_12_method_20_code 62 = .ok (.iload 4, 2) := by decide +kernel
theorem d_M_kindOf_64 : decode prog_12_method_20_code 64 = .ok (.iconst 2, 1) := by decide +kernel
theorem d_M_kindOf_65 : decode prog_12_method_20_code 65 = .ok (.if_icmp .eq 22, 3) := by decide +kernel
theorem d_M_kindOf_68 : decode prog_12_method_20_code 68 = .ok (.iload 4, 2) := by decide +kernel
theorem d_M_kindOf_70 : decode prog_12_method_20_code 70 = .ok (.iconst 3, 1) := by decide +kernel
theorem d_M_kindOf_71 : decode prog_12_method_20_code 71 = .ok (.if_icmp .eq 16, 3) := by decide +kernel
theorem d_M_kindOf_74 : decode prog_12_method_20_code 74 = .ok (.iload 4, 2) := by decide +kernel
theorem d_M_kindOf_76 : decode prog_12_method_20_code 76 = .ok (.iconst 5, 1) := by decide +kernel
theorem d_M_kindOf_77 : decode prog_12_method_20_code 77 = .ok (.if_icmp .eq 10, 3) := by decide +kernel
theorem d_M_kindOf_80 : decode prog_12_method_20_code 80 = .ok (.iload 4, 2) := by decide +kernel
theorem d_M_kindOf_82 : decode prog_12_method_20_code 82 = .ok (.bipush 7, 2) := by decide +kernel
theorem d_M_kindOf_84 : decode prog_12_method_20_code 84 = .ok (.if_icmp .ne 7, 3) := by decide +kernel
theorem d_M_kindOf_87 : decode prog_12_method_20_code 87 = .ok (.iconst 1, 1) := by decide +kernel
theorem d_M_kindOf_88 : decode prog_12_method_20_code 88 = .ok (.goto 68, 3) := by decide +kernel
theorem d_M_kindOf_91 : decode prog_12_method_20_code 91 = .ok (.iconst 0, 1) := by decide +kernel
theorem d_M_kindOf_92 : decode prog_12_method_20_code 92 = .ok (.goto 64, 3) := by decide +kernel
theorem d_M_kindOf_95 : decode prog_12_method_20_code 95 = .ok (.iload_n 1, 1) := by decide +kernel
theorem d_M_kindOf_96 : decode prog_12_method_20_code 96 = .ok (.iconst 5, 1) := by decide +kernel
theorem d_M_kindOf_97 : decode prog_12_method_20_code 97 = .ok (.if_icmp .ne 48, 3) := by decide +kernel
theorem d_M_kindOf_100 : decode prog_12_method_20_code 100 = .ok (.iload 4, 2) := by decide +kernel
theorem d_M_kindOf_102 : decode prog_12_method_20_code 102 = .ok (.ifCond .eq 35, 3) := by decide +kernel
theorem d_M_kindOf_105 : decode prog_12_method_20_code 105 = .ok (.iload 4, 2) := by decide +kernel
theorem d_M_kindOf_107 : decode prog_12_method_20_code 107 = .ok (.iconst 2, 1) := by decide +kernel
theorem d_M_kindOf_108 : decode prog_12_method_20_code 108 = .ok (.if_icmp .eq 29, 3) := by decide +kernel
theorem d_M_kindOf_111 : decode prog_12_method_20_code 111 = .ok (.iload 4, 2) := by decide +kernel
theorem d_M_kindOf_113 : decode prog_12_method_20_code 113 = .ok (.iconst 3, 1) := by decide +kernel
theorem d_M_kindOf_114 : decode prog_12_method_20_code 114 = .ok (.if_icmp .eq 23, 3) := by decide +kernel
theorem d_M_kindOf_117 : decode prog_12_method_20_code 117 = .ok (.iload 4, 2) := by decide +kernel
theorem d_M_kindOf_119 : decode prog_12_method_20_code 119 = .ok (.iconst 4, 1) := by decide +kernel
theorem d_M_kindOf_120 : decode prog_12_method_20_code 120 = .ok (.if_icmp .eq 17, 3) := by decide +kernel
theorem d_M_kindOf_123 : decode prog_12_method_20_code 123 = .ok (.iload 4, 2) := by decide +kernel
theorem d_M_kindOf_125 : decode prog_12_method_20_code 125 = .ok (.bipush 6, 2) := by decide +kernel
theorem d_M_kindOf_127 : decode prog_12_method_20_code 127 = .ok (.if_icmp .eq 10, 3) := by decide +kernel
theorem d_M_kindOf_130 : decode prog_12_method_20_code 130 = .ok (.iload 4, 2) := by decide +kernel
theorem d_M_kindOf_132 : decode prog_12_method_20_code 132 = .ok (.bipush 7, 2) := by decide +kernel
theorem d_M_kindOf_134 : decode prog_12_method_20_code 134 = .ok (.if_icmp .ne 7, 3) := by decide +kernel
theorem d_M_kindOf_137 : decode prog_12_method_20_code 137 = .ok (.iconst 1, 1) := by decide +kernel
theorem d_M_kindOf_138 : decode prog_12_method_20_code 138 = .ok (.goto 18, 3) := by decide +kernel
theorem d_M_kindOf_141 : decode prog_12_method_20_code 141 = .ok (.iconst 0, 1) := by decide +kernel
theorem d_M_kindOf_142 : decode prog_12_method_20_code 142 = .ok (.goto 14, 3) := by decide +kernel
theorem d_M_kindOf_145 : decode prog_12_method_20_code 145 = .ok (.iload 4, 2) := by decide +kernel
theorem d_M_kindOf_147 : decode prog_12_method_20_code 147 = .ok (.iconst 1, 1) := by decide +kernel
theorem d_M_kindOf_148 : decode prog_12_method_20_code 148 = .ok (.if_icmp .eq 7, 3) := by decide +kernel
theorem d_M_kindOf_151 : decode prog_12_method_20_code 151 = .ok (.iconst 1, 1) := by decide +kernel
theorem d_M_kindOf_152 : decode prog_12_method_20_code 152 = .ok (.goto 4, 3) := by decide +kernel
theorem d_M_kindOf_155 : decode prog_12_method_20_code 155 = .ok (.iconst 0, 1) := by decide +kernel
theorem d_M_kindOf_156 : decode prog_12_method_20_code 156 = .ok (.istore 6, 2) := by decide +kernel
theorem d_M_kindOf_158 : decode prog_12_method_20_code 158 = .ok (.iload 6, 2) := by decide +kernel
theorem d_M_kindOf_160 : decode prog_12_method_20_code 160 = .ok (.ifCond .eq 7, 3) := by decide +kernel
theorem d_M_kindOf_163 : decode prog_12_method_20_code 163 = .ok (.iconst 0, 1) := by decide +kernel
theorem d_M_kindOf_164 : decode prog_12_method_20_code 164 = .ok (.goto 4, 3) := by decide +kernel
theorem d_M_kindOf_167 : decode prog_12_method_20_code 167 = .ok (.iconst 1, 1) := by decide +kernel
theorem d_M_kindOf_168 : decode prog_12_method_20_code 168 = .ok (.ireturn, 1) := by decide +kernel
theorem d_M_kindOf_169 : decode prog_12_method_20_code 169 = .ok (.iload_n 1, 1) := by decide +kernel
theorem d_M_kindOf_170 : decode prog_12_method_20_code 170 = .ok (.iconst 1, 1) := by decide +kernel
theorem d_M_kindOf_171 : decode prog_12_method_20_code 171 = .ok (.if_icmp .ne 16, 3) := by decide +kernel
theorem d_M_kindOf_174 : decode prog_12_method_20_code 174 = .ok (.iload 4, 2) := by decide +kernel
theorem d_M_kindOf_176 : decode prog_12_method_20_code 176 = .ok (.bipush 6, 2) := by decide +kernel
theorem d_M_kindOf_178 : decode prog_12_method_20_code 178 = .ok (.if_icmp .ne 9, 3) := by decide +kernel
theorem d_M_kindOf_181 : decode prog_12_method_20_code 181 = .ok (.iload 5, 2) := by decide +kernel
theorem d_M_kindOf_183 : decode prog_12_method_20_code 183 = .ok (.iconst 4, 1) := by decide +kernel
theorem d_M_kindOf_184 : decode prog_12_method_20_code 184 = .ok (.if_icmp .lt 21, 3) := by decide +kernel
theorem d_M_kindOf_187 : decode prog_12_method_20_code 187 = .ok (.iload_n 1, 1) := by decide +kernel
theorem d_M_kindOf_188 : decode prog_12_method_20_code 188 = .ok (.iconst 1, 1) := by decide +kernel
theorem d_M_kindOf_189 : decode prog_12_method_20_code 189 = .ok (.if_icmp .ne 18, 3) := by decide +kernel
theorem d_M_kindOf_192 : decode prog_12_method_20_code 192 = .ok (.iload 4, 2) := by decide +kernel
theorem d_M_kindOf_194 : decode prog_12_method_20_code 194 = .ok (.bipush 7, 2) := by decide +kernel
theorem d_M_kindOf_196 : decode prog_12_method_20_code 196 = .ok (.if_icmp .ne 11, 3) := by decide +kernel
theorem d_M_kindOf_199 : decode prog_12_method_20_code 199 = .ok (.iload 5, 2) := by decide +kernel
theorem d_M_kindOf_201 : decode prog_12_method_20_code 201 = .ok (.iconst 1, 1) := by decide +kernel
theorem d_M_kindOf_202 : decode prog_12_method_20_code 202 = .ok (.if_icmp .ne 5, 3) := by decide +kernel
theorem d_M_kindOf_205 : decode prog_12_method_20_code 205 = .ok (.iconst 2, 1) := by decide +kernel
theorem d_M_kindOf_206 : decode prog_12_method_20_code 206 = .ok (.ireturn, 1) := by decide +kernel
theorem d_M_kindOf_207 : decode prog_12_method_20_code 207 = .ok (.iload_n 1, 1) := by decide +kernel
theorem d_M_kindOf_208 : decode prog_12_method_20_code 208 = .ok (.tableswitch 263 0 6 #[44, 46, 263, 180, 198, 216, 239], 44) := by decide +kernel
theorem d_M_kindOf_252 : decode prog_12_method_20_code 252 = .ok (.iconst 0, 1) := by decide +kernel
theorem d_M_kindOf_253 : decode prog_12_method_20_code 253 = .ok (.ireturn, 1) := by decide +kernel
theorem d_M_kindOf_254 : decode prog_12_method_20_code 254 = .ok (.iload 4, 2) := by decide +kernel
theorem d_M_kindOf_256 : decode prog_12_method_20_code 256 = .ok (.iconst 2, 1) := by decide +kernel
theorem d_M_kindOf_257 : decode prog_12_method_20_code 257 = .ok (.if_icmp .lt 113, 3) := by decide +kernel
theorem d_M_kindOf_260 : decode prog_12_method_20_code 260 = .ok (.iload 4, 2) := by decide +kernel
theorem d_M_kindOf_262 : decode prog_12_method_20_code 262 = .ok (.iconst 2, 1) := by decide +kernel
theorem d_M_kindOf_263 : decode prog_12_method_20_code 263 = .ok (.if_icmp .ne 8, 3) := by decide +kernel
theorem d_M_kindOf_266 : decode prog_12_method_20_code 266 = .ok (.iload 5, 2) := by decide +kernel
theorem d_M_kindOf_268 : decode prog_12_method_20_code 268 = .ok (.ifCond .eq 102, 3) := by decide +kernel
theorem d_M_kindOf_271 : decode prog_12_method_20_code 271 = .ok (.iload 4, 2) := by decide +kernel
theorem d_M_kindOf_273 : decode prog_12_method_20_code 273 = .ok (.iconst 4, 1) := by decide +kernel
theorem d_M_kindOf_274 : decode prog_12_method_20_code 274 = .ok (.if_icmp .ne 26, 3) := by decide +kernel
theorem d_M_kindOf_277 : decode prog_12_method_20_code 277 = .ok (.iload 5, 2) := by decide +kernel
theorem d_M_kindOf_279 : decode prog_12_method_20_code 279 = .ok (.ifCond .eq 91, 3) := by decide +kernel
theorem d_M_kindOf_282 : decode prog_12_method_20_code 282 = .ok (.iload 5, 2) := by decide +kernel
theorem d_M_kindOf_284 : decode prog_12_method_20_code 284 = .ok (.iconst 1, 1) := by decide +kernel
theorem d_M_kindOf_285 : decode prog_12_method_20_code 285 = .ok (.if_icmp .eq 85, 3) := by decide +kernel
theorem d_M_kindOf_288 : decode prog_12_method_20_code 288 = .ok (.iload 5, 2) := by decide +kernel
theorem d_M_kindOf_290 : decode prog_12_method_20_code 290 = .ok (.iconst 4, 1) := by decide +kernel
theorem d_M_kindOf_291 : decode prog_12_method_20_code 291 = .ok (.if_icmp .eq 79, 3) := by decide +kernel
theorem d_M_kindOf_294 : decode prog_12_method_20_code 294 = .ok (.iload 5, 2) := by decide +kernel
theorem d_M_kindOf_296 : decode prog_12_method_20_code 296 = .ok (.iconst 5, 1) := by decide +kernel
theorem d_M_kindOf_297 : decode prog_12_method_20_code 297 = .ok (.if_icmp .eq 73, 3) := by decide +kernel
theorem d_M_kindOf_300 : decode prog_12_method_20_code 300 = .ok (.iload 4, 2) := by decide +kernel
theorem d_M_kindOf_302 : decode prog_12_method_20_code 302 = .ok (.iconst 5, 1) := by decide +kernel
theorem d_M_kindOf_303 : decode prog_12_method_20_code 303 = .ok (.if_icmp .ne 10, 3) := by decide +kernel
theorem d_M_kindOf_306 : decode prog_12_method_20_code 306 = .ok (.iload 5, 2) := by decide +kernel
theorem d_M_kindOf_308 : decode prog_12_method_20_code 308 = .ok (.bipush 7, 2) := by decide +kernel
theorem d_M_kindOf_310 : decode prog_12_method_20_code 310 = .ok (.if_icmp .ne 60, 3) := by decide +kernel
theorem d_M_kindOf_313 : decode prog_12_method_20_code 313 = .ok (.iload 4, 2) := by decide +kernel
theorem d_M_kindOf_315 : decode prog_12_method_20_code 315 = .ok (.bipush 6, 2) := by decide +kernel
theorem d_M_kindOf_317 : decode prog_12_method_20_code 317 = .ok (.if_icmp .ne 23, 3) := by decide +kernel
theorem d_M_kindOf_320 : decode prog_12_method_20_code 320 = .ok (.iload 5, 2) := by decide +kernel
theorem d_M_kindOf_322 : decode prog_12_method_20_code 322 = .ok (.iconst 4, 1) := by decide +kernel
theorem d_M_kindOf_323 : decode prog_12_method_20_code 323 = .ok (.if_icmp .eq 47, 3) := by decide +kernel
theorem d_M_kindOf_326 : decode prog_12_method_20_code 326 = .ok (.iload 5, 2) := by decide +kernel
theorem d_M_kindOf_328 : decode prog_12_method_20_code 328 = .ok (.bipush 6, 2) := by decide +kernel
theorem d_M_kindOf_330 : decode prog_12_method_20_code 330 = .ok (.if_icmp .eq 40, 3) := by decide +kernel
theorem d_M_kindOf_333 : decode prog_12_method_20_code 333 = .ok (.iload 5, 2) := by decide +kernel
theorem d_M_kindOf_335 : decode prog_12_method_20_code 335 = .ok (.bipush 7, 2) := by decide +kernel
theorem d_M_kindOf_337 : decode prog_12_method_20_code 337 = .ok (.if_icmp .eq 33, 3) := by decide +kernel
theorem d_M_kindOf_340 : decode prog_12_method_20_code 340 = .ok (.iload 4, 2) := by decide +kernel
theorem d_M_kindOf_342 : decode prog_12_method_20_code 342 = .ok (.bipush 7, 2) := by decide +kernel
theorem d_M_kindOf_344 : decode prog_12_method_20_code 344 = .ok (.if_icmp .ne 30, 3) := by decide +kernel
theorem d_M_kindOf_347 : decode prog_12_method_20_code 347 = .ok (.iload 5, 2) := by decide +kernel
theorem d_M_kindOf_349 : decode prog_12_method_20_code 349 = .ok (.ifCond .eq 21, 3) := by decide +kernel
theorem d_M_kindOf_352 : decode prog_12_method_20_code 352 = .ok (.iload 5, 2) := by decide +kernel
theorem d_M_kindOf_354 : decode prog_12_method_20_code 354 = .ok (.iconst 2, 1) := by decide +kernel
theorem d_M_kindOf_355 : decode prog_12_method_20_code 355 = .ok (.if_icmp .eq 15, 3) := by decide +kernel
theorem d_M_kindOf_358 : decode prog_12_method_20_code 358 = .ok (.iload 5, 2) := by decide +kernel
theorem d_M_kindOf_360 : decode prog_12_method_20_code 360 = .ok (.iconst 4, 1) := by decide +kernel
theorem d_M_kindOf_361 : decode prog_12_method_20_code 361 = .ok (.if_icmp .eq 9, 3) := by decide +kernel
theorem d_M_kindOf_364 : decode prog_12_method_20_code 364 = .ok (.iload 5, 2) := by decide +kernel
theorem d_M_kindOf_366 : decode prog_12_method_20_code 366 = .ok (.iconst 5, 1) := by decide +kernel
theorem d_M_kindOf_367 : decode prog_12_method_20_code 367 = .ok (.if_icmp .ne 7, 3) := by decide +kernel
theorem d_M_kindOf_370 : decode prog_12_method_20_code 370 = .ok (.iconst 1, 1) := by decide +kernel
theorem d_M_kindOf_371 : decode prog_12_method_20_code 371 = .ok (.goto 4, 3) := by decide +kernel
theorem d_M_kindOf_374 : decode prog_12_method_20_code 374 = .ok (.iconst 0, 1) := by decide +kernel
theorem d_M_kindOf_375 : decode prog_12_method_20_code 375 = .ok (.istore 6, 2) := by decide +kernel
theorem d_M_kindOf_377 : decode prog_12_method_20_code 377 = .ok (.iload 6, 2) := by decide +kernel
theorem d_M_kindOf_379 : decode prog_12_method_20_code 379 = .ok (.ifCond .eq 7, 3) := by decide +kernel
theorem d_M_kindOf_382 : decode prog_12_method_20_code 382 = .ok (.iconst 0, 1) := by decide +kernel
theorem d_M_kindOf_383 : decode prog_12_method_20_code 383 = .ok (.goto 4, 3) := by decide +kernel
theorem d_M_kindOf_386 : decode prog_12_method_20_code 386 = .ok (.iconst 1, 1) := by decide +kernel
theorem d_M_kindOf_387 : decode prog_12_method_20_code 387 = .ok (.ireturn, 1) := by decide +kernel
theorem d_M_kindOf_388 : decode prog_12_method_20_code 388 = .ok (.iload 4, 2) := by decide +kernel
theorem d_M_kindOf_390 : decode prog_12_method_20_code 390 = .ok (.iconst 4, 1) := by decide +kernel
theorem d_M_kindOf_391 : decode prog_12_method_20_code 391 = .ok (.if_icmp .ne 13, 3) := by decide +kernel
theorem d_M_kindOf_394 : decode prog_12_method_20_code 394 = .ok (.iload 5, 2) := by decide +kernel
theorem d_M_kindOf_396 : decode prog_12_method_20_code 396 = .ok (.iconst 4, 1) := by decide +kernel
theorem d_M_kindOf_397 : decode prog_12_method_20_code 397 = .ok (.if_icmp .ge 7, 3) := by decide +kernel
theorem d_M_kindOf_400 : decode prog_12_method_20_code 400 = .ok (.iconst 0, 1) := by decide +kernel
theorem d_M_kindOf_401 : decode prog_12_method_20_code 401 = .ok (.goto 4, 3) := by decide +kernel
theorem d_M_kindOf_404 : decode prog_12_method_20_code 404 = .ok (.iconst 1, 1) := by decide +kernel
theorem d_M_kindOf_405 : decode prog_12_method_20_code 405 = .ok (.ireturn, 1) := by decide +kernel
theorem d_M_kindOf_406 : decode prog_12_method_20_code 406 = .ok (.iload 4, 2) := by decide +kernel
theorem d_M_kindOf_408 : decode prog_12_method_20_code 408 = .ok (.iconst 2, 1) := by decide +kernel
theorem d_M_kindOf_409 : decode prog_12_method_20_code 409 = .ok (.if_icmp .eq 9, 3) := by decide +kernel
theorem d_M_kindOf_412 : decode prog_12_method_20_code 412 = .ok (.iload 4, 2) := by decide +kernel
theorem d_M_kindOf_414 : decode prog_12_method_20_code 414 = .ok (.iconst 3, 1) := by decide +kernel
theorem d_M_kindOf_415 : decode prog_12_method_20_code 415 = .ok (.if_icmp .ne 7, 3) := by decide +kernel
theorem d_M_kindOf_418 : decode prog_12_method_20_code 418 = .ok (.iconst 1, 1) := by decide +kernel
theorem d_M_kindOf_419 : decode prog_12_method_20_code 419 = .ok (.goto 4, 3) := by decide +kernel
theorem d_M_kindOf_422 : decode prog_12_method_20_code 422 = .ok (.iconst 0, 1) := by decide +kernel
theorem d_M_kindOf_423 : decode prog_12_method_20_code 423 = .ok (.ireturn, 1) := by decide +kernel
theorem d_M_kindOf_424 : decode prog_12_method_20_code 424 = .ok (.iload 4, 2) := by decide +kernel
theorem d_M_kindOf_426 : decode prog_12_method_20_code 426 = .ok (.ifCond .eq 15, 3) := by decide +kernel
theorem d_M_kindOf_429 : decode prog_12_method_20_code 429 = .ok (.iload 4, 2) := by decide +kernel
theorem d_M_kindOf_431 : decode prog_12_method_20_code 431 = .ok (.iconst 2, 1) := by decide +kernel
theorem d_M_kindOf_432 : decode prog_12_method_20_code 432 = .ok (.if_icmp .eq 9, 3) := by decide +kernel
theorem d_M_kindOf_435 : decode prog_12_method_20_code 435 = .ok (.iload 4, 2) := by decide +kernel
theorem d_M_kindOf_437 : decode prog_12_method_20_code 437 = .ok (.iconst 3, 1) := by decide +kernel
theorem d_M_kindOf_438 : decode prog_12_method_20_code 438 = .ok (.if_icmp .ne 7, 3) := by decide +kernel
theorem d_M_kindOf_441 : decode prog_12_method_20_code 441 = .ok (.iconst 0, 1) := by decide +kernel
theorem d_M_kindOf_442 : decode prog_12_method_20_code 442 = .ok (.goto 4, 3) := by decide +kernel
theorem d_M_kindOf_445 : decode prog_12_method_20_code 445 = .ok (.iconst 1, 1) := by decide +kernel
theorem d_M_kindOf_446 : decode prog_12_method_20_code 446 = .ok (.ireturn, 1) := by decide +kernel
theorem d_M_kindOf_447 : decode prog_12_method_20_code 447 = .ok (.iload 4, 2) := by decide +kernel
theorem d_M_kindOf_449 : decode prog_12_method_20_code 449 = .ok (.iconst 2, 1) := by decide +kernel
theorem d_M_kindOf_450 : decode prog_12_method_20_code 450 = .ok (.if_icmp .eq 15, 3) := by decide +kernel
theorem d_M_kindOf_453 : decode prog_12_method_20_code 453 = .ok (.iload 4, 2) := by decide +kernel
theorem d_M_kindOf_455 : decode prog_12_method_20_code 455 = .ok (.iconst 3, 1) := by decide +kernel
theorem d_M_kindOf_456 : decode prog_12_method_20_code 456 = .ok (.if_icmp .ne 13, 3) := by decide +kernel
theorem d_M_kindOf_459 : decode prog_12_method_20_code 459 = .ok (.iload 5, 2) := by decide +kernel
theorem d_M_kindOf_461 : decode prog_12_method_20_code 461 = .ok (.iconst 1, 1) := by decide +kernel
theorem d_M_kindOf_462 : decode prog_12_method_20_code 462 = .ok (.if_icmp .eq 7, 3) := by decide +kernel
theorem d_M_kindOf_465 : decode prog_12_method_20_code 465 = .ok (.iconst 1, 1) := by decide +kernel
theorem d_M_kindOf_466 : decode prog_12_method_20_code 466 = .ok (.goto 4, 3) := by decide +kernel
theorem d_M_kindOf_469 : decode prog_12_method_20_code 469 = .ok (.iconst 0, 1) := by decide +kernel
theorem d_M_kindOf_470 : decode prog_12_method_20_code 470 = .ok (.ireturn, 1) := by decide +kernel
theorem d_M_kindOf_471 : decode prog_12_method_20_code 471 = .ok (.iconst 1, 1) := by decide +kernel
theorem d_M_kindOf_472 : decode prog_12_method_20_code 472 = .ok (.ireturn, 1) := by decide +kernel
theorem d_M_operandOf_0 : decode prog_12_method_21_code 0 = .ok (.iload_n 0, 1) := by decide +kernel
theorem d_M_operandOf_1 : decode prog_12_method_21_code 1 = .ok (.tableswitch 114 0 6 #[43, 51, 45, 79, 47, 91, 49], 43) := by decide +kernel
theorem d_M_operandOf_44 : decode prog_12_method_21_code 44 = .ok (.iconst 3, 1) := by decide +kernel
theorem d_M_operandOf_45 : decode prog_12_method_21_code 45 = .ok (.ireturn, 1) := by decide +kernel
theorem d_M_operandOf_46 : decode prog_12_method_21_code 46 = .ok (.iconst 1, 1) := by decide +kernel
theorem d_M_operandOf_47 : decode prog_12_method_21_code 47 = .ok (.ireturn, 1) := by decide +kernel
theorem d_M_operandOf_48 : decode prog_12_method_21_code 48 = .ok (.iconst 4, 1) := by decide +kernel
theorem d_M_operandOf_49 : decode prog_12_method_21_code 49 = .ok (.ireturn, 1) := by decide +kernel
theorem d_M_operandOf_50 : decode prog_12_method_21_code 50 = .ok (.iconst 0, 1) := by decide +kernel
theorem d_M_operandOf_51 : decode prog_12_method_21_code 51 = .ok (.ireturn, 1) := by decide +kernel
theorem d_M_operandOf_52 : decode prog_12_method_21_code 52 = .ok (.iload_n 1, 1) := by decide +kernel
theorem d_M_operandOf_53 : decode prog_12_method_21_code 53 = .ok (.iconst 4, 1) := by decide +kernel
theorem d_M_operandOf_54 : decode prog_12_method_21_code 54 = .ok (.if_icmp .ge 7, 3) := by decide +kernel
theorem d_M_operandOf_57 : decode prog_12_method_21_code 57 = .ok (.iconst 3, 1) := by decide +kernel
theorem d_M_operandOf_58 : decode prog_12_method_21_code 58 = .ok (.goto 21, 3) := by decide +kernel
theorem d_M_operandOf_61 : decode prog_12_method_21_code 61 = .ok (.iload_n 1, 1) := by decide +kernel
theorem d_M_operandOf_62 : decode prog_12_method_21_code 62 = .ok (.iconst 4, 1) := by decide +kernel
theorem d_M_operandOf_63 : decode prog_12_method_21_code 63 = .ok (.if_icmp .eq 9, 3) := by decide +kernel
theorem d_M_operandOf_66 : decode prog_12_method_21_code 66 = .ok (.iload_n 1, 1) := by decide +kernel
theorem d_M_operandOf_67 : decode prog_12_method_21_code 67 = .ok (.bipush 6, 2) := by decide +kernel
theorem d_M_operandOf_69 : decode prog_12_method_21_code 69 = .ok (.if_icmp .ne 8, 3) := by decide +kernel
theorem d_M_operandOf_72 : decode prog_12_method_21_code 72 = .ok (.bipush 8, 2) := by decide +kernel
theorem d_M_operandOf_74 : decode prog_12_method_21_code 74 = .ok (.goto 5, 3) := by decide +kernel
theorem d_M_operandOf_77 : decode prog_12_method_21_code 77 = .ok (.bipush 7, 2) := by decide +kernel
theorem d_M_operandOf_79 : decode prog_12_method_21_code 79 = .ok (.ireturn, 1) := by decide +kernel
theorem d_M_operandOf_80 : decode prog_12_method_21_code 80 = .ok (.iload_n 1, 1) := by decide +kernel
theorem d_M_operandOf_81 : decode prog_12_method_21_code 81 = .ok (.iconst 4, 1) := by decide +kernel
theorem d_M_operandOf_82 : decode prog_12_method_21_code 82 = .ok (.if_icmp .ge 7, 3) := by decide +kernel
theorem d_M_operandOf_85 : decode prog_12_method_21_code 85 = .ok (.iconst 1, 1) := by decide +kernel
theorem d_M_operandOf_86 : decode prog_12_method_21_code 86 = .ok (.goto 5, 3) := by decide +kernel
theorem d_M_operandOf_89 : decode prog_12_method_21_code 89 = .ok (.bipush 6, 2) := by decide +kernel
theorem d_M_operandOf_91 : decode prog_12_method_21_code 91 = .ok (.ireturn, 1) := by decide +kernel
theorem d_M_operandOf_92 : decode prog_12_method_21_code 92 = .ok (.iload_n 1, 1) := by decide +kernel
theorem d_M_operandOf_93 : decode prog_12_method_21_code 93 = .ok (.iconst 4, 1) := by decide +kernel
theorem d_M_operandOf_94 : decode prog_12_method_21_code 94 = .ok (.if_icmp .ge 7, 3) := by decide +kernel
theorem d_M_operandOf_97 : decode prog_12_method_21_code 97 = .ok (.iconst 4, 1) := by decide +kernel
theorem d_M_operandOf_98 : decode prog_12_method_21_code 98 = .ok (.goto 16, 3) := by decide +kernel
theorem d_M_operandOf_101 : decode prog_12_method_21_code 101 = .ok (.iload_n 1, 1) := by decide +kernel
theorem d_M_operandOf_102 : decode prog_12_method_21_code 102 = .ok (.bipush 7, 2) := by decide +kernel
theorem d_M_operandOf_104 : decode prog_12_method_21_code 104 = .ok (.if_icmp .ne 8, 3) := by decide +kernel
theorem d_M_operandOf_107 : decode prog_12_method_21_code 107 = .ok (.bipush 7, 2) := by decide +kernel
theorem d_M_operandOf_109 : decode prog_12_method_21_code 109 = .ok (.goto 5, 3) := by decide +kernel
theorem d_M_operandOf_112 : decode prog_12_method_21_code 112 = .ok (.bipush 9, 2) := by decide +kernel
theorem d_M_operandOf_114 : decode prog_12_method_21_code 114 = .ok (.ireturn, 1) := by decide +kernel
theorem d_M_operandOf_115 : decode prog_12_method_21_code 115 = .ok (.iload_n 1, 1) := by decide +kernel
theorem d_M_operandOf_116 : decode prog_12_method_21_code 116 = .ok (.iconst 4, 1) := by decide +kernel
theorem d_M_operandOf_117 : decode prog_12_method_21_code 117 = .ok (.if_icmp .ge 7, 3) := by decide +kernel
theorem d_M_operandOf_120 : decode prog_12_method_21_code 120 = .ok (.iconst 0, 1) := by decide +kernel
theorem d_M_operandOf_121 : decode prog_12_method_21_code 121 = .ok (.goto 19, 3) := by decide +kernel
theorem d_M_operandOf_124 : decode prog_12_method_21_code 124 = .ok (.iload_n 1, 1) := by decide +kernel
theorem d_M_operandOf_125 : decode prog_12_method_21_code 125 = .ok (.iconst 4, 1) := by decide +kernel
theorem d_M_operandOf_126 : decode prog_12_method_21_code 126 = .ok (.if_icmp .eq 9, 3) := by decide +kernel
theorem d_M_operandOf_129 : decode prog_12_method_21_code 129 = .ok (.iload_n 1, 1) := by decide +kernel
theorem d_M_operandOf_130 : decode prog_12_method_21_code 130 = .ok (.bipush 6, 2) := by decide +kernel
theorem d_M_operandOf_132 : decode prog_12_method_21_code 132 = .ok (.if_icmp .ne 7, 3) := by decide +kernel
theorem d_M_operandOf_135 : decode prog_12_method_21_code 135 = .ok (.iconst 5, 1) := by decide +kernel
theorem d_M_operandOf_136 : decode prog_12_method_21_code 136 = .ok (.goto 4, 3) := by decide +kernel
theorem d_M_operandOf_139 : decode prog_12_method_21_code 139 = .ok (.iconst 2, 1) := by decide +kernel
theorem d_M_operandOf_140 : decode prog_12_method_21_code 140 = .ok (.ireturn, 1) := by decide +kernel
theorem d_M_isWritten_0 : decode prog_12_method_22_code 0 = .ok (.iload_n 0, 1) := by decide +kernel
theorem d_M_isWritten_1 : decode prog_12_method_22_code 1 = .ok (.iconst 2, 1) := by decide +kernel
theorem d_M_isWritten_2 : decode prog_12_method_22_code 2 = .ok (.irem, 1) := by decide +kernel
theorem d_M_isWritten_3 : decode prog_12_method_22_code 3 = .ok (.iconst 1, 1) := by decide +kernel
theorem d_M_isWritten_4 : decode prog_12_method_22_code 4 = .ok (.if_icmp .ne 29, 3) := by decide +kernel
theorem d_M_isWritten_7 : decode prog_12_method_22_code 7 = .ok (.iload_n 1, 1) := by decide +kernel
theorem d_M_isWritten_8 : decode prog_12_method_22_code 8 = .ok (.iconst 2, 1) := by decide +kernel
theorem d_M_isWritten_9 : decode prog_12_method_22_code 9 = .ok (.if_icmp .eq 20, 3) := by decide +kernel
theorem d_M_isWritten_12 : decode prog_12_method_22_code 12 = .ok (.iload_n 1, 1) := by decide +kernel
theorem d_M_isWritten_13 : decode prog_12_method_22_code 13 = .ok (.iconst 3, 1) := by decide +kernel
theorem d_M_isWritten_14 : decode prog_12_method_22_code 14 = .ok (.if_icmp .eq 15, 3) := by decide +kernel
theorem d_M_isWritten_17 : decode prog_12_method_22_code 17 = .ok (.iload_n 1, 1) := by decide +kernel
theorem d_M_isWritten_18 : decode prog_12_method_22_code 18 = .ok (.bipush 6, 2) := by decide +kernel
theorem d_M_isWritten_20 : decode prog_12_method_22_code 20 = .ok (.if_icmp .eq 9, 3) := by decide +kernel
theorem d_M_isWritten_23 : decode prog_12_method_22_code 23 = .ok (.iload_n 1, 1) := by decide +kernel
theorem d_M_isWritten_24 : decode prog_12_method_22_code 24 = .ok (.bipush 7, 2) := by decide +kernel
theorem d_M_isWritten_26 : decode prog_12_method_22_code 26 = .ok (.if_icmp .ne 7, 3) := by decide +kernel
theorem d_M_isWritten_29 : decode prog_12_method_22_code 29 = .ok (.iconst 1, 1) := by decide +kernel
theorem d_M_isWritten_30 : decode prog_12_method_22_code 30 = .ok (.goto 4, 3) := by decide +kernel
theorem d_M_isWritten_33 : decode prog_12_method_22_code 33 = .ok (.iconst 0, 1) := by decide +kernel
theorem d_M_isWritten_34 : decode prog_12_method_22_code 34 = .ok (.ireturn, 1) := by decide +kernel
theorem d_M_bytesOf_0 : decode prog_12_method_23_code 0 = .ok (.iload_n 0, 1) := by decide +kernel
theorem d_M_bytesOf_1 : decode prog_12_method_23_code 1 = .ok (.ifCond .eq 9, 3) := by decide +kernel
theorem d_M_bytesOf_4 : decode prog_12_method_23_code 4 = .ok (.iload_n 0, 1) := by decide +kernel
theorem d_M_bytesOf_5 : decode prog_12_method_23_code 5 = .ok (.bipush 7, 2) := by decide +kernel
theorem d_M_bytesOf_7 : decode prog_12_method_23_code 7 = .ok (.if_icmp .ne 7, 3) := by decide +kernel
theorem d_M_bytesOf_10 : decode prog_12_method_23_code 10 = .ok (.iconst 2, 1) := by decide +kernel
theorem d_M_bytesOf_11 : decode prog_12_method_23_code 11 = .ok (.goto 56, 3) := by decide +kernel
theorem d_M_bytesOf_14 : decode prog_12_method_23_code 14 = .ok (.iload_n 0, 1) := by decide +kernel
theorem d_M_bytesOf_15 : decode prog_12_method_23_code 15 = .ok (.iconst 1, 1) := by decide +kernel
theorem d_M_bytesOf_16 : decode prog_12_method_23_code 16 = .ok (.if_icmp .eq 8, 3) := by decide +kernel
theorem d_M_bytesOf_19 : decode prog_12_method_23_code 19 = .ok (.iload_n 0, 1) := by decide +kernel
theorem d_M_bytesOf_20 : decode prog_12_method_23_code 20 = .ok (.iconst 3, 1) := by decide +kernel
theorem d_M_bytesOf_21 : decode prog_12_method_23_code 21 = .ok (.if_icmp .ne 7, 3) := by decide +kernel
theorem d_M_bytesOf_24 : decode prog_12_method_23_code 24 = .ok (.iconst 4, 1) := by decide +kernel
theorem d_M_bytesOf_25 : decode prog_12_method_23_code 25 = .ok (.goto 42, 3) := by decide +kernel
theorem d_M_bytesOf_28 : decode prog_12_method_23_code 28 = .ok (.iload_n 0, 1) := by decide +kernel
theorem d_M_bytesOf_29 : decode prog_12_method_23_code 29 = .ok (.iconst 2, 1) := by decide +kernel
theorem d_M_bytesOf_30 : decode prog_12_method_23_code 30 = .ok (.if_icmp .eq 8, 3) := by decide +kernel
theorem d_M_bytesOf_33 : decode prog_12_method_23_code 33 = .ok (.iload_n 0, 1) := by decide +kernel
theorem d_M_bytesOf_34 : decode prog_12_method_23_code 34 = .ok (.iconst 4, 1) := by decide +kernel
theorem d_M_bytesOf_35 : decode prog_12_method_23_code 35 = .ok (.if_icmp .ne 8, 3) := by decide +kernel
theorem d_M_bytesOf_38 : decode prog_12_method_23_code 38 = .ok (.bipush 8, 2) := by decide +kernel
theorem d_M_bytesOf_40 : decode prog_12_method_23_code 40 = .ok (.goto 27, 3) := by decide +kernel
theorem d_M_bytesOf_43 : decode prog_12_method_23_code 43 = .ok (.iload_n 0, 1) := by decide +kernel
theorem d_M_bytesOf_44 : decode prog_12_method_23_code 44 = .ok (.bipush 7, 2) := by decide +kernel
theorem d_M_bytesOf_46 : decode prog_12_method_23_code 46 = .ok (.if_icmp .ge 8, 3) := by decide +kernel
theorem d_M_bytesOf_49 : decode prog_12_method_23_code 49 = .ok (.bipush 10, 2) := by decide +kernel
theorem d_M_bytesOf_51 : decode prog_12_method_23_code 51 = .ok (.goto 16, 3) := by decide +kernel
theorem d_M_bytesOf_54 : decode prog_12_method_23_code 54 = .ok (.iload_n 0, 1) := by decide +kernel
theorem d_M_bytesOf_55 : decode prog_12_method_23_code 55 = .ok (.bipush 8, 2) := by decide +kernel
theorem d_M_bytesOf_57 : decode prog_12_method_23_code 57 = .ok (.if_icmp .ne 8, 3) := by decide +kernel
theorem d_M_bytesOf_60 : decode prog_12_method_23_code 60 = .ok (.bipush 14, 2) := by decide +kernel
theorem d_M_bytesOf_62 : decode prog_12_method_23_code 62 = .ok (.goto 5, 3) := by decide +kernel
theorem d_M_bytesOf_65 : decode prog_12_method_23_code 65 = .ok (.bipush 94, 2) := by decide +kernel
theorem d_M_bytesOf_67 : decode prog_12_method_23_code 67 = .ok (.ireturn, 1) := by decide +kernel
theorem d_M_needs_0 : decode prog_12_method_24_code 0 = .ok (.aload_n 0, 1) := by decide +kernel
theorem d_M_needs_1 : decode prog_12_method_24_code 1 = .ok (.iload_n 1, 1) := by decide +kernel
theorem d_M_needs_2 : decode prog_12_method_24_code 2 = .ok (.ifCond .lt 20, 3) := by decide +kernel
theorem d_M_needs_5 : decode prog_12_method_24_code 5 = .ok (.iload_n 1, 1) := by decide +kernel
theorem d_M_needs_6 : decode prog_12_method_24_code 6 = .ok (.bipush 7, 2) := by decide +kernel
theorem d_M_needs_8 : decode prog_12_method_24_code 8 = .ok (.if_icmp .gt 14, 3) := by decide +kernel
theorem d_M_needs_11 : decode prog_12_method_24_code 11 = .ok (.iload_n 2, 1) := by decide +kernel
theorem d_M_needs_12 : decode prog_12_method_24_code 12 = .ok (.ifCond .lt 10, 3) := by decide +kernel
theorem d_M_needs_15 : decode prog_12_method_24_code 15 = .ok (.iload_n 2, 1) := by decide +kernel
theorem d_M_needs_16 : decode prog_12_method_24_code 16 = .ok (.sipush 255, 3) := by decide +kernel
theorem d_M_needs_19 : decode prog_12_method_24_code 19 = .ok (.if_icmp .le 7, 3) := by decide +kernel
theorem d_M_needs_22 : decode prog_12_method_24_code 22 = .ok (.iconst 1, 1) := by decide +kernel
theorem d_M_needs_23 : decode prog_12_method_24_code 23 = .ok (.goto 4, 3) := by decide +kernel
theorem d_M_needs_26 : decode prog_12_method_24_code 26 = .ok (.iconst 0, 1) := by decide +kernel
theorem d_M_needs_27 : decode prog_12_method_24_code 27 = .ok (.putfield 48, 3) := by decide +kernel
theorem d_M_needs_30 : decode prog_12_method_24_code 30 = .ok (.aload_n 0, 1) := by decide +kernel
theorem d_M_needs_31 : decode prog_12_method_24_code 31 = .ok (.getfield 48, 3) := by decide +kernel
theorem d_M_needs_34 : decode prog_12_method_24_code 34 = .ok (.ifCond .gt 19, 3) := by decide +kernel
theorem d_M_needs_37 : decode prog_12_method_24_code 37 = .ok (.iload_n 2, 1) := by decide +kernel
theorem d_M_needs_38 : decode prog_12_method_24_code 38 = .ok (.sipush 192, 3) := by decide +kernel
theorem d_M_needs_41 : decode prog_12_method_24_code 41 = .ok (.if_icmp .ge 12, 3) := by decide +kernel
theorem d_M_needs_44 : decode prog_12_method_24_code 44 = .ok (.aload_n 0, 1) := by decide +kernel
theorem d_M_needs_45 : decode prog_12_method_24_code 45 = .ok (.iload_n 1, 1) := by decide +kernel
theorem d_M_needs_46 : decode prog_12_method_24_code 46 = .ok (.iload_n 2, 1) := by decide +kernel
theorem d_M_needs_47 : decode prog_12_method_24_code 47 = .ok (.invokevirtual 109, 3) := by decide +kernel
theorem d_M_needs_50 : decode prog_12_method_24_code 50 = .ok (.ifCond .eq 5, 3) := by decide +kernel
theorem d_M_needs_53 : decode prog_12_method_24_code 53 = .ok (.iconst 0, 1) := by decide +kernel
theorem d_M_needs_54 : decode prog_12_method_24_code 54 = .ok (.ireturn, 1) := by decide +kernel
theorem d_M_needs_55 : decode prog_12_method_24_code 55 = .ok (.iload_n 1, 1) := by decide +kernel
theorem d_M_needs_56 : decode prog_12_method_24_code 56 = .ok (.iload_n 2, 1) := by decide +kernel
theorem d_M_needs_57 : decode prog_12_method_24_code 57 = .ok (.bipush 8, 2) := by decide +kernel
theorem d_M_needs_59 : decode prog_12_method_24_code 59 = .ok (.idiv, 1) := by decide +kernel
theorem d_M_needs_60 : decode prog_12_method_24_code 60 = .ok (.bipush 8, 2) := by decide +kernel
theorem d_M_needs_62 : decode prog_12_method_24_code 62 = .ok (.irem, 1) := by decide +kernel
theorem d_M_needs_63 : decode prog_12_method_24_code 63 = .ok (.invokestatic 113, 3) := by decide +kernel
theorem d_M_needs_66 : decode prog_12_method_24_code 66 = .ok (.invokestatic 116, 3) := by decide +kernel
theorem d_M_needs_69 : decode prog_12_method_24_code 69 = .ok (.istore_n 3, 1) := by decide +kernel
theorem d_M_needs_70 : decode prog_12_method_24_code 70 = .ok (.iload_n 1, 1) := by decide +kernel
theorem d_M_needs_71 : decode prog_12_method_24_code 71 = .ok (.iload_n 2, 1) := by decide +kernel
theorem d_M_needs_72 : decode prog_12_method_24_code 72 = .ok (.bipush 8, 2) := by decide +kernel
theorem d_M_needs_74 : decode prog_12_method_24_code 74 = .ok (.idiv, 1) := by decide +kernel
theorem d_M_needs_75 : decode prog_12_method_24_code 75 = .ok (.bipush 8, 2) := by decide +kernel
theorem d_M_needs_77 : decode prog_12_method_24_code 77 = .ok (.irem, 1) := by decide +kernel
theorem d_M_needs_78 : decode prog_12_method_24_code 78 = .ok (.invokestatic 119, 3) := by decide +kernel
theorem d_M_needs_81 : decode prog_12_method_24_code 81 = .ok (.ifCond .eq 8, 3) := by decide +kernel
theorem d_M_needs_84 : decode prog_12_method_24_code 84 = .ok (.iload_n 3, 1) := by decide +kernel
theorem d_M_needs_85 : decode prog_12_method_24_code 85 = .ok (.ineg, 1) := by decide +kernel
theorem d_M_needs_86 : decode prog_12_method_24_code 86 = .ok (.goto 4, 3) := by decide +kernel
theorem d_M_needs_89 : decode prog_12_method_24_code 89 = .ok (.iload_n 3, 1) := by decide +kernel
theorem d_M_needs_90 : decode prog_12_method_24_code 90 = .ok (.ireturn, 1) := by decide +kernel
theorem d_M_high_0 : decode prog_12_method_25_code 0 = .ok (.lload_n 0, 1) := by decide +kernel
theorem d_M_high_1 : decode prog_12_method_25_code 1 = .ok (.bipush 32, 2) := by decide +kernel
theorem d_M_high_3 : decode prog_12_method_25_code 3 = .ok (.lshr, 1) := by decide +kernel
theorem d_M_high_4 : decode prog_12_method_25_code 4 = .ok (.l2i, 1) := by decide +kernel
theorem d_M_high_5 : decode prog_12_method_25_code 5 = .ok (.ireturn, 1) := by decide +kernel
theorem d_M_operate_0 : decode prog_12_method_26_code 0 = .ok (.aload_n 0, 1) := by decide +kernel
theorem d_M_operate_1 : decode prog_12_method_26_code 1 = .ok (.getfield 27, 3) := by decide +kernel
theorem d_M_operate_4 : decode prog_12_method_26_code 4 = .ok (.aload_n 0, 1) := by decide +kernel
theorem d_M_operate_5 : decode prog_12_method_26_code 5 = .ok (.getfield 52, 3) := by decide +kernel
theorem d_M_operate_8 : decode prog_12_method_26_code 8 = .ok (.invokevirtual 123, 3) := by decide +kernel
theorem d_M_operate_11 : decode prog_12_method_26_code 11 = .ok (.aload_n 0, 1) := by decide +kernel
theorem d_M_operate_12 : decode prog_12_method_26_code 12 = .ok (.getfield 27, 3) := by decide +kernel
theorem d_M_operate_15 : decode prog_12_method_26_code 15 = .ok (.iconst 0, 1) := by decide +kernel
theorem d_M_operate_16 : decode prog_12_method_26_code 16 = .ok (.iload_n 2, 1) := by decide +kernel
theorem d_M_operate_17 : decode prog_12_method_26_code 17 = .ok (.lload_n 3, 1) := by decide +kernel
theorem d_M_operate_18 : decode prog_12_method_26_code 18 = .ok (.invokestatic 125, 3) := by decide +kernel
theorem d_M_operate_21 : decode prog_12_method_26_code 21 = .ok (.lload_n 3, 1) := by decide +kernel
theorem d_M_operate_22 : decode prog_12_method_26_code 22 = .ok (.l2i, 1) := by decide +kernel
theorem d_M_operate_23 : decode prog_12_method_26_code 23 = .ok (.invokevirtual 129, 3) := by decide +kernel
theorem d_M_operate_26 : decode prog_12_method_26_code 26 = .ok (.aload_n 0, 1) := by decide +kernel
theorem d_M_operate_27 : decode prog_12_method_26_code 27 = .ok (.getfield 27, 3) := by decide +kernel
theorem d_M_operate_30 : decode prog_12_method_26_code 30 = .ok (.iconst 1, 1) := by decide +kernel
theorem d_M_operate_31 : decode prog_12_method_26_code 31 = .ok (.iload 5, 2) := by decide +kernel
theorem d_M_operate_33 : decode prog_12_method_26_code 33 = .ok (.lload 6, 2) := by decide +kernel
theorem d_M_operate_35 : decode prog_12_method_26_code 35 = .ok (.invokestatic 125, 3) := by decide +kernel
theorem d_M_operate_38 : decode prog_12_method_26_code 38 = .ok (.lload 6, 2) := by decide +kernel
theorem d_M_operate_40 : decode prog_12_method_26_code 40 = .ok (.l2i, 1) := by decide +kernel
theorem d_M_operate_41 : decode prog_12_method_26_code 41 = .ok (.invokevirtual 129, 3) := by decide +kernel
theorem d_M_operate_44 : decode prog_12_method_26_code 44 = .ok (.aload_n 0, 1) := by decide +kernel
theorem d_M_operate_45 : decode prog_12_method_26_code 45 = .ok (.aload_n 0, 1) := by decide +kernel
theorem d_M_operate_46 : decode prog_12_method_26_code 46 = .ok (.getfield 27, 3) := by decide +kernel
theorem d_M_operate_49 : decode prog_12_method_26_code 49 = .ok (.iload_n 1, 1) := by decide +kernel
theorem d_M_operate_50 : decode prog_12_method_26_code 50 = .ok (.iconst 0, 1) := by decide +kernel
theorem d_M_operate_51 : decode prog_12_method_26_code 51 = .ok (.iconst 1, 1) := by decide +kernel
theorem d_M_operate_52 : decode prog_12_method_26_code 52 = .ok (.iconst 2, 1) := by decide +kernel
theorem d_M_operate_53 : decode prog_12_method_26_code 53 = .ok (.invokevirtual 133, 3) := by decide +kernel
theorem d_M_operate_56 : decode prog_12_method_26_code 56 = .ok (.invokevirtual 85, 3) := by decide +kernel
theorem d_M_operate_59 : decode prog_12_method_26_code 59 = .ok (.aload_n 0, 1) := by decide +kernel
theorem d_M_operate_60 : decode prog_12_method_26_code 60 = .ok (.aload_n 0, 1) := by decide +kernel
theorem d_M_operate_61 : decode prog_12_method_26_code 61 = .ok (.getfield 27, 3) := by decide +kernel
theorem d_M_operate_64 : decode prog_12_method_26_code 64 = .ok (.iconst 2, 1) := by decide +kernel
theorem d_M_operate_65 : decode prog_12_method_26_code 65 = .ok (.iconst 0, 1) := by decide +kernel
theorem d_M_operate_66 : decode prog_12_method_26_code 66 = .ok (.invokevirtual 137, 3) := by decide +kernel
theorem d_M_operate_69 : decode prog_12_method_26_code 69 = .ok (.putfield 95, 3) := by decide +kernel
theorem d_M_operate_72 : decode prog_12_method_26_code 72 = .ok (.aload_n 0, 1) := by decide +kernel
theorem d_M_operate_73 : decode prog_12_method_26_code 73 = .ok (.aload_n 0, 1) := by decide +kernel
theorem d_M_operate_74 : decode prog_12_method_26_code 74 = .ok (.getfield 27, 3) := by decide +kernel
theorem d_M_operate_77 : decode prog_12_method_26_code 77 = .ok (.iconst 2, 1) := by decide +kernel
theorem d_M_operate_78 : decode prog_12_method_26_code 78 = .ok (.iconst 1, 1) := by decide +kernel
theorem d_M_operate_79 : decode prog_12_method_26_code 79 = .ok (.invokevirtual 137, 3) := by decide +kernel
theorem d_M_operate_82 : decode prog_12_method_26_code 82 = .ok (.i2l, 1) := by decide +kernel
theorem d_M_operate_83 : decode prog_12_method_26_code 83 = .ok (.bipush 32, 2) := by decide +kernel
theorem d_M_operate_85 : decode prog_12_method_26_code 85 = .ok (.lshl, 1) := by decide +kernel
theorem d_M_operate_86 : decode prog_12_method_26_code 86 = .ok (.aload_n 0, 1) := by decide +kernel
theorem d_M_operate_87 : decode prog_12_method_26_code 87 = .ok (.getfield 27, 3) := by decide +kernel
theorem d_M_operate_90 : decode prog_12_method_26_code 90 = .ok (.iconst 2, 1) := by decide +kernel
theorem d_M_operate_91 : decode prog_12_method_26_code 91 = .ok (.iconst 2, 1) := by decide +kernel
theorem d_M_operate_92 : decode prog_12_method_26_code 92 = .ok (.invokevirtual 137, 3) := by decide +kernel
theorem d_M_operate_95 : decode prog_12_method_26_code 95 = .ok (.i2l, 1) := by decide +kernel
theorem d_M_operate_96 : decode prog_12_method_26_code 96 = .ok (.ldc2_w 140, 3) := by decide +kernel
theorem d_M_operate_99 : decode prog_12_method_26_code 99 = .ok (.land, 1) := by decide +kernel
theorem d_M_operate_100 : decode prog_12_method_26_code 100 = .ok (.lor, 1) := by decide +kernel
theorem d_M_operate_101 : decode prog_12_method_26_code 101 = .ok (.putfield 102, 3) := by decide +kernel
theorem d_M_operate_104 : decode prog_12_method_26_code 104 = .ok (.return_, 1) := by decide +kernel
theorem d_M_giveSteps_0 : decode prog_12_method_27_code 0 = .ok (.aload_n 0, 1) := by decide +kernel
theorem d_M_giveSteps_1 : decode prog_12_method_27_code 1 = .ok (.getfield 34, 3) := by decide +kernel
theorem d_M_giveSteps_4 : decode prog_12_method_27_code 4 = .ok (.aload_n 0, 1) := by decide +kernel
theorem d_M_giveSteps_5 : decode prog_12_method_27_code 5 = .ok (.getfield 52, 3) := by decide +kernel
theorem d_M_giveSteps_8 : decode prog_12_method_27_code 8 = .ok (.invokevirtual 142, 3) := by decide +kernel
theorem d_M_giveSteps_11 : decode prog_12_method_27_code 11 = .ok (.aload_n 0, 1) := by decide +kernel
theorem d_M_giveSteps_12 : decode prog_12_method_27_code 12 = .ok (.getfield 34, 3) := by decide +kernel
theorem d_M_giveSteps_15 : decode prog_12_method_27_code 15 = .ok (.iload_n 1, 1) := by decide +kernel
theorem d_M_giveSteps_16 : decode prog_12_method_27_code 16 = .ok (.iload_n 2, 1) := by decide +kernel
theorem d_M_giveSteps_17 : decode prog_12_method_27_code 17 = .ok (.lload_n 3, 1) := by decide +kernel
theorem d_M_giveSteps_18 : decode prog_12_method_27_code 18 = .ok (.invokestatic 125, 3) := by decide +kernel
theorem d_M_giveSteps_21 : decode prog_12_method_27_code 21 = .ok (.lload_n 3, 1) := by decide +kernel
theorem d_M_giveSteps_22 : decode prog_12_method_27_code 22 = .ok (.l2i, 1) := by decide +kernel
theorem d_M_giveSteps_23 : decode prog_12_method_27_code 23 = .ok (.invokevirtual 143, 3) := by decide +kernel
theorem d_M_giveSteps_26 : decode prog_12_method_27_code 26 = .ok (.return_, 1) := by decide +kernel
theorem d_M_fromSteps_0 : decode prog_12_method_28_code 0 = .ok (.aload_n 0, 1) := by decide +kernel
theorem d_M_fromSteps_1 : decode prog_12_method_28_code 1 = .ok (.aload_n 0, 1) := by decide +kernel
theorem d_M_fromSteps_2 : decode prog_12_method_28_code 2 = .ok (.getfield 34, 3) := by decide +kernel
theorem d_M_fromSteps_5 : decode prog_12_method_28_code 5 = .ok (.iload_n 1, 1) := by decide +kernel
theorem d_M_fromSteps_6 : decode prog_12_method_28_code 6 = .ok (.iconst 0, 1) := by decide +kernel
theorem d_M_fromSteps_7 : decode prog_12_method_28_code 7 = .ok (.invokevirtual 144, 3) := by decide +kernel
theorem d_M_fromSteps_10 : decode prog_12_method_28_code 10 = .ok (.putfield 95, 3) := by decide +kernel
theorem d_M_fromSteps_13 : decode prog_12_method_28_code 13 = .ok (.aload_n 0, 1) := by decide +kernel
theorem d_M_fromSteps_14 : decode prog_12_method_28_code 14 = .ok (.aload_n 0, 1) := by decide +kernel
theorem d_M_fromSteps_15 : decode prog_12_method_28_code 15 = .ok (.getfield 34, 3) := by decide +kernel
theorem d_M_fromSteps_18 : decode prog_12_method_28_code 18 = .ok (.iload_n 1, 1) := by decide +kernel
theorem d_M_fromSteps_19 : decode prog_12_method_28_code 19 = .ok (.iconst 1, 1) := by decide +kernel
theorem d_M_fromSteps_20 : decode prog_12_method_28_code 20 = .ok (.invokevirtual 144, 3) := by decide +kernel
theorem d_M_fromSteps_23 : decode prog_12_method_28_code 23 = .ok (.i2l, 1) := by decide +kernel
theorem d_M_fromSteps_24 : decode prog_12_method_28_code 24 = .ok (.bipush 32, 2) := by decide +kernel
theorem d_M_fromSteps_26 : decode prog_12_method_28_code 26 = .ok (.lshl, 1) := by decide +kernel
theorem d_M_fromSteps_27 : decode prog_12_method_28_code 27 = .ok (.aload_n 0, 1) := by decide +kernel
theorem d_M_fromSteps_28 : decode prog_12_method_28_code 28 = .ok (.getfield 34, 3) := by decide +kernel
theorem d_M_fromSteps_31 : decode prog_12_method_28_code 31 = .ok (.iload_n 1, 1) := by decide +kernel
theorem d_M_fromSteps_32 : decode prog_12_method_28_code 32 = .ok (.iconst 2, 1) := by decide +kernel
theorem d_M_fromSteps_33 : decode prog_12_method_28_code 33 = .ok (.invokevirtual 144, 3) := by decide +kernel
theorem d_M_fromSteps_36 : decode prog_12_method_28_code 36 = .ok (.i2l, 1) := by decide +kernel
theorem d_M_fromSteps_37 : decode prog_12_method_28_code 37 = .ok (.ldc2_w 140, 3) := by decide +kernel
theorem d_M_fromSteps_40 : decode prog_12_method_28_code 40 = .ok (.land, 1) := by decide +kernel
theorem d_M_fromSteps_41 : decode prog_12_method_28_code 41 = .ok (.lor, 1) := by decide +kernel
theorem d_M_fromSteps_42 : decode prog_12_method_28_code 42 = .ok (.putfield 102, 3) := by decide +kernel
theorem d_M_fromSteps_45 : decode prog_12_method_28_code 45 = .ok (.return_, 1) := by decide +kernel
theorem d_M_condition_0 : decode prog_12_method_29_code 0 = .ok (.aload_n 0, 1) := by decide +kernel
theorem d_M_condition_1 : decode prog_12_method_29_code 1 = .ok (.getfield 58, 3) := by decide +kernel
theorem d_M_condition_4 : decode prog_12_method_29_code 4 = .ok (.iload_n 1, 1) := by decide +kernel
theorem d_M_condition_5 : decode prog_12_method_29_code 5 = .ok (.idiv, 1) := by decide +kernel
theorem d_M_condition_6 : decode prog_12_method_29_code 6 = .ok (.iconst 2, 1) := by decide +kernel
theorem d_M_condition_7 : decode prog_12_method_29_code 7 = .ok (.irem, 1) := by decide +kernel
theorem d_M_condition_8 : decode prog_12_method_29_code 8 = .ok (.iconst 1, 1) := by decide +kernel
theorem d_M_condition_9 : decode prog_12_method_29_code 9 = .ok (.if_icmp .ne 7, 3) := by decide +kernel
theorem d_M_condition_12 : decode prog_12_method_29_code 12 = .ok (.iconst 1, 1) := by decide +kernel
theorem d_M_condition_13 : decode prog_12_method_29_code 13 = .ok (.goto 4, 3) := by decide +kernel
theorem d_M_condition_16 : decode prog_12_method_29_code 16 = .ok (.iconst 0, 1) := by decide +kernel
theorem d_M_condition_17 : decode prog_12_method_29_code 17 = .ok (.istore_n 3, 1) := by decide +kernel
theorem d_M_condition_18 : decode prog_12_method_29_code 18 = .ok (.aload_n 0, 1) := by decide +kernel
theorem d_M_condition_19 : decode prog_12_method_29_code 19 = .ok (.aload_n 0, 1) := by decide +kernel
theorem d_M_condition_20 : decode prog_12_method_29_code 20 = .ok (.getfield 58, 3) := by decide +kernel
theorem d_M_condition_23 : decode prog_12_method_29_code 23 = .ok (.iload_n 2, 1) := by decide +kernel
theorem d_M_condition_24 : decode prog_12_method_29_code 24 = .ok (.iload_n 3, 1) := by decide +kernel
theorem d_M_condition_25 : decode prog_12_method_29_code 25 = .ok (.if_icmp .ne 7, 3) := by decide +kernel
theorem d_M_condition_28 : decode prog_12_method_29_code 28 = .ok (.iconst 0, 1) := by decide +kernel
theorem d_M_condition_29 : decode prog_12_method_29_code 29 = .ok (.goto 13, 3) := by decide +kernel
theorem d_M_condition_32 : decode prog_12_method_29_code 32 = .ok (.iload_n 2, 1) := by decide +kernel
theorem d_M_condition_33 : decode prog_12_method_29_code 33 = .ok (.ifCond .eq 7, 3) := by decide +kernel
theorem d_M_condition_36 : decode prog_12_method_29_code 36 = .ok (.iload_n 1, 1) := by decide +kernel
theorem d_M_condition_37 : decode prog_12_method_29_code 37 = .ok (.goto 5, 3) := by decide +kernel
theorem d_M_condition_40 : decode prog_12_method_29_code 40 = .ok (.iload_n 1, 1) := by decide +kernel
theorem d_M_condition_41 : decode prog_12_method_29_code 41 = .ok (.ineg, 1) := by decide +kernel
theorem d_M_condition_42 : decode prog_12_method_29_code 42 = .ok (.iadd, 1) := by decide +kernel
theorem d_M_condition_43 : decode prog_12_method_29_code 43 = .ok (.putfield 58, 3) := by decide +kernel
theorem d_M_condition_46 : decode prog_12_method_29_code 46 = .ok (.return_, 1) := by decide +kernel
theorem d_M_compare_0 : decode prog_12_method_30_code 0 = .ok (.aload_n 0, 1) := by decide +kernel
theorem d_M_compare_1 : decode prog_12_method_30_code 1 = .ok (.iconst 0, 1) := by decide +kernel
theorem d_M_compare_2 : decode prog_12_method_30_code 2 = .ok (.aload_n 0, 1) := by decide +kernel
theorem d_M_compare_3 : decode prog_12_method_30_code 3 = .ok (.iconst 0, 1) := by decide +kernel
theorem d_M_compare_4 : decode prog_12_method_30_code 4 = .ok (.invokevirtual 92, 3) := by decide +kernel
theorem d_M_compare_7 : decode prog_12_method_30_code 7 = .ok (.aload_n 0, 1) := by decide +kernel
theorem d_M_compare_8 : decode prog_12_method_30_code 8 = .ok (.iconst 0, 1) := by decide +kernel
theorem d_M_compare_9 : decode prog_12_method_30_code 9 = .ok (.invokevirtual 98, 3) := by decide +kernel
theorem d_M_compare_12 : decode prog_12_method_30_code 12 = .ok (.invokevirtual 145, 3) := by decide +kernel
theorem d_M_compare_15 : decode prog_12_method_30_code 15 = .ok (.aload_n 0, 1) := by decide +kernel
theorem d_M_compare_16 : decode prog_12_method_30_code 16 = .ok (.iconst 1, 1) := by decide +kernel
theorem d_M_compare_17 : decode prog_12_method_30_code 17 = .ok (.aload_n 0, 1) := by decide +kernel
theorem d_M_compare_18 : decode prog_12_method_30_code 18 = .ok (.getfield 95, 3) := by decide +kernel
theorem d_M_compare_21 : decode prog_12_method_30_code 21 = .ok (.aload_n 0, 1) := by decide +kernel
theorem d_M_compare_22 : decode prog_12_method_30_code 22 = .ok (.getfield 102, 3) := by decide +kernel
theorem d_M_compare_25 : decode prog_12_method_30_code 25 = .ok (.invokevirtual 145, 3) := by decide +kernel
theorem d_M_compare_28 : decode prog_12_method_30_code 28 = .ok (.iload_n 1, 1) := by decide +kernel
theorem d_M_compare_29 : decode prog_12_method_30_code 29 = .ok (.ifCond .eq 14, 3) := by decide +kernel
theorem d_M_compare_32 : decode prog_12_method_30_code 32 = .ok (.aload_n 0, 1) := by decide +kernel
theorem d_M_compare_33 : decode prog_12_method_30_code 33 = .ok (.getfield 34, 3) := by decide +kernel
theorem d_M_compare_36 : decode prog_12_method_30_code 36 = .ok (.iconst 0, 1) := by decide +kernel
theorem d_M_compare_37 : decode prog_12_method_30_code 37 = .ok (.invokevirtual 149, 3) := by decide +kernel
theorem d_M_compare_40 : decode prog_12_method_30_code 40 = .ok (.goto 12, 3) := by decide +kernel
theorem d_M_compare_43 : decode prog_12_method_30_code 43 = .ok (.aload_n 0, 1) := by decide +kernel
theorem d_M_compare_44 : decode prog_12_method_30_code 44 = .ok (.getfield 34, 3) := by decide +kernel
theorem d_M_compare_47 : decode prog_12_method_30_code 47 = .ok (.iconst 0, 1) := by decide +kernel
theorem d_M_compare_48 : decode prog_12_method_30_code 48 = .ok (.iconst 1, 1) := by decide +kernel
theorem d_M_compare_49 : decode prog_12_method_30_code 49 = .ok (.invokevirtual 152, 3) := by decide +kernel
theorem d_M_compare_52 : decode prog_12_method_30_code 52 = .ok (.istore_n 2, 1) := by decide +kernel
theorem d_M_compare_53 : decode prog_12_method_30_code 53 = .ok (.aload_n 0, 1) := by decide +kernel
theorem d_M_compare_54 : decode prog_12_method_30_code 54 = .ok (.aload_n 0, 1) := by decide +kernel
theorem d_M_compare_55 : decode prog_12_method_30_code 55 = .ok (.getfield 34, 3) := by decide +kernel
theorem d_M_compare_58 : decode prog_12_method_30_code 58 = .ok (.iconst 0, 1) := by decide +kernel
theorem d_M_compare_59 : decode prog_12_method_30_code 59 = .ok (.invokevirtual 155, 3) := by decide +kernel
theorem d_M_compare_62 : decode prog_12_method_30_code 62 = .ok (.invokevirtual 85, 3) := by decide +kernel
theorem d_M_compare_65 : decode prog_12_method_30_code 65 = .ok (.aload_n 0, 1) := by decide +kernel
theorem d_M_compare_66 : decode prog_12_method_30_code 66 = .ok (.getfield 76, 3) := by decide +kernel
theorem d_M_compare_69 : decode prog_12_method_30_code 69 = .ok (.ifCond .eq 4, 3) := by decide +kernel
theorem d_M_compare_72 : decode prog_12_method_30_code 72 = .ok (.return_, 1) := by decide +kernel
theorem d_M_compare_73 : decode prog_12_method_30_code 73 = .ok (.aload_n 0, 1) := by decide +kernel
theorem d_M_compare_74 : decode prog_12_method_30_code 74 = .ok (.sipush 256, 3) := by decide +kernel
theorem d_M_compare_77 : decode prog_12_method_30_code 77 = .ok (.iload_n 2, 1) := by decide +kernel
theorem d_M_compare_78 : decode prog_12_method_30_code 78 = .ok (.iconst (-1), 1) := by decide +kernel
theorem d_M_compare_79 : decode prog_12_method_30_code 79 = .ok (.if_icmp .eq 8, 3) := by decide +kernel
theorem d_M_compare_82 : decode prog_12_method_30_code 82 = .ok (.iload_n 2, 1) := by decide +kernel
theorem d_M_compare_83 : decode prog_12_method_30_code 83 = .ok (.iconst 2, 1) := by decide +kernel
theorem d_M_compare_84 : decode prog_12_method_30_code 84 = .ok (.if_icmp .ne 7, 3) := by decide +kernel
theorem d_M_compare_87 : decode prog_12_method_30_code 87 = .ok (.iconst 1, 1) := by decide +kernel
theorem d_M_compare_88 : decode prog_12_method_30_code 88 = .ok (.goto 4, 3) := by decide +kernel
theorem d_M_compare_91 : decode prog_12_method_30_code 91 = .ok (.iconst 0, 1) := by decide +kernel
theorem d_M_compare_92 : decode prog_12_method_30_code 92 = .ok (.invokevirtual 157, 3) := by decide +kernel
theorem d_M_compare_95 : decode prog_12_method_30_code 95 = .ok (.aload_n 0, 1) := by decide +kernel
theorem d_M_compare_96 : decode prog_12_method_30_code 96 = .ok (.sipush 1024, 3) := by decide +kernel
theorem d_M_compare_99 : decode prog_12_method_30_code 99 = .ok (.iload_n 2, 1) := by decide +kernel
theorem d_M_compare_100 : decode prog_12_method_30_code 100 = .ok (.iconst 2, 1) := by decide +kernel
theorem d_M_compare_101 : decode prog_12_method_30_code 101 = .ok (.if_icmp .ne 7, 3) := by decide +kernel
theorem d_M_compare_104 : decode prog_12_method_30_code 104 = .ok (.iconst 1, 1) := by decide +kernel
theorem d_M_compare_105 : decode prog_12_method_30_code 105 = .ok (.goto 4, 3) := by decide +kernel
theorem d_M_compare_108 : decode prog_12_method_30_code 108 = .ok (.iconst 0, 1) := by decide +kernel
theorem d_M_compare_109 : decode prog_12_method_30_code 109 = .ok (.invokevirtual 157, 3) := by decide +kernel
theorem d_M_compare_112 : decode prog_12_method_30_code 112 = .ok (.aload_n 0, 1) := by decide +kernel
theorem d_M_compare_113 : decode prog_12_method_30_code 113 = .ok (.sipush 16384, 3) := by decide +kernel
theorem d_M_compare_116 : decode prog_12_method_30_code 116 = .ok (.iload_n 2, 1) := by decide +kernel
theorem d_M_compare_117 : decode prog_12_method_30_code 117 = .ok (.ifCond .eq 8, 3) := by decide +kernel
theorem d_M_compare_120 : decode prog_12_method_30_code 120 = .ok (.iload_n 2, 1) := by decide +kernel
theorem d_M_compare_121 : decode prog_12_method_30_code 121 = .ok (.iconst 2, 1) := by decide +kernel
theorem d_M_compare_122 : decode prog_12_method_30_code 122 = .ok (.if_icmp .ne 7, 3) := by decide +kernel
theorem d_M_compare_125 : decode prog_12_method_30_code 125 = .ok (.iconst 1, 1) := by decide +kernel
theorem d_M_compare_126 : decode prog_12_method_30_code 126 = .ok (.goto 4, 3) := by decide +kernel
theorem d_M_compare_129 : decode prog_12_method_30_code 129 = .ok (.iconst 0, 1) := by decide +kernel
theorem d_M_compare_130 : decode prog_12_method_30_code 130 = .ok (.invokevirtual 157, 3) := by decide +kernel
theorem d_M_compare_133 : decode prog_12_method_30_code 133 = .ok (.return_, 1) := by decide +kernel
theorem d_M_reckon_0 : decode prog_12_method_31_code 0 = .ok (.aload_n 0, 1) := by decide +kernel
theorem d_M_reckon_1 : decode prog_12_method_31_code 1 = .ok (.getfield 161, 3) := by decide +kernel
theorem d_M_reckon_4 : decode prog_12_method_31_code 4 = .ok (.iconst 2, 1) := by decide +kernel
theorem d_M_reckon_5 : decode prog_12_method_31_code 5 = .ok (.if_icmp .eq 11, 3) := by decide +kernel
theorem d_M_reckon_8 : decode prog_12_method_31_code 8 = .ok (.aload_n 0, 1) := by decide +kernel
theorem d_M_reckon_9 : decode prog_12_method_31_code 9 = .ok (.getfield 161, 3) := by decide +kernel
theorem d_M_reckon_12 : decode prog_12_method_31_code 12 = .ok (.iconst 3, 1) := by decide +kernel
theorem d_M_reckon_13 : decode prog_12_method_31_code 13 = .ok (.if_icmp .ne 28, 3) := by decide +kernel
theorem d_M_reckon_16 : decode prog_12_method_31_code 16 = .ok (.aload_n 0, 1) := by decide +kernel
theorem d_M_reckon_17 : decode prog_12_method_31_code 17 = .ok (.iconst 0, 1) := by decide +kernel
theorem d_M_reckon_18 : decode prog_12_method_31_code 18 = .ok (.invokevirtual 164, 3) := by decide +kernel
theorem d_M_reckon_21 : decode prog_12_method_31_code 21 = .ok (.aload_n 0, 1) := by decide +kernel
theorem d_M_reckon_22 : decode prog_12_method_31_code 22 = .ok (.getfield 161, 3) := by decide +kernel
theorem d_M_reckon_25 : decode prog_12_method_31_code 25 = .ok (.iconst 3, 1) := by decide +kernel
theorem d_M_reckon_26 : decode prog_12_method_31_code 26 = .ok (.if_icmp .ne 14, 3) := by decide +kernel
theorem d_M_reckon_29 : decode prog_12_method_31_code 29 = .ok (.aload_n 0, 1) := by decide +kernel
theorem d_M_reckon_30 : decode prog_12_method_31_code 30 = .ok (.getfield 76, 3) := by decide +kernel
theorem d_M_reckon_33 : decode prog_12_method_31_code 33 = .ok (.ifCond .ne 7, 3) := by decide +kernel
theorem d_M_reckon_36 : decode prog_12_method_31_code 36 = .ok (.aload_n 0, 1) := by decide +kernel
theorem d_M_reckon_37 : decode prog_12_method_31_code 37 = .ok (.invokevirtual 167, 3) := by decide +kernel
theorem d_M_reckon_40 : decode prog_12_method_31_code 40 = .ok (.return_, 1) := by decide +kernel
theorem d_M_reckon_41 : decode prog_12_method_31_code 41 = .ok (.aload_n 0, 1) := by decide +kernel
theorem d_M_reckon_42 : decode prog_12_method_31_code 42 = .ok (.getfield 161, 3) := by decide +kernel
theorem d_M_reckon_45 : decode prog_12_method_31_code 45 = .ok (.ifCond .ne 7, 3) := by decide +kernel
theorem d_M_reckon_48 : decode prog_12_method_31_code 48 = .ok (.iconst 0, 1) := by decide +kernel
theorem d_M_reckon_49 : decode prog_12_method_31_code 49 = .ok (.goto 21, 3) := by decide +kernel
theorem d_M_reckon_52 : decode prog_12_method_31_code 52 = .ok (.aload_n 0, 1) := by decide +kernel
theorem d_M_reckon_53 : decode prog_12_method_31_code 53 = .ok (.getfield 161, 3) := by decide +kernel
theorem d_M_reckon_56 : decode prog_12_method_31_code 56 = .ok (.iconst 1, 1) := by decide +kernel
theorem d_M_reckon_57 : decode prog_12_method_31_code 57 = .ok (.if_icmp .ne 7, 3) := by decide +kernel
theorem d_M_reckon_60 : decode prog_12_method_31_code 60 = .ok (.iconst 3, 1) := by decide +kernel
theorem d_M_reckon_61 : decode prog_12_method_31_code 61 = .ok (.goto 9, 3) := by decide +kernel
theorem d_M_reckon_64 : decode prog_12_method_31_code 64 = .ok (.aload_n 0, 1) := by decide +kernel
theorem d_M_reckon_65 : decode prog_12_method_31_code 65 = .ok (.getfield 161, 3) := by decide +kernel
theorem d_M_reckon_68 : decode prog_12_method_31_code 68 = .ok (.iconst 3, 1) := by decide +kernel
theorem d_M_reckon_69 : decode prog_12_method_31_code 69 = .ok (.isub, 1) := by decide +kernel
theorem d_M_reckon_70 : decode prog_12_method_31_code 70 = .ok (.istore_n 2, 1) := by decide +kernel
theorem d_M_reckon_71 : decode prog_12_method_31_code 71 = .ok (.aload_n 0, 1) := by decide +kernel
theorem d_M_reckon_72 : decode prog_12_method_31_code 72 = .ok (.getfield 161, 3) := by decide +kernel
theorem d_M_reckon_75 : decode prog_12_method_31_code 75 = .ok (.bipush 6, 2) := by decide +kernel
theorem d_M_reckon_77 : decode prog_12_method_31_code 77 = .ok (.if_icmp .ne 7, 3) := by decide +kernel
theorem d_M_reckon_80 : decode prog_12_method_31_code 80 = .ok (.iconst 4, 1) := by decide +kernel
theorem d_M_reckon_81 : decode prog_12_method_31_code 81 = .ok (.goto 17, 3) := by decide +kernel
theorem d_M_reckon_84 : decode prog_12_method_31_code 84 = .ok (.aload_n 0, 1) := by decide +kernel
theorem d_M_reckon_85 : decode prog_12_method_31_code 85 = .ok (.getfield 161, 3) := by decide +kernel
theorem d_M_reckon_88 : decode prog_12_method_31_code 88 = .ok (.bipush 7, 2) := by decide +kernel
theorem d_M_reckon_90 : decode prog_12_method_31_code 90 = .ok (.if_icmp .ne 7, 3) := by decide +kernel
theorem d_M_reckon_93 : decode prog_12_method_31_code 93 = .ok (.iconst 5, 1) := by decide +kernel
theorem d_M_reckon_94 : decode prog_12_method_31_code 94 = .ok (.goto 4, 3) := by decide +kernel
theorem d_M_reckon_97 : decode prog_12_method_31_code 97 = .ok (.iload_n 2, 1) := by decide +kernel
theorem d_M_reckon_98 : decode prog_12_method_31_code 98 = .ok (.istore_n 2, 1) := by decide +kernel
theorem d_M_reckon_99 : decode prog_12_method_31_code 99 = .ok (.aload_n 0, 1) := by decide +kernel
theorem d_M_reckon_100 : decode prog_12_method_31_code 100 = .ok (.iload_n 2, 1) := by decide +kernel
theorem d_M_reckon_101 : decode prog_12_method_31_code 101 = .ok (.aload_n 0, 1) := by decide +kernel
theorem d_M_reckon_102 : decode prog_12_method_31_code 102 = .ok (.iconst 0, 1) := by decide +kernel
theorem d_M_reckon_103 : decode prog_12_method_31_code 103 = .ok (.invokevirtual 92, 3) := by decide +kernel
theorem d_M_reckon_106 : decode prog_12_method_31_code 106 = .ok (.aload_n 0, 1) := by decide +kernel
theorem d_M_reckon_107 : decode prog_12_method_31_code 107 = .ok (.iconst 0, 1) := by decide +kernel
theorem d_M_reckon_108 : decode prog_12_method_31_code 108 = .ok (.invokevirtual 98, 3) := by decide +kernel
theorem d_M_reckon_111 : decode prog_12_method_31_code 111 = .ok (.aload_n 0, 1) := by decide +kernel
theorem d_M_reckon_112 : decode prog_12_method_31_code 112 = .ok (.getfield 95, 3) := by decide +kernel
theorem d_M_reckon_115 : decode prog_12_method_31_code 115 = .ok (.aload_n 0, 1) := by decide +kernel
theorem d_M_reckon_116 : decode prog_12_method_31_code 116 = .ok (.getfield 102, 3) := by decide +kernel
theorem d_M_reckon_119 : decode prog_12_method_31_code 119 = .ok (.invokevirtual 170, 3) := by decide +kernel
theorem d_M_reckon_122 : decode prog_12_method_31_code 122 = .ok (.aload_n 0, 1) := by decide +kernel
theorem d_M_reckon_123 : decode prog_12_method_31_code 123 = .ok (.getfield 76, 3) := by decide +kernel
theorem d_M_reckon_126 : decode prog_12_method_31_code 126 = .ok (.ifCond .ne 8, 3) := by decide +kernel
theorem d_M_reckon_129 : decode prog_12_method_31_code 129 = .ok (.aload_n 0, 1) := by decide +kernel
theorem d_M_reckon_130 : decode prog_12_method_31_code 130 = .ok (.iload_n 1, 1) := by decide +kernel
theorem d_M_reckon_131 : decode prog_12_method_31_code 131 = .ok (.invokevirtual 106, 3) := by decide +kernel
theorem d_M_reckon_134 : decode prog_12_method_31_code 134 = .ok (.return_, 1) := by decide +kernel
theorem d_M_read_0 : decode prog_12_method_32_code 0 = .ok (.aload_n 0, 1) := by decide +kernel
theorem d_M_read_1 : decode prog_12_method_32_code 1 = .ok (.iconst 0, 1) := by decide +kernel
theorem d_M_read_2 : decode prog_12_method_32_code 2 = .ok (.invokevirtual 173, 3) := by decide +kernel
theorem d_M_read_5 : decode prog_12_method_32_code 5 = .ok (.aload_n 0, 1) := by decide +kernel
theorem d_M_read_6 : decode prog_12_method_32_code 6 = .ok (.iconst 2, 1) := by decide +kernel
theorem d_M_read_7 : decode prog_12_method_32_code 7 = .ok (.invokevirtual 173, 3) := by decide +kernel
theorem d_M_read_10 : decode prog_12_method_32_code 10 = .ok (.bipush 16, 2) := by decide +kernel
theorem d_M_read_12 : decode prog_12_method_32_code 12 = .ok (.ishl, 1) := by decide +kernel
theorem d_M_read_13 : decode prog_12_method_32_code 13 = .ok (.iadd, 1) := by decide +kernel
theorem d_M_read_14 : decode prog_12_method_32_code 14 = .ok (.istore_n 2, 1) := by decide +kernel
theorem d_M_read_15 : decode prog_12_method_32_code 15 = .ok (.aload_n 0, 1) := by decide +kernel
theorem d_M_read_16 : decode prog_12_method_32_code 16 = .ok (.iconst 4, 1) := by decide +kernel
theorem d_M_read_17 : decode prog_12_method_32_code 17 = .ok (.invokevirtual 173, 3) := by decide +kernel
theorem d_M_read_20 : decode prog_12_method_32_code 20 = .ok (.aload_n 0, 1) := by decide +kernel
theorem d_M_read_21 : decode prog_12_method_32_code 21 = .ok (.bipush 6, 2) := by decide +kernel
theorem d_M_read_23 : decode prog_12_method_32_code 23 = .ok (.invokevirtual 173, 3) := by decide +kernel
theorem d_M_read_26 : decode prog_12_method_32_code 26 = .ok (.bipush 16, 2) := by decide +kernel
theorem d_M_read_28 : decode prog_12_method_32_code 28 = .ok (.ishl, 1) := by decide +kernel
theorem d_M_read_29 : decode prog_12_method_32_code 29 = .ok (.iadd, 1) := by decide +kernel
theorem d_M_read_30 : decode prog_12_method_32_code 30 = .ok (.istore_n 3, 1) := by decide +kernel
theorem d_M_read_31 : decode prog_12_method_32_code 31 = .ok (.aload_n 0, 1) := by decide +kernel
theorem d_M_read_32 : decode prog_12_method_32_code 32 = .ok (.getfield 41, 3) := by decide +kernel
theorem d_M_read_35 : decode prog_12_method_32_code 35 = .ok (.aload_n 0, 1) := by decide +kernel
theorem d_M_read_36 : decode prog_12_method_32_code 36 = .ok (.getfield 52, 3) := by decide +kernel
theorem d_M_read_39 : decode prog_12_method_32_code 39 = .ok (.invokevirtual 176, 3) := by decide +kernel
theorem d_M_read_42 : decode prog_12_method_32_code 42 = .ok (.aload_n 0, 1) := by decide +kernel
theorem d_M_read_43 : decode prog_12_method_32_code 43 = .ok (.getfield 41, 3) := by decide +kernel
theorem d_M_read_46 : decode prog_12_method_32_code 46 = .ok (.iload_n 2, 1) := by decide +kernel
theorem d_M_read_47 : decode prog_12_method_32_code 47 = .ok (.iload_n 3, 1) := by decide +kernel
theorem d_M_read_48 : decode prog_12_method_32_code 48 = .ok (.aload_n 0, 1) := by decide +kernel
theorem d_M_read_49 : decode prog_12_method_32_code 49 = .ok (.bipush 8, 2) := by decide +kernel
theorem d_M_read_51 : decode prog_12_method_32_code 51 = .ok (.invokevirtual 173, 3) := by decide +kernel
theorem d_M_read_54 : decode prog_12_method_32_code 54 = .ok (.invokevirtual 177, 3) := by decide +kernel
theorem d_M_read_57 : decode prog_12_method_32_code 57 = .ok (.aload_n 0, 1) := by decide +kernel
theorem d_M_read_58 : decode prog_12_method_32_code 58 = .ok (.aload_n 0, 1) := by decide +kernel
theorem d_M_read_59 : decode prog_12_method_32_code 59 = .ok (.getfield 41, 3) := by decide +kernel
theorem d_M_read_62 : decode prog_12_method_32_code 62 = .ok (.iload_n 1, 1) := by decide +kernel
theorem d_M_read_63 : decode prog_12_method_32_code 63 = .ok (.iconst 0, 1) := by decide +kernel
theorem d_M_read_64 : decode prog_12_method_32_code 64 = .ok (.invokevirtual 180, 3) := by decide +kernel
theorem d_M_read_67 : decode prog_12_method_32_code 67 = .ok (.invokevirtual 85, 3) := by decide +kernel
theorem d_M_read_70 : decode prog_12_method_32_code 70 = .ok (.aload_n 0, 1) := by decide +kernel
theorem d_M_read_71 : decode prog_12_method_32_code 71 = .ok (.aload_n 0, 1) := by decide +kernel
theorem d_M_read_72 : decode prog_12_method_32_code 72 = .ok (.getfield 41, 3) := by decide +kernel
theorem d_M_read_75 : decode prog_12_method_32_code 75 = .ok (.iconst 0, 1) := by decide +kernel
theorem d_M_read_76 : decode prog_12_method_32_code 76 = .ok (.iconst 0, 1) := by decide +kernel
theorem d_M_read_77 : decode prog_12_method_32_code 77 = .ok (.invokevirtual 183, 3) := by decide +kernel
theorem d_M_read_80 : decode prog_12_method_32_code 80 = .ok (.putfield 95, 3) := by decide +kernel
theorem d_M_read_83 : decode prog_12_method_32_code 83 = .ok (.aload_n 0, 1) := by decide +kernel
theorem d_M_read_84 : decode prog_12_method_32_code 84 = .ok (.aload_n 0, 1) := by decide +kernel
theorem d_M_read_85 : decode prog_12_method_32_code 85 = .ok (.getfield 41, 3) := by decide +kernel
theorem d_M_read_88 : decode prog_12_method_32_code 88 = .ok (.iconst 0, 1) := by decide +kernel
theorem d_M_read_89 : decode prog_12_method_32_code 89 = .ok (.iconst 1, 1) := by decide +kernel
theorem d_M_read_90 : decode prog_12_method_32_code 90 = .ok (.invokevirtual 183, 3) := by decide +kernel
theorem d_M_read_93 : decode prog_12_method_32_code 93 = .ok (.i2l, 1) := by decide +kernel
theorem d_M_read_94 : decode prog_12_method_32_code 94 = .ok (.bipush 32, 2) := by decide +kernel
theorem d_M_read_96 : decode prog_12_method_32_code 96 = .ok (.lshl, 1) := by decide +kernel
theorem d_M_read_97 : decode prog_12_method_32_code 97 = .ok (.aload_n 0, 1) := by decide +kernel
theorem d_M_read_98 : decode prog_12_method_32_code 98 = .ok (.getfield 41, 3) := by decide +kernel
theorem d_M_read_101 : decode prog_12_method_32_code 101 = .ok (.iconst 0, 1) := by decide +kernel
theorem d_M_read_102 : decode prog_12_method_32_code 102 = .ok (.iconst 2, 1) := by decide +kernel
theorem d_M_read_103 : decode prog_12_method_32_code 103 = .ok (.invokevirtual 183, 3) := by decide +kernel
theorem d_M_read_106 : decode prog_12_method_32_code 106 = .ok (.i2l, 1) := by decide +kernel
theorem d_M_read_107 : decode prog_12_method_32_code 107 = .ok (.ldc2_w 140, 3) := by decide +kernel
theorem d_M_read_110 : decode prog_12_method_32_code 110 = .ok (.land, 1) := by decide +kernel
theorem d_M_read_111 : decode prog_12_method_32_code 111 = .ok (.lor, 1) := by decide +kernel
theorem d_M_read_112 : decode prog_12_method_32_code 112 = .ok (.putfield 102, 3) := by decide +kernel
theorem d_M_read_115 : decode prog_12_method_32_code 115 = .ok (.return_, 1) := by decide +kernel
theorem d_M_write_0 : decode prog_12_method_33_code 0 = .ok (.aload_n 0, 1) := by decide +kernel
theorem d_M_write_1 : decode prog_12_method_33_code 1 = .ok (.iconst 0, 1) := by decide +kernel
theorem d_M_write_2 : decode prog_12_method_33_code 2 = .ok (.invokevirtual 184, 3) := by decide +kernel
theorem d_M_write_5 : decode prog_12_method_33_code 5 = .ok (.aload_n 0, 1) := by decide +kernel
theorem d_M_write_6 : decode prog_12_method_33_code 6 = .ok (.getfield 76, 3) := by decide +kernel
theorem d_M_write_9 : decode prog_12_method_33_code 9 = .ok (.ifCond .eq 4, 3) := by decide +kernel
theorem d_M_write_12 : decode prog_12_method_33_code 12 = .ok (.return_, 1) := by decide +kernel
theorem d_M_write_13 : decode prog_12_method_33_code 13 = .ok (.aload_n 0, 1) := by decide +kernel
theorem d_M_write_14 : decode prog_12_method_33_code 14 = .ok (.iconst 0, 1) := by decide +kernel
theorem d_M_write_15 : decode prog_12_method_33_code 15 = .ok (.invokevirtual 187, 3) := by decide +kernel
theorem d_M_write_18 : decode prog_12_method_33_code 18 = .ok (.aload_n 0, 1) := by decide +kernel
theorem d_M_write_19 : decode prog_12_method_33_code 19 = .ok (.getfield 41, 3) := by decide +kernel
theorem d_M_write_22 : decode prog_12_method_33_code 22 = .ok (.aload_n 0, 1) := by decide +kernel
theorem d_M_write_23 : decode prog_12_method_33_code 23 = .ok (.getfield 52, 3) := by decide +kernel
theorem d_M_write_26 : decode prog_12_method_33_code 26 = .ok (.invokevirtual 176, 3) := by decide +kernel
theorem d_M_write_29 : decode prog_12_method_33_code 29 = .ok (.aload_n 0, 1) := by decide +kernel
theorem d_M_write_30 : decode prog_12_method_33_code 30 = .ok (.getfield 41, 3) := by decide +kernel
theorem d_M_write_33 : decode prog_12_method_33_code 33 = .ok (.iconst 0, 1) := by decide +kernel
theorem d_M_write_34 : decode prog_12_method_33_code 34 = .ok (.aload_n 0, 1) := by decide +kernel
theorem d_M_write_35 : decode prog_12_method_33_code 35 = .ok (.getfield 95, 3) := by decide +kernel
theorem d_M_write_38 : decode prog_12_method_33_code 38 = .ok (.aload_n 0, 1) := by decide +kernel
theorem d_M_write_39 : decode prog_12_method_33_code 39 = .ok (.getfield 102, 3) := by decide +kernel
theorem d_M_write_42 : decode prog_12_method_33_code 42 = .ok (.invokestatic 125, 3) := by decide +kernel
theorem d_M_write_45 : decode prog_12_method_33_code 45 = .ok (.aload_n 0, 1) := by decide +kernel
theorem d_M_write_46 : decode prog_12_method_33_code 46 = .ok (.getfield 102, 3) := by decide +kernel
theorem d_M_write_49 : decode prog_12_method_33_code 49 = .ok (.l2i, 1) := by decide +kernel
theorem d_M_write_50 : decode prog_12_method_33_code 50 = .ok (.invokevirtual 190, 3) := by decide +kernel
theorem d_M_write_53 : decode prog_12_method_33_code 53 = .ok (.aload_n 0, 1) := by decide +kernel
theorem d_M_write_54 : decode prog_12_method_33_code 54 = .ok (.getfield 41, 3) := by decide +kernel
theorem d_M_write_57 : decode prog_12_method_33_code 57 = .ok (.iload_n 1, 1) := by decide +kernel
theorem d_M_write_58 : decode prog_12_method_33_code 58 = .ok (.iconst 0, 1) := by decide +kernel
theorem d_M_write_59 : decode prog_12_method_33_code 59 = .ok (.invokevirtual 191, 3) := by decide +kernel
theorem d_M_write_62 : decode prog_12_method_33_code 62 = .ok (.istore_n 2, 1) := by decide +kernel
theorem d_M_write_63 : decode prog_12_method_33_code 63 = .ok (.aload_n 0, 1) := by decide +kernel
theorem d_M_write_64 : decode prog_12_method_33_code 64 = .ok (.iload_n 2, 1) := by decide +kernel
theorem d_M_write_65 : decode prog_12_method_33_code 65 = .ok (.invokevirtual 85, 3) := by decide +kernel
theorem d_M_write_68 : decode prog_12_method_33_code 68 = .ok (.aload_n 0, 1) := by decide +kernel
theorem d_M_write_69 : decode prog_12_method_33_code 69 = .ok (.aload_n 0, 1) := by decide +kernel
theorem d_M_write_70 : decode prog_12_method_33_code 70 = .ok (.getfield 76, 3) := by decide +kernel
theorem d_M_write_73 : decode prog_12_method_33_code 73 = .ok (.ifCond .ne 47, 3) := by decide +kernel
theorem d_M_write_76 : decode prog_12_method_33_code 76 = .ok (.iload_n 2, 1) := by decide +kernel
theorem d_M_write_77 : decode prog_12_method_33_code 77 = .ok (.bipush 8, 2) := by decide +kernel
theorem d_M_write_79 : decode prog_12_method_33_code 79 = .ok (.idiv, 1) := by decide +kernel
theorem d_M_write_80 : decode prog_12_method_33_code 80 = .ok (.iconst 2, 1) := by decide +kernel
theorem d_M_write_81 : decode prog_12_method_33_code 81 = .ok (.irem, 1) := by decide +kernel
theorem d_M_write_82 : decode prog_12_method_33_code 82 = .ok (.iconst 1, 1) := by decide +kernel
theorem d_M_write_83 : decode prog_12_method_33_code 83 = .ok (.if_icmp .ne 15, 3) := by decide +kernel
theorem d_M_write_86 : decode prog_12_method_33_code 86 = .ok (.aload_n 0, 1) := by decide +kernel
theorem d_M_write_87 : decode prog_12_method_33_code 87 = .ok (.getfield 52, 3) := by decide +kernel
theorem d_M_write_90 : decode prog_12_method_33_code 90 = .ok (.bipush 8, 2) := by decide +kernel
theorem d_M_write_92 : decode prog_12_method_33_code 92 = .ok (.idiv, 1) := by decide +kernel
theorem d_M_write_93 : decode prog_12_method_33_code 93 = .ok (.iconst 2, 1) := by decide +kernel
theorem d_M_write_94 : decode prog_12_method_33_code 94 = .ok (.irem, 1) := by decide +kernel
theorem d_M_write_95 : decode prog_12_method_33_code 95 = .ok (.ifCond .eq 25, 3) := by decide +kernel
theorem d_M_write_98 : decode prog_12_method_33_code 98 = .ok (.iload_n 2, 1) := by decide +kernel
theorem d_M_write_99 : decode prog_12_method_33_code 99 = .ok (.bipush 16, 2) := by decide +kernel
theorem d_M_write_101 : decode prog_12_method_33_code 101 = .ok (.idiv, 1) := by decide +kernel
theorem d_M_write_102 : decode prog_12_method_33_code 102 = .ok (.iconst 2, 1) := by decide +kernel
theorem d_M_write_103 : decode prog_12_method_33_code 103 = .ok (.irem, 1) := by decide +kernel
theorem d_M_write_104 : decode prog_12_method_33_code 104 = .ok (.iconst 1, 1) := by decide +kernel
theorem d_M_write_105 : decode prog_12_method_33_code 105 = .ok (.if_icmp .ne 19, 3) := by decide +kernel
theorem d_M_write_108 : decode prog_12_method_33_code 108 = .ok (.aload_n 0, 1) := by decide +kernel
theorem d_M_write_109 : decode prog_12_method_33_code 109 = .ok (.getfield 52, 3) := by decide +kernel
theorem d_M_write_112 : decode prog_12_method_33_code 112 = .ok (.bipush 16, 2) := by decide +kernel
theorem d_M_write_114 : decode prog_12_method_33_code 114 = .ok (.idiv, 1) := by decide +kernel
theorem d_M_write_115 : decode prog_12_method_33_code 115 = .ok (.iconst 2, 1) := by decide +kernel
theorem d_M_write_116 : decode prog_12_method_33_code 116 = .ok (.irem, 1) := by decide +kernel
theorem d_M_write_117 : decode prog_12_method_33_code 117 = .ok (.ifCond .ne 7, 3) := by decide +kernel
theorem d_M_write_120 : decode prog_12_method_33_code 120 = .ok (.iconst 1, 1) := by decide +kernel
theorem d_M_write_121 : decode prog_12_method_33_code 121 = .ok (.goto 4, 3) := by decide +kernel
theorem d_M_write_124 : decode prog_12_method_33_code 124 = .ok (.iconst 0, 1) := by decide +kernel
theorem d_M_write_125 : decode prog_12_method_33_code 125 = .ok (.putfield 76, 3) := by decide +kernel
theorem d_M_write_128 : decode prog_12_method_33_code 128 = .ok (.aload_n 0, 1) := by decide +kernel
theorem d_M_write_129 : decode prog_12_method_33_code 129 = .ok (.getfield 76, 3) := by decide +kernel
theorem d_M_write_132 : decode prog_12_method_33_code 132 = .ok (.ifCond .eq 4, 3) := by decide +kernel
theorem d_M_write_135 : decode prog_12_method_33_code 135 = .ok (.return_, 1) := by decide +kernel
theorem d_M_write_136 : decode prog_12_method_33_code 136 = .ok (.iconst 0, 1) := by decide +kernel
theorem d_M_write_137 : decode prog_12_method_33_code 137 = .ok (.istore_n 3, 1) := by decide +kernel
theorem d_M_write_138 : decode prog_12_method_33_code 138 = .ok (.iload_n 3, 1) := by decide +kernel
theorem d_M_write_139 : decode prog_12_method_33_code 139 = .ok (.iload_n 1, 1) := by decide +kernel
theorem d_M_write_140 : decode prog_12_method_33_code 140 = .ok (.invokestatic 116, 3) := by decide +kernel
theorem d_M_write_143 : decode prog_12_method_33_code 143 = .ok (.if_icmp .ge 23, 3) := by decide +kernel
theorem d_M_write_146 : decode prog_12_method_33_code 146 = .ok (.aload_n 0, 1) := by decide +kernel
theorem d_M_write_147 : decode prog_12_method_33_code 147 = .ok (.getfield 7, 3) := by decide +kernel
theorem d_M_write_150 : decode prog_12_method_33_code 150 = .ok (.iload_n 3, 1) := by decide +kernel
theorem d_M_write_151 : decode prog_12_method_33_code 151 = .ok (.aload_n 0, 1) := by decide +kernel
theorem d_M_write_152 : decode prog_12_method_33_code 152 = .ok (.getfield 41, 3) := by decide +kernel
theorem d_M_write_155 : decode prog_12_method_33_code 155 = .ok (.iload_n 3, 1) := by decide +kernel
theorem d_M_write_156 : decode prog_12_method_33_code 156 = .ok (.invokevirtual 194, 3) := by decide +kernel
theorem d_M_write_159 : decode prog_12_method_33_code 159 = .ok (.iastore, 1) := by decide +kernel
theorem d_M_write_160 : decode prog_12_method_33_code 160 = .ok (.iinc 3 1, 3) := by decide +kernel
theorem d_M_write_163 : decode prog_12_method_33_code 163 = .ok (.goto (-25), 3) := by decide +kernel
theorem d_M_write_166 : decode prog_12_method_33_code 166 = .ok (.aload_n 0, 1) := by decide +kernel
theorem d_M_write_167 : decode prog_12_method_33_code 167 = .ok (.getfield 161, 3) := by decide +kernel
theorem d_M_write_170 : decode prog_12_method_33_code 170 = .ok (.iconst 2, 1) := by decide +kernel
theorem d_M_write_171 : decode prog_12_method_33_code 171 = .ok (.if_icmp .eq 7, 3) := by decide +kernel
theorem d_M_write_174 : decode prog_12_method_33_code 174 = .ok (.aload_n 0, 1) := by decide +kernel
theorem d_M_write_175 : decode prog_12_method_33_code 175 = .ok (.invokevirtual 167, 3) := by decide +kernel
theorem d_M_write_178 : decode prog_12_method_33_code 178 = .ok (.return_, 1) := by decide +kernel
theorem d_M_writeEnvironment_0 : decode prog_12_method_34_code 0 = .ok (.aload_n 0, 1) := by decide +kernel
theorem d_M_writeEnvironment_1 : decode prog_12_method_34_code 1 = .ok (.iconst 0, 1) := by decide +kernel
theorem d_M_writeEnvironment_2 : decode prog_12_method_34_code 2 = .ok (.aload_n 0, 1) := by decide +kernel
theorem d_M_writeEnvironment_3 : decode prog_12_method_34_code 3 = .ok (.getfield 52, 3) := by decide +kernel
theorem d_M_writeEnvironment_6 : decode prog_12_method_34_code 6 = .ok (.invokevirtual 197, 3) := by decide +kernel
theorem d_M_writeEnvironment_9 : decode prog_12_method_34_code 9 = .ok (.aload_n 0, 1) := by decide +kernel
theorem d_M_writeEnvironment_10 : decode prog_12_method_34_code 10 = .ok (.iconst 2, 1) := by decide +kernel
theorem d_M_writeEnvironment_11 : decode prog_12_method_34_code 11 = .ok (.aload_n 0, 1) := by decide +kernel
theorem d_M_writeEnvironment_12 : decode prog_12_method_34_code 12 = .ok (.invokevirtual 201, 3) := by decide +kernel
theorem d_M_writeEnvironment_15 : decode prog_12_method_34_code 15 = .ok (.invokevirtual 197, 3) := by decide +kernel
theorem d_M_writeEnvironment_18 : decode prog_12_method_34_code 18 = .ok (.aload_n 0, 1) := by decide +kernel
theorem d_M_writeEnvironment_19 : decode prog_12_method_34_code 19 = .ok (.iconst 4, 1) := by decide +kernel
theorem d_M_writeEnvironment_20 : decode prog_12_method_34_code 20 = .ok (.aload_n 0, 1) := by decide +kernel
theorem d_M_writeEnvironment_21 : decode prog_12_method_34_code 21 = .ok (.invokevirtual 205, 3) := by decide +kernel
theorem d_M_writeEnvironment_24 : decode prog_12_method_34_code 24 = .ok (.invokevirtual 197, 3) := by decide +kernel
theorem d_M_writeEnvironment_27 : decode prog_12_method_34_code 27 = .ok (.aload_n 0, 1) := by decide +kernel
theorem d_M_writeEnvironment_28 : decode prog_12_method_34_code 28 = .ok (.bipush 6, 2) := by decide +kernel
theorem d_M_writeEnvironment_30 : decode prog_12_method_34_code 30 = .ok (.aload_n 0, 1) := by decide +kernel
theorem d_M_writeEnvironment_31 : decode prog_12_method_34_code 31 = .ok (.getfield 67, 3) := by decide +kernel
theorem d_M_writeEnvironment_34 : decode prog_12_method_34_code 34 = .ok (.ldc 208, 2) := by decide +kernel
theorem d_M_writeEnvironment_36 : decode prog_12_method_34_code 36 = .ok (.irem, 1) := by decide +kernel
theorem d_M_writeEnvironment_37 : decode prog_12_method_34_code 37 = .ok (.invokevirtual 197, 3) := by decide +kernel
theorem d_M_writeEnvironment_40 : decode prog_12_method_34_code 40 = .ok (.aload_n 0, 1) := by decide +kernel
theorem d_M_writeEnvironment_41 : decode prog_12_method_34_code 41 = .ok (.bipush 8, 2) := by decide +kernel
theorem d_M_writeEnvironment_43 : decode prog_12_method_34_code 43 = .ok (.aload_n 0, 1) := by decide +kernel
theorem d_M_writeEnvironment_44 : decode prog_12_method_34_code 44 = .ok (.getfield 67, 3) := by decide +kernel
theorem d_M_writeEnvironment_47 : decode prog_12_method_34_code 47 = .ok (.ldc 208, 2) := by decide +kernel
theorem d_M_writeEnvironment_49 : decode prog_12_method_34_code 49 = .ok (.idiv, 1) := by decide +kernel
theorem d_M_writeEnvironment_50 : decode prog_12_method_34_code 50 = .ok (.sipush 4096, 3) := by decide +kernel
theorem d_M_writeEnvironment_53 : decode prog_12_method_34_code 53 = .ok (.imul, 1) := by decide +kernel
theorem d_M_writeEnvironment_54 : decode prog_12_method_34_code 54 = .ok (.aload_n 0, 1) := by decide +kernel
theorem d_M_writeEnvironment_55 : decode prog_12_method_34_code 55 = .ok (.getfield 64, 3) := by decide +kernel
theorem d_M_writeEnvironment_58 : decode prog_12_method_34_code 58 = .ok (.iadd, 1) := by decide +kernel
theorem d_M_writeEnvironment_59 : decode prog_12_method_34_code 59 = .ok (.invokevirtual 197, 3) := by decide +kernel
theorem d_M_writeEnvironment_62 : decode prog_12_method_34_code 62 = .ok (.aload_n 0, 1) := by decide +kernel
theorem d_M_writeEnvironment_63 : decode prog_12_method_34_code 63 = .ok (.bipush 10, 2) := by decide +kernel
theorem d_M_writeEnvironment_65 : decode prog_12_method_34_code 65 = .ok (.aload_n 0, 1) := by decide +kernel
theorem d_M_writeEnvironment_66 : decode prog_12_method_34_code 66 = .ok (.getfield 70, 3) := by decide +kernel
theorem d_M_writeEnvironment_69 : decode prog_12_method_34_code 69 = .ok (.ldc 208, 2) := by decide +kernel
theorem d_M_writeEnvironment_71 : decode prog_12_method_34_code 71 = .ok (.irem, 1) := by decide +kernel
theorem d_M_writeEnvironment_72 : decode prog_12_method_34_code 72 = .ok (.invokevirtual 197, 3) := by decide +kernel
theorem d_M_writeEnvironment_75 : decode prog_12_method_34_code 75 = .ok (.aload_n 0, 1) := by decide +kernel
theorem d_M_writeEnvironment_76 : decode prog_12_method_34_code 76 = .ok (.bipush 12, 2) := by decide +kernel
theorem d_M_writeEnvironment_78 : decode prog_12_method_34_code 78 = .ok (.aload_n 0, 1) := by decide +kernel
theorem d_M_writeEnvironment_79 : decode prog_12_method_34_code 79 = .ok (.getfield 70, 3) := by decide +kernel
theorem d_M_writeEnvironment_82 : decode prog_12_method_34_code 82 = .ok (.ldc 208, 2) := by decide +kernel
theorem d_M_writeEnvironment_84 : decode prog_12_method_34_code 84 = .ok (.idiv, 1) := by decide +kernel
theorem d_M_writeEnvironment_85 : decode prog_12_method_34_code 85 = .ok (.sipush 4096, 3) := by decide +kernel
theorem d_M_writeEnvironment_88 : decode prog_12_method_34_code 88 = .ok (.imul, 1) := by decide +kernel
theorem d_M_writeEnvironment_89 : decode prog_12_method_34_code 89 = .ok (.invokevirtual 197, 3) := by decide +kernel
theorem d_M_writeEnvironment_92 : decode prog_12_method_34_code 92 = .ok (.return_, 1) := by decide +kernel
theorem d_M_readEnvironment_0 : decode prog_12_method_35_code 0 = .ok (.aload_n 0, 1) := by decide +kernel
theorem d_M_readEnvironment_1 : decode prog_12_method_35_code 1 = .ok (.aload_n 0, 1) := by decide +kernel
theorem d_M_readEnvironment_2 : decode prog_12_method_35_code 2 = .ok (.iconst 0, 1) := by decide +kernel
theorem d_M_readEnvironment_3 : decode prog_12_method_35_code 3 = .ok (.invokevirtual 173, 3) := by decide +kernel
theorem d_M_readEnvironment_6 : decode prog_12_method_35_code 6 = .ok (.putfield 52, 3) := by decide +kernel
theorem d_M_readEnvironment_9 : decode prog_12_method_35_code 9 = .ok (.aload_n 0, 1) := by decide +kernel
theorem d_M_readEnvironment_10 : decode prog_12_method_35_code 10 = .ok (.iconst 2, 1) := by decide +kernel
theorem d_M_readEnvironment_11 : decode prog_12_method_35_code 11 = .ok (.invokevirtual 173, 3) := by decide +kernel
theorem d_M_readEnvironment_14 : decode prog_12_method_35_code 14 = .ok (.istore_n 1, 1) := by decide +kernel
theorem d_M_readEnvironment_15 : decode prog_12_method_35_code 15 = .ok (.aload_n 0, 1) := by decide +kernel
theorem d_M_readEnvironment_16 : decode prog_12_method_35_code 16 = .ok (.iload_n 1, 1) := by decide +kernel
theorem d_M_readEnvironment_17 : decode prog_12_method_35_code 17 = .ok (.bipush 64, 2) := by decide +kernel
theorem d_M_readEnvironment_19 : decode prog_12_method_35_code 19 = .ok (.irem, 1) := by decide +kernel
theorem d_M_readEnvironment_20 : decode prog_12_method_35_code 20 = .ok (.putfield 55, 3) := by decide +kernel
theorem d_M_readEnvironment_23 : decode prog_12_method_35_code 23 = .ok (.aload_n 0, 1) := by decide +kernel
theorem d_M_readEnvironment_24 : decode prog_12_method_35_code 24 = .ok (.iload_n 1, 1) := by decide +kernel
theorem d_M_readEnvironment_25 : decode prog_12_method_35_code 25 = .ok (.sipush 256, 3) := by decide +kernel
theorem d_M_readEnvironment_28 : decode prog_12_method_35_code 28 = .ok (.idiv, 1) := by decide +kernel
theorem d_M_readEnvironment_29 : decode prog_12_method_35_code 29 = .ok (.iconst 2, 1) := by decide +kernel
theorem d_M_readEnvironment_30 : decode prog_12_method_35_code 30 = .ok (.irem, 1) := by decide +kernel
theorem d_M_readEnvironment_31 : decode prog_12_method_35_code 31 = .ok (.sipush 256, 3) := by decide +kernel
theorem d_M_readEnvironment_34 : decode prog_12_method_35_code 34 = .ok (.imul, 1) := by decide +kernel
theorem d_M_readEnvironment_35 : decode prog_12_method_35_code 35 = .ok (.iload_n 1, 1) := by decide +kernel
theorem d_M_readEnvironment_36 : decode prog_12_method_35_code 36 = .ok (.sipush 512, 3) := by decide +kernel
theorem d_M_readEnvironment_39 : decode prog_12_method_35_code 39 = .ok (.idiv, 1) := by decide +kernel
theorem d_M_readEnvironment_40 : decode prog_12_method_35_code 40 = .ok (.iconst 2, 1) := by decide +kernel
theorem d_M_readEnvironment_41 : decode prog_12_method_35_code 41 = .ok (.irem, 1) := by decide +kernel
theorem d_M_readEnvironment_42 : decode prog_12_method_35_code 42 = .ok (.sipush 512, 3) := by decide +kernel
theorem d_M_readEnvironment_45 : decode prog_12_method_35_code 45 = .ok (.imul, 1) := by decide +kernel
theorem d_M_readEnvironment_46 : decode prog_12_method_35_code 46 = .ok (.iadd, 1) := by decide +kernel
theorem d_M_readEnvironment_47 : decode prog_12_method_35_code 47 = .ok (.iload_n 1, 1) := by decide +kernel
theorem d_M_readEnvironment_48 : decode prog_12_method_35_code 48 = .ok (.sipush 1024, 3) := by decide +kernel
theorem d_M_readEnvironment_51 : decode prog_12_method_35_code 51 = .ok (.idiv, 1) := by decide +kernel
theorem d_M_readEnvironment_52 : decode prog_12_method_35_code 52 = .ok (.iconst 2, 1) := by decide +kernel
theorem d_M_readEnvironment_53 : decode prog_12_method_35_code 53 = .ok (.irem, 1) := by decide +kernel
theorem d_M_readEnvironment_54 : decode prog_12_method_35_code 54 = .ok (.sipush 1024, 3) := by decide +kernel
theorem d_M_readEnvironment_57 : decode prog_12_method_35_code 57 = .ok (.imul, 1) := by decide +kernel
theorem d_M_readEnvironment_58 : decode prog_12_method_35_code 58 = .ok (.iadd, 1) := by decide +kernel
theorem d_M_readEnvironment_59 : decode prog_12_method_35_code 59 = .ok (.iload_n 1, 1) := by decide +kernel
theorem d_M_readEnvironment_60 : decode prog_12_method_35_code 60 = .ok (.sipush 16384, 3) := by decide +kernel
theorem d_M_readEnvironment_63 : decode prog_12_method_35_code 63 = .ok (.idiv, 1) := by decide +kernel
theorem d_M_readEnvironment_64 : decode prog_12_method_35_code 64 = .ok (.iconst 2, 1) := by decide +kernel
theorem d_M_readEnvironment_65 : decode prog_12_method_35_code 65 = .ok (.irem, 1) := by decide +kernel
theorem d_M_readEnvironment_66 : decode prog_12_method_35_code 66 = .ok (.sipush 16384, 3) := by decide +kernel
theorem d_M_readEnvironment_69 : decode prog_12_method_35_code 69 = .ok (.imul, 1) := by decide +kernel
theorem d_M_readEnvironment_70 : decode prog_12_method_35_code 70 = .ok (.iadd, 1) := by decide +kernel
theorem d_M_readEnvironment_71 : decode prog_12_method_35_code 71 = .ok (.putfield 58, 3) := by decide +kernel
theorem d_M_readEnvironment_74 : decode prog_12_method_35_code 74 = .ok (.aload_n 0, 1) := by decide +kernel
theorem d_M_readEnvironment_75 : decode prog_12_method_35_code 75 = .ok (.iload_n 1, 1) := by decide +kernel
theorem d_M_readEnvironment_76 : decode prog_12_method_35_code 76 = .ok (.sipush 2048, 3) := by decide +kernel
theorem d_M_readEnvironment_79 : decode prog_12_method_35_code 79 = .ok (.idiv, 1) := by decide +kernel
theorem d_M_readEnvironment_80 : decode prog_12_method_35_code 80 = .ok (.bipush 8, 2) := by decide +kernel
theorem d_M_readEnvironment_82 : decode prog_12_method_35_code 82 = .ok (.irem, 1) := by decide +kernel
theorem d_M_readEnvironment_83 : decode prog_12_method_35_code 83 = .ok (.putfield 61, 3) := by decide +kernel
theorem d_M_readEnvironment_86 : decode prog_12_method_35_code 86 = .ok (.aload_n 0, 1) := by decide +kernel
theorem d_M_readEnvironment_87 : decode prog_12_method_35_code 87 = .ok (.iconst 4, 1) := by decide +kernel
theorem d_M_readEnvironment_88 : decode prog_12_method_35_code 88 = .ok (.invokevirtual 173, 3) := by decide +kernel
theorem d_M_readEnvironment_91 : decode prog_12_method_35_code 91 = .ok (.istore_n 2, 1) := by decide +kernel
theorem d_M_readEnvironment_92 : decode prog_12_method_35_code 92 = .ok (.iconst 0, 1) := by decide +kernel
theorem d_M_readEnvironment_93 : decode prog_12_method_35_code 93 = .ok (.istore_n 3, 1) := by decide +kernel
theorem d_M_readEnvironment_94 : decode prog_12_method_35_code 94 = .ok (.iload_n 3, 1) := by decide +kernel
theorem d_M_readEnvironment_95 : decode prog_12_method_35_code 95 = .ok (.bipush 8, 2) := by decide +kernel
theorem d_M_readEnvironment_97 : decode prog_12_method_35_code 97 = .ok (.if_icmp .ge 31, 3) := by decide +kernel
theorem d_M_readEnvironment_100 : decode prog_12_method_35_code 100 = .ok (.aload_n 0, 1) := by decide +kernel
theorem d_M_readEnvironment_101 : decode prog_12_method_35_code 101 = .ok (.getfield 20, 3) := by decide +kernel
theorem d_M_readEnvironment_104 : decode prog_12_method_35_code 104 = .ok (.iload_n 3, 1) := by decide +kernel
theorem d_M_readEnvironment_105 : decode prog_12_method_35_code 105 = .ok (.iload_n 2, 1) := by decide +kernel
theorem d_M_readEnvironment_106 : decode prog_12_method_35_code 106 = .ok (.iconst 4, 1) := by decide +kernel
theorem d_M_readEnvironment_107 : decode prog_12_method_35_code 107 = .ok (.irem, 1) := by decide +kernel
theorem d_M_readEnvironment_108 : decode prog_12_method_35_code 108 = .ok (.iconst 3, 1) := by decide +kernel
theorem d_M_readEnvironment_109 : decode prog_12_method_35_code 109 = .ok (.if_icmp .ne 7, 3) := by decide +kernel
theorem d_M_readEnvironment_112 : decode prog_12_method_35_code 112 = .ok (.iconst 1, 1) := by decide +kernel
theorem d_M_readEnvironment_113 : decode prog_12_method_35_code 113 = .ok (.goto 4, 3) := by decide +kernel
theorem d_M_readEnvironment_116 : decode prog_12_method_35_code 116 = .ok (.iconst 0, 1) := by decide +kernel
theorem d_M_readEnvironment_117 : decode prog_12_method_35_code 117 = .ok (.bastore, 1) := by decide +kernel
theorem d_M_readEnvironment_118 : decode prog_12_method_35_code 118 = .ok (.iload_n 2, 1) := by decide +kernel
theorem d_M_readEnvironment_119 : decode prog_12_method_35_code 119 = .ok (.iconst 4, 1) := by decide +kernel
theorem d_M_readEnvironment_120 : decode prog_12_method_35_code 120 = .ok (.idiv, 1) := by decide +kernel
theorem d_M_readEnvironment_121 : decode prog_12_method_35_code 121 = .ok (.istore_n 2, 1) := by decide +kernel
theorem d_M_readEnvironment_122 : decode prog_12_method_35_code 122 = .ok (.iinc 3 1, 3) := by decide +kernel
theorem d_M_readEnvironment_125 : decode prog_12_method_35_code 125 = .ok (.goto (-31), 3) := by decide +kernel
theorem d_M_readEnvironment_128 : decode prog_12_method_35_code 128 = .ok (.aload_n 0, 1) := by decide +kernel
theorem d_M_readEnvironment_129 : decode prog_12_method_35_code 129 = .ok (.aload_n 0, 1) := by decide +kernel
theorem d_M_readEnvironment_130 : decode prog_12_method_35_code 130 = .ok (.bipush 6, 2) := by decide +kernel
theorem d_M_readEnvironment_132 : decode prog_12_method_35_code 132 = .ok (.invokevirtual 173, 3) := by decide +kernel
theorem d_M_readEnvironment_135 : decode prog_12_method_35_code 135 = .ok (.aload_n 0, 1) := by decide +kernel
theorem d_M_readEnvironment_136 : decode prog_12_method_35_code 136 = .ok (.bipush 8, 2) := by decide +kernel
theorem d_M_readEnvironment_138 : decode prog_12_method_35_code 138 = .ok (.invokevirtual 173, 3) := by decide +kernel
theorem d_M_readEnvironment_141 : decode prog_12_method_35_code 141 = .ok (.sipush 4096, 3) := by decide +kernel
theorem d_M_readEnvironment_144 : decode prog_12_method_35_code 144 = .ok (.idiv, 1) := by decide +kernel
theorem d_M_readEnvironment_145 : decode prog_12_method_35_code 145 = .ok (.ldc 208, 2) := by decide +kernel
theorem d_M_readEnvironment_147 : decode prog_12_method_35_code 147 = .ok (.imul, 1) := by decide +kernel
theorem d_M_readEnvironment_148 : decode prog_12_method_35_code 148 = .ok (.iadd, 1) := by decide +kernel
theorem d_M_readEnvironment_149 : decode prog_12_method_35_code 149 = .ok (.putfield 67, 3) := by decide +kernel
theorem d_M_readEnvironment_152 : decode prog_12_method_35_code 152 = .ok (.aload_n 0, 1) := by decide +kernel
theorem d_M_readEnvironment_153 : decode prog_12_method_35_code 153 = .ok (.aload_n 0, 1) := by decide +kernel
theorem d_M_readEnvironment_154 : decode prog_12_method_35_code 154 = .ok (.bipush 8, 2) := by decide +kernel
theorem d_M_readEnvironment_156 : decode prog_12_method_35_code 156 = .ok (.invokevirtual 173, 3) := by decide +kernel
theorem d_M_readEnvironment_159 : decode prog_12_method_35_code 159 = .ok (.sipush 2048, 3) := by decide +kernel
theorem d_M_readEnvironment_162 : decode prog_12_method_35_code 162 = .ok (.irem, 1) := by decide +kernel
theorem d_M_readEnvironment_163 : decode prog_12_method_35_code 163 = .ok (.putfield 64, 3) := by decide +kernel
theorem d_M_readEnvironment_166 : decode prog_12_method_35_code 166 = .ok (.aload_n 0, 1) := by decide +kernel
theorem d_M_readEnvironment_167 : decode prog_12_method_35_code 167 = .ok (.aload_n 0, 1) := by decide +kernel
theorem d_M_readEnvironment_168 : decode prog_12_method_35_code 168 = .ok (.bipush 10, 2) := by decide +kernel
theorem d_M_readEnvironment_170 : decode prog_12_method_35_code 170 = .ok (.invokevirtual 173, 3) := by decide +kernel
theorem d_M_readEnvironment_173 : decode prog_12_method_35_code 173 = .ok (.aload_n 0, 1) := by decide +kernel
theorem d_M_readEnvironment_174 : decode prog_12_method_35_code 174 = .ok (.bipush 12, 2) := by decide +kernel
theorem d_M_readEnvironment_176 : decode prog_12_method_35_code 176 = .ok (.invokevirtual 173, 3) := by decide +kernel
theorem d_M_readEnvironment_179 : decode prog_12_method_35_code 179 = .ok (.sipush 4096, 3) := by decide +kernel
theorem d_M_readEnvironment_182 : decode prog_12_method_35_code 182 = .ok (.idiv, 1) := by decide +kernel
theorem d_M_readEnvironment_183 : decode prog_12_method_35_code 183 = .ok (.ldc 208, 2) := by decide +kernel
theorem d_M_readEnvironment_185 : decode prog_12_method_35_code 185 = .ok (.imul, 1) := by decide +kernel
theorem d_M_readEnvironment_186 : decode prog_12_method_35_code 186 = .ok (.iadd, 1) := by decide +kernel
theorem d_M_readEnvironment_187 : decode prog_12_method_35_code 187 = .ok (.putfield 70, 3) := by decide +kernel
theorem d_M_readEnvironment_190 : decode prog_12_method_35_code 190 = .ok (.return_, 1) := by decide +kernel
theorem d_M_writeState_0 : decode prog_12_method_36_code 0 = .ok (.aload_n 0, 1) := by decide +kernel
theorem d_M_writeState_1 : decode prog_12_method_36_code 1 = .ok (.invokevirtual 209, 3) := by decide +kernel
theorem d_M_writeState_4 : decode prog_12_method_36_code 4 = .ok (.iconst 0, 1) := by decide +kernel
theorem d_M_writeState_5 : decode prog_12_method_36_code 5 = .ok (.istore_n 1, 1) := by decide +kernel
theorem d_M_writeState_6 : decode prog_12_method_36_code 6 = .ok (.iload_n 1, 1) := by decide +kernel
theorem d_M_writeState_7 : decode prog_12_method_36_code 7 = .ok (.bipush 8, 2) := by decide +kernel
theorem d_M_writeState_9 : decode prog_12_method_36_code 9 = .ok (.if_icmp .ge 78, 3) := by decide +kernel
theorem d_M_writeState_12 : decode prog_12_method_36_code 12 = .ok (.iconst 0, 1) := by decide +kernel
theorem d_M_writeState_13 : decode prog_12_method_36_code 13 = .ok (.istore_n 2, 1) := by decide +kernel
theorem d_M_writeState_14 : decode prog_12_method_36_code 14 = .ok (.iload_n 2, 1) := by decide +kernel
theorem d_M_writeState_15 : decode prog_12_method_36_code 15 = .ok (.bipush 8, 2) := by decide +kernel
theorem d_M_writeState_17 : decode prog_12_method_36_code 17 = .ok (.if_icmp .ge 43, 3) := by decide +kernel
theorem d_M_writeState_20 : decode prog_12_method_36_code 20 = .ok (.aload_n 0, 1) := by decide +kernel
theorem d_M_writeState_21 : decode prog_12_method_36_code 21 = .ok (.getfield 7, 3) := by decide +kernel
theorem d_M_writeState_24 : decode prog_12_method_36_code 24 = .ok (.bipush 14, 2) := by decide +kernel
theorem d_M_writeState_26 : decode prog_12_method_36_code 26 = .ok (.bipush 10, 2) := by decide +kernel
theorem d_M_writeState_28 : decode prog_12_method_36_code 28 = .ok (.iload_n 1, 1) := by decide +kernel
theorem d_M_writeState_29 : decode prog_12_method_36_code 29 = .ok (.imul, 1) := by decide +kernel
theorem d_M_writeState_30 : decode prog_12_method_36_code 30 = .ok (.iadd, 1) := by decide +kernel
theorem d_M_writeState_31 : decode prog_12_method_36_code 31 = .ok (.iload_n 2, 1) := by decide +kernel
theorem d_M_writeState_32 : decode prog_12_method_36_code 32 = .ok (.iadd, 1) := by decide +kernel
theorem d_M_writeState_33 : decode prog_12_method_36_code 33 = .ok (.aload_n 0, 1) := by decide +kernel
theorem d_M_writeState_34 : decode prog_12_method_36_code 34 = .ok (.getfield 16, 3) := by decide +kernel
theorem d_M_writeState_37 : decode prog_12_method_36_code 37 = .ok (.aload_n 0, 1) := by decide +kernel
theorem d_M_writeState_38 : decode prog_12_method_36_code 38 = .ok (.iload_n 1, 1) := by decide +kernel
theorem d_M_writeState_39 : decode prog_12_method_36_code 39 = .ok (.invokevirtual 81, 3) := by decide +kernel
theorem d_M_writeState_42 : decode prog_12_method_36_code 42 = .ok (.laload, 1) := by decide +kernel
theorem d_M_writeState_43 : decode prog_12_method_36_code 43 = .ok (.bipush 8, 2) := by decide +kernel
theorem d_M_writeState_45 : decode prog_12_method_36_code 45 = .ok (.iload_n 2, 1) := by decide +kernel
theorem d_M_writeState_46 : decode prog_12_method_36_code 46 = .ok (.imul, 1) := by decide +kernel
theorem d_M_writeState_47 : decode prog_12_method_36_code 47 = .ok (.lshr, 1) := by decide +kernel
theorem d_M_writeState_48 : decode prog_12_method_36_code 48 = .ok (.ldc2_w 212, 3) := by decide +kernel
theorem d_M_writeState_51 : decode prog_12_method_36_code 51 = .ok (.land, 1) := by decide +kernel
theorem d_M_writeState_52 : decode prog_12_method_36_code 52 = .ok (.l2i, 1) := by decide +kernel
theorem d_M_writeState_53 : decode prog_12_method_36_code 53 = .ok (.iastore, 1) := by decide +kernel
theorem d_M_writeState_54 : decode prog_12_method_36_code 54 = .ok (.iinc 2 1, 3) := by decide +kernel
theorem d_M_writeState_57 : decode prog_12_method_36_code 57 = .ok (.goto (-43), 3) := by decide +kernel
theorem d_M_writeState_60 : decode prog_12_method_36_code 60 = .ok (.aload_n 0, 1) := by decide +kernel
theorem d_M_writeState_61 : decode prog_12_method_36_code 61 = .ok (.bipush 22, 2) := by decide +kernel
theorem d_M_writeState_63 : decode prog_12_method_36_code 63 = .ok (.bipush 10, 2) := by decide +kernel
theorem d_M_writeState_65 : decode prog_12_method_36_code 65 = .ok (.iload_n 1, 1) := by decide +kernel
theorem d_M_writeState_66 : decode prog_12_method_36_code 66 = .ok (.imul, 1) := by decide +kernel
theorem d_M_writeState_67 : decode prog_12_method_36_code 67 = .ok (.iadd, 1) := by decide +kernel
theorem d_M_writeState_68 : decode prog_12_method_36_code 68 = .ok (.aload_n 0, 1) := by decide +kernel
theorem d_M_writeState_69 : decode prog_12_method_36_code 69 = .ok (.getfield 13, 3) := by decide +kernel
theorem d_M_writeState_72 : decode prog_12_method_36_code 72 = .ok (.aload_n 0, 1) := by decide +kernel
theorem d_M_writeState_73 : decode prog_12_method_36_code 73 = .ok (.iload_n 1, 1) := by decide +kernel
theorem d_M_writeState_74 : decode prog_12_method_36_code 74 = .ok (.invokevirtual 81, 3) := by decide +kernel
theorem d_M_writeState_77 : decode prog_12_method_36_code 77 = .ok (.iaload, 1) := by decide +kernel
theorem d_M_writeState_78 : decode prog_12_method_36_code 78 = .ok (.invokevirtual 197, 3) := by decide +kernel
theorem d_M_writeState_81 : decode prog_12_method_36_code 81 = .ok (.iinc 1 1, 3) := by decide +kernel
theorem d_M_writeState_84 : decode prog_12_method_36_code 84 = .ok (.goto (-78), 3) := by decide +kernel
theorem d_M_writeState_87 : decode prog_12_method_36_code 87 = .ok (.aload_n 0, 1) := by decide +kernel
theorem d_M_writeState_88 : decode prog_12_method_36_code 88 = .ok (.invokevirtual 45, 3) := by decide +kernel
theorem d_M_writeState_91 : decode prog_12_method_36_code 91 = .ok (.return_, 1) := by decide +kernel
theorem d_M_readState_0 : decode prog_12_method_37_code 0 = .ok (.aload_n 0, 1) := by decide +kernel
theorem d_M_readState_1 : decode prog_12_method_37_code 1 = .ok (.invokevirtual 214, 3) := by decide +kernel
theorem d_M_readState_4 : decode prog_12_method_37_code 4 = .ok (.iconst 0, 1) := by decide +kernel
theorem d_M_readState_5 : decode prog_12_method_37_code 5 = .ok (.istore_n 1, 1) := by decide +kernel
theorem d_M_readState_6 : decode prog_12_method_37_code 6 = .ok (.iload_n 1, 1) := by decide +kernel
theorem d_M_readState_7 : decode prog_12_method_37_code 7 = .ok (.bipush 8, 2) := by decide +kernel
theorem d_M_readState_9 : decode prog_12_method_37_code 9 = .ok (.if_icmp .ge 81, 3) := by decide +kernel
theorem d_M_readState_12 : decode prog_12_method_37_code 12 = .ok (.lconst 0, 1) := by decide +kernel
theorem d_M_readState_13 : decode prog_12_method_37_code 13 = .ok (.lstore_n 2, 1) := by decide +kernel
theorem d_M_readState_14 : decode prog_12_method_37_code 14 = .ok (.bipush 7, 2) := by decide +kernel
theorem d_M_readState_16 : decode prog_12_method_37_code 16 = .ok (.istore 4, 2) := by decide +kernel
theorem d_M_readState_18 : decode prog_12_method_37_code 18 = .ok (.iload 4, 2) := by decide +kernel
theorem d_M_readState_20 : decode prog_12_method_37_code 20 = .ok (.ifCond .lt 32, 3) := by decide +kernel
theorem d_M_readState_23 : decode prog_12_method_37_code 23 = .ok (.ldc2_w 217, 3) := by decide +kernel
theorem d_M_readState_26 : decode prog_12_method_37_code 26 = .ok (.lload_n 2, 1) := by decide +kernel
theorem d_M_readState_27 : decode prog_12_method_37_code 27 = .ok (.lmul, 1) := by decide +kernel
theorem d_M_readState_28 : decode prog_12_method_37_code 28 = .ok (.aload_n 0, 1) := by decide +kernel
theorem d_M_readState_29 : decode prog_12_method_37_code 29 = .ok (.getfield 7, 3) := by decide +kernel
theorem d_M_readState_32 : decode prog_12_method_37_code 32 = .ok (.bipush 14, 2) := by decide +kernel
theorem d_M_readState_34 : decode prog_12_method_37_code 34 = .ok (.bipush 10, 2) := by decide +kernel
theorem d_M_readState_36 : decode prog_12_method_37_code 36 = .ok (.iload_n 1, 1) := by decide +kernel
theorem d_M_readState_37 : decode prog_12_method_37_code 37 = .ok (.imul, 1) := by decide +kernel
theorem d_M_readState_38 : decode prog_12_method_37_code 38 = .ok (.iadd, 1) := by decide +kernel
theorem d_M_readState_39 : decode prog_12_method_37_code 39 = .ok (.iload 4, 2) := by decide +kernel
theorem d_M_readState_41 : decode prog_12_method_37_code 41 = .ok (.iadd, 1) := by decide +kernel
theorem d_M_readState_42 : decode prog_12_method_37_code 42 = .ok (.iaload, 1) := by decide +kernel
theorem d_M_readState_43 : decode prog_12_method_37_code 43 = .ok (.i2l, 1) := by decide +kernel
theorem d_M_readState_44 : decode prog_12_method_37_code 44 = .ok (.ladd, 1) := by decide +kernel
theorem d_M_readState_45 : decode prog_12_method_37_code 45 = .ok (.lstore_n 2, 1) := by decide +kernel
theorem d_M_readState_46 : decode prog_12_method_37_code 46 = .ok (.iinc 4 (-1), 3) := by decide +kernel
theorem d_M_readState_49 : decode prog_12_method_37_code 49 = .ok (.goto (-31), 3) := by decide +kernel
theorem d_M_readState_52 : decode prog_12_method_37_code 52 = .ok (.aload_n 0, 1) := by decide +kernel
theorem d_M_readState_53 : decode prog_12_method_37_code 53 = .ok (.getfield 16, 3) := by decide +kernel
theorem d_M_readState_56 : decode prog_12_method_37_code 56 = .ok (.aload_n 0, 1) := by decide +kernel
theorem d_M_readState_57 : decode prog_12_method_37_code 57 = .ok (.iload_n 1, 1) := by decide +kernel
theorem d_M_readState_58 : decode prog_12_method_37_code 58 = .ok (.invokevirtual 81, 3) := by decide +kernel
theorem d_M_readState_61 : decode prog_12_method_37_code 61 = .ok (.lload_n 2, 1) := by decide +kernel
theorem d_M_readState_62 : decode prog_12_method_37_code 62 = .ok (.lastore, 1) := by decide +kernel
theorem d_M_readState_63 : decode prog_12_method_37_code 63 = .ok (.aload_n 0, 1) := by decide +kernel
theorem d_M_readState_64 : decode prog_12_method_37_code 64 = .ok (.getfield 13, 3) := by decide +kernel
theorem d_M_readState_67 : decode prog_12_method_37_code 67 = .ok (.aload_n 0, 1) := by decide +kernel
theorem d_M_readState_68 : decode prog_12_method_37_code 68 = .ok (.iload_n 1, 1) := by decide +kernel
theorem d_M_readState_69 : decode prog_12_method_37_code 69 = .ok (.invokevirtual 81, 3) := by decide +kernel
theorem d_M_readState_72 : decode prog_12_method_37_code 72 = .ok (.aload_n 0, 1) := by decide +kernel
theorem d_M_readState_73 : decode prog_12_method_37_code 73 = .ok (.bipush 22, 2) := by decide +kernel
theorem d_M_readState_75 : decode prog_12_method_37_code 75 = .ok (.bipush 10, 2) := by decide +kernel
theorem d_M_readState_77 : decode prog_12_method_37_code 77 = .ok (.iload_n 1, 1) := by decide +kernel
theorem d_M_readState_78 : decode prog_12_method_37_code 78 = .ok (.imul, 1) := by decide +kernel
theorem d_M_readState_79 : decode prog_12_method_37_code 79 = .ok (.iadd, 1) := by decide +kernel
theorem d_M_readState_80 : decode prog_12_method_37_code 80 = .ok (.invokevirtual 173, 3) := by decide +kernel
theorem d_M_readState_83 : decode prog_12_method_37_code 83 = .ok (.iastore, 1) := by decide +kernel
theorem d_M_readState_84 : decode prog_12_method_37_code 84 = .ok (.iinc 1 1, 3) := by decide +kernel
theorem d_M_readState_87 : decode prog_12_method_37_code 87 = .ok (.goto (-81), 3) := by decide +kernel
theorem d_M_readState_90 : decode prog_12_method_37_code 90 = .ok (.return_, 1) := by decide +kernel
theorem d_M_inMemory_0 : decode prog_12_method_38_code 0 = .ok (.aload_n 0, 1) := by decide +kernel
theorem d_M_inMemory_1 : decode prog_12_method_38_code 1 = .ok (.getfield 219, 3) := by decide +kernel
theorem d_M_inMemory_4 : decode prog_12_method_38_code 4 = .ok (.aload_n 0, 1) := by decide +kernel
theorem d_M_inMemory_5 : decode prog_12_method_38_code 5 = .ok (.getfield 161, 3) := by decide +kernel
theorem d_M_inMemory_8 : decode prog_12_method_38_code 8 = .ok (.invokestatic 113, 3) := by decide +kernel
theorem d_M_inMemory_11 : decode prog_12_method_38_code 11 = .ok (.istore_n 1, 1) := by decide +kernel
theorem d_M_inMemory_12 : decode prog_12_method_38_code 12 = .ok (.aload_n 0, 1) := by decide +kernel
theorem d_M_inMemory_13 : decode prog_12_method_38_code 13 = .ok (.getfield 219, 3) := by decide +kernel
theorem d_M_inMemory_16 : decode prog_12_method_38_code 16 = .ok (.aload_n 0, 1) := by decide +kernel
theorem d_M_inMemory_17 : decode prog_12_method_38_code 17 = .ok (.getfield 161, 3) := by decide +kernel
theorem d_M_inMemory_20 : decode prog_12_method_38_code 20 = .ok (.invokestatic 119, 3) := by decide +kernel
theorem d_M_inMemory_23 : decode prog_12_method_38_code 23 = .ok (.istore_n 2, 1) := by decide +kernel
theorem d_M_inMemory_24 : decode prog_12_method_38_code 24 = .ok (.aload_n 0, 1) := by decide +kernel
theorem d_M_inMemory_25 : decode prog_12_method_38_code 25 = .ok (.getfield 219, 3) := by decide +kernel
theorem d_M_inMemory_28 : decode prog_12_method_38_code 28 = .ok (.iconst 2, 1) := by decide +kernel
theorem d_M_inMemory_29 : decode prog_12_method_38_code 29 = .ok (.irem, 1) := by decide +kernel
theorem d_M_inMemory_30 : decode prog_12_method_38_code 30 = .ok (.ifCond .ne 35, 3) := by decide +kernel
theorem d_M_inMemory_33 : decode prog_12_method_38_code 33 = .ok (.aload_n 0, 1) := by decide +kernel
theorem d_M_inMemory_34 : decode prog_12_method_38_code 34 = .ok (.iconst 0, 1) := by decide +kernel
theorem d_M_inMemory_35 : decode prog_12_method_38_code 35 = .ok (.invokevirtual 184, 3) := by decide +kernel
theorem d_M_inMemory_38 : decode prog_12_method_38_code 38 = .ok (.aload_n 0, 1) := by decide +kernel
theorem d_M_inMemory_39 : decode prog_12_method_38_code 39 = .ok (.getfield 76, 3) := by decide +kernel
theorem d_M_inMemory_42 : decode prog_12_method_38_code 42 = .ok (.ifCond .ne 8, 3) := by decide +kernel
theorem d_M_inMemory_45 : decode prog_12_method_38_code 45 = .ok (.aload_n 0, 1) := by decide +kernel
theorem d_M_inMemory_46 : decode prog_12_method_38_code 46 = .ok (.iload_n 1, 1) := by decide +kernel
theorem d_M_inMemory_47 : decode prog_12_method_38_code 47 = .ok (.invokevirtual 222, 3) := by decide +kernel
theorem d_M_inMemory_50 : decode prog_12_method_38_code 50 = .ok (.aload_n 0, 1) := by decide +kernel
theorem d_M_inMemory_51 : decode prog_12_method_38_code 51 = .ok (.getfield 76, 3) := by decide +kernel
theorem d_M_inMemory_54 : decode prog_12_method_38_code 54 = .ok (.ifCond .ne 144, 3) := by decide +kernel
theorem d_M_inMemory_57 : decode prog_12_method_38_code 57 = .ok (.aload_n 0, 1) := by decide +kernel
theorem d_M_inMemory_58 : decode prog_12_method_38_code 58 = .ok (.iconst 0, 1) := by decide +kernel
theorem d_M_inMemory_59 : decode prog_12_method_38_code 59 = .ok (.invokevirtual 224, 3) := by decide +kernel
theorem d_M_inMemory_62 : decode prog_12_method_38_code 62 = .ok (.goto 136, 3) := by decide +kernel
theorem d_M_inMemory_65 : decode prog_12_method_38_code 65 = .ok (.iload_n 1, 1) := by decide +kernel
theorem d_M_inMemory_66 : decode prog_12_method_38_code 66 = .ok (.bipush 9, 2) := by decide +kernel
theorem d_M_inMemory_68 : decode prog_12_method_38_code 68 = .ok (.if_icmp .ne 21, 3) := by decide +kernel
theorem d_M_inMemory_71 : decode prog_12_method_38_code 71 = .ok (.iload_n 2, 1) := by decide +kernel
theorem d_M_inMemory_72 : decode prog_12_method_38_code 72 = .ok (.ifCond .eq 10, 3) := by decide +kernel
theorem d_M_inMemory_75 : decode prog_12_method_38_code 75 = .ok (.aload_n 0, 1) := by decide +kernel
theorem d_M_inMemory_76 : decode prog_12_method_38_code 76 = .ok (.invokevirtual 227, 3) := by decide +kernel
theorem d_M_inMemory_79 : decode prog_12_method_38_code 79 = .ok (.goto 119, 3) := by decide +kernel
theorem d_M_inMemory_82 : decode prog_12_method_38_code 82 = .ok (.aload_n 0, 1) := by decide +kernel
theorem d_M_inMemory_83 : decode prog_12_method_38_code 83 = .ok (.invokevirtual 230, 3) := by decide +kernel
theorem d_M_inMemory_86 : decode prog_12_method_38_code 86 = .ok (.goto 112, 3) := by decide +kernel
theorem d_M_inMemory_89 : decode prog_12_method_38_code 89 = .ok (.iload_n 1, 1) := by decide +kernel
theorem d_M_inMemory_90 : decode prog_12_method_38_code 90 = .ok (.bipush 8, 2) := by decide +kernel
theorem d_M_inMemory_92 : decode prog_12_method_38_code 92 = .ok (.if_icmp .ne 21, 3) := by decide +kernel
theorem d_M_inMemory_95 : decode prog_12_method_38_code 95 = .ok (.iload_n 2, 1) := by decide +kernel
theorem d_M_inMemory_96 : decode prog_12_method_38_code 96 = .ok (.ifCond .eq 10, 3) := by decide +kernel
theorem d_M_inMemory_99 : decode prog_12_method_38_code 99 = .ok (.aload_n 0, 1) := by decide +kernel
theorem d_M_inMemory_100 : decode prog_12_method_38_code 100 = .ok (.invokevirtual 209, 3) := by decide +kernel
theorem d_M_inMemory_103 : decode prog_12_method_38_code 103 = .ok (.goto 95, 3) := by decide +kernel
theorem d_M_inMemory_106 : decode prog_12_method_38_code 106 = .ok (.aload_n 0, 1) := by decide +kernel
theorem d_M_inMemory_107 : decode prog_12_method_38_code 107 = .ok (.invokevirtual 214, 3) := by decide +kernel
theorem d_M_inMemory_110 : decode prog_12_method_38_code 110 = .ok (.goto 88, 3) := by decide +kernel
theorem d_M_inMemory_113 : decode prog_12_method_38_code 113 = .ok (.iload_n 1, 1) := by decide +kernel
theorem d_M_inMemory_114 : decode prog_12_method_38_code 114 = .ok (.bipush 7, 2) := by decide +kernel
theorem d_M_inMemory_116 : decode prog_12_method_38_code 116 = .ok (.if_icmp .ne 51, 3) := by decide +kernel
theorem d_M_inMemory_119 : decode prog_12_method_38_code 119 = .ok (.aload_n 0, 1) := by decide +kernel
theorem d_M_inMemory_120 : decode prog_12_method_38_code 120 = .ok (.getfield 219, 3) := by decide +kernel
theorem d_M_inMemory_123 : decode prog_12_method_38_code 123 = .ok (.iconst 5, 1) := by decide +kernel
theorem d_M_inMemory_124 : decode prog_12_method_38_code 124 = .ok (.if_icmp .ne 15, 3) := by decide +kernel
theorem d_M_inMemory_127 : decode prog_12_method_38_code 127 = .ok (.aload_n 0, 1) := by decide +kernel
theorem d_M_inMemory_128 : decode prog_12_method_38_code 128 = .ok (.iconst 0, 1) := by decide +kernel
theorem d_M_inMemory_129 : decode prog_12_method_38_code 129 = .ok (.aload_n 0, 1) := by decide +kernel
theorem d_M_inMemory_130 : decode prog_12_method_38_code 130 = .ok (.invokevirtual 201, 3) := by decide +kernel
theorem d_M_inMemory_133 : decode prog_12_method_38_code 133 = .ok (.invokevirtual 197, 3) := by decide +kernel
theorem d_M_inMemory_136 : decode prog_12_method_38_code 136 = .ok (.goto 62, 3) := by decide +kernel
theorem d_M_inMemory_139 : decode prog_12_method_38_code 139 = .ok (.iload_n 2, 1) := by decide +kernel
theorem d_M_inMemory_140 : decode prog_12_method_38_code 140 = .ok (.ifCond .eq 15, 3) := by decide +kernel
theorem d_M_inMemory_143 : decode prog_12_method_38_code 143 = .ok (.aload_n 0, 1) := by decide +kernel
theorem d_M_inMemory_144 : decode prog_12_method_38_code 144 = .ok (.iconst 0, 1) := by decide +kernel
theorem d_M_inMemory_145 : decode prog_12_method_38_code 145 = .ok (.aload_n 0, 1) := by decide +kernel
theorem d_M_inMemory_146 : decode prog_12_method_38_code 146 = .ok (.getfield 52, 3) := by decide +kernel
theorem d_M_inMemory_149 : decode prog_12_method_38_code 149 = .ok (.invokevirtual 197, 3) := by decide +kernel
theorem d_M_inMemory_152 : decode prog_12_method_38_code 152 = .ok (.goto 46, 3) := by decide +kernel
theorem d_M_inMemory_155 : decode prog_12_method_38_code 155 = .ok (.aload_n 0, 1) := by decide +kernel
theorem d_M_inMemory_156 : decode prog_12_method_38_code 156 = .ok (.aload_n 0, 1) := by decide +kernel
theorem d_M_inMemory_157 : decode prog_12_method_38_code 157 = .ok (.iconst 0, 1) := by decide +kernel
theorem d_M_inMemory_158 : decode prog_12_method_38_code 158 = .ok (.invokevirtual 173, 3) := by decide +kernel
theorem d_M_inMemory_161 : decode prog_12_method_38_code 161 = .ok (.putfield 52, 3) := by decide +kernel
theorem d_M_inMemory_164 : decode prog_12_method_38_code 164 = .ok (.goto 34, 3) := by decide +kernel
theorem d_M_inMemory_167 : decode prog_12_method_38_code 167 = .ok (.iload_n 2, 1) := by decide +kernel
theorem d_M_inMemory_168 : decode prog_12_method_38_code 168 = .ok (.ifCond .eq 11, 3) := by decide +kernel
theorem d_M_inMemory_171 : decode prog_12_method_38_code 171 = .ok (.aload_n 0, 1) := by decide +kernel
theorem d_M_inMemory_172 : decode prog_12_method_38_code 172 = .ok (.iload_n 1, 1) := by decide +kernel
theorem d_M_inMemory_173 : decode prog_12_method_38_code 173 = .ok (.invokevirtual 233, 3) := by decide +kernel
theorem d_M_inMemory_176 : decode prog_12_method_38_code 176 = .ok (.goto 22, 3) := by decide +kernel
theorem d_M_inMemory_179 : decode prog_12_method_38_code 179 = .ok (.aload_n 0, 1) := by decide +kernel
theorem d_M_inMemory_180 : decode prog_12_method_38_code 180 = .ok (.invokevirtual 235, 3) := by decide +kernel
theorem d_M_inMemory_183 : decode prog_12_method_38_code 183 = .ok (.istore_n 3, 1) := by decide +kernel
theorem d_M_inMemory_184 : decode prog_12_method_38_code 184 = .ok (.iload_n 3, 1) := by decide +kernel
theorem d_M_inMemory_185 : decode prog_12_method_38_code 185 = .ok (.ifCond .ne 8, 3) := by decide +kernel
theorem d_M_inMemory_188 : decode prog_12_method_38_code 188 = .ok (.aload_n 0, 1) := by decide +kernel
theorem d_M_inMemory_189 : decode prog_12_method_38_code 189 = .ok (.iload_n 1, 1) := by decide +kernel
theorem d_M_inMemory_190 : decode prog_12_method_38_code 190 = .ok (.invokevirtual 222, 3) := by decide +kernel
theorem d_M_inMemory_193 : decode prog_12_method_38_code 193 = .ok (.aload_n 0, 1) := by decide +kernel
theorem d_M_inMemory_194 : decode prog_12_method_38_code 194 = .ok (.iload_n 3, 1) := by decide +kernel
theorem d_M_inMemory_195 : decode prog_12_method_38_code 195 = .ok (.invokevirtual 239, 3) := by decide +kernel
theorem d_M_inMemory_198 : decode prog_12_method_38_code 198 = .ok (.return_, 1) := by decide +kernel
theorem d_M_copy_0 : decode prog_12_method_40_code 0 = .ok (.aload_n 0, 1) := by decide +kernel
theorem d_M_copy_1 : decode prog_12_method_40_code 1 = .ok (.getfield 161, 3) := by decide +kernel
theorem d_M_copy_4 : decode prog_12_method_40_code 4 = .ok (.ifCond .ne 18, 3) := by decide +kernel
theorem d_M_copy_7 : decode prog_12_method_40_code 7 = .ok (.aload_n 0, 1) := by decide +kernel
theorem d_M_copy_8 : decode prog_12_method_40_code 8 = .ok (.getfield 20, 3) := by decide +kernel
theorem d_M_copy_11 : decode prog_12_method_40_code 11 = .ok (.aload_n 0, 1) := by decide +kernel
theorem d_M_copy_12 : decode prog_12_method_40_code 12 = .ok (.aload_n 0, 1) := by decide +kernel
theorem d_M_copy_13 : decode prog_12_method_40_code 13 = .ok (.getfield 242, 3) := by decide +kernel
theorem d_M_copy_16 : decode prog_12_method_40_code 16 = .ok (.invokevirtual 81, 3) := by decide +kernel
theorem d_M_copy_19 : decode prog_12_method_40_code 19 = .ok (.iconst 1, 1) := by decide +kernel
theorem d_M_copy_20 : decode prog_12_method_40_code 20 = .ok (.bastore, 1) := by decide +kernel
theorem d_M_copy_21 : decode prog_12_method_40_code 21 = .ok (.return_, 1) := by decide +kernel
theorem d_M_copy_22 : decode prog_12_method_40_code 22 = .ok (.aload_n 0, 1) := by decide +kernel
theorem d_M_copy_23 : decode prog_12_method_40_code 23 = .ok (.iconst 0, 1) := by decide +kernel
theorem d_M_copy_24 : decode prog_12_method_40_code 24 = .ok (.invokevirtual 184, 3) := by decide +kernel
theorem d_M_copy_27 : decode prog_12_method_40_code 27 = .ok (.aload_n 0, 1) := by decide +kernel
theorem d_M_copy_28 : decode prog_12_method_40_code 28 = .ok (.getfield 76, 3) := by decide +kernel
theorem d_M_copy_31 : decode prog_12_method_40_code 31 = .ok (.ifCond .eq 4, 3) := by decide +kernel
theorem d_M_copy_34 : decode prog_12_method_40_code 34 = .ok (.return_, 1) := by decide +kernel
theorem d_M_copy_35 : decode prog_12_method_40_code 35 = .ok (.aload_n 0, 1) := by decide +kernel
theorem d_M_copy_36 : decode prog_12_method_40_code 36 = .ok (.iconst 0, 1) := by decide +kernel
theorem d_M_copy_37 : decode prog_12_method_40_code 37 = .ok (.invokevirtual 187, 3) := by decide +kernel
theorem d_M_copy_40 : decode prog_12_method_40_code 40 = .ok (.aload_n 0, 1) := by decide +kernel
theorem d_M_copy_41 : decode prog_12_method_40_code 41 = .ok (.aload_n 0, 1) := by decide +kernel
theorem d_M_copy_42 : decode prog_12_method_40_code 42 = .ok (.getfield 242, 3) := by decide +kernel
theorem d_M_copy_45 : decode prog_12_method_40_code 45 = .ok (.invokevirtual 106, 3) := by decide +kernel
theorem d_M_copy_48 : decode prog_12_method_40_code 48 = .ok (.aload_n 0, 1) := by decide +kernel
theorem d_M_copy_49 : decode prog_12_method_40_code 49 = .ok (.getfield 161, 3) := by decide +kernel
theorem d_M_copy_52 : decode prog_12_method_40_code 52 = .ok (.iconst 3, 1) := by decide +kernel
theorem d_M_copy_53 : decode prog_12_method_40_code 53 = .ok (.if_icmp .ne 7, 3) := by decide +kernel
theorem d_M_copy_56 : decode prog_12_method_40_code 56 = .ok (.aload_n 0, 1) := by decide +kernel
theorem d_M_copy_57 : decode prog_12_method_40_code 57 = .ok (.invokevirtual 167, 3) := by decide +kernel
theorem d_M_copy_60 : decode prog_12_method_40_code 60 = .ok (.return_, 1) := by decide +kernel
theorem d_M_change_0 : decode prog_12_method_42_code 0 = .ok (.aload_n 0, 1) := by decide +kernel
theorem d_M_change_1 : decode prog_12_method_42_code 1 = .ok (.iconst 0, 1) := by decide +kernel
theorem d_M_change_2 : decode prog_12_method_42_code 2 = .ok (.invokevirtual 184, 3) := by decide +kernel
theorem d_M_change_5 : decode prog_12_method_42_code 5 = .ok (.aload_n 0, 1) := by decide +kernel
theorem d_M_change_6 : decode prog_12_method_42_code 6 = .ok (.aload_n 0, 1) := by decide +kernel
theorem d_M_change_7 : decode prog_12_method_42_code 7 = .ok (.getfield 242, 3) := by decide +kernel
theorem d_M_change_10 : decode prog_12_method_42_code 10 = .ok (.invokevirtual 184, 3) := by decide +kernel
theorem d_M_change_13 : decode prog_12_method_42_code 13 = .ok (.aload_n 0, 1) := by decide +kernel
theorem d_M_change_14 : decode prog_12_method_42_code 14 = .ok (.getfield 76, 3) := by decide +kernel
theorem d_M_change_17 : decode prog_12_method_42_code 17 = .ok (.ifCond .eq 4, 3) := by decide +kernel
theorem d_M_change_20 : decode prog_12_method_42_code 20 = .ok (.return_, 1) := by decide +kernel
theorem d_M_change_21 : decode prog_12_method_42_code 21 = .ok (.aload_n 0, 1) := by decide +kernel
theorem d_M_change_22 : decode prog_12_method_42_code 22 = .ok (.iconst 0, 1) := by decide +kernel
theorem d_M_change_23 : decode prog_12_method_42_code 23 = .ok (.invokevirtual 92, 3) := by decide +kernel
theorem d_M_change_26 : decode prog_12_method_42_code 26 = .ok (.istore_n 1, 1) := by decide +kernel
theorem d_M_change_27 : decode prog_12_method_42_code 27 = .ok (.aload_n 0, 1) := by decide +kernel
theorem d_M_change_28 : decode prog_12_method_42_code 28 = .ok (.iconst 0, 1) := by decide +kernel
theorem d_M_change_29 : decode prog_12_method_42_code 29 = .ok (.invokevirtual 98, 3) := by decide +kernel
theorem d_M_change_32 : decode prog_12_method_42_code 32 = .ok (.lstore_n 2, 1) := by decide +kernel
theorem d_M_change_33 : decode prog_12_method_42_code 33 = .ok (.aload_n 0, 1) := by decide +kernel
theorem d_M_change_34 : decode prog_12_method_42_code 34 = .ok (.aload_n 0, 1) := by decide +kernel
theorem d_M_change_35 : decode prog_12_method_42_code 35 = .ok (.getfield 242, 3) := by decide +kernel
theorem d_M_change_38 : decode prog_12_method_42_code 38 = .ok (.invokevirtual 187, 3) := by decide +kernel
theorem d_M_change_41 : decode prog_12_method_42_code 41 = .ok (.aload_n 0, 1) := by decide +kernel
theorem d_M_change_42 : decode prog_12_method_42_code 42 = .ok (.iconst 0, 1) := by decide +kernel
theorem d_M_change_43 : decode prog_12_method_42_code 43 = .ok (.invokevirtual 106, 3) := by decide +kernel
theorem d_M_change_46 : decode prog_12_method_42_code 46 = .ok (.aload_n 0, 1) := by decide +kernel
theorem d_M_change_47 : decode prog_12_method_42_code 47 = .ok (.iload_n 1, 1) := by decide +kernel
theorem d_M_change_48 : decode prog_12_method_42_code 48 = .ok (.putfield 95, 3) := by decide +kernel
theorem d_M_change_51 : decode prog_12_method_42_code 51 = .ok (.aload_n 0, 1) := by decide +kernel
theorem d_M_change_52 : decode prog_12_method_42_code 52 = .ok (.lload_n 2, 1) := by decide +kernel
theorem d_M_change_53 : decode prog_12_method_42_code 53 = .ok (.putfield 102, 3) := by decide +kernel
theorem d_M_change_56 : decode prog_12_method_42_code 56 = .ok (.aload_n 0, 1) := by decide +kernel
theorem d_M_change_57 : decode prog_12_method_42_code 57 = .ok (.aload_n 0, 1) := by decide +kernel
theorem d_M_change_58 : decode prog_12_method_42_code 58 = .ok (.getfield 242, 3) := by decide +kernel
theorem d_M_change_61 : decode prog_12_method_42_code 61 = .ok (.invokevirtual 106, 3) := by decide +kernel
theorem d_M_change_64 : decode prog_12_method_42_code 64 = .ok (.return_, 1) := by decide +kernel
theorem d_M_look_0 : decode prog_12_method_43_code 0 = .ok (.aload_n 0, 1) := by decide +kernel
theorem d_M_look_1 : decode prog_12_method_43_code 1 = .ok (.getfield 242, 3) := by decide +kernel
theorem d_M_look_4 : decode prog_12_method_43_code 4 = .ok (.iconst 5, 1) := by decide +kernel
theorem d_M_look_5 : decode prog_12_method_43_code 5 = .ok (.if_icmp .ne 134, 3) := by decide +kernel
theorem d_M_look_8 : decode prog_12_method_43_code 8 = .ok (.aload_n 0, 1) := by decide +kernel
theorem d_M_look_9 : decode prog_12_method_43_code 9 = .ok (.iconst 0, 1) := by decide +kernel
theorem d_M_look_10 : decode prog_12_method_43_code 10 = .ok (.aload_n 0, 1) := by decide +kernel
theorem d_M_look_11 : decode prog_12_method_43_code 11 = .ok (.getfield 13, 3) := by decide +kernel
theorem d_M_look_14 : decode prog_12_method_43_code 14 = .ok (.aload_n 0, 1) := by decide +kernel
theorem d_M_look_15 : decode prog_12_method_43_code 15 = .ok (.getfield 61, 3) := by decide +kernel
theorem d_M_look_18 : decode prog_12_method_43_code 18 = .ok (.iaload, 1) := by decide +kernel
theorem d_M_look_19 : decode prog_12_method_43_code 19 = .ok (.aload_n 0, 1) := by decide +kernel
theorem d_M_look_20 : decode prog_12_method_43_code 20 = .ok (.getfield 16, 3) := by decide +kernel
theorem d_M_look_23 : decode prog_12_method_43_code 23 = .ok (.aload_n 0, 1) := by decide +kernel
theorem d_M_look_24 : decode prog_12_method_43_code 24 = .ok (.getfield 61, 3) := by decide +kernel
theorem d_M_look_27 : decode prog_12_method_43_code 27 = .ok (.laload, 1) := by decide +kernel
theorem d_M_look_28 : decode prog_12_method_43_code 28 = .ok (.invokevirtual 145, 3) := by decide +kernel
theorem d_M_look_31 : decode prog_12_method_43_code 31 = .ok (.aload_n 0, 1) := by decide +kernel
theorem d_M_look_32 : decode prog_12_method_43_code 32 = .ok (.getfield 20, 3) := by decide +kernel
theorem d_M_look_35 : decode prog_12_method_43_code 35 = .ok (.aload_n 0, 1) := by decide +kernel
theorem d_M_look_36 : decode prog_12_method_43_code 36 = .ok (.getfield 61, 3) := by decide +kernel
theorem d_M_look_39 : decode prog_12_method_43_code 39 = .ok (.baload, 1) := by decide +kernel
theorem d_M_look_40 : decode prog_12_method_43_code 40 = .ok (.ifCond .eq 8, 3) := by decide +kernel
theorem d_M_look_43 : decode prog_12_method_43_code 43 = .ok (.bipush 9, 2) := by decide +kernel
theorem d_M_look_45 : decode prog_12_method_43_code 45 = .ok (.goto 11, 3) := by decide +kernel
theorem d_M_look_48 : decode prog_12_method_43_code 48 = .ok (.aload_n 0, 1) := by decide +kernel
theorem d_M_look_49 : decode prog_12_method_43_code 49 = .ok (.getfield 34, 3) := by decide +kernel
theorem d_M_look_52 : decode prog_12_method_43_code 52 = .ok (.iconst 0, 1) := by decide +kernel
theorem d_M_look_53 : decode prog_12_method_43_code 53 = .ok (.invokevirtual 269, 3) := by decide +kernel
theorem d_M_look_56 : decode prog_12_method_43_code 56 = .ok (.istore_n 1, 1) := by decide +kernel
theorem d_M_look_57 : decode prog_12_method_43_code 57 = .ok (.aload_n 0, 1) := by decide +kernel
theorem d_M_look_58 : decode prog_12_method_43_code 58 = .ok (.sipush 256, 3) := by decide +kernel
theorem d_M_look_61 : decode prog_12_method_43_code 61 = .ok (.iload_n 1, 1) := by decide +kernel
theorem d_M_look_62 : decode prog_12_method_43_code 62 = .ok (.iconst 2, 1) := by decide +kernel
theorem d_M_look_63 : decode prog_12_method_43_code 63 = .ok (.irem, 1) := by decide +kernel
theorem d_M_look_64 : decode prog_12_method_43_code 64 = .ok (.iconst 1, 1) := by decide +kernel
theorem d_M_look_65 : decode prog_12_method_43_code 65 = .ok (.if_icmp .ne 7, 3) := by decide +kernel
theorem d_M_look_68 : decode prog_12_method_43_code 68 = .ok (.iconst 1, 1) := by decide +kernel
theorem d_M_look_69 : decode prog_12_method_43_code 69 = .ok (.goto 4, 3) := by decide +kernel
theorem d_M_look_72 : decode prog_12_method_43_code 72 = .ok (.iconst 0, 1) := by decide +kernel
theorem d_M_look_73 : decode prog_12_method_43_code 73 = .ok (.invokevirtual 157, 3) := by decide +kernel
theorem d_M_look_76 : decode prog_12_method_43_code 76 = .ok (.aload_n 0, 1) := by decide +kernel
theorem d_M_look_77 : decode prog_12_method_43_code 77 = .ok (.sipush 512, 3) := by decide +kernel
theorem d_M_look_80 : decode prog_12_method_43_code 80 = .ok (.iload_n 1, 1) := by decide +kernel
theorem d_M_look_81 : decode prog_12_method_43_code 81 = .ok (.iconst 2, 1) := by decide +kernel
theorem d_M_look_82 : decode prog_12_method_43_code 82 = .ok (.idiv, 1) := by decide +kernel
theorem d_M_look_83 : decode prog_12_method_43_code 83 = .ok (.iconst 2, 1) := by decide +kernel
theorem d_M_look_84 : decode prog_12_method_43_code 84 = .ok (.irem, 1) := by decide +kernel
theorem d_M_look_85 : decode prog_12_method_43_code 85 = .ok (.iconst 1, 1) := by decide +kernel
theorem d_M_look_86 : decode prog_12_method_43_code 86 = .ok (.if_icmp .ne 7, 3) := by decide +kernel
theorem d_M_look_89 : decode prog_12_method_43_code 89 = .ok (.iconst 1, 1) := by decide +kernel
theorem d_M_look_90 : decode prog_12_method_43_code 90 = .ok (.goto 4, 3) := by decide +kernel
theorem d_M_look_93 : decode prog_12_method_43_code 93 = .ok (.iconst 0, 1) := by decide +kernel
theorem d_M_look_94 : decode prog_12_method_43_code 94 = .ok (.invokevirtual 157, 3) := by decide +kernel
theorem d_M_look_97 : decode prog_12_method_43_code 97 = .ok (.aload_n 0, 1) := by decide +kernel
theorem d_M_look_98 : decode prog_12_method_43_code 98 = .ok (.sipush 1024, 3) := by decide +kernel
theorem d_M_look_101 : decode prog_12_method_43_code 101 = .ok (.iload_n 1, 1) := by decide +kernel
theorem d_M_look_102 : decode prog_12_method_43_code 102 = .ok (.iconst 4, 1) := by decide +kernel
theorem d_M_look_103 : decode prog_12_method_43_code 103 = .ok (.idiv, 1) := by decide +kernel
theorem d_M_look_104 : decode prog_12_method_43_code 104 = .ok (.iconst 2, 1) := by decide +kernel
theorem d_M_look_105 : decode prog_12_method_43_code 105 = .ok (.irem, 1) := by decide +kernel
theorem d_M_look_106 : decode prog_12_method_43_code 106 = .ok (.iconst 1, 1) := by decide +kernel
theorem d_M_look_107 : decode prog_12_method_43_code 107 = .ok (.if_icmp .ne 7, 3) := by decide +kernel
theorem d_M_look_110 : decode prog_12_method_43_code 110 = .ok (.iconst 1, 1) := by decide +kernel
theorem d_M_look_111 : decode prog_12_method_43_code 111 = .ok (.goto 4, 3) := by decide +kernel
theorem d_M_look_114 : decode prog_12_method_43_code 114 = .ok (.iconst 0, 1) := by decide +kernel
theorem d_M_look_115 : decode prog_12_method_43_code 115 = .ok (.invokevirtual 157, 3) := by decide +kernel
theorem d_M_look_118 : decode prog_12_method_43_code 118 = .ok (.aload_n 0, 1) := by decide +kernel
theorem d_M_look_119 : decode prog_12_method_43_code 119 = .ok (.sipush 16384, 3) := by decide +kernel
theorem d_M_look_122 : decode prog_12_method_43_code 122 = .ok (.iload_n 1, 1) := by decide +kernel
theorem d_M_look_123 : decode prog_12_method_43_code 123 = .ok (.bipush 8, 2) := by decide +kernel
theorem d_M_look_125 : decode prog_12_method_43_code 125 = .ok (.idiv, 1) := by decide +kernel
theorem d_M_look_126 : decode prog_12_method_43_code 126 = .ok (.iconst 1, 1) := by decide +kernel
theorem d_M_look_127 : decode prog_12_method_43_code 127 = .ok (.if_icmp .ne 7, 3) := by decide +kernel
theorem d_M_look_130 : decode prog_12_method_43_code 130 = .ok (.iconst 1, 1) := by decide +kernel
theorem d_M_look_131 : decode prog_12_method_43_code 131 = .ok (.goto 4, 3) := by decide +kernel
theorem d_M_look_134 : decode prog_12_method_43_code 134 = .ok (.iconst 0, 1) := by decide +kernel
theorem d_M_look_135 : decode prog_12_method_43_code 135 = .ok (.invokevirtual 157, 3) := by decide +kernel
theorem d_M_look_138 : decode prog_12_method_43_code 138 = .ok (.return_, 1) := by decide +kernel
theorem d_M_look_139 : decode prog_12_method_43_code 139 = .ok (.aload_n 0, 1) := by decide +kernel
theorem d_M_look_140 : decode prog_12_method_43_code 140 = .ok (.iconst 0, 1) := by decide +kernel
theorem d_M_look_141 : decode prog_12_method_43_code 141 = .ok (.invokevirtual 184, 3) := by decide +kernel
theorem d_M_look_144 : decode prog_12_method_43_code 144 = .ok (.aload_n 0, 1) := by decide +kernel
theorem d_M_look_145 : decode prog_12_method_43_code 145 = .ok (.getfield 76, 3) := by decide +kernel
theorem d_M_look_148 : decode prog_12_method_43_code 148 = .ok (.ifCond .eq 4, 3) := by decide +kernel
theorem d_M_look_151 : decode prog_12_method_43_code 151 = .ok (.return_, 1) := by decide +kernel
theorem d_M_look_152 : decode prog_12_method_43_code 152 = .ok (.aload_n 0, 1) := by decide +kernel
theorem d_M_look_153 : decode prog_12_method_43_code 153 = .ok (.iconst 0, 1) := by decide +kernel
theorem d_M_look_154 : decode prog_12_method_43_code 154 = .ok (.invokevirtual 187, 3) := by decide +kernel
theorem d_M_look_157 : decode prog_12_method_43_code 157 = .ok (.aload_n 0, 1) := by decide +kernel
theorem d_M_look_158 : decode prog_12_method_43_code 158 = .ok (.getfield 242, 3) := by decide +kernel
theorem d_M_look_161 : decode prog_12_method_43_code 161 = .ok (.iconst 4, 1) := by decide +kernel
theorem d_M_look_162 : decode prog_12_method_43_code 162 = .ok (.if_icmp .ne 11, 3) := by decide +kernel
theorem d_M_look_165 : decode prog_12_method_43_code 165 = .ok (.aload_n 0, 1) := by decide +kernel
theorem d_M_look_166 : decode prog_12_method_43_code 166 = .ok (.iconst 1, 1) := by decide +kernel
theorem d_M_look_167 : decode prog_12_method_43_code 167 = .ok (.invokevirtual 164, 3) := by decide +kernel
theorem d_M_look_170 : decode prog_12_method_43_code 170 = .ok (.goto 53, 3) := by decide +kernel
theorem d_M_look_173 : decode prog_12_method_43_code 173 = .ok (.aload_n 0, 1) := by decide +kernel
theorem d_M_look_174 : decode prog_12_method_43_code 174 = .ok (.getfield 95, 3) := by decide +kernel
theorem d_M_look_177 : decode prog_12_method_43_code 177 = .ok (.sipush 32767, 3) := by decide +kernel
theorem d_M_look_180 : decode prog_12_method_43_code 180 = .ok (.if_icmp .le 7, 3) := by decide +kernel
theorem d_M_look_183 : decode prog_12_method_43_code 183 = .ok (.iconst 1, 1) := by decide +kernel
theorem d_M_look_184 : decode prog_12_method_43_code 184 = .ok (.goto 4, 3) := by decide +kernel
theorem d_M_look_187 : decode prog_12_method_43_code 187 = .ok (.iconst 0, 1) := by decide +kernel
theorem d_M_look_188 : decode prog_12_method_43_code 188 = .ok (.istore_n 1, 1) := by decide +kernel
theorem d_M_look_189 : decode prog_12_method_43_code 189 = .ok (.aload_n 0, 1) := by decide +kernel
theorem d_M_look_190 : decode prog_12_method_43_code 190 = .ok (.aload_n 0, 1) := by decide +kernel
theorem d_M_look_191 : decode prog_12_method_43_code 191 = .ok (.getfield 95, 3) := by decide +kernel
theorem d_M_look_194 : decode prog_12_method_43_code 194 = .ok (.ldc 80, 2) := by decide +kernel
theorem d_M_look_196 : decode prog_12_method_43_code 196 = .ok (.irem, 1) := by decide +kernel
theorem d_M_look_197 : decode prog_12_method_43_code 197 = .ok (.aload_n 0, 1) := by decide +kernel
theorem d_M_look_198 : decode prog_12_method_43_code 198 = .ok (.getfield 242, 3) := by decide +kernel
theorem d_M_look_201 : decode prog_12_method_43_code 201 = .ok (.ifCond .ne 12, 3) := by decide +kernel
theorem d_M_look_204 : decode prog_12_method_43_code 204 = .ok (.iload_n 1, 1) := by decide +kernel
theorem d_M_look_205 : decode prog_12_method_43_code 205 = .ok (.ifCond .ne 8, 3) := by decide +kernel
theorem d_M_look_208 : decode prog_12_method_43_code 208 = .ok (.ldc 80, 2) := by decide +kernel
theorem d_M_look_210 : decode prog_12_method_43_code 210 = .ok (.goto 4, 3) := by decide +kernel
theorem d_M_look_213 : decode prog_12_method_43_code 213 = .ok (.iconst 0, 1) := by decide +kernel
theorem d_M_look_214 : decode prog_12_method_43_code 214 = .ok (.iadd, 1) := by decide +kernel
theorem d_M_look_215 : decode prog_12_method_43_code 215 = .ok (.putfield 95, 3) := by decide +kernel
theorem d_M_look_218 : decode prog_12_method_43_code 218 = .ok (.aload_n 0, 1) := by decide +kernel
theorem d_M_look_219 : decode prog_12_method_43_code 219 = .ok (.iconst 0, 1) := by decide +kernel
theorem d_M_look_220 : decode prog_12_method_43_code 220 = .ok (.invokevirtual 106, 3) := by decide +kernel
theorem d_M_look_223 : decode prog_12_method_43_code 223 = .ok (.return_, 1) := by decide +kernel
theorem d_M_split_0 : decode prog_12_method_44_code 0 = .ok (.aload_n 0, 1) := by decide +kernel
theorem d_M_split_1 : decode prog_12_method_44_code 1 = .ok (.iconst 0, 1) := by decide +kernel
theorem d_M_split_2 : decode prog_12_method_44_code 2 = .ok (.invokevirtual 184, 3) := by decide +kernel
theorem d_M_split_5 : decode prog_12_method_44_code 5 = .ok (.aload_n 0, 1) := by decide +kernel
theorem d_M_split_6 : decode prog_12_method_44_code 6 = .ok (.getfield 76, 3) := by decide +kernel
theorem d_M_split_9 : decode prog_12_method_44_code 9 = .ok (.ifCond .eq 4, 3) := by decide +kernel
theorem d_M_split_12 : decode prog_12_method_44_code 12 = .ok (.return_, 1) := by decide +kernel
theorem d_M_split_13 : decode prog_12_method_44_code 13 = .ok (.aload_n 0, 1) := by decide +kernel
theorem d_M_split_14 : decode prog_12_method_44_code 14 = .ok (.invokevirtual 235, 3) := by decide +kernel
theorem d_M_split_17 : decode prog_12_method_44_code 17 = .ok (.istore_n 1, 1) := by decide +kernel
theorem d_M_split_18 : decode prog_12_method_44_code 18 = .ok (.aload_n 0, 1) := by decide +kernel
theorem d_M_split_19 : decode prog_12_method_44_code 19 = .ok (.getfield 76, 3) := by decide +kernel
theorem d_M_split_22 : decode prog_12_method_44_code 22 = .ok (.ifCond .eq 4, 3) := by decide +kernel
theorem d_M_split_25 : decode prog_12_method_44_code 25 = .ok (.return_, 1) := by decide +kernel
theorem d_M_split_26 : decode prog_12_method_44_code 26 = .ok (.aload_n 0, 1) := by decide +kernel
theorem d_M_split_27 : decode prog_12_method_44_code 27 = .ok (.iconst 0, 1) := by decide +kernel
theorem d_M_split_28 : decode prog_12_method_44_code 28 = .ok (.aload_n 0, 1) := by decide +kernel
theorem d_M_split_29 : decode prog_12_method_44_code 29 = .ok (.iconst 0, 1) := by decide +kernel
theorem d_M_split_30 : decode prog_12_method_44_code 30 = .ok (.invokevirtual 92, 3) := by decide +kernel
theorem d_M_split_33 : decode prog_12_method_44_code 33 = .ok (.aload_n 0, 1) := by decide +kernel
theorem d_M_split_34 : decode prog_12_method_44_code 34 = .ok (.iconst 0, 1) := by decide +kernel
theorem d_M_split_35 : decode prog_12_method_44_code 35 = .ok (.invokevirtual 98, 3) := by decide +kernel
theorem d_M_split_38 : decode prog_12_method_44_code 38 = .ok (.invokevirtual 145, 3) := by decide +kernel
theorem d_M_split_41 : decode prog_12_method_44_code 41 = .ok (.aload_n 0, 1) := by decide +kernel
theorem d_M_split_42 : decode prog_12_method_44_code 42 = .ok (.aload_n 0, 1) := by decide +kernel
theorem d_M_split_43 : decode prog_12_method_44_code 43 = .ok (.getfield 34, 3) := by decide +kernel
theorem d_M_split_46 : decode prog_12_method_44_code 46 = .ok (.iconst 0, 1) := by decide +kernel
theorem d_M_split_47 : decode prog_12_method_44_code 47 = .ok (.iconst 1, 1) := by decide +kernel
theorem d_M_split_48 : decode prog_12_method_44_code 48 = .ok (.iconst 2, 1) := by decide +kernel
theorem d_M_split_49 : decode prog_12_method_44_code 49 = .ok (.invokevirtual 272, 3) := by decide +kernel
theorem d_M_split_52 : decode prog_12_method_44_code 52 = .ok (.invokevirtual 85, 3) := by decide +kernel
theorem d_M_split_55 : decode prog_12_method_44_code 55 = .ok (.aload_n 0, 1) := by decide +kernel
theorem d_M_split_56 : decode prog_12_method_44_code 56 = .ok (.getfield 76, 3) := by decide +kernel
theorem d_M_split_59 : decode prog_12_method_44_code 59 = .ok (.ifCond .eq 4, 3) := by decide +kernel
theorem d_M_split_62 : decode prog_12_method_44_code 62 = .ok (.return_, 1) := by decide +kernel
theorem d_M_split_63 : decode prog_12_method_44_code 63 = .ok (.aload_n 0, 1) := by decide +kernel
theorem d_M_split_64 : decode prog_12_method_44_code 64 = .ok (.iconst 1, 1) := by decide +kernel
theorem d_M_split_65 : decode prog_12_method_44_code 65 = .ok (.invokevirtual 260, 3) := by decide +kernel
theorem d_M_split_68 : decode prog_12_method_44_code 68 = .ok (.aload_n 0, 1) := by decide +kernel
theorem d_M_split_69 : decode prog_12_method_44_code 69 = .ok (.iconst 0, 1) := by decide +kernel
theorem d_M_split_70 : decode prog_12_method_44_code 70 = .ok (.invokevirtual 106, 3) := by decide +kernel
theorem d_M_split_73 : decode prog_12_method_44_code 73 = .ok (.aload_n 0, 1) := by decide +kernel
theorem d_M_split_74 : decode prog_12_method_44_code 74 = .ok (.iconst 2, 1) := by decide +kernel
theorem d_M_split_75 : decode prog_12_method_44_code 75 = .ok (.invokevirtual 260, 3) := by decide +kernel
theorem d_M_split_78 : decode prog_12_method_44_code 78 = .ok (.aload_n 0, 1) := by decide +kernel
theorem d_M_split_79 : decode prog_12_method_44_code 79 = .ok (.iload_n 1, 1) := by decide +kernel
theorem d_M_split_80 : decode prog_12_method_44_code 80 = .ok (.invokevirtual 239, 3) := by decide +kernel
theorem d_M_split_83 : decode prog_12_method_44_code 83 = .ok (.return_, 1) := by decide +kernel
theorem d_M_step_0 : decode prog_12_method_45_code 0 = .ok (.aload_n 0, 1) := by decide +kernel
theorem d_M_step_1 : decode prog_12_method_45_code 1 = .ok (.getfield 242, 3) := by decide +kernel
theorem d_M_step_4 : decode prog_12_method_45_code 4 = .ok (.ifCond .eq 11, 3) := by decide +kernel
theorem d_M_step_7 : decode prog_12_method_45_code 7 = .ok (.aload_n 0, 1) := by decide +kernel
theorem d_M_step_8 : decode prog_12_method_45_code 8 = .ok (.getfield 242, 3) := by decide +kernel
theorem d_M_step_11 : decode prog_12_method_45_code 11 = .ok (.iconst 5, 1) := by decide +kernel
theorem d_M_step_12 : decode prog_12_method_45_code 12 = .ok (.if_icmp .ne 7, 3) := by decide +kernel
theorem d_M_step_15 : decode prog_12_method_45_code 15 = .ok (.iconst 1, 1) := by decide +kernel
theorem d_M_step_16 : decode prog_12_method_45_code 16 = .ok (.goto 4, 3) := by decide +kernel
theorem d_M_step_19 : decode prog_12_method_45_code 19 = .ok (.iconst 0, 1) := by decide +kernel
theorem d_M_step_20 : decode prog_12_method_45_code 20 = .ok (.istore_n 1, 1) := by decide +kernel
theorem d_M_step_21 : decode prog_12_method_45_code 21 = .ok (.aload_n 0, 1) := by decide +kernel
theorem d_M_step_22 : decode prog_12_method_45_code 22 = .ok (.iconst 0, 1) := by decide +kernel
theorem d_M_step_23 : decode prog_12_method_45_code 23 = .ok (.invokevirtual 184, 3) := by decide +kernel
theorem d_M_step_26 : decode prog_12_method_45_code 26 = .ok (.iload_n 1, 1) := by decide +kernel
theorem d_M_step_27 : decode prog_12_method_45_code 27 = .ok (.ifCond .eq 8, 3) := by decide +kernel
theorem d_M_step_30 : decode prog_12_method_45_code 30 = .ok (.aload_n 0, 1) := by decide +kernel
theorem d_M_step_31 : decode prog_12_method_45_code 31 = .ok (.iconst 1, 1) := by decide +kernel
theorem d_M_step_32 : decode prog_12_method_45_code 32 = .ok (.invokevirtual 184, 3) := by decide +kernel
theorem d_M_step_35 : decode prog_12_method_45_code 35 = .ok (.aload_n 0, 1) := by decide +kernel
theorem d_M_step_36 : decode prog_12_method_45_code 36 = .ok (.getfield 76, 3) := by decide +kernel
theorem d_M_step_39 : decode prog_12_method_45_code 39 = .ok (.ifCond .eq 4, 3) := by decide +kernel
theorem d_M_step_42 : decode prog_12_method_45_code 42 = .ok (.return_, 1) := by decide +kernel
theorem d_M_step_43 : decode prog_12_method_45_code 43 = .ok (.aload_n 0, 1) := by decide +kernel
theorem d_M_step_44 : decode prog_12_method_45_code 44 = .ok (.getfield 242, 3) := by decide +kernel
theorem d_M_step_47 : decode prog_12_method_45_code 47 = .ok (.iconst 2, 1) := by decide +kernel
theorem d_M_step_48 : decode prog_12_method_45_code 48 = .ok (.if_icmp .ne 34, 3) := by decide +kernel
theorem d_M_step_51 : decode prog_12_method_45_code 51 = .ok (.aload_n 0, 1) := by decide +kernel
theorem d_M_step_52 : decode prog_12_method_45_code 52 = .ok (.bipush 6, 2) := by decide +kernel
theorem d_M_step_54 : decode prog_12_method_45_code 54 = .ok (.aload_n 0, 1) := by decide +kernel
theorem d_M_step_55 : decode prog_12_method_45_code 55 = .ok (.iconst 0, 1) := by decide +kernel
theorem d_M_step_56 : decode prog_12_method_45_code 56 = .ok (.invokevirtual 92, 3) := by decide +kernel
theorem d_M_step_59 : decode prog_12_method_45_code 59 = .ok (.aload_n 0, 1) := by decide +kernel
theorem d_M_step_60 : decode prog_12_method_45_code 60 = .ok (.iconst 0, 1) := by decide +kernel
theorem d_M_step_61 : decode prog_12_method_45_code 61 = .ok (.invokevirtual 98, 3) := by decide +kernel
theorem d_M_step_64 : decode prog_12_method_45_code 64 = .ok (.iconst 0, 1) := by decide +kernel
theorem d_M_step_65 : decode prog_12_method_45_code 65 = .ok (.lconst 0, 1) := by decide +kernel
theorem d_M_step_66 : decode prog_12_method_45_code 66 = .ok (.invokevirtual 170, 3) := by decide +kernel
theorem d_M_step_69 : decode prog_12_method_45_code 69 = .ok (.aload_n 0, 1) := by decide +kernel
theorem d_M_step_70 : decode prog_12_method_45_code 70 = .ok (.getfield 76, 3) := by decide +kernel
theorem d_M_step_73 : decode prog_12_method_45_code 73 = .ok (.ifCond .ne 8, 3) := by decide +kernel
theorem d_M_step_76 : decode prog_12_method_45_code 76 = .ok (.aload_n 0, 1) := by decide +kernel
theorem d_M_step_77 : decode prog_12_method_45_code 77 = .ok (.iconst 0, 1) := by decide +kernel
theorem d_M_step_78 : decode prog_12_method_45_code 78 = .ok (.invokevirtual 106, 3) := by decide +kernel
theorem d_M_step_81 : decode prog_12_method_45_code 81 = .ok (.return_, 1) := by decide +kernel
theorem d_M_step_82 : decode prog_12_method_45_code 82 = .ok (.aload_n 0, 1) := by decide +kernel
theorem d_M_step_83 : decode prog_12_method_45_code 83 = .ok (.iconst 0, 1) := by decide +kernel
theorem d_M_step_84 : decode prog_12_method_45_code 84 = .ok (.aload_n 0, 1) := by decide +kernel
theorem d_M_step_85 : decode prog_12_method_45_code 85 = .ok (.iconst 0, 1) := by decide +kernel
theorem d_M_step_86 : decode prog_12_method_45_code 86 = .ok (.invokevirtual 92, 3) := by decide +kernel
theorem d_M_step_89 : decode prog_12_method_45_code 89 = .ok (.aload_n 0, 1) := by decide +kernel
theorem d_M_step_90 : decode prog_12_method_45_code 90 = .ok (.iconst 0, 1) := by decide +kernel
theorem d_M_step_91 : decode prog_12_method_45_code 91 = .ok (.invokevirtual 98, 3) := by decide +kernel
theorem d_M_step_94 : decode prog_12_method_45_code 94 = .ok (.invokevirtual 145, 3) := by decide +kernel
theorem d_M_step_97 : decode prog_12_method_45_code 97 = .ok (.iload_n 1, 1) := by decide +kernel
theorem d_M_step_98 : decode prog_12_method_45_code 98 = .ok (.ifCond .eq 18, 3) := by decide +kernel
theorem d_M_step_101 : decode prog_12_method_45_code 101 = .ok (.aload_n 0, 1) := by decide +kernel
theorem d_M_step_102 : decode prog_12_method_45_code 102 = .ok (.iconst 1, 1) := by decide +kernel
theorem d_M_step_103 : decode prog_12_method_45_code 103 = .ok (.aload_n 0, 1) := by decide +kernel
theorem d_M_step_104 : decode prog_12_method_45_code 104 = .ok (.iconst 1, 1) := by decide +kernel
theorem d_M_step_105 : decode prog_12_method_45_code 105 = .ok (.invokevirtual 92, 3) := by decide +kernel
theorem d_M_step_108 : decode prog_12_method_45_code 108 = .ok (.aload_n 0, 1) := by decide +kernel
theorem d_M_step_109 : decode prog_12_method_45_code 109 = .ok (.iconst 1, 1) := by decide +kernel
theorem d_M_step_110 : decode prog_12_method_45_code 110 = .ok (.invokevirtual 98, 3) := by decide +kernel
theorem d_M_step_113 : decode prog_12_method_45_code 113 = .ok (.invokevirtual 145, 3) := by decide +kernel
theorem d_M_step_116 : decode prog_12_method_45_code 116 = .ok (.aload_n 0, 1) := by decide +kernel
theorem d_M_step_117 : decode prog_12_method_45_code 117 = .ok (.getfield 242, 3) := by decide +kernel
theorem d_M_step_120 : decode prog_12_method_45_code 120 = .ok (.ifCond .ne 16, 3) := by decide +kernel
theorem d_M_step_123 : decode prog_12_method_45_code 123 = .ok (.aload_n 0, 1) := by decide +kernel
theorem d_M_step_124 : decode prog_12_method_45_code 124 = .ok (.getfield 34, 3) := by decide +kernel
theorem d_M_step_127 : decode prog_12_method_45_code 127 = .ok (.iconst 0, 1) := by decide +kernel
theorem d_M_step_128 : decode prog_12_method_45_code 128 = .ok (.iconst 1, 1) := by decide +kernel
theorem d_M_step_129 : decode prog_12_method_45_code 129 = .ok (.iconst 2, 1) := by decide +kernel
theorem d_M_step_130 : decode prog_12_method_45_code 130 = .ok (.invokevirtual 276, 3) := by decide +kernel
theorem d_M_step_133 : decode prog_12_method_45_code 133 = .ok (.goto 33, 3) := by decide +kernel
theorem d_M_step_136 : decode prog_12_method_45_code 136 = .ok (.aload_n 0, 1) := by decide +kernel
theorem d_M_step_137 : decode prog_12_method_45_code 137 = .ok (.getfield 242, 3) := by decide +kernel
theorem d_M_step_140 : decode prog_12_method_45_code 140 = .ok (.iconst 4, 1) := by decide +kernel
theorem d_M_step_141 : decode prog_12_method_45_code 141 = .ok (.if_icmp .ne 15, 3) := by decide +kernel
theorem d_M_step_144 : decode prog_12_method_45_code 144 = .ok (.aload_n 0, 1) := by decide +kernel
theorem d_M_step_145 : decode prog_12_method_45_code 145 = .ok (.getfield 34, 3) := by decide +kernel
theorem d_M_step_148 : decode prog_12_method_45_code 148 = .ok (.iconst 0, 1) := by decide +kernel
theorem d_M_step_149 : decode prog_12_method_45_code 149 = .ok (.iconst 2, 1) := by decide +kernel
theorem d_M_step_150 : decode prog_12_method_45_code 150 = .ok (.invokevirtual 279, 3) := by decide +kernel
theorem d_M_step_153 : decode prog_12_method_45_code 153 = .ok (.goto 13, 3) := by decide +kernel
theorem d_M_step_156 : decode prog_12_method_45_code 156 = .ok (.aload_n 0, 1) := by decide +kernel
theorem d_M_step_157 : decode prog_12_method_45_code 157 = .ok (.getfield 34, 3) := by decide +kernel
theorem d_M_step_160 : decode prog_12_method_45_code 160 = .ok (.iconst 0, 1) := by decide +kernel
theorem d_M_step_161 : decode prog_12_method_45_code 161 = .ok (.iconst 1, 1) := by decide +kernel
theorem d_M_step_162 : decode prog_12_method_45_code 162 = .ok (.iconst 2, 1) := by decide +kernel
theorem d_M_step_163 : decode prog_12_method_45_code 163 = .ok (.invokevirtual 282, 3) := by decide +kernel
theorem d_M_step_166 : decode prog_12_method_45_code 166 = .ok (.istore_n 2, 1) := by decide +kernel
theorem d_M_step_167 : decode prog_12_method_45_code 167 = .ok (.aload_n 0, 1) := by decide +kernel
theorem d_M_step_168 : decode prog_12_method_45_code 168 = .ok (.iload_n 2, 1) := by decide +kernel
theorem d_M_step_169 : decode prog_12_method_45_code 169 = .ok (.invokevirtual 85, 3) := by decide +kernel
theorem d_M_step_172 : decode prog_12_method_45_code 172 = .ok (.aload_n 0, 1) := by decide +kernel
theorem d_M_step_173 : decode prog_12_method_45_code 173 = .ok (.getfield 76, 3) := by decide +kernel
theorem d_M_step_176 : decode prog_12_method_45_code 176 = .ok (.ifCond .eq 4, 3) := by decide +kernel
theorem d_M_step_179 : decode prog_12_method_45_code 179 = .ok (.return_, 1) := by decide +kernel
theorem d_M_step_180 : decode prog_12_method_45_code 180 = .ok (.aload_n 0, 1) := by decide +kernel
theorem d_M_step_181 : decode prog_12_method_45_code 181 = .ok (.iconst 2, 1) := by decide +kernel
theorem d_M_step_182 : decode prog_12_method_45_code 182 = .ok (.invokevirtual 260, 3) := by decide +kernel
theorem d_M_step_185 : decode prog_12_method_45_code 185 = .ok (.aload_n 0, 1) := by decide +kernel
theorem d_M_step_186 : decode prog_12_method_45_code 186 = .ok (.iconst 0, 1) := by decide +kernel
theorem d_M_step_187 : decode prog_12_method_45_code 187 = .ok (.invokevirtual 106, 3) := by decide +kernel
theorem d_M_step_190 : decode prog_12_method_45_code 190 = .ok (.aload_n 0, 1) := by decide +kernel
theorem d_M_step_191 : decode prog_12_method_45_code 191 = .ok (.getfield 242, 3) := by decide +kernel
theorem d_M_step_194 : decode prog_12_method_45_code 194 = .ok (.ifCond .ne 103, 3) := by decide +kernel
theorem d_M_step_197 : decode prog_12_method_45_code 197 = .ok (.iload_n 2, 1) := by decide +kernel
theorem d_M_step_198 : decode prog_12_method_45_code 198 = .ok (.iconst 2, 1) := by decide +kernel
theorem d_M_step_199 : decode prog_12_method_45_code 199 = .ok (.irem, 1) := by decide +kernel
theorem d_M_step_200 : decode prog_12_method_45_code 200 = .ok (.ifCond .ne 97, 3) := by decide +kernel
theorem d_M_step_203 : decode prog_12_method_45_code 203 = .ok (.aload_n 0, 1) := by decide +kernel
theorem d_M_step_204 : decode prog_12_method_45_code 204 = .ok (.getfield 34, 3) := by decide +kernel
theorem d_M_step_207 : decode prog_12_method_45_code 207 = .ok (.iconst 2, 1) := by decide +kernel
theorem d_M_step_208 : decode prog_12_method_45_code 208 = .ok (.invokevirtual 155, 3) := by decide +kernel
theorem d_M_step_211 : decode prog_12_method_45_code 211 = .ok (.istore_n 3, 1) := by decide +kernel
theorem d_M_step_212 : decode prog_12_method_45_code 212 = .ok (.aload_n 0, 1) := by decide +kernel
theorem d_M_step_213 : decode prog_12_method_45_code 213 = .ok (.sipush 1024, 3) := by decide +kernel
theorem d_M_step_216 : decode prog_12_method_45_code 216 = .ok (.aload_n 0, 1) := by decide +kernel
theorem d_M_step_217 : decode prog_12_method_45_code 217 = .ok (.getfield 34, 3) := by decide +kernel
theorem d_M_step_220 : decode prog_12_method_45_code 220 = .ok (.iconst 3, 1) := by decide +kernel
theorem d_M_step_221 : decode prog_12_method_45_code 221 = .ok (.invokevirtual 155, 3) := by decide +kernel
theorem d_M_step_224 : decode prog_12_method_45_code 224 = .ok (.iconst 1, 1) := by decide +kernel
theorem d_M_step_225 : decode prog_12_method_45_code 225 = .ok (.if_icmp .ne 7, 3) := by decide +kernel
theorem d_M_step_228 : decode prog_12_method_45_code 228 = .ok (.iconst 1, 1) := by decide +kernel
theorem d_M_step_229 : decode prog_12_method_45_code 229 = .ok (.goto 4, 3) := by decide +kernel
theorem d_M_step_232 : decode prog_12_method_45_code 232 = .ok (.iconst 0, 1) := by decide +kernel
theorem d_M_step_233 : decode prog_12_method_45_code 233 = .ok (.invokevirtual 157, 3) := by decide +kernel
theorem d_M_step_236 : decode prog_12_method_45_code 236 = .ok (.aload_n 0, 1) := by decide +kernel
theorem d_M_step_237 : decode prog_12_method_45_code 237 = .ok (.sipush 256, 3) := by decide +kernel
theorem d_M_step_240 : decode prog_12_method_45_code 240 = .ok (.iload_n 3, 1) := by decide +kernel
theorem d_M_step_241 : decode prog_12_method_45_code 241 = .ok (.iconst 4, 1) := by decide +kernel
theorem d_M_step_242 : decode prog_12_method_45_code 242 = .ok (.idiv, 1) := by decide +kernel
theorem d_M_step_243 : decode prog_12_method_45_code 243 = .ok (.iconst 2, 1) := by decide +kernel
theorem d_M_step_244 : decode prog_12_method_45_code 244 = .ok (.irem, 1) := by decide +kernel
theorem d_M_step_245 : decode prog_12_method_45_code 245 = .ok (.iconst 1, 1) := by decide +kernel
theorem d_M_step_246 : decode prog_12_method_45_code 246 = .ok (.if_icmp .ne 7, 3) := by decide +kernel
theorem d_M_step_249 : decode prog_12_method_45_code 249 = .ok (.iconst 1, 1) := by decide +kernel
theorem d_M_step_250 : decode prog_12_method_45_code 250 = .ok (.goto 4, 3) := by decide +kernel
theorem d_M_step_253 : decode prog_12_method_45_code 253 = .ok (.iconst 0, 1) := by decide +kernel
theorem d_M_step_254 : decode prog_12_method_45_code 254 = .ok (.invokevirtual 157, 3) := by decide +kernel
theorem d_M_step_257 : decode prog_12_method_45_code 257 = .ok (.aload_n 0, 1) := by decide +kernel
theorem d_M_step_258 : decode prog_12_method_45_code 258 = .ok (.sipush 16384, 3) := by decide +kernel
theorem d_M_step_261 : decode prog_12_method_45_code 261 = .ok (.iload_n 3, 1) := by decide +kernel
theorem d_M_step_262 : decode prog_12_method_45_code 262 = .ok (.iconst 2, 1) := by decide +kernel
theorem d_M_step_263 : decode prog_12_method_45_code 263 = .ok (.idiv, 1) := by decide +kernel
theorem d_M_step_264 : decode prog_12_method_45_code 264 = .ok (.iconst 2, 1) := by decide +kernel
theorem d_M_step_265 : decode prog_12_method_45_code 265 = .ok (.irem, 1) := by decide +kernel
theorem d_M_step_266 : decode prog_12_method_45_code 266 = .ok (.iconst 1, 1) := by decide +kernel
theorem d_M_step_267 : decode prog_12_method_45_code 267 = .ok (.if_icmp .ne 7, 3) := by decide +kernel
theorem d_M_step_270 : decode prog_12_method_45_code 270 = .ok (.iconst 1, 1) := by decide +kernel
theorem d_M_step_271 : decode prog_12_method_45_code 271 = .ok (.goto 4, 3) := by decide +kernel
theorem d_M_step_274 : decode prog_12_method_45_code 274 = .ok (.iconst 0, 1) := by decide +kernel
theorem d_M_step_275 : decode prog_12_method_45_code 275 = .ok (.invokevirtual 157, 3) := by decide +kernel
theorem d_M_step_278 : decode prog_12_method_45_code 278 = .ok (.aload_n 0, 1) := by decide +kernel
theorem d_M_step_279 : decode prog_12_method_45_code 279 = .ok (.sipush 512, 3) := by decide +kernel
theorem d_M_step_282 : decode prog_12_method_45_code 282 = .ok (.iload_n 3, 1) := by decide +kernel
theorem d_M_step_283 : decode prog_12_method_45_code 283 = .ok (.iconst 2, 1) := by decide +kernel
theorem d_M_step_284 : decode prog_12_method_45_code 284 = .ok (.irem, 1) := by decide +kernel
theorem d_M_step_285 : decode prog_12_method_45_code 285 = .ok (.iconst 1, 1) := by decide +kernel
theorem d_M_step_286 : decode prog_12_method_45_code 286 = .ok (.if_icmp .ne 7, 3) := by decide +kernel
theorem d_M_step_289 : decode prog_12_method_45_code 289 = .ok (.iconst 1, 1) := by decide +kernel
theorem d_M_step_290 : decode prog_12_method_45_code 290 = .ok (.goto 4, 3) := by decide +kernel
theorem d_M_step_293 : decode prog_12_method_45_code 293 = .ok (.iconst 0, 1) := by decide +kernel
theorem d_M_step_294 : decode prog_12_method_45_code 294 = .ok (.invokevirtual 157, 3) := by decide +kernel
theorem d_M_step_297 : decode prog_12_method_45_code 297 = .ok (.return_, 1) := by decide +kernel
theorem d_M_alone_0 : decode prog_12_method_41_code 0 = .ok (.aload_n 0, 1) := by decide +kernel
theorem d_M_alone_1 : decode prog_12_method_41_code 1 = .ok (.getfield 161, 3) := by decide +kernel
theorem d_M_alone_4 : decode prog_12_method_41_code 4 = .ok (.ifCond .ne 40, 3) := by decide +kernel
theorem d_M_alone_7 : decode prog_12_method_41_code 7 = .ok (.aload_n 0, 1) := by decide +kernel
theorem d_M_alone_8 : decode prog_12_method_41_code 8 = .ok (.aload_n 0, 1) := by decide +kernel
theorem d_M_alone_9 : decode prog_12_method_41_code 9 = .ok (.getfield 242, 3) := by decide +kernel
theorem d_M_alone_12 : decode prog_12_method_41_code 12 = .ok (.invokevirtual 184, 3) := by decide +kernel
theorem d_M_alone_15 : decode prog_12_method_41_code 15 = .ok (.aload_n 0, 1) := by decide +kernel
theorem d_M_alone_16 : decode prog_12_method_41_code 16 = .ok (.getfield 76, 3) := by decide +kernel
theorem d_M_alone_19 : decode prog_12_method_41_code 19 = .ok (.ifCond .eq 4, 3) := by decide +kernel
theorem d_M_alone_22 : decode prog_12_method_41_code 22 = .ok (.return_, 1) := by decide +kernel
theorem d_M_alone_23 : decode prog_12_method_41_code 23 = .ok (.aload_n 0, 1) := by decide +kernel
theorem d_M_alone_24 : decode prog_12_method_41_code 24 = .ok (.invokevirtual 235, 3) := by decide +kernel
theorem d_M_alone_27 : decode prog_12_method_41_code 27 = .ok (.istore_n 1, 1) := by decide +kernel
theorem d_M_alone_28 : decode prog_12_method_41_code 28 = .ok (.aload_n 0, 1) := by decide +kernel
theorem d_M_alone_29 : decode prog_12_method_41_code 29 = .ok (.aload_n 0, 1) := by decide +kernel
theorem d_M_alone_30 : decode prog_12_method_41_code 30 = .ok (.getfield 242, 3) := by decide +kernel
theorem d_M_alone_33 : decode prog_12_method_41_code 33 = .ok (.invokevirtual 187, 3) := by decide +kernel
theorem d_M_alone_36 : decode prog_12_method_41_code 36 = .ok (.aload_n 0, 1) := by decide +kernel
theorem d_M_alone_37 : decode prog_12_method_41_code 37 = .ok (.iload_n 1, 1) := by decide +kernel
theorem d_M_alone_38 : decode prog_12_method_41_code 38 = .ok (.invokevirtual 239, 3) := by decide +kernel
theorem d_M_alone_41 : decode prog_12_method_41_code 41 = .ok (.goto 168, 3) := by decide +kernel
theorem d_M_alone_44 : decode prog_12_method_41_code 44 = .ok (.aload_n 0, 1) := by decide +kernel
theorem d_M_alone_45 : decode prog_12_method_41_code 45 = .ok (.getfield 161, 3) := by decide +kernel
theorem d_M_alone_48 : decode prog_12_method_41_code 48 = .ok (.iconst 1, 1) := by decide +kernel
theorem d_M_alone_49 : decode prog_12_method_41_code 49 = .ok (.if_icmp .ne 10, 3) := by decide +kernel
theorem d_M_alone_52 : decode prog_12_method_41_code 52 = .ok (.aload_n 0, 1) := by decide +kernel
theorem d_M_alone_53 : decode prog_12_method_41_code 53 = .ok (.invokevirtual 251, 3) := by decide +kernel
theorem d_M_alone_56 : decode prog_12_method_41_code 56 = .ok (.goto 153, 3) := by decide +kernel
theorem d_M_alone_59 : decode prog_12_method_41_code 59 = .ok (.aload_n 0, 1) := by decide +kernel
theorem d_M_alone_60 : decode prog_12_method_41_code 60 = .ok (.getfield 161, 3) := by decide +kernel
theorem d_M_alone_63 : decode prog_12_method_41_code 63 = .ok (.iconst 4, 1) := by decide +kernel
theorem d_M_alone_64 : decode prog_12_method_41_code 64 = .ok (.if_icmp .ne 10, 3) := by decide +kernel
theorem d_M_alone_67 : decode prog_12_method_41_code 67 = .ok (.aload_n 0, 1) := by decide +kernel
theorem d_M_alone_68 : decode prog_12_method_41_code 68 = .ok (.invokevirtual 254, 3) := by decide +kernel
theorem d_M_alone_71 : decode prog_12_method_41_code 71 = .ok (.goto 138, 3) := by decide +kernel
theorem d_M_alone_74 : decode prog_12_method_41_code 74 = .ok (.aload_n 0, 1) := by decide +kernel
theorem d_M_alone_75 : decode prog_12_method_41_code 75 = .ok (.getfield 161, 3) := by decide +kernel
theorem d_M_alone_78 : decode prog_12_method_41_code 78 = .ok (.iconst 5, 1) := by decide +kernel
theorem d_M_alone_79 : decode prog_12_method_41_code 79 = .ok (.if_icmp .ne 50, 3) := by decide +kernel
theorem d_M_alone_82 : decode prog_12_method_41_code 82 = .ok (.aload_n 0, 1) := by decide +kernel
theorem d_M_alone_83 : decode prog_12_method_41_code 83 = .ok (.invokevirtual 235, 3) := by decide +kernel
theorem d_M_alone_86 : decode prog_12_method_41_code 86 = .ok (.istore_n 1, 1) := by decide +kernel
theorem d_M_alone_87 : decode prog_12_method_41_code 87 = .ok (.aload_n 0, 1) := by decide +kernel
theorem d_M_alone_88 : decode prog_12_method_41_code 88 = .ok (.getfield 34, 3) := by decide +kernel
theorem d_M_alone_91 : decode prog_12_method_41_code 91 = .ok (.aload_n 0, 1) := by decide +kernel
theorem d_M_alone_92 : decode prog_12_method_41_code 92 = .ok (.getfield 242, 3) := by decide +kernel
theorem d_M_alone_95 : decode prog_12_method_41_code 95 = .ok (.bipush 6, 2) := by decide +kernel
theorem d_M_alone_97 : decode prog_12_method_41_code 97 = .ok (.if_icmp .ne 7, 3) := by decide +kernel
theorem d_M_alone_100 : decode prog_12_method_41_code 100 = .ok (.iconst 0, 1) := by decide +kernel
theorem d_M_alone_101 : decode prog_12_method_41_code 101 = .ok (.goto 9, 3) := by decide +kernel
theorem d_M_alone_104 : decode prog_12_method_41_code 104 = .ok (.aload_n 0, 1) := by decide +kernel
theorem d_M_alone_105 : decode prog_12_method_41_code 105 = .ok (.getfield 242, 3) := by decide +kernel
theorem d_M_alone_108 : decode prog_12_method_41_code 108 = .ok (.iconst 1, 1) := by decide +kernel
theorem d_M_alone_109 : decode prog_12_method_41_code 109 = .ok (.iadd, 1) := by decide +kernel
theorem d_M_alone_110 : decode prog_12_method_41_code 110 = .ok (.bipush 7, 2) := by decide +kernel
theorem d_M_alone_112 : decode prog_12_method_41_code 112 = .ok (.invokevirtual 257, 3) := by decide +kernel
theorem d_M_alone_115 : decode prog_12_method_41_code 115 = .ok (.aload_n 0, 1) := by decide +kernel
theorem d_M_alone_116 : decode prog_12_method_41_code 116 = .ok (.bipush 7, 2) := by decide +kernel
theorem d_M_alone_118 : decode prog_12_method_41_code 118 = .ok (.invokevirtual 260, 3) := by decide +kernel
theorem d_M_alone_121 : decode prog_12_method_41_code 121 = .ok (.aload_n 0, 1) := by decide +kernel
theorem d_M_alone_122 : decode prog_12_method_41_code 122 = .ok (.iload_n 1, 1) := by decide +kernel
theorem d_M_alone_123 : decode prog_12_method_41_code 123 = .ok (.invokevirtual 239, 3) := by decide +kernel
theorem d_M_alone_126 : decode prog_12_method_41_code 126 = .ok (.goto 83, 3) := by decide +kernel
theorem d_M_alone_129 : decode prog_12_method_41_code 129 = .ok (.aload_n 0, 1) := by decide +kernel
theorem d_M_alone_130 : decode prog_12_method_41_code 130 = .ok (.getfield 161, 3) := by decide +kernel
theorem d_M_alone_133 : decode prog_12_method_41_code 133 = .ok (.bipush 6, 2) := by decide +kernel
theorem d_M_alone_135 : decode prog_12_method_41_code 135 = .ok (.if_icmp .ne 61, 3) := by decide +kernel
theorem d_M_alone_138 : decode prog_12_method_41_code 138 = .ok (.aload_n 0, 1) := by decide +kernel
theorem d_M_alone_139 : decode prog_12_method_41_code 139 = .ok (.getfield 242, 3) := by decide +kernel
theorem d_M_alone_142 : decode prog_12_method_41_code 142 = .ok (.bipush 6, 2) := by decide +kernel
theorem d_M_alone_144 : decode prog_12_method_41_code 144 = .ok (.if_icmp .ne 20, 3) := by decide +kernel
theorem d_M_alone_147 : decode prog_12_method_41_code 147 = .ok (.aload_n 0, 1) := by decide +kernel
theorem d_M_alone_148 : decode prog_12_method_41_code 148 = .ok (.aload_n 0, 1) := by decide +kernel
theorem d_M_alone_149 : decode prog_12_method_41_code 149 = .ok (.getfield 61, 3) := by decide +kernel
theorem d_M_alone_152 : decode prog_12_method_41_code 152 = .ok (.bipush 7, 2) := by decide +kernel
theorem d_M_alone_154 : decode prog_12_method_41_code 154 = .ok (.iadd, 1) := by decide +kernel
theorem d_M_alone_155 : decode prog_12_method_41_code 155 = .ok (.bipush 8, 2) := by decide +kernel
theorem d_M_alone_157 : decode prog_12_method_41_code 157 = .ok (.irem, 1) := by decide +kernel
theorem d_M_alone_158 : decode prog_12_method_41_code 158 = .ok (.putfield 61, 3) := by decide +kernel
theorem d_M_alone_161 : decode prog_12_method_41_code 161 = .ok (.goto 48, 3) := by decide +kernel
theorem d_M_alone_164 : decode prog_12_method_41_code 164 = .ok (.aload_n 0, 1) := by decide +kernel
theorem d_M_alone_165 : decode prog_12_method_41_code 165 = .ok (.getfield 242, 3) := by decide +kernel
theorem d_M_alone_168 : decode prog_12_method_41_code 168 = .ok (.bipush 7, 2) := by decide +kernel
theorem d_M_alone_170 : decode prog_12_method_41_code 170 = .ok (.if_icmp .ne 19, 3) := by decide +kernel
theorem d_M_alone_173 : decode prog_12_method_41_code 173 = .ok (.aload_n 0, 1) := by decide +kernel
theorem d_M_alone_174 : decode prog_12_method_41_code 174 = .ok (.aload_n 0, 1) := by decide +kernel
theorem d_M_alone_175 : decode prog_12_method_41_code 175 = .ok (.getfield 61, 3) := by decide +kernel
theorem d_M_alone_178 : decode prog_12_method_41_code 178 = .ok (.iconst 1, 1) := by decide +kernel
theorem d_M_alone_179 : decode prog_12_method_41_code 179 = .ok (.iadd, 1) := by decide +kernel
theorem d_M_alone_180 : decode prog_12_method_41_code 180 = .ok (.bipush 8, 2) := by decide +kernel
theorem d_M_alone_182 : decode prog_12_method_41_code 182 = .ok (.irem, 1) := by decide +kernel
theorem d_M_alone_183 : decode prog_12_method_41_code 183 = .ok (.putfield 61, 3) := by decide +kernel
theorem d_M_alone_186 : decode prog_12_method_41_code 186 = .ok (.goto 23, 3) := by decide +kernel
theorem d_M_alone_189 : decode prog_12_method_41_code 189 = .ok (.aload_n 0, 1) := by decide +kernel
theorem d_M_alone_190 : decode prog_12_method_41_code 190 = .ok (.invokevirtual 263, 3) := by decide +kernel
theorem d_M_alone_193 : decode prog_12_method_41_code 193 = .ok (.goto 16, 3) := by decide +kernel
theorem d_M_alone_196 : decode prog_12_method_41_code 196 = .ok (.aload_n 0, 1) := by decide +kernel
theorem d_M_alone_197 : decode prog_12_method_41_code 197 = .ok (.getfield 161, 3) := by decide +kernel
theorem d_M_alone_200 : decode prog_12_method_41_code 200 = .ok (.bipush 7, 2) := by decide +kernel
theorem d_M_alone_202 : decode prog_12_method_41_code 202 = .ok (.if_icmp .ne 7, 3) := by decide +kernel
theorem d_M_alone_205 : decode prog_12_method_41_code 205 = .ok (.aload_n 0, 1) := by decide +kernel
theorem d_M_alone_206 : decode prog_12_method_41_code 206 = .ok (.invokevirtual 266, 3) := by decide +kernel
theorem d_M_alone_209 : decode prog_12_method_41_code 209 = .ok (.return_, 1) := by decide +kernel
theorem d_M_inRegisters_0 : decode prog_12_method_39_code 0 = .ok (.aload_n 0, 1) := by decide +kernel
theorem d_M_inRegisters_1 : decode prog_12_method_39_code 1 = .ok (.getfield 219, 3) := by decide +kernel
theorem d_M_inRegisters_4 : decode prog_12_method_39_code 4 = .ok (.iconst 3, 1) := by decide +kernel
theorem d_M_inRegisters_5 : decode prog_12_method_39_code 5 = .ok (.if_icmp .ne 76, 3) := by decide +kernel
theorem d_M_inRegisters_8 : decode prog_12_method_39_code 8 = .ok (.aload_n 0, 1) := by decide +kernel
theorem d_M_inRegisters_9 : decode prog_12_method_39_code 9 = .ok (.getfield 242, 3) := by decide +kernel
theorem d_M_inRegisters_12 : decode prog_12_method_39_code 12 = .ok (.ifCond .eq 11, 3) := by decide +kernel
theorem d_M_inRegisters_15 : decode prog_12_method_39_code 15 = .ok (.aload_n 0, 1) := by decide +kernel
theorem d_M_inRegisters_16 : decode prog_12_method_39_code 16 = .ok (.getfield 242, 3) := by decide +kernel
theorem d_M_inRegisters_19 : decode prog_12_method_39_code 19 = .ok (.iconst 1, 1) := by decide +kernel
theorem d_M_inRegisters_20 : decode prog_12_method_39_code 20 = .ok (.if_icmp .ne 35, 3) := by decide +kernel
theorem d_M_inRegisters_23 : decode prog_12_method_39_code 23 = .ok (.aload_n 0, 1) := by decide +kernel
theorem d_M_inRegisters_24 : decode prog_12_method_39_code 24 = .ok (.aload_n 0, 1) := by decide +kernel
theorem d_M_inRegisters_25 : decode prog_12_method_39_code 25 = .ok (.getfield 52, 3) := by decide +kernel
theorem d_M_inRegisters_28 : decode prog_12_method_39_code 28 = .ok (.aload_n 0, 1) := by decide +kernel
theorem d_M_inRegisters_29 : decode prog_12_method_39_code 29 = .ok (.getfield 52, 3) := by decide +kernel
theorem d_M_inRegisters_32 : decode prog_12_method_39_code 32 = .ok (.sipush 128, 3) := by decide +kernel
theorem d_M_inRegisters_35 : decode prog_12_method_39_code 35 = .ok (.idiv, 1) := by decide +kernel
theorem d_M_inRegisters_36 : decode prog_12_method_39_code 36 = .ok (.iconst 2, 1) := by decide +kernel
theorem d_M_inRegisters_37 : decode prog_12_method_39_code 37 = .ok (.irem, 1) := by decide +kernel
theorem d_M_inRegisters_38 : decode prog_12_method_39_code 38 = .ok (.sipush 128, 3) := by decide +kernel
theorem d_M_inRegisters_41 : decode prog_12_method_39_code 41 = .ok (.imul, 1) := by decide +kernel
theorem d_M_inRegisters_42 : decode prog_12_method_39_code 42 = .ok (.isub, 1) := by decide +kernel
theorem d_M_inRegisters_43 : decode prog_12_method_39_code 43 = .ok (.sipush 128, 3) := by decide +kernel
theorem d_M_inRegisters_46 : decode prog_12_method_39_code 46 = .ok (.aload_n 0, 1) := by decide +kernel
theorem d_M_inRegisters_47 : decode prog_12_method_39_code 47 = .ok (.getfield 242, 3) := by decide +kernel
theorem d_M_inRegisters_50 : decode prog_12_method_39_code 50 = .ok (.imul, 1) := by decide +kernel
theorem d_M_inRegisters_51 : decode prog_12_method_39_code 51 = .ok (.iadd, 1) := by decide +kernel
theorem d_M_inRegisters_52 : decode prog_12_method_39_code 52 = .ok (.putfield 52, 3) := by decide +kernel
theorem d_M_inRegisters_55 : decode prog_12_method_39_code 55 = .ok (.aload_n 0, 1) := by decide +kernel
theorem d_M_inRegisters_56 : decode prog_12_method_39_code 56 = .ok (.getfield 242, 3) := by decide +kernel
theorem d_M_inRegisters_59 : decode prog_12_method_39_code 59 = .ok (.iconst 2, 1) := by decide +kernel
theorem d_M_inRegisters_60 : decode prog_12_method_39_code 60 = .ok (.if_icmp .ne 8, 3) := by decide +kernel
theorem d_M_inRegisters_63 : decode prog_12_method_39_code 63 = .ok (.aload_n 0, 1) := by decide +kernel
theorem d_M_inRegisters_64 : decode prog_12_method_39_code 64 = .ok (.iconst 0, 1) := by decide +kernel
theorem d_M_inRegisters_65 : decode prog_12_method_39_code 65 = .ok (.putfield 55, 3) := by decide +kernel
theorem d_M_inRegisters_68 : decode prog_12_method_39_code 68 = .ok (.aload_n 0, 1) := by decide +kernel
theorem d_M_inRegisters_69 : decode prog_12_method_39_code 69 = .ok (.getfield 242, 3) := by decide +kernel
theorem d_M_inRegisters_72 : decode prog_12_method_39_code 72 = .ok (.iconst 3, 1) := by decide +kernel
theorem d_M_inRegisters_73 : decode prog_12_method_39_code 73 = .ok (.if_icmp .ne 7, 3) := by decide +kernel
theorem d_M_inRegisters_76 : decode prog_12_method_39_code 76 = .ok (.aload_n 0, 1) := by decide +kernel
theorem d_M_inRegisters_77 : decode prog_12_method_39_code 77 = .ok (.invokevirtual 45, 3) := by decide +kernel
theorem d_M_inRegisters_80 : decode prog_12_method_39_code 80 = .ok (.return_, 1) := by decide +kernel
theorem d_M_inRegisters_81 : decode prog_12_method_39_code 81 = .ok (.aload_n 0, 1) := by decide +kernel
theorem d_M_inRegisters_82 : decode prog_12_method_39_code 82 = .ok (.getfield 219, 3) := by decide +kernel
theorem d_M_inRegisters_85 : decode prog_12_method_39_code 85 = .ok (.iconst 5, 1) := by decide +kernel
theorem d_M_inRegisters_86 : decode prog_12_method_39_code 86 = .ok (.if_icmp .ne 8, 3) := by decide +kernel
theorem d_M_inRegisters_89 : decode prog_12_method_39_code 89 = .ok (.aload_n 0, 1) := by decide +kernel
theorem d_M_inRegisters_90 : decode prog_12_method_39_code 90 = .ok (.invokevirtual 245, 3) := by decide +kernel
theorem d_M_inRegisters_93 : decode prog_12_method_39_code 93 = .ok (.return_, 1) := by decide +kernel
theorem d_M_inRegisters_94 : decode prog_12_method_39_code 94 = .ok (.aload_n 0, 1) := by decide +kernel
theorem d_M_inRegisters_95 : decode prog_12_method_39_code 95 = .ok (.getfield 219, 3) := by decide +kernel
theorem d_M_inRegisters_98 : decode prog_12_method_39_code 98 = .ok (.iconst 1, 1) := by decide +kernel
theorem d_M_inRegisters_99 : decode prog_12_method_39_code 99 = .ok (.if_icmp .ne 8, 3) := by decide +kernel
theorem d_M_inRegisters_102 : decode prog_12_method_39_code 102 = .ok (.aload_n 0, 1) := by decide +kernel
theorem d_M_inRegisters_103 : decode prog_12_method_39_code 103 = .ok (.invokevirtual 248, 3) := by decide +kernel
theorem d_M_inRegisters_106 : decode prog_12_method_39_code 106 = .ok (.return_, 1) := by decide +kernel
theorem d_M_inRegisters_107 : decode prog_12_method_39_code 107 = .ok (.aload_n 0, 1) := by decide +kernel
theorem d_M_inRegisters_108 : decode prog_12_method_39_code 108 = .ok (.iconst 0, 1) := by decide +kernel
theorem d_M_inRegisters_109 : decode prog_12_method_39_code 109 = .ok (.invokevirtual 184, 3) := by decide +kernel
theorem d_M_inRegisters_112 : decode prog_12_method_39_code 112 = .ok (.aload_n 0, 1) := by decide +kernel
theorem d_M_inRegisters_113 : decode prog_12_method_39_code 113 = .ok (.aload_n 0, 1) := by decide +kernel
theorem d_M_inRegisters_114 : decode prog_12_method_39_code 114 = .ok (.getfield 242, 3) := by decide +kernel
theorem d_M_inRegisters_117 : decode prog_12_method_39_code 117 = .ok (.invokevirtual 184, 3) := by decide +kernel
theorem d_M_inRegisters_120 : decode prog_12_method_39_code 120 = .ok (.aload_n 0, 1) := by decide +kernel
theorem d_M_inRegisters_121 : decode prog_12_method_39_code 121 = .ok (.getfield 76, 3) := by decide +kernel
theorem d_M_inRegisters_124 : decode prog_12_method_39_code 124 = .ok (.ifCond .eq 4, 3) := by decide +kernel
theorem d_M_inRegisters_127 : decode prog_12_method_39_code 127 = .ok (.return_, 1) := by decide +kernel
theorem d_M_inRegisters_128 : decode prog_12_method_39_code 128 = .ok (.aload_n 0, 1) := by decide +kernel
theorem d_M_inRegisters_129 : decode prog_12_method_39_code 129 = .ok (.aload_n 0, 1) := by decide +kernel
theorem d_M_inRegisters_130 : decode prog_12_method_39_code 130 = .ok (.getfield 242, 3) := by decide +kernel
theorem d_M_inRegisters_133 : decode prog_12_method_39_code 133 = .ok (.invokevirtual 187, 3) := by decide +kernel
theorem d_M_inRegisters_136 : decode prog_12_method_39_code 136 = .ok (.aload_n 0, 1) := by decide +kernel
theorem d_M_inRegisters_137 : decode prog_12_method_39_code 137 = .ok (.aload_n 0, 1) := by decide +kernel
theorem d_M_inRegisters_138 : decode prog_12_method_39_code 138 = .ok (.getfield 219, 3) := by decide +kernel
theorem d_M_inRegisters_141 : decode prog_12_method_39_code 141 = .ok (.ifCond .ne 7, 3) := by decide +kernel
theorem d_M_inRegisters_144 : decode prog_12_method_39_code 144 = .ok (.iconst 0, 1) := by decide +kernel
theorem d_M_inRegisters_145 : decode prog_12_method_39_code 145 = .ok (.goto 7, 3) := by decide +kernel
theorem d_M_inRegisters_148 : decode prog_12_method_39_code 148 = .ok (.aload_n 0, 1) := by decide +kernel
theorem d_M_inRegisters_149 : decode prog_12_method_39_code 149 = .ok (.getfield 242, 3) := by decide +kernel
theorem d_M_inRegisters_152 : decode prog_12_method_39_code 152 = .ok (.invokevirtual 224, 3) := by decide +kernel
theorem d_M_inRegisters_155 : decode prog_12_method_39_code 155 = .ok (.aload_n 0, 1) := by decide +kernel
theorem d_M_inRegisters_156 : decode prog_12_method_39_code 156 = .ok (.getfield 219, 3) := by decide +kernel
theorem d_M_inRegisters_159 : decode prog_12_method_39_code 159 = .ok (.bipush 6, 2) := by decide +kernel
theorem d_M_inRegisters_161 : decode prog_12_method_39_code 161 = .ok (.if_icmp .ne 14, 3) := by decide +kernel
theorem d_M_inRegisters_164 : decode prog_12_method_39_code 164 = .ok (.aload_n 0, 1) := by decide +kernel
theorem d_M_inRegisters_165 : decode prog_12_method_39_code 165 = .ok (.getfield 76, 3) := by decide +kernel
theorem d_M_inRegisters_168 : decode prog_12_method_39_code 168 = .ok (.ifCond .ne 7, 3) := by decide +kernel
theorem d_M_inRegisters_171 : decode prog_12_method_39_code 171 = .ok (.aload_n 0, 1) := by decide +kernel
theorem d_M_inRegisters_172 : decode prog_12_method_39_code 172 = .ok (.invokevirtual 167, 3) := by decide +kernel
theorem d_M_inRegisters_175 : decode prog_12_method_39_code 175 = .ok (.return_, 1) := by decide +kernel
theorem d_M_execute_0 : decode prog_12_method_46_code 0 = .ok (.aload_n 0, 1) := by decide +kernel
theorem d_M_execute_1 : decode prog_12_method_46_code 1 = .ok (.iload_n 1, 1) := by decide +kernel
theorem d_M_execute_2 : decode prog_12_method_46_code 2 = .ok (.ifCond .lt 44, 3) := by decide +kernel
theorem d_M_execute_5 : decode prog_12_method_46_code 5 = .ok (.iload_n 1, 1) := by decide +kernel
theorem d_M_execute_6 : decode prog_12_method_46_code 6 = .ok (.bipush 7, 2) := by decide +kernel
theorem d_M_execute_8 : decode prog_12_method_46_code 8 = .ok (.if_icmp .gt 38, 3) := by decide +kernel
theorem d_M_execute_11 : decode prog_12_method_46_code 11 = .ok (.iload_n 2, 1) := by decide +kernel
theorem d_M_execute_12 : decode prog_12_method_46_code 12 = .ok (.ifCond .lt 34, 3) := by decide +kernel
theorem d_M_execute_15 : decode prog_12_method_46_code 15 = .ok (.iload_n 2, 1) := by decide +kernel
theorem d_M_execute_16 : decode prog_12_method_46_code 16 = .ok (.sipush 255, 3) := by decide +kernel
theorem d_M_execute_19 : decode prog_12_method_46_code 19 = .ok (.if_icmp .gt 27, 3) := by decide +kernel
theorem d_M_execute_22 : decode prog_12_method_46_code 22 = .ok (.iload_n 3, 1) := by decide +kernel
theorem d_M_execute_23 : decode prog_12_method_46_code 23 = .ok (.ifCond .lt 23, 3) := by decide +kernel
theorem d_M_execute_26 : decode prog_12_method_46_code 26 = .ok (.iload_n 3, 1) := by decide +kernel
theorem d_M_execute_27 : decode prog_12_method_46_code 27 = .ok (.ldc_w 285, 3) := by decide +kernel
theorem d_M_execute_30 : decode prog_12_method_46_code 30 = .ok (.if_icmp .gt 16, 3) := by decide +kernel
theorem d_M_execute_33 : decode prog_12_method_46_code 33 = .ok (.iload 4, 2) := by decide +kernel
theorem d_M_execute_35 : decode prog_12_method_46_code 35 = .ok (.ifCond .lt 11, 3) := by decide +kernel
theorem d_M_execute_38 : decode prog_12_method_46_code 38 = .ok (.iload 4, 2) := by decide +kernel
theorem d_M_execute_40 : decode prog_12_method_46_code 40 = .ok (.ldc_w 285, 3) := by decide +kernel
theorem d_M_execute_43 : decode prog_12_method_46_code 43 = .ok (.if_icmp .le 7, 3) := by decide +kernel
theorem d_M_execute_46 : decode prog_12_method_46_code 46 = .ok (.iconst 1, 1) := by decide +kernel
theorem d_M_execute_47 : decode prog_12_method_46_code 47 = .ok (.goto 4, 3) := by decide +kernel
theorem d_M_execute_50 : decode prog_12_method_46_code 50 = .ok (.iconst 0, 1) := by decide +kernel
theorem d_M_execute_51 : decode prog_12_method_46_code 51 = .ok (.putfield 48, 3) := by decide +kernel
theorem d_M_execute_54 : decode prog_12_method_46_code 54 = .ok (.aload_n 0, 1) := by decide +kernel
theorem d_M_execute_55 : decode prog_12_method_46_code 55 = .ok (.getfield 48, 3) := by decide +kernel
theorem d_M_execute_58 : decode prog_12_method_46_code 58 = .ok (.ifCond .le 5, 3) := by decide +kernel
theorem d_M_execute_61 : decode prog_12_method_46_code 61 = .ok (.iconst 0, 1) := by decide +kernel
theorem d_M_execute_62 : decode prog_12_method_46_code 62 = .ok (.ireturn, 1) := by decide +kernel
theorem d_M_execute_63 : decode prog_12_method_46_code 63 = .ok (.aload_n 0, 1) := by decide +kernel
theorem d_M_execute_64 : decode prog_12_method_46_code 64 = .ok (.iload_n 1, 1) := by decide +kernel
theorem d_M_execute_65 : decode prog_12_method_46_code 65 = .ok (.iload_n 2, 1) := by decide +kernel
theorem d_M_execute_66 : decode prog_12_method_46_code 66 = .ok (.invokevirtual 109, 3) := by decide +kernel
theorem d_M_execute_69 : decode prog_12_method_46_code 69 = .ok (.istore 5, 2) := by decide +kernel
theorem d_M_execute_71 : decode prog_12_method_46_code 71 = .ok (.iload 5, 2) := by decide +kernel
theorem d_M_execute_73 : decode prog_12_method_46_code 73 = .ok (.ifCond .le 6, 3) := by decide +kernel
theorem d_M_execute_76 : decode prog_12_method_46_code 76 = .ok (.iload 5, 2) := by decide +kernel
theorem d_M_execute_78 : decode prog_12_method_46_code 78 = .ok (.ireturn, 1) := by decide +kernel
theorem d_M_execute_79 : decode prog_12_method_46_code 79 = .ok (.aload_n 0, 1) := by decide +kernel
theorem d_M_execute_80 : decode prog_12_method_46_code 80 = .ok (.iload_n 1, 1) := by decide +kernel
theorem d_M_execute_81 : decode prog_12_method_46_code 81 = .ok (.putfield 219, 3) := by decide +kernel
theorem d_M_execute_84 : decode prog_12_method_46_code 84 = .ok (.aload_n 0, 1) := by decide +kernel
theorem d_M_execute_85 : decode prog_12_method_46_code 85 = .ok (.iload_n 2, 1) := by decide +kernel
theorem d_M_execute_86 : decode prog_12_method_46_code 86 = .ok (.bipush 8, 2) := by decide +kernel
theorem d_M_execute_88 : decode prog_12_method_46_code 88 = .ok (.idiv, 1) := by decide +kernel
theorem d_M_execute_89 : decode prog_12_method_46_code 89 = .ok (.bipush 8, 2) := by decide +kernel
theorem d_M_execute_91 : decode prog_12_method_46_code 91 = .ok (.irem, 1) := by decide +kernel
theorem d_M_execute_92 : decode prog_12_method_46_code 92 = .ok (.putfield 161, 3) := by decide +kernel
theorem d_M_execute_95 : decode prog_12_method_46_code 95 = .ok (.aload_n 0, 1) := by decide +kernel
theorem d_M_execute_96 : decode prog_12_method_46_code 96 = .ok (.iload_n 2, 1) := by decide +kernel
theorem d_M_execute_97 : decode prog_12_method_46_code 97 = .ok (.bipush 8, 2) := by decide +kernel
theorem d_M_execute_99 : decode prog_12_method_46_code 99 = .ok (.irem, 1) := by decide +kernel
theorem d_M_execute_100 : decode prog_12_method_46_code 100 = .ok (.putfield 242, 3) := by decide +kernel
theorem d_M_execute_103 : decode prog_12_method_46_code 103 = .ok (.aload_n 0, 1) := by decide +kernel
theorem d_M_execute_104 : decode prog_12_method_46_code 104 = .ok (.iconst 0, 1) := by decide +kernel
theorem d_M_execute_105 : decode prog_12_method_46_code 105 = .ok (.putfield 73, 3) := by decide +kernel
theorem d_M_execute_108 : decode prog_12_method_46_code 108 = .ok (.aload_n 0, 1) := by decide +kernel
theorem d_M_execute_109 : decode prog_12_method_46_code 109 = .ok (.iconst 0, 1) := by decide +kernel
theorem d_M_execute_110 : decode prog_12_method_46_code 110 = .ok (.putfield 76, 3) := by decide +kernel
theorem d_M_execute_113 : decode prog_12_method_46_code 113 = .ok (.iload_n 2, 1) := by decide +kernel
theorem d_M_execute_114 : decode prog_12_method_46_code 114 = .ok (.sipush 192, 3) := by decide +kernel
theorem d_M_execute_117 : decode prog_12_method_46_code 117 = .ok (.if_icmp .lt 7, 3) := by decide +kernel
theorem d_M_execute_120 : decode prog_12_method_46_code 120 = .ok (.iconst 1, 1) := by decide +kernel
theorem d_M_execute_121 : decode prog_12_method_46_code 121 = .ok (.goto 4, 3) := by decide +kernel
theorem d_M_execute_124 : decode prog_12_method_46_code 124 = .ok (.iconst 0, 1) := by decide +kernel
theorem d_M_execute_125 : decode prog_12_method_46_code 125 = .ok (.istore 6, 2) := by decide +kernel
theorem d_M_execute_127 : decode prog_12_method_46_code 127 = .ok (.iload 6, 2) := by decide +kernel
theorem d_M_execute_129 : decode prog_12_method_46_code 129 = .ok (.ifCond .eq 19, 3) := by decide +kernel
theorem d_M_execute_132 : decode prog_12_method_46_code 132 = .ok (.aload_n 0, 1) := by decide +kernel
theorem d_M_execute_133 : decode prog_12_method_46_code 133 = .ok (.getfield 219, 3) := by decide +kernel
theorem d_M_execute_136 : decode prog_12_method_46_code 136 = .ok (.iconst 3, 1) := by decide +kernel
theorem d_M_execute_137 : decode prog_12_method_46_code 137 = .ok (.if_icmp .eq 7, 3) := by decide +kernel
theorem d_M_execute_140 : decode prog_12_method_46_code 140 = .ok (.iconst 1, 1) := by decide +kernel
theorem d_M_execute_141 : decode prog_12_method_46_code 141 = .ok (.goto 62, 3) := by decide +kernel
theorem d_M_execute_144 : decode prog_12_method_46_code 144 = .ok (.iconst 0, 1) := by decide +kernel
theorem d_M_execute_145 : decode prog_12_method_46_code 145 = .ok (.goto 58, 3) := by decide +kernel
theorem d_M_execute_148 : decode prog_12_method_46_code 148 = .ok (.aload_n 0, 1) := by decide +kernel
theorem d_M_execute_149 : decode prog_12_method_46_code 149 = .ok (.getfield 219, 3) := by decide +kernel
theorem d_M_execute_152 : decode prog_12_method_46_code 152 = .ok (.iconst 1, 1) := by decide +kernel
theorem d_M_execute_153 : decode prog_12_method_46_code 153 = .ok (.if_icmp .ne 11, 3) := by decide +kernel
theorem d_M_execute_156 : decode prog_12_method_46_code 156 = .ok (.aload_n 0, 1) := by decide +kernel
theorem d_M_execute_157 : decode prog_12_method_46_code 157 = .ok (.getfield 161, 3) := by decide +kernel
theorem d_M_execute_160 : decode prog_12_method_46_code 160 = .ok (.iconst 3, 1) := by decide +kernel
theorem d_M_execute_161 : decode prog_12_method_46_code 161 = .ok (.if_icmp .gt 41, 3) := by decide +kernel
theorem d_M_execute_164 : decode prog_12_method_46_code 164 = .ok (.aload_n 0, 1) := by decide +kernel
theorem d_M_execute_165 : decode prog_12_method_46_code 165 = .ok (.getfield 219, 3) := by decide +kernel
theorem d_M_execute_168 : decode prog_12_method_46_code 168 = .ok (.iconst 5, 1) := by decide +kernel
theorem d_M_execute_169 : decode prog_12_method_46_code 169 = .ok (.if_icmp .ne 29, 3) := by decide +kernel
theorem d_M_execute_172 : decode prog_12_method_46_code 172 = .ok (.aload_n 0, 1) := by decide +kernel
theorem d_M_execute_173 : decode prog_12_method_46_code 173 = .ok (.getfield 161, 3) := by decide +kernel
theorem d_M_execute_176 : decode prog_12_method_46_code 176 = .ok (.iconst 4, 1) := by decide +kernel
theorem d_M_execute_177 : decode prog_12_method_46_code 177 = .ok (.if_icmp .eq 25, 3) := by decide +kernel
theorem d_M_execute_180 : decode prog_12_method_46_code 180 = .ok (.aload_n 0, 1) := by decide +kernel
theorem d_M_execute_181 : decode prog_12_method_46_code 181 = .ok (.getfield 161, 3) := by decide +kernel
theorem d_M_execute_184 : decode prog_12_method_46_code 184 = .ok (.bipush 6, 2) := by decide +kernel
theorem d_M_execute_186 : decode prog_12_method_46_code 186 = .ok (.if_icmp .eq 16, 3) := by decide +kernel
theorem d_M_execute_189 : decode prog_12_method_46_code 189 = .ok (.aload_n 0, 1) := by decide +kernel
theorem d_M_execute_190 : decode prog_12_method_46_code 190 = .ok (.getfield 161, 3) := by decide +kernel
theorem d_M_execute_193 : decode prog_12_method_46_code 193 = .ok (.bipush 7, 2) := by decide +kernel
theorem d_M_execute_195 : decode prog_12_method_46_code 195 = .ok (.if_icmp .eq 7, 3) := by decide +kernel
theorem d_M_execute_198 : decode prog_12_method_46_code 198 = .ok (.iconst 1, 1) := by decide +kernel
theorem d_M_execute_199 : decode prog_12_method_46_code 199 = .ok (.goto 4, 3) := by decide +kernel
theorem d_M_execute_202 : decode prog_12_method_46_code 202 = .ok (.iconst 0, 1) := by decide +kernel
theorem d_M_execute_203 : decode prog_12_method_46_code 203 = .ok (.istore 7, 2) := by decide +kernel
theorem d_M_execute_205 : decode prog_12_method_46_code 205 = .ok (.iload 7, 2) := by decide +kernel
theorem d_M_execute_207 : decode prog_12_method_46_code 207 = .ok (.ifCond .eq 28, 3) := by decide +kernel
theorem d_M_execute_210 : decode prog_12_method_46_code 210 = .ok (.aload_n 0, 1) := by decide +kernel
theorem d_M_execute_211 : decode prog_12_method_46_code 211 = .ok (.sipush 256, 3) := by decide +kernel
theorem d_M_execute_214 : decode prog_12_method_46_code 214 = .ok (.aload_n 0, 1) := by decide +kernel
theorem d_M_execute_215 : decode prog_12_method_46_code 215 = .ok (.getfield 219, 3) := by decide +kernel
theorem d_M_execute_218 : decode prog_12_method_46_code 218 = .ok (.imul, 1) := by decide +kernel
theorem d_M_execute_219 : decode prog_12_method_46_code 219 = .ok (.iload_n 2, 1) := by decide +kernel
theorem d_M_execute_220 : decode prog_12_method_46_code 220 = .ok (.iadd, 1) := by decide +kernel
theorem d_M_execute_221 : decode prog_12_method_46_code 221 = .ok (.putfield 64, 3) := by decide +kernel
theorem d_M_execute_224 : decode prog_12_method_46_code 224 = .ok (.aload_n 0, 1) := by decide +kernel
theorem d_M_execute_225 : decode prog_12_method_46_code 225 = .ok (.iload_n 3, 1) := by decide +kernel
theorem d_M_execute_226 : decode prog_12_method_46_code 226 = .ok (.putfield 67, 3) := by decide +kernel
theorem d_M_execute_229 : decode prog_12_method_46_code 229 = .ok (.aload_n 0, 1) := by decide +kernel
theorem d_M_execute_230 : decode prog_12_method_46_code 230 = .ok (.iload 4, 2) := by decide +kernel
theorem d_M_execute_232 : decode prog_12_method_46_code 232 = .ok (.putfield 70, 3) := by decide +kernel
theorem d_M_execute_235 : decode prog_12_method_46_code 235 = .ok (.iload 6, 2) := by decide +kernel
theorem d_M_execute_237 : decode prog_12_method_46_code 237 = .ok (.ifCond .eq 10, 3) := by decide +kernel
theorem d_M_execute_240 : decode prog_12_method_46_code 240 = .ok (.aload_n 0, 1) := by decide +kernel
theorem d_M_execute_241 : decode prog_12_method_46_code 241 = .ok (.invokevirtual 286, 3) := by decide +kernel
theorem d_M_execute_244 : decode prog_12_method_46_code 244 = .ok (.goto 7, 3) := by decide +kernel
theorem d_M_execute_247 : decode prog_12_method_46_code 247 = .ok (.aload_n 0, 1) := by decide +kernel
theorem d_M_execute_248 : decode prog_12_method_46_code 248 = .ok (.invokevirtual 289, 3) := by decide +kernel
theorem d_M_execute_251 : decode prog_12_method_46_code 251 = .ok (.aload_n 0, 1) := by decide +kernel
theorem d_M_execute_252 : decode prog_12_method_46_code 252 = .ok (.aload_n 0, 1) := by decide +kernel
theorem d_M_execute_253 : decode prog_12_method_46_code 253 = .ok (.getfield 55, 3) := by decide +kernel
theorem d_M_execute_256 : decode prog_12_method_46_code 256 = .ok (.aload_n 0, 1) := by decide +kernel
theorem d_M_execute_257 : decode prog_12_method_46_code 257 = .ok (.getfield 73, 3) := by decide +kernel
theorem d_M_execute_260 : decode prog_12_method_46_code 260 = .ok (.ior, 1) := by decide +kernel
theorem d_M_execute_261 : decode prog_12_method_46_code 261 = .ok (.putfield 55, 3) := by decide +kernel
theorem d_M_execute_264 : decode prog_12_method_46_code 264 = .ok (.aload_n 0, 1) := by decide +kernel
theorem d_M_execute_265 : decode prog_12_method_46_code 265 = .ok (.iconst 0, 1) := by decide +kernel
theorem d_M_execute_266 : decode prog_12_method_46_code 266 = .ok (.putfield 48, 3) := by decide +kernel
theorem d_M_execute_269 : decode prog_12_method_46_code 269 = .ok (.iconst 0, 1) := by decide +kernel
theorem d_M_execute_270 : decode prog_12_method_46_code 270 = .ok (.ireturn, 1) := by decide +kernel
theorem d_M_word_0 : decode prog_12_method_47_code 0 = .ok (.aload_n 0, 1) := by decide +kernel
theorem d_M_word_1 : decode prog_12_method_47_code 1 = .ok (.iload_n 1, 1) := by decide +kernel
theorem d_M_word_2 : decode prog_12_method_47_code 2 = .ok (.ifCond .lt 9, 3) := by decide +kernel
theorem d_M_word_5 : decode prog_12_method_47_code 5 = .ok (.iload_n 1, 1) := by decide +kernel
theorem d_M_word_6 : decode prog_12_method_47_code 6 = .ok (.bipush 7, 2) := by decide +kernel
theorem d_M_word_8 : decode prog_12_method_47_code 8 = .ok (.if_icmp .le 7, 3) := by decide +kernel
theorem d_M_word_11 : decode prog_12_method_47_code 11 = .ok (.iconst 1, 1) := by decide +kernel
theorem d_M_word_12 : decode prog_12_method_47_code 12 = .ok (.goto 4, 3) := by decide +kernel
theorem d_M_word_15 : decode prog_12_method_47_code 15 = .ok (.iconst 0, 1) := by decide +kernel
theorem d_M_word_16 : decode prog_12_method_47_code 16 = .ok (.putfield 48, 3) := by decide +kernel
theorem d_M_word_19 : decode prog_12_method_47_code 19 = .ok (.aload_n 0, 1) := by decide +kernel
theorem d_M_word_20 : decode prog_12_method_47_code 20 = .ok (.getfield 48, 3) := by decide +kernel
theorem d_M_word_23 : decode prog_12_method_47_code 23 = .ok (.ifCond .le 5, 3) := by decide +kernel
theorem d_M_word_26 : decode prog_12_method_47_code 26 = .ok (.iconst 0, 1) := by decide +kernel
theorem d_M_word_27 : decode prog_12_method_47_code 27 = .ok (.ireturn, 1) := by decide +kernel
theorem d_M_word_28 : decode prog_12_method_47_code 28 = .ok (.iload_n 1, 1) := by decide +kernel
theorem d_M_word_29 : decode prog_12_method_47_code 29 = .ok (.tableswitch 106 0 6 #[43, 48, 53, 58, 91, 96, 101], 43) := by decide +kernel
theorem d_M_word_72 : decode prog_12_method_47_code 72 = .ok (.aload_n 0, 1) := by decide +kernel
theorem d_M_word_73 : decode prog_12_method_47_code 73 = .ok (.getfield 52, 3) := by decide +kernel
theorem d_M_word_76 : decode prog_12_method_47_code 76 = .ok (.ireturn, 1) := by decide +kernel
theorem d_M_word_77 : decode prog_12_method_47_code 77 = .ok (.aload_n 0, 1) := by decide +kernel
theorem d_M_word_78 : decode prog_12_method_47_code 78 = .ok (.invokevirtual 201, 3) := by decide +kernel
theorem d_M_word_81 : decode prog_12_method_47_code 81 = .ok (.ireturn, 1) := by decide +kernel
theorem d_M_word_82 : decode prog_12_method_47_code 82 = .ok (.aload_n 0, 1) := by decide +kernel
theorem d_M_word_83 : decode prog_12_method_47_code 83 = .ok (.invokevirtual 205, 3) := by decide +kernel
theorem d_M_word_86 : decode prog_12_method_47_code 86 = .ok (.ireturn, 1) := by decide +kernel
theorem d_M_word_87 : decode prog_12_method_47_code 87 = .ok (.aload_n 0, 1) := by decide +kernel
theorem d_M_word_88 : decode prog_12_method_47_code 88 = .ok (.invokevirtual 201, 3) := by decide +kernel
theorem d_M_word_91 : decode prog_12_method_47_code 91 = .ok (.sipush 128, 3) := by decide +kernel
theorem d_M_word_94 : decode prog_12_method_47_code 94 = .ok (.idiv, 1) := by decide +kernel
theorem d_M_word_95 : decode prog_12_method_47_code 95 = .ok (.iconst 2, 1) := by decide +kernel
theorem d_M_word_96 : decode prog_12_method_47_code 96 = .ok (.irem, 1) := by decide +kernel
theorem d_M_word_97 : decode prog_12_method_47_code 97 = .ok (.iconst 1, 1) := by decide +kernel
theorem d_M_word_98 : decode prog_12_method_47_code 98 = .ok (.if_icmp .ne 20, 3) := by decide +kernel
theorem d_M_word_101 : decode prog_12_method_47_code 101 = .ok (.aload_n 0, 1) := by decide +kernel
theorem d_M_word_102 : decode prog_12_method_47_code 102 = .ok (.getfield 52, 3) := by decide +kernel
theorem d_M_word_105 : decode prog_12_method_47_code 105 = .ok (.sipush 128, 3) := by decide +kernel
theorem d_M_word_108 : decode prog_12_method_47_code 108 = .ok (.idiv, 1) := by decide +kernel
theorem d_M_word_109 : decode prog_12_method_47_code 109 = .ok (.iconst 2, 1) := by decide +kernel
theorem d_M_word_110 : decode prog_12_method_47_code 110 = .ok (.irem, 1) := by decide +kernel
theorem d_M_word_111 : decode prog_12_method_47_code 111 = .ok (.ifCond .ne 7, 3) := by decide +kernel
theorem d_M_word_114 : decode prog_12_method_47_code 114 = .ok (.iconst 1, 1) := by decide +kernel
theorem d_M_word_115 : decode prog_12_method_47_code 115 = .ok (.goto 4, 3) := by decide +kernel
theorem d_M_word_118 : decode prog_12_method_47_code 118 = .ok (.iconst 0, 1) := by decide +kernel
theorem d_M_word_119 : decode prog_12_method_47_code 119 = .ok (.ireturn, 1) := by decide +kernel
theorem d_M_word_120 : decode prog_12_method_47_code 120 = .ok (.aload_n 0, 1) := by decide +kernel
theorem d_M_word_121 : decode prog_12_method_47_code 121 = .ok (.getfield 64, 3) := by decide +kernel
theorem d_M_word_124 : decode prog_12_method_47_code 124 = .ok (.ireturn, 1) := by decide +kernel
theorem d_M_word_125 : decode prog_12_method_47_code 125 = .ok (.aload_n 0, 1) := by decide +kernel
theorem d_M_word_126 : decode prog_12_method_47_code 126 = .ok (.getfield 67, 3) := by decide +kernel
theorem d_M_word_129 : decode prog_12_method_47_code 129 = .ok (.ireturn, 1) := by decide +kernel
theorem d_M_word_130 : decode prog_12_method_47_code 130 = .ok (.aload_n 0, 1) := by decide +kernel
theorem d_M_word_131 : decode prog_12_method_47_code 131 = .ok (.getfield 70, 3) := by decide +kernel
theorem d_M_word_134 : decode prog_12_method_47_code 134 = .ok (.ireturn, 1) := by decide +kernel
theorem d_M_word_135 : decode prog_12_method_47_code 135 = .ok (.aload_n 0, 1) := by decide +kernel
theorem d_M_word_136 : decode prog_12_method_47_code 136 = .ok (.getfield 73, 3) := by decide +kernel
theorem d_M_word_139 : decode prog_12_method_47_code 139 = .ok (.ireturn, 1) := by decide +kernel
theorem d_M_part_0 : decode prog_12_method_48_code 0 = .ok (.aload_n 0, 1) := by decide +kernel
theorem d_M_part_1 : decode prog_12_method_48_code 1 = .ok (.iload_n 1, 1) := by decide +kernel
theorem d_M_part_2 : decode prog_12_method_48_code 2 = .ok (.ifCond .lt 9, 3) := by decide +kernel
theorem d_M_part_5 : decode prog_12_method_48_code 5 = .ok (.iload_n 1, 1) := by decide +kernel
theorem d_M_part_6 : decode prog_12_method_48_code 6 = .ok (.bipush 7, 2) := by decide +kernel
theorem d_M_part_8 : decode prog_12_method_48_code 8 = .ok (.if_icmp .le 7, 3) := by decide +kernel
theorem d_M_part_11 : decode prog_12_method_48_code 11 = .ok (.iconst 1, 1) := by decide +kernel
theorem d_M_part_12 : decode prog_12_method_48_code 12 = .ok (.goto 17, 3) := by decide +kernel
theorem d_M_part_15 : decode prog_12_method_48_code 15 = .ok (.iload_n 2, 1) := by decide +kernel
theorem d_M_part_16 : decode prog_12_method_48_code 16 = .ok (.ifCond .lt 8, 3) := by decide +kernel
theorem d_M_part_19 : decode prog_12_method_48_code 19 = .ok (.iload_n 2, 1) := by decide +kernel
theorem d_M_part_20 : decode prog_12_method_48_code 20 = .ok (.iconst 2, 1) := by decide +kernel
theorem d_M_part_21 : decode prog_12_method_48_code 21 = .ok (.if_icmp .le 7, 3) := by decide +kernel
theorem d_M_part_24 : decode prog_12_method_48_code 24 = .ok (.iconst 2, 1) := by decide +kernel
theorem d_M_part_25 : decode prog_12_method_48_code 25 = .ok (.goto 4, 3) := by decide +kernel
theorem d_M_part_28 : decode prog_12_method_48_code 28 = .ok (.iconst 0, 1) := by decide +kernel
theorem d_M_part_29 : decode prog_12_method_48_code 29 = .ok (.putfield 48, 3) := by decide +kernel
theorem d_M_part_32 : decode prog_12_method_48_code 32 = .ok (.aload_n 0, 1) := by decide +kernel
theorem d_M_part_33 : decode prog_12_method_48_code 33 = .ok (.getfield 48, 3) := by decide +kernel
theorem d_M_part_36 : decode prog_12_method_48_code 36 = .ok (.ifCond .le 5, 3) := by decide +kernel
theorem d_M_part_39 : decode prog_12_method_48_code 39 = .ok (.iconst 0, 1) := by decide +kernel
theorem d_M_part_40 : decode prog_12_method_48_code 40 = .ok (.ireturn, 1) := by decide +kernel
theorem d_M_part_41 : decode prog_12_method_48_code 41 = .ok (.iload_n 2, 1) := by decide +kernel
theorem d_M_part_42 : decode prog_12_method_48_code 42 = .ok (.ifCond .ne 16, 3) := by decide +kernel
theorem d_M_part_45 : decode prog_12_method_48_code 45 = .ok (.aload_n 0, 1) := by decide +kernel
theorem d_M_part_46 : decode prog_12_method_48_code 46 = .ok (.getfield 13, 3) := by decide +kernel
theorem d_M_part_49 : decode prog_12_method_48_code 49 = .ok (.aload_n 0, 1) := by decide +kernel
theorem d_M_part_50 : decode prog_12_method_48_code 50 = .ok (.iload_n 1, 1) := by decide +kernel
theorem d_M_part_51 : decode prog_12_method_48_code 51 = .ok (.invokevirtual 81, 3) := by decide +kernel
theorem d_M_part_54 : decode prog_12_method_48_code 54 = .ok (.iaload, 1) := by decide +kernel
theorem d_M_part_55 : decode prog_12_method_48_code 55 = .ok (.goto 35, 3) := by decide +kernel
theorem d_M_part_58 : decode prog_12_method_48_code 58 = .ok (.iload_n 2, 1) := by decide +kernel
theorem d_M_part_59 : decode prog_12_method_48_code 59 = .ok (.iconst 1, 1) := by decide +kernel
theorem d_M_part_60 : decode prog_12_method_48_code 60 = .ok (.if_icmp .ne 19, 3) := by decide +kernel
theorem d_M_part_63 : decode prog_12_method_48_code 63 = .ok (.aload_n 0, 1) := by decide +kernel
theorem d_M_part_64 : decode prog_12_method_48_code 64 = .ok (.getfield 16, 3) := by decide +kernel
theorem d_M_part_67 : decode prog_12_method_48_code 67 = .ok (.aload_n 0, 1) := by decide +kernel
theorem d_M_part_68 : decode prog_12_method_48_code 68 = .ok (.iload_n 1, 1) := by decide +kernel
theorem d_M_part_69 : decode prog_12_method_48_code 69 = .ok (.invokevirtual 81, 3) := by decide +kernel
theorem d_M_part_72 : decode prog_12_method_48_code 72 = .ok (.laload, 1) := by decide +kernel
theorem d_M_part_73 : decode prog_12_method_48_code 73 = .ok (.invokestatic 125, 3) := by decide +kernel
theorem d_M_part_76 : decode prog_12_method_48_code 76 = .ok (.goto 14, 3) := by decide +kernel
theorem d_M_part_79 : decode prog_12_method_48_code 79 = .ok (.aload_n 0, 1) := by decide +kernel
theorem d_M_part_80 : decode prog_12_method_48_code 80 = .ok (.getfield 16, 3) := by decide +kernel
theorem d_M_part_83 : decode prog_12_method_48_code 83 = .ok (.aload_n 0, 1) := by decide +kernel
theorem d_M_part_84 : decode prog_12_method_48_code 84 = .ok (.iload_n 1, 1) := by decide +kernel
theorem d_M_part_85 : decode prog_12_method_48_code 85 = .ok (.invokevirtual 81, 3) := by decide +kernel
theorem d_M_part_88 : decode prog_12_method_48_code 88 = .ok (.laload, 1) := by decide +kernel
theorem d_M_part_89 : decode prog_12_method_48_code 89 = .ok (.l2i, 1) := by decide +kernel
theorem d_M_part_90 : decode prog_12_method_48_code 90 = .ok (.ireturn, 1) := by decide +kernel
