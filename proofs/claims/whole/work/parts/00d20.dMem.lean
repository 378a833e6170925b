theorem d_Mem_put_0 : decode prog_4_method_3_code 0 = .ok (.iconst 0, 1) := by decide +kernel
theorem d_Mem_put_1 : decode prog_4_method_3_code 1 = .ok (.istore 5, 2) := by decide +kernel
theorem d_Mem_put_3 : decode prog_4_method_3_code 3 = .ok (.iload 5, 2) := by decide +kernel
theorem d_Mem_put_5 : decode prog_4_method_3_code 5 = .ok (.iload_n 2, 1) := by decide +kernel
theorem d_Mem_put_6 : decode prog_4_method_3_code 6 = .ok (.if_icmp .ge 43, 3) := by decide +kernel
theorem d_Mem_put_9 : decode prog_4_method_3_code 9 = .ok (.iload_n 1, 1) := by decide +kernel
theorem d_Mem_put_10 : decode prog_4_method_3_code 10 = .ok (.iload 5, 2) := by decide +kernel
theorem d_Mem_put_12 : decode prog_4_method_3_code 12 = .ok (.iadd, 1) := by decide +kernel
theorem d_Mem_put_13 : decode prog_4_method_3_code 13 = .ok (.ifCond .lt 30, 3) := by decide +kernel
theorem d_Mem_put_16 : decode prog_4_method_3_code 16 = .ok (.iload_n 1, 1) := by decide +kernel
theorem d_Mem_put_17 : decode prog_4_method_3_code 17 = .ok (.iload 5, 2) := by decide +kernel
theorem d_Mem_put_19 : decode prog_4_method_3_code 19 = .ok (.iadd, 1) := by decide +kernel
theorem d_Mem_put_20 : decode prog_4_method_3_code 20 = .ok (.bipush 94, 2) := by decide +kernel
theorem d_Mem_put_22 : decode prog_4_method_3_code 22 = .ok (.if_icmp .ge 21, 3) := by decide +kernel
theorem d_Mem_put_25 : decode prog_4_method_3_code 25 = .ok (.aload_n 0, 1) := by decide +kernel
theorem d_Mem_put_26 : decode prog_4_method_3_code 26 = .ok (.getfield 9, 3) := by decide +kernel
theorem d_Mem_put_29 : decode prog_4_method_3_code 29 = .ok (.iload_n 1, 1) := by decide +kernel
theorem d_Mem_put_30 : decode prog_4_method_3_code 30 = .ok (.iload 5, 2) := by decide +kernel
theorem d_Mem_put_32 : decode prog_4_method_3_code 32 = .ok (.iadd, 1) := by decide +kernel
theorem d_Mem_put_33 : decode prog_4_method_3_code 33 = .ok (.lload_n 3, 1) := by decide +kernel
theorem d_Mem_put_34 : decode prog_4_method_3_code 34 = .ok (.bipush 8, 2) := by decide +kernel
theorem d_Mem_put_36 : decode prog_4_method_3_code 36 = .ok (.iload 5, 2) := by decide +kernel
theorem d_Mem_put_38 : decode prog_4_method_3_code 38 = .ok (.imul, 1) := by decide +kernel
theorem d_Mem_put_39 : decode prog_4_method_3_code 39 = .ok (.lushr, 1) := by decide +kernel
theorem d_Mem_put_40 : decode prog_4_method_3_code 40 = .ok (.l2i, 1) := by decide +kernel
theorem d_Mem_put_41 : decode prog_4_method_3_code 41 = .ok (.i2b, 1) := by decide +kernel
theorem d_Mem_put_42 : decode prog_4_method_3_code 42 = .ok (.bastore, 1) := by decide +kernel
theorem d_Mem_put_43 : decode prog_4_method_3_code 43 = .ok (.iinc 5 1, 3) := by decide +kernel
theorem d_Mem_put_46 : decode prog_4_method_3_code 46 = .ok (.goto (-43), 3) := by decide +kernel
theorem d_Mem_put_49 : decode prog_4_method_3_code 49 = .ok (.return_, 1) := by decide +kernel
theorem d_Mem_bits_0 : decode prog_4_method_2_code 0 = .ok (.lconst 0, 1) := by decide +kernel
theorem d_Mem_bits_1 : decode prog_4_method_2_code 1 = .ok (.lstore_n 3, 1) := by decide +kernel
theorem d_Mem_bits_2 : decode prog_4_method_2_code 2 = .ok (.iload_n 1, 1) := by decide +kernel
theorem d_Mem_bits_3 : decode prog_4_method_2_code 3 = .ok (.iload_n 2, 1) := by decide +kernel
theorem d_Mem_bits_4 : decode prog_4_method_2_code 4 = .ok (.iadd, 1) := by decide +kernel
theorem d_Mem_bits_5 : decode prog_4_method_2_code 5 = .ok (.iconst 1, 1) := by decide +kernel
theorem d_Mem_bits_6 : decode prog_4_method_2_code 6 = .ok (.isub, 1) := by decide +kernel
theorem d_Mem_bits_7 : decode prog_4_method_2_code 7 = .ok (.istore 5, 2) := by decide +kernel
theorem d_Mem_bits_9 : decode prog_4_method_2_code 9 = .ok (.iload 5, 2) := by decide +kernel
theorem d_Mem_bits_11 : decode prog_4_method_2_code 11 = .ok (.iload_n 1, 1) := by decide +kernel
theorem d_Mem_bits_12 : decode prog_4_method_2_code 12 = .ok (.if_icmp .lt 39, 3) := by decide +kernel
theorem d_Mem_bits_15 : decode prog_4_method_2_code 15 = .ok (.iload 5, 2) := by decide +kernel
theorem d_Mem_bits_17 : decode prog_4_method_2_code 17 = .ok (.ifCond .lt 28, 3) := by decide +kernel
theorem d_Mem_bits_20 : decode prog_4_method_2_code 20 = .ok (.iload 5, 2) := by decide +kernel
theorem d_Mem_bits_22 : decode prog_4_method_2_code 22 = .ok (.bipush 94, 2) := by decide +kernel
theorem d_Mem_bits_24 : decode prog_4_method_2_code 24 = .ok (.if_icmp .ge 21, 3) := by decide +kernel
theorem d_Mem_bits_27 : decode prog_4_method_2_code 27 = .ok (.lload_n 3, 1) := by decide +kernel
theorem d_Mem_bits_28 : decode prog_4_method_2_code 28 = .ok (.bipush 8, 2) := by decide +kernel
theorem d_Mem_bits_30 : decode prog_4_method_2_code 30 = .ok (.lshl, 1) := by decide +kernel
theorem d_Mem_bits_31 : decode prog_4_method_2_code 31 = .ok (.aload_n 0, 1) := by decide +kernel
theorem d_Mem_bits_32 : decode prog_4_method_2_code 32 = .ok (.getfield 9, 3) := by decide +kernel
theorem d_Mem_bits_35 : decode prog_4_method_2_code 35 = .ok (.iload 5, 2) := by decide +kernel
theorem d_Mem_bits_37 : decode prog_4_method_2_code 37 = .ok (.baload, 1) := by decide +kernel
theorem d_Mem_bits_38 : decode prog_4_method_2_code 38 = .ok (.sipush 255, 3) := by decide +kernel
theorem d_Mem_bits_41 : decode prog_4_method_2_code 41 = .ok (.iand, 1) := by decide +kernel
theorem d_Mem_bits_42 : decode prog_4_method_2_code 42 = .ok (.i2l, 1) := by decide +kernel
theorem d_Mem_bits_43 : decode prog_4_method_2_code 43 = .ok (.lor, 1) := by decide +kernel
theorem d_Mem_bits_44 : decode prog_4_method_2_code 44 = .ok (.lstore_n 3, 1) := by decide +kernel
theorem d_Mem_bits_45 : decode prog_4_method_2_code 45 = .ok (.iinc 5 (-1), 3) := by decide +kernel
theorem d_Mem_bits_48 : decode prog_4_method_2_code 48 = .ok (.goto (-39), 3) := by decide +kernel
theorem d_Mem_bits_51 : decode prog_4_method_2_code 51 = .ok (.lload_n 3, 1) := by decide +kernel
theorem d_Mem_bits_52 : decode prog_4_method_2_code 52 = .ok (.lreturn, 1) := by decide +kernel
