theorem d_Maker_makeTiny_0 : decode prog_3_method_3_code 0 = .ok (.aload_n 1, 1) := by decide +kernel
theorem d_Maker_makeTiny_1 : decode prog_3_method_3_code 1 = .ok (.sipush (-16381), 3) := by decide +kernel
theorem d_Maker_makeTiny_4 : decode prog_3_method_3_code 4 = .ok (.iload_n 3, 1) := by decide +kernel
theorem d_Maker_makeTiny_5 : decode prog_3_method_3_code 5 = .ok (.isub, 1) := by decide +kernel
theorem d_Maker_makeTiny_6 : decode prog_3_method_3_code 6 = .ok (.aload_n 1, 1) := by decide +kernel
theorem d_Maker_makeTiny_7 : decode prog_3_method_3_code 7 = .ok (.getfield 68, 3) := by decide +kernel
theorem d_Maker_makeTiny_10 : decode prog_3_method_3_code 10 = .ok (.isub, 1) := by decide +kernel
theorem d_Maker_makeTiny_11 : decode prog_3_method_3_code 11 = .ok (.aload_n 0, 1) := by decide +kernel
theorem d_Maker_makeTiny_12 : decode prog_3_method_3_code 12 = .ok (.getfield 7, 3) := by decide +kernel
theorem d_Maker_makeTiny_15 : decode prog_3_method_3_code 15 = .ok (.invokevirtual 39, 3) := by decide +kernel
theorem d_Maker_makeTiny_18 : decode prog_3_method_3_code 18 = .ok (.iload_n 2, 1) := by decide +kernel
theorem d_Maker_makeTiny_19 : decode prog_3_method_3_code 19 = .ok (.invokevirtual 42, 3) := by decide +kernel
theorem d_Maker_makeTiny_22 : decode prog_3_method_3_code 22 = .ok (.aload_n 1, 1) := by decide +kernel
theorem d_Maker_makeTiny_23 : decode prog_3_method_3_code 23 = .ok (.getfield 46, 3) := by decide +kernel
theorem d_Maker_makeTiny_26 : decode prog_3_method_3_code 26 = .ok (.bipush 64, 2) := by decide +kernel
theorem d_Maker_makeTiny_28 : decode prog_3_method_3_code 28 = .ok (.iload_n 3, 1) := by decide +kernel
theorem d_Maker_makeTiny_29 : decode prog_3_method_3_code 29 = .ok (.isub, 1) := by decide +kernel
theorem d_Maker_makeTiny_30 : decode prog_3_method_3_code 30 = .ok (.lshl, 1) := by decide +kernel
theorem d_Maker_makeTiny_31 : decode prog_3_method_3_code 31 = .ok (.lstore 5, 2) := by decide +kernel
theorem d_Maker_makeTiny_33 : decode prog_3_method_3_code 33 = .ok (.aload_n 0, 1) := by decide +kernel
theorem d_Maker_makeTiny_34 : decode prog_3_method_3_code 34 = .ok (.getfield 7, 3) := by decide +kernel
theorem d_Maker_makeTiny_37 : decode prog_3_method_3_code 37 = .ok (.aload_n 1, 1) := by decide +kernel
theorem d_Maker_makeTiny_38 : decode prog_3_method_3_code 38 = .ok (.getfield 60, 3) := by decide +kernel
theorem d_Maker_makeTiny_41 : decode prog_3_method_3_code 41 = .ok (.ifCond .eq 8, 3) := by decide +kernel
theorem d_Maker_makeTiny_44 : decode prog_3_method_3_code 44 = .ok (.bipush 48, 2) := by decide +kernel
theorem d_Maker_makeTiny_46 : decode prog_3_method_3_code 46 = .ok (.goto 4, 3) := by decide +kernel
theorem d_Maker_makeTiny_49 : decode prog_3_method_3_code 49 = .ok (.iconst 0, 1) := by decide +kernel
theorem d_Maker_makeTiny_50 : decode prog_3_method_3_code 50 = .ok (.invokevirtual 52, 3) := by decide +kernel
theorem d_Maker_makeTiny_53 : decode prog_3_method_3_code 53 = .ok (.aload 4, 2) := by decide +kernel
theorem d_Maker_makeTiny_55 : decode prog_3_method_3_code 55 = .ok (.iload_n 2, 1) := by decide +kernel
theorem d_Maker_makeTiny_56 : decode prog_3_method_3_code 56 = .ok (.lload 5, 2) := by decide +kernel
theorem d_Maker_makeTiny_58 : decode prog_3_method_3_code 58 = .ok (.lconst 0, 1) := by decide +kernel
theorem d_Maker_makeTiny_59 : decode prog_3_method_3_code 59 = .ok (.lcmp, 1) := by decide +kernel
theorem d_Maker_makeTiny_60 : decode prog_3_method_3_code 60 = .ok (.ifCond .ge 7, 3) := by decide +kernel
theorem d_Maker_makeTiny_63 : decode prog_3_method_3_code 63 = .ok (.iconst 1, 1) := by decide +kernel
theorem d_Maker_makeTiny_64 : decode prog_3_method_3_code 64 = .ok (.goto 4, 3) := by decide +kernel
theorem d_Maker_makeTiny_67 : decode prog_3_method_3_code 67 = .ok (.iconst 0, 1) := by decide +kernel
theorem d_Maker_makeTiny_68 : decode prog_3_method_3_code 68 = .ok (.lload 5, 2) := by decide +kernel
theorem d_Maker_makeTiny_70 : decode prog_3_method_3_code 70 = .ok (.invokevirtual 64, 3) := by decide +kernel
theorem d_Maker_makeTiny_73 : decode prog_3_method_3_code 73 = .ok (.return_, 1) := by decide +kernel
theorem d_Maker_makeGreatest_0 : decode prog_3_method_4_code 0 = .ok (.aload_n 0, 1) := by decide +kernel
theorem d_Maker_makeGreatest_1 : decode prog_3_method_4_code 1 = .ok (.getfield 7, 3) := by decide +kernel
theorem d_Maker_makeGreatest_4 : decode prog_3_method_4_code 4 = .ok (.bipush 32, 2) := by decide +kernel
theorem d_Maker_makeGreatest_6 : decode prog_3_method_4_code 6 = .ok (.invokevirtual 52, 3) := by decide +kernel
theorem d_Maker_makeGreatest_9 : decode prog_3_method_4_code 9 = .ok (.aload_n 0, 1) := by decide +kernel
theorem d_Maker_makeGreatest_10 : decode prog_3_method_4_code 10 = .ok (.getfield 7, 3) := by decide +kernel
theorem d_Maker_makeGreatest_13 : decode prog_3_method_4_code 13 = .ok (.iload_n 1, 1) := by decide +kernel
theorem d_Maker_makeGreatest_14 : decode prog_3_method_4_code 14 = .ok (.invokevirtual 72, 3) := by decide +kernel
theorem d_Maker_makeGreatest_17 : decode prog_3_method_4_code 17 = .ok (.ifCond .eq 11, 3) := by decide +kernel
theorem d_Maker_makeGreatest_20 : decode prog_3_method_4_code 20 = .ok (.aload_n 3, 1) := by decide +kernel
theorem d_Maker_makeGreatest_21 : decode prog_3_method_4_code 21 = .ok (.iload_n 1, 1) := by decide +kernel
theorem d_Maker_makeGreatest_22 : decode prog_3_method_4_code 22 = .ok (.invokevirtual 76, 3) := by decide +kernel
theorem d_Maker_makeGreatest_25 : decode prog_3_method_4_code 25 = .ok (.goto 19, 3) := by decide +kernel
theorem d_Maker_makeGreatest_28 : decode prog_3_method_4_code 28 = .ok (.aload_n 3, 1) := by decide +kernel
theorem d_Maker_makeGreatest_29 : decode prog_3_method_4_code 29 = .ok (.iload_n 1, 1) := by decide +kernel
theorem d_Maker_makeGreatest_30 : decode prog_3_method_4_code 30 = .ok (.sipush 32766, 3) := by decide +kernel
theorem d_Maker_makeGreatest_33 : decode prog_3_method_4_code 33 = .ok (.ldc2_w 79, 3) := by decide +kernel
theorem d_Maker_makeGreatest_36 : decode prog_3_method_4_code 36 = .ok (.bipush 64, 2) := by decide +kernel
theorem d_Maker_makeGreatest_38 : decode prog_3_method_4_code 38 = .ok (.iload_n 2, 1) := by decide +kernel
theorem d_Maker_makeGreatest_39 : decode prog_3_method_4_code 39 = .ok (.isub, 1) := by decide +kernel
theorem d_Maker_makeGreatest_40 : decode prog_3_method_4_code 40 = .ok (.lshl, 1) := by decide +kernel
theorem d_Maker_makeGreatest_41 : decode prog_3_method_4_code 41 = .ok (.invokevirtual 64, 3) := by decide +kernel
theorem d_Maker_makeGreatest_44 : decode prog_3_method_4_code 44 = .ok (.return_, 1) := by decide +kernel
theorem d_Maker_make_0 : decode prog_3_method_2_code 0 = .ok (.aload_n 1, 1) := by decide +kernel
theorem d_Maker_make_1 : decode prog_3_method_2_code 1 = .ok (.invokevirtual 13, 3) := by decide +kernel
theorem d_Maker_make_4 : decode prog_3_method_2_code 4 = .ok (.ifCond .eq 10, 3) := by decide +kernel
theorem d_Maker_make_7 : decode prog_3_method_2_code 7 = .ok (.aload 4, 2) := by decide +kernel
theorem d_Maker_make_9 : decode prog_3_method_2_code 9 = .ok (.iload_n 2, 1) := by decide +kernel
theorem d_Maker_make_10 : decode prog_3_method_2_code 10 = .ok (.invokevirtual 19, 3) := by decide +kernel
theorem d_Maker_make_13 : decode prog_3_method_2_code 13 = .ok (.return_, 1) := by decide +kernel
theorem d_Maker_make_14 : decode prog_3_method_2_code 14 = .ok (.aload_n 1, 1) := by decide +kernel
theorem d_Maker_make_15 : decode prog_3_method_2_code 15 = .ok (.invokevirtual 25, 3) := by decide +kernel
theorem d_Maker_make_18 : decode prog_3_method_2_code 18 = .ok (.sipush (-16382), 3) := by decide +kernel
theorem d_Maker_make_21 : decode prog_3_method_2_code 21 = .ok (.if_icmp .ge 7, 3) := by decide +kernel
theorem d_Maker_make_24 : decode prog_3_method_2_code 24 = .ok (.iconst 1, 1) := by decide +kernel
theorem d_Maker_make_25 : decode prog_3_method_2_code 25 = .ok (.goto 4, 3) := by decide +kernel
theorem d_Maker_make_28 : decode prog_3_method_2_code 28 = .ok (.iconst 0, 1) := by decide +kernel
theorem d_Maker_make_29 : decode prog_3_method_2_code 29 = .ok (.istore 5, 2) := by decide +kernel
theorem d_Maker_make_31 : decode prog_3_method_2_code 31 = .ok (.iload 5, 2) := by decide +kernel
theorem d_Maker_make_33 : decode prog_3_method_2_code 33 = .ok (.ifCond .eq 25, 3) := by decide +kernel
theorem d_Maker_make_36 : decode prog_3_method_2_code 36 = .ok (.aload_n 0, 1) := by decide +kernel
theorem d_Maker_make_37 : decode prog_3_method_2_code 37 = .ok (.getfield 7, 3) := by decide +kernel
theorem d_Maker_make_40 : decode prog_3_method_2_code 40 = .ok (.bipush 16, 2) := by decide +kernel
theorem d_Maker_make_42 : decode prog_3_method_2_code 42 = .ok (.invokevirtual 31, 3) := by decide +kernel
theorem d_Maker_make_45 : decode prog_3_method_2_code 45 = .ok (.ifCond .eq 13, 3) := by decide +kernel
theorem d_Maker_make_48 : decode prog_3_method_2_code 48 = .ok (.aload_n 0, 1) := by decide +kernel
theorem d_Maker_make_49 : decode prog_3_method_2_code 49 = .ok (.aload_n 1, 1) := by decide +kernel
theorem d_Maker_make_50 : decode prog_3_method_2_code 50 = .ok (.iload_n 2, 1) := by decide +kernel
theorem d_Maker_make_51 : decode prog_3_method_2_code 51 = .ok (.iload_n 3, 1) := by decide +kernel
theorem d_Maker_make_52 : decode prog_3_method_2_code 52 = .ok (.aload 4, 2) := by decide +kernel
theorem d_Maker_make_54 : decode prog_3_method_2_code 54 = .ok (.invokevirtual 35, 3) := by decide +kernel
theorem d_Maker_make_57 : decode prog_3_method_2_code 57 = .ok (.return_, 1) := by decide +kernel
theorem d_Maker_make_58 : decode prog_3_method_2_code 58 = .ok (.aload_n 1, 1) := by decide +kernel
theorem d_Maker_make_59 : decode prog_3_method_2_code 59 = .ok (.sipush 128, 3) := by decide +kernel
theorem d_Maker_make_62 : decode prog_3_method_2_code 62 = .ok (.iload_n 3, 1) := by decide +kernel
theorem d_Maker_make_63 : decode prog_3_method_2_code 63 = .ok (.isub, 1) := by decide +kernel
theorem d_Maker_make_64 : decode prog_3_method_2_code 64 = .ok (.aload_n 0, 1) := by decide +kernel
theorem d_Maker_make_65 : decode prog_3_method_2_code 65 = .ok (.getfield 7, 3) := by decide +kernel
theorem d_Maker_make_68 : decode prog_3_method_2_code 68 = .ok (.invokevirtual 39, 3) := by decide +kernel
theorem d_Maker_make_71 : decode prog_3_method_2_code 71 = .ok (.iload_n 2, 1) := by decide +kernel
theorem d_Maker_make_72 : decode prog_3_method_2_code 72 = .ok (.invokevirtual 42, 3) := by decide +kernel
theorem d_Maker_make_75 : decode prog_3_method_2_code 75 = .ok (.aload_n 1, 1) := by decide +kernel
theorem d_Maker_make_76 : decode prog_3_method_2_code 76 = .ok (.getfield 46, 3) := by decide +kernel
theorem d_Maker_make_79 : decode prog_3_method_2_code 79 = .ok (.bipush 64, 2) := by decide +kernel
theorem d_Maker_make_81 : decode prog_3_method_2_code 81 = .ok (.iload_n 3, 1) := by decide +kernel
theorem d_Maker_make_82 : decode prog_3_method_2_code 82 = .ok (.isub, 1) := by decide +kernel
theorem d_Maker_make_83 : decode prog_3_method_2_code 83 = .ok (.lshl, 1) := by decide +kernel
theorem d_Maker_make_84 : decode prog_3_method_2_code 84 = .ok (.lstore 6, 2) := by decide +kernel
theorem d_Maker_make_86 : decode prog_3_method_2_code 86 = .ok (.aload_n 1, 1) := by decide +kernel
theorem d_Maker_make_87 : decode prog_3_method_2_code 87 = .ok (.invokevirtual 25, 3) := by decide +kernel
theorem d_Maker_make_90 : decode prog_3_method_2_code 90 = .ok (.sipush 16383, 3) := by decide +kernel
theorem d_Maker_make_93 : decode prog_3_method_2_code 93 = .ok (.iadd, 1) := by decide +kernel
theorem d_Maker_make_94 : decode prog_3_method_2_code 94 = .ok (.istore 8, 2) := by decide +kernel
theorem d_Maker_make_96 : decode prog_3_method_2_code 96 = .ok (.lload 6, 2) := by decide +kernel
theorem d_Maker_make_98 : decode prog_3_method_2_code 98 = .ok (.lconst 0, 1) := by decide +kernel
theorem d_Maker_make_99 : decode prog_3_method_2_code 99 = .ok (.lcmp, 1) := by decide +kernel
theorem d_Maker_make_100 : decode prog_3_method_2_code 100 = .ok (.ifCond .ne 11, 3) := by decide +kernel
theorem d_Maker_make_103 : decode prog_3_method_2_code 103 = .ok (.ldc2_w 50, 3) := by decide +kernel
theorem d_Maker_make_106 : decode prog_3_method_2_code 106 = .ok (.lstore 6, 2) := by decide +kernel
theorem d_Maker_make_108 : decode prog_3_method_2_code 108 = .ok (.iinc 8 1, 3) := by decide +kernel
theorem d_Maker_make_111 : decode prog_3_method_2_code 111 = .ok (.iload 5, 2) := by decide +kernel
theorem d_Maker_make_113 : decode prog_3_method_2_code 113 = .ok (.ifCond .eq 21, 3) := by decide +kernel
theorem d_Maker_make_116 : decode prog_3_method_2_code 116 = .ok (.aload_n 0, 1) := by decide +kernel
theorem d_Maker_make_117 : decode prog_3_method_2_code 117 = .ok (.getfield 7, 3) := by decide +kernel
theorem d_Maker_make_120 : decode prog_3_method_2_code 120 = .ok (.bipush 16, 2) := by decide +kernel
theorem d_Maker_make_122 : decode prog_3_method_2_code 122 = .ok (.invokevirtual 52, 3) := by decide +kernel
theorem d_Maker_make_125 : decode prog_3_method_2_code 125 = .ok (.iinc 8 24576, 6) := by decide +kernel
theorem d_Maker_make_131 : decode prog_3_method_2_code 131 = .ok (.goto 47, 3) := by decide +kernel
theorem d_Maker_make_134 : decode prog_3_method_2_code 134 = .ok (.iload 8, 2) := by decide +kernel
theorem d_Maker_make_136 : decode prog_3_method_2_code 136 = .ok (.sipush 32767, 3) := by decide +kernel
theorem d_Maker_make_139 : decode prog_3_method_2_code 139 = .ok (.if_icmp .lt 39, 3) := by decide +kernel
theorem d_Maker_make_142 : decode prog_3_method_2_code 142 = .ok (.aload_n 0, 1) := by decide +kernel
theorem d_Maker_make_143 : decode prog_3_method_2_code 143 = .ok (.getfield 7, 3) := by decide +kernel
theorem d_Maker_make_146 : decode prog_3_method_2_code 146 = .ok (.bipush 8, 2) := by decide +kernel
theorem d_Maker_make_148 : decode prog_3_method_2_code 148 = .ok (.invokevirtual 52, 3) := by decide +kernel
theorem d_Maker_make_151 : decode prog_3_method_2_code 151 = .ok (.aload_n 0, 1) := by decide +kernel
theorem d_Maker_make_152 : decode prog_3_method_2_code 152 = .ok (.getfield 7, 3) := by decide +kernel
theorem d_Maker_make_155 : decode prog_3_method_2_code 155 = .ok (.bipush 8, 2) := by decide +kernel
theorem d_Maker_make_157 : decode prog_3_method_2_code 157 = .ok (.invokevirtual 31, 3) := by decide +kernel
theorem d_Maker_make_160 : decode prog_3_method_2_code 160 = .ok (.ifCond .eq 12, 3) := by decide +kernel
theorem d_Maker_make_163 : decode prog_3_method_2_code 163 = .ok (.aload_n 0, 1) := by decide +kernel
theorem d_Maker_make_164 : decode prog_3_method_2_code 164 = .ok (.iload_n 2, 1) := by decide +kernel
theorem d_Maker_make_165 : decode prog_3_method_2_code 165 = .ok (.iload_n 3, 1) := by decide +kernel
theorem d_Maker_make_166 : decode prog_3_method_2_code 166 = .ok (.aload 4, 2) := by decide +kernel
theorem d_Maker_make_168 : decode prog_3_method_2_code 168 = .ok (.invokevirtual 56, 3) := by decide +kernel
theorem d_Maker_make_171 : decode prog_3_method_2_code 171 = .ok (.return_, 1) := by decide +kernel
theorem d_Maker_make_172 : decode prog_3_method_2_code 172 = .ok (.iinc 8 (-24576), 6) := by decide +kernel
theorem d_Maker_make_178 : decode prog_3_method_2_code 178 = .ok (.aload_n 0, 1) := by decide +kernel
theorem d_Maker_make_179 : decode prog_3_method_2_code 179 = .ok (.getfield 7, 3) := by decide +kernel
theorem d_Maker_make_182 : decode prog_3_method_2_code 182 = .ok (.aload_n 1, 1) := by decide +kernel
theorem d_Maker_make_183 : decode prog_3_method_2_code 183 = .ok (.getfield 60, 3) := by decide +kernel
theorem d_Maker_make_186 : decode prog_3_method_2_code 186 = .ok (.ifCond .eq 8, 3) := by decide +kernel
theorem d_Maker_make_189 : decode prog_3_method_2_code 189 = .ok (.bipush 32, 2) := by decide +kernel
theorem d_Maker_make_191 : decode prog_3_method_2_code 191 = .ok (.goto 4, 3) := by decide +kernel
theorem d_Maker_make_194 : decode prog_3_method_2_code 194 = .ok (.iconst 0, 1) := by decide +kernel
theorem d_Maker_make_195 : decode prog_3_method_2_code 195 = .ok (.invokevirtual 52, 3) := by decide +kernel
theorem d_Maker_make_198 : decode prog_3_method_2_code 198 = .ok (.aload 4, 2) := by decide +kernel
theorem d_Maker_make_200 : decode prog_3_method_2_code 200 = .ok (.iload_n 2, 1) := by decide +kernel
theorem d_Maker_make_201 : decode prog_3_method_2_code 201 = .ok (.iload 8, 2) := by decide +kernel
theorem d_Maker_make_203 : decode prog_3_method_2_code 203 = .ok (.lload 6, 2) := by decide +kernel
theorem d_Maker_make_205 : decode prog_3_method_2_code 205 = .ok (.invokevirtual 64, 3) := by decide +kernel
theorem d_Maker_make_208 : decode prog_3_method_2_code 208 = .ok (.return_, 1) := by decide +kernel
