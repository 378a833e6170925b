theorem d_Oper_cannotBe_0 : decode prog_5_method_3_code 0 = .ok (.aload_n 2, 1) := by decide +kernel
theorem d_Oper_cannotBe_1 : decode prog_5_method_3_code 1 = .ok (.invokevirtual 48, 3) := by decide +kernel
theorem d_Oper_cannotBe_4 : decode prog_5_method_3_code 4 = .ok (.ifCond .eq 14, 3) := by decide +kernel
theorem d_Oper_cannotBe_7 : decode prog_5_method_3_code 7 = .ok (.aload_n 3, 1) := by decide +kernel
theorem d_Oper_cannotBe_8 : decode prog_5_method_3_code 8 = .ok (.invokevirtual 48, 3) := by decide +kernel
theorem d_Oper_cannotBe_11 : decode prog_5_method_3_code 11 = .ok (.ifCond .eq 7, 3) := by decide +kernel
theorem d_Oper_cannotBe_14 : decode prog_5_method_3_code 14 = .ok (.iconst 1, 1) := by decide +kernel
theorem d_Oper_cannotBe_15 : decode prog_5_method_3_code 15 = .ok (.goto 4, 3) := by decide +kernel
theorem d_Oper_cannotBe_18 : decode prog_5_method_3_code 18 = .ok (.iconst 0, 1) := by decide +kernel
theorem d_Oper_cannotBe_19 : decode prog_5_method_3_code 19 = .ok (.istore 4, 2) := by decide +kernel
theorem d_Oper_cannotBe_21 : decode prog_5_method_3_code 21 = .ok (.iload_n 1, 1) := by decide +kernel
theorem d_Oper_cannotBe_22 : decode prog_5_method_3_code 22 = .ok (.tableswitch 160 0 3 #[30, 62, 94, 128], 30) := by decide +kernel
theorem d_Oper_cannotBe_52 : decode prog_5_method_3_code 52 = .ok (.iload 4, 2) := by decide +kernel
theorem d_Oper_cannotBe_54 : decode prog_5_method_3_code 54 = .ok (.ifCond .eq 28, 3) := by decide +kernel
theorem d_Oper_cannotBe_57 : decode prog_5_method_3_code 57 = .ok (.aload_n 0, 1) := by decide +kernel
theorem d_Oper_cannotBe_58 : decode prog_5_method_3_code 58 = .ok (.getfield 19, 3) := by decide +kernel
theorem d_Oper_cannotBe_61 : decode prog_5_method_3_code 61 = .ok (.invokevirtual 78, 3) := by decide +kernel
theorem d_Oper_cannotBe_64 : decode prog_5_method_3_code 64 = .ok (.ifCond .ne 14, 3) := by decide +kernel
theorem d_Oper_cannotBe_67 : decode prog_5_method_3_code 67 = .ok (.aload_n 2, 1) := by decide +kernel
theorem d_Oper_cannotBe_68 : decode prog_5_method_3_code 68 = .ok (.getfield 55, 3) := by decide +kernel
theorem d_Oper_cannotBe_71 : decode prog_5_method_3_code 71 = .ok (.aload_n 3, 1) := by decide +kernel
theorem d_Oper_cannotBe_72 : decode prog_5_method_3_code 72 = .ok (.getfield 55, 3) := by decide +kernel
theorem d_Oper_cannotBe_75 : decode prog_5_method_3_code 75 = .ok (.if_icmp .eq 7, 3) := by decide +kernel
theorem d_Oper_cannotBe_78 : decode prog_5_method_3_code 78 = .ok (.iconst 1, 1) := by decide +kernel
theorem d_Oper_cannotBe_79 : decode prog_5_method_3_code 79 = .ok (.goto 4, 3) := by decide +kernel
theorem d_Oper_cannotBe_82 : decode prog_5_method_3_code 82 = .ok (.iconst 0, 1) := by decide +kernel
theorem d_Oper_cannotBe_83 : decode prog_5_method_3_code 83 = .ok (.ireturn, 1) := by decide +kernel
theorem d_Oper_cannotBe_84 : decode prog_5_method_3_code 84 = .ok (.iload 4, 2) := by decide +kernel
theorem d_Oper_cannotBe_86 : decode prog_5_method_3_code 86 = .ok (.ifCond .eq 28, 3) := by decide +kernel
theorem d_Oper_cannotBe_89 : decode prog_5_method_3_code 89 = .ok (.aload_n 0, 1) := by decide +kernel
theorem d_Oper_cannotBe_90 : decode prog_5_method_3_code 90 = .ok (.getfield 19, 3) := by decide +kernel
theorem d_Oper_cannotBe_93 : decode prog_5_method_3_code 93 = .ok (.invokevirtual 78, 3) := by decide +kernel
theorem d_Oper_cannotBe_96 : decode prog_5_method_3_code 96 = .ok (.ifCond .ne 14, 3) := by decide +kernel
theorem d_Oper_cannotBe_99 : decode prog_5_method_3_code 99 = .ok (.aload_n 2, 1) := by decide +kernel
theorem d_Oper_cannotBe_100 : decode prog_5_method_3_code 100 = .ok (.getfield 55, 3) := by decide +kernel
theorem d_Oper_cannotBe_103 : decode prog_5_method_3_code 103 = .ok (.aload_n 3, 1) := by decide +kernel
theorem d_Oper_cannotBe_104 : decode prog_5_method_3_code 104 = .ok (.getfield 55, 3) := by decide +kernel
theorem d_Oper_cannotBe_107 : decode prog_5_method_3_code 107 = .ok (.if_icmp .ne 7, 3) := by decide +kernel
theorem d_Oper_cannotBe_110 : decode prog_5_method_3_code 110 = .ok (.iconst 1, 1) := by decide +kernel
theorem d_Oper_cannotBe_111 : decode prog_5_method_3_code 111 = .ok (.goto 4, 3) := by decide +kernel
theorem d_Oper_cannotBe_114 : decode prog_5_method_3_code 114 = .ok (.iconst 0, 1) := by decide +kernel
theorem d_Oper_cannotBe_115 : decode prog_5_method_3_code 115 = .ok (.ireturn, 1) := by decide +kernel
theorem d_Oper_cannotBe_116 : decode prog_5_method_3_code 116 = .ok (.aload_n 2, 1) := by decide +kernel
theorem d_Oper_cannotBe_117 : decode prog_5_method_3_code 117 = .ok (.invokevirtual 48, 3) := by decide +kernel
theorem d_Oper_cannotBe_120 : decode prog_5_method_3_code 120 = .ok (.ifCond .eq 10, 3) := by decide +kernel
theorem d_Oper_cannotBe_123 : decode prog_5_method_3_code 123 = .ok (.aload_n 3, 1) := by decide +kernel
theorem d_Oper_cannotBe_124 : decode prog_5_method_3_code 124 = .ok (.invokevirtual 42, 3) := by decide +kernel
theorem d_Oper_cannotBe_127 : decode prog_5_method_3_code 127 = .ok (.ifCond .ne 17, 3) := by decide +kernel
theorem d_Oper_cannotBe_130 : decode prog_5_method_3_code 130 = .ok (.aload_n 2, 1) := by decide +kernel
theorem d_Oper_cannotBe_131 : decode prog_5_method_3_code 131 = .ok (.invokevirtual 42, 3) := by decide +kernel
theorem d_Oper_cannotBe_134 : decode prog_5_method_3_code 134 = .ok (.ifCond .eq 14, 3) := by decide +kernel
theorem d_Oper_cannotBe_137 : decode prog_5_method_3_code 137 = .ok (.aload_n 3, 1) := by decide +kernel
theorem d_Oper_cannotBe_138 : decode prog_5_method_3_code 138 = .ok (.invokevirtual 48, 3) := by decide +kernel
theorem d_Oper_cannotBe_141 : decode prog_5_method_3_code 141 = .ok (.ifCond .eq 7, 3) := by decide +kernel
theorem d_Oper_cannotBe_144 : decode prog_5_method_3_code 144 = .ok (.iconst 1, 1) := by decide +kernel
theorem d_Oper_cannotBe_145 : decode prog_5_method_3_code 145 = .ok (.goto 4, 3) := by decide +kernel
theorem d_Oper_cannotBe_148 : decode prog_5_method_3_code 148 = .ok (.iconst 0, 1) := by decide +kernel
theorem d_Oper_cannotBe_149 : decode prog_5_method_3_code 149 = .ok (.ireturn, 1) := by decide +kernel
theorem d_Oper_cannotBe_150 : decode prog_5_method_3_code 150 = .ok (.iload 4, 2) := by decide +kernel
theorem d_Oper_cannotBe_152 : decode prog_5_method_3_code 152 = .ok (.ifCond .ne 24, 3) := by decide +kernel
theorem d_Oper_cannotBe_155 : decode prog_5_method_3_code 155 = .ok (.aload_n 2, 1) := by decide +kernel
theorem d_Oper_cannotBe_156 : decode prog_5_method_3_code 156 = .ok (.invokevirtual 42, 3) := by decide +kernel
theorem d_Oper_cannotBe_159 : decode prog_5_method_3_code 159 = .ok (.ifCond .eq 10, 3) := by decide +kernel
theorem d_Oper_cannotBe_162 : decode prog_5_method_3_code 162 = .ok (.aload_n 3, 1) := by decide +kernel
theorem d_Oper_cannotBe_163 : decode prog_5_method_3_code 163 = .ok (.invokevirtual 42, 3) := by decide +kernel
theorem d_Oper_cannotBe_166 : decode prog_5_method_3_code 166 = .ok (.ifCond .ne 10, 3) := by decide +kernel
theorem d_Oper_cannotBe_169 : decode prog_5_method_3_code 169 = .ok (.aload_n 3, 1) := by decide +kernel
theorem d_Oper_cannotBe_170 : decode prog_5_method_3_code 170 = .ok (.invokevirtual 81, 3) := by decide +kernel
theorem d_Oper_cannotBe_173 : decode prog_5_method_3_code 173 = .ok (.ifCond .eq 7, 3) := by decide +kernel
theorem d_Oper_cannotBe_176 : decode prog_5_method_3_code 176 = .ok (.iconst 1, 1) := by decide +kernel
theorem d_Oper_cannotBe_177 : decode prog_5_method_3_code 177 = .ok (.goto 4, 3) := by decide +kernel
theorem d_Oper_cannotBe_180 : decode prog_5_method_3_code 180 = .ok (.iconst 0, 1) := by decide +kernel
theorem d_Oper_cannotBe_181 : decode prog_5_method_3_code 181 = .ok (.ireturn, 1) := by decide +kernel
theorem d_Oper_cannotBe_182 : decode prog_5_method_3_code 182 = .ok (.aload_n 2, 1) := by decide +kernel
theorem d_Oper_cannotBe_183 : decode prog_5_method_3_code 183 = .ok (.getfield 55, 3) := by decide +kernel
theorem d_Oper_cannotBe_186 : decode prog_5_method_3_code 186 = .ok (.ifCond .eq 10, 3) := by decide +kernel
theorem d_Oper_cannotBe_189 : decode prog_5_method_3_code 189 = .ok (.aload_n 2, 1) := by decide +kernel
theorem d_Oper_cannotBe_190 : decode prog_5_method_3_code 190 = .ok (.invokevirtual 42, 3) := by decide +kernel
theorem d_Oper_cannotBe_193 : decode prog_5_method_3_code 193 = .ok (.ifCond .eq 27, 3) := by decide +kernel
theorem d_Oper_cannotBe_196 : decode prog_5_method_3_code 196 = .ok (.aload_n 2, 1) := by decide +kernel
theorem d_Oper_cannotBe_197 : decode prog_5_method_3_code 197 = .ok (.invokevirtual 81, 3) := by decide +kernel
theorem d_Oper_cannotBe_200 : decode prog_5_method_3_code 200 = .ok (.ifCond .ne 20, 3) := by decide +kernel
theorem d_Oper_cannotBe_203 : decode prog_5_method_3_code 203 = .ok (.aload_n 2, 1) := by decide +kernel
theorem d_Oper_cannotBe_204 : decode prog_5_method_3_code 204 = .ok (.invokevirtual 48, 3) := by decide +kernel
theorem d_Oper_cannotBe_207 : decode prog_5_method_3_code 207 = .ok (.ifCond .eq 17, 3) := by decide +kernel
theorem d_Oper_cannotBe_210 : decode prog_5_method_3_code 210 = .ok (.aload_n 0, 1) := by decide +kernel
theorem d_Oper_cannotBe_211 : decode prog_5_method_3_code 211 = .ok (.getfield 19, 3) := by decide +kernel
theorem d_Oper_cannotBe_214 : decode prog_5_method_3_code 214 = .ok (.invokevirtual 78, 3) := by decide +kernel
theorem d_Oper_cannotBe_217 : decode prog_5_method_3_code 217 = .ok (.ifCond .eq 7, 3) := by decide +kernel
theorem d_Oper_cannotBe_220 : decode prog_5_method_3_code 220 = .ok (.iconst 1, 1) := by decide +kernel
theorem d_Oper_cannotBe_221 : decode prog_5_method_3_code 221 = .ok (.goto 4, 3) := by decide +kernel
theorem d_Oper_cannotBe_224 : decode prog_5_method_3_code 224 = .ok (.iconst 0, 1) := by decide +kernel
theorem d_Oper_cannotBe_225 : decode prog_5_method_3_code 225 = .ok (.ireturn, 1) := by decide +kernel
theorem d_Oper_answerInfinite_0 : decode prog_5_method_4_code 0 = .ok (.iload_n 1, 1) := by decide +kernel
theorem d_Oper_answerInfinite_1 : decode prog_5_method_4_code 1 = .ok (.ifCond .eq 8, 3) := by decide +kernel
theorem d_Oper_answerInfinite_4 : decode prog_5_method_4_code 4 = .ok (.iload_n 1, 1) := by decide +kernel
theorem d_Oper_answerInfinite_5 : decode prog_5_method_4_code 5 = .ok (.iconst 1, 1) := by decide +kernel
theorem d_Oper_answerInfinite_6 : decode prog_5_method_4_code 6 = .ok (.if_icmp .ne 47, 3) := by decide +kernel
theorem d_Oper_answerInfinite_9 : decode prog_5_method_4_code 9 = .ok (.aload 4, 2) := by decide +kernel
theorem d_Oper_answerInfinite_11 : decode prog_5_method_4_code 11 = .ok (.aload_n 2, 1) := by decide +kernel
theorem d_Oper_answerInfinite_12 : decode prog_5_method_4_code 12 = .ok (.invokevirtual 48, 3) := by decide +kernel
theorem d_Oper_answerInfinite_15 : decode prog_5_method_4_code 15 = .ok (.ifCond .eq 10, 3) := by decide +kernel
theorem d_Oper_answerInfinite_18 : decode prog_5_method_4_code 18 = .ok (.aload_n 2, 1) := by decide +kernel
theorem d_Oper_answerInfinite_19 : decode prog_5_method_4_code 19 = .ok (.getfield 55, 3) := by decide +kernel
theorem d_Oper_answerInfinite_22 : decode prog_5_method_4_code 22 = .ok (.goto 25, 3) := by decide +kernel
theorem d_Oper_answerInfinite_25 : decode prog_5_method_4_code 25 = .ok (.aload_n 3, 1) := by decide +kernel
theorem d_Oper_answerInfinite_26 : decode prog_5_method_4_code 26 = .ok (.getfield 55, 3) := by decide +kernel
theorem d_Oper_answerInfinite_29 : decode prog_5_method_4_code 29 = .ok (.iload_n 1, 1) := by decide +kernel
theorem d_Oper_answerInfinite_30 : decode prog_5_method_4_code 30 = .ok (.iconst 1, 1) := by decide +kernel
theorem d_Oper_answerInfinite_31 : decode prog_5_method_4_code 31 = .ok (.if_icmp .ne 7, 3) := by decide +kernel
theorem d_Oper_answerInfinite_34 : decode prog_5_method_4_code 34 = .ok (.iconst 1, 1) := by decide +kernel
theorem d_Oper_answerInfinite_35 : decode prog_5_method_4_code 35 = .ok (.goto 4, 3) := by decide +kernel
theorem d_Oper_answerInfinite_38 : decode prog_5_method_4_code 38 = .ok (.iconst 0, 1) := by decide +kernel
theorem d_Oper_answerInfinite_39 : decode prog_5_method_4_code 39 = .ok (.if_icmp .eq 7, 3) := by decide +kernel
theorem d_Oper_answerInfinite_42 : decode prog_5_method_4_code 42 = .ok (.iconst 1, 1) := by decide +kernel
theorem d_Oper_answerInfinite_43 : decode prog_5_method_4_code 43 = .ok (.goto 4, 3) := by decide +kernel
theorem d_Oper_answerInfinite_46 : decode prog_5_method_4_code 46 = .ok (.iconst 0, 1) := by decide +kernel
theorem d_Oper_answerInfinite_47 : decode prog_5_method_4_code 47 = .ok (.invokevirtual 59, 3) := by decide +kernel
theorem d_Oper_answerInfinite_50 : decode prog_5_method_4_code 50 = .ok (.goto 60, 3) := by decide +kernel
theorem d_Oper_answerInfinite_53 : decode prog_5_method_4_code 53 = .ok (.iload_n 1, 1) := by decide +kernel
theorem d_Oper_answerInfinite_54 : decode prog_5_method_4_code 54 = .ok (.iconst 3, 1) := by decide +kernel
theorem d_Oper_answerInfinite_55 : decode prog_5_method_4_code 55 = .ok (.if_icmp .ne 34, 3) := by decide +kernel
theorem d_Oper_answerInfinite_58 : decode prog_5_method_4_code 58 = .ok (.aload_n 2, 1) := by decide +kernel
theorem d_Oper_answerInfinite_59 : decode prog_5_method_4_code 59 = .ok (.invokevirtual 48, 3) := by decide +kernel
theorem d_Oper_answerInfinite_62 : decode prog_5_method_4_code 62 = .ok (.ifCond .ne 27, 3) := by decide +kernel
theorem d_Oper_answerInfinite_65 : decode prog_5_method_4_code 65 = .ok (.aload 4, 2) := by decide +kernel
theorem d_Oper_answerInfinite_67 : decode prog_5_method_4_code 67 = .ok (.aload_n 2, 1) := by decide +kernel
theorem d_Oper_answerInfinite_68 : decode prog_5_method_4_code 68 = .ok (.getfield 55, 3) := by decide +kernel
theorem d_Oper_answerInfinite_71 : decode prog_5_method_4_code 71 = .ok (.aload_n 3, 1) := by decide +kernel
theorem d_Oper_answerInfinite_72 : decode prog_5_method_4_code 72 = .ok (.getfield 55, 3) := by decide +kernel
theorem d_Oper_answerInfinite_75 : decode prog_5_method_4_code 75 = .ok (.if_icmp .eq 7, 3) := by decide +kernel
theorem d_Oper_answerInfinite_78 : decode prog_5_method_4_code 78 = .ok (.iconst 1, 1) := by decide +kernel
theorem d_Oper_answerInfinite_79 : decode prog_5_method_4_code 79 = .ok (.goto 4, 3) := by decide +kernel
theorem d_Oper_answerInfinite_82 : decode prog_5_method_4_code 82 = .ok (.iconst 0, 1) := by decide +kernel
theorem d_Oper_answerInfinite_83 : decode prog_5_method_4_code 83 = .ok (.invokevirtual 84, 3) := by decide +kernel
theorem d_Oper_answerInfinite_86 : decode prog_5_method_4_code 86 = .ok (.goto 24, 3) := by decide +kernel
theorem d_Oper_answerInfinite_89 : decode prog_5_method_4_code 89 = .ok (.aload 4, 2) := by decide +kernel
theorem d_Oper_answerInfinite_91 : decode prog_5_method_4_code 91 = .ok (.aload_n 2, 1) := by decide +kernel
theorem d_Oper_answerInfinite_92 : decode prog_5_method_4_code 92 = .ok (.getfield 55, 3) := by decide +kernel
theorem d_Oper_answerInfinite_95 : decode prog_5_method_4_code 95 = .ok (.aload_n 3, 1) := by decide +kernel
theorem d_Oper_answerInfinite_96 : decode prog_5_method_4_code 96 = .ok (.getfield 55, 3) := by decide +kernel
theorem d_Oper_answerInfinite_99 : decode prog_5_method_4_code 99 = .ok (.if_icmp .eq 7, 3) := by decide +kernel
theorem d_Oper_answerInfinite_102 : decode prog_5_method_4_code 102 = .ok (.iconst 1, 1) := by decide +kernel
theorem d_Oper_answerInfinite_103 : decode prog_5_method_4_code 103 = .ok (.goto 4, 3) := by decide +kernel
theorem d_Oper_answerInfinite_106 : decode prog_5_method_4_code 106 = .ok (.iconst 0, 1) := by decide +kernel
theorem d_Oper_answerInfinite_107 : decode prog_5_method_4_code 107 = .ok (.invokevirtual 59, 3) := by decide +kernel
theorem d_Oper_answerInfinite_110 : decode prog_5_method_4_code 110 = .ok (.return_, 1) := by decide +kernel
theorem d_Oper_addWithSigns_0 : decode prog_5_method_6_code 0 = .ok (.aload_n 0, 1) := by decide +kernel
theorem d_Oper_addWithSigns_1 : decode prog_5_method_6_code 1 = .ok (.getfield 10, 3) := by decide +kernel
theorem d_Oper_addWithSigns_4 : decode prog_5_method_6_code 4 = .ok (.aload_n 0, 1) := by decide +kernel
theorem d_Oper_addWithSigns_5 : decode prog_5_method_6_code 5 = .ok (.getfield 16, 3) := by decide +kernel
theorem d_Oper_addWithSigns_8 : decode prog_5_method_6_code 8 = .ok (.invokevirtual 105, 3) := by decide +kernel
theorem d_Oper_addWithSigns_11 : decode prog_5_method_6_code 11 = .ok (.istore_n 3, 1) := by decide +kernel
theorem d_Oper_addWithSigns_12 : decode prog_5_method_6_code 12 = .ok (.iload_n 3, 1) := by decide +kernel
theorem d_Oper_addWithSigns_13 : decode prog_5_method_6_code 13 = .ok (.ifCond .ge 14, 3) := by decide +kernel
theorem d_Oper_addWithSigns_16 : decode prog_5_method_6_code 16 = .ok (.aload_n 0, 1) := by decide +kernel
theorem d_Oper_addWithSigns_17 : decode prog_5_method_6_code 17 = .ok (.getfield 10, 3) := by decide +kernel
theorem d_Oper_addWithSigns_20 : decode prog_5_method_6_code 20 = .ok (.aload_n 0, 1) := by decide +kernel
theorem d_Oper_addWithSigns_21 : decode prog_5_method_6_code 21 = .ok (.getfield 16, 3) := by decide +kernel
theorem d_Oper_addWithSigns_24 : decode prog_5_method_6_code 24 = .ok (.invokevirtual 109, 3) := by decide +kernel
theorem d_Oper_addWithSigns_27 : decode prog_5_method_6_code 27 = .ok (.iload_n 1, 1) := by decide +kernel
theorem d_Oper_addWithSigns_28 : decode prog_5_method_6_code 28 = .ok (.iload_n 2, 1) := by decide +kernel
theorem d_Oper_addWithSigns_29 : decode prog_5_method_6_code 29 = .ok (.if_icmp .ne 16, 3) := by decide +kernel
theorem d_Oper_addWithSigns_32 : decode prog_5_method_6_code 32 = .ok (.aload_n 0, 1) := by decide +kernel
theorem d_Oper_addWithSigns_33 : decode prog_5_method_6_code 33 = .ok (.getfield 10, 3) := by decide +kernel
theorem d_Oper_addWithSigns_36 : decode prog_5_method_6_code 36 = .ok (.aload_n 0, 1) := by decide +kernel
theorem d_Oper_addWithSigns_37 : decode prog_5_method_6_code 37 = .ok (.getfield 16, 3) := by decide +kernel
theorem d_Oper_addWithSigns_40 : decode prog_5_method_6_code 40 = .ok (.invokevirtual 112, 3) := by decide +kernel
theorem d_Oper_addWithSigns_43 : decode prog_5_method_6_code 43 = .ok (.iload_n 1, 1) := by decide +kernel
theorem d_Oper_addWithSigns_44 : decode prog_5_method_6_code 44 = .ok (.ireturn, 1) := by decide +kernel
theorem d_Oper_addWithSigns_45 : decode prog_5_method_6_code 45 = .ok (.aload_n 0, 1) := by decide +kernel
theorem d_Oper_addWithSigns_46 : decode prog_5_method_6_code 46 = .ok (.getfield 10, 3) := by decide +kernel
theorem d_Oper_addWithSigns_49 : decode prog_5_method_6_code 49 = .ok (.aload_n 0, 1) := by decide +kernel
theorem d_Oper_addWithSigns_50 : decode prog_5_method_6_code 50 = .ok (.getfield 16, 3) := by decide +kernel
theorem d_Oper_addWithSigns_53 : decode prog_5_method_6_code 53 = .ok (.invokevirtual 115, 3) := by decide +kernel
theorem d_Oper_addWithSigns_56 : decode prog_5_method_6_code 56 = .ok (.iload_n 3, 1) := by decide +kernel
theorem d_Oper_addWithSigns_57 : decode prog_5_method_6_code 57 = .ok (.ifCond .ne 20, 3) := by decide +kernel
theorem d_Oper_addWithSigns_60 : decode prog_5_method_6_code 60 = .ok (.aload_n 0, 1) := by decide +kernel
theorem d_Oper_addWithSigns_61 : decode prog_5_method_6_code 61 = .ok (.getfield 19, 3) := by decide +kernel
theorem d_Oper_addWithSigns_64 : decode prog_5_method_6_code 64 = .ok (.invokevirtual 118, 3) := by decide +kernel
theorem d_Oper_addWithSigns_67 : decode prog_5_method_6_code 67 = .ok (.iconst 1, 1) := by decide +kernel
theorem d_Oper_addWithSigns_68 : decode prog_5_method_6_code 68 = .ok (.if_icmp .ne 7, 3) := by decide +kernel
theorem d_Oper_addWithSigns_71 : decode prog_5_method_6_code 71 = .ok (.iconst 1, 1) := by decide +kernel
theorem d_Oper_addWithSigns_72 : decode prog_5_method_6_code 72 = .ok (.goto 4, 3) := by decide +kernel
theorem d_Oper_addWithSigns_75 : decode prog_5_method_6_code 75 = .ok (.iconst 0, 1) := by decide +kernel
theorem d_Oper_addWithSigns_76 : decode prog_5_method_6_code 76 = .ok (.ireturn, 1) := by decide +kernel
theorem d_Oper_addWithSigns_77 : decode prog_5_method_6_code 77 = .ok (.iload_n 3, 1) := by decide +kernel
theorem d_Oper_addWithSigns_78 : decode prog_5_method_6_code 78 = .ok (.ifCond .le 7, 3) := by decide +kernel
theorem d_Oper_addWithSigns_81 : decode prog_5_method_6_code 81 = .ok (.iload_n 1, 1) := by decide +kernel
theorem d_Oper_addWithSigns_82 : decode prog_5_method_6_code 82 = .ok (.goto 4, 3) := by decide +kernel
theorem d_Oper_addWithSigns_85 : decode prog_5_method_6_code 85 = .ok (.iload_n 2, 1) := by decide +kernel
theorem d_Oper_addWithSigns_86 : decode prog_5_method_6_code 86 = .ok (.ireturn, 1) := by decide +kernel
theorem d_Oper_findSize_0 : decode prog_5_method_5_code 0 = .ok (.aload_n 0, 1) := by decide +kernel
theorem d_Oper_findSize_1 : decode prog_5_method_5_code 1 = .ok (.getfield 10, 3) := by decide +kernel
theorem d_Oper_findSize_4 : decode prog_5_method_5_code 4 = .ok (.aload_n 2, 1) := by decide +kernel
theorem d_Oper_findSize_5 : decode prog_5_method_5_code 5 = .ok (.invokevirtual 87, 3) := by decide +kernel
theorem d_Oper_findSize_8 : decode prog_5_method_5_code 8 = .ok (.aload_n 0, 1) := by decide +kernel
theorem d_Oper_findSize_9 : decode prog_5_method_5_code 9 = .ok (.getfield 16, 3) := by decide +kernel
theorem d_Oper_findSize_12 : decode prog_5_method_5_code 12 = .ok (.aload_n 3, 1) := by decide +kernel
theorem d_Oper_findSize_13 : decode prog_5_method_5_code 13 = .ok (.invokevirtual 87, 3) := by decide +kernel
theorem d_Oper_findSize_16 : decode prog_5_method_5_code 16 = .ok (.iload_n 1, 1) := by decide +kernel
theorem d_Oper_findSize_17 : decode prog_5_method_5_code 17 = .ok (.tableswitch 121 0 3 #[31, 44, 65, 93], 31) := by decide +kernel
theorem d_Oper_findSize_48 : decode prog_5_method_5_code 48 = .ok (.aload_n 0, 1) := by decide +kernel
theorem d_Oper_findSize_49 : decode prog_5_method_5_code 49 = .ok (.aload_n 2, 1) := by decide +kernel
theorem d_Oper_findSize_50 : decode prog_5_method_5_code 50 = .ok (.getfield 55, 3) := by decide +kernel
theorem d_Oper_findSize_53 : decode prog_5_method_5_code 53 = .ok (.aload_n 3, 1) := by decide +kernel
theorem d_Oper_findSize_54 : decode prog_5_method_5_code 54 = .ok (.getfield 55, 3) := by decide +kernel
theorem d_Oper_findSize_57 : decode prog_5_method_5_code 57 = .ok (.invokevirtual 91, 3) := by decide +kernel
theorem d_Oper_findSize_60 : decode prog_5_method_5_code 60 = .ok (.ireturn, 1) := by decide +kernel
theorem d_Oper_findSize_61 : decode prog_5_method_5_code 61 = .ok (.aload_n 0, 1) := by decide +kernel
theorem d_Oper_findSize_62 : decode prog_5_method_5_code 62 = .ok (.aload_n 2, 1) := by decide +kernel
theorem d_Oper_findSize_63 : decode prog_5_method_5_code 63 = .ok (.getfield 55, 3) := by decide +kernel
theorem d_Oper_findSize_66 : decode prog_5_method_5_code 66 = .ok (.aload_n 3, 1) := by decide +kernel
theorem d_Oper_findSize_67 : decode prog_5_method_5_code 67 = .ok (.getfield 55, 3) := by decide +kernel
theorem d_Oper_findSize_70 : decode prog_5_method_5_code 70 = .ok (.ifCond .ne 7, 3) := by decide +kernel
theorem d_Oper_findSize_73 : decode prog_5_method_5_code 73 = .ok (.iconst 1, 1) := by decide +kernel
theorem d_Oper_findSize_74 : decode prog_5_method_5_code 74 = .ok (.goto 4, 3) := by decide +kernel
theorem d_Oper_findSize_77 : decode prog_5_method_5_code 77 = .ok (.iconst 0, 1) := by decide +kernel
theorem d_Oper_findSize_78 : decode prog_5_method_5_code 78 = .ok (.invokevirtual 91, 3) := by decide +kernel
theorem d_Oper_findSize_81 : decode prog_5_method_5_code 81 = .ok (.ireturn, 1) := by decide +kernel
theorem d_Oper_findSize_82 : decode prog_5_method_5_code 82 = .ok (.aload_n 0, 1) := by decide +kernel
theorem d_Oper_findSize_83 : decode prog_5_method_5_code 83 = .ok (.getfield 10, 3) := by decide +kernel
theorem d_Oper_findSize_86 : decode prog_5_method_5_code 86 = .ok (.aload_n 0, 1) := by decide +kernel
theorem d_Oper_findSize_87 : decode prog_5_method_5_code 87 = .ok (.getfield 16, 3) := by decide +kernel
theorem d_Oper_findSize_90 : decode prog_5_method_5_code 90 = .ok (.invokevirtual 95, 3) := by decide +kernel
theorem d_Oper_findSize_93 : decode prog_5_method_5_code 93 = .ok (.aload_n 2, 1) := by decide +kernel
theorem d_Oper_findSize_94 : decode prog_5_method_5_code 94 = .ok (.getfield 55, 3) := by decide +kernel
theorem d_Oper_findSize_97 : decode prog_5_method_5_code 97 = .ok (.aload_n 3, 1) := by decide +kernel
theorem d_Oper_findSize_98 : decode prog_5_method_5_code 98 = .ok (.getfield 55, 3) := by decide +kernel
theorem d_Oper_findSize_101 : decode prog_5_method_5_code 101 = .ok (.if_icmp .eq 7, 3) := by decide +kernel
theorem d_Oper_findSize_104 : decode prog_5_method_5_code 104 = .ok (.iconst 1, 1) := by decide +kernel
theorem d_Oper_findSize_105 : decode prog_5_method_5_code 105 = .ok (.goto 4, 3) := by decide +kernel
theorem d_Oper_findSize_108 : decode prog_5_method_5_code 108 = .ok (.iconst 0, 1) := by decide +kernel
theorem d_Oper_findSize_109 : decode prog_5_method_5_code 109 = .ok (.ireturn, 1) := by decide +kernel
theorem d_Oper_findSize_110 : decode prog_5_method_5_code 110 = .ok (.aload_n 0, 1) := by decide +kernel
theorem d_Oper_findSize_111 : decode prog_5_method_5_code 111 = .ok (.getfield 10, 3) := by decide +kernel
theorem d_Oper_findSize_114 : decode prog_5_method_5_code 114 = .ok (.aload_n 0, 1) := by decide +kernel
theorem d_Oper_findSize_115 : decode prog_5_method_5_code 115 = .ok (.getfield 16, 3) := by decide +kernel
theorem d_Oper_findSize_118 : decode prog_5_method_5_code 118 = .ok (.invokevirtual 99, 3) := by decide +kernel
theorem d_Oper_findSize_121 : decode prog_5_method_5_code 121 = .ok (.aload_n 2, 1) := by decide +kernel
theorem d_Oper_findSize_122 : decode prog_5_method_5_code 122 = .ok (.getfield 55, 3) := by decide +kernel
theorem d_Oper_findSize_125 : decode prog_5_method_5_code 125 = .ok (.aload_n 3, 1) := by decide +kernel
theorem d_Oper_findSize_126 : decode prog_5_method_5_code 126 = .ok (.getfield 55, 3) := by decide +kernel
theorem d_Oper_findSize_129 : decode prog_5_method_5_code 129 = .ok (.if_icmp .eq 7, 3) := by decide +kernel
theorem d_Oper_findSize_132 : decode prog_5_method_5_code 132 = .ok (.iconst 1, 1) := by decide +kernel
theorem d_Oper_findSize_133 : decode prog_5_method_5_code 133 = .ok (.goto 4, 3) := by decide +kernel
theorem d_Oper_findSize_136 : decode prog_5_method_5_code 136 = .ok (.iconst 0, 1) := by decide +kernel
theorem d_Oper_findSize_137 : decode prog_5_method_5_code 137 = .ok (.ireturn, 1) := by decide +kernel
theorem d_Oper_findSize_138 : decode prog_5_method_5_code 138 = .ok (.aload_n 0, 1) := by decide +kernel
theorem d_Oper_findSize_139 : decode prog_5_method_5_code 139 = .ok (.getfield 10, 3) := by decide +kernel
theorem d_Oper_findSize_142 : decode prog_5_method_5_code 142 = .ok (.invokevirtual 102, 3) := by decide +kernel
theorem d_Oper_findSize_145 : decode prog_5_method_5_code 145 = .ok (.aload_n 2, 1) := by decide +kernel
theorem d_Oper_findSize_146 : decode prog_5_method_5_code 146 = .ok (.getfield 55, 3) := by decide +kernel
theorem d_Oper_findSize_149 : decode prog_5_method_5_code 149 = .ok (.ireturn, 1) := by decide +kernel
theorem d_Oper_operate_0 : decode prog_5_method_2_code 0 = .ok (.aload_n 0, 1) := by decide +kernel
theorem d_Oper_operate_1 : decode prog_5_method_2_code 1 = .ok (.getfield 19, 3) := by decide +kernel
theorem d_Oper_operate_4 : decode prog_5_method_2_code 4 = .ok (.aload_n 2, 1) := by decide +kernel
theorem d_Oper_operate_5 : decode prog_5_method_2_code 5 = .ok (.aload_n 3, 1) := by decide +kernel
theorem d_Oper_operate_6 : decode prog_5_method_2_code 6 = .ok (.aload_n 0, 1) := by decide +kernel
theorem d_Oper_operate_7 : decode prog_5_method_2_code 7 = .ok (.iload_n 1, 1) := by decide +kernel
theorem d_Oper_operate_8 : decode prog_5_method_2_code 8 = .ok (.aload_n 2, 1) := by decide +kernel
theorem d_Oper_operate_9 : decode prog_5_method_2_code 9 = .ok (.aload_n 3, 1) := by decide +kernel
theorem d_Oper_operate_10 : decode prog_5_method_2_code 10 = .ok (.invokevirtual 32, 3) := by decide +kernel
theorem d_Oper_operate_13 : decode prog_5_method_2_code 13 = .ok (.aload 4, 2) := by decide +kernel
theorem d_Oper_operate_15 : decode prog_5_method_2_code 15 = .ok (.invokevirtual 36, 3) := by decide +kernel
theorem d_Oper_operate_18 : decode prog_5_method_2_code 18 = .ok (.ifCond .eq 4, 3) := by decide +kernel
theorem d_Oper_operate_21 : decode prog_5_method_2_code 21 = .ok (.return_, 1) := by decide +kernel
theorem d_Oper_operate_22 : decode prog_5_method_2_code 22 = .ok (.iload_n 1, 1) := by decide +kernel
theorem d_Oper_operate_23 : decode prog_5_method_2_code 23 = .ok (.iconst 3, 1) := by decide +kernel
theorem d_Oper_operate_24 : decode prog_5_method_2_code 24 = .ok (.if_icmp .ne 49, 3) := by decide +kernel
theorem d_Oper_operate_27 : decode prog_5_method_2_code 27 = .ok (.aload_n 3, 1) := by decide +kernel
theorem d_Oper_operate_28 : decode prog_5_method_2_code 28 = .ok (.invokevirtual 42, 3) := by decide +kernel
theorem d_Oper_operate_31 : decode prog_5_method_2_code 31 = .ok (.ifCond .eq 42, 3) := by decide +kernel
theorem d_Oper_operate_34 : decode prog_5_method_2_code 34 = .ok (.aload_n 2, 1) := by decide +kernel
theorem d_Oper_operate_35 : decode prog_5_method_2_code 35 = .ok (.invokevirtual 48, 3) := by decide +kernel
theorem d_Oper_operate_38 : decode prog_5_method_2_code 38 = .ok (.ifCond .ne 35, 3) := by decide +kernel
theorem d_Oper_operate_41 : decode prog_5_method_2_code 41 = .ok (.aload_n 0, 1) := by decide +kernel
theorem d_Oper_operate_42 : decode prog_5_method_2_code 42 = .ok (.getfield 19, 3) := by decide +kernel
theorem d_Oper_operate_45 : decode prog_5_method_2_code 45 = .ok (.iconst 4, 1) := by decide +kernel
theorem d_Oper_operate_46 : decode prog_5_method_2_code 46 = .ok (.invokevirtual 51, 3) := by decide +kernel
theorem d_Oper_operate_49 : decode prog_5_method_2_code 49 = .ok (.aload 4, 2) := by decide +kernel
theorem d_Oper_operate_51 : decode prog_5_method_2_code 51 = .ok (.aload_n 2, 1) := by decide +kernel
theorem d_Oper_operate_52 : decode prog_5_method_2_code 52 = .ok (.getfield 55, 3) := by decide +kernel
theorem d_Oper_operate_55 : decode prog_5_method_2_code 55 = .ok (.aload_n 3, 1) := by decide +kernel
theorem d_Oper_operate_56 : decode prog_5_method_2_code 56 = .ok (.getfield 55, 3) := by decide +kernel
theorem d_Oper_operate_59 : decode prog_5_method_2_code 59 = .ok (.if_icmp .eq 7, 3) := by decide +kernel
theorem d_Oper_operate_62 : decode prog_5_method_2_code 62 = .ok (.iconst 1, 1) := by decide +kernel
theorem d_Oper_operate_63 : decode prog_5_method_2_code 63 = .ok (.goto 4, 3) := by decide +kernel
theorem d_Oper_operate_66 : decode prog_5_method_2_code 66 = .ok (.iconst 0, 1) := by decide +kernel
theorem d_Oper_operate_67 : decode prog_5_method_2_code 67 = .ok (.invokevirtual 59, 3) := by decide +kernel
theorem d_Oper_operate_70 : decode prog_5_method_2_code 70 = .ok (.goto 60, 3) := by decide +kernel
theorem d_Oper_operate_73 : decode prog_5_method_2_code 73 = .ok (.aload_n 2, 1) := by decide +kernel
theorem d_Oper_operate_74 : decode prog_5_method_2_code 74 = .ok (.invokevirtual 48, 3) := by decide +kernel
theorem d_Oper_operate_77 : decode prog_5_method_2_code 77 = .ok (.ifCond .ne 10, 3) := by decide +kernel
theorem d_Oper_operate_80 : decode prog_5_method_2_code 80 = .ok (.aload_n 3, 1) := by decide +kernel
theorem d_Oper_operate_81 : decode prog_5_method_2_code 81 = .ok (.invokevirtual 48, 3) := by decide +kernel
theorem d_Oper_operate_84 : decode prog_5_method_2_code 84 = .ok (.ifCond .eq 15, 3) := by decide +kernel
theorem d_Oper_operate_87 : decode prog_5_method_2_code 87 = .ok (.aload_n 0, 1) := by decide +kernel
theorem d_Oper_operate_88 : decode prog_5_method_2_code 88 = .ok (.iload_n 1, 1) := by decide +kernel
theorem d_Oper_operate_89 : decode prog_5_method_2_code 89 = .ok (.aload_n 2, 1) := by decide +kernel
theorem d_Oper_operate_90 : decode prog_5_method_2_code 90 = .ok (.aload_n 3, 1) := by decide +kernel
theorem d_Oper_operate_91 : decode prog_5_method_2_code 91 = .ok (.aload 4, 2) := by decide +kernel
theorem d_Oper_operate_93 : decode prog_5_method_2_code 93 = .ok (.invokevirtual 63, 3) := by decide +kernel
theorem d_Oper_operate_96 : decode prog_5_method_2_code 96 = .ok (.goto 34, 3) := by decide +kernel
theorem d_Oper_operate_99 : decode prog_5_method_2_code 99 = .ok (.aload_n 0, 1) := by decide +kernel
theorem d_Oper_operate_100 : decode prog_5_method_2_code 100 = .ok (.iload_n 1, 1) := by decide +kernel
theorem d_Oper_operate_101 : decode prog_5_method_2_code 101 = .ok (.aload_n 2, 1) := by decide +kernel
theorem d_Oper_operate_102 : decode prog_5_method_2_code 102 = .ok (.aload_n 3, 1) := by decide +kernel
theorem d_Oper_operate_103 : decode prog_5_method_2_code 103 = .ok (.invokevirtual 67, 3) := by decide +kernel
theorem d_Oper_operate_106 : decode prog_5_method_2_code 106 = .ok (.istore 5, 2) := by decide +kernel
theorem d_Oper_operate_108 : decode prog_5_method_2_code 108 = .ok (.aload_n 0, 1) := by decide +kernel
theorem d_Oper_operate_109 : decode prog_5_method_2_code 109 = .ok (.getfield 28, 3) := by decide +kernel
theorem d_Oper_operate_112 : decode prog_5_method_2_code 112 = .ok (.aload_n 0, 1) := by decide +kernel
theorem d_Oper_operate_113 : decode prog_5_method_2_code 113 = .ok (.getfield 10, 3) := by decide +kernel
theorem d_Oper_operate_116 : decode prog_5_method_2_code 116 = .ok (.iload 5, 2) := by decide +kernel
theorem d_Oper_operate_118 : decode prog_5_method_2_code 118 = .ok (.aload_n 0, 1) := by decide +kernel
theorem d_Oper_operate_119 : decode prog_5_method_2_code 119 = .ok (.getfield 19, 3) := by decide +kernel
theorem d_Oper_operate_122 : decode prog_5_method_2_code 122 = .ok (.invokevirtual 70, 3) := by decide +kernel
theorem d_Oper_operate_125 : decode prog_5_method_2_code 125 = .ok (.aload 4, 2) := by decide +kernel
theorem d_Oper_operate_127 : decode prog_5_method_2_code 127 = .ok (.invokevirtual 74, 3) := by decide +kernel
theorem d_Oper_operate_130 : decode prog_5_method_2_code 130 = .ok (.return_, 1) := by decide +kernel
