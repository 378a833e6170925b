theorem d_Steps_sign_0 : decode prog_9_method_7_code 0 = .ok (.aload_n 0, 1) := by decide +kernel
theorem d_Steps_sign_1 : decode prog_9_method_7_code 1 = .ok (.invokevirtual 96, 3) := by decide +kernel
theorem d_Steps_sign_4 : decode prog_9_method_7_code 4 = .ok (.ifCond .eq 5, 3) := by decide +kernel
theorem d_Steps_sign_7 : decode prog_9_method_7_code 7 = .ok (.iconst 0, 1) := by decide +kernel
theorem d_Steps_sign_8 : decode prog_9_method_7_code 8 = .ok (.ireturn, 1) := by decide +kernel
theorem d_Steps_sign_9 : decode prog_9_method_7_code 9 = .ok (.aload_n 0, 1) := by decide +kernel
theorem d_Steps_sign_10 : decode prog_9_method_7_code 10 = .ok (.getfield 59, 3) := by decide +kernel
theorem d_Steps_sign_13 : decode prog_9_method_7_code 13 = .ok (.ifCond .eq 7, 3) := by decide +kernel
theorem d_Steps_sign_16 : decode prog_9_method_7_code 16 = .ok (.iconst (-1), 1) := by decide +kernel
theorem d_Steps_sign_17 : decode prog_9_method_7_code 17 = .ok (.goto 4, 3) := by decide +kernel
theorem d_Steps_sign_20 : decode prog_9_method_7_code 20 = .ok (.iconst 1, 1) := by decide +kernel
theorem d_Steps_sign_21 : decode prog_9_method_7_code 21 = .ok (.ireturn, 1) := by decide +kernel
theorem d_Steps_compare_0 : decode prog_9_method_6_code 0 = .ok (.aload_n 0, 1) := by decide +kernel
theorem d_Steps_compare_1 : decode prog_9_method_6_code 1 = .ok (.getfield 19, 3) := by decide +kernel
theorem d_Steps_compare_4 : decode prog_9_method_6_code 4 = .ok (.invokevirtual 118, 3) := by decide +kernel
theorem d_Steps_compare_7 : decode prog_9_method_6_code 7 = .ok (.istore 4, 2) := by decide +kernel
theorem d_Steps_compare_9 : decode prog_9_method_6_code 9 = .ok (.aload_n 0, 1) := by decide +kernel
theorem d_Steps_compare_10 : decode prog_9_method_6_code 10 = .ok (.getfield 19, 3) := by decide +kernel
theorem d_Steps_compare_13 : decode prog_9_method_6_code 13 = .ok (.aload_n 1, 1) := by decide +kernel
theorem d_Steps_compare_14 : decode prog_9_method_6_code 14 = .ok (.aload_n 2, 1) := by decide +kernel
theorem d_Steps_compare_15 : decode prog_9_method_6_code 15 = .ok (.iload 4, 2) := by decide +kernel
theorem d_Steps_compare_17 : decode prog_9_method_6_code 17 = .ok (.ifCond .eq 18, 3) := by decide +kernel
theorem d_Steps_compare_20 : decode prog_9_method_6_code 20 = .ok (.aload_n 1, 1) := by decide +kernel
theorem d_Steps_compare_21 : decode prog_9_method_6_code 21 = .ok (.invokevirtual 38, 3) := by decide +kernel
theorem d_Steps_compare_24 : decode prog_9_method_6_code 24 = .ok (.aload_n 2, 1) := by decide +kernel
theorem d_Steps_compare_25 : decode prog_9_method_6_code 25 = .ok (.invokevirtual 38, 3) := by decide +kernel
theorem d_Steps_compare_28 : decode prog_9_method_6_code 28 = .ok (.if_icmp .eq 7, 3) := by decide +kernel
theorem d_Steps_compare_31 : decode prog_9_method_6_code 31 = .ok (.iconst 1, 1) := by decide +kernel
theorem d_Steps_compare_32 : decode prog_9_method_6_code 32 = .ok (.goto 4, 3) := by decide +kernel
theorem d_Steps_compare_35 : decode prog_9_method_6_code 35 = .ok (.iconst 0, 1) := by decide +kernel
theorem d_Steps_compare_36 : decode prog_9_method_6_code 36 = .ok (.aload_n 3, 1) := by decide +kernel
theorem d_Steps_compare_37 : decode prog_9_method_6_code 37 = .ok (.invokevirtual 32, 3) := by decide +kernel
theorem d_Steps_compare_40 : decode prog_9_method_6_code 40 = .ok (.ifCond .eq 5, 3) := by decide +kernel
theorem d_Steps_compare_43 : decode prog_9_method_6_code 43 = .ok (.iconst 2, 1) := by decide +kernel
theorem d_Steps_compare_44 : decode prog_9_method_6_code 44 = .ok (.ireturn, 1) := by decide +kernel
theorem d_Steps_compare_45 : decode prog_9_method_6_code 45 = .ok (.aload_n 1, 1) := by decide +kernel
theorem d_Steps_compare_46 : decode prog_9_method_6_code 46 = .ok (.invokevirtual 38, 3) := by decide +kernel
theorem d_Steps_compare_49 : decode prog_9_method_6_code 49 = .ok (.ifCond .ne 10, 3) := by decide +kernel
theorem d_Steps_compare_52 : decode prog_9_method_6_code 52 = .ok (.aload_n 2, 1) := by decide +kernel
theorem d_Steps_compare_53 : decode prog_9_method_6_code 53 = .ok (.invokevirtual 38, 3) := by decide +kernel
theorem d_Steps_compare_56 : decode prog_9_method_6_code 56 = .ok (.ifCond .eq 66, 3) := by decide +kernel
theorem d_Steps_compare_59 : decode prog_9_method_6_code 59 = .ok (.aload_n 1, 1) := by decide +kernel
theorem d_Steps_compare_60 : decode prog_9_method_6_code 60 = .ok (.invokevirtual 38, 3) := by decide +kernel
theorem d_Steps_compare_63 : decode prog_9_method_6_code 63 = .ok (.ifCond .eq 10, 3) := by decide +kernel
theorem d_Steps_compare_66 : decode prog_9_method_6_code 66 = .ok (.aload_n 1, 1) := by decide +kernel
theorem d_Steps_compare_67 : decode prog_9_method_6_code 67 = .ok (.invokestatic 121, 3) := by decide +kernel
theorem d_Steps_compare_70 : decode prog_9_method_6_code 70 = .ok (.goto 4, 3) := by decide +kernel
theorem d_Steps_compare_73 : decode prog_9_method_6_code 73 = .ok (.iconst 0, 1) := by decide +kernel
theorem d_Steps_compare_74 : decode prog_9_method_6_code 74 = .ok (.istore 5, 2) := by decide +kernel
theorem d_Steps_compare_76 : decode prog_9_method_6_code 76 = .ok (.aload_n 2, 1) := by decide +kernel
theorem d_Steps_compare_77 : decode prog_9_method_6_code 77 = .ok (.invokevirtual 38, 3) := by decide +kernel
theorem d_Steps_compare_80 : decode prog_9_method_6_code 80 = .ok (.ifCond .eq 10, 3) := by decide +kernel
theorem d_Steps_compare_83 : decode prog_9_method_6_code 83 = .ok (.aload_n 2, 1) := by decide +kernel
theorem d_Steps_compare_84 : decode prog_9_method_6_code 84 = .ok (.invokestatic 121, 3) := by decide +kernel
theorem d_Steps_compare_87 : decode prog_9_method_6_code 87 = .ok (.goto 4, 3) := by decide +kernel
theorem d_Steps_compare_90 : decode prog_9_method_6_code 90 = .ok (.iconst 0, 1) := by decide +kernel
theorem d_Steps_compare_91 : decode prog_9_method_6_code 91 = .ok (.istore 6, 2) := by decide +kernel
theorem d_Steps_compare_93 : decode prog_9_method_6_code 93 = .ok (.iload 4, 2) := by decide +kernel
theorem d_Steps_compare_95 : decode prog_9_method_6_code 95 = .ok (.ifCond .ne 10, 3) := by decide +kernel
theorem d_Steps_compare_98 : decode prog_9_method_6_code 98 = .ok (.iload 5, 2) := by decide +kernel
theorem d_Steps_compare_100 : decode prog_9_method_6_code 100 = .ok (.iload 6, 2) := by decide +kernel
theorem d_Steps_compare_102 : decode prog_9_method_6_code 102 = .ok (.if_icmp .ne 7, 3) := by decide +kernel
theorem d_Steps_compare_105 : decode prog_9_method_6_code 105 = .ok (.iconst 0, 1) := by decide +kernel
theorem d_Steps_compare_106 : decode prog_9_method_6_code 106 = .ok (.goto 15, 3) := by decide +kernel
theorem d_Steps_compare_109 : decode prog_9_method_6_code 109 = .ok (.iload 5, 2) := by decide +kernel
theorem d_Steps_compare_111 : decode prog_9_method_6_code 111 = .ok (.iload 6, 2) := by decide +kernel
theorem d_Steps_compare_113 : decode prog_9_method_6_code 113 = .ok (.if_icmp .ge 7, 3) := by decide +kernel
theorem d_Steps_compare_116 : decode prog_9_method_6_code 116 = .ok (.iconst (-1), 1) := by decide +kernel
theorem d_Steps_compare_117 : decode prog_9_method_6_code 117 = .ok (.goto 4, 3) := by decide +kernel
theorem d_Steps_compare_120 : decode prog_9_method_6_code 120 = .ok (.iconst 1, 1) := by decide +kernel
theorem d_Steps_compare_121 : decode prog_9_method_6_code 121 = .ok (.ireturn, 1) := by decide +kernel
theorem d_Steps_compare_122 : decode prog_9_method_6_code 122 = .ok (.aload_n 1, 1) := by decide +kernel
theorem d_Steps_compare_123 : decode prog_9_method_6_code 123 = .ok (.invokestatic 121, 3) := by decide +kernel
theorem d_Steps_compare_126 : decode prog_9_method_6_code 126 = .ok (.istore 5, 2) := by decide +kernel
theorem d_Steps_compare_128 : decode prog_9_method_6_code 128 = .ok (.aload_n 2, 1) := by decide +kernel
theorem d_Steps_compare_129 : decode prog_9_method_6_code 129 = .ok (.invokestatic 121, 3) := by decide +kernel
theorem d_Steps_compare_132 : decode prog_9_method_6_code 132 = .ok (.istore 6, 2) := by decide +kernel
theorem d_Steps_compare_134 : decode prog_9_method_6_code 134 = .ok (.iload 5, 2) := by decide +kernel
theorem d_Steps_compare_136 : decode prog_9_method_6_code 136 = .ok (.iload 6, 2) := by decide +kernel
theorem d_Steps_compare_138 : decode prog_9_method_6_code 138 = .ok (.if_icmp .eq 16, 3) := by decide +kernel
theorem d_Steps_compare_141 : decode prog_9_method_6_code 141 = .ok (.iload 5, 2) := by decide +kernel
theorem d_Steps_compare_143 : decode prog_9_method_6_code 143 = .ok (.iload 6, 2) := by decide +kernel
theorem d_Steps_compare_145 : decode prog_9_method_6_code 145 = .ok (.if_icmp .ge 7, 3) := by decide +kernel
theorem d_Steps_compare_148 : decode prog_9_method_6_code 148 = .ok (.iconst (-1), 1) := by decide +kernel
theorem d_Steps_compare_149 : decode prog_9_method_6_code 149 = .ok (.goto 4, 3) := by decide +kernel
theorem d_Steps_compare_152 : decode prog_9_method_6_code 152 = .ok (.iconst 1, 1) := by decide +kernel
theorem d_Steps_compare_153 : decode prog_9_method_6_code 153 = .ok (.ireturn, 1) := by decide +kernel
theorem d_Steps_compare_154 : decode prog_9_method_6_code 154 = .ok (.aload_n 0, 1) := by decide +kernel
theorem d_Steps_compare_155 : decode prog_9_method_6_code 155 = .ok (.getfield 10, 3) := by decide +kernel
theorem d_Steps_compare_158 : decode prog_9_method_6_code 158 = .ok (.aload_n 1, 1) := by decide +kernel
theorem d_Steps_compare_159 : decode prog_9_method_6_code 159 = .ok (.invokevirtual 48, 3) := by decide +kernel
theorem d_Steps_compare_162 : decode prog_9_method_6_code 162 = .ok (.aload_n 0, 1) := by decide +kernel
theorem d_Steps_compare_163 : decode prog_9_method_6_code 163 = .ok (.getfield 16, 3) := by decide +kernel
theorem d_Steps_compare_166 : decode prog_9_method_6_code 166 = .ok (.aload_n 2, 1) := by decide +kernel
theorem d_Steps_compare_167 : decode prog_9_method_6_code 167 = .ok (.invokevirtual 48, 3) := by decide +kernel
theorem d_Steps_compare_170 : decode prog_9_method_6_code 170 = .ok (.iload 5, 2) := by decide +kernel
theorem d_Steps_compare_172 : decode prog_9_method_6_code 172 = .ok (.aload_n 0, 1) := by decide +kernel
theorem d_Steps_compare_173 : decode prog_9_method_6_code 173 = .ok (.getfield 10, 3) := by decide +kernel
theorem d_Steps_compare_176 : decode prog_9_method_6_code 176 = .ok (.aload_n 0, 1) := by decide +kernel
theorem d_Steps_compare_177 : decode prog_9_method_6_code 177 = .ok (.getfield 16, 3) := by decide +kernel
theorem d_Steps_compare_180 : decode prog_9_method_6_code 180 = .ok (.invokevirtual 125, 3) := by decide +kernel
theorem d_Steps_compare_183 : decode prog_9_method_6_code 183 = .ok (.imul, 1) := by decide +kernel
theorem d_Steps_compare_184 : decode prog_9_method_6_code 184 = .ok (.ireturn, 1) := by decide +kernel
theorem d_Steps_extract_0 : decode prog_9_method_4_code 0 = .ok (.aload_n 0, 1) := by decide +kernel
theorem d_Steps_extract_1 : decode prog_9_method_4_code 1 = .ok (.getfield 19, 3) := by decide +kernel
theorem d_Steps_extract_4 : decode prog_9_method_4_code 4 = .ok (.aload_n 1, 1) := by decide +kernel
theorem d_Steps_extract_5 : decode prog_9_method_4_code 5 = .ok (.aload_n 1, 1) := by decide +kernel
theorem d_Steps_extract_6 : decode prog_9_method_4_code 6 = .ok (.iconst 0, 1) := by decide +kernel
theorem d_Steps_extract_7 : decode prog_9_method_4_code 7 = .ok (.aload_n 3, 1) := by decide +kernel
theorem d_Steps_extract_8 : decode prog_9_method_4_code 8 = .ok (.invokevirtual 32, 3) := by decide +kernel
theorem d_Steps_extract_11 : decode prog_9_method_4_code 11 = .ok (.ifCond .eq 11, 3) := by decide +kernel
theorem d_Steps_extract_14 : decode prog_9_method_4_code 14 = .ok (.aload_n 2, 1) := by decide +kernel
theorem d_Steps_extract_15 : decode prog_9_method_4_code 15 = .ok (.aload_n 3, 1) := by decide +kernel
theorem d_Steps_extract_16 : decode prog_9_method_4_code 16 = .ok (.invokevirtual 44, 3) := by decide +kernel
theorem d_Steps_extract_19 : decode prog_9_method_4_code 19 = .ok (.goto 145, 3) := by decide +kernel
theorem d_Steps_extract_22 : decode prog_9_method_4_code 22 = .ok (.aload_n 1, 1) := by decide +kernel
theorem d_Steps_extract_23 : decode prog_9_method_4_code 23 = .ok (.invokevirtual 38, 3) := by decide +kernel
theorem d_Steps_extract_26 : decode prog_9_method_4_code 26 = .ok (.ifCond .eq 16, 3) := by decide +kernel
theorem d_Steps_extract_29 : decode prog_9_method_4_code 29 = .ok (.aload_n 2, 1) := by decide +kernel
theorem d_Steps_extract_30 : decode prog_9_method_4_code 30 = .ok (.iconst 0, 1) := by decide +kernel
theorem d_Steps_extract_31 : decode prog_9_method_4_code 31 = .ok (.invokevirtual 92, 3) := by decide +kernel
theorem d_Steps_extract_34 : decode prog_9_method_4_code 34 = .ok (.aload_n 3, 1) := by decide +kernel
theorem d_Steps_extract_35 : decode prog_9_method_4_code 35 = .ok (.aload_n 1, 1) := by decide +kernel
theorem d_Steps_extract_36 : decode prog_9_method_4_code 36 = .ok (.invokevirtual 44, 3) := by decide +kernel
theorem d_Steps_extract_39 : decode prog_9_method_4_code 39 = .ok (.goto 125, 3) := by decide +kernel
theorem d_Steps_extract_42 : decode prog_9_method_4_code 42 = .ok (.aload_n 1, 1) := by decide +kernel
theorem d_Steps_extract_43 : decode prog_9_method_4_code 43 = .ok (.invokevirtual 96, 3) := by decide +kernel
theorem d_Steps_extract_46 : decode prog_9_method_4_code 46 = .ok (.ifCond .eq 27, 3) := by decide +kernel
theorem d_Steps_extract_49 : decode prog_9_method_4_code 49 = .ok (.aload_n 0, 1) := by decide +kernel
theorem d_Steps_extract_50 : decode prog_9_method_4_code 50 = .ok (.getfield 19, 3) := by decide +kernel
theorem d_Steps_extract_53 : decode prog_9_method_4_code 53 = .ok (.iconst 4, 1) := by decide +kernel
theorem d_Steps_extract_54 : decode prog_9_method_4_code 54 = .ok (.invokevirtual 70, 3) := by decide +kernel
theorem d_Steps_extract_57 : decode prog_9_method_4_code 57 = .ok (.aload_n 2, 1) := by decide +kernel
theorem d_Steps_extract_58 : decode prog_9_method_4_code 58 = .ok (.iconst 1, 1) := by decide +kernel
theorem d_Steps_extract_59 : decode prog_9_method_4_code 59 = .ok (.invokevirtual 92, 3) := by decide +kernel
theorem d_Steps_extract_62 : decode prog_9_method_4_code 62 = .ok (.aload_n 3, 1) := by decide +kernel
theorem d_Steps_extract_63 : decode prog_9_method_4_code 63 = .ok (.aload_n 1, 1) := by decide +kernel
theorem d_Steps_extract_64 : decode prog_9_method_4_code 64 = .ok (.getfield 59, 3) := by decide +kernel
theorem d_Steps_extract_67 : decode prog_9_method_4_code 67 = .ok (.invokevirtual 99, 3) := by decide +kernel
theorem d_Steps_extract_70 : decode prog_9_method_4_code 70 = .ok (.goto 94, 3) := by decide +kernel
theorem d_Steps_extract_73 : decode prog_9_method_4_code 73 = .ok (.aload_n 0, 1) := by decide +kernel
theorem d_Steps_extract_74 : decode prog_9_method_4_code 74 = .ok (.getfield 10, 3) := by decide +kernel
theorem d_Steps_extract_77 : decode prog_9_method_4_code 77 = .ok (.aload_n 1, 1) := by decide +kernel
theorem d_Steps_extract_78 : decode prog_9_method_4_code 78 = .ok (.invokevirtual 48, 3) := by decide +kernel
theorem d_Steps_extract_81 : decode prog_9_method_4_code 81 = .ok (.aload_n 0, 1) := by decide +kernel
theorem d_Steps_extract_82 : decode prog_9_method_4_code 82 = .ok (.getfield 10, 3) := by decide +kernel
theorem d_Steps_extract_85 : decode prog_9_method_4_code 85 = .ok (.invokevirtual 86, 3) := by decide +kernel
theorem d_Steps_extract_88 : decode prog_9_method_4_code 88 = .ok (.istore 4, 2) := by decide +kernel
theorem d_Steps_extract_90 : decode prog_9_method_4_code 90 = .ok (.aload_n 0, 1) := by decide +kernel
theorem d_Steps_extract_91 : decode prog_9_method_4_code 91 = .ok (.getfield 10, 3) := by decide +kernel
theorem d_Steps_extract_94 : decode prog_9_method_4_code 94 = .ok (.bipush (-127), 2) := by decide +kernel
theorem d_Steps_extract_96 : decode prog_9_method_4_code 96 = .ok (.putfield 51, 3) := by decide +kernel
theorem d_Steps_extract_99 : decode prog_9_method_4_code 99 = .ok (.aload_n 0, 1) := by decide +kernel
theorem d_Steps_extract_100 : decode prog_9_method_4_code 100 = .ok (.getfield 28, 3) := by decide +kernel
theorem d_Steps_extract_103 : decode prog_9_method_4_code 103 = .ok (.aload_n 0, 1) := by decide +kernel
theorem d_Steps_extract_104 : decode prog_9_method_4_code 104 = .ok (.getfield 10, 3) := by decide +kernel
theorem d_Steps_extract_107 : decode prog_9_method_4_code 107 = .ok (.aload_n 1, 1) := by decide +kernel
theorem d_Steps_extract_108 : decode prog_9_method_4_code 108 = .ok (.getfield 59, 3) := by decide +kernel
theorem d_Steps_extract_111 : decode prog_9_method_4_code 111 = .ok (.bipush 64, 2) := by decide +kernel
theorem d_Steps_extract_113 : decode prog_9_method_4_code 113 = .ok (.aload_n 3, 1) := by decide +kernel
theorem d_Steps_extract_114 : decode prog_9_method_4_code 114 = .ok (.invokevirtual 82, 3) := by decide +kernel
theorem d_Steps_extract_117 : decode prog_9_method_4_code 117 = .ok (.aload_n 0, 1) := by decide +kernel
theorem d_Steps_extract_118 : decode prog_9_method_4_code 118 = .ok (.getfield 10, 3) := by decide +kernel
theorem d_Steps_extract_121 : decode prog_9_method_4_code 121 = .ok (.iload 4, 2) := by decide +kernel
theorem d_Steps_extract_123 : decode prog_9_method_4_code 123 = .ok (.ifCond .ge 10, 3) := by decide +kernel
theorem d_Steps_extract_126 : decode prog_9_method_4_code 126 = .ok (.iload 4, 2) := by decide +kernel
theorem d_Steps_extract_128 : decode prog_9_method_4_code 128 = .ok (.ineg, 1) := by decide +kernel
theorem d_Steps_extract_129 : decode prog_9_method_4_code 129 = .ok (.i2l, 1) := by decide +kernel
theorem d_Steps_extract_130 : decode prog_9_method_4_code 130 = .ok (.goto 6, 3) := by decide +kernel
theorem d_Steps_extract_133 : decode prog_9_method_4_code 133 = .ok (.iload 4, 2) := by decide +kernel
theorem d_Steps_extract_135 : decode prog_9_method_4_code 135 = .ok (.i2l, 1) := by decide +kernel
theorem d_Steps_extract_136 : decode prog_9_method_4_code 136 = .ok (.iconst 0, 1) := by decide +kernel
theorem d_Steps_extract_137 : decode prog_9_method_4_code 137 = .ok (.invokevirtual 78, 3) := by decide +kernel
theorem d_Steps_extract_140 : decode prog_9_method_4_code 140 = .ok (.aload_n 0, 1) := by decide +kernel
theorem d_Steps_extract_141 : decode prog_9_method_4_code 141 = .ok (.getfield 28, 3) := by decide +kernel
theorem d_Steps_extract_144 : decode prog_9_method_4_code 144 = .ok (.aload_n 0, 1) := by decide +kernel
theorem d_Steps_extract_145 : decode prog_9_method_4_code 145 = .ok (.getfield 10, 3) := by decide +kernel
theorem d_Steps_extract_148 : decode prog_9_method_4_code 148 = .ok (.iload 4, 2) := by decide +kernel
theorem d_Steps_extract_150 : decode prog_9_method_4_code 150 = .ok (.ifCond .ge 7, 3) := by decide +kernel
theorem d_Steps_extract_153 : decode prog_9_method_4_code 153 = .ok (.iconst 1, 1) := by decide +kernel
theorem d_Steps_extract_154 : decode prog_9_method_4_code 154 = .ok (.goto 4, 3) := by decide +kernel
theorem d_Steps_extract_157 : decode prog_9_method_4_code 157 = .ok (.iconst 0, 1) := by decide +kernel
theorem d_Steps_extract_158 : decode prog_9_method_4_code 158 = .ok (.bipush 64, 2) := by decide +kernel
theorem d_Steps_extract_160 : decode prog_9_method_4_code 160 = .ok (.aload_n 2, 1) := by decide +kernel
theorem d_Steps_extract_161 : decode prog_9_method_4_code 161 = .ok (.invokevirtual 82, 3) := by decide +kernel
theorem d_Steps_extract_164 : decode prog_9_method_4_code 164 = .ok (.return_, 1) := by decide +kernel
theorem d_Steps_takeRemainder_0 : decode prog_9_method_5_code 0 = .ok (.aload_n 0, 1) := by decide +kernel
theorem d_Steps_takeRemainder_1 : decode prog_9_method_5_code 1 = .ok (.iconst 0, 1) := by decide +kernel
theorem d_Steps_takeRemainder_2 : decode prog_9_method_5_code 2 = .ok (.putfield 102, 3) := by decide +kernel
theorem d_Steps_takeRemainder_5 : decode prog_9_method_5_code 5 = .ok (.aload_n 1, 1) := by decide +kernel
theorem d_Steps_takeRemainder_6 : decode prog_9_method_5_code 6 = .ok (.invokevirtual 38, 3) := by decide +kernel
theorem d_Steps_takeRemainder_9 : decode prog_9_method_5_code 9 = .ok (.ifCond .ne 18, 3) := by decide +kernel
theorem d_Steps_takeRemainder_12 : decode prog_9_method_5_code 12 = .ok (.aload_n 2, 1) := by decide +kernel
theorem d_Steps_takeRemainder_13 : decode prog_9_method_5_code 13 = .ok (.invokevirtual 96, 3) := by decide +kernel
theorem d_Steps_takeRemainder_16 : decode prog_9_method_5_code 16 = .ok (.ifCond .ne 11, 3) := by decide +kernel
theorem d_Steps_takeRemainder_19 : decode prog_9_method_5_code 19 = .ok (.aload_n 2, 1) := by decide +kernel
theorem d_Steps_takeRemainder_20 : decode prog_9_method_5_code 20 = .ok (.invokevirtual 105, 3) := by decide +kernel
theorem d_Steps_takeRemainder_23 : decode prog_9_method_5_code 23 = .ok (.iconst 2, 1) := by decide +kernel
theorem d_Steps_takeRemainder_24 : decode prog_9_method_5_code 24 = .ok (.if_icmp .ne 7, 3) := by decide +kernel
theorem d_Steps_takeRemainder_27 : decode prog_9_method_5_code 27 = .ok (.iconst 1, 1) := by decide +kernel
theorem d_Steps_takeRemainder_28 : decode prog_9_method_5_code 28 = .ok (.goto 4, 3) := by decide +kernel
theorem d_Steps_takeRemainder_31 : decode prog_9_method_5_code 31 = .ok (.iconst 0, 1) := by decide +kernel
theorem d_Steps_takeRemainder_32 : decode prog_9_method_5_code 32 = .ok (.istore 4, 2) := by decide +kernel
theorem d_Steps_takeRemainder_34 : decode prog_9_method_5_code 34 = .ok (.aload_n 0, 1) := by decide +kernel
theorem d_Steps_takeRemainder_35 : decode prog_9_method_5_code 35 = .ok (.getfield 19, 3) := by decide +kernel
theorem d_Steps_takeRemainder_38 : decode prog_9_method_5_code 38 = .ok (.aload_n 1, 1) := by decide +kernel
theorem d_Steps_takeRemainder_39 : decode prog_9_method_5_code 39 = .ok (.aload_n 2, 1) := by decide +kernel
theorem d_Steps_takeRemainder_40 : decode prog_9_method_5_code 40 = .ok (.iload 4, 2) := by decide +kernel
theorem d_Steps_takeRemainder_42 : decode prog_9_method_5_code 42 = .ok (.aload_n 3, 1) := by decide +kernel
theorem d_Steps_takeRemainder_43 : decode prog_9_method_5_code 43 = .ok (.invokevirtual 32, 3) := by decide +kernel
theorem d_Steps_takeRemainder_46 : decode prog_9_method_5_code 46 = .ok (.ifCond .eq 4, 3) := by decide +kernel
theorem d_Steps_takeRemainder_49 : decode prog_9_method_5_code 49 = .ok (.return_, 1) := by decide +kernel
theorem d_Steps_takeRemainder_50 : decode prog_9_method_5_code 50 = .ok (.aload_n 0, 1) := by decide +kernel
theorem d_Steps_takeRemainder_51 : decode prog_9_method_5_code 51 = .ok (.iconst 1, 1) := by decide +kernel
theorem d_Steps_takeRemainder_52 : decode prog_9_method_5_code 52 = .ok (.putfield 102, 3) := by decide +kernel
theorem d_Steps_takeRemainder_55 : decode prog_9_method_5_code 55 = .ok (.aload_n 0, 1) := by decide +kernel
theorem d_Steps_takeRemainder_56 : decode prog_9_method_5_code 56 = .ok (.iconst 0, 1) := by decide +kernel
theorem d_Steps_takeRemainder_57 : decode prog_9_method_5_code 57 = .ok (.putfield 108, 3) := by decide +kernel
theorem d_Steps_takeRemainder_60 : decode prog_9_method_5_code 60 = .ok (.aload_n 0, 1) := by decide +kernel
theorem d_Steps_takeRemainder_61 : decode prog_9_method_5_code 61 = .ok (.iconst 0, 1) := by decide +kernel
theorem d_Steps_takeRemainder_62 : decode prog_9_method_5_code 62 = .ok (.putfield 111, 3) := by decide +kernel
theorem d_Steps_takeRemainder_65 : decode prog_9_method_5_code 65 = .ok (.aload_n 0, 1) := by decide +kernel
theorem d_Steps_takeRemainder_66 : decode prog_9_method_5_code 66 = .ok (.getfield 10, 3) := by decide +kernel
theorem d_Steps_takeRemainder_69 : decode prog_9_method_5_code 69 = .ok (.aload_n 1, 1) := by decide +kernel
theorem d_Steps_takeRemainder_70 : decode prog_9_method_5_code 70 = .ok (.invokevirtual 48, 3) := by decide +kernel
theorem d_Steps_takeRemainder_73 : decode prog_9_method_5_code 73 = .ok (.aload_n 2, 1) := by decide +kernel
theorem d_Steps_takeRemainder_74 : decode prog_9_method_5_code 74 = .ok (.invokevirtual 38, 3) := by decide +kernel
theorem d_Steps_takeRemainder_77 : decode prog_9_method_5_code 77 = .ok (.ifCond .ne 87, 3) := by decide +kernel
theorem d_Steps_takeRemainder_80 : decode prog_9_method_5_code 80 = .ok (.aload_n 0, 1) := by decide +kernel
theorem d_Steps_takeRemainder_81 : decode prog_9_method_5_code 81 = .ok (.getfield 16, 3) := by decide +kernel
theorem d_Steps_takeRemainder_84 : decode prog_9_method_5_code 84 = .ok (.aload_n 2, 1) := by decide +kernel
theorem d_Steps_takeRemainder_85 : decode prog_9_method_5_code 85 = .ok (.invokevirtual 48, 3) := by decide +kernel
theorem d_Steps_takeRemainder_88 : decode prog_9_method_5_code 88 = .ok (.aload_n 0, 1) := by decide +kernel
theorem d_Steps_takeRemainder_89 : decode prog_9_method_5_code 89 = .ok (.getfield 10, 3) := by decide +kernel
theorem d_Steps_takeRemainder_92 : decode prog_9_method_5_code 92 = .ok (.invokevirtual 86, 3) := by decide +kernel
theorem d_Steps_takeRemainder_95 : decode prog_9_method_5_code 95 = .ok (.aload_n 0, 1) := by decide +kernel
theorem d_Steps_takeRemainder_96 : decode prog_9_method_5_code 96 = .ok (.getfield 16, 3) := by decide +kernel
theorem d_Steps_takeRemainder_99 : decode prog_9_method_5_code 99 = .ok (.invokevirtual 86, 3) := by decide +kernel
theorem d_Steps_takeRemainder_102 : decode prog_9_method_5_code 102 = .ok (.isub, 1) := by decide +kernel
theorem d_Steps_takeRemainder_103 : decode prog_9_method_5_code 103 = .ok (.istore 5, 2) := by decide +kernel
theorem d_Steps_takeRemainder_105 : decode prog_9_method_5_code 105 = .ok (.aload_n 0, 1) := by decide +kernel
theorem d_Steps_takeRemainder_106 : decode prog_9_method_5_code 106 = .ok (.iload 5, 2) := by decide +kernel
theorem d_Steps_takeRemainder_108 : decode prog_9_method_5_code 108 = .ok (.bipush 64, 2) := by decide +kernel
theorem d_Steps_takeRemainder_110 : decode prog_9_method_5_code 110 = .ok (.if_icmp .lt 7, 3) := by decide +kernel
theorem d_Steps_takeRemainder_113 : decode prog_9_method_5_code 113 = .ok (.iconst 1, 1) := by decide +kernel
theorem d_Steps_takeRemainder_114 : decode prog_9_method_5_code 114 = .ok (.goto 4, 3) := by decide +kernel
theorem d_Steps_takeRemainder_117 : decode prog_9_method_5_code 117 = .ok (.iconst 0, 1) := by decide +kernel
theorem d_Steps_takeRemainder_118 : decode prog_9_method_5_code 118 = .ok (.putfield 108, 3) := by decide +kernel
theorem d_Steps_takeRemainder_121 : decode prog_9_method_5_code 121 = .ok (.iload 5, 2) := by decide +kernel
theorem d_Steps_takeRemainder_123 : decode prog_9_method_5_code 123 = .ok (.ifCond .lt 41, 3) := by decide +kernel
theorem d_Steps_takeRemainder_126 : decode prog_9_method_5_code 126 = .ok (.aload_n 0, 1) := by decide +kernel
theorem d_Steps_takeRemainder_127 : decode prog_9_method_5_code 127 = .ok (.getfield 108, 3) := by decide +kernel
theorem d_Steps_takeRemainder_130 : decode prog_9_method_5_code 130 = .ok (.ifCond .eq 8, 3) := by decide +kernel
theorem d_Steps_takeRemainder_133 : decode prog_9_method_5_code 133 = .ok (.bipush 63, 2) := by decide +kernel
theorem d_Steps_takeRemainder_135 : decode prog_9_method_5_code 135 = .ok (.goto 5, 3) := by decide +kernel
theorem d_Steps_takeRemainder_138 : decode prog_9_method_5_code 138 = .ok (.iload 5, 2) := by decide +kernel
theorem d_Steps_takeRemainder_140 : decode prog_9_method_5_code 140 = .ok (.istore 6, 2) := by decide +kernel
theorem d_Steps_takeRemainder_142 : decode prog_9_method_5_code 142 = .ok (.aload_n 0, 1) := by decide +kernel
theorem d_Steps_takeRemainder_143 : decode prog_9_method_5_code 143 = .ok (.aload_n 0, 1) := by decide +kernel
theorem d_Steps_takeRemainder_144 : decode prog_9_method_5_code 144 = .ok (.getfield 10, 3) := by decide +kernel
theorem d_Steps_takeRemainder_147 : decode prog_9_method_5_code 147 = .ok (.aload_n 0, 1) := by decide +kernel
theorem d_Steps_takeRemainder_148 : decode prog_9_method_5_code 148 = .ok (.getfield 16, 3) := by decide +kernel
theorem d_Steps_takeRemainder_151 : decode prog_9_method_5_code 151 = .ok (.iload 6, 2) := by decide +kernel
theorem d_Steps_takeRemainder_153 : decode prog_9_method_5_code 153 = .ok (.iload 5, 2) := by decide +kernel
theorem d_Steps_takeRemainder_155 : decode prog_9_method_5_code 155 = .ok (.iload 6, 2) := by decide +kernel
theorem d_Steps_takeRemainder_157 : decode prog_9_method_5_code 157 = .ok (.isub, 1) := by decide +kernel
theorem d_Steps_takeRemainder_158 : decode prog_9_method_5_code 158 = .ok (.invokevirtual 114, 3) := by decide +kernel
theorem d_Steps_takeRemainder_161 : decode prog_9_method_5_code 161 = .ok (.putfield 111, 3) := by decide +kernel
theorem d_Steps_takeRemainder_164 : decode prog_9_method_5_code 164 = .ok (.aload_n 0, 1) := by decide +kernel
theorem d_Steps_takeRemainder_165 : decode prog_9_method_5_code 165 = .ok (.getfield 28, 3) := by decide +kernel
theorem d_Steps_takeRemainder_168 : decode prog_9_method_5_code 168 = .ok (.aload_n 0, 1) := by decide +kernel
theorem d_Steps_takeRemainder_169 : decode prog_9_method_5_code 169 = .ok (.getfield 10, 3) := by decide +kernel
theorem d_Steps_takeRemainder_172 : decode prog_9_method_5_code 172 = .ok (.aload_n 1, 1) := by decide +kernel
theorem d_Steps_takeRemainder_173 : decode prog_9_method_5_code 173 = .ok (.getfield 59, 3) := by decide +kernel
theorem d_Steps_takeRemainder_176 : decode prog_9_method_5_code 176 = .ok (.bipush 64, 2) := by decide +kernel
theorem d_Steps_takeRemainder_178 : decode prog_9_method_5_code 178 = .ok (.aload_n 3, 1) := by decide +kernel
theorem d_Steps_takeRemainder_179 : decode prog_9_method_5_code 179 = .ok (.invokevirtual 82, 3) := by decide +kernel
theorem d_Steps_takeRemainder_182 : decode prog_9_method_5_code 182 = .ok (.return_, 1) := by decide +kernel
theorem d_Steps_makeWhole_0 : decode prog_9_method_2_code 0 = .ok (.aload_n 0, 1) := by decide +kernel
theorem d_Steps_makeWhole_1 : decode prog_9_method_2_code 1 = .ok (.getfield 19, 3) := by decide +kernel
theorem d_Steps_makeWhole_4 : decode prog_9_method_2_code 4 = .ok (.aload_n 1, 1) := by decide +kernel
theorem d_Steps_makeWhole_5 : decode prog_9_method_2_code 5 = .ok (.aload_n 1, 1) := by decide +kernel
theorem d_Steps_makeWhole_6 : decode prog_9_method_2_code 6 = .ok (.iconst 0, 1) := by decide +kernel
theorem d_Steps_makeWhole_7 : decode prog_9_method_2_code 7 = .ok (.aload_n 2, 1) := by decide +kernel
theorem d_Steps_makeWhole_8 : decode prog_9_method_2_code 8 = .ok (.invokevirtual 32, 3) := by decide +kernel
theorem d_Steps_makeWhole_11 : decode prog_9_method_2_code 11 = .ok (.ifCond .eq 4, 3) := by decide +kernel
theorem d_Steps_makeWhole_14 : decode prog_9_method_2_code 14 = .ok (.return_, 1) := by decide +kernel
theorem d_Steps_makeWhole_15 : decode prog_9_method_2_code 15 = .ok (.aload_n 1, 1) := by decide +kernel
theorem d_Steps_makeWhole_16 : decode prog_9_method_2_code 16 = .ok (.invokevirtual 38, 3) := by decide +kernel
theorem d_Steps_makeWhole_19 : decode prog_9_method_2_code 19 = .ok (.ifCond .eq 9, 3) := by decide +kernel
theorem d_Steps_makeWhole_22 : decode prog_9_method_2_code 22 = .ok (.aload_n 2, 1) := by decide +kernel
theorem d_Steps_makeWhole_23 : decode prog_9_method_2_code 23 = .ok (.aload_n 1, 1) := by decide +kernel
theorem d_Steps_makeWhole_24 : decode prog_9_method_2_code 24 = .ok (.invokevirtual 44, 3) := by decide +kernel
theorem d_Steps_makeWhole_27 : decode prog_9_method_2_code 27 = .ok (.return_, 1) := by decide +kernel
theorem d_Steps_makeWhole_28 : decode prog_9_method_2_code 28 = .ok (.aload_n 0, 1) := by decide +kernel
theorem d_Steps_makeWhole_29 : decode prog_9_method_2_code 29 = .ok (.getfield 10, 3) := by decide +kernel
theorem d_Steps_makeWhole_32 : decode prog_9_method_2_code 32 = .ok (.aload_n 1, 1) := by decide +kernel
theorem d_Steps_makeWhole_33 : decode prog_9_method_2_code 33 = .ok (.invokevirtual 48, 3) := by decide +kernel
theorem d_Steps_makeWhole_36 : decode prog_9_method_2_code 36 = .ok (.aload_n 0, 1) := by decide +kernel
theorem d_Steps_makeWhole_37 : decode prog_9_method_2_code 37 = .ok (.getfield 10, 3) := by decide +kernel
theorem d_Steps_makeWhole_40 : decode prog_9_method_2_code 40 = .ok (.getfield 51, 3) := by decide +kernel
theorem d_Steps_makeWhole_43 : decode prog_9_method_2_code 43 = .ok (.bipush (-64), 2) := by decide +kernel
theorem d_Steps_makeWhole_45 : decode prog_9_method_2_code 45 = .ok (.if_icmp .ge 67, 3) := by decide +kernel
theorem d_Steps_makeWhole_48 : decode prog_9_method_2_code 48 = .ok (.aload_n 0, 1) := by decide +kernel
theorem d_Steps_makeWhole_49 : decode prog_9_method_2_code 49 = .ok (.getfield 10, 3) := by decide +kernel
theorem d_Steps_makeWhole_52 : decode prog_9_method_2_code 52 = .ok (.aload_n 0, 1) := by decide +kernel
theorem d_Steps_makeWhole_53 : decode prog_9_method_2_code 53 = .ok (.getfield 10, 3) := by decide +kernel
theorem d_Steps_makeWhole_56 : decode prog_9_method_2_code 56 = .ok (.getfield 51, 3) := by decide +kernel
theorem d_Steps_makeWhole_59 : decode prog_9_method_2_code 59 = .ok (.ineg, 1) := by decide +kernel
theorem d_Steps_makeWhole_60 : decode prog_9_method_2_code 60 = .ok (.aload_n 0, 1) := by decide +kernel
theorem d_Steps_makeWhole_61 : decode prog_9_method_2_code 61 = .ok (.getfield 19, 3) := by decide +kernel
theorem d_Steps_makeWhole_64 : decode prog_9_method_2_code 64 = .ok (.invokevirtual 55, 3) := by decide +kernel
theorem d_Steps_makeWhole_67 : decode prog_9_method_2_code 67 = .ok (.aload_n 1, 1) := by decide +kernel
theorem d_Steps_makeWhole_68 : decode prog_9_method_2_code 68 = .ok (.getfield 59, 3) := by decide +kernel
theorem d_Steps_makeWhole_71 : decode prog_9_method_2_code 71 = .ok (.invokevirtual 63, 3) := by decide +kernel
theorem d_Steps_makeWhole_74 : decode prog_9_method_2_code 74 = .ok (.aload_n 0, 1) := by decide +kernel
theorem d_Steps_makeWhole_75 : decode prog_9_method_2_code 75 = .ok (.getfield 19, 3) := by decide +kernel
theorem d_Steps_makeWhole_78 : decode prog_9_method_2_code 78 = .ok (.aload_n 0, 1) := by decide +kernel
theorem d_Steps_makeWhole_79 : decode prog_9_method_2_code 79 = .ok (.getfield 10, 3) := by decide +kernel
theorem d_Steps_makeWhole_82 : decode prog_9_method_2_code 82 = .ok (.getfield 67, 3) := by decide +kernel
theorem d_Steps_makeWhole_85 : decode prog_9_method_2_code 85 = .ok (.ifCond .eq 8, 3) := by decide +kernel
theorem d_Steps_makeWhole_88 : decode prog_9_method_2_code 88 = .ok (.bipush 32, 2) := by decide +kernel
theorem d_Steps_makeWhole_90 : decode prog_9_method_2_code 90 = .ok (.goto 4, 3) := by decide +kernel
theorem d_Steps_makeWhole_93 : decode prog_9_method_2_code 93 = .ok (.iconst 0, 1) := by decide +kernel
theorem d_Steps_makeWhole_94 : decode prog_9_method_2_code 94 = .ok (.invokevirtual 70, 3) := by decide +kernel
theorem d_Steps_makeWhole_97 : decode prog_9_method_2_code 97 = .ok (.aload_n 0, 1) := by decide +kernel
theorem d_Steps_makeWhole_98 : decode prog_9_method_2_code 98 = .ok (.getfield 10, 3) := by decide +kernel
theorem d_Steps_makeWhole_101 : decode prog_9_method_2_code 101 = .ok (.aload_n 0, 1) := by decide +kernel
theorem d_Steps_makeWhole_102 : decode prog_9_method_2_code 102 = .ok (.getfield 10, 3) := by decide +kernel
theorem d_Steps_makeWhole_105 : decode prog_9_method_2_code 105 = .ok (.getfield 74, 3) := by decide +kernel
theorem d_Steps_makeWhole_108 : decode prog_9_method_2_code 108 = .ok (.iconst 0, 1) := by decide +kernel
theorem d_Steps_makeWhole_109 : decode prog_9_method_2_code 109 = .ok (.invokevirtual 78, 3) := by decide +kernel
theorem d_Steps_makeWhole_112 : decode prog_9_method_2_code 112 = .ok (.aload_n 0, 1) := by decide +kernel
theorem d_Steps_makeWhole_113 : decode prog_9_method_2_code 113 = .ok (.getfield 28, 3) := by decide +kernel
theorem d_Steps_makeWhole_116 : decode prog_9_method_2_code 116 = .ok (.aload_n 0, 1) := by decide +kernel
theorem d_Steps_makeWhole_117 : decode prog_9_method_2_code 117 = .ok (.getfield 10, 3) := by decide +kernel
theorem d_Steps_makeWhole_120 : decode prog_9_method_2_code 120 = .ok (.aload_n 1, 1) := by decide +kernel
theorem d_Steps_makeWhole_121 : decode prog_9_method_2_code 121 = .ok (.getfield 59, 3) := by decide +kernel
theorem d_Steps_makeWhole_124 : decode prog_9_method_2_code 124 = .ok (.bipush 64, 2) := by decide +kernel
theorem d_Steps_makeWhole_126 : decode prog_9_method_2_code 126 = .ok (.aload_n 2, 1) := by decide +kernel
theorem d_Steps_makeWhole_127 : decode prog_9_method_2_code 127 = .ok (.invokevirtual 82, 3) := by decide +kernel
theorem d_Steps_makeWhole_130 : decode prog_9_method_2_code 130 = .ok (.return_, 1) := by decide +kernel
theorem d_Steps_scale_0 : decode prog_9_method_3_code 0 = .ok (.aload_n 0, 1) := by decide +kernel
theorem d_Steps_scale_1 : decode prog_9_method_3_code 1 = .ok (.getfield 16, 3) := by decide +kernel
theorem d_Steps_scale_4 : decode prog_9_method_3_code 4 = .ok (.aload_n 2, 1) := by decide +kernel
theorem d_Steps_scale_5 : decode prog_9_method_3_code 5 = .ok (.invokevirtual 48, 3) := by decide +kernel
theorem d_Steps_scale_8 : decode prog_9_method_3_code 8 = .ok (.aload_n 0, 1) := by decide +kernel
theorem d_Steps_scale_9 : decode prog_9_method_3_code 9 = .ok (.getfield 16, 3) := by decide +kernel
theorem d_Steps_scale_12 : decode prog_9_method_3_code 12 = .ok (.invokevirtual 86, 3) := by decide +kernel
theorem d_Steps_scale_15 : decode prog_9_method_3_code 15 = .ok (.istore 4, 2) := by decide +kernel
theorem d_Steps_scale_17 : decode prog_9_method_3_code 17 = .ok (.aload_n 2, 1) := by decide +kernel
theorem d_Steps_scale_18 : decode prog_9_method_3_code 18 = .ok (.invokevirtual 38, 3) := by decide +kernel
theorem d_Steps_scale_21 : decode prog_9_method_3_code 21 = .ok (.ifCond .ne 10, 3) := by decide +kernel
theorem d_Steps_scale_24 : decode prog_9_method_3_code 24 = .ok (.iload 4, 2) := by decide +kernel
theorem d_Steps_scale_26 : decode prog_9_method_3_code 26 = .ok (.bipush 14, 2) := by decide +kernel
theorem d_Steps_scale_28 : decode prog_9_method_3_code 28 = .ok (.if_icmp .lt 7, 3) := by decide +kernel
theorem d_Steps_scale_31 : decode prog_9_method_3_code 31 = .ok (.iconst 1, 1) := by decide +kernel
theorem d_Steps_scale_32 : decode prog_9_method_3_code 32 = .ok (.goto 4, 3) := by decide +kernel
theorem d_Steps_scale_35 : decode prog_9_method_3_code 35 = .ok (.iconst 0, 1) := by decide +kernel
theorem d_Steps_scale_36 : decode prog_9_method_3_code 36 = .ok (.istore 5, 2) := by decide +kernel
theorem d_Steps_scale_38 : decode prog_9_method_3_code 38 = .ok (.aload_n 0, 1) := by decide +kernel
theorem d_Steps_scale_39 : decode prog_9_method_3_code 39 = .ok (.getfield 19, 3) := by decide +kernel
theorem d_Steps_scale_42 : decode prog_9_method_3_code 42 = .ok (.aload_n 1, 1) := by decide +kernel
theorem d_Steps_scale_43 : decode prog_9_method_3_code 43 = .ok (.aload_n 2, 1) := by decide +kernel
theorem d_Steps_scale_44 : decode prog_9_method_3_code 44 = .ok (.iload 5, 2) := by decide +kernel
theorem d_Steps_scale_46 : decode prog_9_method_3_code 46 = .ok (.aload_n 3, 1) := by decide +kernel
theorem d_Steps_scale_47 : decode prog_9_method_3_code 47 = .ok (.invokevirtual 32, 3) := by decide +kernel
theorem d_Steps_scale_50 : decode prog_9_method_3_code 50 = .ok (.ifCond .eq 4, 3) := by decide +kernel
theorem d_Steps_scale_53 : decode prog_9_method_3_code 53 = .ok (.return_, 1) := by decide +kernel
theorem d_Steps_scale_54 : decode prog_9_method_3_code 54 = .ok (.aload_n 1, 1) := by decide +kernel
theorem d_Steps_scale_55 : decode prog_9_method_3_code 55 = .ok (.invokevirtual 38, 3) := by decide +kernel
theorem d_Steps_scale_58 : decode prog_9_method_3_code 58 = .ok (.ifCond .eq 9, 3) := by decide +kernel
theorem d_Steps_scale_61 : decode prog_9_method_3_code 61 = .ok (.aload_n 3, 1) := by decide +kernel
theorem d_Steps_scale_62 : decode prog_9_method_3_code 62 = .ok (.aload_n 1, 1) := by decide +kernel
theorem d_Steps_scale_63 : decode prog_9_method_3_code 63 = .ok (.invokevirtual 44, 3) := by decide +kernel
theorem d_Steps_scale_66 : decode prog_9_method_3_code 66 = .ok (.return_, 1) := by decide +kernel
theorem d_Steps_scale_67 : decode prog_9_method_3_code 67 = .ok (.iload 4, 2) := by decide +kernel
theorem d_Steps_scale_69 : decode prog_9_method_3_code 69 = .ok (.ifCond .ge 7, 3) := by decide +kernel
theorem d_Steps_scale_72 : decode prog_9_method_3_code 72 = .ok (.iconst 0, 1) := by decide +kernel
theorem d_Steps_scale_73 : decode prog_9_method_3_code 73 = .ok (.goto 17, 3) := by decide +kernel
theorem d_Steps_scale_76 : decode prog_9_method_3_code 76 = .ok (.aload_n 0, 1) := by decide +kernel
theorem d_Steps_scale_77 : decode prog_9_method_3_code 77 = .ok (.getfield 16, 3) := by decide +kernel
theorem d_Steps_scale_80 : decode prog_9_method_3_code 80 = .ok (.getfield 89, 3) := by decide +kernel
theorem d_Steps_scale_83 : decode prog_9_method_3_code 83 = .ok (.bipush 63, 2) := by decide +kernel
theorem d_Steps_scale_85 : decode prog_9_method_3_code 85 = .ok (.iload 4, 2) := by decide +kernel
theorem d_Steps_scale_87 : decode prog_9_method_3_code 87 = .ok (.isub, 1) := by decide +kernel
theorem d_Steps_scale_88 : decode prog_9_method_3_code 88 = .ok (.lushr, 1) := by decide +kernel
theorem d_Steps_scale_89 : decode prog_9_method_3_code 89 = .ok (.l2i, 1) := by decide +kernel
theorem d_Steps_scale_90 : decode prog_9_method_3_code 90 = .ok (.istore 6, 2) := by decide +kernel
theorem d_Steps_scale_92 : decode prog_9_method_3_code 92 = .ok (.aload_n 0, 1) := by decide +kernel
theorem d_Steps_scale_93 : decode prog_9_method_3_code 93 = .ok (.getfield 10, 3) := by decide +kernel
theorem d_Steps_scale_96 : decode prog_9_method_3_code 96 = .ok (.aload_n 1, 1) := by decide +kernel
theorem d_Steps_scale_97 : decode prog_9_method_3_code 97 = .ok (.invokevirtual 48, 3) := by decide +kernel
theorem d_Steps_scale_100 : decode prog_9_method_3_code 100 = .ok (.aload_n 0, 1) := by decide +kernel
theorem d_Steps_scale_101 : decode prog_9_method_3_code 101 = .ok (.getfield 10, 3) := by decide +kernel
theorem d_Steps_scale_104 : decode prog_9_method_3_code 104 = .ok (.dup, 1) := by decide +kernel
theorem d_Steps_scale_105 : decode prog_9_method_3_code 105 = .ok (.getfield 51, 3) := by decide +kernel
theorem d_Steps_scale_108 : decode prog_9_method_3_code 108 = .ok (.aload_n 2, 1) := by decide +kernel
theorem d_Steps_scale_109 : decode prog_9_method_3_code 109 = .ok (.getfield 59, 3) := by decide +kernel
theorem d_Steps_scale_112 : decode prog_9_method_3_code 112 = .ok (.ifCond .eq 9, 3) := by decide +kernel
theorem d_Steps_scale_115 : decode prog_9_method_3_code 115 = .ok (.iload 6, 2) := by decide +kernel
theorem d_Steps_scale_117 : decode prog_9_method_3_code 117 = .ok (.ineg, 1) := by decide +kernel
theorem d_Steps_scale_118 : decode prog_9_method_3_code 118 = .ok (.goto 5, 3) := by decide +kernel
theorem d_Steps_scale_121 : decode prog_9_method_3_code 121 = .ok (.iload 6, 2) := by decide +kernel
theorem d_Steps_scale_123 : decode prog_9_method_3_code 123 = .ok (.iadd, 1) := by decide +kernel
theorem d_Steps_scale_124 : decode prog_9_method_3_code 124 = .ok (.putfield 51, 3) := by decide +kernel
theorem d_Steps_scale_127 : decode prog_9_method_3_code 127 = .ok (.aload_n 0, 1) := by decide +kernel
theorem d_Steps_scale_128 : decode prog_9_method_3_code 128 = .ok (.getfield 28, 3) := by decide +kernel
theorem d_Steps_scale_131 : decode prog_9_method_3_code 131 = .ok (.aload_n 0, 1) := by decide +kernel
theorem d_Steps_scale_132 : decode prog_9_method_3_code 132 = .ok (.getfield 10, 3) := by decide +kernel
theorem d_Steps_scale_135 : decode prog_9_method_3_code 135 = .ok (.aload_n 1, 1) := by decide +kernel
theorem d_Steps_scale_136 : decode prog_9_method_3_code 136 = .ok (.getfield 59, 3) := by decide +kernel
theorem d_Steps_scale_139 : decode prog_9_method_3_code 139 = .ok (.bipush 64, 2) := by decide +kernel
theorem d_Steps_scale_141 : decode prog_9_method_3_code 141 = .ok (.aload_n 3, 1) := by decide +kernel
theorem d_Steps_scale_142 : decode prog_9_method_3_code 142 = .ok (.invokevirtual 82, 3) := by decide +kernel
theorem d_Steps_scale_145 : decode prog_9_method_3_code 145 = .ok (.return_, 1) := by decide +kernel
