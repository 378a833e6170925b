/-! the six public methods of the class on the roads that do not throw: printed by wip/gen/gen2.py -/
def y_PS_memory : MethodName := ⟨"PartnerStack", "memory", "(II)V"⟩
def y_PS_byteAt : MethodName := ⟨"PartnerStack", "byteAt", "(I)I"⟩
def y_PS_execute : MethodName := ⟨"PartnerStack", "execute", "(IIII)I"⟩
def y_PS_needs : MethodName := ⟨"PartnerStack", "needs", "(II)I"⟩
def y_PS_word : MethodName := ⟨"PartnerStack", "word", "(I)I"⟩
def y_PS_part : MethodName := ⟨"PartnerStack", "part", "(II)I"⟩
theorem wd_1174 : (Cond.code ({ cls := "PartnerStack", name := "memory", desc := "(II)V" } : MethodName) prog_1_method_2_code (3 : Nat) (Option.none : Option FieldType)) ∈ WL := WL_2 (List.mem_of_getElem? (i := 46) rfl) rfl
theorem wd_1175 : (Cond.instanceMethod ({ cls := "PartnerStack", name := "memory", desc := "(II)V" } : MethodName)) ∈ WL := WL_2 (List.mem_of_getElem? (i := 44) rfl) rfl
theorem wd_1176 : (Cond.selects "PartnerStack" ({ cls := "PartnerStack", name := "memory", desc := "(II)V" } : MethodName) ({ cls := "PartnerStack", name := "memory", desc := "(II)V" } : MethodName)) ∈ WL := WL_2 (List.mem_of_getElem? (i := 45) rfl) rfl
theorem wd_1177 : (Cond.code ({ cls := "PartnerStack", name := "byteAt", desc := "(I)I" } : MethodName) prog_1_method_3_code (2 : Nat) (Option.some FieldType.int)) ∈ WL := WL_2 (List.mem_of_getElem? (i := 123) rfl) rfl
theorem wd_1178 : (Cond.instanceMethod ({ cls := "PartnerStack", name := "byteAt", desc := "(I)I" } : MethodName)) ∈ WL := WL_2 (List.mem_of_getElem? (i := 121) rfl) rfl
theorem wd_1179 : (Cond.selects "PartnerStack" ({ cls := "PartnerStack", name := "byteAt", desc := "(I)I" } : MethodName) ({ cls := "PartnerStack", name := "byteAt", desc := "(I)I" } : MethodName)) ∈ WL := WL_2 (List.mem_of_getElem? (i := 122) rfl) rfl
theorem wd_1180 : (Cond.methodLink "PartnerStack" (99 : Nat) ({ cls := "PartnerStack", name := "isPattern", desc := "(II)Z" } : MethodName)) ∈ WL := WL_2 (List.mem_of_getElem? (i := 137) rfl) rfl
theorem wd_1181 : (Cond.methodLink "PartnerStack" (103 : Nat) ({ cls := "PartnerStack", name := "isPlace", desc := "(I)Z" } : MethodName)) ∈ WL := WL_2 (List.mem_of_getElem? (i := 140) rfl) rfl
theorem wd_1182 : (Cond.methodLink "PartnerStack" (112 : Nat) ({ cls := "PartnerStack", name := "sortOf", desc := "(II)I" } : MethodName)) ∈ WL := WL_2 (List.mem_of_getElem? (i := 160) rfl) rfl
theorem wd_1183 : (Cond.fieldLink "PartnerStack" (116 : Nat) "PartnerStack$Control" "told" "I") ∈ WL := WL_1 (List.mem_of_getElem? (i := 48) rfl) rfl
theorem wd_1184 : (Cond.methodLink "PartnerStack" (127 : Nat) ({ cls := "PartnerStack", name := "doWithRegisters", desc := "(III)V" } : MethodName)) ∈ WL := WL_4 (List.mem_of_getElem? (i := 131) rfl) rfl
theorem wd_1185 : (Cond.methodLink "PartnerStack" (124 : Nat) ({ cls := "PartnerStack", name := "doOwn", desc := "(II)V" } : MethodName)) ∈ WL := WL_4 (List.mem_of_getElem? (i := 64) rfl) rfl
theorem wd_1186 : (Cond.methodLink "PartnerStack" (120 : Nat) ({ cls := "PartnerStack", name := "doWithMemory", desc := "(II)V" } : MethodName)) ∈ WL := WL_2 (List.mem_of_getElem? (i := 167) rfl) rfl
theorem wd_1187 : (Cond.methodLink "PartnerStack" (134 : Nat) ({ cls := "PartnerStack", name := "keepsPointers", desc := "(II)Z" } : MethodName)) ∈ WL := WL_4 (List.mem_of_getElem? (i := 143) rfl) rfl
theorem wd_1188 : (Cond.code ({ cls := "PartnerStack", name := "execute", desc := "(IIII)I" } : MethodName) prog_1_method_4_code (7 : Nat) (Option.some FieldType.int)) ∈ WL := WL_2 (List.mem_of_getElem? (i := 136) rfl) rfl
theorem wd_1189 : (Cond.instanceMethod ({ cls := "PartnerStack", name := "execute", desc := "(IIII)I" } : MethodName)) ∈ WL := WL_2 (List.mem_of_getElem? (i := 134) rfl) rfl
theorem wd_1190 : (Cond.selects "PartnerStack" ({ cls := "PartnerStack", name := "execute", desc := "(IIII)I" } : MethodName) ({ cls := "PartnerStack", name := "execute", desc := "(IIII)I" } : MethodName)) ∈ WL := WL_2 (List.mem_of_getElem? (i := 135) rfl) rfl
theorem wd_1191 : (Cond.code ({ cls := "PartnerStack", name := "needs", desc := "(II)I" } : MethodName) prog_1_method_5_code (3 : Nat) (Option.some FieldType.int)) ∈ WL := WL_4 (List.mem_of_getElem? (i := 152) rfl) rfl
theorem wd_1192 : (Cond.instanceMethod ({ cls := "PartnerStack", name := "needs", desc := "(II)I" } : MethodName)) ∈ WL := WL_4 (List.mem_of_getElem? (i := 150) rfl) rfl
theorem wd_1193 : (Cond.selects "PartnerStack" ({ cls := "PartnerStack", name := "needs", desc := "(II)I" } : MethodName) ({ cls := "PartnerStack", name := "needs", desc := "(II)I" } : MethodName)) ∈ WL := WL_4 (List.mem_of_getElem? (i := 151) rfl) rfl
theorem wd_1194 : (Cond.code ({ cls := "PartnerStack", name := "word", desc := "(I)I" } : MethodName) prog_1_method_6_code (2 : Nat) (Option.some FieldType.int)) ∈ WL := WL_4 (List.mem_of_getElem? (i := 160) rfl) rfl
theorem wd_1195 : (Cond.instanceMethod ({ cls := "PartnerStack", name := "word", desc := "(I)I" } : MethodName)) ∈ WL := WL_4 (List.mem_of_getElem? (i := 158) rfl) rfl
theorem wd_1196 : (Cond.selects "PartnerStack" ({ cls := "PartnerStack", name := "word", desc := "(I)I" } : MethodName) ({ cls := "PartnerStack", name := "word", desc := "(I)I" } : MethodName)) ∈ WL := WL_4 (List.mem_of_getElem? (i := 159) rfl) rfl
theorem wd_1197 : (Cond.fieldLink "PartnerStack" (175 : Nat) "PartnerStack$Real" "fraction" "J") ∈ WL := WL_1 (List.mem_of_getElem? (i := 211) rfl) rfl
theorem wd_1198 : (Cond.methodLink "PartnerStack" (172 : Nat) ({ cls := "PartnerStack$Real", name := "top", desc := "()I" } : MethodName)) ∈ WL := WL_4 (List.mem_of_getElem? (i := 171) rfl) rfl
theorem wd_1199 : (Cond.code ({ cls := "PartnerStack", name := "part", desc := "(II)I" } : MethodName) prog_1_method_7_code (4 : Nat) (Option.some FieldType.int)) ∈ WL := WL_4 (List.mem_of_getElem? (i := 168) rfl) rfl
theorem wd_1200 : (Cond.instanceMethod ({ cls := "PartnerStack", name := "part", desc := "(II)I" } : MethodName)) ∈ WL := WL_4 (List.mem_of_getElem? (i := 166) rfl) rfl
theorem wd_1201 : (Cond.selects "PartnerStack" ({ cls := "PartnerStack", name := "part", desc := "(II)I" } : MethodName) ({ cls := "PartnerStack", name := "part", desc := "(II)I" } : MethodName)) ∈ WL := WL_4 (List.mem_of_getElem? (i := 167) rfl) rfl
theorem d_PS_memory_0 : decode prog_1_method_2_code 0 = .ok (.iload_n 1, 1) := by decide +kernel
theorem d_PS_memory_1 : decode prog_1_method_2_code 1 = .ok (.ifCond .lt 9, 3) := by decide +kernel
theorem d_PS_memory_4 : decode prog_1_method_2_code 4 = .ok (.iload_n 1, 1) := by decide +kernel
theorem d_PS_memory_5 : decode prog_1_method_2_code 5 = .ok (.bipush 90, 2) := by decide +kernel
theorem d_PS_memory_7 : decode prog_1_method_2_code 7 = .ok (.if_icmp .le 13, 3) := by decide +kernel
theorem d_PS_memory_20 : decode prog_1_method_2_code 20 = .ok (.aload_n 0, 1) := by decide +kernel
theorem d_PS_memory_21 : decode prog_1_method_2_code 21 = .ok (.getfield 10, 3) := by decide +kernel
theorem d_PS_memory_24 : decode prog_1_method_2_code 24 = .ok (.iload_n 1, 1) := by decide +kernel
theorem d_PS_memory_25 : decode prog_1_method_2_code 25 = .ok (.iconst 4, 1) := by decide +kernel
theorem d_PS_memory_26 : decode prog_1_method_2_code 26 = .ok (.iload_n 2, 1) := by decide +kernel
theorem d_PS_memory_27 : decode prog_1_method_2_code 27 = .ok (.i2l, 1) := by decide +kernel
theorem d_PS_memory_28 : decode prog_1_method_2_code 28 = .ok (.invokevirtual 89, 3) := by decide +kernel
theorem d_PS_memory_31 : decode prog_1_method_2_code 31 = .ok (.return_, 1) := by decide +kernel
theorem d_PS_byteAt_0 : decode prog_1_method_3_code 0 = .ok (.iload_n 1, 1) := by decide +kernel
theorem d_PS_byteAt_1 : decode prog_1_method_3_code 1 = .ok (.ifCond .lt 9, 3) := by decide +kernel
theorem d_PS_byteAt_4 : decode prog_1_method_3_code 4 = .ok (.iload_n 1, 1) := by decide +kernel
theorem d_PS_byteAt_5 : decode prog_1_method_3_code 5 = .ok (.bipush 94, 2) := by decide +kernel
theorem d_PS_byteAt_7 : decode prog_1_method_3_code 7 = .ok (.if_icmp .lt 13, 3) := by decide +kernel
theorem d_PS_byteAt_20 : decode prog_1_method_3_code 20 = .ok (.aload_n 0, 1) := by decide +kernel
theorem d_PS_byteAt_21 : decode prog_1_method_3_code 21 = .ok (.getfield 10, 3) := by decide +kernel
theorem d_PS_byteAt_24 : decode prog_1_method_3_code 24 = .ok (.iload_n 1, 1) := by decide +kernel
theorem d_PS_byteAt_25 : decode prog_1_method_3_code 25 = .ok (.iconst 1, 1) := by decide +kernel
theorem d_PS_byteAt_26 : decode prog_1_method_3_code 26 = .ok (.invokevirtual 95, 3) := by decide +kernel
theorem d_PS_byteAt_29 : decode prog_1_method_3_code 29 = .ok (.l2i, 1) := by decide +kernel
theorem d_PS_byteAt_30 : decode prog_1_method_3_code 30 = .ok (.ireturn, 1) := by decide +kernel
theorem d_PS_execute_0 : decode prog_1_method_4_code 0 = .ok (.iload_n 1, 1) := by decide +kernel
theorem d_PS_execute_1 : decode prog_1_method_4_code 1 = .ok (.iload_n 2, 1) := by decide +kernel
theorem d_PS_execute_2 : decode prog_1_method_4_code 2 = .ok (.invokestatic 99, 3) := by decide +kernel
theorem d_PS_execute_5 : decode prog_1_method_4_code 5 = .ok (.ifCond .eq 18, 3) := by decide +kernel
theorem d_PS_execute_8 : decode prog_1_method_4_code 8 = .ok (.iload_n 3, 1) := by decide +kernel
theorem d_PS_execute_9 : decode prog_1_method_4_code 9 = .ok (.invokestatic 103, 3) := by decide +kernel
theorem d_PS_execute_12 : decode prog_1_method_4_code 12 = .ok (.ifCond .eq 11, 3) := by decide +kernel
theorem d_PS_execute_15 : decode prog_1_method_4_code 15 = .ok (.iload 4, 2) := by decide +kernel
theorem d_PS_execute_17 : decode prog_1_method_4_code 17 = .ok (.invokestatic 103, 3) := by decide +kernel
theorem d_PS_execute_20 : decode prog_1_method_4_code 20 = .ok (.ifCond .ne 13, 3) := by decide +kernel
theorem d_PS_execute_33 : decode prog_1_method_4_code 33 = .ok (.iload_n 1, 1) := by decide +kernel
theorem d_PS_execute_34 : decode prog_1_method_4_code 34 = .ok (.iload_n 2, 1) := by decide +kernel
theorem d_PS_execute_35 : decode prog_1_method_4_code 35 = .ok (.invokestatic 112, 3) := by decide +kernel
theorem d_PS_execute_38 : decode prog_1_method_4_code 38 = .ok (.istore 5, 2) := by decide +kernel
theorem d_PS_execute_40 : decode prog_1_method_4_code 40 = .ok (.iload 5, 2) := by decide +kernel
theorem d_PS_execute_42 : decode prog_1_method_4_code 42 = .ok (.ifCond .eq 6, 3) := by decide +kernel
theorem d_PS_execute_45 : decode prog_1_method_4_code 45 = .ok (.iload 5, 2) := by decide +kernel
theorem d_PS_execute_47 : decode prog_1_method_4_code 47 = .ok (.ireturn, 1) := by decide +kernel
theorem d_PS_execute_48 : decode prog_1_method_4_code 48 = .ok (.aload_n 0, 1) := by decide +kernel
theorem d_PS_execute_49 : decode prog_1_method_4_code 49 = .ok (.getfield 19, 3) := by decide +kernel
theorem d_PS_execute_52 : decode prog_1_method_4_code 52 = .ok (.iconst 0, 1) := by decide +kernel
theorem d_PS_execute_53 : decode prog_1_method_4_code 53 = .ok (.putfield 116, 3) := by decide +kernel
theorem d_PS_execute_56 : decode prog_1_method_4_code 56 = .ok (.iload_n 2, 1) := by decide +kernel
theorem d_PS_execute_57 : decode prog_1_method_4_code 57 = .ok (.iconst 3, 1) := by decide +kernel
theorem d_PS_execute_58 : decode prog_1_method_4_code 58 = .ok (.ishr, 1) := by decide +kernel
theorem d_PS_execute_59 : decode prog_1_method_4_code 59 = .ok (.bipush 7, 2) := by decide +kernel
theorem d_PS_execute_61 : decode prog_1_method_4_code 61 = .ok (.iand, 1) := by decide +kernel
theorem d_PS_execute_62 : decode prog_1_method_4_code 62 = .ok (.istore 6, 2) := by decide +kernel
theorem d_PS_execute_64 : decode prog_1_method_4_code 64 = .ok (.iload_n 2, 1) := by decide +kernel
theorem d_PS_execute_65 : decode prog_1_method_4_code 65 = .ok (.sipush 192, 3) := by decide +kernel
theorem d_PS_execute_68 : decode prog_1_method_4_code 68 = .ok (.if_icmp .ge 13, 3) := by decide +kernel
theorem d_PS_execute_71 : decode prog_1_method_4_code 71 = .ok (.aload_n 0, 1) := by decide +kernel
theorem d_PS_execute_72 : decode prog_1_method_4_code 72 = .ok (.iload_n 1, 1) := by decide +kernel
theorem d_PS_execute_73 : decode prog_1_method_4_code 73 = .ok (.iload 6, 2) := by decide +kernel
theorem d_PS_execute_75 : decode prog_1_method_4_code 75 = .ok (.invokevirtual 120, 3) := by decide +kernel
theorem d_PS_execute_78 : decode prog_1_method_4_code 78 = .ok (.goto 32, 3) := by decide +kernel
theorem d_PS_execute_81 : decode prog_1_method_4_code 81 = .ok (.iload_n 1, 1) := by decide +kernel
theorem d_PS_execute_82 : decode prog_1_method_4_code 82 = .ok (.iconst 1, 1) := by decide +kernel
theorem d_PS_execute_83 : decode prog_1_method_4_code 83 = .ok (.if_icmp .ne 16, 3) := by decide +kernel
theorem d_PS_execute_86 : decode prog_1_method_4_code 86 = .ok (.aload_n 0, 1) := by decide +kernel
theorem d_PS_execute_87 : decode prog_1_method_4_code 87 = .ok (.iload 6, 2) := by decide +kernel
theorem d_PS_execute_89 : decode prog_1_method_4_code 89 = .ok (.iload_n 2, 1) := by decide +kernel
theorem d_PS_execute_90 : decode prog_1_method_4_code 90 = .ok (.bipush 7, 2) := by decide +kernel
theorem d_PS_execute_92 : decode prog_1_method_4_code 92 = .ok (.iand, 1) := by decide +kernel
theorem d_PS_execute_93 : decode prog_1_method_4_code 93 = .ok (.invokevirtual 124, 3) := by decide +kernel
theorem d_PS_execute_96 : decode prog_1_method_4_code 96 = .ok (.goto 14, 3) := by decide +kernel
theorem d_PS_execute_99 : decode prog_1_method_4_code 99 = .ok (.aload_n 0, 1) := by decide +kernel
theorem d_PS_execute_100 : decode prog_1_method_4_code 100 = .ok (.iload_n 1, 1) := by decide +kernel
theorem d_PS_execute_101 : decode prog_1_method_4_code 101 = .ok (.iload 6, 2) := by decide +kernel
theorem d_PS_execute_103 : decode prog_1_method_4_code 103 = .ok (.iload_n 2, 1) := by decide +kernel
theorem d_PS_execute_104 : decode prog_1_method_4_code 104 = .ok (.bipush 7, 2) := by decide +kernel
theorem d_PS_execute_106 : decode prog_1_method_4_code 106 = .ok (.iand, 1) := by decide +kernel
theorem d_PS_execute_107 : decode prog_1_method_4_code 107 = .ok (.invokevirtual 127, 3) := by decide +kernel
theorem d_PS_execute_110 : decode prog_1_method_4_code 110 = .ok (.aload_n 0, 1) := by decide +kernel
theorem d_PS_execute_111 : decode prog_1_method_4_code 111 = .ok (.dup, 1) := by decide +kernel
theorem d_PS_execute_112 : decode prog_1_method_4_code 112 = .ok (.getfield 131, 3) := by decide +kernel
theorem d_PS_execute_115 : decode prog_1_method_4_code 115 = .ok (.aload_n 0, 1) := by decide +kernel
theorem d_PS_execute_116 : decode prog_1_method_4_code 116 = .ok (.getfield 19, 3) := by decide +kernel
theorem d_PS_execute_119 : decode prog_1_method_4_code 119 = .ok (.getfield 116, 3) := by decide +kernel
theorem d_PS_execute_122 : decode prog_1_method_4_code 122 = .ok (.ior, 1) := by decide +kernel
theorem d_PS_execute_123 : decode prog_1_method_4_code 123 = .ok (.putfield 131, 3) := by decide +kernel
theorem d_PS_execute_126 : decode prog_1_method_4_code 126 = .ok (.iload_n 1, 1) := by decide +kernel
theorem d_PS_execute_127 : decode prog_1_method_4_code 127 = .ok (.iload_n 2, 1) := by decide +kernel
theorem d_PS_execute_128 : decode prog_1_method_4_code 128 = .ok (.invokestatic 134, 3) := by decide +kernel
theorem d_PS_execute_131 : decode prog_1_method_4_code 131 = .ok (.ifCond .eq 25, 3) := by decide +kernel
theorem d_PS_execute_134 : decode prog_1_method_4_code 134 = .ok (.aload_n 0, 1) := by decide +kernel
theorem d_PS_execute_135 : decode prog_1_method_4_code 135 = .ok (.iload_n 1, 1) := by decide +kernel
theorem d_PS_execute_136 : decode prog_1_method_4_code 136 = .ok (.sipush 256, 3) := by decide +kernel
theorem d_PS_execute_139 : decode prog_1_method_4_code 139 = .ok (.imul, 1) := by decide +kernel
theorem d_PS_execute_140 : decode prog_1_method_4_code 140 = .ok (.iload_n 2, 1) := by decide +kernel
theorem d_PS_execute_141 : decode prog_1_method_4_code 141 = .ok (.iadd, 1) := by decide +kernel
theorem d_PS_execute_142 : decode prog_1_method_4_code 142 = .ok (.putfield 137, 3) := by decide +kernel
theorem d_PS_execute_145 : decode prog_1_method_4_code 145 = .ok (.aload_n 0, 1) := by decide +kernel
theorem d_PS_execute_146 : decode prog_1_method_4_code 146 = .ok (.iload_n 3, 1) := by decide +kernel
theorem d_PS_execute_147 : decode prog_1_method_4_code 147 = .ok (.putfield 140, 3) := by decide +kernel
theorem d_PS_execute_150 : decode prog_1_method_4_code 150 = .ok (.aload_n 0, 1) := by decide +kernel
theorem d_PS_execute_151 : decode prog_1_method_4_code 151 = .ok (.iload 4, 2) := by decide +kernel
theorem d_PS_execute_153 : decode prog_1_method_4_code 153 = .ok (.putfield 143, 3) := by decide +kernel
theorem d_PS_execute_156 : decode prog_1_method_4_code 156 = .ok (.iconst 0, 1) := by decide +kernel
theorem d_PS_execute_157 : decode prog_1_method_4_code 157 = .ok (.ireturn, 1) := by decide +kernel
theorem d_PS_needs_0 : decode prog_1_method_5_code 0 = .ok (.iload_n 1, 1) := by decide +kernel
theorem d_PS_needs_1 : decode prog_1_method_5_code 1 = .ok (.iload_n 2, 1) := by decide +kernel
theorem d_PS_needs_2 : decode prog_1_method_5_code 2 = .ok (.invokestatic 99, 3) := by decide +kernel
theorem d_PS_needs_5 : decode prog_1_method_5_code 5 = .ok (.ifCond .ne 13, 3) := by decide +kernel
theorem d_PS_needs_18 : decode prog_1_method_5_code 18 = .ok (.iload_n 2, 1) := by decide +kernel
theorem d_PS_needs_19 : decode prog_1_method_5_code 19 = .ok (.sipush 192, 3) := by decide +kernel
theorem d_PS_needs_22 : decode prog_1_method_5_code 22 = .ok (.if_icmp .ge 21, 3) := by decide +kernel
theorem d_PS_needs_25 : decode prog_1_method_5_code 25 = .ok (.getstatic 148, 3) := by decide +kernel
theorem d_PS_needs_28 : decode prog_1_method_5_code 28 = .ok (.iload_n 1, 1) := by decide +kernel
theorem d_PS_needs_29 : decode prog_1_method_5_code 29 = .ok (.bipush 8, 2) := by decide +kernel
theorem d_PS_needs_31 : decode prog_1_method_5_code 31 = .ok (.imul, 1) := by decide +kernel
theorem d_PS_needs_32 : decode prog_1_method_5_code 32 = .ok (.iload_n 2, 1) := by decide +kernel
theorem d_PS_needs_33 : decode prog_1_method_5_code 33 = .ok (.iconst 3, 1) := by decide +kernel
theorem d_PS_needs_34 : decode prog_1_method_5_code 34 = .ok (.ishr, 1) := by decide +kernel
theorem d_PS_needs_35 : decode prog_1_method_5_code 35 = .ok (.bipush 7, 2) := by decide +kernel
theorem d_PS_needs_37 : decode prog_1_method_5_code 37 = .ok (.iand, 1) := by decide +kernel
theorem d_PS_needs_38 : decode prog_1_method_5_code 38 = .ok (.iadd, 1) := by decide +kernel
theorem d_PS_needs_39 : decode prog_1_method_5_code 39 = .ok (.iaload, 1) := by decide +kernel
theorem d_PS_needs_40 : decode prog_1_method_5_code 40 = .ok (.goto 4, 3) := by decide +kernel
theorem d_PS_needs_43 : decode prog_1_method_5_code 43 = .ok (.iconst 0, 1) := by decide +kernel
theorem d_PS_needs_44 : decode prog_1_method_5_code 44 = .ok (.ireturn, 1) := by decide +kernel
theorem d_PS_word_0 : decode prog_1_method_6_code 0 = .ok (.iload_n 1, 1) := by decide +kernel
theorem d_PS_word_1 : decode prog_1_method_6_code 1 = .ok (.tableswitch 119 0 7 #[47, 55, 60, 65, 96, 101, 106, 111], 47) := by decide +kernel
theorem d_PS_word_48 : decode prog_1_method_6_code 48 = .ok (.aload_n 0, 1) := by decide +kernel
theorem d_PS_word_49 : decode prog_1_method_6_code 49 = .ok (.getfield 19, 3) := by decide +kernel
theorem d_PS_word_52 : decode prog_1_method_6_code 52 = .ok (.getfield 152, 3) := by decide +kernel
theorem d_PS_word_55 : decode prog_1_method_6_code 55 = .ok (.ireturn, 1) := by decide +kernel
theorem d_PS_word_56 : decode prog_1_method_6_code 56 = .ok (.aload_n 0, 1) := by decide +kernel
theorem d_PS_word_57 : decode prog_1_method_6_code 57 = .ok (.invokevirtual 155, 3) := by decide +kernel
theorem d_PS_word_60 : decode prog_1_method_6_code 60 = .ok (.ireturn, 1) := by decide +kernel
theorem d_PS_word_61 : decode prog_1_method_6_code 61 = .ok (.aload_n 0, 1) := by decide +kernel
theorem d_PS_word_62 : decode prog_1_method_6_code 62 = .ok (.invokevirtual 159, 3) := by decide +kernel
theorem d_PS_word_65 : decode prog_1_method_6_code 65 = .ok (.ireturn, 1) := by decide +kernel
theorem d_PS_word_66 : decode prog_1_method_6_code 66 = .ok (.aload_n 0, 1) := by decide +kernel
theorem d_PS_word_67 : decode prog_1_method_6_code 67 = .ok (.invokevirtual 155, 3) := by decide +kernel
theorem d_PS_word_70 : decode prog_1_method_6_code 70 = .ok (.sipush 128, 3) := by decide +kernel
theorem d_PS_word_73 : decode prog_1_method_6_code 73 = .ok (.iand, 1) := by decide +kernel
theorem d_PS_word_74 : decode prog_1_method_6_code 74 = .ok (.ifCond .eq 21, 3) := by decide +kernel
theorem d_PS_word_77 : decode prog_1_method_6_code 77 = .ok (.aload_n 0, 1) := by decide +kernel
theorem d_PS_word_78 : decode prog_1_method_6_code 78 = .ok (.getfield 19, 3) := by decide +kernel
theorem d_PS_word_81 : decode prog_1_method_6_code 81 = .ok (.getfield 152, 3) := by decide +kernel
theorem d_PS_word_84 : decode prog_1_method_6_code 84 = .ok (.sipush 128, 3) := by decide +kernel
theorem d_PS_word_87 : decode prog_1_method_6_code 87 = .ok (.iand, 1) := by decide +kernel
theorem d_PS_word_88 : decode prog_1_method_6_code 88 = .ok (.ifCond .ne 7, 3) := by decide +kernel
theorem d_PS_word_91 : decode prog_1_method_6_code 91 = .ok (.iconst 1, 1) := by decide +kernel
theorem d_PS_word_92 : decode prog_1_method_6_code 92 = .ok (.goto 4, 3) := by decide +kernel
theorem d_PS_word_95 : decode prog_1_method_6_code 95 = .ok (.iconst 0, 1) := by decide +kernel
theorem d_PS_word_96 : decode prog_1_method_6_code 96 = .ok (.ireturn, 1) := by decide +kernel
theorem d_PS_word_97 : decode prog_1_method_6_code 97 = .ok (.aload_n 0, 1) := by decide +kernel
theorem d_PS_word_98 : decode prog_1_method_6_code 98 = .ok (.getfield 137, 3) := by decide +kernel
theorem d_PS_word_101 : decode prog_1_method_6_code 101 = .ok (.ireturn, 1) := by decide +kernel
theorem d_PS_word_102 : decode prog_1_method_6_code 102 = .ok (.aload_n 0, 1) := by decide +kernel
theorem d_PS_word_103 : decode prog_1_method_6_code 103 = .ok (.getfield 140, 3) := by decide +kernel
theorem d_PS_word_106 : decode prog_1_method_6_code 106 = .ok (.ireturn, 1) := by decide +kernel
theorem d_PS_word_107 : decode prog_1_method_6_code 107 = .ok (.aload_n 0, 1) := by decide +kernel
theorem d_PS_word_108 : decode prog_1_method_6_code 108 = .ok (.getfield 143, 3) := by decide +kernel
theorem d_PS_word_111 : decode prog_1_method_6_code 111 = .ok (.ireturn, 1) := by decide +kernel
theorem d_PS_word_112 : decode prog_1_method_6_code 112 = .ok (.aload_n 0, 1) := by decide +kernel
theorem d_PS_word_113 : decode prog_1_method_6_code 113 = .ok (.getfield 19, 3) := by decide +kernel
theorem d_PS_word_116 : decode prog_1_method_6_code 116 = .ok (.getfield 116, 3) := by decide +kernel
theorem d_PS_word_119 : decode prog_1_method_6_code 119 = .ok (.ireturn, 1) := by decide +kernel
theorem d_PS_part_0 : decode prog_1_method_7_code 0 = .ok (.iload_n 1, 1) := by decide +kernel
theorem d_PS_part_1 : decode prog_1_method_7_code 1 = .ok (.ifCond .lt 9, 3) := by decide +kernel
theorem d_PS_part_4 : decode prog_1_method_7_code 4 = .ok (.iload_n 1, 1) := by decide +kernel
theorem d_PS_part_5 : decode prog_1_method_7_code 5 = .ok (.bipush 8, 2) := by decide +kernel
theorem d_PS_part_7 : decode prog_1_method_7_code 7 = .ok (.if_icmp .lt 13, 3) := by decide +kernel
theorem d_PS_part_20 : decode prog_1_method_7_code 20 = .ok (.iload_n 2, 1) := by decide +kernel
theorem d_PS_part_21 : decode prog_1_method_7_code 21 = .ok (.ifCond .lt 8, 3) := by decide +kernel
theorem d_PS_part_24 : decode prog_1_method_7_code 24 = .ok (.iload_n 2, 1) := by decide +kernel
theorem d_PS_part_25 : decode prog_1_method_7_code 25 = .ok (.iconst 2, 1) := by decide +kernel
theorem d_PS_part_26 : decode prog_1_method_7_code 26 = .ok (.if_icmp .le 13, 3) := by decide +kernel
theorem d_PS_part_39 : decode prog_1_method_7_code 39 = .ok (.aload_n 0, 1) := by decide +kernel
theorem d_PS_part_40 : decode prog_1_method_7_code 40 = .ok (.getfield 57, 3) := by decide +kernel
theorem d_PS_part_43 : decode prog_1_method_7_code 43 = .ok (.aload_n 0, 1) := by decide +kernel
theorem d_PS_part_44 : decode prog_1_method_7_code 44 = .ok (.iload_n 1, 1) := by decide +kernel
theorem d_PS_part_45 : decode prog_1_method_7_code 45 = .ok (.invokevirtual 168, 3) := by decide +kernel
theorem d_PS_part_48 : decode prog_1_method_7_code 48 = .ok (.aaload, 1) := by decide +kernel
theorem d_PS_part_49 : decode prog_1_method_7_code 49 = .ok (.astore_n 3, 1) := by decide +kernel
theorem d_PS_part_50 : decode prog_1_method_7_code 50 = .ok (.iload_n 2, 1) := by decide +kernel
theorem d_PS_part_51 : decode prog_1_method_7_code 51 = .ok (.ifCond .ne 8, 3) := by decide +kernel
theorem d_PS_part_54 : decode prog_1_method_7_code 54 = .ok (.aload_n 3, 1) := by decide +kernel
theorem d_PS_part_55 : decode prog_1_method_7_code 55 = .ok (.invokevirtual 172, 3) := by decide +kernel
theorem d_PS_part_58 : decode prog_1_method_7_code 58 = .ok (.ireturn, 1) := by decide +kernel
theorem d_PS_part_59 : decode prog_1_method_7_code 59 = .ok (.iload_n 2, 1) := by decide +kernel
theorem d_PS_part_60 : decode prog_1_method_7_code 60 = .ok (.iconst 1, 1) := by decide +kernel
theorem d_PS_part_61 : decode prog_1_method_7_code 61 = .ok (.if_icmp .ne 14, 3) := by decide +kernel
theorem d_PS_part_64 : decode prog_1_method_7_code 64 = .ok (.aload_n 3, 1) := by decide +kernel
theorem d_PS_part_65 : decode prog_1_method_7_code 65 = .ok (.getfield 175, 3) := by decide +kernel
theorem d_PS_part_68 : decode prog_1_method_7_code 68 = .ok (.bipush 32, 2) := by decide +kernel
theorem d_PS_part_70 : decode prog_1_method_7_code 70 = .ok (.lushr, 1) := by decide +kernel
theorem d_PS_part_71 : decode prog_1_method_7_code 71 = .ok (.l2i, 1) := by decide +kernel
theorem d_PS_part_72 : decode prog_1_method_7_code 72 = .ok (.goto 8, 3) := by decide +kernel
theorem d_PS_part_75 : decode prog_1_method_7_code 75 = .ok (.aload_n 3, 1) := by decide +kernel
theorem d_PS_part_76 : decode prog_1_method_7_code 76 = .ok (.getfield 175, 3) := by decide +kernel
theorem d_PS_part_79 : decode prog_1_method_7_code 79 = .ok (.l2i, 1) := by decide +kernel
theorem d_PS_part_80 : decode prog_1_method_7_code 80 = .ok (.ireturn, 1) := by decide +kernel
def f_PS_memory (σ : St) (a1 : Int32) (a2 : Int32) : St :=
  let s1 : St := f_Mem_put σ a1 4 (Int32.toInt64 a2)
  s1
def f_PS_byteAt (σ : St) (a1 : Int32) : Int32 :=
  Int64.toInt32 (f_Mem_bits σ a1 1)
def f_PS_execute (σ : St) (a1 : Int32) (a2 : Int32) (a3 : Int32) (a4 : Int32) : Int32 × St :=
  let v1 : Int32 := f_PS_sortOf σ a1 a2
  if v1 = 0 then
    let s1 : St := sI σ 7 3 0
    let v2 : Int32 := (jshr a2 3) &&& 7
    let t1 : St := 
        if 192 ≤ a2 then
          if a1 = 1 then
            let s3 : St := f_PS_doOwn s1 v2 (a2 &&& 7)
            s3
          else
            let s2 : St := f_PS_doWithRegisters s1 a1 v2 (a2 &&& 7)
            s2
        else
          let s4 : St := f_PS_doWithMemory s1 a1 v2
          s4
    let s5 : St := sI t1 1 0 ((gI t1 1 0) ||| (gI t1 7 3))
    let t2 : St := 
        if f_PS_keepsPointers a1 a2 = true then
          let s6 : St := sI s5 3 0 ((a1 * 256) + a2)
          let s7 : St := sI s6 4 0 a3
          let s8 : St := sI s7 5 0 a4
          s8
        else
          s5
    (0, t2)
  else
    (v1, σ)
def f_PS_needs (σ : St) (a1 : Int32) (a2 : Int32) : Int32 :=
  let t1 : Int32 := 
      if 192 ≤ a2 then
        0
      else
        tb0.getD (jat ((a1 * 8) + ((jshr a2 3) &&& 7))) 0
  t1
def f_PS_word (σ : St) (a1 : Int32) : Int32 :=
  if a1 = 0 then
    gI σ 6 3
  else
    if a1 = 1 then
      f_PS_status σ
    else
      if a1 = 2 then
        f_PS_tags σ
      else
        if a1 = 3 then
          let t1 : Bool := 
              if (f_PS_status σ) &&& 128 = 0 then
                false
              else
                if (gI σ 6 3) &&& 128 = 0 then
                  true
                else
                  false
          bI t1
        else
          if a1 = 4 then
            gI σ 3 0
          else
            if a1 = 5 then
              gI σ 4 0
            else
              if a1 = 6 then
                gI σ 5 0
              else
                if a1 = 7 then
                  gI σ 7 3
                else
                  0
def f_PS_part (σ : St) (a1 : Int32) (a2 : Int32) : Int32 :=
  if a2 = 0 then
    f_Real_top σ (16 + jat (f_PS_place σ a1))
  else
    let t1 : Int32 := 
        if a2 = 1 then
          Int64.toInt32 (jlushr (gJ σ 17 (16 + jat (f_PS_place σ a1))) 32)
        else
          Int64.toInt32 (gJ σ 17 (16 + jat (f_PS_place σ a1)))
    t1
set_option maxRecDepth 100000 in
set_option maxHeartbeats 400000 in
theorem c_PS_memory (l : Launch) (E : Ev) (σ τ : St) (q : Int64) (a1 : Int32) (a2 : Int32) (hn1 : ¬ a1 < 0) (hn2 : a1 ≤ 90) : MF l y_PS_memory prog_1_method_2_code 3 none { frames := 1, cells := 0, slots := 0, locals := 25 } E [.ref 0, .int a1, .int a2] (σ, τ, q) none ((f_PS_memory σ a1 a2), τ, q) := by
  refine MF_intro (lv0 := [(0, .ref 0), (1, .int a1), (2, .int a2)]) (by decide) wd_1174 (Nat.le_of_ble_eq_true rfl) rfl ?_
  intro p e s m args below meth c Q hC hr hk hQ
  replace hC : Cx p s m args c prog_1_method_2_code 3 "PartnerStack" E := hC
  refine wi_iload_n hC 1 d_PS_memory_0 rfl rfl ?_
  refine wi_if_lt hC 10 d_PS_memory_1 (by decide) (fun h1 => absurd h1 hn1) (fun _ => ?_)
  refine wi_iload_n hC 1 d_PS_memory_4 rfl rfl ?_
  refine wi_bipush hC 90 (by decide) d_PS_memory_5 ?_
  refine wi_icmp_le hC 20 d_PS_memory_7 (by decide) (fun _ => ?_) (fun h2 => absurd hn2 h2)
  refine wi_aload_n hC 0 d_PS_memory_20 rfl rfl ?_
  refine wg_PS_row hC wd_407 d_PS_memory_21 ?_
  refine wi_iload_n hC 1 d_PS_memory_24 rfl rfl ?_
  refine wi_iconst hC 4 (by decide) d_PS_memory_25 ?_
  refine wi_iload_n hC 2 d_PS_memory_26 rfl rfl ?_
  refine wi_i2l hC d_PS_memory_27 ?_
  refine k_Mem_put hC  wd_429 (by decide) (Nat.le_of_ble_eq_true rfl) d_PS_memory_28 ?_
  refine wi_nmC (fun s1 e_s1 => ?_)
  have hf : f_PS_memory σ a1 a2 = s1 := by subst e_s1; exact rfl
  exact wi_vret hC hr hk d_PS_memory_31 rfl (congrArg (fun z => (z, τ, q)) hf).symm hQ
theorem k_PS_memory {p : Program} {l : Launch} {e : Env} {R : Room} {s : State} {m : MethodId} {args : Array Value} {below : List Frame} {meth : Method} {c : Code} {Q : State → Prop} {E : Ev} {nL pc index : Nat} {lv : List (Nat × Value)} {rest : List Value} {cc : ByteArray} {own : String} {σ τ : St} {q : Int64} {a1 : Int32} {a2 : Int32} (hC : Cx p s m args c cc nL own E)  (hn1 : ¬ a1 < 0) (hn2 : a1 ≤ 90) (hl : Cond.methodLink own index y_PS_memory ∈ WL) (hR : 1 + 1 ≤ R.frames ∧ 8 + (3 + 11) + 25 ≤ R.locals) (hs8 : (rest.map fun v => v.category).sum ≤ 8) (d : decode cc pc = .ok (.invokevirtual index, 3)) (k : WS p l e R s m args below meth c Q E nL (pc + 3) lv rest ((f_PS_memory σ a1 a2), τ, q)) : WS p l e R s m args below meth c Q E nL pc lv (.int a2 :: .int a1 :: .ref 0 :: rest) (σ, τ, q) := by
  exact wi_callV hC (n := 2) (vs := [.int a1, .int a2]) (rest := rest) 0 0 (by decide) rfl rfl rfl (c_PS_memory l E σ τ q a1 a2 hn1 hn2) (by decide +kernel) wd_1174 wd_395 wd_1175 wd_1176 ⟨rfl, rfl⟩ rfl rfl hl hR hs8 d k
set_option maxRecDepth 100000 in
set_option maxHeartbeats 400000 in
theorem c_PS_byteAt (l : Launch) (E : Ev) (σ τ : St) (q : Int64) (a1 : Int32) (hn1 : ¬ a1 < 0) (hn2 : a1 < 94) : MF l y_PS_byteAt prog_1_method_3_code 2 (some .int) { frames := 1, cells := 0, slots := 0, locals := 25 } E [.ref 0, .int a1] (σ, τ, q) (some (.int (f_PS_byteAt σ a1))) (σ, τ, q) := by
  refine MF_intro (lv0 := [(0, .ref 0), (1, .int a1)]) (by decide) wd_1177 (Nat.le_of_ble_eq_true rfl) rfl ?_
  intro p e s m args below meth c Q hC hr hk hQ
  replace hC : Cx p s m args c prog_1_method_3_code 2 "PartnerStack" E := hC
  refine wi_iload_n hC 1 d_PS_byteAt_0 rfl rfl ?_
  refine wi_if_lt hC 10 d_PS_byteAt_1 (by decide) (fun h1 => absurd h1 hn1) (fun _ => ?_)
  refine wi_iload_n hC 1 d_PS_byteAt_4 rfl rfl ?_
  refine wi_bipush hC 94 (by decide) d_PS_byteAt_5 ?_
  refine wi_icmp_lt hC 20 d_PS_byteAt_7 (by decide) (fun _ => ?_) (fun h2 => absurd hn2 h2)
  refine wi_aload_n hC 0 d_PS_byteAt_20 rfl rfl ?_
  refine wg_PS_row hC wd_407 d_PS_byteAt_21 ?_
  refine wi_iload_n hC 1 d_PS_byteAt_24 rfl rfl ?_
  refine wi_iconst hC 1 (by decide) d_PS_byteAt_25 ?_
  refine k_Mem_bits hC (by have := lo_n hn1; omega) wd_408 (by decide) (Nat.le_of_ble_eq_true rfl) d_PS_byteAt_26 ?_
  refine wi_l2i hC d_PS_byteAt_29 ?_
  have hf : f_PS_byteAt σ a1 = Int64.toInt32 (f_Mem_bits σ a1 1) := by exact rfl
  exact wi_iret hC hr hk d_PS_byteAt_30 (congrArg (fun z => some (Value.int z)) hf) rfl hQ
theorem k_PS_byteAt {p : Program} {l : Launch} {e : Env} {R : Room} {s : State} {m : MethodId} {args : Array Value} {below : List Frame} {meth : Method} {c : Code} {Q : State → Prop} {E : Ev} {nL pc index : Nat} {lv : List (Nat × Value)} {rest : List Value} {cc : ByteArray} {own : String} {σ τ : St} {q : Int64} {a1 : Int32} (hC : Cx p s m args c cc nL own E)  (hn1 : ¬ a1 < 0) (hn2 : a1 < 94) (hl : Cond.methodLink own index y_PS_byteAt ∈ WL) (hR : 1 + 1 ≤ R.frames ∧ 8 + (2 + 11) + 25 ≤ R.locals) (hs8 : (rest.map fun v => v.category).sum ≤ 8) (d : decode cc pc = .ok (.invokevirtual index, 3)) (k : WS p l e R s m args below meth c Q E nL (pc + 3) lv ((.int (f_PS_byteAt σ a1)) :: rest) (σ, τ, q)) : WS p l e R s m args below meth c Q E nL pc lv (.int a1 :: .ref 0 :: rest) (σ, τ, q) := by
  exact wi_callV hC (n := 1) (vs := [.int a1]) (rest := rest) 0 0 (by decide) rfl rfl rfl (c_PS_byteAt l E σ τ q a1 hn1 hn2) (by decide +kernel) wd_1177 wd_395 wd_1178 wd_1179 ⟨rfl, rfl⟩ rfl rfl hl hR hs8 d k
set_option maxRecDepth 100000 in
set_option maxHeartbeats 400000 in
theorem c_PS_execute (l : Launch) (E : Ev) (σ τ : St) (q : Int64) (a1 : Int32) (a2 : Int32) (a3 : Int32) (a4 : Int32) (hp : vp_in a1 8) (hq : a1 = 1 → 192 ≤ a2 → jshr a2 3 &&& 7 = 5 → f_PS_sortOf σ a1 a2 = 0 → vp_in (a2 &&& 7) 7) (hn1 : f_PS_isPattern a1 a2 = true) (hn2 : f_PS_isPlace a3 = true) (hn3 : f_PS_isPlace a4 = true) : MF l y_PS_execute prog_1_method_4_code 7 (some .int) { frames := 7, cells := 0, slots := 0, locals := 179 } E [.ref 0, .int a1, .int a2, .int a3, .int a4] (σ, τ, q) (some (.int ((f_PS_execute σ a1 a2 a3 a4).1))) ((f_PS_execute σ a1 a2 a3 a4).2, τ, q) := by
  refine MF_intro (lv0 := [(0, .ref 0), (1, .int a1), (2, .int a2), (3, .int a3), (4, .int a4)]) (by decide) wd_1188 (Nat.le_of_ble_eq_true rfl) rfl ?_
  intro p e s m args below meth c Q hC hr hk hQ
  replace hC : Cx p s m args c prog_1_method_4_code 7 "PartnerStack" E := hC
  refine wi_iload_n hC 1 d_PS_execute_0 rfl rfl ?_
  refine wi_iload_n hC 2 d_PS_execute_1 rfl rfl ?_
  refine k_PS_isPattern hC  wd_1180 (by decide) (Nat.le_of_ble_eq_true rfl) d_PS_execute_2 ?_
  refine wi_z_eq (b := (f_PS_isPattern a1 a2)) hC 23 d_PS_execute_5 (by decide) (fun h1 => absurd hn1 h1) (fun _ => ?_)
  refine wi_iload_n hC 3 d_PS_execute_8 rfl rfl ?_
  refine k_PS_isPlace hC  wd_1181 (by decide) (Nat.le_of_ble_eq_true rfl) d_PS_execute_9 ?_
  refine wi_z_eq (b := (f_PS_isPlace a3)) hC 23 d_PS_execute_12 (by decide) (fun h2 => absurd hn2 h2) (fun _ => ?_)
  refine wi_iload hC 4 d_PS_execute_15 rfl ?_
  refine k_PS_isPlace hC  wd_1181 (by decide) (Nat.le_of_ble_eq_true rfl) d_PS_execute_17 ?_
  refine wi_z_ne (b := (f_PS_isPlace a4)) hC 33 d_PS_execute_20 (by decide) (fun _ => ?_) (fun h3 => absurd hn3 h3)
  refine wi_iload_n hC 1 d_PS_execute_33 rfl rfl ?_
  refine wi_iload_n hC 2 d_PS_execute_34 rfl rfl ?_
  refine k_PS_sortOf hC hp wd_1182 (by decide) (Nat.le_of_ble_eq_true rfl) d_PS_execute_35 ?_
  refine wi_nmI (fun v1 e_v1 => ?_)
  refine wi_istore hC [(5, .int v1), (0, .ref 0), (1, .int a1), (2, .int a2), (3, .int a3), (4, .int a4)] d_PS_execute_38 (by decide) rfl ?_
  refine wi_iload hC 0 d_PS_execute_40 rfl ?_
  refine wi_if_eq hC 48 d_PS_execute_42 (by decide) (fun h4 => ?_) (fun h4 => ?_)
  · skip
    refine wi_aload_n hC 1 d_PS_execute_48 rfl rfl ?_
    refine wg_PS_control hC wd_385 d_PS_execute_49 ?_
    refine wi_iconst hC 0 (by decide) d_PS_execute_52 ?_
    refine wp_Ctl_told hC wd_1183 d_PS_execute_53 ?_
    refine wi_nmC (fun s1 e_s1 => ?_)
    refine wi_iload_n hC 3 d_PS_execute_56 rfl rfl ?_
    refine wi_iconst hC 3 (by decide) d_PS_execute_57 ?_
    refine wi_ishr hC d_PS_execute_58 ?_
    refine wi_bipush hC 7 (by decide) d_PS_execute_59 ?_
    refine wi_iand hC d_PS_execute_61 ?_
    refine wi_nmI (fun v2 e_v2 => ?_)
    refine wi_istore hC [(6, .int v2), (5, .int v1), (0, .ref 0), (1, .int a1), (2, .int a2), (3, .int a3), (4, .int a4)] d_PS_execute_62 (by decide) rfl ?_
    refine wi_iload_n hC 4 d_PS_execute_64 rfl rfl ?_
    refine wi_sipush hC 192 (by decide) d_PS_execute_65 ?_
    obtain ⟨Tt1, eTt1⟩ : ∃ y : St, y = (
            if 192 ≤ a2 then
              if a1 = 1 then
                let s3 : St := f_PS_doOwn s1 v2 (a2 &&& 7)
                s3
              else
                let s2 : St := f_PS_doWithRegisters s1 a1 v2 (a2 &&& 7)
                s2
            else
              let s4 : St := f_PS_doWithMemory s1 a1 v2
              s4) := ⟨_, rfl⟩
    have Jt1 : ∀ (t1 : St), Tt1 = t1 → WS p l e { frames := 7, cells := 0, slots := 0, locals := 179 } s m args below meth c Q E 7 110 [(6, .int v2), (5, .int v1), (0, .ref 0), (1, .int a1), (2, .int a2), (3, .int a3), (4, .int a4)] [] (t1, τ, q) := by
      intro t1  e_t1
      rw [eTt1] at e_t1
      refine wi_aload_n hC 2 d_PS_execute_110 rfl rfl ?_
      refine wi_dup hC rfl d_PS_execute_111 ?_
      refine wg_PS_toldBefore hC wd_387 d_PS_execute_112 ?_
      refine wi_aload_n hC 2 d_PS_execute_115 rfl rfl ?_
      refine wg_PS_control hC wd_385 d_PS_execute_116 ?_
      refine wg_Ctl_told hC wd_1183 d_PS_execute_119 ?_
      refine wi_ior hC d_PS_execute_122 ?_
      refine wp_PS_toldBefore hC wd_387 d_PS_execute_123 ?_
      refine wi_nmC (fun s5 e_s5 => ?_)
      refine wi_iload_n hC 3 d_PS_execute_126 rfl rfl ?_
      refine wi_iload_n hC 4 d_PS_execute_127 rfl rfl ?_
      refine k_PS_keepsPointers hC  wd_1187 (by decide) (Nat.le_of_ble_eq_true rfl) d_PS_execute_128 ?_
      obtain ⟨Tt2, eTt2⟩ : ∃ y : St, y = (
              if f_PS_keepsPointers a1 a2 = true then
                let s6 : St := sI s5 3 0 ((a1 * 256) + a2)
                let s7 : St := sI s6 4 0 a3
                let s8 : St := sI s7 5 0 a4
                s8
              else
                s5) := ⟨_, rfl⟩
      have Jt2 : ∀ (t2 : St), Tt2 = t2 → WS p l e { frames := 7, cells := 0, slots := 0, locals := 179 } s m args below meth c Q E 7 156 [(6, .int v2), (5, .int v1), (0, .ref 0), (1, .int a1), (2, .int a2), (3, .int a3), (4, .int a4)] [] (t2, τ, q) := by
        intro t2  e_t2
        rw [eTt2] at e_t2
        refine wi_iconst hC 0 (by decide) d_PS_execute_156 ?_
        have hf : f_PS_execute σ a1 a2 a3 a4 = (0, t2) := by subst e_t2; subst e_s5; subst e_t1; subst e_v2; subst e_s1; subst e_v1; exact (if_pos h4)
        exact wi_iret hC hr hk d_PS_execute_157 (congrArg (fun z => some (Value.int z.1)) hf) (congrArg (fun z => (z.2, τ, q)) hf).symm hQ
      refine wi_z_eq (b := (f_PS_keepsPointers a1 a2)) hC 156 d_PS_execute_131 (by decide) (fun h7 => ?_) (fun h7 => ?_)
      · skip
        exact Jt2 s5 (by exact (Eq.trans eTt2 (if_neg h7)))
      · skip
        refine wi_aload_n hC 2 d_PS_execute_134 rfl rfl ?_
        refine wi_iload_n hC 3 d_PS_execute_135 rfl rfl ?_
        refine wi_sipush hC 256 (by decide) d_PS_execute_136 ?_
        refine wi_imul hC d_PS_execute_139 ?_
        refine wi_iload_n hC 4 d_PS_execute_140 rfl rfl ?_
        refine wi_iadd hC d_PS_execute_141 ?_
        refine wp_PS_keptCode hC wd_391 d_PS_execute_142 ?_
        refine wi_nmC (fun s6 e_s6 => ?_)
        refine wi_aload_n hC 2 d_PS_execute_145 rfl rfl ?_
        refine wi_iload_n hC 5 d_PS_execute_146 rfl rfl ?_
        refine wp_PS_keptCodePlace hC wd_392 d_PS_execute_147 ?_
        refine wi_nmC (fun s7 e_s7 => ?_)
        refine wi_aload_n hC 2 d_PS_execute_150 rfl rfl ?_
        refine wi_iload hC 6 d_PS_execute_151 rfl ?_
        refine wp_PS_keptOperandPlace hC wd_393 d_PS_execute_153 ?_
        refine wi_nmC (fun s8 e_s8 => ?_)
        exact Jt2 s8 (by subst e_s8; subst e_s7; subst e_s6; exact (Eq.trans eTt2 (if_pos h7)))
    refine wi_icmp_ge hC 81 d_PS_execute_68 (by decide) (fun h5 => ?_) (fun h5 => ?_)
    · skip
      refine wi_iload_n hC 3 d_PS_execute_81 rfl rfl ?_
      refine wi_iconst hC 1 (by decide) d_PS_execute_82 ?_
      refine wi_icmp_ne hC 99 d_PS_execute_83 (by decide) (fun h6 => ?_) (fun h6 => ?_)
      · skip
        refine wi_aload_n hC 2 d_PS_execute_99 rfl rfl ?_
        refine wi_iload_n hC 3 d_PS_execute_100 rfl rfl ?_
        refine wi_iload hC 0 d_PS_execute_101 rfl ?_
        refine wi_iload_n hC 4 d_PS_execute_103 rfl rfl ?_
        refine wi_bipush hC 7 (by decide) d_PS_execute_104 ?_
        refine wi_iand hC d_PS_execute_106 ?_
        refine k_PS_doWithRegisters hC  wd_1184 (by decide) (Nat.le_of_ble_eq_true rfl) d_PS_execute_107 ?_
        refine wi_nmC (fun s2 e_s2 => ?_)
        exact Jt1 s2 (by subst e_s2; exact (Eq.trans eTt1 (Eq.trans (if_pos h5) (if_neg h6))))
      · skip
        refine wi_aload_n hC 2 d_PS_execute_86 rfl rfl ?_
        refine wi_iload hC 0 d_PS_execute_87 rfl ?_
        refine wi_iload_n hC 4 d_PS_execute_89 rfl rfl ?_
        refine wi_bipush hC 7 (by decide) d_PS_execute_90 ?_
        refine wi_iand hC d_PS_execute_92 ?_
        refine k_PS_doOwn hC (fun z => hq h6 h5 (e_v2.trans z) (e_v1.trans h4)) wd_1185 (by decide) (Nat.le_of_ble_eq_true rfl) d_PS_execute_93 ?_
        refine wi_nmC (fun s3 e_s3 => ?_)
        refine wi_goto hC 110 d_PS_execute_96 (by decide) ?_
        exact Jt1 s3 (by subst e_s3; exact (Eq.trans eTt1 (Eq.trans (if_pos h5) (if_pos h6))))
    · skip
      refine wi_aload_n hC 2 d_PS_execute_71 rfl rfl ?_
      refine wi_iload_n hC 3 d_PS_execute_72 rfl rfl ?_
      refine wi_iload hC 0 d_PS_execute_73 rfl ?_
      refine k_PS_doWithMemory hC hp (by rw [← e_v2]; exact (pk_andIn _ 3 rfl (by decide))) wd_1186 (by decide) (Nat.le_of_ble_eq_true rfl) d_PS_execute_75 ?_
      refine wi_nmC (fun s4 e_s4 => ?_)
      refine wi_goto hC 110 d_PS_execute_78 (by decide) ?_
      exact Jt1 s4 (by subst e_s4; exact (Eq.trans eTt1 (if_neg h5)))
  · skip
    refine wi_iload hC 0 d_PS_execute_45 rfl ?_
    have hf : f_PS_execute σ a1 a2 a3 a4 = (v1, σ) := by subst e_v1; exact (if_neg h4)
    exact wi_iret hC hr hk d_PS_execute_47 (congrArg (fun z => some (Value.int z.1)) hf) (congrArg (fun z => (z.2, τ, q)) hf).symm hQ
theorem k_PS_execute {p : Program} {l : Launch} {e : Env} {R : Room} {s : State} {m : MethodId} {args : Array Value} {below : List Frame} {meth : Method} {c : Code} {Q : State → Prop} {E : Ev} {nL pc index : Nat} {lv : List (Nat × Value)} {rest : List Value} {cc : ByteArray} {own : String} {σ τ : St} {q : Int64} {a1 : Int32} {a2 : Int32} {a3 : Int32} {a4 : Int32} (hC : Cx p s m args c cc nL own E)  (hp : vp_in a1 8) (hq : a1 = 1 → 192 ≤ a2 → jshr a2 3 &&& 7 = 5 → f_PS_sortOf σ a1 a2 = 0 → vp_in (a2 &&& 7) 7) (hn1 : f_PS_isPattern a1 a2 = true) (hn2 : f_PS_isPlace a3 = true) (hn3 : f_PS_isPlace a4 = true) (hl : Cond.methodLink own index y_PS_execute ∈ WL) (hR : 7 + 1 ≤ R.frames ∧ 8 + (7 + 11) + 179 ≤ R.locals) (hs8 : (rest.map fun v => v.category).sum ≤ 8) (d : decode cc pc = .ok (.invokevirtual index, 3)) (k : WS p l e R s m args below meth c Q E nL (pc + 3) lv ((.int ((f_PS_execute σ a1 a2 a3 a4).1)) :: rest) ((f_PS_execute σ a1 a2 a3 a4).2, τ, q)) : WS p l e R s m args below meth c Q E nL pc lv (.int a4 :: .int a3 :: .int a2 :: .int a1 :: .ref 0 :: rest) (σ, τ, q) := by
  exact wi_callV hC (n := 4) (vs := [.int a1, .int a2, .int a3, .int a4]) (rest := rest) 0 0 (by decide) rfl rfl rfl (c_PS_execute l E σ τ q a1 a2 a3 a4 hp hq hn1 hn2 hn3) (by decide +kernel) wd_1188 wd_395 wd_1189 wd_1190 ⟨rfl, rfl⟩ rfl rfl hl hR hs8 d k
set_option maxRecDepth 100000 in
set_option maxHeartbeats 400000 in
theorem c_PS_needs (l : Launch) (E : Ev) (σ τ : St) (q : Int64) (a1 : Int32) (a2 : Int32) (hp : vp_in a1 8) (hn1 : f_PS_isPattern a1 a2 = true) : MF l y_PS_needs prog_1_method_5_code 3 (some .int) { frames := 1, cells := 0, slots := 0, locals := 21 } E [.ref 0, .int a1, .int a2] (σ, τ, q) (some (.int (f_PS_needs σ a1 a2))) (σ, τ, q) := by
  refine MF_intro (lv0 := [(0, .ref 0), (1, .int a1), (2, .int a2)]) (by decide) wd_1191 (Nat.le_of_ble_eq_true rfl) rfl ?_
  intro p e s m args below meth c Q hC hr hk hQ
  replace hC : Cx p s m args c prog_1_method_5_code 3 "PartnerStack" E := hC
  refine wi_iload_n hC 1 d_PS_needs_0 rfl rfl ?_
  refine wi_iload_n hC 2 d_PS_needs_1 rfl rfl ?_
  refine k_PS_isPattern hC  wd_1180 (by decide) (Nat.le_of_ble_eq_true rfl) d_PS_needs_2 ?_
  refine wi_z_ne (b := (f_PS_isPattern a1 a2)) hC 18 d_PS_needs_5 (by decide) (fun _ => ?_) (fun h1 => absurd hn1 h1)
  refine wi_iload_n hC 2 d_PS_needs_18 rfl rfl ?_
  refine wi_sipush hC 192 (by decide) d_PS_needs_19 ?_
  obtain ⟨Tt1, eTt1⟩ : ∃ y : Int32, y = (
          if 192 ≤ a2 then
            0
          else
            tb0.getD (jat ((a1 * 8) + ((jshr a2 3) &&& 7))) 0) := ⟨_, rfl⟩
  have Jt1 : ∀ (t1 : Int32), Tt1 = t1 → WS p l e { frames := 1, cells := 0, slots := 0, locals := 21 } s m args below meth c Q E 3 44 [(0, .ref 0), (1, .int a1), (2, .int a2)] [.int t1] (σ, τ, q) := by
    intro t1  e_t1
    rw [eTt1] at e_t1
    have hf : f_PS_needs σ a1 a2 = t1 := by subst e_t1; exact rfl
    exact wi_iret hC hr hk d_PS_needs_44 (congrArg (fun z => some (Value.int z)) hf) rfl hQ
  refine wi_icmp_ge hC 43 d_PS_needs_22 (by decide) (fun h2 => ?_) (fun h2 => ?_)
  · skip
    refine wi_iconst hC 0 (by decide) d_PS_needs_43 ?_
    exact Jt1 0 (by exact (Eq.trans eTt1 (if_pos h2)))
  · skip
    refine wst_get50 hC wd_404 d_PS_needs_25 ?_
    refine wi_iload_n hC 1 d_PS_needs_28 rfl rfl ?_
    refine wi_bipush hC 8 (by decide) d_PS_needs_29 ?_
    refine wi_imul hC d_PS_needs_31 ?_
    refine wi_iload_n hC 2 d_PS_needs_32 rfl rfl ?_
    refine wi_iconst hC 3 (by decide) d_PS_needs_33 ?_
    refine wi_ishr hC d_PS_needs_34 ?_
    refine wi_bipush hC 7 (by decide) d_PS_needs_35 ?_
    refine wi_iand hC d_PS_needs_37 ?_
    refine wi_iadd hC d_PS_needs_38 ?_
    refine wst_ld50 hC (ix88 hp (pk_andIn _ 3 rfl (by decide))) d_PS_needs_39 ?_
    refine wi_goto hC 44 d_PS_needs_40 (by decide) ?_
    exact Jt1 (tb0.getD (jat ((a1 * 8) + ((jshr a2 3) &&& 7))) 0) (by exact (Eq.trans eTt1 (if_neg h2)))
theorem k_PS_needs {p : Program} {l : Launch} {e : Env} {R : Room} {s : State} {m : MethodId} {args : Array Value} {below : List Frame} {meth : Method} {c : Code} {Q : State → Prop} {E : Ev} {nL pc index : Nat} {lv : List (Nat × Value)} {rest : List Value} {cc : ByteArray} {own : String} {σ τ : St} {q : Int64} {a1 : Int32} {a2 : Int32} (hC : Cx p s m args c cc nL own E)  (hp : vp_in a1 8) (hn1 : f_PS_isPattern a1 a2 = true) (hl : Cond.methodLink own index y_PS_needs ∈ WL) (hR : 1 + 1 ≤ R.frames ∧ 8 + (3 + 11) + 21 ≤ R.locals) (hs8 : (rest.map fun v => v.category).sum ≤ 8) (d : decode cc pc = .ok (.invokevirtual index, 3)) (k : WS p l e R s m args below meth c Q E nL (pc + 3) lv ((.int (f_PS_needs σ a1 a2)) :: rest) (σ, τ, q)) : WS p l e R s m args below meth c Q E nL pc lv (.int a2 :: .int a1 :: .ref 0 :: rest) (σ, τ, q) := by
  exact wi_callV hC (n := 2) (vs := [.int a1, .int a2]) (rest := rest) 0 0 (by decide) rfl rfl rfl (c_PS_needs l E σ τ q a1 a2 hp hn1) (by decide +kernel) wd_1191 wd_395 wd_1192 wd_1193 ⟨rfl, rfl⟩ rfl rfl hl hR hs8 d k
set_option maxRecDepth 100000 in
set_option maxHeartbeats 400000 in
theorem c_PS_word (l : Launch) (E : Ev) (σ τ : St) (q : Int64) (a1 : Int32) (hp : 0 ≤ a1.toInt ∧ a1.toInt ≤ 7) : MF l y_PS_word prog_1_method_6_code 2 (some .int) { frames := 3, cells := 0, slots := 0, locals := 62 } E [.ref 0, .int a1] (σ, τ, q) (some (.int (f_PS_word σ a1))) (σ, τ, q) := by
  refine MF_intro (lv0 := [(0, .ref 0), (1, .int a1)]) (by decide) wd_1194 (Nat.le_of_ble_eq_true rfl) rfl ?_
  intro p e s m args below meth c Q hC hr hk hQ
  replace hC : Cx p s m args c prog_1_method_6_code 2 "PartnerStack" E := hC
  refine wi_iload_n hC 1 d_PS_word_0 rfl rfl ?_
  refine wi_by (a1 = 0) (fun h1 => ?_) (fun h1 => ?_)
  · skip
    refine wi_tsIn hC 0 48 d_PS_word_1 (by rw [h1]; decide) (by decide) rfl (by decide) ?_
    refine wi_aload_n hC 0 d_PS_word_48 rfl rfl ?_
    refine wg_PS_control hC wd_385 d_PS_word_49 ?_
    refine wg_Ctl_setting hC wd_386 d_PS_word_52 ?_
    have hf : f_PS_word σ a1 = gI σ 6 3 := by exact (if_pos h1)
    exact wi_iret hC hr hk d_PS_word_55 (congrArg (fun z => some (Value.int z)) hf) rfl hQ
  · skip
    refine wi_by (a1 = 1) (fun h2 => ?_) (fun h2 => ?_)
    · skip
      refine wi_tsIn hC 1 56 d_PS_word_1 (by rw [h2]; decide) (by decide) rfl (by decide) ?_
      refine wi_aload_n hC 0 d_PS_word_56 rfl rfl ?_
      refine k_PS_status hC  wd_430 (by decide) (Nat.le_of_ble_eq_true rfl) d_PS_word_57 ?_
      have hf : f_PS_word σ a1 = f_PS_status σ := by exact (Eq.trans (if_neg h1) (if_pos h2))
      exact wi_iret hC hr hk d_PS_word_60 (congrArg (fun z => some (Value.int z)) hf) rfl hQ
    · skip
      refine wi_by (a1 = 2) (fun h3 => ?_) (fun h3 => ?_)
      · skip
        refine wi_tsIn hC 2 61 d_PS_word_1 (by rw [h3]; decide) (by decide) rfl (by decide) ?_
        refine wi_aload_n hC 0 d_PS_word_61 rfl rfl ?_
        refine k_PS_tags hC  wd_431 (by decide) (Nat.le_of_ble_eq_true rfl) d_PS_word_62 ?_
        have hf : f_PS_word σ a1 = f_PS_tags σ := by exact (Eq.trans (if_neg h1) (Eq.trans (if_neg h2) (if_pos h3)))
        exact wi_iret hC hr hk d_PS_word_65 (congrArg (fun z => some (Value.int z)) hf) rfl hQ
      · skip
        refine wi_by (a1 = 3) (fun h4 => ?_) (fun h4 => ?_)
        · skip
          refine wi_tsIn hC 3 66 d_PS_word_1 (by rw [h4]; decide) (by decide) rfl (by decide) ?_
          refine wi_aload_n hC 0 d_PS_word_66 rfl rfl ?_
          refine k_PS_status hC  wd_430 (by decide) (Nat.le_of_ble_eq_true rfl) d_PS_word_67 ?_
          refine wi_sipush hC 128 (by decide) d_PS_word_70 ?_
          refine wi_iand hC d_PS_word_73 ?_
          obtain ⟨Tt1, eTt1⟩ : ∃ y : Bool, y = (
                  if (f_PS_status σ) &&& 128 = 0 then
                    false
                  else
                    if (gI σ 6 3) &&& 128 = 0 then
                      true
                    else
                      false) := ⟨_, rfl⟩
          have Jt1 : ∀ (t1 : Bool), Tt1 = t1 → WS p l e { frames := 3, cells := 0, slots := 0, locals := 62 } s m args below meth c Q E 2 96 [(0, .ref 0), (1, .int a1)] [.int (bI t1)] (σ, τ, q) := by
            intro t1  e_t1
            rw [eTt1] at e_t1
            have hf : f_PS_word σ a1 = bI t1 := by subst e_t1; exact (Eq.trans (if_neg h1) (Eq.trans (if_neg h2) (Eq.trans (if_neg h3) (if_pos h4))))
            exact wi_iret hC hr hk d_PS_word_96 (congrArg (fun z => some (Value.int z)) hf) rfl hQ
          refine wi_if_eq hC 95 d_PS_word_74 (by decide) (fun h5 => ?_) (fun h5 => ?_)
          · skip
            refine wi_iconst hC 0 (by decide) d_PS_word_95 ?_
            exact Jt1 false (by exact (Eq.trans eTt1 (if_pos h5)))
          · skip
            refine wi_aload_n hC 0 d_PS_word_77 rfl rfl ?_
            refine wg_PS_control hC wd_385 d_PS_word_78 ?_
            refine wg_Ctl_setting hC wd_386 d_PS_word_81 ?_
            refine wi_sipush hC 128 (by decide) d_PS_word_84 ?_
            refine wi_iand hC d_PS_word_87 ?_
            refine wi_if_ne hC 95 d_PS_word_88 (by decide) (fun h6 => ?_) (fun h6 => ?_)
            · skip
              refine wi_iconst hC 0 (by decide) d_PS_word_95 ?_
              exact Jt1 false (by exact (Eq.trans eTt1 (Eq.trans (if_neg h5) (if_neg h6))))
            · skip
              refine wi_iconst hC 1 (by decide) d_PS_word_91 ?_
              refine wi_goto hC 96 d_PS_word_92 (by decide) ?_
              exact Jt1 true (by exact (Eq.trans eTt1 (Eq.trans (if_neg h5) (if_pos h6))))
        · skip
          refine wi_by (a1 = 4) (fun h7 => ?_) (fun h7 => ?_)
          · skip
            refine wi_tsIn hC 4 97 d_PS_word_1 (by rw [h7]; decide) (by decide) rfl (by decide) ?_
            refine wi_aload_n hC 0 d_PS_word_97 rfl rfl ?_
            refine wg_PS_keptCode hC wd_391 d_PS_word_98 ?_
            have hf : f_PS_word σ a1 = gI σ 3 0 := by exact (Eq.trans (if_neg h1) (Eq.trans (if_neg h2) (Eq.trans (if_neg h3) (Eq.trans (if_neg h4) (if_pos h7)))))
            exact wi_iret hC hr hk d_PS_word_101 (congrArg (fun z => some (Value.int z)) hf) rfl hQ
          · skip
            refine wi_by (a1 = 5) (fun h8 => ?_) (fun h8 => ?_)
            · skip
              refine wi_tsIn hC 5 102 d_PS_word_1 (by rw [h8]; decide) (by decide) rfl (by decide) ?_
              refine wi_aload_n hC 0 d_PS_word_102 rfl rfl ?_
              refine wg_PS_keptCodePlace hC wd_392 d_PS_word_103 ?_
              have hf : f_PS_word σ a1 = gI σ 4 0 := by exact (Eq.trans (if_neg h1) (Eq.trans (if_neg h2) (Eq.trans (if_neg h3) (Eq.trans (if_neg h4) (Eq.trans (if_neg h7) (if_pos h8))))))
              exact wi_iret hC hr hk d_PS_word_106 (congrArg (fun z => some (Value.int z)) hf) rfl hQ
            · skip
              refine wi_by (a1 = 6) (fun h9 => ?_) (fun h9 => ?_)
              · skip
                refine wi_tsIn hC 6 107 d_PS_word_1 (by rw [h9]; decide) (by decide) rfl (by decide) ?_
                refine wi_aload_n hC 0 d_PS_word_107 rfl rfl ?_
                refine wg_PS_keptOperandPlace hC wd_393 d_PS_word_108 ?_
                have hf : f_PS_word σ a1 = gI σ 5 0 := by exact (Eq.trans (if_neg h1) (Eq.trans (if_neg h2) (Eq.trans (if_neg h3) (Eq.trans (if_neg h4) (Eq.trans (if_neg h7) (Eq.trans (if_neg h8) (if_pos h9)))))))
                exact wi_iret hC hr hk d_PS_word_111 (congrArg (fun z => some (Value.int z)) hf) rfl hQ
              · skip
                refine wi_by (a1 = 7) (fun h10 => ?_) (fun h10 => ?_)
                · skip
                  refine wi_tsIn hC 7 112 d_PS_word_1 (by rw [h10]; decide) (by decide) rfl (by decide) ?_
                  refine wi_aload_n hC 0 d_PS_word_112 rfl rfl ?_
                  refine wg_PS_control hC wd_385 d_PS_word_113 ?_
                  refine wg_Ctl_told hC wd_1183 d_PS_word_116 ?_
                  have hf : f_PS_word σ a1 = gI σ 7 3 := by exact (Eq.trans (if_neg h1) (Eq.trans (if_neg h2) (Eq.trans (if_neg h3) (Eq.trans (if_neg h4) (Eq.trans (if_neg h7) (Eq.trans (if_neg h8) (Eq.trans (if_neg h9) (if_pos h10))))))))
                  exact wi_iret hC hr hk d_PS_word_119 (congrArg (fun z => some (Value.int z)) hf) rfl hQ
                · skip
                  refine wi_tsOut hC 120 d_PS_word_1 (by have q0 := lv_neT h1 (a := 0) (by decide); have q1 := lv_neT h2 (a := 1) (by decide); have q2 := lv_neT h3 (a := 2) (by decide); have q3 := lv_neT h4 (a := 3) (by decide); have q4 := lv_neT h7 (a := 4) (by decide); have q5 := lv_neT h8 (a := 5) (by decide); have q6 := lv_neT h9 (a := 6) (by decide); have q7 := lv_neT h10 (a := 7) (by decide); omega) (by decide) ?_
                  exact absurd hp (by have q0 := lv_neT h1 (a := 0) (by decide); have q1 := lv_neT h2 (a := 1) (by decide); have q2 := lv_neT h3 (a := 2) (by decide); have q3 := lv_neT h4 (a := 3) (by decide); have q4 := lv_neT h7 (a := 4) (by decide); have q5 := lv_neT h8 (a := 5) (by decide); have q6 := lv_neT h9 (a := 6) (by decide); have q7 := lv_neT h10 (a := 7) (by decide); omega)
theorem k_PS_word {p : Program} {l : Launch} {e : Env} {R : Room} {s : State} {m : MethodId} {args : Array Value} {below : List Frame} {meth : Method} {c : Code} {Q : State → Prop} {E : Ev} {nL pc index : Nat} {lv : List (Nat × Value)} {rest : List Value} {cc : ByteArray} {own : String} {σ τ : St} {q : Int64} {a1 : Int32} (hC : Cx p s m args c cc nL own E)  (hp : 0 ≤ a1.toInt ∧ a1.toInt ≤ 7) (hl : Cond.methodLink own index y_PS_word ∈ WL) (hR : 3 + 1 ≤ R.frames ∧ 8 + (2 + 11) + 62 ≤ R.locals) (hs8 : (rest.map fun v => v.category).sum ≤ 8) (d : decode cc pc = .ok (.invokevirtual index, 3)) (k : WS p l e R s m args below meth c Q E nL (pc + 3) lv ((.int (f_PS_word σ a1)) :: rest) (σ, τ, q)) : WS p l e R s m args below meth c Q E nL pc lv (.int a1 :: .ref 0 :: rest) (σ, τ, q) := by
  exact wi_callV hC (n := 1) (vs := [.int a1]) (rest := rest) 0 0 (by decide) rfl rfl rfl (c_PS_word l E σ τ q a1 hp) (by decide +kernel) wd_1194 wd_395 wd_1195 wd_1196 ⟨rfl, rfl⟩ rfl rfl hl hR hs8 d k
set_option maxRecDepth 100000 in
set_option maxHeartbeats 400000 in
theorem c_PS_part (l : Launch) (E : Ev) (σ τ : St) (q : Int64) (a1 : Int32) (a2 : Int32) (hn1 : ¬ a1 < 0) (hn2 : a1 < 8) (hn3 : ¬ a2 < 0) (hn4 : a2 ≤ 2) : MF l y_PS_part prog_1_method_7_code 4 (some .int) { frames := 1, cells := 0, slots := 0, locals := 21 } E [.ref 0, .int a1, .int a2] (σ, τ, q) (some (.int (f_PS_part σ a1 a2))) (σ, τ, q) := by
  refine MF_intro (lv0 := [(0, .ref 0), (1, .int a1), (2, .int a2)]) (by decide) wd_1199 (Nat.le_of_ble_eq_true rfl) rfl ?_
  intro p e s m args below meth c Q hC hr hk hQ
  replace hC : Cx p s m args c prog_1_method_7_code 4 "PartnerStack" E := hC
  refine wi_iload_n hC 1 d_PS_part_0 rfl rfl ?_
  refine wi_if_lt hC 10 d_PS_part_1 (by decide) (fun h1 => absurd h1 hn1) (fun _ => ?_)
  refine wi_iload_n hC 1 d_PS_part_4 rfl rfl ?_
  refine wi_bipush hC 8 (by decide) d_PS_part_5 ?_
  refine wi_icmp_lt hC 20 d_PS_part_7 (by decide) (fun _ => ?_) (fun h2 => absurd hn2 h2)
  refine wi_iload_n hC 2 d_PS_part_20 rfl rfl ?_
  refine wi_if_lt hC 29 d_PS_part_21 (by decide) (fun h3 => absurd h3 hn3) (fun _ => ?_)
  refine wi_iload_n hC 2 d_PS_part_24 rfl rfl ?_
  refine wi_iconst hC 2 (by decide) d_PS_part_25 ?_
  refine wi_icmp_le hC 39 d_PS_part_26 (by decide) (fun _ => ?_) (fun h4 => absurd hn4 h4)
  refine wi_aload_n hC 0 d_PS_part_39 rfl rfl ?_
  refine wg_PS_registers hC wd_416 d_PS_part_40 ?_
  refine wi_aload_n hC 0 d_PS_part_43 rfl rfl ?_
  refine wi_iload_n hC 1 d_PS_part_44 rfl rfl ?_
  refine k_PS_place hC  wd_417 (by decide) (Nat.le_of_ble_eq_true rfl) d_PS_part_45 ?_
  refine wa_ld28 hC (place_in _ _) d_PS_part_48 ?_
  refine wi_astore_n hC [(3, .ref (16 + jat (f_PS_place σ a1))), (0, .ref 0), (1, .int a1), (2, .int a2)] d_PS_part_49 rfl (by decide) rfl ?_
  refine wi_iload_n hC 3 d_PS_part_50 rfl rfl ?_
  refine wi_if_ne hC 59 d_PS_part_51 (by decide) (fun h5 => ?_) (fun h5 => ?_)
  · skip
    refine wi_iload_n hC 3 d_PS_part_59 rfl rfl ?_
    refine wi_iconst hC 1 (by decide) d_PS_part_60 ?_
    obtain ⟨Tt1, eTt1⟩ : ∃ y : Int32, y = (
            if a2 = 1 then
              Int64.toInt32 (jlushr (gJ σ 17 (16 + jat (f_PS_place σ a1))) 32)
            else
              Int64.toInt32 (gJ σ 17 (16 + jat (f_PS_place σ a1)))) := ⟨_, rfl⟩
    have Jt1 : ∀ (t1 : Int32), Tt1 = t1 → WS p l e { frames := 1, cells := 0, slots := 0, locals := 21 } s m args below meth c Q E 4 80 [(3, .ref (16 + jat (f_PS_place σ a1))), (0, .ref 0), (1, .int a1), (2, .int a2)] [.int t1] (σ, τ, q) := by
      intro t1  e_t1
      rw [eTt1] at e_t1
      have hf : f_PS_part σ a1 a2 = t1 := by subst e_t1; exact (if_neg h5)
      exact wi_iret hC hr hk d_PS_part_80 (congrArg (fun z => some (Value.int z)) hf) rfl hQ
    refine wi_icmp_ne hC 75 d_PS_part_61 (by decide) (fun h6 => ?_) (fun h6 => ?_)
    · skip
      refine wi_aload_n hC 0 d_PS_part_75 rfl rfl ?_
      refine wg_Real_fraction hC (isReg (place_in _ _)) wd_1197 d_PS_part_76 ?_
      refine wi_l2i hC d_PS_part_79 ?_
      exact Jt1 (Int64.toInt32 (gJ σ 17 (16 + jat (f_PS_place σ a1)))) (by exact (Eq.trans eTt1 (if_neg h6)))
    · skip
      refine wi_aload_n hC 0 d_PS_part_64 rfl rfl ?_
      refine wg_Real_fraction hC (isReg (place_in _ _)) wd_1197 d_PS_part_65 ?_
      refine wi_bipush hC 32 (by decide) d_PS_part_68 ?_
      refine wi_lushr hC d_PS_part_70 ?_
      refine wi_l2i hC d_PS_part_71 ?_
      refine wi_goto hC 80 d_PS_part_72 (by decide) ?_
      exact Jt1 (Int64.toInt32 (jlushr (gJ σ 17 (16 + jat (f_PS_place σ a1))) 32)) (by exact (Eq.trans eTt1 (if_pos h6)))
  · skip
    refine wi_aload_n hC 0 d_PS_part_54 rfl rfl ?_
    refine k_Real_top hC (isReg (place_in _ _)) wd_1198 (by decide) (Nat.le_of_ble_eq_true rfl) d_PS_part_55 ?_
    have hf : f_PS_part σ a1 a2 = f_Real_top σ (16 + jat (f_PS_place σ a1)) := by exact (if_pos h5)
    exact wi_iret hC hr hk d_PS_part_58 (congrArg (fun z => some (Value.int z)) hf) rfl hQ
theorem k_PS_part {p : Program} {l : Launch} {e : Env} {R : Room} {s : State} {m : MethodId} {args : Array Value} {below : List Frame} {meth : Method} {c : Code} {Q : State → Prop} {E : Ev} {nL pc index : Nat} {lv : List (Nat × Value)} {rest : List Value} {cc : ByteArray} {own : String} {σ τ : St} {q : Int64} {a1 : Int32} {a2 : Int32} (hC : Cx p s m args c cc nL own E)  (hn1 : ¬ a1 < 0) (hn2 : a1 < 8) (hn3 : ¬ a2 < 0) (hn4 : a2 ≤ 2) (hl : Cond.methodLink own index y_PS_part ∈ WL) (hR : 1 + 1 ≤ R.frames ∧ 8 + (4 + 11) + 21 ≤ R.locals) (hs8 : (rest.map fun v => v.category).sum ≤ 8) (d : decode cc pc = .ok (.invokevirtual index, 3)) (k : WS p l e R s m args below meth c Q E nL (pc + 3) lv ((.int (f_PS_part σ a1 a2)) :: rest) (σ, τ, q)) : WS p l e R s m args below meth c Q E nL pc lv (.int a2 :: .int a1 :: .ref 0 :: rest) (σ, τ, q) := by
  exact wi_callV hC (n := 2) (vs := [.int a1, .int a2]) (rest := rest) 0 0 (by decide) rfl rfl rfl (c_PS_part l E σ τ q a1 a2 hn1 hn2 hn3 hn4) (by decide +kernel) wd_1199 wd_395 wd_1200 wd_1201 ⟨rfl, rfl⟩ rfl rfl hl hR hs8 d k
