def y_Real_set : MethodName := ⟨"PartnerStack$Real", "set", "(ZIJ)V"⟩
def y_Real_isNothing : MethodName := ⟨"PartnerStack$Real", "isNothing", "()Z"⟩
def y_Real_kind : MethodName := ⟨"PartnerStack$Real", "kind", "()I"⟩
def y_Real_tag : MethodName := ⟨"PartnerStack$Real", "tag", "()I"⟩
def y_Real_top : MethodName := ⟨"PartnerStack$Real", "top", "()I"⟩
def y_Ctl_tell : MethodName := ⟨"PartnerStack$Control", "tell", "(I)V"⟩
def y_Real_setIndefinite : MethodName := ⟨"PartnerStack$Real", "setIndefinite", "()V"⟩
def y_Real_take : MethodName := ⟨"PartnerStack$Real", "take", "(LPartnerStack$Real;)V"⟩
def y_Ctl_ends : MethodName := ⟨"PartnerStack$Control", "ends", "()Z"⟩
def y_Real_setZero : MethodName := ⟨"PartnerStack$Real", "setZero", "(Z)V"⟩
def y_Ctl_knowsOneInfinite : MethodName := ⟨"PartnerStack$Control", "knowsOneInfinite", "()Z"⟩
def y_Real_isInfinite : MethodName := ⟨"PartnerStack$Real", "isInfinite", "()Z"⟩
def y_Real_goesBefore : MethodName := ⟨"PartnerStack$Real", "goesBefore", "(LPartnerStack$Real;)Z"⟩
def y_Real_takeNoNumber : MethodName := ⟨"PartnerStack$Real", "takeNoNumber", "(LPartnerStack$Real;LPartnerStack$Real;)Z"⟩
def y_Ctl_settles : MethodName := ⟨"PartnerStack$Control", "settles", "(LPartnerStack$Real;LPartnerStack$Real;ZLPartnerStack$Real;)Z"⟩
def y_Real_isUnnormalSomething : MethodName := ⟨"PartnerStack$Real", "isUnnormalSomething", "()Z"⟩
def y_Real_setInfinite : MethodName := ⟨"PartnerStack$Real", "setInfinite", "(Z)V"⟩
def y_Ctl_rounding : MethodName := ⟨"PartnerStack$Control", "rounding", "()I"⟩
def y_Ctl_digits : MethodName := ⟨"PartnerStack$Control", "digits", "()I"⟩
def y_Ctl_masks : MethodName := ⟨"PartnerStack$Control", "masks", "(I)Z"⟩
def y_Ctl_overBecomesInfinite : MethodName := ⟨"PartnerStack$Control", "overBecomesInfinite", "(Z)Z"⟩
def y_Ctl_endsWriting : MethodName := ⟨"PartnerStack$Control", "endsWriting", "()Z"⟩
theorem wd_0 : (Cond.fieldLink "PartnerStack$Real" (25 : Nat) "PartnerStack$Real" "minus" "Z") ∈ WL := WL_1 (List.mem_of_getElem? (i := 203) rfl) rfl
theorem wd_1 : (Cond.fieldLink "PartnerStack$Real" (7 : Nat) "PartnerStack$Real" "power" "I") ∈ WL := WL_1 (List.mem_of_getElem? (i := 205) rfl) rfl
theorem wd_2 : (Cond.fieldLink "PartnerStack$Real" (13 : Nat) "PartnerStack$Real" "fraction" "J") ∈ WL := WL_1 (List.mem_of_getElem? (i := 208) rfl) rfl
theorem wd_3 : (Cond.code ({ cls := "PartnerStack$Real", name := "set", desc := "(ZIJ)V" } : MethodName) prog_7_method_8_code (5 : Nat) (Option.none : Option FieldType)) ∈ WL := WL_2 (List.mem_of_getElem? (i := 198) rfl) rfl
theorem wd_4 : (Cond.initialized "PartnerStack$Real") ∈ WL := WL_1 (List.mem_of_getElem? (i := 10) rfl) rfl
theorem wd_5 : (Cond.instanceMethod ({ cls := "PartnerStack$Real", name := "set", desc := "(ZIJ)V" } : MethodName)) ∈ WL := WL_2 (List.mem_of_getElem? (i := 196) rfl) rfl
theorem wd_6 : (Cond.selects "PartnerStack$Real" ({ cls := "PartnerStack$Real", name := "set", desc := "(ZIJ)V" } : MethodName) ({ cls := "PartnerStack$Real", name := "set", desc := "(ZIJ)V" } : MethodName)) ∈ WL := WL_2 (List.mem_of_getElem? (i := 197) rfl) rfl
theorem wd_7 : (Cond.code ({ cls := "PartnerStack$Real", name := "isNothing", desc := "()Z" } : MethodName) prog_7_method_4_code (1 : Nat) (Option.some FieldType.boolean)) ∈ WL := WL_2 (List.mem_of_getElem? (i := 218) rfl) rfl
theorem wd_8 : (Cond.instanceMethod ({ cls := "PartnerStack$Real", name := "isNothing", desc := "()Z" } : MethodName)) ∈ WL := WL_2 (List.mem_of_getElem? (i := 216) rfl) rfl
theorem wd_9 : (Cond.selects "PartnerStack$Real" ({ cls := "PartnerStack$Real", name := "isNothing", desc := "()Z" } : MethodName) ({ cls := "PartnerStack$Real", name := "isNothing", desc := "()Z" } : MethodName)) ∈ WL := WL_2 (List.mem_of_getElem? (i := 217) rfl) rfl
theorem wd_10 : (Cond.code ({ cls := "PartnerStack$Real", name := "kind", desc := "()I" } : MethodName) prog_7_method_2_code (1 : Nat) (Option.some FieldType.int)) ∈ WL := WL_2 (List.mem_of_getElem? (i := 222) rfl) rfl
theorem wd_11 : (Cond.instanceMethod ({ cls := "PartnerStack$Real", name := "kind", desc := "()I" } : MethodName)) ∈ WL := WL_2 (List.mem_of_getElem? (i := 220) rfl) rfl
theorem wd_12 : (Cond.selects "PartnerStack$Real" ({ cls := "PartnerStack$Real", name := "kind", desc := "()I" } : MethodName) ({ cls := "PartnerStack$Real", name := "kind", desc := "()I" } : MethodName)) ∈ WL := WL_2 (List.mem_of_getElem? (i := 221) rfl) rfl
theorem wd_13 : (Cond.methodLink "PartnerStack$Real" (17 : Nat) ({ cls := "PartnerStack$Real", name := "isNothing", desc := "()Z" } : MethodName)) ∈ WL := WL_2 (List.mem_of_getElem? (i := 215) rfl) rfl
theorem wd_14 : (Cond.methodLink "PartnerStack$Real" (21 : Nat) ({ cls := "PartnerStack$Real", name := "kind", desc := "()I" } : MethodName)) ∈ WL := WL_2 (List.mem_of_getElem? (i := 219) rfl) rfl
theorem wd_15 : (Cond.code ({ cls := "PartnerStack$Real", name := "tag", desc := "()I" } : MethodName) prog_7_method_6_code (1 : Nat) (Option.some FieldType.int)) ∈ WL := WL_2 (List.mem_of_getElem? (i := 214) rfl) rfl
theorem wd_16 : (Cond.instanceMethod ({ cls := "PartnerStack$Real", name := "tag", desc := "()I" } : MethodName)) ∈ WL := WL_2 (List.mem_of_getElem? (i := 212) rfl) rfl
theorem wd_17 : (Cond.selects "PartnerStack$Real" ({ cls := "PartnerStack$Real", name := "tag", desc := "()I" } : MethodName) ({ cls := "PartnerStack$Real", name := "tag", desc := "()I" } : MethodName)) ∈ WL := WL_2 (List.mem_of_getElem? (i := 213) rfl) rfl
theorem wd_18 : (Cond.constant "PartnerStack$Real" (29 : Nat) (32768 : Int32)) ∈ WL := WL_2 (List.mem_of_getElem? (i := 236) rfl) rfl
theorem wd_19 : (Cond.code ({ cls := "PartnerStack$Real", name := "top", desc := "()I" } : MethodName) prog_7_method_7_code (1 : Nat) (Option.some FieldType.int)) ∈ WL := WL_2 (List.mem_of_getElem? (i := 235) rfl) rfl
theorem wd_20 : (Cond.instanceMethod ({ cls := "PartnerStack$Real", name := "top", desc := "()I" } : MethodName)) ∈ WL := WL_2 (List.mem_of_getElem? (i := 233) rfl) rfl
theorem wd_21 : (Cond.selects "PartnerStack$Real" ({ cls := "PartnerStack$Real", name := "top", desc := "()I" } : MethodName) ({ cls := "PartnerStack$Real", name := "top", desc := "()I" } : MethodName)) ∈ WL := WL_2 (List.mem_of_getElem? (i := 234) rfl) rfl
theorem wd_22 : (Cond.fieldLink "PartnerStack$Control" (9 : Nat) "PartnerStack$Control" "told" "I") ∈ WL := WL_1 (List.mem_of_getElem? (i := 47) rfl) rfl
theorem wd_23 : (Cond.code ({ cls := "PartnerStack$Control", name := "tell", desc := "(I)V" } : MethodName) prog_2_method_2_code (2 : Nat) (Option.none : Option FieldType)) ∈ WL := WL_3 (List.mem_of_getElem? (i := 4) rfl) rfl
theorem wd_24 : (Cond.initialized "PartnerStack$Control") ∈ WL := WL_1 (List.mem_of_getElem? (i := 3) rfl) rfl
theorem wd_25 : (Cond.instanceMethod ({ cls := "PartnerStack$Control", name := "tell", desc := "(I)V" } : MethodName)) ∈ WL := WL_3 (List.mem_of_getElem? (i := 2) rfl) rfl
theorem wd_26 : (Cond.selects "PartnerStack$Control" ({ cls := "PartnerStack$Control", name := "tell", desc := "(I)V" } : MethodName) ({ cls := "PartnerStack$Control", name := "tell", desc := "(I)V" } : MethodName)) ∈ WL := WL_3 (List.mem_of_getElem? (i := 3) rfl) rfl
theorem wd_27 : (Cond.constantLong "PartnerStack$Real" (36 : Nat) (-4611686018427387904 : Int64)) ∈ WL := WL_3 (List.mem_of_getElem? (i := 9) rfl) rfl
theorem wd_28 : (Cond.methodLink "PartnerStack$Real" (30 : Nat) ({ cls := "PartnerStack$Real", name := "set", desc := "(ZIJ)V" } : MethodName)) ∈ WL := WL_3 (List.mem_of_getElem? (i := 10) rfl) rfl
theorem wd_29 : (Cond.code ({ cls := "PartnerStack$Real", name := "setIndefinite", desc := "()V" } : MethodName) prog_7_method_11_code (1 : Nat) (Option.none : Option FieldType)) ∈ WL := WL_3 (List.mem_of_getElem? (i := 8) rfl) rfl
theorem wd_30 : (Cond.instanceMethod ({ cls := "PartnerStack$Real", name := "setIndefinite", desc := "()V" } : MethodName)) ∈ WL := WL_3 (List.mem_of_getElem? (i := 6) rfl) rfl
theorem wd_31 : (Cond.selects "PartnerStack$Real" ({ cls := "PartnerStack$Real", name := "setIndefinite", desc := "()V" } : MethodName) ({ cls := "PartnerStack$Real", name := "setIndefinite", desc := "()V" } : MethodName)) ∈ WL := WL_3 (List.mem_of_getElem? (i := 7) rfl) rfl
theorem wd_32 : (Cond.code ({ cls := "PartnerStack$Real", name := "take", desc := "(LPartnerStack$Real;)V" } : MethodName) prog_7_method_12_code (2 : Nat) (Option.none : Option FieldType)) ∈ WL := WL_3 (List.mem_of_getElem? (i := 14) rfl) rfl
theorem wd_33 : (Cond.instanceMethod ({ cls := "PartnerStack$Real", name := "take", desc := "(LPartnerStack$Real;)V" } : MethodName)) ∈ WL := WL_3 (List.mem_of_getElem? (i := 12) rfl) rfl
theorem wd_34 : (Cond.selects "PartnerStack$Real" ({ cls := "PartnerStack$Real", name := "take", desc := "(LPartnerStack$Real;)V" } : MethodName) ({ cls := "PartnerStack$Real", name := "take", desc := "(LPartnerStack$Real;)V" } : MethodName)) ∈ WL := WL_3 (List.mem_of_getElem? (i := 13) rfl) rfl
theorem wd_35 : (Cond.fieldLink "PartnerStack$Control" (13 : Nat) "PartnerStack$Control" "setting" "I") ∈ WL := WL_1 (List.mem_of_getElem? (i := 45) rfl) rfl
theorem wd_36 : (Cond.code ({ cls := "PartnerStack$Control", name := "ends", desc := "()Z" } : MethodName) prog_2_method_4_code (1 : Nat) (Option.some FieldType.boolean)) ∈ WL := WL_3 (List.mem_of_getElem? (i := 18) rfl) rfl
theorem wd_37 : (Cond.instanceMethod ({ cls := "PartnerStack$Control", name := "ends", desc := "()Z" } : MethodName)) ∈ WL := WL_3 (List.mem_of_getElem? (i := 16) rfl) rfl
theorem wd_38 : (Cond.selects "PartnerStack$Control" ({ cls := "PartnerStack$Control", name := "ends", desc := "()Z" } : MethodName) ({ cls := "PartnerStack$Control", name := "ends", desc := "()Z" } : MethodName)) ∈ WL := WL_3 (List.mem_of_getElem? (i := 17) rfl) rfl
theorem wd_39 : (Cond.code ({ cls := "PartnerStack$Real", name := "setZero", desc := "(Z)V" } : MethodName) prog_7_method_9_code (2 : Nat) (Option.none : Option FieldType)) ∈ WL := WL_3 (List.mem_of_getElem? (i := 34) rfl) rfl
theorem wd_40 : (Cond.instanceMethod ({ cls := "PartnerStack$Real", name := "setZero", desc := "(Z)V" } : MethodName)) ∈ WL := WL_3 (List.mem_of_getElem? (i := 32) rfl) rfl
theorem wd_41 : (Cond.selects "PartnerStack$Real" ({ cls := "PartnerStack$Real", name := "setZero", desc := "(Z)V" } : MethodName) ({ cls := "PartnerStack$Real", name := "setZero", desc := "(Z)V" } : MethodName)) ∈ WL := WL_3 (List.mem_of_getElem? (i := 33) rfl) rfl
theorem wd_42 : (Cond.code ({ cls := "PartnerStack$Control", name := "knowsOneInfinite", desc := "()Z" } : MethodName) prog_2_method_9_code (1 : Nat) (Option.some FieldType.boolean)) ∈ WL := WL_3 (List.mem_of_getElem? (i := 76) rfl) rfl
theorem wd_43 : (Cond.instanceMethod ({ cls := "PartnerStack$Control", name := "knowsOneInfinite", desc := "()Z" } : MethodName)) ∈ WL := WL_3 (List.mem_of_getElem? (i := 74) rfl) rfl
theorem wd_44 : (Cond.selects "PartnerStack$Control" ({ cls := "PartnerStack$Control", name := "knowsOneInfinite", desc := "()Z" } : MethodName) ({ cls := "PartnerStack$Control", name := "knowsOneInfinite", desc := "()Z" } : MethodName)) ∈ WL := WL_3 (List.mem_of_getElem? (i := 75) rfl) rfl
theorem wd_45 : (Cond.code ({ cls := "PartnerStack$Real", name := "isInfinite", desc := "()Z" } : MethodName) prog_7_method_3_code (1 : Nat) (Option.some FieldType.boolean)) ∈ WL := WL_3 (List.mem_of_getElem? (i := 80) rfl) rfl
theorem wd_46 : (Cond.instanceMethod ({ cls := "PartnerStack$Real", name := "isInfinite", desc := "()Z" } : MethodName)) ∈ WL := WL_3 (List.mem_of_getElem? (i := 78) rfl) rfl
theorem wd_47 : (Cond.selects "PartnerStack$Real" ({ cls := "PartnerStack$Real", name := "isInfinite", desc := "()Z" } : MethodName) ({ cls := "PartnerStack$Real", name := "isInfinite", desc := "()Z" } : MethodName)) ∈ WL := WL_3 (List.mem_of_getElem? (i := 79) rfl) rfl
theorem wd_48 : (Cond.constantLong "PartnerStack$Real" (34 : Nat) (-9223372036854775808 : Int64)) ∈ WL := WL_3 (List.mem_of_getElem? (i := 93) rfl) rfl
theorem wd_49 : (Cond.code ({ cls := "PartnerStack$Real", name := "goesBefore", desc := "(LPartnerStack$Real;)Z" } : MethodName) prog_7_method_14_code (2 : Nat) (Option.some FieldType.boolean)) ∈ WL := WL_3 (List.mem_of_getElem? (i := 92) rfl) rfl
theorem wd_50 : (Cond.instanceMethod ({ cls := "PartnerStack$Real", name := "goesBefore", desc := "(LPartnerStack$Real;)Z" } : MethodName)) ∈ WL := WL_3 (List.mem_of_getElem? (i := 91) rfl) rfl
theorem wd_51 : (Cond.selects "PartnerStack$Real" ({ cls := "PartnerStack$Real", name := "goesBefore", desc := "(LPartnerStack$Real;)Z" } : MethodName) ({ cls := "PartnerStack$Real", name := "goesBefore", desc := "(LPartnerStack$Real;)Z" } : MethodName)) ∈ WL := WL_p (List.mem_map.mpr ⟨_, (List.mem_append_right _ (List.mem_append_left _ (List.mem_of_getElem? (i := 3) (l := lw_privs_2) rfl))), rfl⟩) rfl
theorem wd_52 : (Cond.methodLink "PartnerStack$Real" (38 : Nat) ({ cls := "PartnerStack$Real", name := "goesBefore", desc := "(LPartnerStack$Real;)Z" } : MethodName)) ∈ WL := WL_3 (List.mem_of_getElem? (i := 89) rfl) rfl
theorem wd_53 : (Cond.methodLink "PartnerStack$Real" (42 : Nat) ({ cls := "PartnerStack$Real", name := "take", desc := "(LPartnerStack$Real;)V" } : MethodName)) ∈ WL := WL_3 (List.mem_of_getElem? (i := 94) rfl) rfl
theorem wd_54 : (Cond.code ({ cls := "PartnerStack$Real", name := "takeNoNumber", desc := "(LPartnerStack$Real;LPartnerStack$Real;)Z" } : MethodName) prog_7_method_13_code (5 : Nat) (Option.some FieldType.boolean)) ∈ WL := WL_3 (List.mem_of_getElem? (i := 88) rfl) rfl
theorem wd_55 : (Cond.instanceMethod ({ cls := "PartnerStack$Real", name := "takeNoNumber", desc := "(LPartnerStack$Real;LPartnerStack$Real;)Z" } : MethodName)) ∈ WL := WL_3 (List.mem_of_getElem? (i := 86) rfl) rfl
theorem wd_56 : (Cond.selects "PartnerStack$Real" ({ cls := "PartnerStack$Real", name := "takeNoNumber", desc := "(LPartnerStack$Real;LPartnerStack$Real;)Z" } : MethodName) ({ cls := "PartnerStack$Real", name := "takeNoNumber", desc := "(LPartnerStack$Real;LPartnerStack$Real;)Z" } : MethodName)) ∈ WL := WL_3 (List.mem_of_getElem? (i := 87) rfl) rfl
theorem wd_57 : (Cond.methodLink "PartnerStack$Control" (20 : Nat) ({ cls := "PartnerStack$Real", name := "takeNoNumber", desc := "(LPartnerStack$Real;LPartnerStack$Real;)Z" } : MethodName)) ∈ WL := WL_3 (List.mem_of_getElem? (i := 85) rfl) rfl
theorem wd_58 : (Cond.methodLink "PartnerStack$Control" (33 : Nat) ({ cls := "PartnerStack$Real", name := "kind", desc := "()I" } : MethodName)) ∈ WL := WL_3 (List.mem_of_getElem? (i := 97) rfl) rfl
theorem wd_59 : (Cond.methodLink "PartnerStack$Control" (26 : Nat) ({ cls := "PartnerStack$Control", name := "tell", desc := "(I)V" } : MethodName)) ∈ WL := WL_3 (List.mem_of_getElem? (i := 95) rfl) rfl
theorem wd_60 : (Cond.methodLink "PartnerStack$Control" (36 : Nat) ({ cls := "PartnerStack$Control", name := "ends", desc := "()Z" } : MethodName)) ∈ WL := WL_3 (List.mem_of_getElem? (i := 98) rfl) rfl
theorem wd_61 : (Cond.methodLink "PartnerStack$Control" (30 : Nat) ({ cls := "PartnerStack$Real", name := "setIndefinite", desc := "()V" } : MethodName)) ∈ WL := WL_3 (List.mem_of_getElem? (i := 96) rfl) rfl
theorem wd_62 : (Cond.code ({ cls := "PartnerStack$Control", name := "settles", desc := "(LPartnerStack$Real;LPartnerStack$Real;ZLPartnerStack$Real;)Z" } : MethodName) prog_2_method_10_code (5 : Nat) (Option.some FieldType.boolean)) ∈ WL := WL_3 (List.mem_of_getElem? (i := 84) rfl) rfl
theorem wd_63 : (Cond.instanceMethod ({ cls := "PartnerStack$Control", name := "settles", desc := "(LPartnerStack$Real;LPartnerStack$Real;ZLPartnerStack$Real;)Z" } : MethodName)) ∈ WL := WL_3 (List.mem_of_getElem? (i := 82) rfl) rfl
theorem wd_64 : (Cond.selects "PartnerStack$Control" ({ cls := "PartnerStack$Control", name := "settles", desc := "(LPartnerStack$Real;LPartnerStack$Real;ZLPartnerStack$Real;)Z" } : MethodName) ({ cls := "PartnerStack$Control", name := "settles", desc := "(LPartnerStack$Real;LPartnerStack$Real;ZLPartnerStack$Real;)Z" } : MethodName)) ∈ WL := WL_3 (List.mem_of_getElem? (i := 83) rfl) rfl
theorem wd_65 : (Cond.code ({ cls := "PartnerStack$Real", name := "isUnnormalSomething", desc := "()Z" } : MethodName) prog_7_method_5_code (1 : Nat) (Option.some FieldType.boolean)) ∈ WL := WL_3 (List.mem_of_getElem? (i := 134) rfl) rfl
theorem wd_66 : (Cond.instanceMethod ({ cls := "PartnerStack$Real", name := "isUnnormalSomething", desc := "()Z" } : MethodName)) ∈ WL := WL_3 (List.mem_of_getElem? (i := 132) rfl) rfl
theorem wd_67 : (Cond.selects "PartnerStack$Real" ({ cls := "PartnerStack$Real", name := "isUnnormalSomething", desc := "()Z" } : MethodName) ({ cls := "PartnerStack$Real", name := "isUnnormalSomething", desc := "()Z" } : MethodName)) ∈ WL := WL_3 (List.mem_of_getElem? (i := 133) rfl) rfl
theorem wd_68 : (Cond.code ({ cls := "PartnerStack$Real", name := "setInfinite", desc := "(Z)V" } : MethodName) prog_7_method_10_code (2 : Nat) (Option.none : Option FieldType)) ∈ WL := WL_3 (List.mem_of_getElem? (i := 140) rfl) rfl
theorem wd_69 : (Cond.instanceMethod ({ cls := "PartnerStack$Real", name := "setInfinite", desc := "(Z)V" } : MethodName)) ∈ WL := WL_3 (List.mem_of_getElem? (i := 138) rfl) rfl
theorem wd_70 : (Cond.selects "PartnerStack$Real" ({ cls := "PartnerStack$Real", name := "setInfinite", desc := "(Z)V" } : MethodName) ({ cls := "PartnerStack$Real", name := "setInfinite", desc := "(Z)V" } : MethodName)) ∈ WL := WL_3 (List.mem_of_getElem? (i := 139) rfl) rfl
theorem wd_71 : (Cond.code ({ cls := "PartnerStack$Control", name := "rounding", desc := "()I" } : MethodName) prog_2_method_7_code (1 : Nat) (Option.some FieldType.int)) ∈ WL := WL_3 (List.mem_of_getElem? (i := 175) rfl) rfl
theorem wd_72 : (Cond.instanceMethod ({ cls := "PartnerStack$Control", name := "rounding", desc := "()I" } : MethodName)) ∈ WL := WL_3 (List.mem_of_getElem? (i := 173) rfl) rfl
theorem wd_73 : (Cond.selects "PartnerStack$Control" ({ cls := "PartnerStack$Control", name := "rounding", desc := "()I" } : MethodName) ({ cls := "PartnerStack$Control", name := "rounding", desc := "()I" } : MethodName)) ∈ WL := WL_3 (List.mem_of_getElem? (i := 174) rfl) rfl
theorem wd_74 : (Cond.code ({ cls := "PartnerStack$Control", name := "digits", desc := "()I" } : MethodName) prog_2_method_6_code (2 : Nat) (Option.some FieldType.int)) ∈ WL := WL_3 (List.mem_of_getElem? (i := 196) rfl) rfl
theorem wd_75 : (Cond.instanceMethod ({ cls := "PartnerStack$Control", name := "digits", desc := "()I" } : MethodName)) ∈ WL := WL_3 (List.mem_of_getElem? (i := 194) rfl) rfl
theorem wd_76 : (Cond.selects "PartnerStack$Control" ({ cls := "PartnerStack$Control", name := "digits", desc := "()I" } : MethodName) ({ cls := "PartnerStack$Control", name := "digits", desc := "()I" } : MethodName)) ∈ WL := WL_3 (List.mem_of_getElem? (i := 195) rfl) rfl
theorem wd_77 : (Cond.code ({ cls := "PartnerStack$Control", name := "masks", desc := "(I)Z" } : MethodName) prog_2_method_3_code (2 : Nat) (Option.some FieldType.boolean)) ∈ WL := WL_3 (List.mem_of_getElem? (i := 210) rfl) rfl
theorem wd_78 : (Cond.instanceMethod ({ cls := "PartnerStack$Control", name := "masks", desc := "(I)Z" } : MethodName)) ∈ WL := WL_3 (List.mem_of_getElem? (i := 208) rfl) rfl
theorem wd_79 : (Cond.selects "PartnerStack$Control" ({ cls := "PartnerStack$Control", name := "masks", desc := "(I)Z" } : MethodName) ({ cls := "PartnerStack$Control", name := "masks", desc := "(I)Z" } : MethodName)) ∈ WL := WL_3 (List.mem_of_getElem? (i := 209) rfl) rfl
theorem wd_80 : (Cond.methodLink "PartnerStack$Control" (16 : Nat) ({ cls := "PartnerStack$Control", name := "rounding", desc := "()I" } : MethodName)) ∈ WL := WL_3 (List.mem_of_getElem? (i := 235) rfl) rfl
theorem wd_81 : (Cond.code ({ cls := "PartnerStack$Control", name := "overBecomesInfinite", desc := "(Z)Z" } : MethodName) prog_2_method_8_code (3 : Nat) (Option.some FieldType.boolean)) ∈ WL := WL_3 (List.mem_of_getElem? (i := 234) rfl) rfl
theorem wd_82 : (Cond.instanceMethod ({ cls := "PartnerStack$Control", name := "overBecomesInfinite", desc := "(Z)Z" } : MethodName)) ∈ WL := WL_3 (List.mem_of_getElem? (i := 232) rfl) rfl
theorem wd_83 : (Cond.selects "PartnerStack$Control" ({ cls := "PartnerStack$Control", name := "overBecomesInfinite", desc := "(Z)Z" } : MethodName) ({ cls := "PartnerStack$Control", name := "overBecomesInfinite", desc := "(Z)Z" } : MethodName)) ∈ WL := WL_3 (List.mem_of_getElem? (i := 233) rfl) rfl
theorem wd_84 : (Cond.code ({ cls := "PartnerStack$Control", name := "endsWriting", desc := "()Z" } : MethodName) prog_2_method_5_code (1 : Nat) (Option.some FieldType.boolean)) ∈ WL := WL_4 (List.mem_of_getElem? (i := 38) rfl) rfl
theorem wd_85 : (Cond.instanceMethod ({ cls := "PartnerStack$Control", name := "endsWriting", desc := "()Z" } : MethodName)) ∈ WL := WL_4 (List.mem_of_getElem? (i := 36) rfl) rfl
theorem wd_86 : (Cond.selects "PartnerStack$Control" ({ cls := "PartnerStack$Control", name := "endsWriting", desc := "()Z" } : MethodName) ({ cls := "PartnerStack$Control", name := "endsWriting", desc := "()Z" } : MethodName)) ∈ WL := WL_4 (List.mem_of_getElem? (i := 37) rfl) rfl
