/-! the constructors over a world that grows: printed by wip/gen/gen7.py -/
abbrev zR : va_E := .inr (5, [.int 0, .int 0, .long 0])
abbrev zS : va_E := .inr (3, [.long 0, .long 0, .int 0, .int 0, .long 0, .int 0, .long 0])
def y_PS_init : MethodName := ⟨"PartnerStack", "<init>", "()V"⟩
def y_Mem_init : MethodName := ⟨"PartnerStack$Memory", "<init>", "()V"⟩
def y_Ctl_init : MethodName := ⟨"PartnerStack$Control", "<init>", "()V"⟩
def y_Oper_init : MethodName := ⟨"PartnerStack$Operation", "<init>", "(LPartnerStack$Control;)V"⟩
def y_Size_init : MethodName := ⟨"PartnerStack$Size", "<init>", "()V"⟩
def y_Maker_init : MethodName := ⟨"PartnerStack$Maker", "<init>", "(LPartnerStack$Control;)V"⟩
def y_Steps_init : MethodName := ⟨"PartnerStack$Steps", "<init>", "(LPartnerStack$Control;)V"⟩
def y_Rd_init : MethodName := ⟨"PartnerStack$Reader", "<init>", "(LPartnerStack$Control;LPartnerStack$Memory;)V"⟩
def y_Wr_init : MethodName := ⟨"PartnerStack$Writer", "<init>", "(LPartnerStack$Control;LPartnerStack$Memory;)V"⟩
def y_Real_init : MethodName := ⟨"PartnerStack$Real", "<init>", "()V"⟩
def y_M_init : MethodName := ⟨"PartnerStackModel", "<init>", "()V"⟩
def y_MO_init : MethodName := ⟨"PartnerStackModel$RealOperationsModel", "<init>", "()V"⟩
def y_MS_init : MethodName := ⟨"PartnerStackModel$RealStepsModel", "<init>", "()V"⟩
def y_MC_init : MethodName := ⟨"PartnerStackModel$RealConversionsModel", "<init>", "()V"⟩
def fz_PS : List Value := [.null, .null, .null, .null, .null, .null, .null, .null, .null, .null, .null, .null, .int 0, .int 0, .int 0, .int 0, .int 0, .int 0]
theorem fz_PS_ok : ∀ j, j < 18 → defaultValue (t_PS j) = vp_V fz_PS j := fun j hj => by rcases (show j = 0 ∨ j = 1 ∨ j = 2 ∨ j = 3 ∨ j = 4 ∨ j = 5 ∨ j = 6 ∨ j = 7 ∨ j = 8 ∨ j = 9 ∨ j = 10 ∨ j = 11 ∨ j = 12 ∨ j = 13 ∨ j = 14 ∨ j = 15 ∨ j = 16 ∨ j = 17 by omega) with rfl | rfl | rfl | rfl | rfl | rfl | rfl | rfl | rfl | rfl | rfl | rfl | rfl | rfl | rfl | rfl | rfl | rfl <;> rfl
def fz_Mem : List Value := [.null]
theorem fz_Mem_ok : ∀ j, j < 1 → defaultValue (t_Mem j) = vp_V fz_Mem j := fun j hj => by rcases (show j = 0 by omega) with rfl <;> rfl
def fz_Ctl : List Value := [.int 0, .int 0]
theorem fz_Ctl_ok : ∀ j, j < 2 → defaultValue (t_Ctl j) = vp_V fz_Ctl j := fun j hj => by rcases (show j = 0 ∨ j = 1 by omega) with rfl | rfl <;> rfl
def fz_Size : List Value := [.long 0, .long 0, .int 0, .int 0, .long 0, .int 0, .long 0]
theorem fz_Size_ok : ∀ j, j < 7 → defaultValue (t_Size j) = vp_V fz_Size j := fun j hj => by rcases (show j = 0 ∨ j = 1 ∨ j = 2 ∨ j = 3 ∨ j = 4 ∨ j = 5 ∨ j = 6 by omega) with rfl | rfl | rfl | rfl | rfl | rfl | rfl <;> rfl
def fz_Maker : List Value := [.null]
theorem fz_Maker_ok : ∀ j, j < 1 → defaultValue (t_Maker j) = vp_V fz_Maker j := fun j hj => by rcases (show j = 0 by omega) with rfl <;> rfl
def fz_Real : List Value := [.int 0, .int 0, .long 0]
theorem fz_Real_ok : ∀ j, j < 3 → defaultValue (t_Real j) = vp_V fz_Real j := fun j hj => by rcases (show j = 0 ∨ j = 1 ∨ j = 2 by omega) with rfl | rfl | rfl <;> rfl
def fz_Oper : List Value := [.null, .null, .null, .null]
theorem fz_Oper_ok : ∀ j, j < 4 → defaultValue (t_Oper j) = vp_V fz_Oper j := fun j hj => by rcases (show j = 0 ∨ j = 1 ∨ j = 2 ∨ j = 3 by omega) with rfl | rfl | rfl | rfl <;> rfl
def fz_Steps : List Value := [.null, .null, .null, .null, .int 0, .int 0, .int 0]
theorem fz_Steps_ok : ∀ j, j < 7 → defaultValue (t_Steps j) = vp_V fz_Steps j := fun j hj => by rcases (show j = 0 ∨ j = 1 ∨ j = 2 ∨ j = 3 ∨ j = 4 ∨ j = 5 ∨ j = 6 by omega) with rfl | rfl | rfl | rfl | rfl | rfl | rfl <;> rfl
def fz_Rd : List Value := [.null, .null, .null]
theorem fz_Rd_ok : ∀ j, j < 3 → defaultValue (t_Rd j) = vp_V fz_Rd j := fun j hj => by rcases (show j = 0 ∨ j = 1 ∨ j = 2 by omega) with rfl | rfl | rfl <;> rfl
def fz_Wr : List Value := [.null, .null, .null]
theorem fz_Wr_ok : ∀ j, j < 3 → defaultValue (t_Wr j) = vp_V fz_Wr j := fun j hj => by rcases (show j = 0 ∨ j = 1 ∨ j = 2 by omega) with rfl | rfl | rfl <;> rfl
def fz_M : List Value := [.int 0, .null, .null, .null, .null, .int 0, .int 0, .int 0, .int 0, .int 0, .int 0, .int 0, .int 0, .int 0, .int 0, .int 0, .int 0, .int 0, .long 0, .null, .null, .null]
theorem fz_M_ok : ∀ j, j < 22 → defaultValue (t_M j) = vp_V fz_M j := fun j hj => by rcases (show j = 0 ∨ j = 1 ∨ j = 2 ∨ j = 3 ∨ j = 4 ∨ j = 5 ∨ j = 6 ∨ j = 7 ∨ j = 8 ∨ j = 9 ∨ j = 10 ∨ j = 11 ∨ j = 12 ∨ j = 13 ∨ j = 14 ∨ j = 15 ∨ j = 16 ∨ j = 17 ∨ j = 18 ∨ j = 19 ∨ j = 20 ∨ j = 21 by omega) with rfl | rfl | rfl | rfl | rfl | rfl | rfl | rfl | rfl | rfl | rfl | rfl | rfl | rfl | rfl | rfl | rfl | rfl | rfl | rfl | rfl | rfl <;> rfl
def fz_MO : List Value := [.int 0, .int 0, .null, .null, .int 0, .null, .null, .null, .null, .int 0, .int 0, .int 0, .int 0, .int 0, .int 0, .long 0, .int 0]
theorem fz_MO_ok : ∀ j, j < 17 → defaultValue (t_MO j) = vp_V fz_MO j := fun j hj => by rcases (show j = 0 ∨ j = 1 ∨ j = 2 ∨ j = 3 ∨ j = 4 ∨ j = 5 ∨ j = 6 ∨ j = 7 ∨ j = 8 ∨ j = 9 ∨ j = 10 ∨ j = 11 ∨ j = 12 ∨ j = 13 ∨ j = 14 ∨ j = 15 ∨ j = 16 by omega) with rfl | rfl | rfl | rfl | rfl | rfl | rfl | rfl | rfl | rfl | rfl | rfl | rfl | rfl | rfl | rfl | rfl <;> rfl
def fz_MS : List Value := [.int 0, .int 0, .null, .null, .int 0, .int 0, .int 0, .int 0, .int 0, .long 0, .long 0, .int 0, .int 0]
theorem fz_MS_ok : ∀ j, j < 13 → defaultValue (t_MS j) = vp_V fz_MS j := fun j hj => by rcases (show j = 0 ∨ j = 1 ∨ j = 2 ∨ j = 3 ∨ j = 4 ∨ j = 5 ∨ j = 6 ∨ j = 7 ∨ j = 8 ∨ j = 9 ∨ j = 10 ∨ j = 11 ∨ j = 12 by omega) with rfl | rfl | rfl | rfl | rfl | rfl | rfl | rfl | rfl | rfl | rfl | rfl | rfl <;> rfl
def fz_MC : List Value := [.int 0, .int 0, .null, .null, .null, .int 0, .int 0, .long 0, .long 0, .int 0, .int 0]
theorem fz_MC_ok : ∀ j, j < 11 → defaultValue (t_MC j) = vp_V fz_MC j := fun j hj => by rcases (show j = 0 ∨ j = 1 ∨ j = 2 ∨ j = 3 ∨ j = 4 ∨ j = 5 ∨ j = 6 ∨ j = 7 ∨ j = 8 ∨ j = 9 ∨ j = 10 by omega) with rfl | rfl | rfl | rfl | rfl | rfl | rfl | rfl | rfl | rfl | rfl <;> rfl
theorem d_Real_init_0 : decode prog_7_method_1_code 0 = .ok (.aload_n 0, 1) := by decide +kernel
theorem d_Real_init_1 : decode prog_7_method_1_code 1 = .ok (.invokespecial 1, 3) := by decide +kernel
theorem d_Real_init_4 : decode prog_7_method_1_code 4 = .ok (.return_, 1) := by decide +kernel
theorem d_Size_init_0 : decode prog_8_method_1_code 0 = .ok (.aload_n 0, 1) := by decide +kernel
theorem d_Size_init_1 : decode prog_8_method_1_code 1 = .ok (.invokespecial 1, 3) := by decide +kernel
theorem d_Size_init_4 : decode prog_8_method_1_code 4 = .ok (.return_, 1) := by decide +kernel
theorem d_Ctl_init_0 : decode prog_2_method_1_code 0 = .ok (.aload_n 0, 1) := by decide +kernel
theorem d_Ctl_init_1 : decode prog_2_method_1_code 1 = .ok (.invokespecial 3, 3) := by decide +kernel
theorem d_Ctl_init_4 : decode prog_2_method_1_code 4 = .ok (.return_, 1) := by decide +kernel
theorem d_Maker_init_0 : decode prog_3_method_1_code 0 = .ok (.aload_n 0, 1) := by decide +kernel
theorem d_Maker_init_1 : decode prog_3_method_1_code 1 = .ok (.invokespecial 1, 3) := by decide +kernel
theorem d_Maker_init_4 : decode prog_3_method_1_code 4 = .ok (.aload_n 0, 1) := by decide +kernel
theorem d_Maker_init_5 : decode prog_3_method_1_code 5 = .ok (.aload_n 1, 1) := by decide +kernel
theorem d_Maker_init_6 : decode prog_3_method_1_code 6 = .ok (.putfield 7, 3) := by decide +kernel
theorem d_Maker_init_9 : decode prog_3_method_1_code 9 = .ok (.return_, 1) := by decide +kernel
theorem d_PS_init_0 : decode prog_1_method_1_code 0 = .ok (.aload_n 0, 1) := by decide +kernel
theorem d_PS_init_1 : decode prog_1_method_1_code 1 = .ok (.invokespecial 1, 3) := by decide +kernel
theorem d_PS_init_4 : decode prog_1_method_1_code 4 = .ok (.aload_n 0, 1) := by decide +kernel
theorem d_PS_init_5 : decode prog_1_method_1_code 5 = .ok (.new 7, 3) := by decide +kernel
theorem d_PS_init_8 : decode prog_1_method_1_code 8 = .ok (.dup, 1) := by decide +kernel
theorem d_PS_init_9 : decode prog_1_method_1_code 9 = .ok (.invokespecial 9, 3) := by decide +kernel
theorem d_Mem_init_0 : decode prog_4_method_1_code 0 = .ok (.aload_n 0, 1) := by decide +kernel
theorem d_Mem_init_1 : decode prog_4_method_1_code 1 = .ok (.invokespecial 1, 3) := by decide +kernel
theorem d_Mem_init_4 : decode prog_4_method_1_code 4 = .ok (.aload_n 0, 1) := by decide +kernel
theorem d_Mem_init_5 : decode prog_4_method_1_code 5 = .ok (.bipush 94, 2) := by decide +kernel
theorem d_Mem_init_7 : decode prog_4_method_1_code 7 = .ok (.newarray .byte, 2) := by decide +kernel
theorem d_Mem_init_9 : decode prog_4_method_1_code 9 = .ok (.putfield 9, 3) := by decide +kernel
theorem d_Mem_init_12 : decode prog_4_method_1_code 12 = .ok (.return_, 1) := by decide +kernel
theorem d_PS_init_12 : decode prog_1_method_1_code 12 = .ok (.putfield 10, 3) := by decide +kernel
theorem d_PS_init_15 : decode prog_1_method_1_code 15 = .ok (.aload_n 0, 1) := by decide +kernel
theorem d_PS_init_16 : decode prog_1_method_1_code 16 = .ok (.new 16, 3) := by decide +kernel
theorem d_PS_init_19 : decode prog_1_method_1_code 19 = .ok (.dup, 1) := by decide +kernel
theorem d_PS_init_20 : decode prog_1_method_1_code 20 = .ok (.invokespecial 18, 3) := by decide +kernel
theorem d_PS_init_23 : decode prog_1_method_1_code 23 = .ok (.putfield 19, 3) := by decide +kernel
theorem d_PS_init_26 : decode prog_1_method_1_code 26 = .ok (.aload_n 0, 1) := by decide +kernel
theorem d_PS_init_27 : decode prog_1_method_1_code 27 = .ok (.new 23, 3) := by decide +kernel
theorem d_PS_init_30 : decode prog_1_method_1_code 30 = .ok (.dup, 1) := by decide +kernel
theorem d_PS_init_31 : decode prog_1_method_1_code 31 = .ok (.aload_n 0, 1) := by decide +kernel
theorem d_PS_init_32 : decode prog_1_method_1_code 32 = .ok (.getfield 19, 3) := by decide +kernel
theorem d_PS_init_35 : decode prog_1_method_1_code 35 = .ok (.invokespecial 25, 3) := by decide +kernel
theorem d_Oper_init_0 : decode prog_5_method_1_code 0 = .ok (.aload_n 0, 1) := by decide +kernel
theorem d_Oper_init_1 : decode prog_5_method_1_code 1 = .ok (.invokespecial 1, 3) := by decide +kernel
theorem d_Oper_init_4 : decode prog_5_method_1_code 4 = .ok (.aload_n 0, 1) := by decide +kernel
theorem d_Oper_init_5 : decode prog_5_method_1_code 5 = .ok (.new 7, 3) := by decide +kernel
theorem d_Oper_init_8 : decode prog_5_method_1_code 8 = .ok (.dup, 1) := by decide +kernel
theorem d_Oper_init_9 : decode prog_5_method_1_code 9 = .ok (.invokespecial 9, 3) := by decide +kernel
theorem d_Oper_init_12 : decode prog_5_method_1_code 12 = .ok (.putfield 10, 3) := by decide +kernel
theorem d_Oper_init_15 : decode prog_5_method_1_code 15 = .ok (.aload_n 0, 1) := by decide +kernel
theorem d_Oper_init_16 : decode prog_5_method_1_code 16 = .ok (.new 7, 3) := by decide +kernel
theorem d_Oper_init_19 : decode prog_5_method_1_code 19 = .ok (.dup, 1) := by decide +kernel
theorem d_Oper_init_20 : decode prog_5_method_1_code 20 = .ok (.invokespecial 9, 3) := by decide +kernel
theorem d_Oper_init_23 : decode prog_5_method_1_code 23 = .ok (.putfield 16, 3) := by decide +kernel
theorem d_Oper_init_26 : decode prog_5_method_1_code 26 = .ok (.aload_n 0, 1) := by decide +kernel
theorem d_Oper_init_27 : decode prog_5_method_1_code 27 = .ok (.aload_n 1, 1) := by decide +kernel
theorem d_Oper_init_28 : decode prog_5_method_1_code 28 = .ok (.putfield 19, 3) := by decide +kernel
theorem d_Oper_init_31 : decode prog_5_method_1_code 31 = .ok (.aload_n 0, 1) := by decide +kernel
theorem d_Oper_init_32 : decode prog_5_method_1_code 32 = .ok (.new 23, 3) := by decide +kernel
theorem d_Oper_init_35 : decode prog_5_method_1_code 35 = .ok (.dup, 1) := by decide +kernel
theorem d_Oper_init_36 : decode prog_5_method_1_code 36 = .ok (.aload_n 1, 1) := by decide +kernel
theorem d_Oper_init_37 : decode prog_5_method_1_code 37 = .ok (.invokespecial 25, 3) := by decide +kernel
theorem d_Oper_init_40 : decode prog_5_method_1_code 40 = .ok (.putfield 28, 3) := by decide +kernel
theorem d_Oper_init_43 : decode prog_5_method_1_code 43 = .ok (.return_, 1) := by decide +kernel
theorem d_PS_init_38 : decode prog_1_method_1_code 38 = .ok (.putfield 28, 3) := by decide +kernel
theorem d_PS_init_41 : decode prog_1_method_1_code 41 = .ok (.aload_n 0, 1) := by decide +kernel
theorem d_PS_init_42 : decode prog_1_method_1_code 42 = .ok (.new 32, 3) := by decide +kernel
theorem d_PS_init_45 : decode prog_1_method_1_code 45 = .ok (.dup, 1) := by decide +kernel
theorem d_PS_init_46 : decode prog_1_method_1_code 46 = .ok (.aload_n 0, 1) := by decide +kernel
theorem d_PS_init_47 : decode prog_1_method_1_code 47 = .ok (.getfield 19, 3) := by decide +kernel
theorem d_PS_init_50 : decode prog_1_method_1_code 50 = .ok (.invokespecial 34, 3) := by decide +kernel
theorem d_Steps_init_0 : decode prog_9_method_1_code 0 = .ok (.aload_n 0, 1) := by decide +kernel
theorem d_Steps_init_1 : decode prog_9_method_1_code 1 = .ok (.invokespecial 1, 3) := by decide +kernel
theorem d_Steps_init_4 : decode prog_9_method_1_code 4 = .ok (.aload_n 0, 1) := by decide +kernel
theorem d_Steps_init_5 : decode prog_9_method_1_code 5 = .ok (.new 7, 3) := by decide +kernel
theorem d_Steps_init_8 : decode prog_9_method_1_code 8 = .ok (.dup, 1) := by decide +kernel
theorem d_Steps_init_9 : decode prog_9_method_1_code 9 = .ok (.invokespecial 9, 3) := by decide +kernel
theorem d_Steps_init_12 : decode prog_9_method_1_code 12 = .ok (.putfield 10, 3) := by decide +kernel
theorem d_Steps_init_15 : decode prog_9_method_1_code 15 = .ok (.aload_n 0, 1) := by decide +kernel
theorem d_Steps_init_16 : decode prog_9_method_1_code 16 = .ok (.new 7, 3) := by decide +kernel
theorem d_Steps_init_19 : decode prog_9_method_1_code 19 = .ok (.dup, 1) := by decide +kernel
theorem d_Steps_init_20 : decode prog_9_method_1_code 20 = .ok (.invokespecial 9, 3) := by decide +kernel
theorem d_Steps_init_23 : decode prog_9_method_1_code 23 = .ok (.putfield 16, 3) := by decide +kernel
theorem d_Steps_init_26 : decode prog_9_method_1_code 26 = .ok (.aload_n 0, 1) := by decide +kernel
theorem d_Steps_init_27 : decode prog_9_method_1_code 27 = .ok (.aload_n 1, 1) := by decide +kernel
theorem d_Steps_init_28 : decode prog_9_method_1_code 28 = .ok (.putfield 19, 3) := by decide +kernel
theorem d_Steps_init_31 : decode prog_9_method_1_code 31 = .ok (.aload_n 0, 1) := by decide +kernel
theorem d_Steps_init_32 : decode prog_9_method_1_code 32 = .ok (.new 23, 3) := by decide +kernel
theorem d_Steps_init_35 : decode prog_9_method_1_code 35 = .ok (.dup, 1) := by decide +kernel
theorem d_Steps_init_36 : decode prog_9_method_1_code 36 = .ok (.aload_n 1, 1) := by decide +kernel
theorem d_Steps_init_37 : decode prog_9_method_1_code 37 = .ok (.invokespecial 25, 3) := by decide +kernel
theorem d_Steps_init_40 : decode prog_9_method_1_code 40 = .ok (.putfield 28, 3) := by decide +kernel
theorem d_Steps_init_43 : decode prog_9_method_1_code 43 = .ok (.return_, 1) := by decide +kernel
theorem d_PS_init_53 : decode prog_1_method_1_code 53 = .ok (.putfield 35, 3) := by decide +kernel
theorem d_PS_init_56 : decode prog_1_method_1_code 56 = .ok (.aload_n 0, 1) := by decide +kernel
theorem d_PS_init_57 : decode prog_1_method_1_code 57 = .ok (.new 39, 3) := by decide +kernel
theorem d_PS_init_60 : decode prog_1_method_1_code 60 = .ok (.dup, 1) := by decide +kernel
theorem d_PS_init_61 : decode prog_1_method_1_code 61 = .ok (.aload_n 0, 1) := by decide +kernel
theorem d_PS_init_62 : decode prog_1_method_1_code 62 = .ok (.getfield 19, 3) := by decide +kernel
theorem d_PS_init_65 : decode prog_1_method_1_code 65 = .ok (.aload_n 0, 1) := by decide +kernel
theorem d_PS_init_66 : decode prog_1_method_1_code 66 = .ok (.getfield 10, 3) := by decide +kernel
theorem d_PS_init_69 : decode prog_1_method_1_code 69 = .ok (.invokespecial 41, 3) := by decide +kernel
theorem d_Rd_init_0 : decode prog_6_method_1_code 0 = .ok (.aload_n 0, 1) := by decide +kernel
theorem d_Rd_init_1 : decode prog_6_method_1_code 1 = .ok (.invokespecial 1, 3) := by decide +kernel
theorem d_Rd_init_4 : decode prog_6_method_1_code 4 = .ok (.aload_n 0, 1) := by decide +kernel
theorem d_Rd_init_5 : decode prog_6_method_1_code 5 = .ok (.new 7, 3) := by decide +kernel
theorem d_Rd_init_8 : decode prog_6_method_1_code 8 = .ok (.dup, 1) := by decide +kernel
theorem d_Rd_init_9 : decode prog_6_method_1_code 9 = .ok (.invokespecial 9, 3) := by decide +kernel
theorem d_Rd_init_12 : decode prog_6_method_1_code 12 = .ok (.putfield 10, 3) := by decide +kernel
theorem d_Rd_init_15 : decode prog_6_method_1_code 15 = .ok (.aload_n 0, 1) := by decide +kernel
theorem d_Rd_init_16 : decode prog_6_method_1_code 16 = .ok (.aload_n 1, 1) := by decide +kernel
theorem d_Rd_init_17 : decode prog_6_method_1_code 17 = .ok (.putfield 16, 3) := by decide +kernel
theorem d_Rd_init_20 : decode prog_6_method_1_code 20 = .ok (.aload_n 0, 1) := by decide +kernel
theorem d_Rd_init_21 : decode prog_6_method_1_code 21 = .ok (.aload_n 2, 1) := by decide +kernel
theorem d_Rd_init_22 : decode prog_6_method_1_code 22 = .ok (.putfield 20, 3) := by decide +kernel
theorem d_Rd_init_25 : decode prog_6_method_1_code 25 = .ok (.return_, 1) := by decide +kernel
theorem d_PS_init_72 : decode prog_1_method_1_code 72 = .ok (.putfield 44, 3) := by decide +kernel
theorem d_PS_init_75 : decode prog_1_method_1_code 75 = .ok (.aload_n 0, 1) := by decide +kernel
theorem d_PS_init_76 : decode prog_1_method_1_code 76 = .ok (.new 48, 3) := by decide +kernel
theorem d_PS_init_79 : decode prog_1_method_1_code 79 = .ok (.dup, 1) := by decide +kernel
theorem d_PS_init_80 : decode prog_1_method_1_code 80 = .ok (.aload_n 0, 1) := by decide +kernel
theorem d_PS_init_81 : decode prog_1_method_1_code 81 = .ok (.getfield 19, 3) := by decide +kernel
theorem d_PS_init_84 : decode prog_1_method_1_code 84 = .ok (.aload_n 0, 1) := by decide +kernel
theorem d_PS_init_85 : decode prog_1_method_1_code 85 = .ok (.getfield 10, 3) := by decide +kernel
theorem d_PS_init_88 : decode prog_1_method_1_code 88 = .ok (.invokespecial 50, 3) := by decide +kernel
theorem d_Wr_init_0 : decode prog_10_method_1_code 0 = .ok (.aload_n 0, 1) := by decide +kernel
theorem d_Wr_init_1 : decode prog_10_method_1_code 1 = .ok (.invokespecial 1, 3) := by decide +kernel
theorem d_Wr_init_4 : decode prog_10_method_1_code 4 = .ok (.aload_n 0, 1) := by decide +kernel
theorem d_Wr_init_5 : decode prog_10_method_1_code 5 = .ok (.new 7, 3) := by decide +kernel
theorem d_Wr_init_8 : decode prog_10_method_1_code 8 = .ok (.dup, 1) := by decide +kernel
theorem d_Wr_init_9 : decode prog_10_method_1_code 9 = .ok (.invokespecial 9, 3) := by decide +kernel
theorem d_Wr_init_12 : decode prog_10_method_1_code 12 = .ok (.putfield 10, 3) := by decide +kernel
theorem d_Wr_init_15 : decode prog_10_method_1_code 15 = .ok (.aload_n 0, 1) := by decide +kernel
theorem d_Wr_init_16 : decode prog_10_method_1_code 16 = .ok (.aload_n 1, 1) := by decide +kernel
theorem d_Wr_init_17 : decode prog_10_method_1_code 17 = .ok (.putfield 16, 3) := by decide +kernel
theorem d_Wr_init_20 : decode prog_10_method_1_code 20 = .ok (.aload_n 0, 1) := by decide +kernel
theorem d_Wr_init_21 : decode prog_10_method_1_code 21 = .ok (.aload_n 2, 1) := by decide +kernel
theorem d_Wr_init_22 : decode prog_10_method_1_code 22 = .ok (.putfield 20, 3) := by decide +kernel
theorem d_Wr_init_25 : decode prog_10_method_1_code 25 = .ok (.return_, 1) := by decide +kernel
theorem d_PS_init_91 : decode prog_1_method_1_code 91 = .ok (.putfield 51, 3) := by decide +kernel
theorem d_PS_init_94 : decode prog_1_method_1_code 94 = .ok (.aload_n 0, 1) := by decide +kernel
theorem d_PS_init_95 : decode prog_1_method_1_code 95 = .ok (.bipush 8, 2) := by decide +kernel
theorem d_PS_init_97 : decode prog_1_method_1_code 97 = .ok (.anewarray 55, 3) := by decide +kernel
theorem d_PS_init_100 : decode prog_1_method_1_code 100 = .ok (.putfield 57, 3) := by decide +kernel
theorem d_PS_init_103 : decode prog_1_method_1_code 103 = .ok (.aload_n 0, 1) := by decide +kernel
theorem d_PS_init_104 : decode prog_1_method_1_code 104 = .ok (.bipush 8, 2) := by decide +kernel
theorem d_PS_init_106 : decode prog_1_method_1_code 106 = .ok (.newarray .boolean, 2) := by decide +kernel
theorem d_PS_init_108 : decode prog_1_method_1_code 108 = .ok (.putfield 61, 3) := by decide +kernel
theorem d_PS_init_111 : decode prog_1_method_1_code 111 = .ok (.aload_n 0, 1) := by decide +kernel
theorem d_PS_init_112 : decode prog_1_method_1_code 112 = .ok (.new 55, 3) := by decide +kernel
theorem d_PS_init_115 : decode prog_1_method_1_code 115 = .ok (.dup, 1) := by decide +kernel
theorem d_PS_init_116 : decode prog_1_method_1_code 116 = .ok (.invokespecial 65, 3) := by decide +kernel
theorem d_PS_init_119 : decode prog_1_method_1_code 119 = .ok (.putfield 66, 3) := by decide +kernel
theorem d_PS_init_122 : decode prog_1_method_1_code 122 = .ok (.aload_n 0, 1) := by decide +kernel
theorem d_PS_init_123 : decode prog_1_method_1_code 123 = .ok (.new 55, 3) := by decide +kernel
theorem d_PS_init_126 : decode prog_1_method_1_code 126 = .ok (.dup, 1) := by decide +kernel
theorem d_PS_init_127 : decode prog_1_method_1_code 127 = .ok (.invokespecial 65, 3) := by decide +kernel
theorem d_PS_init_130 : decode prog_1_method_1_code 130 = .ok (.putfield 70, 3) := by decide +kernel
theorem d_PS_init_133 : decode prog_1_method_1_code 133 = .ok (.aload_n 0, 1) := by decide +kernel
theorem d_PS_init_134 : decode prog_1_method_1_code 134 = .ok (.new 55, 3) := by decide +kernel
theorem d_PS_init_137 : decode prog_1_method_1_code 137 = .ok (.dup, 1) := by decide +kernel
theorem d_PS_init_138 : decode prog_1_method_1_code 138 = .ok (.invokespecial 65, 3) := by decide +kernel
theorem d_PS_init_141 : decode prog_1_method_1_code 141 = .ok (.putfield 73, 3) := by decide +kernel
theorem d_PS_init_144 : decode prog_1_method_1_code 144 = .ok (.aload_n 0, 1) := by decide +kernel
theorem d_PS_init_145 : decode prog_1_method_1_code 145 = .ok (.new 55, 3) := by decide +kernel
theorem d_PS_init_148 : decode prog_1_method_1_code 148 = .ok (.dup, 1) := by decide +kernel
theorem d_PS_init_149 : decode prog_1_method_1_code 149 = .ok (.invokespecial 65, 3) := by decide +kernel
theorem d_PS_init_152 : decode prog_1_method_1_code 152 = .ok (.putfield 76, 3) := by decide +kernel
theorem d_PS_init_155 : decode prog_1_method_1_code 155 = .ok (.iconst 0, 1) := by decide +kernel
theorem d_PS_init_156 : decode prog_1_method_1_code 156 = .ok (.istore_n 1, 1) := by decide +kernel
theorem d_PS_init_157 : decode prog_1_method_1_code 157 = .ok (.iload_n 1, 1) := by decide +kernel
theorem d_PS_init_158 : decode prog_1_method_1_code 158 = .ok (.bipush 8, 2) := by decide +kernel
theorem d_PS_init_160 : decode prog_1_method_1_code 160 = .ok (.if_icmp .ge 22, 3) := by decide +kernel
theorem d_PS_init_163 : decode prog_1_method_1_code 163 = .ok (.aload_n 0, 1) := by decide +kernel
theorem d_PS_init_164 : decode prog_1_method_1_code 164 = .ok (.getfield 57, 3) := by decide +kernel
theorem d_PS_init_167 : decode prog_1_method_1_code 167 = .ok (.iload_n 1, 1) := by decide +kernel
theorem d_PS_init_168 : decode prog_1_method_1_code 168 = .ok (.new 55, 3) := by decide +kernel
theorem d_PS_init_171 : decode prog_1_method_1_code 171 = .ok (.dup, 1) := by decide +kernel
theorem d_PS_init_172 : decode prog_1_method_1_code 172 = .ok (.invokespecial 65, 3) := by decide +kernel
theorem d_PS_init_175 : decode prog_1_method_1_code 175 = .ok (.aastore, 1) := by decide +kernel
theorem d_PS_init_176 : decode prog_1_method_1_code 176 = .ok (.iinc 1 1, 3) := by decide +kernel
theorem d_PS_init_179 : decode prog_1_method_1_code 179 = .ok (.goto (-22), 3) := by decide +kernel
theorem d_PS_init_182 : decode prog_1_method_1_code 182 = .ok (.aload_n 0, 1) := by decide +kernel
theorem d_PS_init_183 : decode prog_1_method_1_code 183 = .ok (.invokevirtual 79, 3) := by decide +kernel
theorem d_PS_init_186 : decode prog_1_method_1_code 186 = .ok (.return_, 1) := by decide +kernel
theorem d_M_init_0 : decode prog_12_method_1_code 0 = .ok (.aload_n 0, 1) := by decide +kernel
theorem d_M_init_1 : decode prog_12_method_1_code 1 = .ok (.invokespecial 1, 3) := by decide +kernel
theorem d_M_init_4 : decode prog_12_method_1_code 4 = .ok (.aload_n 0, 1) := by decide +kernel
theorem d_M_init_5 : decode prog_12_method_1_code 5 = .ok (.bipush 94, 2) := by decide +kernel
theorem d_M_init_7 : decode prog_12_method_1_code 7 = .ok (.newarray .int, 2) := by decide +kernel
theorem d_M_init_9 : decode prog_12_method_1_code 9 = .ok (.putfield 7, 3) := by decide +kernel
theorem d_M_init_12 : decode prog_12_method_1_code 12 = .ok (.aload_n 0, 1) := by decide +kernel
theorem d_M_init_13 : decode prog_12_method_1_code 13 = .ok (.bipush 8, 2) := by decide +kernel
theorem d_M_init_15 : decode prog_12_method_1_code 15 = .ok (.newarray .int, 2) := by decide +kernel
theorem d_M_init_17 : decode prog_12_method_1_code 17 = .ok (.putfield 13, 3) := by decide +kernel
theorem d_M_init_20 : decode prog_12_method_1_code 20 = .ok (.aload_n 0, 1) := by decide +kernel
theorem d_M_init_21 : decode prog_12_method_1_code 21 = .ok (.bipush 8, 2) := by decide +kernel
theorem d_M_init_23 : decode prog_12_method_1_code 23 = .ok (.newarray .long, 2) := by decide +kernel
theorem d_M_init_25 : decode prog_12_method_1_code 25 = .ok (.putfield 16, 3) := by decide +kernel
theorem d_M_init_28 : decode prog_12_method_1_code 28 = .ok (.aload_n 0, 1) := by decide +kernel
theorem d_M_init_29 : decode prog_12_method_1_code 29 = .ok (.bipush 8, 2) := by decide +kernel
theorem d_M_init_31 : decode prog_12_method_1_code 31 = .ok (.newarray .boolean, 2) := by decide +kernel
theorem d_M_init_33 : decode prog_12_method_1_code 33 = .ok (.putfield 20, 3) := by decide +kernel
theorem d_M_init_36 : decode prog_12_method_1_code 36 = .ok (.aload_n 0, 1) := by decide +kernel
theorem d_M_init_37 : decode prog_12_method_1_code 37 = .ok (.new 24, 3) := by decide +kernel
theorem d_M_init_40 : decode prog_12_method_1_code 40 = .ok (.dup, 1) := by decide +kernel
theorem d_M_init_41 : decode prog_12_method_1_code 41 = .ok (.invokespecial 26, 3) := by decide +kernel
theorem d_MO_init_0 : decode prog_14_method_1_code 0 = .ok (.aload_n 0, 1) := by decide +kernel
theorem d_MO_init_1 : decode prog_14_method_1_code 1 = .ok (.invokespecial 1, 3) := by decide +kernel
theorem d_MO_init_4 : decode prog_14_method_1_code 4 = .ok (.aload_n 0, 1) := by decide +kernel
theorem d_MO_init_5 : decode prog_14_method_1_code 5 = .ok (.sipush 1023, 3) := by decide +kernel
theorem d_MO_init_8 : decode prog_14_method_1_code 8 = .ok (.putfield 7, 3) := by decide +kernel
theorem d_MO_init_11 : decode prog_14_method_1_code 11 = .ok (.aload_n 0, 1) := by decide +kernel
theorem d_MO_init_12 : decode prog_14_method_1_code 12 = .ok (.bipush 8, 2) := by decide +kernel
theorem d_MO_init_14 : decode prog_14_method_1_code 14 = .ok (.newarray .int, 2) := by decide +kernel
theorem d_MO_init_16 : decode prog_14_method_1_code 16 = .ok (.putfield 13, 3) := by decide +kernel
theorem d_MO_init_19 : decode prog_14_method_1_code 19 = .ok (.aload_n 0, 1) := by decide +kernel
theorem d_MO_init_20 : decode prog_14_method_1_code 20 = .ok (.bipush 8, 2) := by decide +kernel
theorem d_MO_init_22 : decode prog_14_method_1_code 22 = .ok (.newarray .long, 2) := by decide +kernel
theorem d_MO_init_24 : decode prog_14_method_1_code 24 = .ok (.putfield 17, 3) := by decide +kernel
theorem d_MO_init_27 : decode prog_14_method_1_code 27 = .ok (.aload_n 0, 1) := by decide +kernel
theorem d_MO_init_28 : decode prog_14_method_1_code 28 = .ok (.iconst 2, 1) := by decide +kernel
theorem d_MO_init_29 : decode prog_14_method_1_code 29 = .ok (.newarray .boolean, 2) := by decide +kernel
theorem d_MO_init_31 : decode prog_14_method_1_code 31 = .ok (.putfield 21, 3) := by decide +kernel
theorem d_MO_init_34 : decode prog_14_method_1_code 34 = .ok (.aload_n 0, 1) := by decide +kernel
theorem d_MO_init_35 : decode prog_14_method_1_code 35 = .ok (.iconst 2, 1) := by decide +kernel
theorem d_MO_init_36 : decode prog_14_method_1_code 36 = .ok (.newarray .int, 2) := by decide +kernel
theorem d_MO_init_38 : decode prog_14_method_1_code 38 = .ok (.putfield 25, 3) := by decide +kernel
theorem d_MO_init_41 : decode prog_14_method_1_code 41 = .ok (.aload_n 0, 1) := by decide +kernel
theorem d_MO_init_42 : decode prog_14_method_1_code 42 = .ok (.iconst 2, 1) := by decide +kernel
theorem d_MO_init_43 : decode prog_14_method_1_code 43 = .ok (.newarray .long, 2) := by decide +kernel
theorem d_MO_init_45 : decode prog_14_method_1_code 45 = .ok (.putfield 28, 3) := by decide +kernel
theorem d_MO_init_48 : decode prog_14_method_1_code 48 = .ok (.aload_n 0, 1) := by decide +kernel
theorem d_MO_init_49 : decode prog_14_method_1_code 49 = .ok (.ldc 31, 2) := by decide +kernel
theorem d_MO_init_51 : decode prog_14_method_1_code 51 = .ok (.newarray .boolean, 2) := by decide +kernel
theorem d_MO_init_53 : decode prog_14_method_1_code 53 = .ok (.putfield 32, 3) := by decide +kernel
theorem d_MO_init_56 : decode prog_14_method_1_code 56 = .ok (.return_, 1) := by decide +kernel
theorem d_M_init_44 : decode prog_12_method_1_code 44 = .ok (.putfield 27, 3) := by decide +kernel
theorem d_M_init_47 : decode prog_12_method_1_code 47 = .ok (.aload_n 0, 1) := by decide +kernel
theorem d_M_init_48 : decode prog_12_method_1_code 48 = .ok (.new 31, 3) := by decide +kernel
theorem d_M_init_51 : decode prog_12_method_1_code 51 = .ok (.dup, 1) := by decide +kernel
theorem d_M_init_52 : decode prog_12_method_1_code 52 = .ok (.invokespecial 33, 3) := by decide +kernel
theorem d_MS_init_0 : decode prog_15_method_1_code 0 = .ok (.aload_n 0, 1) := by decide +kernel
theorem d_MS_init_1 : decode prog_15_method_1_code 1 = .ok (.invokespecial 1, 3) := by decide +kernel
theorem d_MS_init_4 : decode prog_15_method_1_code 4 = .ok (.aload_n 0, 1) := by decide +kernel
theorem d_MS_init_5 : decode prog_15_method_1_code 5 = .ok (.sipush 1023, 3) := by decide +kernel
theorem d_MS_init_8 : decode prog_15_method_1_code 8 = .ok (.putfield 7, 3) := by decide +kernel
theorem d_MS_init_11 : decode prog_15_method_1_code 11 = .ok (.aload_n 0, 1) := by decide +kernel
theorem d_MS_init_12 : decode prog_15_method_1_code 12 = .ok (.bipush 8, 2) := by decide +kernel
theorem d_MS_init_14 : decode prog_15_method_1_code 14 = .ok (.newarray .int, 2) := by decide +kernel
theorem d_MS_init_16 : decode prog_15_method_1_code 16 = .ok (.putfield 13, 3) := by decide +kernel
theorem d_MS_init_19 : decode prog_15_method_1_code 19 = .ok (.aload_n 0, 1) := by decide +kernel
theorem d_MS_init_20 : decode prog_15_method_1_code 20 = .ok (.bipush 8, 2) := by decide +kernel
theorem d_MS_init_22 : decode prog_15_method_1_code 22 = .ok (.newarray .long, 2) := by decide +kernel
theorem d_MS_init_24 : decode prog_15_method_1_code 24 = .ok (.putfield 17, 3) := by decide +kernel
theorem d_MS_init_27 : decode prog_15_method_1_code 27 = .ok (.return_, 1) := by decide +kernel
theorem d_M_init_55 : decode prog_12_method_1_code 55 = .ok (.putfield 34, 3) := by decide +kernel
theorem d_M_init_58 : decode prog_12_method_1_code 58 = .ok (.aload_n 0, 1) := by decide +kernel
theorem d_M_init_59 : decode prog_12_method_1_code 59 = .ok (.new 38, 3) := by decide +kernel
theorem d_M_init_62 : decode prog_12_method_1_code 62 = .ok (.dup, 1) := by decide +kernel
theorem d_M_init_63 : decode prog_12_method_1_code 63 = .ok (.invokespecial 40, 3) := by decide +kernel
theorem d_MC_init_0 : decode prog_13_method_1_code 0 = .ok (.aload_n 0, 1) := by decide +kernel
theorem d_MC_init_1 : decode prog_13_method_1_code 1 = .ok (.invokespecial 1, 3) := by decide +kernel
theorem d_MC_init_4 : decode prog_13_method_1_code 4 = .ok (.aload_n 0, 1) := by decide +kernel
theorem d_MC_init_5 : decode prog_13_method_1_code 5 = .ok (.sipush 1023, 3) := by decide +kernel
theorem d_MC_init_8 : decode prog_13_method_1_code 8 = .ok (.putfield 7, 3) := by decide +kernel
theorem d_MC_init_11 : decode prog_13_method_1_code 11 = .ok (.aload_n 0, 1) := by decide +kernel
theorem d_MC_init_12 : decode prog_13_method_1_code 12 = .ok (.bipush 8, 2) := by decide +kernel
theorem d_MC_init_14 : decode prog_13_method_1_code 14 = .ok (.newarray .int, 2) := by decide +kernel
theorem d_MC_init_16 : decode prog_13_method_1_code 16 = .ok (.putfield 13, 3) := by decide +kernel
theorem d_MC_init_19 : decode prog_13_method_1_code 19 = .ok (.aload_n 0, 1) := by decide +kernel
theorem d_MC_init_20 : decode prog_13_method_1_code 20 = .ok (.bipush 8, 2) := by decide +kernel
theorem d_MC_init_22 : decode prog_13_method_1_code 22 = .ok (.newarray .long, 2) := by decide +kernel
theorem d_MC_init_24 : decode prog_13_method_1_code 24 = .ok (.putfield 17, 3) := by decide +kernel
theorem d_MC_init_27 : decode prog_13_method_1_code 27 = .ok (.aload_n 0, 1) := by decide +kernel
theorem d_MC_init_28 : decode prog_13_method_1_code 28 = .ok (.bipush 10, 2) := by decide +kernel
theorem d_MC_init_30 : decode prog_13_method_1_code 30 = .ok (.newarray .int, 2) := by decide +kernel
theorem d_MC_init_32 : decode prog_13_method_1_code 32 = .ok (.putfield 21, 3) := by decide +kernel
theorem d_MC_init_35 : decode prog_13_method_1_code 35 = .ok (.return_, 1) := by decide +kernel
theorem d_M_init_66 : decode prog_12_method_1_code 66 = .ok (.putfield 41, 3) := by decide +kernel
theorem d_M_init_69 : decode prog_12_method_1_code 69 = .ok (.aload_n 0, 1) := by decide +kernel
theorem d_M_init_70 : decode prog_12_method_1_code 70 = .ok (.invokevirtual 45, 3) := by decide +kernel
theorem d_M_init_73 : decode prog_12_method_1_code 73 = .ok (.return_, 1) := by decide +kernel
theorem d_law_0 : decode code 0 = .ok (.new 8, 3) := by decide +kernel
theorem d_law_3 : decode code 3 = .ok (.dup, 1) := by decide +kernel
theorem d_law_4 : decode code 4 = .ok (.invokespecial 35, 3) := by decide +kernel
theorem d_law_7 : decode code 7 = .ok (.astore_n 1, 1) := by decide +kernel
theorem d_law_8 : decode code 8 = .ok (.new 36, 3) := by decide +kernel
theorem d_law_11 : decode code 11 = .ok (.dup, 1) := by decide +kernel
theorem d_law_12 : decode code 12 = .ok (.invokespecial 38, 3) := by decide +kernel
theorem d_law_15 : decode code 15 = .ok (.astore_n 2, 1) := by decide +kernel
theorem d_law_16 : decode code 16 = .ok (.iconst 1, 1) := by decide +kernel
theorem d_law_17 : decode code 17 = .ok (.newarray .long, 2) := by decide +kernel
theorem d_law_19 : decode code 19 = .ok (.astore_n 3, 1) := by decide +kernel
theorem d_law_20 : decode code 20 = .ok (.iconst 0, 1) := by decide +kernel
theorem d_law_21 : decode code 21 = .ok (.istore 4, 2) := by decide +kernel
theorem wz_obj : Cond.code objectInit ⟨#[0xb1]⟩ 1 none ∈ WL := WL_1 (List.mem_of_getElem? (i := 27) rfl) rfl
theorem wz_0 : (Cond.methodLink "PartnerStack$Real" (1 : Nat) ({ cls := "java/lang/Object", name := "<init>", desc := "()V" } : MethodName)) ∈ WL := WL_1 (List.mem_of_getElem? (i := 199) rfl) rfl
theorem wz_1 : (Cond.instanceMethod ({ cls := "java/lang/Object", name := "<init>", desc := "()V" } : MethodName)) ∈ WL := WL_1 (List.mem_of_getElem? (i := 26) rfl) rfl
theorem wz_2 : (Cond.methodLink "PartnerStack$Size" (1 : Nat) ({ cls := "java/lang/Object", name := "<init>", desc := "()V" } : MethodName)) ∈ WL := WL_1 (List.mem_of_getElem? (i := 65) rfl) rfl
theorem wz_3 : (Cond.methodLink "PartnerStack$Control" (3 : Nat) ({ cls := "java/lang/Object", name := "<init>", desc := "()V" } : MethodName)) ∈ WL := WL_1 (List.mem_of_getElem? (i := 44) rfl) rfl
theorem wz_4 : (Cond.methodLink "PartnerStack$Maker" (1 : Nat) ({ cls := "java/lang/Object", name := "<init>", desc := "()V" } : MethodName)) ∈ WL := WL_1 (List.mem_of_getElem? (i := 104) rfl) rfl
theorem wz_5 : (Cond.fieldLink "PartnerStack$Maker" (7 : Nat) "PartnerStack$Maker" "control" "LPartnerStack$Control;") ∈ WL := WL_1 (List.mem_of_getElem? (i := 105) rfl) rfl
theorem wz_6 : (Cond.methodLink "PartnerStack" (1 : Nat) ({ cls := "java/lang/Object", name := "<init>", desc := "()V" } : MethodName)) ∈ WL := WL_1 (List.mem_of_getElem? (i := 25) rfl) rfl
theorem wz_7 : (Cond.classLink "PartnerStack" (7 : Nat) "PartnerStack$Memory") ∈ WL := WL_1 (List.mem_of_getElem? (i := 28) rfl) rfl
theorem wz_8 : (Cond.instantiable "PartnerStack$Memory" (1 : Nat)) ∈ WL := WL_1 (List.mem_of_getElem? (i := 29) rfl) rfl
theorem wz_9 : (Cond.initialized "PartnerStack$Memory") ∈ WL := WL_1 (List.mem_of_getElem? (i := 2) rfl) rfl
theorem wz_10 : (Cond.methodLink "PartnerStack$Memory" (1 : Nat) ({ cls := "java/lang/Object", name := "<init>", desc := "()V" } : MethodName)) ∈ WL := WL_1 (List.mem_of_getElem? (i := 33) rfl) rfl
theorem wz_11 : (Cond.arrayClass FieldType.byte) ∈ WL := WL_1 (List.mem_of_getElem? (i := 38) rfl) rfl
theorem wz_12 : (Cond.fieldLink "PartnerStack$Memory" (9 : Nat) "PartnerStack$Memory" "bytes" "[B") ∈ WL := WL_1 (List.mem_of_getElem? (i := 34) rfl) rfl
theorem wz_13 : (Cond.code ({ cls := "PartnerStack$Memory", name := "<init>", desc := "()V" } : MethodName) prog_4_method_1_code (1 : Nat) (Option.none : Option FieldType)) ∈ WL := WL_1 (List.mem_of_getElem? (i := 32) rfl) rfl
theorem wz_14 : (Cond.instanceMethod ({ cls := "PartnerStack$Memory", name := "<init>", desc := "()V" } : MethodName)) ∈ WL := WL_1 (List.mem_of_getElem? (i := 31) rfl) rfl
theorem wz_15 : (Cond.fieldLink "PartnerStack" (10 : Nat) "PartnerStack" "row" "LPartnerStack$Memory;") ∈ WL := WL_1 (List.mem_of_getElem? (i := 224) rfl) rfl
theorem wz_16 : (Cond.classLink "PartnerStack" (16 : Nat) "PartnerStack$Control") ∈ WL := WL_1 (List.mem_of_getElem? (i := 39) rfl) rfl
theorem wz_17 : (Cond.instantiable "PartnerStack$Control" (2 : Nat)) ∈ WL := WL_1 (List.mem_of_getElem? (i := 40) rfl) rfl
theorem wz_18 : (Cond.initialized "PartnerStack$Control") ∈ WL := WL_1 (List.mem_of_getElem? (i := 3) rfl) rfl
theorem wz_19 : (Cond.code ({ cls := "PartnerStack$Control", name := "<init>", desc := "()V" } : MethodName) prog_2_method_1_code (1 : Nat) (Option.none : Option FieldType)) ∈ WL := WL_1 (List.mem_of_getElem? (i := 43) rfl) rfl
theorem wz_20 : (Cond.instanceMethod ({ cls := "PartnerStack$Control", name := "<init>", desc := "()V" } : MethodName)) ∈ WL := WL_1 (List.mem_of_getElem? (i := 42) rfl) rfl
theorem wz_21 : (Cond.fieldLink "PartnerStack" (19 : Nat) "PartnerStack" "control" "LPartnerStack$Control;") ∈ WL := WL_1 (List.mem_of_getElem? (i := 225) rfl) rfl
theorem wz_22 : (Cond.classLink "PartnerStack" (23 : Nat) "PartnerStack$Operation") ∈ WL := WL_1 (List.mem_of_getElem? (i := 54) rfl) rfl
theorem wz_23 : (Cond.instantiable "PartnerStack$Operation" (4 : Nat)) ∈ WL := WL_1 (List.mem_of_getElem? (i := 55) rfl) rfl
theorem wz_24 : (Cond.initialized "PartnerStack$Operation") ∈ WL := WL_1 (List.mem_of_getElem? (i := 4) rfl) rfl
theorem wz_25 : (Cond.methodLink "PartnerStack$Operation" (1 : Nat) ({ cls := "java/lang/Object", name := "<init>", desc := "()V" } : MethodName)) ∈ WL := WL_1 (List.mem_of_getElem? (i := 59) rfl) rfl
theorem wz_26 : (Cond.classLink "PartnerStack$Operation" (7 : Nat) "PartnerStack$Size") ∈ WL := WL_1 (List.mem_of_getElem? (i := 60) rfl) rfl
theorem wz_27 : (Cond.instantiable "PartnerStack$Size" (7 : Nat)) ∈ WL := WL_1 (List.mem_of_getElem? (i := 61) rfl) rfl
theorem wz_28 : (Cond.initialized "PartnerStack$Size") ∈ WL := WL_1 (List.mem_of_getElem? (i := 5) rfl) rfl
theorem wz_29 : (Cond.code ({ cls := "PartnerStack$Size", name := "<init>", desc := "()V" } : MethodName) prog_8_method_1_code (1 : Nat) (Option.none : Option FieldType)) ∈ WL := WL_1 (List.mem_of_getElem? (i := 64) rfl) rfl
theorem wz_30 : (Cond.instanceMethod ({ cls := "PartnerStack$Size", name := "<init>", desc := "()V" } : MethodName)) ∈ WL := WL_1 (List.mem_of_getElem? (i := 63) rfl) rfl
theorem wz_31 : (Cond.fieldLink "PartnerStack$Operation" (10 : Nat) "PartnerStack$Operation" "x" "LPartnerStack$Size;") ∈ WL := WL_1 (List.mem_of_getElem? (i := 111) rfl) rfl
theorem wz_32 : (Cond.fieldLink "PartnerStack$Operation" (16 : Nat) "PartnerStack$Operation" "y" "LPartnerStack$Size;") ∈ WL := WL_1 (List.mem_of_getElem? (i := 112) rfl) rfl
theorem wz_33 : (Cond.fieldLink "PartnerStack$Operation" (19 : Nat) "PartnerStack$Operation" "control" "LPartnerStack$Control;") ∈ WL := WL_1 (List.mem_of_getElem? (i := 109) rfl) rfl
theorem wz_34 : (Cond.classLink "PartnerStack$Operation" (23 : Nat) "PartnerStack$Maker") ∈ WL := WL_1 (List.mem_of_getElem? (i := 99) rfl) rfl
theorem wz_35 : (Cond.instantiable "PartnerStack$Maker" (1 : Nat)) ∈ WL := WL_1 (List.mem_of_getElem? (i := 100) rfl) rfl
theorem wz_36 : (Cond.initialized "PartnerStack$Maker") ∈ WL := WL_1 (List.mem_of_getElem? (i := 6) rfl) rfl
theorem wz_37 : (Cond.code ({ cls := "PartnerStack$Maker", name := "<init>", desc := "(LPartnerStack$Control;)V" } : MethodName) prog_3_method_1_code (2 : Nat) (Option.none : Option FieldType)) ∈ WL := WL_1 (List.mem_of_getElem? (i := 103) rfl) rfl
theorem wz_38 : (Cond.instanceMethod ({ cls := "PartnerStack$Maker", name := "<init>", desc := "(LPartnerStack$Control;)V" } : MethodName)) ∈ WL := WL_1 (List.mem_of_getElem? (i := 102) rfl) rfl
theorem wz_39 : (Cond.methodLink "PartnerStack$Operation" (25 : Nat) ({ cls := "PartnerStack$Maker", name := "<init>", desc := "(LPartnerStack$Control;)V" } : MethodName)) ∈ WL := WL_1 (List.mem_of_getElem? (i := 101) rfl) rfl
theorem wz_40 : (Cond.fieldLink "PartnerStack$Operation" (28 : Nat) "PartnerStack$Operation" "maker" "LPartnerStack$Maker;") ∈ WL := WL_1 (List.mem_of_getElem? (i := 110) rfl) rfl
theorem wz_41 : (Cond.code ({ cls := "PartnerStack$Operation", name := "<init>", desc := "(LPartnerStack$Control;)V" } : MethodName) prog_5_method_1_code (2 : Nat) (Option.none : Option FieldType)) ∈ WL := WL_1 (List.mem_of_getElem? (i := 58) rfl) rfl
theorem wz_42 : (Cond.instanceMethod ({ cls := "PartnerStack$Operation", name := "<init>", desc := "(LPartnerStack$Control;)V" } : MethodName)) ∈ WL := WL_1 (List.mem_of_getElem? (i := 57) rfl) rfl
theorem wz_43 : (Cond.methodLink "PartnerStack" (25 : Nat) ({ cls := "PartnerStack$Operation", name := "<init>", desc := "(LPartnerStack$Control;)V" } : MethodName)) ∈ WL := WL_1 (List.mem_of_getElem? (i := 56) rfl) rfl
theorem wz_44 : (Cond.fieldLink "PartnerStack" (28 : Nat) "PartnerStack" "operation" "LPartnerStack$Operation;") ∈ WL := WL_1 (List.mem_of_getElem? (i := 226) rfl) rfl
theorem wz_45 : (Cond.classLink "PartnerStack" (32 : Nat) "PartnerStack$Steps") ∈ WL := WL_1 (List.mem_of_getElem? (i := 122) rfl) rfl
theorem wz_46 : (Cond.instantiable "PartnerStack$Steps" (7 : Nat)) ∈ WL := WL_1 (List.mem_of_getElem? (i := 123) rfl) rfl
theorem wz_47 : (Cond.initialized "PartnerStack$Steps") ∈ WL := WL_1 (List.mem_of_getElem? (i := 7) rfl) rfl
theorem wz_48 : (Cond.methodLink "PartnerStack$Steps" (1 : Nat) ({ cls := "java/lang/Object", name := "<init>", desc := "()V" } : MethodName)) ∈ WL := WL_1 (List.mem_of_getElem? (i := 127) rfl) rfl
theorem wz_49 : (Cond.classLink "PartnerStack$Steps" (7 : Nat) "PartnerStack$Size") ∈ WL := WL_1 (List.mem_of_getElem? (i := 128) rfl) rfl
theorem wz_50 : (Cond.fieldLink "PartnerStack$Steps" (10 : Nat) "PartnerStack$Steps" "x" "LPartnerStack$Size;") ∈ WL := WL_1 (List.mem_of_getElem? (i := 134) rfl) rfl
theorem wz_51 : (Cond.fieldLink "PartnerStack$Steps" (16 : Nat) "PartnerStack$Steps" "y" "LPartnerStack$Size;") ∈ WL := WL_1 (List.mem_of_getElem? (i := 135) rfl) rfl
theorem wz_52 : (Cond.fieldLink "PartnerStack$Steps" (19 : Nat) "PartnerStack$Steps" "control" "LPartnerStack$Control;") ∈ WL := WL_1 (List.mem_of_getElem? (i := 132) rfl) rfl
theorem wz_53 : (Cond.classLink "PartnerStack$Steps" (23 : Nat) "PartnerStack$Maker") ∈ WL := WL_1 (List.mem_of_getElem? (i := 130) rfl) rfl
theorem wz_54 : (Cond.methodLink "PartnerStack$Steps" (25 : Nat) ({ cls := "PartnerStack$Maker", name := "<init>", desc := "(LPartnerStack$Control;)V" } : MethodName)) ∈ WL := WL_1 (List.mem_of_getElem? (i := 131) rfl) rfl
theorem wz_55 : (Cond.fieldLink "PartnerStack$Steps" (28 : Nat) "PartnerStack$Steps" "maker" "LPartnerStack$Maker;") ∈ WL := WL_1 (List.mem_of_getElem? (i := 133) rfl) rfl
theorem wz_56 : (Cond.code ({ cls := "PartnerStack$Steps", name := "<init>", desc := "(LPartnerStack$Control;)V" } : MethodName) prog_9_method_1_code (2 : Nat) (Option.none : Option FieldType)) ∈ WL := WL_1 (List.mem_of_getElem? (i := 126) rfl) rfl
theorem wz_57 : (Cond.instanceMethod ({ cls := "PartnerStack$Steps", name := "<init>", desc := "(LPartnerStack$Control;)V" } : MethodName)) ∈ WL := WL_1 (List.mem_of_getElem? (i := 125) rfl) rfl
theorem wz_58 : (Cond.methodLink "PartnerStack" (34 : Nat) ({ cls := "PartnerStack$Steps", name := "<init>", desc := "(LPartnerStack$Control;)V" } : MethodName)) ∈ WL := WL_1 (List.mem_of_getElem? (i := 124) rfl) rfl
theorem wz_59 : (Cond.fieldLink "PartnerStack" (35 : Nat) "PartnerStack" "steps" "LPartnerStack$Steps;") ∈ WL := WL_1 (List.mem_of_getElem? (i := 227) rfl) rfl
theorem wz_60 : (Cond.classLink "PartnerStack" (39 : Nat) "PartnerStack$Reader") ∈ WL := WL_1 (List.mem_of_getElem? (i := 157) rfl) rfl
theorem wz_61 : (Cond.instantiable "PartnerStack$Reader" (3 : Nat)) ∈ WL := WL_1 (List.mem_of_getElem? (i := 158) rfl) rfl
theorem wz_62 : (Cond.initialized "PartnerStack$Reader") ∈ WL := WL_1 (List.mem_of_getElem? (i := 8) rfl) rfl
theorem wz_63 : (Cond.methodLink "PartnerStack$Reader" (1 : Nat) ({ cls := "java/lang/Object", name := "<init>", desc := "()V" } : MethodName)) ∈ WL := WL_1 (List.mem_of_getElem? (i := 162) rfl) rfl
theorem wz_64 : (Cond.classLink "PartnerStack$Reader" (7 : Nat) "PartnerStack$Size") ∈ WL := WL_1 (List.mem_of_getElem? (i := 163) rfl) rfl
theorem wz_65 : (Cond.fieldLink "PartnerStack$Reader" (10 : Nat) "PartnerStack$Reader" "size" "LPartnerStack$Size;") ∈ WL := WL_1 (List.mem_of_getElem? (i := 167) rfl) rfl
theorem wz_66 : (Cond.fieldLink "PartnerStack$Reader" (16 : Nat) "PartnerStack$Reader" "control" "LPartnerStack$Control;") ∈ WL := WL_1 (List.mem_of_getElem? (i := 165) rfl) rfl
theorem wz_67 : (Cond.fieldLink "PartnerStack$Reader" (20 : Nat) "PartnerStack$Reader" "row" "LPartnerStack$Memory;") ∈ WL := WL_1 (List.mem_of_getElem? (i := 166) rfl) rfl
theorem wz_68 : (Cond.code ({ cls := "PartnerStack$Reader", name := "<init>", desc := "(LPartnerStack$Control;LPartnerStack$Memory;)V" } : MethodName) prog_6_method_1_code (3 : Nat) (Option.none : Option FieldType)) ∈ WL := WL_1 (List.mem_of_getElem? (i := 161) rfl) rfl
theorem wz_69 : (Cond.instanceMethod ({ cls := "PartnerStack$Reader", name := "<init>", desc := "(LPartnerStack$Control;LPartnerStack$Memory;)V" } : MethodName)) ∈ WL := WL_1 (List.mem_of_getElem? (i := 160) rfl) rfl
theorem wz_70 : (Cond.methodLink "PartnerStack" (41 : Nat) ({ cls := "PartnerStack$Reader", name := "<init>", desc := "(LPartnerStack$Control;LPartnerStack$Memory;)V" } : MethodName)) ∈ WL := WL_1 (List.mem_of_getElem? (i := 159) rfl) rfl
theorem wz_71 : (Cond.fieldLink "PartnerStack" (44 : Nat) "PartnerStack" "reader" "LPartnerStack$Reader;") ∈ WL := WL_1 (List.mem_of_getElem? (i := 228) rfl) rfl
theorem wz_72 : (Cond.classLink "PartnerStack" (48 : Nat) "PartnerStack$Writer") ∈ WL := WL_1 (List.mem_of_getElem? (i := 175) rfl) rfl
theorem wz_73 : (Cond.instantiable "PartnerStack$Writer" (3 : Nat)) ∈ WL := WL_1 (List.mem_of_getElem? (i := 176) rfl) rfl
theorem wz_74 : (Cond.initialized "PartnerStack$Writer") ∈ WL := WL_1 (List.mem_of_getElem? (i := 9) rfl) rfl
theorem wz_75 : (Cond.methodLink "PartnerStack$Writer" (1 : Nat) ({ cls := "java/lang/Object", name := "<init>", desc := "()V" } : MethodName)) ∈ WL := WL_1 (List.mem_of_getElem? (i := 180) rfl) rfl
theorem wz_76 : (Cond.classLink "PartnerStack$Writer" (7 : Nat) "PartnerStack$Size") ∈ WL := WL_1 (List.mem_of_getElem? (i := 181) rfl) rfl
theorem wz_77 : (Cond.fieldLink "PartnerStack$Writer" (10 : Nat) "PartnerStack$Writer" "size" "LPartnerStack$Size;") ∈ WL := WL_1 (List.mem_of_getElem? (i := 185) rfl) rfl
theorem wz_78 : (Cond.fieldLink "PartnerStack$Writer" (16 : Nat) "PartnerStack$Writer" "control" "LPartnerStack$Control;") ∈ WL := WL_1 (List.mem_of_getElem? (i := 183) rfl) rfl
theorem wz_79 : (Cond.fieldLink "PartnerStack$Writer" (20 : Nat) "PartnerStack$Writer" "row" "LPartnerStack$Memory;") ∈ WL := WL_1 (List.mem_of_getElem? (i := 184) rfl) rfl
theorem wz_80 : (Cond.code ({ cls := "PartnerStack$Writer", name := "<init>", desc := "(LPartnerStack$Control;LPartnerStack$Memory;)V" } : MethodName) prog_10_method_1_code (3 : Nat) (Option.none : Option FieldType)) ∈ WL := WL_1 (List.mem_of_getElem? (i := 179) rfl) rfl
theorem wz_81 : (Cond.instanceMethod ({ cls := "PartnerStack$Writer", name := "<init>", desc := "(LPartnerStack$Control;LPartnerStack$Memory;)V" } : MethodName)) ∈ WL := WL_1 (List.mem_of_getElem? (i := 178) rfl) rfl
theorem wz_82 : (Cond.methodLink "PartnerStack" (50 : Nat) ({ cls := "PartnerStack$Writer", name := "<init>", desc := "(LPartnerStack$Control;LPartnerStack$Memory;)V" } : MethodName)) ∈ WL := WL_1 (List.mem_of_getElem? (i := 177) rfl) rfl
theorem wz_83 : (Cond.fieldLink "PartnerStack" (51 : Nat) "PartnerStack" "writer" "LPartnerStack$Writer;") ∈ WL := WL_1 (List.mem_of_getElem? (i := 229) rfl) rfl
theorem wz_84 : (Cond.classLink "PartnerStack" (55 : Nat) "PartnerStack$Real") ∈ WL := WL_1 (List.mem_of_getElem? (i := 193) rfl) rfl
theorem wz_85 : (Cond.fieldLink "PartnerStack" (57 : Nat) "PartnerStack" "registers" "[LPartnerStack$Real;") ∈ WL := WL_1 (List.mem_of_getElem? (i := 230) rfl) rfl
theorem wz_86 : (Cond.arrayClass FieldType.boolean) ∈ WL := WL_1 (List.mem_of_getElem? (i := 219) rfl) rfl
theorem wz_87 : (Cond.fieldLink "PartnerStack" (61 : Nat) "PartnerStack" "empty" "[Z") ∈ WL := WL_1 (List.mem_of_getElem? (i := 231) rfl) rfl
theorem wz_88 : (Cond.instantiable "PartnerStack$Real" (3 : Nat)) ∈ WL := WL_1 (List.mem_of_getElem? (i := 195) rfl) rfl
theorem wz_89 : (Cond.initialized "PartnerStack$Real") ∈ WL := WL_1 (List.mem_of_getElem? (i := 10) rfl) rfl
theorem wz_90 : (Cond.code ({ cls := "PartnerStack$Real", name := "<init>", desc := "()V" } : MethodName) prog_7_method_1_code (1 : Nat) (Option.none : Option FieldType)) ∈ WL := WL_1 (List.mem_of_getElem? (i := 198) rfl) rfl
theorem wz_91 : (Cond.instanceMethod ({ cls := "PartnerStack$Real", name := "<init>", desc := "()V" } : MethodName)) ∈ WL := WL_1 (List.mem_of_getElem? (i := 197) rfl) rfl
theorem wz_92 : (Cond.fieldLink "PartnerStack" (66 : Nat) "PartnerStack" "left" "LPartnerStack$Real;") ∈ WL := WL_1 (List.mem_of_getElem? (i := 232) rfl) rfl
theorem wz_93 : (Cond.fieldLink "PartnerStack" (70 : Nat) "PartnerStack" "right" "LPartnerStack$Real;") ∈ WL := WL_1 (List.mem_of_getElem? (i := 233) rfl) rfl
theorem wz_94 : (Cond.fieldLink "PartnerStack" (73 : Nat) "PartnerStack" "answer" "LPartnerStack$Real;") ∈ WL := WL_1 (List.mem_of_getElem? (i := 234) rfl) rfl
theorem wz_95 : (Cond.fieldLink "PartnerStack" (76 : Nat) "PartnerStack" "second" "LPartnerStack$Real;") ∈ WL := WL_1 (List.mem_of_getElem? (i := 235) rfl) rfl
theorem wz_96 : (Cond.fieldLink "PartnerStack" (152 : Nat) "PartnerStack$Control" "setting" "I") ∈ WL := WL_1 (List.mem_of_getElem? (i := 46) rfl) rfl
theorem wz_97 : (Cond.fieldLink "PartnerStack" (131 : Nat) "PartnerStack" "toldBefore" "I") ∈ WL := WL_1 (List.mem_of_getElem? (i := 237) rfl) rfl
theorem wz_98 : (Cond.fieldLink "PartnerStack" (185 : Nat) "PartnerStack" "conditions" "I") ∈ WL := WL_1 (List.mem_of_getElem? (i := 238) rfl) rfl
theorem wz_99 : (Cond.fieldLink "PartnerStack" (183 : Nat) "PartnerStack" "top" "I") ∈ WL := WL_1 (List.mem_of_getElem? (i := 236) rfl) rfl
theorem wz_100 : (Cond.fieldLink "PartnerStack" (137 : Nat) "PartnerStack" "keptCode" "I") ∈ WL := WL_1 (List.mem_of_getElem? (i := 239) rfl) rfl
theorem wz_101 : (Cond.fieldLink "PartnerStack" (140 : Nat) "PartnerStack" "keptCodePlace" "I") ∈ WL := WL_2 (List.mem_of_getElem? (i := 0) rfl) rfl
theorem wz_102 : (Cond.fieldLink "PartnerStack" (143 : Nat) "PartnerStack" "keptOperandPlace" "I") ∈ WL := WL_2 (List.mem_of_getElem? (i := 1) rfl) rfl
theorem wz_103 : (Cond.code ({ cls := "PartnerStack", name := "beInitial", desc := "()V" } : MethodName) prog_1_method_15_code (2 : Nat) (Option.none : Option FieldType)) ∈ WL := WL_1 (List.mem_of_getElem? (i := 223) rfl) rfl
theorem wz_104 : (Cond.initialized "PartnerStack") ∈ WL := WL_1 (List.mem_of_getElem? (i := 1) rfl) rfl
theorem wz_105 : (Cond.instanceMethod ({ cls := "PartnerStack", name := "beInitial", desc := "()V" } : MethodName)) ∈ WL := WL_1 (List.mem_of_getElem? (i := 222) rfl) rfl
theorem wz_106 : (Cond.selects "PartnerStack" ({ cls := "PartnerStack", name := "beInitial", desc := "()V" } : MethodName) ({ cls := "PartnerStack", name := "beInitial", desc := "()V" } : MethodName)) ∈ WL := WL_p (List.mem_map.mpr ⟨_, (List.mem_append_left _ (List.mem_of_getElem? (i := 0) (l := lw_privs_1) rfl)), rfl⟩) rfl
theorem wz_107 : (Cond.methodLink "PartnerStack" (79 : Nat) ({ cls := "PartnerStack", name := "beInitial", desc := "()V" } : MethodName)) ∈ WL := WL_1 (List.mem_of_getElem? (i := 220) rfl) rfl
theorem wz_108 : (Cond.methodLink "PartnerStackModel" (1 : Nat) ({ cls := "java/lang/Object", name := "<init>", desc := "()V" } : MethodName)) ∈ WL := WL_4 (List.mem_of_getElem? (i := 177) rfl) rfl
theorem wz_109 : (Cond.arrayClass FieldType.int) ∈ WL := WL_4 (List.mem_of_getElem? (i := 237) rfl) rfl
theorem wz_110 : (Cond.fieldLink "PartnerStackModel" (7 : Nat) "PartnerStackModel" "memory" "[I") ∈ WL := WL_5 (List.mem_of_getElem? (i := 90) rfl) rfl
theorem wz_111 : (Cond.fieldLink "PartnerStackModel" (13 : Nat) "PartnerStackModel" "top" "[I") ∈ WL := WL_5 (List.mem_of_getElem? (i := 91) rfl) rfl
theorem wz_112 : (Cond.arrayClass FieldType.long) ∈ WL := WL_4 (List.mem_of_getElem? (i := 238) rfl) rfl
theorem wz_113 : (Cond.fieldLink "PartnerStackModel" (16 : Nat) "PartnerStackModel" "fraction" "[J") ∈ WL := WL_5 (List.mem_of_getElem? (i := 92) rfl) rfl
theorem wz_114 : (Cond.fieldLink "PartnerStackModel" (20 : Nat) "PartnerStackModel" "empty" "[Z") ∈ WL := WL_5 (List.mem_of_getElem? (i := 93) rfl) rfl
theorem wz_115 : (Cond.classLink "PartnerStackModel" (24 : Nat) "PartnerStackModel$RealOperationsModel") ∈ WL := WL_4 (List.mem_of_getElem? (i := 178) rfl) rfl
theorem wz_116 : (Cond.instantiable "PartnerStackModel$RealOperationsModel" (17 : Nat)) ∈ WL := WL_4 (List.mem_of_getElem? (i := 179) rfl) rfl
theorem wz_117 : (Cond.initialized "PartnerStackModel$RealOperationsModel") ∈ WL := WL_1 (List.mem_of_getElem? (i := 12) rfl) rfl
theorem wz_118 : (Cond.methodLink "PartnerStackModel$RealOperationsModel" (1 : Nat) ({ cls := "java/lang/Object", name := "<init>", desc := "()V" } : MethodName)) ∈ WL := WL_4 (List.mem_of_getElem? (i := 183) rfl) rfl
theorem wz_119 : (Cond.fieldLink "PartnerStackModel$RealOperationsModel" (7 : Nat) "PartnerStackModel$RealOperationsModel" "word" "I") ∈ WL := WL_4 (List.mem_of_getElem? (i := 186) rfl) rfl
theorem wz_120 : (Cond.fieldLink "PartnerStackModel$RealOperationsModel" (13 : Nat) "PartnerStackModel$RealOperationsModel" "top" "[I") ∈ WL := WL_4 (List.mem_of_getElem? (i := 187) rfl) rfl
theorem wz_121 : (Cond.fieldLink "PartnerStackModel$RealOperationsModel" (17 : Nat) "PartnerStackModel$RealOperationsModel" "fraction" "[J") ∈ WL := WL_4 (List.mem_of_getElem? (i := 188) rfl) rfl
theorem wz_122 : (Cond.fieldLink "PartnerStackModel$RealOperationsModel" (21 : Nat) "PartnerStackModel$RealOperationsModel" "minus" "[Z") ∈ WL := WL_4 (List.mem_of_getElem? (i := 190) rfl) rfl
theorem wz_123 : (Cond.fieldLink "PartnerStackModel$RealOperationsModel" (25 : Nat) "PartnerStackModel$RealOperationsModel" "power" "[I") ∈ WL := WL_4 (List.mem_of_getElem? (i := 191) rfl) rfl
theorem wz_124 : (Cond.fieldLink "PartnerStackModel$RealOperationsModel" (28 : Nat) "PartnerStackModel$RealOperationsModel" "part" "[J") ∈ WL := WL_4 (List.mem_of_getElem? (i := 192) rfl) rfl
theorem wz_125 : (Cond.constant "PartnerStackModel$RealOperationsModel" (31 : Nat) (33000 : Int32)) ∈ WL := WL_4 (List.mem_of_getElem? (i := 184) rfl) rfl
theorem wz_126 : (Cond.fieldLink "PartnerStackModel$RealOperationsModel" (32 : Nat) "PartnerStackModel$RealOperationsModel" "row" "[Z") ∈ WL := WL_4 (List.mem_of_getElem? (i := 193) rfl) rfl
theorem wz_127 : (Cond.code ({ cls := "PartnerStackModel$RealOperationsModel", name := "<init>", desc := "()V" } : MethodName) prog_14_method_1_code (1 : Nat) (Option.none : Option FieldType)) ∈ WL := WL_4 (List.mem_of_getElem? (i := 182) rfl) rfl
theorem wz_128 : (Cond.instanceMethod ({ cls := "PartnerStackModel$RealOperationsModel", name := "<init>", desc := "()V" } : MethodName)) ∈ WL := WL_4 (List.mem_of_getElem? (i := 181) rfl) rfl
theorem wz_129 : (Cond.methodLink "PartnerStackModel" (26 : Nat) ({ cls := "PartnerStackModel$RealOperationsModel", name := "<init>", desc := "()V" } : MethodName)) ∈ WL := WL_4 (List.mem_of_getElem? (i := 180) rfl) rfl
theorem wz_130 : (Cond.fieldLink "PartnerStackModel" (27 : Nat) "PartnerStackModel" "operations" "LPartnerStackModel$RealOperationsModel;") ∈ WL := WL_5 (List.mem_of_getElem? (i := 108) rfl) rfl
theorem wz_131 : (Cond.classLink "PartnerStackModel" (31 : Nat) "PartnerStackModel$RealStepsModel") ∈ WL := WL_4 (List.mem_of_getElem? (i := 239) rfl) rfl
theorem wz_132 : (Cond.instantiable "PartnerStackModel$RealStepsModel" (13 : Nat)) ∈ WL := WL_5 (List.mem_of_getElem? (i := 0) rfl) rfl
theorem wz_133 : (Cond.initialized "PartnerStackModel$RealStepsModel") ∈ WL := WL_1 (List.mem_of_getElem? (i := 13) rfl) rfl
theorem wz_134 : (Cond.methodLink "PartnerStackModel$RealStepsModel" (1 : Nat) ({ cls := "java/lang/Object", name := "<init>", desc := "()V" } : MethodName)) ∈ WL := WL_5 (List.mem_of_getElem? (i := 4) rfl) rfl
theorem wz_135 : (Cond.fieldLink "PartnerStackModel$RealStepsModel" (7 : Nat) "PartnerStackModel$RealStepsModel" "control" "I") ∈ WL := WL_5 (List.mem_of_getElem? (i := 6) rfl) rfl
theorem wz_136 : (Cond.fieldLink "PartnerStackModel$RealStepsModel" (13 : Nat) "PartnerStackModel$RealStepsModel" "top" "[I") ∈ WL := WL_5 (List.mem_of_getElem? (i := 7) rfl) rfl
theorem wz_137 : (Cond.fieldLink "PartnerStackModel$RealStepsModel" (17 : Nat) "PartnerStackModel$RealStepsModel" "fraction" "[J") ∈ WL := WL_5 (List.mem_of_getElem? (i := 8) rfl) rfl
theorem wz_138 : (Cond.code ({ cls := "PartnerStackModel$RealStepsModel", name := "<init>", desc := "()V" } : MethodName) prog_15_method_1_code (1 : Nat) (Option.none : Option FieldType)) ∈ WL := WL_5 (List.mem_of_getElem? (i := 3) rfl) rfl
theorem wz_139 : (Cond.instanceMethod ({ cls := "PartnerStackModel$RealStepsModel", name := "<init>", desc := "()V" } : MethodName)) ∈ WL := WL_5 (List.mem_of_getElem? (i := 2) rfl) rfl
theorem wz_140 : (Cond.methodLink "PartnerStackModel" (33 : Nat) ({ cls := "PartnerStackModel$RealStepsModel", name := "<init>", desc := "()V" } : MethodName)) ∈ WL := WL_5 (List.mem_of_getElem? (i := 1) rfl) rfl
theorem wz_141 : (Cond.fieldLink "PartnerStackModel" (34 : Nat) "PartnerStackModel" "steps" "LPartnerStackModel$RealStepsModel;") ∈ WL := WL_5 (List.mem_of_getElem? (i := 109) rfl) rfl
theorem wz_142 : (Cond.classLink "PartnerStackModel" (38 : Nat) "PartnerStackModel$RealConversionsModel") ∈ WL := WL_5 (List.mem_of_getElem? (i := 45) rfl) rfl
theorem wz_143 : (Cond.instantiable "PartnerStackModel$RealConversionsModel" (11 : Nat)) ∈ WL := WL_5 (List.mem_of_getElem? (i := 46) rfl) rfl
theorem wz_144 : (Cond.initialized "PartnerStackModel$RealConversionsModel") ∈ WL := WL_1 (List.mem_of_getElem? (i := 14) rfl) rfl
theorem wz_145 : (Cond.methodLink "PartnerStackModel$RealConversionsModel" (1 : Nat) ({ cls := "java/lang/Object", name := "<init>", desc := "()V" } : MethodName)) ∈ WL := WL_5 (List.mem_of_getElem? (i := 50) rfl) rfl
theorem wz_146 : (Cond.fieldLink "PartnerStackModel$RealConversionsModel" (7 : Nat) "PartnerStackModel$RealConversionsModel" "word" "I") ∈ WL := WL_5 (List.mem_of_getElem? (i := 52) rfl) rfl
theorem wz_147 : (Cond.fieldLink "PartnerStackModel$RealConversionsModel" (13 : Nat) "PartnerStackModel$RealConversionsModel" "top" "[I") ∈ WL := WL_5 (List.mem_of_getElem? (i := 53) rfl) rfl
theorem wz_148 : (Cond.fieldLink "PartnerStackModel$RealConversionsModel" (17 : Nat) "PartnerStackModel$RealConversionsModel" "fraction" "[J") ∈ WL := WL_5 (List.mem_of_getElem? (i := 54) rfl) rfl
theorem wz_149 : (Cond.fieldLink "PartnerStackModel$RealConversionsModel" (21 : Nat) "PartnerStackModel$RealConversionsModel" "memory" "[I") ∈ WL := WL_5 (List.mem_of_getElem? (i := 55) rfl) rfl
theorem wz_150 : (Cond.code ({ cls := "PartnerStackModel$RealConversionsModel", name := "<init>", desc := "()V" } : MethodName) prog_13_method_1_code (1 : Nat) (Option.none : Option FieldType)) ∈ WL := WL_5 (List.mem_of_getElem? (i := 49) rfl) rfl
theorem wz_151 : (Cond.instanceMethod ({ cls := "PartnerStackModel$RealConversionsModel", name := "<init>", desc := "()V" } : MethodName)) ∈ WL := WL_5 (List.mem_of_getElem? (i := 48) rfl) rfl
theorem wz_152 : (Cond.methodLink "PartnerStackModel" (40 : Nat) ({ cls := "PartnerStackModel$RealConversionsModel", name := "<init>", desc := "()V" } : MethodName)) ∈ WL := WL_5 (List.mem_of_getElem? (i := 47) rfl) rfl
theorem wz_153 : (Cond.fieldLink "PartnerStackModel" (41 : Nat) "PartnerStackModel" "conversions" "LPartnerStackModel$RealConversionsModel;") ∈ WL := WL_5 (List.mem_of_getElem? (i := 110) rfl) rfl
theorem wz_154 : (Cond.fieldLink "PartnerStackModel" (52 : Nat) "PartnerStackModel" "control" "I") ∈ WL := WL_5 (List.mem_of_getElem? (i := 95) rfl) rfl
theorem wz_155 : (Cond.fieldLink "PartnerStackModel" (55 : Nat) "PartnerStackModel" "told" "I") ∈ WL := WL_5 (List.mem_of_getElem? (i := 96) rfl) rfl
theorem wz_156 : (Cond.fieldLink "PartnerStackModel" (58 : Nat) "PartnerStackModel" "conditions" "I") ∈ WL := WL_5 (List.mem_of_getElem? (i := 97) rfl) rfl
theorem wz_157 : (Cond.fieldLink "PartnerStackModel" (61 : Nat) "PartnerStackModel" "first" "I") ∈ WL := WL_5 (List.mem_of_getElem? (i := 94) rfl) rfl
theorem wz_158 : (Cond.fieldLink "PartnerStackModel" (64 : Nat) "PartnerStackModel" "codeOf" "I") ∈ WL := WL_5 (List.mem_of_getElem? (i := 98) rfl) rfl
theorem wz_159 : (Cond.fieldLink "PartnerStackModel" (67 : Nat) "PartnerStackModel" "codePlace" "I") ∈ WL := WL_5 (List.mem_of_getElem? (i := 99) rfl) rfl
theorem wz_160 : (Cond.fieldLink "PartnerStackModel" (70 : Nat) "PartnerStackModel" "operandPlace" "I") ∈ WL := WL_5 (List.mem_of_getElem? (i := 100) rfl) rfl
theorem wz_161 : (Cond.code ({ cls := "PartnerStackModel", name := "begin", desc := "()V" } : MethodName) prog_12_method_3_code (2 : Nat) (Option.none : Option FieldType)) ∈ WL := WL_5 (List.mem_of_getElem? (i := 88) rfl) rfl
theorem wz_162 : (Cond.initialized "PartnerStackModel") ∈ WL := WL_1 (List.mem_of_getElem? (i := 11) rfl) rfl
theorem wz_163 : (Cond.instanceMethod ({ cls := "PartnerStackModel", name := "begin", desc := "()V" } : MethodName)) ∈ WL := WL_5 (List.mem_of_getElem? (i := 87) rfl) rfl
theorem wz_164 : (Cond.selects "PartnerStackModel" ({ cls := "PartnerStackModel", name := "begin", desc := "()V" } : MethodName) ({ cls := "PartnerStackModel", name := "begin", desc := "()V" } : MethodName)) ∈ WL := WL_p (List.mem_map.mpr ⟨_, (List.mem_append_right _ (List.mem_append_right _ (List.mem_append_right _ (List.mem_append_left _ (List.mem_of_getElem? (i := 1) (l := lw_privs_4) rfl))))), rfl⟩) rfl
theorem wz_165 : (Cond.methodLink "PartnerStackModel" (45 : Nat) ({ cls := "PartnerStackModel", name := "begin", desc := "()V" } : MethodName)) ∈ WL := WL_5 (List.mem_of_getElem? (i := 85) rfl) rfl
theorem wz_166 : (Cond.classLink "PartnerStackLaw" (8 : Nat) "PartnerStack") ∈ WL := WL_1 (List.mem_of_getElem? (i := 20) rfl) rfl
theorem wz_167 : (Cond.instantiable "PartnerStack" (18 : Nat)) ∈ WL := WL_1 (List.mem_of_getElem? (i := 21) rfl) rfl
theorem wz_168 : (Cond.code ({ cls := "PartnerStack", name := "<init>", desc := "()V" } : MethodName) prog_1_method_1_code (2 : Nat) (Option.none : Option FieldType)) ∈ WL := WL_1 (List.mem_of_getElem? (i := 24) rfl) rfl
theorem wz_169 : (Cond.instanceMethod ({ cls := "PartnerStack", name := "<init>", desc := "()V" } : MethodName)) ∈ WL := WL_1 (List.mem_of_getElem? (i := 23) rfl) rfl
theorem wz_170 : (Cond.methodLink "PartnerStackLaw" (35 : Nat) ({ cls := "PartnerStack", name := "<init>", desc := "()V" } : MethodName)) ∈ WL := WL_1 (List.mem_of_getElem? (i := 22) rfl) rfl
theorem wz_171 : (Cond.classLink "PartnerStackLaw" (36 : Nat) "PartnerStackModel") ∈ WL := WL_4 (List.mem_of_getElem? (i := 172) rfl) rfl
theorem wz_172 : (Cond.instantiable "PartnerStackModel" (22 : Nat)) ∈ WL := WL_4 (List.mem_of_getElem? (i := 173) rfl) rfl
theorem wz_173 : (Cond.code ({ cls := "PartnerStackModel", name := "<init>", desc := "()V" } : MethodName) prog_12_method_1_code (1 : Nat) (Option.none : Option FieldType)) ∈ WL := WL_4 (List.mem_of_getElem? (i := 176) rfl) rfl
theorem wz_174 : (Cond.instanceMethod ({ cls := "PartnerStackModel", name := "<init>", desc := "()V" } : MethodName)) ∈ WL := WL_4 (List.mem_of_getElem? (i := 175) rfl) rfl
theorem wz_175 : (Cond.methodLink "PartnerStackLaw" (38 : Nat) ({ cls := "PartnerStackModel", name := "<init>", desc := "()V" } : MethodName)) ∈ WL := WL_4 (List.mem_of_getElem? (i := 174) rfl) rfl
theorem ins_PS : Cond.instantiable "PartnerStack" 18 ∈ WL := wz_167
theorem ins_Mem : Cond.instantiable "PartnerStack$Memory" 1 ∈ WL := wz_8
theorem ins_Ctl : Cond.instantiable "PartnerStack$Control" 2 ∈ WL := wz_17
theorem ins_Size : Cond.instantiable "PartnerStack$Size" 7 ∈ WL := wz_27
theorem ins_Maker : Cond.instantiable "PartnerStack$Maker" 1 ∈ WL := wz_35
theorem ins_Real : Cond.instantiable "PartnerStack$Real" 3 ∈ WL := wz_88
theorem ins_Oper : Cond.instantiable "PartnerStack$Operation" 4 ∈ WL := wz_23
theorem ins_Steps : Cond.instantiable "PartnerStack$Steps" 7 ∈ WL := wz_46
theorem ins_Rd : Cond.instantiable "PartnerStack$Reader" 3 ∈ WL := wz_61
theorem ins_Wr : Cond.instantiable "PartnerStack$Writer" 3 ∈ WL := wz_73
theorem ins_M : Cond.instantiable "PartnerStackModel" 22 ∈ WL := wz_172
theorem ins_MO : Cond.instantiable "PartnerStackModel$RealOperationsModel" 17 ∈ WL := wz_116
theorem ins_MS : Cond.instantiable "PartnerStackModel$RealStepsModel" 13 ∈ WL := wz_132
theorem ins_MC : Cond.instantiable "PartnerStackModel$RealConversionsModel" 11 ∈ WL := wz_143
theorem arr_byte : Cond.arrayClass .byte ∈ WL := wz_11
theorem arr_int : Cond.arrayClass .int ∈ WL := wz_109
theorem arr_long : Cond.arrayClass .long ∈ WL := wz_112
theorem arr_boolean : Cond.arrayClass .boolean ∈ WL := wz_86
