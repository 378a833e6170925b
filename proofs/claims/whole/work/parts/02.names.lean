/-! names, fields, cells of the world: printed by wip/gen/names.py out of the listing -/
def R_PS : String := "PartnerStack"
def F_PS : u_T := fun k => match k with
  | 0 => ("PartnerStack", "row", "LPartnerStack$Memory;", true)
  | 1 => ("PartnerStack", "control", "LPartnerStack$Control;", true)
  | 2 => ("PartnerStack", "operation", "LPartnerStack$Operation;", true)
  | 3 => ("PartnerStack", "steps", "LPartnerStack$Steps;", true)
  | 4 => ("PartnerStack", "reader", "LPartnerStack$Reader;", true)
  | 5 => ("PartnerStack", "writer", "LPartnerStack$Writer;", true)
  | 6 => ("PartnerStack", "registers", "[LPartnerStack$Real;", true)
  | 7 => ("PartnerStack", "empty", "[Z", true)
  | 8 => ("PartnerStack", "left", "LPartnerStack$Real;", true)
  | 9 => ("PartnerStack", "right", "LPartnerStack$Real;", true)
  | 10 => ("PartnerStack", "answer", "LPartnerStack$Real;", true)
  | 11 => ("PartnerStack", "second", "LPartnerStack$Real;", true)
  | 12 => ("PartnerStack", "top", "I", false)
  | 13 => ("PartnerStack", "toldBefore", "I", false)
  | 14 => ("PartnerStack", "conditions", "I", false)
  | 15 => ("PartnerStack", "keptCode", "I", false)
  | 16 => ("PartnerStack", "keptCodePlace", "I", false)
  | _ => ("PartnerStack", "keptOperandPlace", "I", false)
def t_PS : Nat → FieldType := fun k => match k with
  | 0 => .object "PartnerStack$Memory"
  | 1 => .object "PartnerStack$Control"
  | 2 => .object "PartnerStack$Operation"
  | 3 => .object "PartnerStack$Steps"
  | 4 => .object "PartnerStack$Reader"
  | 5 => .object "PartnerStack$Writer"
  | 6 => .array (.object "PartnerStack$Real")
  | 7 => .array .boolean
  | 8 => .object "PartnerStack$Real"
  | 9 => .object "PartnerStack$Real"
  | 10 => .object "PartnerStack$Real"
  | 11 => .object "PartnerStack$Real"
  | 12 => .int
  | 13 => .int
  | 14 => .int
  | 15 => .int
  | 16 => .int
  | _ => .int
theorem n_PS : ∀ a, a < 18 → ∀ b, b < 18 → a ≠ b → (F_PS a).2.1 ≠ (F_PS b).2.1 := by decide +kernel
theorem t_PS_ok : ∀ k, k < 18 → parseFieldDescriptor (F_PS k).2.2.1 = some (t_PS k) := by decide +kernel
theorem i_PS : ∀ w ∈ u_ws R_PS F_PS 18, w ∈ WL := by decide +kernel
def R_Mem : String := "PartnerStack$Memory"
def F_Mem : u_T := fun k => match k with
  | _ => ("PartnerStack$Memory", "bytes", "[B", true)
def t_Mem : Nat → FieldType := fun k => match k with
  | _ => .array .byte
theorem n_Mem : ∀ a, a < 1 → ∀ b, b < 1 → a ≠ b → (F_Mem a).2.1 ≠ (F_Mem b).2.1 := by decide +kernel
theorem t_Mem_ok : ∀ k, k < 1 → parseFieldDescriptor (F_Mem k).2.2.1 = some (t_Mem k) := by decide +kernel
theorem i_Mem : ∀ w ∈ u_ws R_Mem F_Mem 1, w ∈ WL := by decide +kernel
def R_Ctl : String := "PartnerStack$Control"
def F_Ctl : u_T := fun k => match k with
  | 0 => ("PartnerStack$Control", "setting", "I", false)
  | _ => ("PartnerStack$Control", "told", "I", false)
def t_Ctl : Nat → FieldType := fun k => match k with
  | 0 => .int
  | _ => .int
theorem n_Ctl : ∀ a, a < 2 → ∀ b, b < 2 → a ≠ b → (F_Ctl a).2.1 ≠ (F_Ctl b).2.1 := by decide +kernel
theorem t_Ctl_ok : ∀ k, k < 2 → parseFieldDescriptor (F_Ctl k).2.2.1 = some (t_Ctl k) := by decide +kernel
theorem i_Ctl : ∀ w ∈ u_ws R_Ctl F_Ctl 2, w ∈ WL := by decide +kernel
def R_Size : String := "PartnerStack$Size"
def F_Size : u_T := fun k => match k with
  | 0 => ("PartnerStack$Size", "high", "J", false)
  | 1 => ("PartnerStack$Size", "low", "J", false)
  | 2 => ("PartnerStack$Size", "more", "Z", false)
  | 3 => ("PartnerStack$Size", "unit", "I", false)
  | 4 => ("PartnerStack$Size", "kept", "J", false)
  | 5 => ("PartnerStack$Size", "isCut", "Z", false)
  | _ => ("PartnerStack$Size", "rest", "J", false)
def t_Size : Nat → FieldType := fun k => match k with
  | 0 => .long
  | 1 => .long
  | 2 => .boolean
  | 3 => .int
  | 4 => .long
  | 5 => .boolean
  | _ => .long
theorem n_Size : ∀ a, a < 7 → ∀ b, b < 7 → a ≠ b → (F_Size a).2.1 ≠ (F_Size b).2.1 := by decide +kernel
theorem t_Size_ok : ∀ k, k < 7 → parseFieldDescriptor (F_Size k).2.2.1 = some (t_Size k) := by decide +kernel
theorem i_Size : ∀ w ∈ u_ws R_Size F_Size 7, w ∈ WL := by decide +kernel
def R_Maker : String := "PartnerStack$Maker"
def F_Maker : u_T := fun k => match k with
  | _ => ("PartnerStack$Maker", "control", "LPartnerStack$Control;", true)
def t_Maker : Nat → FieldType := fun k => match k with
  | _ => .object "PartnerStack$Control"
theorem n_Maker : ∀ a, a < 1 → ∀ b, b < 1 → a ≠ b → (F_Maker a).2.1 ≠ (F_Maker b).2.1 := by decide +kernel
theorem t_Maker_ok : ∀ k, k < 1 → parseFieldDescriptor (F_Maker k).2.2.1 = some (t_Maker k) := by decide +kernel
theorem i_Maker : ∀ w ∈ u_ws R_Maker F_Maker 1, w ∈ WL := by decide +kernel
def R_Real : String := "PartnerStack$Real"
def F_Real : u_T := fun k => match k with
  | 0 => ("PartnerStack$Real", "minus", "Z", false)
  | 1 => ("PartnerStack$Real", "power", "I", false)
  | _ => ("PartnerStack$Real", "fraction", "J", false)
def t_Real : Nat → FieldType := fun k => match k with
  | 0 => .boolean
  | 1 => .int
  | _ => .long
theorem n_Real : ∀ a, a < 3 → ∀ b, b < 3 → a ≠ b → (F_Real a).2.1 ≠ (F_Real b).2.1 := by decide +kernel
theorem t_Real_ok : ∀ k, k < 3 → parseFieldDescriptor (F_Real k).2.2.1 = some (t_Real k) := by decide +kernel
theorem i_Real : ∀ w ∈ u_ws R_Real F_Real 3, w ∈ WL := by decide +kernel
def R_Oper : String := "PartnerStack$Operation"
def F_Oper : u_T := fun k => match k with
  | 0 => ("PartnerStack$Operation", "control", "LPartnerStack$Control;", true)
  | 1 => ("PartnerStack$Operation", "maker", "LPartnerStack$Maker;", true)
  | 2 => ("PartnerStack$Operation", "x", "LPartnerStack$Size;", true)
  | _ => ("PartnerStack$Operation", "y", "LPartnerStack$Size;", true)
def t_Oper : Nat → FieldType := fun k => match k with
  | 0 => .object "PartnerStack$Control"
  | 1 => .object "PartnerStack$Maker"
  | 2 => .object "PartnerStack$Size"
  | _ => .object "PartnerStack$Size"
theorem n_Oper : ∀ a, a < 4 → ∀ b, b < 4 → a ≠ b → (F_Oper a).2.1 ≠ (F_Oper b).2.1 := by decide +kernel
theorem t_Oper_ok : ∀ k, k < 4 → parseFieldDescriptor (F_Oper k).2.2.1 = some (t_Oper k) := by decide +kernel
theorem i_Oper : ∀ w ∈ u_ws R_Oper F_Oper 4, w ∈ WL := by decide +kernel
def R_Steps : String := "PartnerStack$Steps"
def F_Steps : u_T := fun k => match k with
  | 0 => ("PartnerStack$Steps", "control", "LPartnerStack$Control;", true)
  | 1 => ("PartnerStack$Steps", "maker", "LPartnerStack$Maker;", true)
  | 2 => ("PartnerStack$Steps", "x", "LPartnerStack$Size;", true)
  | 3 => ("PartnerStack$Steps", "y", "LPartnerStack$Size;", true)
  | 4 => ("PartnerStack$Steps", "hasQuotient", "Z", false)
  | 5 => ("PartnerStack$Steps", "isPartial", "Z", false)
  | _ => ("PartnerStack$Steps", "quotient", "I", false)
def t_Steps : Nat → FieldType := fun k => match k with
  | 0 => .object "PartnerStack$Control"
  | 1 => .object "PartnerStack$Maker"
  | 2 => .object "PartnerStack$Size"
  | 3 => .object "PartnerStack$Size"
  | 4 => .boolean
  | 5 => .boolean
  | _ => .int
theorem n_Steps : ∀ a, a < 7 → ∀ b, b < 7 → a ≠ b → (F_Steps a).2.1 ≠ (F_Steps b).2.1 := by decide +kernel
theorem t_Steps_ok : ∀ k, k < 7 → parseFieldDescriptor (F_Steps k).2.2.1 = some (t_Steps k) := by decide +kernel
theorem i_Steps : ∀ w ∈ u_ws R_Steps F_Steps 7, w ∈ WL := by decide +kernel
def R_Rd : String := "PartnerStack$Reader"
def F_Rd : u_T := fun k => match k with
  | 0 => ("PartnerStack$Reader", "control", "LPartnerStack$Control;", true)
  | 1 => ("PartnerStack$Reader", "row", "LPartnerStack$Memory;", true)
  | _ => ("PartnerStack$Reader", "size", "LPartnerStack$Size;", true)
def t_Rd : Nat → FieldType := fun k => match k with
  | 0 => .object "PartnerStack$Control"
  | 1 => .object "PartnerStack$Memory"
  | _ => .object "PartnerStack$Size"
theorem n_Rd : ∀ a, a < 3 → ∀ b, b < 3 → a ≠ b → (F_Rd a).2.1 ≠ (F_Rd b).2.1 := by decide +kernel
theorem t_Rd_ok : ∀ k, k < 3 → parseFieldDescriptor (F_Rd k).2.2.1 = some (t_Rd k) := by decide +kernel
theorem i_Rd : ∀ w ∈ u_ws R_Rd F_Rd 3, w ∈ WL := by decide +kernel
def R_Wr : String := "PartnerStack$Writer"
def F_Wr : u_T := fun k => match k with
  | 0 => ("PartnerStack$Writer", "control", "LPartnerStack$Control;", true)
  | 1 => ("PartnerStack$Writer", "row", "LPartnerStack$Memory;", true)
  | _ => ("PartnerStack$Writer", "size", "LPartnerStack$Size;", true)
def t_Wr : Nat → FieldType := fun k => match k with
  | 0 => .object "PartnerStack$Control"
  | 1 => .object "PartnerStack$Memory"
  | _ => .object "PartnerStack$Size"
theorem n_Wr : ∀ a, a < 3 → ∀ b, b < 3 → a ≠ b → (F_Wr a).2.1 ≠ (F_Wr b).2.1 := by decide +kernel
theorem t_Wr_ok : ∀ k, k < 3 → parseFieldDescriptor (F_Wr k).2.2.1 = some (t_Wr k) := by decide +kernel
theorem i_Wr : ∀ w ∈ u_ws R_Wr F_Wr 3, w ∈ WL := by decide +kernel
def R_M : String := "PartnerStackModel"
def F_M : u_T := fun k => match k with
  | 0 => ("PartnerStackModel", "code", "I", false)
  | 1 => ("PartnerStackModel", "memory", "[I", true)
  | 2 => ("PartnerStackModel", "top", "[I", true)
  | 3 => ("PartnerStackModel", "fraction", "[J", true)
  | 4 => ("PartnerStackModel", "empty", "[Z", true)
  | 5 => ("PartnerStackModel", "first", "I", false)
  | 6 => ("PartnerStackModel", "control", "I", false)
  | 7 => ("PartnerStackModel", "told", "I", false)
  | 8 => ("PartnerStackModel", "conditions", "I", false)
  | 9 => ("PartnerStackModel", "codeOf", "I", false)
  | 10 => ("PartnerStackModel", "codePlace", "I", false)
  | 11 => ("PartnerStackModel", "operandPlace", "I", false)
  | 12 => ("PartnerStackModel", "now", "I", false)
  | 13 => ("PartnerStackModel", "over", "Z", false)
  | 14 => ("PartnerStackModel", "op", "I", false)
  | 15 => ("PartnerStackModel", "\x72", "I", false)
  | 16 => ("PartnerStackModel", "i", "I", false)
  | 17 => ("PartnerStackModel", "xTop", "I", false)
  | 18 => ("PartnerStackModel", "xFraction", "J", false)
  | 19 => ("PartnerStackModel", "operations", "LPartnerStackModel$RealOperationsModel;", true)
  | 20 => ("PartnerStackModel", "steps", "LPartnerStackModel$RealStepsModel;", true)
  | _ => ("PartnerStackModel", "conversions", "LPartnerStackModel$RealConversionsModel;", true)
def t_M : Nat → FieldType := fun k => match k with
  | 0 => .int
  | 1 => .array .int
  | 2 => .array .int
  | 3 => .array .long
  | 4 => .array .boolean
  | 5 => .int
  | 6 => .int
  | 7 => .int
  | 8 => .int
  | 9 => .int
  | 10 => .int
  | 11 => .int
  | 12 => .int
  | 13 => .boolean
  | 14 => .int
  | 15 => .int
  | 16 => .int
  | 17 => .int
  | 18 => .long
  | 19 => .object "PartnerStackModel$RealOperationsModel"
  | 20 => .object "PartnerStackModel$RealStepsModel"
  | _ => .object "PartnerStackModel$RealConversionsModel"
theorem n_M : ∀ a, a < 22 → ∀ b, b < 22 → a ≠ b → (F_M a).2.1 ≠ (F_M b).2.1 := by decide +kernel
theorem t_M_ok : ∀ k, k < 22 → parseFieldDescriptor (F_M k).2.2.1 = some (t_M k) := by decide +kernel
theorem i_M : ∀ w ∈ u_ws R_M F_M 22, w ∈ WL := by decide +kernel
def R_MO : String := "PartnerStackModel$RealOperationsModel"
def F_MO : u_T := fun k => match k with
  | 0 => ("PartnerStackModel$RealOperationsModel", "code", "I", false)
  | 1 => ("PartnerStackModel$RealOperationsModel", "word", "I", false)
  | 2 => ("PartnerStackModel$RealOperationsModel", "top", "[I", true)
  | 3 => ("PartnerStackModel$RealOperationsModel", "fraction", "[J", true)
  | 4 => ("PartnerStackModel$RealOperationsModel", "all", "I", false)
  | 5 => ("PartnerStackModel$RealOperationsModel", "minus", "[Z", true)
  | 6 => ("PartnerStackModel$RealOperationsModel", "power", "[I", true)
  | 7 => ("PartnerStackModel$RealOperationsModel", "part", "[J", true)
  | 8 => ("PartnerStackModel$RealOperationsModel", "row", "[Z", true)
  | 9 => ("PartnerStackModel$RealOperationsModel", "size", "I", false)
  | 10 => ("PartnerStackModel$RealOperationsModel", "unit", "I", false)
  | 11 => ("PartnerStackModel$RealOperationsModel", "more", "Z", false)
  | 12 => ("PartnerStackModel$RealOperationsModel", "told", "I", false)
  | 13 => ("PartnerStackModel$RealOperationsModel", "stopped", "Z", false)
  | 14 => ("PartnerStackModel$RealOperationsModel", "topOf", "I", false)
  | 15 => ("PartnerStackModel$RealOperationsModel", "fractionOf", "J", false)
  | _ => ("PartnerStackModel$RealOperationsModel", "lossy", "Z", false)
def t_MO : Nat → FieldType := fun k => match k with
  | 0 => .int
  | 1 => .int
  | 2 => .array .int
  | 3 => .array .long
  | 4 => .int
  | 5 => .array .boolean
  | 6 => .array .int
  | 7 => .array .long
  | 8 => .array .boolean
  | 9 => .int
  | 10 => .int
  | 11 => .boolean
  | 12 => .int
  | 13 => .boolean
  | 14 => .int
  | 15 => .long
  | _ => .boolean
theorem n_MO : ∀ a, a < 17 → ∀ b, b < 17 → a ≠ b → (F_MO a).2.1 ≠ (F_MO b).2.1 := by decide +kernel
theorem t_MO_ok : ∀ k, k < 17 → parseFieldDescriptor (F_MO k).2.2.1 = some (t_MO k) := by decide +kernel
theorem i_MO : ∀ w ∈ u_ws R_MO F_MO 17, w ∈ WL := by decide +kernel
def R_MS : String := "PartnerStackModel$RealStepsModel"
def F_MS : u_T := fun k => match k with
  | 0 => ("PartnerStackModel$RealStepsModel", "code", "I", false)
  | 1 => ("PartnerStackModel$RealStepsModel", "control", "I", false)
  | 2 => ("PartnerStackModel$RealStepsModel", "top", "[I", true)
  | 3 => ("PartnerStackModel$RealStepsModel", "fraction", "[J", true)
  | 4 => ("PartnerStackModel$RealStepsModel", "told", "I", false)
  | 5 => ("PartnerStackModel$RealStepsModel", "answered", "Z", false)
  | 6 => ("PartnerStackModel$RealStepsModel", "quotient", "I", false)
  | 7 => ("PartnerStackModel$RealStepsModel", "partial", "Z", false)
  | 8 => ("PartnerStackModel$RealStepsModel", "answerTop", "I", false)
  | 9 => ("PartnerStackModel$RealStepsModel", "answerFraction", "J", false)
  | 10 => ("PartnerStackModel$RealStepsModel", "digits", "J", false)
  | 11 => ("PartnerStackModel$RealStepsModel", "first", "I", false)
  | _ => ("PartnerStackModel$RealStepsModel", "lost", "Z", false)
def t_MS : Nat → FieldType := fun k => match k with
  | 0 => .int
  | 1 => .int
  | 2 => .array .int
  | 3 => .array .long
  | 4 => .int
  | 5 => .boolean
  | 6 => .int
  | 7 => .boolean
  | 8 => .int
  | 9 => .long
  | 10 => .long
  | 11 => .int
  | _ => .boolean
theorem n_MS : ∀ a, a < 13 → ∀ b, b < 13 → a ≠ b → (F_MS a).2.1 ≠ (F_MS b).2.1 := by decide +kernel
theorem t_MS_ok : ∀ k, k < 13 → parseFieldDescriptor (F_MS k).2.2.1 = some (t_MS k) := by decide +kernel
theorem i_MS : ∀ w ∈ u_ws R_MS F_MS 13, w ∈ WL := by decide +kernel
def R_MC : String := "PartnerStackModel$RealConversionsModel"
def F_MC : u_T := fun k => match k with
  | 0 => ("PartnerStackModel$RealConversionsModel", "code", "I", false)
  | 1 => ("PartnerStackModel$RealConversionsModel", "word", "I", false)
  | 2 => ("PartnerStackModel$RealConversionsModel", "top", "[I", true)
  | 3 => ("PartnerStackModel$RealConversionsModel", "fraction", "[J", true)
  | 4 => ("PartnerStackModel$RealConversionsModel", "memory", "[I", true)
  | 5 => ("PartnerStackModel$RealConversionsModel", "minus", "Z", false)
  | 6 => ("PartnerStackModel$RealConversionsModel", "p", "I", false)
  | 7 => ("PartnerStackModel$RealConversionsModel", "f", "J", false)
  | 8 => ("PartnerStackModel$RealConversionsModel", "units", "J", false)
  | 9 => ("PartnerStackModel$RealConversionsModel", "great", "Z", false)
  | _ => ("PartnerStackModel$RealConversionsModel", "lossy", "Z", false)
def t_MC : Nat → FieldType := fun k => match k with
  | 0 => .int
  | 1 => .int
  | 2 => .array .int
  | 3 => .array .long
  | 4 => .array .int
  | 5 => .boolean
  | 6 => .int
  | 7 => .long
  | 8 => .long
  | 9 => .boolean
  | _ => .boolean
theorem n_MC : ∀ a, a < 11 → ∀ b, b < 11 → a ≠ b → (F_MC a).2.1 ≠ (F_MC b).2.1 := by decide +kernel
theorem t_MC_ok : ∀ k, k < 11 → parseFieldDescriptor (F_MC k).2.2.1 = some (t_MC k) := by decide +kernel
theorem i_MC : ∀ w ∈ u_ws R_MC F_MC 11, w ∈ WL := by decide +kernel
abbrev vcl : List vw_C := [(R_PS, F_PS, 18), (R_Mem, F_Mem, 1), (R_Ctl, F_Ctl, 2), (R_Size, F_Size, 7), (R_Maker, F_Maker, 1), (R_Real, F_Real, 3), (R_Oper, F_Oper, 4), (R_Steps, F_Steps, 7), (R_Rd, F_Rd, 3), (R_Wr, F_Wr, 3), (R_M, F_M, 22), (R_MO, F_MO, 17), (R_MS, F_MS, 13), (R_MC, F_MC, 11)]
def wcell (E : Ev) (ω : Om) : Nat → va_E := fun i => match i with
  | 0 => .inr (0, [.ref (E.1 1), .ref (E.1 3), .ref (E.1 24), .ref (E.1 25), .ref (E.1 26), .ref (E.1 27), .ref (E.1 28), .ref (E.1 29), .ref (E.1 12), .ref (E.1 13), .ref (E.1 14), .ref (E.1 15), .int (gI ω.1 0 0), .int (gI ω.1 1 0), .int (gI ω.1 2 0), .int (gI ω.1 3 0), .int (gI ω.1 4 0), .int (gI ω.1 5 0)])
  | 1 => .inr (1, [.ref (E.1 2)])
  | 2 => .inl (E.2.2 0, 94, .inl (fun j => gI ω.1 100 j))
  | 3 => .inr (2, [.int (gI ω.1 6 3), .int (gI ω.1 7 3)])
  | 4 => .inr (3, [.long (gJ ω.1 8 4), .long (gJ ω.1 9 4), .int (bI (gZ ω.1 10 4)), .int (gI ω.1 11 4), .long (gJ ω.1 12 4), .int (bI (gZ ω.1 13 4)), .long (gJ ω.1 14 4)])
  | 5 => .inr (3, [.long (gJ ω.1 8 5), .long (gJ ω.1 9 5), .int (bI (gZ ω.1 10 5)), .int (gI ω.1 11 5), .long (gJ ω.1 12 5), .int (bI (gZ ω.1 13 5)), .long (gJ ω.1 14 5)])
  | 6 => .inr (3, [.long (gJ ω.1 8 6), .long (gJ ω.1 9 6), .int (bI (gZ ω.1 10 6)), .int (gI ω.1 11 6), .long (gJ ω.1 12 6), .int (bI (gZ ω.1 13 6)), .long (gJ ω.1 14 6)])
  | 7 => .inr (3, [.long (gJ ω.1 8 7), .long (gJ ω.1 9 7), .int (bI (gZ ω.1 10 7)), .int (gI ω.1 11 7), .long (gJ ω.1 12 7), .int (bI (gZ ω.1 13 7)), .long (gJ ω.1 14 7)])
  | 8 => .inr (3, [.long (gJ ω.1 8 8), .long (gJ ω.1 9 8), .int (bI (gZ ω.1 10 8)), .int (gI ω.1 11 8), .long (gJ ω.1 12 8), .int (bI (gZ ω.1 13 8)), .long (gJ ω.1 14 8)])
  | 9 => .inr (3, [.long (gJ ω.1 8 9), .long (gJ ω.1 9 9), .int (bI (gZ ω.1 10 9)), .int (gI ω.1 11 9), .long (gJ ω.1 12 9), .int (bI (gZ ω.1 13 9)), .long (gJ ω.1 14 9)])
  | 10 => .inr (4, [.ref (E.1 3)])
  | 11 => .inr (4, [.ref (E.1 3)])
  | 12 => .inr (5, [.int (bI (gZ ω.1 15 12)), .int (gI ω.1 16 12), .long (gJ ω.1 17 12)])
  | 13 => .inr (5, [.int (bI (gZ ω.1 15 13)), .int (gI ω.1 16 13), .long (gJ ω.1 17 13)])
  | 14 => .inr (5, [.int (bI (gZ ω.1 15 14)), .int (gI ω.1 16 14), .long (gJ ω.1 17 14)])
  | 15 => .inr (5, [.int (bI (gZ ω.1 15 15)), .int (gI ω.1 16 15), .long (gJ ω.1 17 15)])
  | 16 => .inr (5, [.int (bI (gZ ω.1 15 16)), .int (gI ω.1 16 16), .long (gJ ω.1 17 16)])
  | 17 => .inr (5, [.int (bI (gZ ω.1 15 17)), .int (gI ω.1 16 17), .long (gJ ω.1 17 17)])
  | 18 => .inr (5, [.int (bI (gZ ω.1 15 18)), .int (gI ω.1 16 18), .long (gJ ω.1 17 18)])
  | 19 => .inr (5, [.int (bI (gZ ω.1 15 19)), .int (gI ω.1 16 19), .long (gJ ω.1 17 19)])
  | 20 => .inr (5, [.int (bI (gZ ω.1 15 20)), .int (gI ω.1 16 20), .long (gJ ω.1 17 20)])
  | 21 => .inr (5, [.int (bI (gZ ω.1 15 21)), .int (gI ω.1 16 21), .long (gJ ω.1 17 21)])
  | 22 => .inr (5, [.int (bI (gZ ω.1 15 22)), .int (gI ω.1 16 22), .long (gJ ω.1 17 22)])
  | 23 => .inr (5, [.int (bI (gZ ω.1 15 23)), .int (gI ω.1 16 23), .long (gJ ω.1 17 23)])
  | 24 => .inr (6, [.ref (E.1 3), .ref (E.1 10), .ref (E.1 4), .ref (E.1 5)])
  | 25 => .inr (7, [.ref (E.1 3), .ref (E.1 11), .ref (E.1 6), .ref (E.1 7), .int (bI (gZ ω.1 18 25)), .int (bI (gZ ω.1 19 25)), .int (gI ω.1 20 25)])
  | 26 => .inr (8, [.ref (E.1 3), .ref (E.1 1), .ref (E.1 8)])
  | 27 => .inr (9, [.ref (E.1 3), .ref (E.1 1), .ref (E.1 9)])
  | 28 => .inl (E.2.2 4, 8, .inr (.inr (.inr (.inr (fun j => some (E.1 (16 + j)))))))
  | 29 => .inl (E.2.2 3, 8, .inl (fun j => bI (gZ ω.1 101 j)))
  | 30 => .inr (10, [.int (gI ω.2.1 0 30), .ref (E.1 31), .ref (E.1 32), .ref (E.1 33), .ref (E.1 34), .int (gI ω.2.1 1 30), .int (gI ω.2.1 2 30), .int (gI ω.2.1 3 30), .int (gI ω.2.1 4 30), .int (gI ω.2.1 5 30), .int (gI ω.2.1 6 30), .int (gI ω.2.1 7 30), .int (gI ω.2.1 8 30), .int (bI (gZ ω.2.1 9 30)), .int (gI ω.2.1 10 30), .int (gI ω.2.1 11 30), .int (gI ω.2.1 12 30), .int (gI ω.2.1 13 30), .long (gJ ω.2.1 14 30), .ref (E.1 35), .ref (E.1 42), .ref (E.1 45)])
  | 31 => .inl (E.2.2 1, 94, .inl (fun j => gI ω.2.1 100 j))
  | 32 => .inl (E.2.2 1, 8, .inl (fun j => gI ω.2.1 101 j))
  | 33 => .inl (E.2.2 2, 8, .inr (.inl (fun j => gJ ω.2.1 102 j)))
  | 34 => .inl (E.2.2 3, 8, .inl (fun j => bI (gZ ω.2.1 103 j)))
  | 35 => .inr (11, [.int (gI ω.2.1 15 35), .int (gI ω.2.1 16 35), .ref (E.1 36), .ref (E.1 37), .int (gI ω.2.1 17 35), .ref (E.1 38), .ref (E.1 39), .ref (E.1 40), .ref (E.1 41), .int (gI ω.2.1 18 35), .int (gI ω.2.1 19 35), .int (bI (gZ ω.2.1 20 35)), .int (gI ω.2.1 21 35), .int (bI (gZ ω.2.1 22 35)), .int (gI ω.2.1 23 35), .long (gJ ω.2.1 24 35), .int (bI (gZ ω.2.1 25 35))])
  | 36 => .inl (E.2.2 1, 8, .inl (fun j => gI ω.2.1 104 j))
  | 37 => .inl (E.2.2 2, 8, .inr (.inl (fun j => gJ ω.2.1 105 j)))
  | 38 => .inl (E.2.2 3, 2, .inl (fun j => bI (gZ ω.2.1 106 j)))
  | 39 => .inl (E.2.2 1, 2, .inl (fun j => gI ω.2.1 107 j))
  | 40 => .inl (E.2.2 2, 2, .inr (.inl (fun j => gJ ω.2.1 108 j)))
  | 41 => .inl (E.2.2 3, 33000, .inl (fun j => bI (gZ ω.2.1 109 j)))
  | 42 => .inr (12, [.int (gI ω.2.1 26 42), .int (gI ω.2.1 27 42), .ref (E.1 43), .ref (E.1 44), .int (gI ω.2.1 28 42), .int (bI (gZ ω.2.1 29 42)), .int (gI ω.2.1 30 42), .int (bI (gZ ω.2.1 31 42)), .int (gI ω.2.1 32 42), .long (gJ ω.2.1 33 42), .long (gJ ω.2.1 34 42), .int (gI ω.2.1 35 42), .int (bI (gZ ω.2.1 36 42))])
  | 43 => .inl (E.2.2 1, 8, .inl (fun j => gI ω.2.1 110 j))
  | 44 => .inl (E.2.2 2, 8, .inr (.inl (fun j => gJ ω.2.1 111 j)))
  | 45 => .inr (13, [.int (gI ω.2.1 37 45), .int (gI ω.2.1 38 45), .ref (E.1 46), .ref (E.1 47), .ref (E.1 48), .int (bI (gZ ω.2.1 39 45)), .int (gI ω.2.1 40 45), .long (gJ ω.2.1 41 45), .long (gJ ω.2.1 42 45), .int (bI (gZ ω.2.1 43 45)), .int (bI (gZ ω.2.1 44 45))])
  | 46 => .inl (E.2.2 1, 8, .inl (fun j => gI ω.2.1 112 j))
  | 47 => .inl (E.2.2 2, 8, .inr (.inl (fun j => gJ ω.2.1 113 j)))
  | 48 => .inl (E.2.2 1, 10, .inl (fun j => gI ω.2.1 114 j))
  | _ => .inl (E.2.2 2, 1, .inr (.inl (fun _ => ω.2.2)))
