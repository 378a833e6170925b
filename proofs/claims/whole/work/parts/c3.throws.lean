/-! the six public methods of the class on the roads that throw: printed by wip/gen/gen3.py -/
theorem lt_le93 {x : Int32} (h : x < 94) : x ≤ 93 := by
  rw [Int32.le_iff_toInt_le]
  rw [Int32.lt_iff_toInt_lt] at h
  have e1 : (94 : Int32).toInt = 94 := by decide
  have e2 : (93 : Int32).toInt = 93 := by decide
  omega
theorem lt_le7 {x : Int32} (h : x < 8) : x ≤ 7 := by
  rw [Int32.le_iff_toInt_le]
  rw [Int32.lt_iff_toInt_lt] at h
  have e1 : (8 : Int32).toInt = 8 := by decide
  have e2 : (7 : Int32).toInt = 7 := by decide
  omega
theorem le7_lt {x : Int32} (h : x ≤ 7) : x < 8 := by
  rw [Int32.lt_iff_toInt_lt]
  rw [Int32.le_iff_toInt_le] at h
  have e1 : (8 : Int32).toInt = 8 := by decide
  have e2 : (7 : Int32).toInt = 7 := by decide
  omega
theorem bad7 {x : Int32} (h : badI x 7 = true) : x.toInt < 0 ∨ 7 < x.toInt := by
  unfold badI at h
  by_cases c : x < 0
  · left
    rw [Int32.lt_iff_toInt_lt] at c
    exact c
  · rw [if_neg c] at h
    by_cases c2 : x ≤ 7
    · rw [if_pos c2] at h; cases h
    · right
      rw [Int32.le_iff_toInt_le] at c2
      have e2 : (7 : Int32).toInt = 7 := by decide
      omega
def rmT : Room := { frames := 6, cells := 1, slots := 6, locals := 84 }
def Pth (A : Nat → Prop) (vs : List Value) : Array Value → State → Prop := fun a U => a = vs.toArray ∧ ThZ A U U.heap ∧ ThS U
theorem Pth_blind {A : Nat → Prop} {vs : List Value} : FrameBlind (Pth A vs) := fun a U g mk q => ⟨q.1, ThZ.moved (u := U) (U := U.calling g mk a) (Vm.Alike.refl U.vm) q.2.1, q.2.2⟩
theorem d_PS_memory_10 : decode prog_1_method_2_code 10 = .ok (.new 82, 3) := by decide +kernel
theorem d_PS_memory_13 : decode prog_1_method_2_code 13 = .ok (.dup, 1) := by decide +kernel
theorem d_PS_memory_14 : decode prog_1_method_2_code 14 = .ok (.ldc 84, 2) := by decide +kernel
theorem d_PS_memory_16 : decode prog_1_method_2_code 16 = .ok (.invokespecial 86, 3) := by decide +kernel
theorem d_PS_memory_19 : decode prog_1_method_2_code 19 = .ok (.athrow, 1) := by decide +kernel
theorem d_PS_byteAt_10 : decode prog_1_method_3_code 10 = .ok (.new 82, 3) := by decide +kernel
theorem d_PS_byteAt_13 : decode prog_1_method_3_code 13 = .ok (.dup, 1) := by decide +kernel
theorem d_PS_byteAt_14 : decode prog_1_method_3_code 14 = .ok (.ldc 93, 2) := by decide +kernel
theorem d_PS_byteAt_16 : decode prog_1_method_3_code 16 = .ok (.invokespecial 86, 3) := by decide +kernel
theorem d_PS_byteAt_19 : decode prog_1_method_3_code 19 = .ok (.athrow, 1) := by decide +kernel
theorem d_PS_execute_23 : decode prog_1_method_4_code 23 = .ok (.new 107, 3) := by decide +kernel
theorem d_PS_execute_26 : decode prog_1_method_4_code 26 = .ok (.dup, 1) := by decide +kernel
theorem d_PS_execute_27 : decode prog_1_method_4_code 27 = .ok (.ldc 109, 2) := by decide +kernel
theorem d_PS_execute_29 : decode prog_1_method_4_code 29 = .ok (.invokespecial 111, 3) := by decide +kernel
theorem d_PS_execute_32 : decode prog_1_method_4_code 32 = .ok (.athrow, 1) := by decide +kernel
theorem d_PS_needs_8 : decode prog_1_method_5_code 8 = .ok (.new 107, 3) := by decide +kernel
theorem d_PS_needs_11 : decode prog_1_method_5_code 11 = .ok (.dup, 1) := by decide +kernel
theorem d_PS_needs_12 : decode prog_1_method_5_code 12 = .ok (.ldc 146, 2) := by decide +kernel
theorem d_PS_needs_14 : decode prog_1_method_5_code 14 = .ok (.invokespecial 111, 3) := by decide +kernel
theorem d_PS_needs_17 : decode prog_1_method_5_code 17 = .ok (.athrow, 1) := by decide +kernel
theorem d_PS_word_120 : decode prog_1_method_6_code 120 = .ok (.new 107, 3) := by decide +kernel
theorem d_PS_word_123 : decode prog_1_method_6_code 123 = .ok (.dup, 1) := by decide +kernel
theorem d_PS_word_124 : decode prog_1_method_6_code 124 = .ok (.ldc 162, 2) := by decide +kernel
theorem d_PS_word_126 : decode prog_1_method_6_code 126 = .ok (.invokespecial 111, 3) := by decide +kernel
theorem d_PS_word_129 : decode prog_1_method_6_code 129 = .ok (.athrow, 1) := by decide +kernel
theorem d_PS_part_10 : decode prog_1_method_7_code 10 = .ok (.new 82, 3) := by decide +kernel
theorem d_PS_part_13 : decode prog_1_method_7_code 13 = .ok (.dup, 1) := by decide +kernel
theorem d_PS_part_14 : decode prog_1_method_7_code 14 = .ok (.ldc 164, 2) := by decide +kernel
theorem d_PS_part_16 : decode prog_1_method_7_code 16 = .ok (.invokespecial 86, 3) := by decide +kernel
theorem d_PS_part_19 : decode prog_1_method_7_code 19 = .ok (.athrow, 1) := by decide +kernel
theorem d_PS_part_29 : decode prog_1_method_7_code 29 = .ok (.new 107, 3) := by decide +kernel
theorem d_PS_part_32 : decode prog_1_method_7_code 32 = .ok (.dup, 1) := by decide +kernel
theorem d_PS_part_33 : decode prog_1_method_7_code 33 = .ok (.ldc 166, 2) := by decide +kernel
theorem d_PS_part_35 : decode prog_1_method_7_code 35 = .ok (.invokespecial 111, 3) := by decide +kernel
theorem d_PS_part_38 : decode prog_1_method_7_code 38 = .ok (.athrow, 1) := by decide +kernel
theorem wx_iol : Cond.classLink R_PS 82 X_io ∈ WL := by decide +kernel
theorem wx_ioi : Cond.instantiable X_io 6 ∈ WL := by decide +kernel
theorem wx_ion : Cond.initialized X_io ∈ WL := by decide +kernel
theorem wx_ial : Cond.classLink R_PS 107 X_ia ∈ WL := by decide +kernel
theorem wx_iai : Cond.instantiable X_ia 6 ∈ WL := by decide +kernel
theorem wx_ian : Cond.initialized X_ia ∈ WL := by decide +kernel
theorem z_PS_isPattern (l : Launch) (a1 a2 : Int32) : Met l y_PS_isPattern (Cond.code y_PS_isPattern prog_1_method_8_code 2 (some .boolean) :: WL) { frames := 0, cells := 0, slots := 0, locals := 0 } (fun v _ => v = ([.int a1, .int a2] : List Value).toArray) (QcRead (bI (f_PS_isPattern a1 a2))) 0 0 (fun _ => False) := by
  refine Met.ofW (cc := prog_1_method_8_code) (maxL := 2) (ret := some .boolean) (by decide) rfl ?_
  intro p e s m args below meth c s₁ B hml hv
  subst hv
  have hx := B.exec
  have hb := B.bytes
  have hr := B.returns
  have hlk := B.notSynchronized
  have hl := lv_entry [.int a1, .int a2] (n := 2) (Nat.le_of_ble_eq_true rfl)
  rw [lg_entry_eq]
  generalize (lg_sl [.int a1, .int a2] ++ List.replicate (2 - (lg_sl [.int a1, .int a2]).length) Slot.unset).toArray = ls at hl ⊢
  have hl : lv_has ls 2 [(0, .int a1), (1, .int a2)] := hl
  have no : f_PS_isPattern a1 a2 = false → W p l e { frames := 0, cells := 0, slots := 0, locals := 0 } s m ([.int a1, .int a2] : List Value).toArray below meth c s.heap [] 0 0 (MQ below (QcRead (bI (f_PS_isPattern a1 a2))) ([.int a1, .int a2] : List Value).toArray s 0 0 (fun _ => False)) (F0 m 25 ls []) := by
    intro h
    refine lv_iconst (v := 0) hx hb d_PS_isPattern_25 (by decide) ?_
    exact W.zret hx hb hr (by decide) (fun t ht _ => ⟨by rw [h]; rfl, ht⟩) (fun q hq => by cases hq) d_PS_isPattern_26 hlk
  refine lv_iload_n hx hb d_PS_isPattern_0 rfl (lv_at hl 0 rfl) ?_
  refine lv_if_lt (tgt := 25) hx hb d_PS_isPattern_1 (by decide) (fun h => no (by simp [f_PS_isPattern, h])) (fun h1 => ?_)
  refine lv_iload_n hx hb d_PS_isPattern_4 rfl (lv_at hl 0 rfl) ?_
  refine lv_bipush (v := 7) hx hb d_PS_isPattern_5 (by decide) ?_
  refine lv_icmp_gt (tgt := 25) hx hb d_PS_isPattern_7 (by decide) (fun h => no (by simp [f_PS_isPattern, h1, h])) (fun h2 => ?_)
  refine lv_iload_n hx hb d_PS_isPattern_10 rfl (lv_at hl 1 rfl) ?_
  refine lv_if_lt (tgt := 25) hx hb d_PS_isPattern_11 (by decide) (fun h => no (by simp [f_PS_isPattern, h1, h2, h])) (fun h3 => ?_)
  refine lv_iload_n hx hb d_PS_isPattern_14 rfl (lv_at hl 1 rfl) ?_
  refine lv_sipush (v := 255) hx hb d_PS_isPattern_15 (by decide) ?_
  refine lv_icmp_gt (tgt := 25) hx hb d_PS_isPattern_18 (by decide) (fun h => no (by simp [f_PS_isPattern, h1, h2, h3, h])) (fun h4 => ?_)
  refine lv_iconst (v := 1) hx hb d_PS_isPattern_21 (by decide) ?_
  refine lv_goto (tgt := 26) hx hb d_PS_isPattern_22 (by decide) ?_
  have h : f_PS_isPattern a1 a2 = true := by simp [f_PS_isPattern, h1, h2, h3, h4]
  exact W.zret hx hb hr (by decide) (fun t ht _ => ⟨by rw [h]; rfl, ht⟩) (fun q hq => by cases hq) d_PS_isPattern_26 hlk
theorem z_PS_isPlace (l : Launch) (a1 : Int32) : Met l y_PS_isPlace (Cond.code y_PS_isPlace prog_1_method_9_code 1 (some .boolean) :: WL) { frames := 0, cells := 0, slots := 0, locals := 0 } (fun v _ => v = ([.int a1] : List Value).toArray) (QcRead (bI (f_PS_isPlace a1))) 0 0 (fun _ => False) := by
  refine Met.ofW (cc := prog_1_method_9_code) (maxL := 1) (ret := some .boolean) (by decide) rfl ?_
  intro p e s m args below meth c s₁ B hml hv
  subst hv
  have hx := B.exec
  have hb := B.bytes
  have hr := B.returns
  have hlk := B.notSynchronized
  have hts := atoms_spec (ws := Cond.code y_PS_isPlace prog_1_method_9_code 1 (some .boolean) :: WL) B.pre
  have hown : s.vm.findClass R_PS = some m.cls := findClass_of_methodNamed B.named
  have hl := lv_entry [.int a1] (n := 1) (Nat.le_of_ble_eq_true rfl)
  rw [lg_entry_eq]
  generalize (lg_sl [.int a1] ++ List.replicate (1 - (lg_sl [.int a1]).length) Slot.unset).toArray = ls at hl ⊢
  have hl : lv_has ls 1 [(0, .int a1)] := hl
  have no : f_PS_isPlace a1 = false → W p l e { frames := 0, cells := 0, slots := 0, locals := 0 } s m ([.int a1] : List Value).toArray below meth c s.heap [] 0 0 (MQ below (QcRead (bI (f_PS_isPlace a1))) ([.int a1] : List Value).toArray s 0 0 (fun _ => False)) (F0 m 14 ls []) := by
    intro h
    refine lv_iconst (v := 0) hx hb d_PS_isPlace_14 (by decide) ?_
    exact W.zret hx hb hr (by decide) (fun t ht _ => ⟨by rw [h]; rfl, ht⟩) (fun q hq => by cases hq) d_PS_isPlace_15 hlk
  refine lv_iload_n hx hb d_PS_isPlace_0 rfl (lv_at hl 0 rfl) ?_
  refine lv_if_lt (tgt := 14) hx hb d_PS_isPlace_1 (by decide) (fun h => no (by simp [f_PS_isPlace, h])) (fun h1 => ?_)
  refine lv_iload_n hx hb d_PS_isPlace_4 rfl (lv_at hl 0 rfl) ?_
  refine lv_ldc (v := 1048576) hx hb hown (hts _ (List.mem_cons_of_mem _ (show Cond.constant R_PS 179 1048576 ∈ WL by decide +kernel))) d_PS_isPlace_5 ?_
  refine lv_icmp_ge (tgt := 14) hx hb d_PS_isPlace_7 (by decide) (fun h => no (by simp [f_PS_isPlace, h1, h])) (fun h2 => ?_)
  refine lv_iconst (v := 1) hx hb d_PS_isPlace_10 (by decide) ?_
  refine lv_goto (tgt := 15) hx hb d_PS_isPlace_11 (by decide) ?_
  have h : f_PS_isPlace a1 = true := by simp [f_PS_isPlace, h1, h2]
  exact W.zret hx hb hr (by decide) (fun t ht _ => ⟨by rw [h]; rfl, ht⟩) (fun q hq => by cases hq) d_PS_isPlace_15 hlk
theorem x_PS_memory (l : Launch) (hl0 : l.stackTraces = false) (A : Nat → Prop) (h0 : Nat) (a1 a2 : Int32) (hbad : badI a1 90 = true) : MTh l y_PS_memory prog_1_method_2_code 3 none rmT (Pth A [.ref h0, .int a1, .int a2]) X_io := by
  refine MTh_intro (by decide) ?_
  intro p e s m args below meth c hx hb hml hown hts hlk hnh hP
  obtain ⟨rfl, hZ, hS⟩ := hP
  have hl := lv_entry [.ref h0, .int a1, .int a2] (n := 3) (Nat.le_of_ble_eq_true rfl)
  rw [lg_entry_eq]
  generalize (lg_sl [.ref h0, .int a1, .int a2] ++ List.replicate (3 - (lg_sl [.ref h0, .int a1, .int a2]).length) Slot.unset).toArray = ls at hl ⊢
  have hl : lv_has ls 3 [(0, .ref h0), (1, .int a1), (2, .int a2)] := hl
  have Th : W p l e rmT s m _ below meth c s.heap [] 0 0 (QTh below X_io s) (F0 m 10 ls []) := W_throwNew (A := A) (i0 := 82) (j := 84) (ic := 86) hx hb hlk hl0 hown (hl.1.trans hml.symm) hnh (by decide +kernel) (th_words th_io hts hZ) (hts _ wx_iol) (hts _ wx_ioi) (hts _ wx_ion) (hS.is (q := (R_PS, 84, "no four bytes from there on")) (List.mem_of_getElem? (i := 0) rfl) _) (by decide) (by decide) (by decide) (by decide) d_PS_memory_10 d_PS_memory_13 d_PS_memory_14 d_PS_memory_16 d_PS_memory_19
  refine lv_iload_n hx hb d_PS_memory_0 rfl (lv_at hl 1 rfl) ?_
  refine lv_if_lt (tgt := 10) hx hb d_PS_memory_1 (by decide) (fun _ => Th) (fun h1 => ?_)
  refine lv_iload_n hx hb d_PS_memory_4 rfl (lv_at hl 1 rfl) ?_
  refine lv_bipush (v := 90) hx hb d_PS_memory_5 (by decide) ?_
  exact lv_icmp_le (tgt := 20) hx hb d_PS_memory_7 (by decide) (fun h2 => absurd hbad (by simp [badI, h1, h2])) (fun _ => Th)
theorem x_PS_byteAt (l : Launch) (hl0 : l.stackTraces = false) (A : Nat → Prop) (h0 : Nat) (a1 : Int32) (hbad : badI a1 93 = true) : MTh l y_PS_byteAt prog_1_method_3_code 2 (some .int) rmT (Pth A [.ref h0, .int a1]) X_io := by
  refine MTh_intro (by decide) ?_
  intro p e s m args below meth c hx hb hml hown hts hlk hnh hP
  obtain ⟨rfl, hZ, hS⟩ := hP
  have hl := lv_entry [.ref h0, .int a1] (n := 2) (Nat.le_of_ble_eq_true rfl)
  rw [lg_entry_eq]
  generalize (lg_sl [.ref h0, .int a1] ++ List.replicate (2 - (lg_sl [.ref h0, .int a1]).length) Slot.unset).toArray = ls at hl ⊢
  have hl : lv_has ls 2 [(0, .ref h0), (1, .int a1)] := hl
  have Th : W p l e rmT s m _ below meth c s.heap [] 0 0 (QTh below X_io s) (F0 m 10 ls []) := W_throwNew (A := A) (i0 := 82) (j := 93) (ic := 86) hx hb hlk hl0 hown (hl.1.trans hml.symm) hnh (by decide +kernel) (th_words th_io hts hZ) (hts _ wx_iol) (hts _ wx_ioi) (hts _ wx_ion) (hS.is (q := (R_PS, 93, "no such byte")) (List.mem_of_getElem? (i := 1) rfl) _) (by decide) (by decide) (by decide) (by decide) d_PS_byteAt_10 d_PS_byteAt_13 d_PS_byteAt_14 d_PS_byteAt_16 d_PS_byteAt_19
  refine lv_iload_n hx hb d_PS_byteAt_0 rfl (lv_at hl 1 rfl) ?_
  refine lv_if_lt (tgt := 10) hx hb d_PS_byteAt_1 (by decide) (fun _ => Th) (fun h1 => ?_)
  refine lv_iload_n hx hb d_PS_byteAt_4 rfl (lv_at hl 1 rfl) ?_
  refine lv_bipush (v := 94) hx hb d_PS_byteAt_5 (by decide) ?_
  exact lv_icmp_lt (tgt := 20) hx hb d_PS_byteAt_7 (by decide) (fun h2 => absurd hbad (by simp [badI, h1, lt_le93 h2])) (fun _ => Th)
theorem x_PS_execute (l : Launch) (hl0 : l.stackTraces = false) (A : Nat → Prop) (h0 : Nat) (a1 a2 a3 a4 : Int32) (hbad : badX a1 a2 a3 a4 = true) : MTh l y_PS_execute prog_1_method_4_code 7 (some .int) rmT (Pth A [.ref h0, .int a1, .int a2, .int a3, .int a4]) X_ia := by
  refine MTh_intro (by decide) ?_
  intro p e s m args below meth c hx hb hml hown hts hlk hnh hP
  obtain ⟨rfl, hZ, hS⟩ := hP
  have hl := lv_entry [.ref h0, .int a1, .int a2, .int a3, .int a4] (n := 7) (Nat.le_of_ble_eq_true rfl)
  rw [lg_entry_eq]
  generalize (lg_sl [.ref h0, .int a1, .int a2, .int a3, .int a4] ++ List.replicate (7 - (lg_sl [.ref h0, .int a1, .int a2, .int a3, .int a4]).length) Slot.unset).toArray = ls at hl ⊢
  have hl : lv_has ls 7 [(0, .ref h0), (1, .int a1), (2, .int a2), (3, .int a3), (4, .int a4)] := hl
  have Th : W p l e rmT s m _ below meth c s.heap [] 0 0 (QTh below X_ia s) (F0 m 23 ls []) := W_throwNew (A := A) (i0 := 107) (j := 109) (ic := 111) hx hb hlk hl0 hown (hl.1.trans hml.symm) hnh (by decide +kernel) (th_words th_ia hts hZ) (hts _ wx_ial) (hts _ wx_iai) (hts _ wx_ian) (hS.is (q := (R_PS, 109, "no op, code or place")) (List.mem_of_getElem? (i := 2) rfl) _) (by decide) (by decide) (by decide) (by decide) d_PS_execute_23 d_PS_execute_26 d_PS_execute_27 d_PS_execute_29 d_PS_execute_32
  rw [badX_C] at hbad
  refine lv_iload_n hx hb d_PS_execute_0 rfl (lv_at hl 1 rfl) ?_
  refine lv_iload_n hx hb d_PS_execute_1 rfl (lv_at hl 2 rfl) ?_
  refine W.callR (W.runS (As := [.int a1, .int a2]) (rest := []) ⟨hx, hb, hml, hown, hts⟩ (z_PS_isPattern l a1 a2) ⟨callB_of (ws := Cond.code y_PS_isPattern prog_1_method_8_code 2 (some .boolean) :: WL) 2 hts (fun w h => ⟨(List.mem_cons.mp h).elim (fun e => by rw [e]; exact wd_398) (fun h => h), (WL_good _ wd_398 w h).2⟩) rfl rfl rfl (hts _ wd_395) (hts _ wd_1180) (by decide +kernel) (by decide), hts _ wd_399⟩ preEq rfl rfl hl.1 rfl (lv_room (by decide)) d_PS_execute_2 ⟨Nat.zero_le _, Nat.zero_le _⟩) ?_
  refine W.eq (g2 := F0 m 5 ls [.int (bI (f_PS_isPattern a1 a2))]) rfl ?_
  refine lv_if_eq (tgt := 23) hx hb d_PS_execute_5 (by decide) (fun _ => Th) (fun h1 => ?_)
  have h1 : f_PS_isPattern a1 a2 = true := Classical.byContradiction (fun q => h1 (bI0.mpr q))
  refine lv_iload_n hx hb d_PS_execute_8 rfl (lv_at hl 3 rfl) ?_
  refine W.callR (W.runS (As := [.int a3]) (rest := []) ⟨hx, hb, hml, hown, hts⟩ (z_PS_isPlace l a3) ⟨callB_of (ws := Cond.code y_PS_isPlace prog_1_method_9_code 1 (some .boolean) :: WL) 1 hts (fun w h => ⟨(List.mem_cons.mp h).elim (fun e => by rw [e]; exact wd_401) (fun h => h), (WL_good _ wd_401 w h).2⟩) rfl rfl rfl (hts _ wd_395) (hts _ wd_1181) (by decide +kernel) (by decide), hts _ wd_402⟩ preEq rfl rfl hl.1 rfl (lv_room (by decide)) d_PS_execute_9 ⟨Nat.zero_le _, Nat.zero_le _⟩) ?_
  refine W.eq (g2 := F0 m 12 ls [.int (bI (f_PS_isPlace a3))]) rfl ?_
  refine lv_if_eq (tgt := 23) hx hb d_PS_execute_12 (by decide) (fun _ => Th) (fun h2 => ?_)
  have h2 : f_PS_isPlace a3 = true := Classical.byContradiction (fun q => h2 (bI0.mpr q))
  refine lv_iload hx hb d_PS_execute_15 (lv_at hl 4 rfl) ?_
  refine W.callR (W.runS (As := [.int a4]) (rest := []) ⟨hx, hb, hml, hown, hts⟩ (z_PS_isPlace l a4) ⟨callB_of (ws := Cond.code y_PS_isPlace prog_1_method_9_code 1 (some .boolean) :: WL) 1 hts (fun w h => ⟨(List.mem_cons.mp h).elim (fun e => by rw [e]; exact wd_401) (fun h => h), (WL_good _ wd_401 w h).2⟩) rfl rfl rfl (hts _ wd_395) (hts _ wd_1181) (by decide +kernel) (by decide), hts _ wd_402⟩ preEq rfl rfl hl.1 rfl (lv_room (by decide)) d_PS_execute_17 ⟨Nat.zero_le _, Nat.zero_le _⟩) ?_
  refine W.eq (g2 := F0 m 20 ls [.int (bI (f_PS_isPlace a4))]) rfl ?_
  refine lv_if_ne (tgt := 33) hx hb d_PS_execute_20 (by decide) (fun h3 => ?_) (fun _ => Th)
  have h3 : f_PS_isPlace a4 = true := Classical.byContradiction (fun q => h3 (bI0.mpr q))
  exact absurd hbad (by simp [h1, h2, h3])
theorem x_PS_needs (l : Launch) (hl0 : l.stackTraces = false) (A : Nat → Prop) (h0 : Nat) (a1 a2 : Int32) (hbad : badA a1 a2 = true) : MTh l y_PS_needs prog_1_method_5_code 3 (some .int) rmT (Pth A [.ref h0, .int a1, .int a2]) X_ia := by
  refine MTh_intro (by decide) ?_
  intro p e s m args below meth c hx hb hml hown hts hlk hnh hP
  obtain ⟨rfl, hZ, hS⟩ := hP
  have hl := lv_entry [.ref h0, .int a1, .int a2] (n := 3) (Nat.le_of_ble_eq_true rfl)
  rw [lg_entry_eq]
  generalize (lg_sl [.ref h0, .int a1, .int a2] ++ List.replicate (3 - (lg_sl [.ref h0, .int a1, .int a2]).length) Slot.unset).toArray = ls at hl ⊢
  have hl : lv_has ls 3 [(0, .ref h0), (1, .int a1), (2, .int a2)] := hl
  have Th : W p l e rmT s m _ below meth c s.heap [] 0 0 (QTh below X_ia s) (F0 m 8 ls []) := W_throwNew (A := A) (i0 := 107) (j := 146) (ic := 111) hx hb hlk hl0 hown (hl.1.trans hml.symm) hnh (by decide +kernel) (th_words th_ia hts hZ) (hts _ wx_ial) (hts _ wx_iai) (hts _ wx_ian) (hS.is (q := (R_PS, 146, "no op or code")) (List.mem_of_getElem? (i := 3) rfl) _) (by decide) (by decide) (by decide) (by decide) d_PS_needs_8 d_PS_needs_11 d_PS_needs_12 d_PS_needs_14 d_PS_needs_17
  refine lv_iload_n hx hb d_PS_needs_0 rfl (lv_at hl 1 rfl) ?_
  refine lv_iload_n hx hb d_PS_needs_1 rfl (lv_at hl 2 rfl) ?_
  refine W.callR (W.runS (As := [.int a1, .int a2]) (rest := []) ⟨hx, hb, hml, hown, hts⟩ (z_PS_isPattern l a1 a2) ⟨callB_of (ws := Cond.code y_PS_isPattern prog_1_method_8_code 2 (some .boolean) :: WL) 2 hts (fun w h => ⟨(List.mem_cons.mp h).elim (fun e => by rw [e]; exact wd_398) (fun h => h), (WL_good _ wd_398 w h).2⟩) rfl rfl rfl (hts _ wd_395) (hts _ wd_1180) (by decide +kernel) (by decide), hts _ wd_399⟩ preEq rfl rfl hl.1 rfl (lv_room (by decide)) d_PS_needs_2 ⟨Nat.zero_le _, Nat.zero_le _⟩) ?_
  refine W.eq (g2 := F0 m 5 ls [.int (bI (f_PS_isPattern a1 a2))]) rfl ?_
  refine lv_if_ne (tgt := 18) hx hb d_PS_needs_5 (by decide) (fun h3 => ?_) (fun _ => Th)
  have h3 : f_PS_isPattern a1 a2 = true := Classical.byContradiction (fun q => h3 (bI0.mpr q))
  exact absurd hbad (by rw [badA_C] at h3; simpa using h3)
theorem x_PS_word (l : Launch) (hl0 : l.stackTraces = false) (A : Nat → Prop) (h0 : Nat) (a1 : Int32) (hbad : badI a1 7 = true) : MTh l y_PS_word prog_1_method_6_code 2 (some .int) rmT (Pth A [.ref h0, .int a1]) X_ia := by
  refine MTh_intro (by decide) ?_
  intro p e s m args below meth c hx hb hml hown hts hlk hnh hP
  obtain ⟨rfl, hZ, hS⟩ := hP
  have hl := lv_entry [.ref h0, .int a1] (n := 2) (Nat.le_of_ble_eq_true rfl)
  rw [lg_entry_eq]
  generalize (lg_sl [.ref h0, .int a1] ++ List.replicate (2 - (lg_sl [.ref h0, .int a1]).length) Slot.unset).toArray = ls at hl ⊢
  have hl : lv_has ls 2 [(0, .ref h0), (1, .int a1)] := hl
  have Th : W p l e rmT s m _ below meth c s.heap [] 0 0 (QTh below X_ia s) (F0 m 120 ls []) := W_throwNew (A := A) (i0 := 107) (j := 162) (ic := 111) hx hb hlk hl0 hown (hl.1.trans hml.symm) hnh (by decide +kernel) (th_words th_ia hts hZ) (hts _ wx_ial) (hts _ wx_iai) (hts _ wx_ian) (hS.is (q := (R_PS, 162, "no such word")) (List.mem_of_getElem? (i := 4) rfl) _) (by decide) (by decide) (by decide) (by decide) d_PS_word_120 d_PS_word_123 d_PS_word_124 d_PS_word_126 d_PS_word_129
  refine lv_iload_n hx hb d_PS_word_0 rfl (lv_at hl 1 rfl) ?_
  exact lv_tableOut (tgt := 120) hx hb d_PS_word_1 (bad7 hbad) (by decide) Th
theorem x_PS_part (l : Launch) (hl0 : l.stackTraces = false) (A : Nat → Prop) (h0 : Nat) (a1 a2 : Int32) (hbad : badP a1 a2 = 1) : MTh l y_PS_part prog_1_method_7_code 4 (some .int) rmT (Pth A [.ref h0, .int a1, .int a2]) X_io := by
  refine MTh_intro (by decide) ?_
  intro p e s m args below meth c hx hb hml hown hts hlk hnh hP
  obtain ⟨rfl, hZ, hS⟩ := hP
  have hl := lv_entry [.ref h0, .int a1, .int a2] (n := 4) (Nat.le_of_ble_eq_true rfl)
  rw [lg_entry_eq]
  generalize (lg_sl [.ref h0, .int a1, .int a2] ++ List.replicate (4 - (lg_sl [.ref h0, .int a1, .int a2]).length) Slot.unset).toArray = ls at hl ⊢
  have hl : lv_has ls 4 [(0, .ref h0), (1, .int a1), (2, .int a2)] := hl
  have Th : W p l e rmT s m _ below meth c s.heap [] 0 0 (QTh below X_io s) (F0 m 10 ls []) := W_throwNew (A := A) (i0 := 82) (j := 164) (ic := 86) hx hb hlk hl0 hown (hl.1.trans hml.symm) hnh (by decide +kernel) (th_words th_io hts hZ) (hts _ wx_iol) (hts _ wx_ioi) (hts _ wx_ion) (hS.is (q := (R_PS, 164, "no such register")) (List.mem_of_getElem? (i := 5) rfl) _) (by decide) (by decide) (by decide) (by decide) d_PS_part_10 d_PS_part_13 d_PS_part_14 d_PS_part_16 d_PS_part_19
  refine lv_iload_n hx hb d_PS_part_0 rfl (lv_at hl 1 rfl) ?_
  refine lv_if_lt (tgt := 10) hx hb d_PS_part_1 (by decide) (fun _ => Th) (fun h1 => ?_)
  refine lv_iload_n hx hb d_PS_part_4 rfl (lv_at hl 1 rfl) ?_
  refine lv_bipush (v := 8) hx hb d_PS_part_5 (by decide) ?_
  refine lv_icmp_lt (tgt := 20) hx hb d_PS_part_7 (by decide) (fun h2 => absurd hbad ?_) (fun _ => Th)
  unfold badP
  rw [if_neg h1, if_pos (lt_le7 h2)]
  (repeat' split) <;> decide
theorem x_PS_part2 (l : Launch) (hl0 : l.stackTraces = false) (A : Nat → Prop) (h0 : Nat) (a1 a2 : Int32) (hbad : badP a1 a2 = 2) : MTh l y_PS_part prog_1_method_7_code 4 (some .int) rmT (Pth A [.ref h0, .int a1, .int a2]) X_ia := by
  refine MTh_intro (by decide) ?_
  intro p e s m args below meth c hx hb hml hown hts hlk hnh hP
  obtain ⟨rfl, hZ, hS⟩ := hP
  have hl := lv_entry [.ref h0, .int a1, .int a2] (n := 4) (Nat.le_of_ble_eq_true rfl)
  rw [lg_entry_eq]
  generalize (lg_sl [.ref h0, .int a1, .int a2] ++ List.replicate (4 - (lg_sl [.ref h0, .int a1, .int a2]).length) Slot.unset).toArray = ls at hl ⊢
  have hl : lv_has ls 4 [(0, .ref h0), (1, .int a1), (2, .int a2)] := hl
  have Th : W p l e rmT s m _ below meth c s.heap [] 0 0 (QTh below X_ia s) (F0 m 29 ls []) := W_throwNew (A := A) (i0 := 107) (j := 166) (ic := 111) hx hb hlk hl0 hown (hl.1.trans hml.symm) hnh (by decide +kernel) (th_words th_ia hts hZ) (hts _ wx_ial) (hts _ wx_iai) (hts _ wx_ian) (hS.is (q := (R_PS, 166, "no such part")) (List.mem_of_getElem? (i := 6) rfl) _) (by decide) (by decide) (by decide) (by decide) d_PS_part_29 d_PS_part_32 d_PS_part_33 d_PS_part_35 d_PS_part_38
  refine lv_iload_n hx hb d_PS_part_0 rfl (lv_at hl 1 rfl) ?_
  have h1 : ¬ a1 < 0 := fun h => absurd hbad (by unfold badP; rw [if_pos h]; decide)
  have h2 : a1 < 8 := le7_lt (Classical.byContradiction fun h => absurd hbad (by unfold badP; rw [if_neg h1, if_neg h]; decide))
  refine lv_if_lt (tgt := 10) hx hb d_PS_part_1 (by decide) (fun h => absurd h h1) (fun _ => ?_)
  refine lv_iload_n hx hb d_PS_part_4 rfl (lv_at hl 1 rfl) ?_
  refine lv_bipush (v := 8) hx hb d_PS_part_5 (by decide) ?_
  refine lv_icmp_lt (tgt := 20) hx hb d_PS_part_7 (by decide) (fun _ => ?_) (fun h => absurd h2 h)
  refine lv_iload_n hx hb d_PS_part_20 rfl (lv_at hl 2 rfl) ?_
  refine lv_if_lt (tgt := 29) hx hb d_PS_part_21 (by decide) (fun _ => Th) (fun h3 => ?_)
  refine lv_iload_n hx hb d_PS_part_24 rfl (lv_at hl 2 rfl) ?_
  refine lv_iconst (v := 2) hx hb d_PS_part_25 (by decide) ?_
  exact lv_icmp_le (tgt := 39) hx hb d_PS_part_26 (by decide) (fun h4 => absurd hbad (by unfold badP; rw [if_neg h1, if_pos (lt_le7 h2), if_neg h3, if_pos h4]; decide)) (fun _ => Th)
