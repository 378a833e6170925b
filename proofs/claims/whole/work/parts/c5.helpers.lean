/-! the law's six helpers, thrown and not: printed by wip/gen/gen5.py -/
def R_Law : String := "PartnerStackLaw"
def rmH : Room := { frames := 8, cells := 1, slots := 6, locals := 205 }
theorem wl_cl13 : Cond.classLink R_Law 13 X_io ∈ WL := by decide +kernel
theorem wl_cl23 : Cond.classLink R_Law 23 X_ia ∈ WL := by decide +kernel
def y_Law_memory : MethodName := ⟨"PartnerStackLaw", "memory", "(LPartnerStack;II)I"⟩
theorem wl_memory : Cond.methodLink "PartnerStackLaw" 7 y_PS_memory ∈ WL := by decide +kernel
theorem d_Law_memory_0 : decode method_3_code 0 = .ok (.aload_n 0, 1) := by decide +kernel
theorem d_Law_memory_1 : decode method_3_code 1 = .ok (.iload_n 1, 1) := by decide +kernel
theorem d_Law_memory_2 : decode method_3_code 2 = .ok (.iload_n 2, 1) := by decide +kernel
theorem d_Law_memory_3 : decode method_3_code 3 = .ok (.invokevirtual 7, 3) := by decide +kernel
theorem d_Law_memory_6 : decode method_3_code 6 = .ok (.goto 6, 3) := by decide +kernel
theorem d_Law_memory_9 : decode method_3_code 9 = .ok (.astore_n 3, 1) := by decide +kernel
theorem d_Law_memory_10 : decode method_3_code 10 = .ok (.iconst 1, 1) := by decide +kernel
theorem d_Law_memory_11 : decode method_3_code 11 = .ok (.ireturn, 1) := by decide +kernel
theorem d_Law_memory_12 : decode method_3_code 12 = .ok (.iconst 0, 1) := by decide +kernel
theorem d_Law_memory_13 : decode method_3_code 13 = .ok (.ireturn, 1) := by decide +kernel
theorem hn_memory (l : Launch) (E : Ev) (σ τ : St) (q : Int64) (a1 a2 : Int32) (hn1 : ¬ a1 < 0) (hn2 : a1 ≤ 90) : HF l y_Law_memory method_3_code 4 [(0, 6, 9, 13)] rmH E [.ref 0, .int a1, .int a2] (σ, τ, q) 0 (f_PS_memory σ a1 a2, τ, q) := by
  refine HF_intro (mc := 0) (ms := 0) (lv0 := [(0, .ref 0), (1, .int a1), (2, .int a2)]) (by decide) (by decide) (by decide) (Nat.le_of_ble_eq_true rfl) rfl ?_
  intro p e s m args below meth c Q hC hr hk htab hZ hS hN hQ
  replace hC : Cx p s m args c method_3_code 4 "PartnerStackLaw" E := hC
  refine wi_aload_n hC 0 d_Law_memory_0 rfl rfl ?_
  refine wi_iload_n hC 1 d_Law_memory_1 rfl rfl ?_
  refine wi_iload_n hC 2 d_Law_memory_2 rfl rfl ?_
  refine k_PS_memory hC hn1 hn2 wl_memory (by decide) (by decide) d_Law_memory_3 ?_
  refine wi_goto hC 12 d_Law_memory_6 (by decide) ?_
  refine wi_iconst hC 0 (by decide) d_Law_memory_12 ?_
  exact wi_iret hC hr hk d_Law_memory_13 rfl rfl hQ
theorem ht_memory (l : Launch) (hl0 : l.stackTraces = false) (E : Ev) (σ τ : St) (q : Int64) (a1 a2 : Int32) (hbad : badI a1 90 = true) : HF l y_Law_memory method_3_code 4 [(0, 6, 9, 13)] rmH E [.ref 0, .int a1, .int a2] (σ, τ, q) 1 (σ, τ, q) := by
  refine HF_intro (mc := 1) (ms := 6) (lv0 := [(0, .ref 0), (1, .int a1), (2, .int a2)]) (by decide) (by decide) (by decide) (Nat.le_of_ble_eq_true rfl) rfl ?_
  intro p e s m args below meth c Q hC hr hk htab hZ hS hN hQ
  replace hC : Cx p s m args c method_3_code 4 "PartnerStackLaw" E := hC
  refine wi_aload_n hC 0 d_Law_memory_0 rfl rfl ?_
  refine wi_iload_n hC 1 d_Law_memory_1 rfl rfl ?_
  refine wi_iload_n hC 2 d_Law_memory_2 rfl rfl ?_
  refine ws_throw (n := 2) (vs := [.int a1, .int a2]) (rest := []) (X := X_io) hC hZ hS rfl rfl (x_PS_memory l hl0 (AA E) (E.1 0) a1 a2 hbad) (by decide +kernel) wd_1174 wd_395 wd_1175 wd_1176 rfl wl_memory (by decide) (by decide) (by decide) d_Law_memory_3 (fun H1 locs ls x ce T' hl hw hT hce hcv hcc hca X => ?_)
  obtain ⟨vm', X2, st2⟩ := th_first X x (g := F0 m 3 ls ([].map (cv E))) rfl (own := R_Law) (name := X_io) hC.2.2.2.1 (x := ⟨0, 6, 9, 13⟩) (rest := []) (by rw [htab]; rfl) rfl (by decide) (hC.2.2.2.2.1 _ wl_cl13) (by rw [hT]; exact hce) hcv hcc hca
  have K : W p l e rmH s m args below meth c H1 locs 1 6 Q (F0 m 9 ls [.ref x]) := by
    subst hQ
    refine lv_astore_n hC.1 hC.2.1 d_Law_memory_9 rfl hl (by decide) rfl (fun ls2 hl2 => ?_)
    refine lv_iconst (v := 1) hC.1 hC.2.1 d_Law_memory_10 (by decide) ?_
    exact W.iret hC.1 hC.2.1 hr (wi_post hC hw rfl rfl) hw.2.2.2.2 d_Law_memory_11 hk
  obtain ⟨t, a1, b1⟩ := K (T'.setVm vm') hT X2
  exact ⟨t, st2 t a1, b1⟩
def y_Law_byteAt : MethodName := ⟨"PartnerStackLaw", "byteAt", "(LPartnerStack;I[J)I"⟩
theorem wl_byteAt : Cond.methodLink "PartnerStackLaw" 15 y_PS_byteAt ∈ WL := by decide +kernel
theorem d_Law_byteAt_0 : decode method_4_code 0 = .ok (.aload_n 2, 1) := by decide +kernel
theorem d_Law_byteAt_1 : decode method_4_code 1 = .ok (.iconst 0, 1) := by decide +kernel
theorem d_Law_byteAt_2 : decode method_4_code 2 = .ok (.aload_n 0, 1) := by decide +kernel
theorem d_Law_byteAt_3 : decode method_4_code 3 = .ok (.iload_n 1, 1) := by decide +kernel
theorem d_Law_byteAt_4 : decode method_4_code 4 = .ok (.invokevirtual 15, 3) := by decide +kernel
theorem d_Law_byteAt_7 : decode method_4_code 7 = .ok (.i2l, 1) := by decide +kernel
theorem d_Law_byteAt_8 : decode method_4_code 8 = .ok (.lastore, 1) := by decide +kernel
theorem d_Law_byteAt_9 : decode method_4_code 9 = .ok (.goto 6, 3) := by decide +kernel
theorem d_Law_byteAt_12 : decode method_4_code 12 = .ok (.astore_n 3, 1) := by decide +kernel
theorem d_Law_byteAt_13 : decode method_4_code 13 = .ok (.iconst 1, 1) := by decide +kernel
theorem d_Law_byteAt_14 : decode method_4_code 14 = .ok (.ireturn, 1) := by decide +kernel
theorem d_Law_byteAt_15 : decode method_4_code 15 = .ok (.iconst 0, 1) := by decide +kernel
theorem d_Law_byteAt_16 : decode method_4_code 16 = .ok (.ireturn, 1) := by decide +kernel
theorem hn_byteAt (l : Launch) (E : Ev) (σ τ : St) (q : Int64) (a1 : Int32) (hn1 : ¬ a1 < 0) (hn2 : a1 < 94) : HF l y_Law_byteAt method_4_code 4 [(0, 9, 12, 13)] rmH E [.ref 0, .int a1, .ref 49] (σ, τ, q) 0 (σ, τ, (f_PS_byteAt σ a1).toInt64) := by
  refine HF_intro (mc := 0) (ms := 0) (lv0 := [(0, .ref 0), (1, .int a1), (2, .ref 49)]) (by decide) (by decide) (by decide) (Nat.le_of_ble_eq_true rfl) rfl ?_
  intro p e s m args below meth c Q hC hr hk htab hZ hS hN hQ
  replace hC : Cx p s m args c method_4_code 4 "PartnerStackLaw" E := hC
  refine wi_aload_n hC 2 d_Law_byteAt_0 rfl rfl ?_
  refine wi_iconst hC 0 (by decide) d_Law_byteAt_1 ?_
  refine wi_aload_n hC 0 d_Law_byteAt_2 rfl rfl ?_
  refine wi_iload_n hC 1 d_Law_byteAt_3 rfl rfl ?_
  refine k_PS_byteAt hC hn1 hn2 wl_byteAt (by decide) (by decide) d_Law_byteAt_4 ?_
  refine wi_i2l hC d_Law_byteAt_7 ?_
  refine wa_st49 hC (by unfold vp_in; decide) d_Law_byteAt_8 ?_
  refine wi_goto hC 15 d_Law_byteAt_9 (by decide) ?_
  refine wi_iconst hC 0 (by decide) d_Law_byteAt_15 ?_
  exact wi_iret hC hr hk d_Law_byteAt_16 rfl rfl hQ
theorem ht_byteAt (l : Launch) (hl0 : l.stackTraces = false) (E : Ev) (σ τ : St) (q : Int64) (a1 : Int32) (hbad : badI a1 93 = true) : HF l y_Law_byteAt method_4_code 4 [(0, 9, 12, 13)] rmH E [.ref 0, .int a1, .ref 49] (σ, τ, q) 1 (σ, τ, q) := by
  refine HF_intro (mc := 1) (ms := 6) (lv0 := [(0, .ref 0), (1, .int a1), (2, .ref 49)]) (by decide) (by decide) (by decide) (Nat.le_of_ble_eq_true rfl) rfl ?_
  intro p e s m args below meth c Q hC hr hk htab hZ hS hN hQ
  replace hC : Cx p s m args c method_4_code 4 "PartnerStackLaw" E := hC
  refine wi_aload_n hC 2 d_Law_byteAt_0 rfl rfl ?_
  refine wi_iconst hC 0 (by decide) d_Law_byteAt_1 ?_
  refine wi_aload_n hC 0 d_Law_byteAt_2 rfl rfl ?_
  refine wi_iload_n hC 1 d_Law_byteAt_3 rfl rfl ?_
  refine ws_throw (n := 1) (vs := [.int a1]) (rest := [.int 0, .ref 49]) (X := X_io) hC hZ hS rfl rfl (x_PS_byteAt l hl0 (AA E) (E.1 0) a1 hbad) (by decide +kernel) wd_1177 wd_395 wd_1178 wd_1179 rfl wl_byteAt (by decide) (by decide) (by decide) d_Law_byteAt_4 (fun H1 locs ls x ce T' hl hw hT hce hcv hcc hca X => ?_)
  obtain ⟨vm', X2, st2⟩ := th_first X x (g := F0 m 4 ls ([.int 0, .ref 49].map (cv E))) rfl (own := R_Law) (name := X_io) hC.2.2.2.1 (x := ⟨0, 9, 12, 13⟩) (rest := []) (by rw [htab]; rfl) rfl (by decide) (hC.2.2.2.2.1 _ wl_cl13) (by rw [hT]; exact hce) hcv hcc hca
  have K : W p l e rmH s m args below meth c H1 locs 1 6 Q (F0 m 12 ls [.ref x]) := by
    subst hQ
    refine lv_astore_n hC.1 hC.2.1 d_Law_byteAt_12 rfl hl (by decide) rfl (fun ls2 hl2 => ?_)
    refine lv_iconst (v := 1) hC.1 hC.2.1 d_Law_byteAt_13 (by decide) ?_
    exact W.iret hC.1 hC.2.1 hr (wi_post hC hw rfl rfl) hw.2.2.2.2 d_Law_byteAt_14 hk
  obtain ⟨t, a1, b1⟩ := K (T'.setVm vm') hT X2
  exact ⟨t, st2 t a1, b1⟩
def y_Law_execute : MethodName := ⟨"PartnerStackLaw", "execute", "(LPartnerStack;IIII[J)I"⟩
theorem wl_execute : Cond.methodLink "PartnerStackLaw" 19 y_PS_execute ∈ WL := by decide +kernel
theorem d_Law_execute_0 : decode method_5_code 0 = .ok (.aload 5, 2) := by decide +kernel
theorem d_Law_execute_2 : decode method_5_code 2 = .ok (.iconst 0, 1) := by decide +kernel
theorem d_Law_execute_3 : decode method_5_code 3 = .ok (.aload_n 0, 1) := by decide +kernel
theorem d_Law_execute_4 : decode method_5_code 4 = .ok (.iload_n 1, 1) := by decide +kernel
theorem d_Law_execute_5 : decode method_5_code 5 = .ok (.iload_n 2, 1) := by decide +kernel
theorem d_Law_execute_6 : decode method_5_code 6 = .ok (.iload_n 3, 1) := by decide +kernel
theorem d_Law_execute_7 : decode method_5_code 7 = .ok (.iload 4, 2) := by decide +kernel
theorem d_Law_execute_9 : decode method_5_code 9 = .ok (.invokevirtual 19, 3) := by decide +kernel
theorem d_Law_execute_12 : decode method_5_code 12 = .ok (.i2l, 1) := by decide +kernel
theorem d_Law_execute_13 : decode method_5_code 13 = .ok (.lastore, 1) := by decide +kernel
theorem d_Law_execute_14 : decode method_5_code 14 = .ok (.goto 7, 3) := by decide +kernel
theorem d_Law_execute_17 : decode method_5_code 17 = .ok (.astore 6, 2) := by decide +kernel
theorem d_Law_execute_19 : decode method_5_code 19 = .ok (.iconst 1, 1) := by decide +kernel
theorem d_Law_execute_20 : decode method_5_code 20 = .ok (.ireturn, 1) := by decide +kernel
theorem d_Law_execute_21 : decode method_5_code 21 = .ok (.iconst 0, 1) := by decide +kernel
theorem d_Law_execute_22 : decode method_5_code 22 = .ok (.ireturn, 1) := by decide +kernel
theorem hn_execute (l : Launch) (E : Ev) (σ τ : St) (q : Int64) (a1 a2 a3 a4 : Int32) (hp : vp_in a1 8) (hq : a1 = 1 → 192 ≤ a2 → jshr a2 3 &&& 7 = 5 → f_PS_sortOf σ a1 a2 = 0 → vp_in (a2 &&& 7) 7) (hn1 : f_PS_isPattern a1 a2 = true) (hn2 : f_PS_isPlace a3 = true) (hn3 : f_PS_isPlace a4 = true) : HF l y_Law_execute method_5_code 7 [(0, 14, 17, 23)] rmH E [.ref 0, .int a1, .int a2, .int a3, .int a4, .ref 49] (σ, τ, q) 0 ((f_PS_execute σ a1 a2 a3 a4).2, τ, (f_PS_execute σ a1 a2 a3 a4).1.toInt64) := by
  refine HF_intro (mc := 0) (ms := 0) (lv0 := [(0, .ref 0), (1, .int a1), (2, .int a2), (3, .int a3), (4, .int a4), (5, .ref 49)]) (by decide) (by decide) (by decide) (Nat.le_of_ble_eq_true rfl) rfl ?_
  intro p e s m args below meth c Q hC hr hk htab hZ hS hN hQ
  replace hC : Cx p s m args c method_5_code 7 "PartnerStackLaw" E := hC
  refine wi_aload hC 5 d_Law_execute_0 rfl ?_
  refine wi_iconst hC 0 (by decide) d_Law_execute_2 ?_
  refine wi_aload_n hC 0 d_Law_execute_3 rfl rfl ?_
  refine wi_iload_n hC 1 d_Law_execute_4 rfl rfl ?_
  refine wi_iload_n hC 2 d_Law_execute_5 rfl rfl ?_
  refine wi_iload_n hC 3 d_Law_execute_6 rfl rfl ?_
  refine wi_iload hC 4 d_Law_execute_7 rfl ?_
  refine k_PS_execute hC hp hq hn1 hn2 hn3 wl_execute (by decide) (by decide) d_Law_execute_9 ?_
  refine wi_i2l hC d_Law_execute_12 ?_
  refine wa_st49 hC (by unfold vp_in; decide) d_Law_execute_13 ?_
  refine wi_goto hC 21 d_Law_execute_14 (by decide) ?_
  refine wi_iconst hC 0 (by decide) d_Law_execute_21 ?_
  exact wi_iret hC hr hk d_Law_execute_22 rfl rfl hQ
theorem ht_execute (l : Launch) (hl0 : l.stackTraces = false) (E : Ev) (σ τ : St) (q : Int64) (a1 a2 a3 a4 : Int32) (hbad : badX a1 a2 a3 a4 = true) : HF l y_Law_execute method_5_code 7 [(0, 14, 17, 23)] rmH E [.ref 0, .int a1, .int a2, .int a3, .int a4, .ref 49] (σ, τ, q) 1 (σ, τ, q) := by
  refine HF_intro (mc := 1) (ms := 6) (lv0 := [(0, .ref 0), (1, .int a1), (2, .int a2), (3, .int a3), (4, .int a4), (5, .ref 49)]) (by decide) (by decide) (by decide) (Nat.le_of_ble_eq_true rfl) rfl ?_
  intro p e s m args below meth c Q hC hr hk htab hZ hS hN hQ
  replace hC : Cx p s m args c method_5_code 7 "PartnerStackLaw" E := hC
  refine wi_aload hC 5 d_Law_execute_0 rfl ?_
  refine wi_iconst hC 0 (by decide) d_Law_execute_2 ?_
  refine wi_aload_n hC 0 d_Law_execute_3 rfl rfl ?_
  refine wi_iload_n hC 1 d_Law_execute_4 rfl rfl ?_
  refine wi_iload_n hC 2 d_Law_execute_5 rfl rfl ?_
  refine wi_iload_n hC 3 d_Law_execute_6 rfl rfl ?_
  refine wi_iload hC 4 d_Law_execute_7 rfl ?_
  refine ws_throw (n := 4) (vs := [.int a1, .int a2, .int a3, .int a4]) (rest := [.int 0, .ref 49]) (X := X_ia) hC hZ hS rfl rfl (x_PS_execute l hl0 (AA E) (E.1 0) a1 a2 a3 a4 hbad) (by decide +kernel) wd_1188 wd_395 wd_1189 wd_1190 rfl wl_execute (by decide) (by decide) (by decide) d_Law_execute_9 (fun H1 locs ls x ce T' hl hw hT hce hcv hcc hca X => ?_)
  obtain ⟨vm', X2, st2⟩ := th_first X x (g := F0 m 9 ls ([.int 0, .ref 49].map (cv E))) rfl (own := R_Law) (name := X_ia) hC.2.2.2.1 (x := ⟨0, 14, 17, 23⟩) (rest := []) (by rw [htab]; rfl) rfl (by decide) (hC.2.2.2.2.1 _ wl_cl23) (by rw [hT]; exact hce) hcv hcc hca
  have K : W p l e rmH s m args below meth c H1 locs 1 6 Q (F0 m 17 ls [.ref x]) := by
    subst hQ
    refine lv_astore hC.1 hC.2.1 d_Law_execute_17 hl (by decide) rfl (fun ls2 hl2 => ?_)
    refine lv_iconst (v := 1) hC.1 hC.2.1 d_Law_execute_19 (by decide) ?_
    exact W.iret hC.1 hC.2.1 hr (wi_post hC hw rfl rfl) hw.2.2.2.2 d_Law_execute_20 hk
  obtain ⟨t, a1, b1⟩ := K (T'.setVm vm') hT X2
  exact ⟨t, st2 t a1, b1⟩
def y_Law_needs : MethodName := ⟨"PartnerStackLaw", "needs", "(LPartnerStack;II[J)I"⟩
theorem wl_needs : Cond.methodLink "PartnerStackLaw" 25 y_PS_needs ∈ WL := by decide +kernel
theorem d_Law_needs_0 : decode method_6_code 0 = .ok (.aload_n 3, 1) := by decide +kernel
theorem d_Law_needs_1 : decode method_6_code 1 = .ok (.iconst 0, 1) := by decide +kernel
theorem d_Law_needs_2 : decode method_6_code 2 = .ok (.aload_n 0, 1) := by decide +kernel
theorem d_Law_needs_3 : decode method_6_code 3 = .ok (.iload_n 1, 1) := by decide +kernel
theorem d_Law_needs_4 : decode method_6_code 4 = .ok (.iload_n 2, 1) := by decide +kernel
theorem d_Law_needs_5 : decode method_6_code 5 = .ok (.invokevirtual 25, 3) := by decide +kernel
theorem d_Law_needs_8 : decode method_6_code 8 = .ok (.i2l, 1) := by decide +kernel
theorem d_Law_needs_9 : decode method_6_code 9 = .ok (.lastore, 1) := by decide +kernel
theorem d_Law_needs_10 : decode method_6_code 10 = .ok (.goto 7, 3) := by decide +kernel
theorem d_Law_needs_13 : decode method_6_code 13 = .ok (.astore 4, 2) := by decide +kernel
theorem d_Law_needs_15 : decode method_6_code 15 = .ok (.iconst 1, 1) := by decide +kernel
theorem d_Law_needs_16 : decode method_6_code 16 = .ok (.ireturn, 1) := by decide +kernel
theorem d_Law_needs_17 : decode method_6_code 17 = .ok (.iconst 0, 1) := by decide +kernel
theorem d_Law_needs_18 : decode method_6_code 18 = .ok (.ireturn, 1) := by decide +kernel
theorem hn_needs (l : Launch) (E : Ev) (σ τ : St) (q : Int64) (a1 a2 : Int32) (hp : vp_in a1 8) (hn1 : f_PS_isPattern a1 a2 = true) : HF l y_Law_needs method_6_code 5 [(0, 10, 13, 23)] rmH E [.ref 0, .int a1, .int a2, .ref 49] (σ, τ, q) 0 (σ, τ, (f_PS_needs σ a1 a2).toInt64) := by
  refine HF_intro (mc := 0) (ms := 0) (lv0 := [(0, .ref 0), (1, .int a1), (2, .int a2), (3, .ref 49)]) (by decide) (by decide) (by decide) (Nat.le_of_ble_eq_true rfl) rfl ?_
  intro p e s m args below meth c Q hC hr hk htab hZ hS hN hQ
  replace hC : Cx p s m args c method_6_code 5 "PartnerStackLaw" E := hC
  refine wi_aload_n hC 3 d_Law_needs_0 rfl rfl ?_
  refine wi_iconst hC 0 (by decide) d_Law_needs_1 ?_
  refine wi_aload_n hC 0 d_Law_needs_2 rfl rfl ?_
  refine wi_iload_n hC 1 d_Law_needs_3 rfl rfl ?_
  refine wi_iload_n hC 2 d_Law_needs_4 rfl rfl ?_
  refine k_PS_needs hC hp hn1 wl_needs (by decide) (by decide) d_Law_needs_5 ?_
  refine wi_i2l hC d_Law_needs_8 ?_
  refine wa_st49 hC (by unfold vp_in; decide) d_Law_needs_9 ?_
  refine wi_goto hC 17 d_Law_needs_10 (by decide) ?_
  refine wi_iconst hC 0 (by decide) d_Law_needs_17 ?_
  exact wi_iret hC hr hk d_Law_needs_18 rfl rfl hQ
theorem ht_needs (l : Launch) (hl0 : l.stackTraces = false) (E : Ev) (σ τ : St) (q : Int64) (a1 a2 : Int32) (hbad : badA a1 a2 = true) : HF l y_Law_needs method_6_code 5 [(0, 10, 13, 23)] rmH E [.ref 0, .int a1, .int a2, .ref 49] (σ, τ, q) 1 (σ, τ, q) := by
  refine HF_intro (mc := 1) (ms := 6) (lv0 := [(0, .ref 0), (1, .int a1), (2, .int a2), (3, .ref 49)]) (by decide) (by decide) (by decide) (Nat.le_of_ble_eq_true rfl) rfl ?_
  intro p e s m args below meth c Q hC hr hk htab hZ hS hN hQ
  replace hC : Cx p s m args c method_6_code 5 "PartnerStackLaw" E := hC
  refine wi_aload_n hC 3 d_Law_needs_0 rfl rfl ?_
  refine wi_iconst hC 0 (by decide) d_Law_needs_1 ?_
  refine wi_aload_n hC 0 d_Law_needs_2 rfl rfl ?_
  refine wi_iload_n hC 1 d_Law_needs_3 rfl rfl ?_
  refine wi_iload_n hC 2 d_Law_needs_4 rfl rfl ?_
  refine ws_throw (n := 2) (vs := [.int a1, .int a2]) (rest := [.int 0, .ref 49]) (X := X_ia) hC hZ hS rfl rfl (x_PS_needs l hl0 (AA E) (E.1 0) a1 a2 hbad) (by decide +kernel) wd_1191 wd_395 wd_1192 wd_1193 rfl wl_needs (by decide) (by decide) (by decide) d_Law_needs_5 (fun H1 locs ls x ce T' hl hw hT hce hcv hcc hca X => ?_)
  obtain ⟨vm', X2, st2⟩ := th_first X x (g := F0 m 5 ls ([.int 0, .ref 49].map (cv E))) rfl (own := R_Law) (name := X_ia) hC.2.2.2.1 (x := ⟨0, 10, 13, 23⟩) (rest := []) (by rw [htab]; rfl) rfl (by decide) (hC.2.2.2.2.1 _ wl_cl23) (by rw [hT]; exact hce) hcv hcc hca
  have K : W p l e rmH s m args below meth c H1 locs 1 6 Q (F0 m 13 ls [.ref x]) := by
    subst hQ
    refine lv_astore hC.1 hC.2.1 d_Law_needs_13 hl (by decide) rfl (fun ls2 hl2 => ?_)
    refine lv_iconst (v := 1) hC.1 hC.2.1 d_Law_needs_15 (by decide) ?_
    exact W.iret hC.1 hC.2.1 hr (wi_post hC hw rfl rfl) hw.2.2.2.2 d_Law_needs_16 hk
  obtain ⟨t, a1, b1⟩ := K (T'.setVm vm') hT X2
  exact ⟨t, st2 t a1, b1⟩
def y_Law_word : MethodName := ⟨"PartnerStackLaw", "word", "(LPartnerStack;I[J)I"⟩
theorem wl_word : Cond.methodLink "PartnerStackLaw" 29 y_PS_word ∈ WL := by decide +kernel
theorem d_Law_word_0 : decode method_7_code 0 = .ok (.aload_n 2, 1) := by decide +kernel
theorem d_Law_word_1 : decode method_7_code 1 = .ok (.iconst 0, 1) := by decide +kernel
theorem d_Law_word_2 : decode method_7_code 2 = .ok (.aload_n 0, 1) := by decide +kernel
theorem d_Law_word_3 : decode method_7_code 3 = .ok (.iload_n 1, 1) := by decide +kernel
theorem d_Law_word_4 : decode method_7_code 4 = .ok (.invokevirtual 29, 3) := by decide +kernel
theorem d_Law_word_7 : decode method_7_code 7 = .ok (.i2l, 1) := by decide +kernel
theorem d_Law_word_8 : decode method_7_code 8 = .ok (.lastore, 1) := by decide +kernel
theorem d_Law_word_9 : decode method_7_code 9 = .ok (.goto 6, 3) := by decide +kernel
theorem d_Law_word_12 : decode method_7_code 12 = .ok (.astore_n 3, 1) := by decide +kernel
theorem d_Law_word_13 : decode method_7_code 13 = .ok (.iconst 1, 1) := by decide +kernel
theorem d_Law_word_14 : decode method_7_code 14 = .ok (.ireturn, 1) := by decide +kernel
theorem d_Law_word_15 : decode method_7_code 15 = .ok (.iconst 0, 1) := by decide +kernel
theorem d_Law_word_16 : decode method_7_code 16 = .ok (.ireturn, 1) := by decide +kernel
theorem hn_word (l : Launch) (E : Ev) (σ τ : St) (q : Int64) (a1 : Int32) (hp : 0 ≤ a1.toInt ∧ a1.toInt ≤ 7) : HF l y_Law_word method_7_code 4 [(0, 9, 12, 23)] rmH E [.ref 0, .int a1, .ref 49] (σ, τ, q) 0 (σ, τ, (f_PS_word σ a1).toInt64) := by
  refine HF_intro (mc := 0) (ms := 0) (lv0 := [(0, .ref 0), (1, .int a1), (2, .ref 49)]) (by decide) (by decide) (by decide) (Nat.le_of_ble_eq_true rfl) rfl ?_
  intro p e s m args below meth c Q hC hr hk htab hZ hS hN hQ
  replace hC : Cx p s m args c method_7_code 4 "PartnerStackLaw" E := hC
  refine wi_aload_n hC 2 d_Law_word_0 rfl rfl ?_
  refine wi_iconst hC 0 (by decide) d_Law_word_1 ?_
  refine wi_aload_n hC 0 d_Law_word_2 rfl rfl ?_
  refine wi_iload_n hC 1 d_Law_word_3 rfl rfl ?_
  refine k_PS_word hC hp wl_word (by decide) (by decide) d_Law_word_4 ?_
  refine wi_i2l hC d_Law_word_7 ?_
  refine wa_st49 hC (by unfold vp_in; decide) d_Law_word_8 ?_
  refine wi_goto hC 15 d_Law_word_9 (by decide) ?_
  refine wi_iconst hC 0 (by decide) d_Law_word_15 ?_
  exact wi_iret hC hr hk d_Law_word_16 rfl rfl hQ
theorem ht_word (l : Launch) (hl0 : l.stackTraces = false) (E : Ev) (σ τ : St) (q : Int64) (a1 : Int32) (hbad : badI a1 7 = true) : HF l y_Law_word method_7_code 4 [(0, 9, 12, 23)] rmH E [.ref 0, .int a1, .ref 49] (σ, τ, q) 1 (σ, τ, q) := by
  refine HF_intro (mc := 1) (ms := 6) (lv0 := [(0, .ref 0), (1, .int a1), (2, .ref 49)]) (by decide) (by decide) (by decide) (Nat.le_of_ble_eq_true rfl) rfl ?_
  intro p e s m args below meth c Q hC hr hk htab hZ hS hN hQ
  replace hC : Cx p s m args c method_7_code 4 "PartnerStackLaw" E := hC
  refine wi_aload_n hC 2 d_Law_word_0 rfl rfl ?_
  refine wi_iconst hC 0 (by decide) d_Law_word_1 ?_
  refine wi_aload_n hC 0 d_Law_word_2 rfl rfl ?_
  refine wi_iload_n hC 1 d_Law_word_3 rfl rfl ?_
  refine ws_throw (n := 1) (vs := [.int a1]) (rest := [.int 0, .ref 49]) (X := X_ia) hC hZ hS rfl rfl (x_PS_word l hl0 (AA E) (E.1 0) a1 hbad) (by decide +kernel) wd_1194 wd_395 wd_1195 wd_1196 rfl wl_word (by decide) (by decide) (by decide) d_Law_word_4 (fun H1 locs ls x ce T' hl hw hT hce hcv hcc hca X => ?_)
  obtain ⟨vm', X2, st2⟩ := th_first X x (g := F0 m 4 ls ([.int 0, .ref 49].map (cv E))) rfl (own := R_Law) (name := X_ia) hC.2.2.2.1 (x := ⟨0, 9, 12, 23⟩) (rest := []) (by rw [htab]; rfl) rfl (by decide) (hC.2.2.2.2.1 _ wl_cl23) (by rw [hT]; exact hce) hcv hcc hca
  have K : W p l e rmH s m args below meth c H1 locs 1 6 Q (F0 m 12 ls [.ref x]) := by
    subst hQ
    refine lv_astore_n hC.1 hC.2.1 d_Law_word_12 rfl hl (by decide) rfl (fun ls2 hl2 => ?_)
    refine lv_iconst (v := 1) hC.1 hC.2.1 d_Law_word_13 (by decide) ?_
    exact W.iret hC.1 hC.2.1 hr (wi_post hC hw rfl rfl) hw.2.2.2.2 d_Law_word_14 hk
  obtain ⟨t, a1, b1⟩ := K (T'.setVm vm') hT X2
  exact ⟨t, st2 t a1, b1⟩
def y_Law_part : MethodName := ⟨"PartnerStackLaw", "part", "(LPartnerStack;II[J)I"⟩
theorem wl_part : Cond.methodLink "PartnerStackLaw" 32 y_PS_part ∈ WL := by decide +kernel
theorem d_Law_part_0 : decode method_8_code 0 = .ok (.aload_n 3, 1) := by decide +kernel
theorem d_Law_part_1 : decode method_8_code 1 = .ok (.iconst 0, 1) := by decide +kernel
theorem d_Law_part_2 : decode method_8_code 2 = .ok (.aload_n 0, 1) := by decide +kernel
theorem d_Law_part_3 : decode method_8_code 3 = .ok (.iload_n 1, 1) := by decide +kernel
theorem d_Law_part_4 : decode method_8_code 4 = .ok (.iload_n 2, 1) := by decide +kernel
theorem d_Law_part_5 : decode method_8_code 5 = .ok (.invokevirtual 32, 3) := by decide +kernel
theorem d_Law_part_8 : decode method_8_code 8 = .ok (.i2l, 1) := by decide +kernel
theorem d_Law_part_9 : decode method_8_code 9 = .ok (.lastore, 1) := by decide +kernel
theorem d_Law_part_10 : decode method_8_code 10 = .ok (.goto 11, 3) := by decide +kernel
theorem d_Law_part_13 : decode method_8_code 13 = .ok (.astore 4, 2) := by decide +kernel
theorem d_Law_part_15 : decode method_8_code 15 = .ok (.iconst 1, 1) := by decide +kernel
theorem d_Law_part_16 : decode method_8_code 16 = .ok (.ireturn, 1) := by decide +kernel
theorem d_Law_part_17 : decode method_8_code 17 = .ok (.astore 4, 2) := by decide +kernel
theorem d_Law_part_19 : decode method_8_code 19 = .ok (.iconst 2, 1) := by decide +kernel
theorem d_Law_part_20 : decode method_8_code 20 = .ok (.ireturn, 1) := by decide +kernel
theorem d_Law_part_21 : decode method_8_code 21 = .ok (.iconst 0, 1) := by decide +kernel
theorem d_Law_part_22 : decode method_8_code 22 = .ok (.ireturn, 1) := by decide +kernel
theorem hn_part (l : Launch) (E : Ev) (σ τ : St) (q : Int64) (a1 a2 : Int32) (hn1 : ¬ a1 < 0) (hn2 : a1 < 8) (hn3 : ¬ a2 < 0) (hn4 : a2 ≤ 2) : HF l y_Law_part method_8_code 5 [(0, 10, 13, 13), (0, 10, 17, 23)] rmH E [.ref 0, .int a1, .int a2, .ref 49] (σ, τ, q) 0 (σ, τ, (f_PS_part σ a1 a2).toInt64) := by
  refine HF_intro (mc := 0) (ms := 0) (lv0 := [(0, .ref 0), (1, .int a1), (2, .int a2), (3, .ref 49)]) (by decide) (by decide) (by decide) (Nat.le_of_ble_eq_true rfl) rfl ?_
  intro p e s m args below meth c Q hC hr hk htab hZ hS hN hQ
  replace hC : Cx p s m args c method_8_code 5 "PartnerStackLaw" E := hC
  refine wi_aload_n hC 3 d_Law_part_0 rfl rfl ?_
  refine wi_iconst hC 0 (by decide) d_Law_part_1 ?_
  refine wi_aload_n hC 0 d_Law_part_2 rfl rfl ?_
  refine wi_iload_n hC 1 d_Law_part_3 rfl rfl ?_
  refine wi_iload_n hC 2 d_Law_part_4 rfl rfl ?_
  refine k_PS_part hC hn1 hn2 hn3 hn4 wl_part (by decide) (by decide) d_Law_part_5 ?_
  refine wi_i2l hC d_Law_part_8 ?_
  refine wa_st49 hC (by unfold vp_in; decide) d_Law_part_9 ?_
  refine wi_goto hC 21 d_Law_part_10 (by decide) ?_
  refine wi_iconst hC 0 (by decide) d_Law_part_21 ?_
  exact wi_iret hC hr hk d_Law_part_22 rfl rfl hQ
theorem ht_part (l : Launch) (hl0 : l.stackTraces = false) (E : Ev) (σ τ : St) (q : Int64) (a1 a2 : Int32) (hbad : badP a1 a2 = 1) : HF l y_Law_part method_8_code 5 [(0, 10, 13, 13), (0, 10, 17, 23)] rmH E [.ref 0, .int a1, .int a2, .ref 49] (σ, τ, q) 1 (σ, τ, q) := by
  refine HF_intro (mc := 1) (ms := 6) (lv0 := [(0, .ref 0), (1, .int a1), (2, .int a2), (3, .ref 49)]) (by decide) (by decide) (by decide) (Nat.le_of_ble_eq_true rfl) rfl ?_
  intro p e s m args below meth c Q hC hr hk htab hZ hS hN hQ
  replace hC : Cx p s m args c method_8_code 5 "PartnerStackLaw" E := hC
  refine wi_aload_n hC 3 d_Law_part_0 rfl rfl ?_
  refine wi_iconst hC 0 (by decide) d_Law_part_1 ?_
  refine wi_aload_n hC 0 d_Law_part_2 rfl rfl ?_
  refine wi_iload_n hC 1 d_Law_part_3 rfl rfl ?_
  refine wi_iload_n hC 2 d_Law_part_4 rfl rfl ?_
  refine ws_throw (n := 2) (vs := [.int a1, .int a2]) (rest := [.int 0, .ref 49]) (X := X_io) hC hZ hS rfl rfl (x_PS_part l hl0 (AA E) (E.1 0) a1 a2 hbad) (by decide +kernel) wd_1199 wd_395 wd_1200 wd_1201 rfl wl_part (by decide) (by decide) (by decide) d_Law_part_5 (fun H1 locs ls x ce T' hl hw hT hce hcv hcc hca X => ?_)
  obtain ⟨vm', X2, st2⟩ := th_first X x (g := F0 m 5 ls ([.int 0, .ref 49].map (cv E))) rfl (own := R_Law) (name := X_io) hC.2.2.2.1 (x := ⟨0, 10, 13, 13⟩) (rest := [⟨0, 10, 17, 23⟩]) (by rw [htab]; rfl) rfl (by decide) (hC.2.2.2.2.1 _ wl_cl13) (by rw [hT]; exact hce) hcv hcc hca
  have K : W p l e rmH s m args below meth c H1 locs 1 6 Q (F0 m 13 ls [.ref x]) := by
    subst hQ
    refine lv_astore hC.1 hC.2.1 d_Law_part_13 hl (by decide) rfl (fun ls2 hl2 => ?_)
    refine lv_iconst (v := 1) hC.1 hC.2.1 d_Law_part_15 (by decide) ?_
    exact W.iret hC.1 hC.2.1 hr (wi_post hC hw rfl rfl) hw.2.2.2.2 d_Law_part_16 hk
  obtain ⟨t, a1, b1⟩ := K (T'.setVm vm') hT X2
  exact ⟨t, st2 t a1, b1⟩
theorem ht_part2 (l : Launch) (hl0 : l.stackTraces = false) (E : Ev) (σ τ : St) (q : Int64) (a1 a2 : Int32) (hbad : badP a1 a2 = 2) : HF l y_Law_part method_8_code 5 [(0, 10, 13, 13), (0, 10, 17, 23)] rmH E [.ref 0, .int a1, .int a2, .ref 49] (σ, τ, q) 2 (σ, τ, q) := by
  refine HF_intro (mc := 1) (ms := 6) (lv0 := [(0, .ref 0), (1, .int a1), (2, .int a2), (3, .ref 49)]) (by decide) (by decide) (by decide) (Nat.le_of_ble_eq_true rfl) rfl ?_
  intro p e s m args below meth c Q hC hr hk htab hZ hS hN hQ
  replace hC : Cx p s m args c method_8_code 5 "PartnerStackLaw" E := hC
  refine wi_aload_n hC 3 d_Law_part_0 rfl rfl ?_
  refine wi_iconst hC 0 (by decide) d_Law_part_1 ?_
  refine wi_aload_n hC 0 d_Law_part_2 rfl rfl ?_
  refine wi_iload_n hC 1 d_Law_part_3 rfl rfl ?_
  refine wi_iload_n hC 2 d_Law_part_4 rfl rfl ?_
  refine ws_throw (n := 2) (vs := [.int a1, .int a2]) (rest := [.int 0, .ref 49]) (X := X_ia) hC hZ hS rfl rfl (x_PS_part2 l hl0 (AA E) (E.1 0) a1 a2 hbad) (by decide +kernel) wd_1199 wd_395 wd_1200 wd_1201 rfl wl_part (by decide) (by decide) (by decide) d_Law_part_5 (fun H1 locs ls x ce T' hl hw hT hce hcv hcc hca X => ?_)
  obtain ⟨cA, cB, n1, n2, n3⟩ := hN
  cases hcc.symm.trans n1
  obtain ⟨vm', X2, st2⟩ := th_second X x (g := F0 m 5 ls ([.int 0, .ref 49].map (cv E))) rfl (own := R_Law) (name := X_ia) (name1 := X_io) hC.2.2.2.1 (x1 := ⟨0, 10, 13, 13⟩) (x := ⟨0, 10, 17, 23⟩) (rest := []) (by rw [htab]; rfl) rfl (by decide) (hC.2.2.2.2.1 _ wl_cl13) rfl (by decide) (hC.2.2.2.2.1 _ wl_cl23) (by rw [hT]; exact hce) hcv hcc hca n2 n3
  have K : W p l e rmH s m args below meth c H1 locs 1 6 Q (F0 m 17 ls [.ref x]) := by
    subst hQ
    refine lv_astore hC.1 hC.2.1 d_Law_part_17 hl (by decide) rfl (fun ls2 hl2 => ?_)
    refine lv_iconst (v := 2) hC.1 hC.2.1 d_Law_part_19 (by decide) ?_
    exact W.iret hC.1 hC.2.1 hr (wi_post hC hw rfl rfl) hw.2.2.2.2 d_Law_part_20 hk
  obtain ⟨t, a1, b1⟩ := K (T'.setVm vm') hT X2
  exact ⟨t, st2 t a1, b1⟩
