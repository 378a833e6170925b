set_option maxRecDepth 100000 in
set_option maxHeartbeats 400000 in
theorem c_Wr_writePattern (l : Launch) (E : Ev) (σ τ : St) (q : Int64) (a1 : Int32) (a2 : Nat) (ha2 : isReal a2) : MF l y_Wr_writePattern prog_10_method_3_code 3 none { frames := 1, cells := 0, slots := 0, locals := 25 } E [.ref 27, .int a1, .ref a2] (σ, τ, q) none ((f_Wr_writePattern σ a1 a2), τ, q) := by
  refine MF_intro (lv0 := [(0, .ref 27), (1, .int a1), (2, .ref a2)]) (by decide) wd_237 (Nat.le_of_ble_eq_true rfl) rfl ?_
  intro p e s m args below meth c Q hC hr hk hQ
  replace hC : Cx p s m args c prog_10_method_3_code 3 "PartnerStack$Writer" E := hC
  refine wi_aload_n hC 0 d_Wr_writePattern_0 rfl rfl ?_
  refine wg_Wr_row hC wd_233 d_Wr_writePattern_1 ?_
  refine wi_iload_n hC 1 d_Wr_writePattern_4 rfl rfl ?_
  refine wi_bipush hC 8 (by decide) d_Wr_writePattern_5 ?_
  refine wi_aload_n hC 2 d_Wr_writePattern_7 rfl rfl ?_
  refine wg_Real_fraction hC ha2 wd_234 d_Wr_writePattern_8 ?_
  refine k_Mem_put hC  wd_235 (by decide) (Nat.le_of_ble_eq_true rfl) d_Wr_writePattern_11 ?_
  refine wi_nmC (fun s1 e_s1 => ?_)
  refine wi_aload_n hC 0 d_Wr_writePattern_14 rfl rfl ?_
  refine wg_Wr_row hC wd_233 d_Wr_writePattern_15 ?_
  refine wi_iload_n hC 1 d_Wr_writePattern_18 rfl rfl ?_
  refine wi_bipush hC 8 (by decide) d_Wr_writePattern_19 ?_
  refine wi_iadd hC d_Wr_writePattern_21 ?_
  refine wi_iconst hC 2 (by decide) d_Wr_writePattern_22 ?_
  refine wi_aload_n hC 2 d_Wr_writePattern_23 rfl rfl ?_
  refine k_Real_top hC ha2 wd_236 (by decide) (Nat.le_of_ble_eq_true rfl) d_Wr_writePattern_24 ?_
  refine wi_i2l hC d_Wr_writePattern_27 ?_
  refine k_Mem_put hC  wd_235 (by decide) (Nat.le_of_ble_eq_true rfl) d_Wr_writePattern_28 ?_
  refine wi_nmC (fun s2 e_s2 => ?_)
  have hf : f_Wr_writePattern σ a1 a2 = s2 := by subst e_s2; subst e_s1; exact rfl
  exact wi_vret hC hr hk d_Wr_writePattern_31 rfl (congrArg (fun z => (z, τ, q)) hf).symm hQ
theorem k_Wr_writePattern {p : Program} {l : Launch} {e : Env} {R : Room} {s : State} {m : MethodId} {args : Array Value} {below : List Frame} {meth : Method} {c : Code} {Q : State → Prop} {E : Ev} {nL pc index : Nat} {lv : List (Nat × Value)} {rest : List Value} {cc : ByteArray} {own : String} {σ τ : St} {q : Int64} {a1 : Int32} {a2 : Nat} (hC : Cx p s m args c cc nL own E)  (ha2 : isReal a2) (hl : Cond.methodLink own index y_Wr_writePattern ∈ WL) (hR : 1 + 1 ≤ R.frames ∧ 8 + (3 + 11) + 25 ≤ R.locals) (hs8 : (rest.map fun v => v.category).sum ≤ 8) (d : decode cc pc = .ok (.invokevirtual index, 3)) (k : WS p l e R s m args below meth c Q E nL (pc + 3) lv rest ((f_Wr_writePattern σ a1 a2), τ, q)) : WS p l e R s m args below meth c Q E nL pc lv (.ref a2 :: .int a1 :: .ref 27 :: rest) (σ, τ, q) := by
  exact wi_callV hC (n := 2) (vs := [.int a1, .ref a2]) (rest := rest) 27 9 (by decide) rfl rfl rfl (c_Wr_writePattern l E σ τ q a1 a2 ha2) (by decide +kernel) wd_237 wd_238 wd_239 wd_240 ⟨rfl, rfl⟩ rfl rfl hl hR hs8 d k
set_option maxRecDepth 100000 in
set_option maxHeartbeats 400000 in
theorem c_Wr_roundToWhole (l : Launch) (E : Ev) (σ τ : St) (q : Int64) (a1 : Nat) (a2 : Int32) (ha1 : isReal a1) : MF l y_Wr_roundToWhole prog_10_method_6_code 3 (some .boolean) { frames := 2, cells := 0, slots := 0, locals := 52 } E [.ref 27, .ref a1, .int a2] (σ, τ, q) (some (.int (bI ((f_Wr_roundToWhole σ a1 a2).1)))) ((f_Wr_roundToWhole σ a1 a2).2, τ, q) := by
  refine MF_intro (lv0 := [(0, .ref 27), (1, .ref a1), (2, .int a2)]) (by decide) wd_247 (Nat.le_of_ble_eq_true rfl) rfl ?_
  intro p e s m args below meth c Q hC hr hk hQ
  replace hC : Cx p s m args c prog_10_method_6_code 3 "PartnerStack$Writer" E := hC
  refine wi_aload_n hC 1 d_Wr_roundToWhole_0 rfl rfl ?_
  refine wg_Real_power hC ha1 wd_241 d_Wr_roundToWhole_1 ?_
  refine wi_sipush hC 32767 (by decide) d_Wr_roundToWhole_4 ?_
  refine wi_icmp_eq hC 22 d_Wr_roundToWhole_7 (by decide) (fun h1 => ?_) (fun h1 => ?_)
  · skip
    refine wi_iconst hC 0 (by decide) d_Wr_roundToWhole_22 ?_
    have hf : f_Wr_roundToWhole σ a1 a2 = (false, σ) := by exact (if_pos h1)
    exact wi_zret hC hr hk d_Wr_roundToWhole_23 rfl (congrArg (fun z => some (Value.int (bI z.1))) hf) (congrArg (fun z => (z.2, τ, q)) hf).symm hQ
  · skip
    refine wi_aload_n hC 0 d_Wr_roundToWhole_10 rfl rfl ?_
    refine wg_Wr_size hC wd_242 d_Wr_roundToWhole_11 ?_
    refine k_Size_exponent hC (by unfold isSize; decide) wd_243 (by decide) (Nat.le_of_ble_eq_true rfl) d_Wr_roundToWhole_14 ?_
    refine wi_bipush hC 63 (by decide) d_Wr_roundToWhole_17 ?_
    refine wi_icmp_le hC 24 d_Wr_roundToWhole_19 (by decide) (fun h2 => ?_) (fun h2 => ?_)
    · skip
      refine wi_aload_n hC 0 d_Wr_roundToWhole_24 rfl rfl ?_
      refine wg_Wr_size hC wd_242 d_Wr_roundToWhole_25 ?_
      refine wi_aload_n hC 0 d_Wr_roundToWhole_28 rfl rfl ?_
      refine wg_Wr_size hC wd_242 d_Wr_roundToWhole_29 ?_
      refine wg_Size_unit hC (by unfold isSize; decide) wd_244 d_Wr_roundToWhole_32 ?_
      refine wi_ineg hC d_Wr_roundToWhole_35 ?_
      refine wi_iload_n hC 2 d_Wr_roundToWhole_36 rfl rfl ?_
      refine wi_aload_n hC 1 d_Wr_roundToWhole_37 rfl rfl ?_
      refine wg_Real_minus hC ha1 wd_245 d_Wr_roundToWhole_38 ?_
      refine k_Size_round hC (gZ σ 15 a1) rfl (by unfold isSize; decide) wd_246 (by decide) (Nat.le_of_ble_eq_true rfl) d_Wr_roundToWhole_41 ?_
      refine wi_nmC (fun s1 e_s1 => ?_)
      refine wi_iconst hC 1 (by decide) d_Wr_roundToWhole_44 ?_
      have hf : f_Wr_roundToWhole σ a1 a2 = (true, s1) := by subst e_s1; exact (Eq.trans (if_neg h1) (if_pos h2))
      exact wi_zret hC hr hk d_Wr_roundToWhole_45 rfl (congrArg (fun z => some (Value.int (bI z.1))) hf) (congrArg (fun z => (z.2, τ, q)) hf).symm hQ
    · skip
      refine wi_iconst hC 0 (by decide) d_Wr_roundToWhole_22 ?_
      have hf : f_Wr_roundToWhole σ a1 a2 = (false, σ) := by exact (Eq.trans (if_neg h1) (if_neg h2))
      exact wi_zret hC hr hk d_Wr_roundToWhole_23 rfl (congrArg (fun z => some (Value.int (bI z.1))) hf) (congrArg (fun z => (z.2, τ, q)) hf).symm hQ
theorem k_Wr_roundToWhole {p : Program} {l : Launch} {e : Env} {R : Room} {s : State} {m : MethodId} {args : Array Value} {below : List Frame} {meth : Method} {c : Code} {Q : State → Prop} {E : Ev} {nL pc index : Nat} {lv : List (Nat × Value)} {rest : List Value} {cc : ByteArray} {own : String} {σ τ : St} {q : Int64} {a1 : Nat} {a2 : Int32} (hC : Cx p s m args c cc nL own E)  (ha1 : isReal a1) (hl : Cond.methodLink own index y_Wr_roundToWhole ∈ WL) (hR : 2 + 1 ≤ R.frames ∧ 8 + (3 + 11) + 52 ≤ R.locals) (hs8 : (rest.map fun v => v.category).sum ≤ 8) (d : decode cc pc = .ok (.invokevirtual index, 3)) (k : WS p l e R s m args below meth c Q E nL (pc + 3) lv ((.int (bI ((f_Wr_roundToWhole σ a1 a2).1))) :: rest) ((f_Wr_roundToWhole σ a1 a2).2, τ, q)) : WS p l e R s m args below meth c Q E nL pc lv (.int a2 :: .ref a1 :: .ref 27 :: rest) (σ, τ, q) := by
  exact wi_callV hC (n := 2) (vs := [.ref a1, .int a2]) (rest := rest) 27 9 (by decide) rfl rfl rfl (c_Wr_roundToWhole l E σ τ q a1 a2 ha1) (by decide +kernel) wd_247 wd_238 wd_248 wd_249 ⟨rfl, rfl⟩ rfl rfl hl hR hs8 d k
set_option maxRecDepth 100000 in
set_option maxHeartbeats 400000 in
theorem c_Wr_isWithin (l : Launch) (E : Ev) (σ τ : St) (q : Int64) (a1 : Int64) (a2 : Bool) (a3 : Int64)  : MF l y_Wr_isWithin prog_10_method_5_code 5 (some .boolean) { frames := 0, cells := 0, slots := 0, locals := 0 } E [.long a1, .int (bI a2), .long a3] (σ, τ, q) (some (.int (bI (f_Wr_isWithin a1 a2 a3)))) (σ, τ, q) := by
  refine MF_intro (lv0 := [(0, .long a1), (2, .int (bI a2)), (3, .long a3)]) (by decide) wd_250 (Nat.le_of_ble_eq_true rfl) rfl ?_
  intro p e s m args below meth c Q hC hr hk hQ
  replace hC : Cx p s m args c prog_10_method_5_code 5 "PartnerStack$Writer" E := hC
  refine wi_lload_n hC 0 d_Wr_isWithin_0 rfl rfl ?_
  refine wi_lconst hC 0 (by decide) d_Wr_isWithin_1 ?_
  obtain ⟨Tt1, eTt1⟩ : ∃ y : Bool, y = (
          if a1 < 0 then
            f_Wr_isWithin_b15 a1 a2 a3
          else
            if a1 ≤ (-(a3 + 1)) then
              true
            else
              f_Wr_isWithin_b15 a1 a2 a3) := ⟨_, rfl⟩
  have Jt1 : ∀ (t1 : Bool), Tt1 = t1 → WS p l e { frames := 0, cells := 0, slots := 0, locals := 0 } s m args below meth c Q E 5 31 [(0, .long a1), (2, .int (bI a2)), (3, .long a3)] [.int (bI t1)] (σ, τ, q) := by
    intro t1  e_t1
    rw [eTt1] at e_t1
    have hf : f_Wr_isWithin a1 a2 a3 = t1 := by subst e_t1; exact rfl
    exact wi_zret hC hr hk d_Wr_isWithin_31 rfl (congrArg (fun z => some (Value.int (bI z))) hf) rfl hQ
  have B1 : Tt1 = f_Wr_isWithin_b15 a1 a2 a3 → WS p l e { frames := 0, cells := 0, slots := 0, locals := 0 } s m args below meth c Q E 5 15 [(0, .long a1), (2, .int (bI a2)), (3, .long a3)] [] (σ, τ, q) := by
    intro hB1
    refine wi_iload_n hC 1 d_Wr_isWithin_15 rfl rfl ?_
    refine wi_z_eq (b := a2) hC 30 d_Wr_isWithin_16 (by decide) (fun h3 => ?_) (fun h3 => ?_)
    · skip
      refine wi_iconst hC 0 (by decide) d_Wr_isWithin_30 ?_
      exact Jt1 false (by exact (Eq.trans hB1 (if_neg h3)))
    · skip
      refine wi_lload_n hC 0 d_Wr_isWithin_19 rfl rfl ?_
      refine wi_lload_n hC 2 d_Wr_isWithin_20 rfl rfl ?_
      refine wi_lneg hC d_Wr_isWithin_21 ?_
      refine wi_lcmp_ne hC 30 d_Wr_isWithin_22 d_Wr_isWithin_23 (by decide) (fun h4 => ?_) (fun h4 => ?_)
      · skip
        refine wi_iconst hC 0 (by decide) d_Wr_isWithin_30 ?_
        exact Jt1 false (by exact (Eq.trans hB1 (Eq.trans (if_pos h3) (if_neg h4))))
      · skip
        refine wi_iconst hC 1 (by decide) d_Wr_isWithin_26 ?_
        refine wi_goto hC 31 d_Wr_isWithin_27 (by decide) ?_
        exact Jt1 true (by exact (Eq.trans hB1 (Eq.trans (if_pos h3) (if_pos h4))))
  refine wi_lcmp_lt hC 15 d_Wr_isWithin_2 d_Wr_isWithin_3 (by decide) (fun h1 => ?_) (fun h1 => ?_)
  · skip
    exact B1   (by exact (Eq.trans eTt1 (if_pos h1)))
  · skip
    refine wi_lload_n hC 0 d_Wr_isWithin_6 rfl rfl ?_
    refine wi_lload_n hC 2 d_Wr_isWithin_7 rfl rfl ?_
    refine wi_lconst hC 1 (by decide) d_Wr_isWithin_8 ?_
    refine wi_ladd hC d_Wr_isWithin_9 ?_
    refine wi_lneg hC d_Wr_isWithin_10 ?_
    refine wi_lcmp_le hC 26 d_Wr_isWithin_11 d_Wr_isWithin_12 (by decide) (fun h2 => ?_) (fun h2 => ?_)
    · skip
      refine wi_iconst hC 1 (by decide) d_Wr_isWithin_26 ?_
      refine wi_goto hC 31 d_Wr_isWithin_27 (by decide) ?_
      exact Jt1 true (by exact (Eq.trans eTt1 (Eq.trans (if_neg h1) (if_pos h2))))
    · skip
      exact B1   (by exact (Eq.trans eTt1 (Eq.trans (if_neg h1) (if_neg h2))))
theorem k_Wr_isWithin {p : Program} {l : Launch} {e : Env} {R : Room} {s : State} {m : MethodId} {args : Array Value} {below : List Frame} {meth : Method} {c : Code} {Q : State → Prop} {E : Ev} {nL pc index : Nat} {lv : List (Nat × Value)} {rest : List Value} {cc : ByteArray} {own : String} {σ τ : St} {q : Int64} {a1 : Int64} {a3 : Int64} (hC : Cx p s m args c cc nL own E) {x_a2 : Int32} (a2 : Bool) (hx_a2 : x_a2 = bI a2)  (hl : Cond.methodLink own index y_Wr_isWithin ∈ WL) (hR : 0 + 1 ≤ R.frames ∧ 8 + (5 + 11) + 0 ≤ R.locals) (hs8 : (rest.map fun v => v.category).sum ≤ 8) (d : decode cc pc = .ok (.invokestatic index, 3)) (k : WS p l e R s m args below meth c Q E nL (pc + 3) lv ((.int (bI (f_Wr_isWithin a1 a2 a3))) :: rest) (σ, τ, q)) : WS p l e R s m args below meth c Q E nL pc lv (.long a3 :: .int x_a2 :: .long a1 :: rest) (σ, τ, q) := by
  subst hx_a2
  exact wi_callS hC (n := 3) (vs := [.long a1, .int (bI a2), .long a3]) (rest := rest) (c_Wr_isWithin l E σ τ q a1 a2 a3 ) (by decide +kernel) wd_250 wd_238 wd_251 ⟨rfl, rfl⟩ rfl rfl hl hR hs8 d k
set_option maxRecDepth 100000 in
set_option maxHeartbeats 400000 in
theorem c_Wr_writeWhole (l : Launch) (E : Ev) (σ τ : St) (q : Int64) (a1 : Int32) (a2 : Nat) (ha2 : isReal a2) : MF l y_Wr_writeWhole prog_10_method_4_code 7 none { frames := 3, cells := 0, slots := 0, locals := 74 } E [.ref 27, .int a1, .ref a2] (σ, τ, q) none ((f_Wr_writeWhole σ a1 a2), τ, q) := by
  refine MF_intro (lv0 := [(0, .ref 27), (1, .int a1), (2, .ref a2)]) (by decide) wd_261 (Nat.le_of_ble_eq_true rfl) rfl ?_
  intro p e s m args below meth c Q hC hr hk hQ
  replace hC : Cx p s m args c prog_10_method_4_code 7 "PartnerStack$Writer" E := hC
  refine wi_ldc2 hC wd_252 d_Wr_writeWhole_0 ?_
  refine wi_bipush hC 8 (by decide) d_Wr_writeWhole_3 ?_
  refine wi_iload_n hC 1 d_Wr_writeWhole_5 rfl rfl ?_
  refine wi_imul hC d_Wr_writeWhole_6 ?_
  refine wi_iconst hC 1 (by decide) d_Wr_writeWhole_7 ?_
  refine wi_isub hC d_Wr_writeWhole_8 ?_
  refine wi_lshl hC d_Wr_writeWhole_9 ?_
  refine wi_nmJ (fun v1 e_v1 => ?_)
  refine wi_lstore_n hC [(3, .long v1), (0, .ref 27), (1, .int a1), (2, .ref a2)] d_Wr_writeWhole_10 rfl (by decide) rfl ?_
  refine wi_lload_n hC 0 d_Wr_writeWhole_11 rfl rfl ?_
  refine wi_lstore hC [(5, .long v1), (3, .long v1), (0, .ref 27), (1, .int a1), (2, .ref a2)] d_Wr_writeWhole_12 (by decide) rfl ?_
  refine wi_aload_n hC 2 d_Wr_writeWhole_14 rfl rfl ?_
  refine wi_aload_n hC 4 d_Wr_writeWhole_15 rfl rfl ?_
  refine wi_aload_n hC 2 d_Wr_writeWhole_16 rfl rfl ?_
  refine wg_Wr_control hC wd_253 d_Wr_writeWhole_17 ?_
  refine k_Ctl_rounding hC  wd_254 (by decide) (Nat.le_of_ble_eq_true rfl) d_Wr_writeWhole_20 ?_
  refine k_Wr_roundToWhole hC ha2 wd_255 (by decide) (Nat.le_of_ble_eq_true rfl) d_Wr_writeWhole_23 ?_
  obtain ⟨r1, e_r1⟩ : ∃ y : Bool × St, f_Wr_roundToWhole σ a2 (f_Ctl_rounding σ) = y := ⟨_, rfl⟩
  rw [e_r1]
  obtain ⟨Tt1, eTt1⟩ : ∃ y : Int64 × St, y = (
          if r1.1 = true then
            if f_Wr_isWithin (gJ r1.2 12 9) (gZ r1.2 15 a2) v1 = true then
              let t2 : Int64 := 
                  if gZ r1.2 15 a2 = true then
                    -(gJ r1.2 12 9)
                  else
                    gJ r1.2 12 9
              let t3 : Int32 := 
                  if gZ r1.2 13 9 = true then
                    32
                  else
                    0
              let s1 : St := f_Ctl_tell r1.2 t3
              (t2, s1)
            else
              f_Wr_writeWhole_b100 v1 r1
          else
            f_Wr_writeWhole_b100 v1 r1) := ⟨_, rfl⟩
  have Jt1 : ∀ (t1 : Int64 × St), Tt1 = t1 → WS p l e { frames := 3, cells := 0, slots := 0, locals := 74 } s m args below meth c Q E 7 108 [(5, .long t1.1), (3, .long v1), (0, .ref 27), (1, .int a1), (2, .ref a2)] [] (t1.2, τ, q) := by
    intro t1  e_t1
    rw [eTt1] at e_t1
    refine wi_aload_n hC 2 d_Wr_writeWhole_108 rfl rfl ?_
    refine wg_Wr_control hC wd_253 d_Wr_writeWhole_109 ?_
    refine k_Ctl_endsWriting hC  wd_260 (by decide) (Nat.le_of_ble_eq_true rfl) d_Wr_writeWhole_112 ?_
    obtain ⟨Tt4, eTt4⟩ : ∃ y : St, y = (
            if f_Ctl_endsWriting t1.2 = true then
              t1.2
            else
              let s3 : St := f_Mem_put t1.2 0 a1 t1.1
              s3) := ⟨_, rfl⟩
    have Jt4 : ∀ (t4 : St), Tt4 = t4 → WS p l e { frames := 3, cells := 0, slots := 0, locals := 74 } s m args below meth c Q E 7 129 [(5, .long t1.1), (3, .long v1), (0, .ref 27), (1, .int a1), (2, .ref a2)] [] (t4, τ, q) := by
      intro t4  e_t4
      rw [eTt4] at e_t4
      have hf : f_Wr_writeWhole σ a1 a2 = t4 := by subst e_t4; subst e_t1; subst e_r1; subst e_v1; exact rfl
      exact wi_vret hC hr hk d_Wr_writeWhole_129 rfl (congrArg (fun z => (z, τ, q)) hf).symm hQ
    refine wi_z_ne (b := (f_Ctl_endsWriting t1.2)) hC 129 d_Wr_writeWhole_115 (by decide) (fun h5 => ?_) (fun h5 => ?_)
    · skip
      exact Jt4 t1.2 (by exact (Eq.trans eTt4 (if_pos h5)))
    · skip
      refine wi_aload_n hC 2 d_Wr_writeWhole_118 rfl rfl ?_
      refine wg_Wr_row hC wd_233 d_Wr_writeWhole_119 ?_
      refine wi_iconst hC 0 (by decide) d_Wr_writeWhole_122 ?_
      refine wi_iload_n hC 3 d_Wr_writeWhole_123 rfl rfl ?_
      refine wi_lload hC 0 d_Wr_writeWhole_124 rfl ?_
      refine k_Mem_put hC  wd_235 (by decide) (Nat.le_of_ble_eq_true rfl) d_Wr_writeWhole_126 ?_
      refine wi_nmC (fun s3 e_s3 => ?_)
      exact Jt4 s3 (by subst e_s3; exact (Eq.trans eTt4 (if_neg h5)))
  have B1 : Tt1 = f_Wr_writeWhole_b100 v1 r1 → WS p l e { frames := 3, cells := 0, slots := 0, locals := 74 } s m args below meth c Q E 7 100 [(5, .long v1), (3, .long v1), (0, .ref 27), (1, .int a1), (2, .ref a2)] [] (r1.2, τ, q) := by
    intro hB1
    refine wi_aload_n hC 2 d_Wr_writeWhole_100 rfl rfl ?_
    refine wg_Wr_control hC wd_253 d_Wr_writeWhole_101 ?_
    refine wi_iconst hC 1 (by decide) d_Wr_writeWhole_104 ?_
    refine k_Ctl_tell hC  wd_259 (by decide) (Nat.le_of_ble_eq_true rfl) d_Wr_writeWhole_105 ?_
    refine wi_nmC (fun s2 e_s2 => ?_)
    exact Jt1 (v1, s2) (by subst e_s2; exact hB1)
  refine wi_z_eq (b := r1.1) hC 100 d_Wr_writeWhole_26 (by decide) (fun h1 => ?_) (fun h1 => ?_)
  · skip
    exact B1   (by exact (Eq.trans eTt1 (if_neg h1)))
  · skip
    refine wi_aload_n hC 2 d_Wr_writeWhole_29 rfl rfl ?_
    refine wg_Wr_size hC wd_242 d_Wr_writeWhole_30 ?_
    refine wg_Size_kept hC (by unfold isSize; decide) wd_256 d_Wr_writeWhole_33 ?_
    refine wi_aload_n hC 4 d_Wr_writeWhole_36 rfl rfl ?_
    refine wg_Real_minus hC ha2 wd_245 d_Wr_writeWhole_37 ?_
    refine wi_lload_n hC 1 d_Wr_writeWhole_40 rfl rfl ?_
    refine k_Wr_isWithin hC (gZ r1.2 15 a2) rfl wd_257 (by decide) (Nat.le_of_ble_eq_true rfl) d_Wr_writeWhole_41 ?_
    refine wi_z_eq (b := (f_Wr_isWithin (gJ r1.2 12 9) (gZ r1.2 15 a2) v1)) hC 100 d_Wr_writeWhole_44 (by decide) (fun h2 => ?_) (fun h2 => ?_)
    · skip
      exact B1   (by exact (Eq.trans eTt1 (Eq.trans (if_pos h1) (if_neg h2))))
    · skip
      refine wi_aload_n hC 4 d_Wr_writeWhole_47 rfl rfl ?_
      refine wg_Real_minus hC ha2 wd_245 d_Wr_writeWhole_48 ?_
      obtain ⟨Tt2, eTt2⟩ : ∃ y : Int64, y = (
              if gZ r1.2 15 a2 = true then
                -(gJ r1.2 12 9)
              else
                gJ r1.2 12 9) := ⟨_, rfl⟩
      have Jt2 : ∀ (t2 : Int64), Tt2 = t2 → WS p l e { frames := 3, cells := 0, slots := 0, locals := 74 } s m args below meth c Q E 7 72 [(5, .long v1), (3, .long v1), (0, .ref 27), (1, .int a1), (2, .ref a2)] [.long t2] (r1.2, τ, q) := by
        intro t2  e_t2
        rw [eTt2] at e_t2
        refine wi_lstore hC [(5, .long t2), (3, .long v1), (0, .ref 27), (1, .int a1), (2, .ref a2)] d_Wr_writeWhole_72 (by decide) rfl ?_
        refine wi_aload_n hC 2 d_Wr_writeWhole_74 rfl rfl ?_
        refine wg_Wr_control hC wd_253 d_Wr_writeWhole_75 ?_
        refine wi_aload_n hC 2 d_Wr_writeWhole_78 rfl rfl ?_
        refine wg_Wr_size hC wd_242 d_Wr_writeWhole_79 ?_
        refine wg_Size_isCut hC (by unfold isSize; decide) wd_258 d_Wr_writeWhole_82 ?_
        obtain ⟨Tt3, eTt3⟩ : ∃ y : Int32, y = (
                if gZ r1.2 13 9 = true then
                  32
                else
                  0) := ⟨_, rfl⟩
        have Jt3 : ∀ (t3 : Int32), Tt3 = t3 → WS p l e { frames := 3, cells := 0, slots := 0, locals := 74 } s m args below meth c Q E 7 94 [(5, .long t2), (3, .long v1), (0, .ref 27), (1, .int a1), (2, .ref a2)] [.int t3, .ref 3] (r1.2, τ, q) := by
          intro t3  e_t3
          rw [eTt3] at e_t3
          refine k_Ctl_tell hC  wd_259 (by decide) (Nat.le_of_ble_eq_true rfl) d_Wr_writeWhole_94 ?_
          refine wi_nmC (fun s1 e_s1 => ?_)
          refine wi_goto hC 108 d_Wr_writeWhole_97 (by decide) ?_
          exact Jt1 (t2, s1) (by subst e_s1; subst e_t3; subst e_t2; exact (Eq.trans eTt1 (Eq.trans (if_pos h1) (if_pos h2))))
        refine wi_z_eq (b := (gZ r1.2 13 9)) hC 93 d_Wr_writeWhole_85 (by decide) (fun h4 => ?_) (fun h4 => ?_)
        · skip
          refine wi_iconst hC 0 (by decide) d_Wr_writeWhole_93 ?_
          exact Jt3 0 (by exact (Eq.trans eTt3 (if_neg h4)))
        · skip
          refine wi_bipush hC 32 (by decide) d_Wr_writeWhole_88 ?_
          refine wi_goto hC 94 d_Wr_writeWhole_90 (by decide) ?_
          exact Jt3 32 (by exact (Eq.trans eTt3 (if_pos h4)))
      refine wi_z_eq (b := (gZ r1.2 15 a2)) hC 65 d_Wr_writeWhole_51 (by decide) (fun h3 => ?_) (fun h3 => ?_)
      · skip
        refine wi_aload_n hC 2 d_Wr_writeWhole_65 rfl rfl ?_
        refine wg_Wr_size hC wd_242 d_Wr_writeWhole_66 ?_
        refine wg_Size_kept hC (by unfold isSize; decide) wd_256 d_Wr_writeWhole_69 ?_
        exact Jt2 (gJ r1.2 12 9) (by exact (Eq.trans eTt2 (if_neg h3)))
      · skip
        refine wi_aload_n hC 2 d_Wr_writeWhole_54 rfl rfl ?_
        refine wg_Wr_size hC wd_242 d_Wr_writeWhole_55 ?_
        refine wg_Size_kept hC (by unfold isSize; decide) wd_256 d_Wr_writeWhole_58 ?_
        refine wi_lneg hC d_Wr_writeWhole_61 ?_
        refine wi_goto hC 72 d_Wr_writeWhole_62 (by decide) ?_
        exact Jt2 (-(gJ r1.2 12 9)) (by exact (Eq.trans eTt2 (if_pos h3)))
theorem k_Wr_writeWhole {p : Program} {l : Launch} {e : Env} {R : Room} {s : State} {m : MethodId} {args : Array Value} {below : List Frame} {meth : Method} {c : Code} {Q : State → Prop} {E : Ev} {nL pc index : Nat} {lv : List (Nat × Value)} {rest : List Value} {cc : ByteArray} {own : String} {σ τ : St} {q : Int64} {a1 : Int32} {a2 : Nat} (hC : Cx p s m args c cc nL own E)  (ha2 : isReal a2) (hl : Cond.methodLink own index y_Wr_writeWhole ∈ WL) (hR : 3 + 1 ≤ R.frames ∧ 8 + (7 + 11) + 74 ≤ R.locals) (hs8 : (rest.map fun v => v.category).sum ≤ 8) (d : decode cc pc = .ok (.invokevirtual index, 3)) (k : WS p l e R s m args below meth c Q E nL (pc + 3) lv rest ((f_Wr_writeWhole σ a1 a2), τ, q)) : WS p l e R s m args below meth c Q E nL pc lv (.ref a2 :: .int a1 :: .ref 27 :: rest) (σ, τ, q) := by
  exact wi_callV hC (n := 2) (vs := [.int a1, .ref a2]) (rest := rest) 27 9 (by decide) rfl rfl rfl (c_Wr_writeWhole l E σ τ q a1 a2 ha2) (by decide +kernel) wd_261 wd_238 wd_262 wd_263 ⟨rfl, rfl⟩ rfl rfl hl hR hs8 d k
set_option maxRecDepth 100000 in
set_option maxHeartbeats 400000 in
theorem c_Wr_numberPattern (l : Launch) (E : Ev) (σ τ : St) (q : Int64) (a1 : Nat) (a2 : Int32) (a3 : Int32) (a4 : Int64) (ha1 : isReal a1) : MF l y_Wr_numberPattern prog_10_method_9_code 9 (some .long) { frames := 2, cells := 0, slots := 0, locals := 52 } E [.ref 27, .ref a1, .int a2, .int a3, .long a4] (σ, τ, q) (some (.long ((f_Wr_numberPattern σ a1 a2 a3 a4).1))) ((f_Wr_numberPattern σ a1 a2 a3 a4).2, τ, q) := by
  refine MF_intro (lv0 := [(0, .ref 27), (1, .ref a1), (2, .int a2), (3, .int a3), (4, .long a4)]) (by decide) wd_266 (Nat.le_of_ble_eq_true rfl) rfl ?_
  intro p e s m args below meth c Q hC hr hk hQ
  replace hC : Cx p s m args c prog_10_method_9_code 9 "PartnerStack$Writer" E := hC
  refine wi_aload_n hC 0 d_Wr_numberPattern_0 rfl rfl ?_
  refine wg_Wr_size hC wd_242 d_Wr_numberPattern_1 ?_
  refine k_Size_exponent hC (by unfold isSize; decide) wd_243 (by decide) (Nat.le_of_ble_eq_true rfl) d_Wr_numberPattern_4 ?_
  refine wi_nmI (fun v1 e_v1 => ?_)
  refine wi_istore hC [(6, .int v1), (0, .ref 27), (1, .ref a1), (2, .int a2), (3, .int a3), (4, .long a4)] d_Wr_numberPattern_7 (by decide) rfl ?_
  refine wi_iload hC 0 d_Wr_numberPattern_9 rfl ?_
  refine wi_iconst hC 2 (by decide) d_Wr_numberPattern_11 ?_
  refine wi_iload_n hC 4 d_Wr_numberPattern_12 rfl rfl ?_
  refine wi_isub hC d_Wr_numberPattern_13 ?_
  refine wi_icmp_ge hC 138 d_Wr_numberPattern_14 (by decide) (fun h1 => ?_) (fun h1 => ?_)
  · skip
    refine wi_iload hC 0 d_Wr_numberPattern_138 rfl ?_
    refine wi_iload_n hC 4 d_Wr_numberPattern_140 rfl rfl ?_
    have B1 : ∀ (x1 : St), f_Wr_numberPattern σ a1 a2 a3 a4 = f_Wr_numberPattern_b222 a1 a4 x1 → WS p l e { frames := 2, cells := 0, slots := 0, locals := 52 } s m args below meth c Q E 9 222 [(6, .int v1), (0, .ref 27), (1, .ref a1), (2, .int a2), (3, .int a3), (4, .long a4)] [] (x1, τ, q) := by
      intro x1 hB1
      refine wi_aload_n hC 1 d_Wr_numberPattern_222 rfl rfl ?_
      refine wg_Wr_control hC wd_253 d_Wr_numberPattern_223 ?_
      refine wi_aload_n hC 1 d_Wr_numberPattern_226 rfl rfl ?_
      refine wg_Wr_control hC wd_253 d_Wr_numberPattern_227 ?_
      refine wi_bipush hC 8 (by decide) d_Wr_numberPattern_230 ?_
      refine k_Ctl_masks hC  wd_264 (by decide) (Nat.le_of_ble_eq_true rfl) d_Wr_numberPattern_232 ?_
      obtain ⟨Tt2, eTt2⟩ : ∃ y : Int32, y = (
              if f_Ctl_masks x1 8 = true then
                40
              else
                8) := ⟨_, rfl⟩
      have Jt2 : ∀ (t2 : Int32), Tt2 = t2 → WS p l e { frames := 2, cells := 0, slots := 0, locals := 52 } s m args below meth c Q E 9 245 [(6, .int v1), (0, .ref 27), (1, .ref a1), (2, .int a2), (3, .int a3), (4, .long a4)] [.int t2, .ref 3] (x1, τ, q) := by
        intro t2  e_t2
        rw [eTt2] at e_t2
        refine k_Ctl_tell hC  wd_259 (by decide) (Nat.le_of_ble_eq_true rfl) d_Wr_numberPattern_245 ?_
        refine wi_nmC (fun s3 e_s3 => ?_)
        refine wi_aload_n hC 1 d_Wr_numberPattern_248 rfl rfl ?_
        refine wg_Wr_control hC wd_253 d_Wr_numberPattern_249 ?_
        refine wi_aload_n hC 2 d_Wr_numberPattern_252 rfl rfl ?_
        refine wg_Real_minus hC ha1 wd_245 d_Wr_numberPattern_253 ?_
        refine k_Ctl_overBecomesInfinite hC (gZ s3 15 a1) rfl wd_265 (by decide) (Nat.le_of_ble_eq_true rfl) d_Wr_numberPattern_256 ?_
        obtain ⟨Tt3, eTt3⟩ : ∃ y : Int64, y = (
                if f_Ctl_overBecomesInfinite s3 (gZ s3 15 a1) = true then
                  a4
                else
                  a4 - 1) := ⟨_, rfl⟩
        have Jt3 : ∀ (t3 : Int64), Tt3 = t3 → WS p l e { frames := 2, cells := 0, slots := 0, locals := 52 } s m args below meth c Q E 9 271 [(6, .int v1), (0, .ref 27), (1, .ref a1), (2, .int a2), (3, .int a3), (4, .long a4)] [.long t3] (s3, τ, q) := by
          intro t3  e_t3
          rw [eTt3] at e_t3
          have hf : f_Wr_numberPattern σ a1 a2 a3 a4 = (t3, s3) := by subst e_t3; subst e_s3; subst e_t2; exact hB1
          exact wi_lret hC hr hk d_Wr_numberPattern_271 (congrArg (fun z => some (Value.long z.1)) hf) (congrArg (fun z => (z.2, τ, q)) hf).symm hQ
        refine wi_z_eq (b := (f_Ctl_overBecomesInfinite s3 (gZ s3 15 a1))) hC 267 d_Wr_numberPattern_259 (by decide) (fun h6 => ?_) (fun h6 => ?_)
        · skip
          refine wi_lload hC 5 d_Wr_numberPattern_267 rfl ?_
          refine wi_lconst hC 1 (by decide) d_Wr_numberPattern_269 ?_
          refine wi_lsub hC d_Wr_numberPattern_270 ?_
          exact Jt3 (a4 - 1) (by exact (Eq.trans eTt3 (if_neg h6)))
        · skip
          refine wi_lload hC 5 d_Wr_numberPattern_262 rfl ?_
          refine wi_goto hC 271 d_Wr_numberPattern_264 (by decide) ?_
          exact Jt3 a4 (by exact (Eq.trans eTt3 (if_pos h6)))
      refine wi_z_eq (b := (f_Ctl_masks x1 8)) hC 243 d_Wr_numberPattern_235 (by decide) (fun h5 => ?_) (fun h5 => ?_)
      · skip
        refine wi_bipush hC 8 (by decide) d_Wr_numberPattern_243 ?_
        exact Jt2 8 (by exact (Eq.trans eTt2 (if_neg h5)))
      · skip
        refine wi_bipush hC 40 (by decide) d_Wr_numberPattern_238 ?_
        refine wi_goto hC 245 d_Wr_numberPattern_240 (by decide) ?_
        exact Jt2 40 (by exact (Eq.trans eTt2 (if_pos h5)))
    refine wi_icmp_ge hC 222 d_Wr_numberPattern_141 (by decide) (fun h2 => ?_) (fun h2 => ?_)
    · skip
      exact B1 σ  (by subst e_v1; exact (Eq.trans (if_pos h1) (if_pos h2)))
    · skip
      refine wi_aload_n hC 1 d_Wr_numberPattern_144 rfl rfl ?_
      refine wg_Wr_size hC wd_242 d_Wr_numberPattern_145 ?_
      refine wi_sipush hC 128 (by decide) d_Wr_numberPattern_148 ?_
      refine wi_iload_n hC 3 d_Wr_numberPattern_151 rfl rfl ?_
      refine wi_isub hC d_Wr_numberPattern_152 ?_
      refine wi_aload_n hC 1 d_Wr_numberPattern_153 rfl rfl ?_
      refine wg_Wr_control hC wd_253 d_Wr_numberPattern_154 ?_
      refine k_Ctl_rounding hC  wd_254 (by decide) (Nat.le_of_ble_eq_true rfl) d_Wr_numberPattern_157 ?_
      refine wi_aload_n hC 2 d_Wr_numberPattern_160 rfl rfl ?_
      refine wg_Real_minus hC ha1 wd_245 d_Wr_numberPattern_161 ?_
      refine k_Size_round hC (gZ σ 15 a1) rfl (by unfold isSize; decide) wd_246 (by decide) (Nat.le_of_ble_eq_true rfl) d_Wr_numberPattern_164 ?_
      refine wi_nmC (fun s1 e_s1 => ?_)
      refine wi_iload hC 0 d_Wr_numberPattern_167 rfl ?_
      refine wi_iload_n hC 4 d_Wr_numberPattern_169 rfl rfl ?_
      refine wi_iadd hC d_Wr_numberPattern_170 ?_
      refine wi_iconst hC 2 (by decide) d_Wr_numberPattern_171 ?_
      refine wi_isub hC d_Wr_numberPattern_172 ?_
      refine wi_i2l hC d_Wr_numberPattern_173 ?_
      refine wi_iload_n hC 3 d_Wr_numberPattern_174 rfl rfl ?_
      refine wi_iconst hC 1 (by decide) d_Wr_numberPattern_175 ?_
      refine wi_isub hC d_Wr_numberPattern_176 ?_
      refine wi_lshl hC d_Wr_numberPattern_177 ?_
      refine wi_aload_n hC 1 d_Wr_numberPattern_178 rfl rfl ?_
      refine wg_Wr_size hC wd_242 d_Wr_numberPattern_179 ?_
      refine wg_Size_kept hC (by unfold isSize; decide) wd_256 d_Wr_numberPattern_182 ?_
      refine wi_ladd hC d_Wr_numberPattern_185 ?_
      refine wi_nmJ (fun v2 e_v2 => ?_)
      refine wi_lstore hC [(7, .long v2), (6, .int v1), (0, .ref 27), (1, .ref a1), (2, .int a2), (3, .int a3), (4, .long a4)] d_Wr_numberPattern_186 (by decide) rfl ?_
      refine wi_lload hC 0 d_Wr_numberPattern_188 rfl ?_
      refine wi_lload hC 6 d_Wr_numberPattern_190 rfl ?_
      refine wi_lcmp_ge hC 222 d_Wr_numberPattern_192 d_Wr_numberPattern_193 (by decide) (fun h3 => ?_) (fun h3 => ?_)
      · skip
        refine wi_lv [1, 2, 3, 4, 5, 6] [(6, .int v1), (0, .ref 27), (1, .ref a1), (2, .int a2), (3, .int a3), (4, .long a4)] rfl ?_
        exact B1 s1  (by subst e_v2; subst e_s1; subst e_v1; exact (Eq.trans (if_pos h1) (Eq.trans (if_neg h2) (if_pos h3))))
      · skip
        refine wi_aload_n hC 2 d_Wr_numberPattern_196 rfl rfl ?_
        refine wg_Wr_control hC wd_253 d_Wr_numberPattern_197 ?_
        refine wi_aload_n hC 2 d_Wr_numberPattern_200 rfl rfl ?_
        refine wg_Wr_size hC wd_242 d_Wr_numberPattern_201 ?_
        refine wg_Size_isCut hC (by unfold isSize; decide) wd_258 d_Wr_numberPattern_204 ?_
        obtain ⟨Tt1, eTt1⟩ : ∃ y : Int32, y = (
                if gZ s1 13 9 = true then
                  32
                else
                  0) := ⟨_, rfl⟩
        have Jt1 : ∀ (t1 : Int32), Tt1 = t1 → WS p l e { frames := 2, cells := 0, slots := 0, locals := 52 } s m args below meth c Q E 9 216 [(7, .long v2), (6, .int v1), (0, .ref 27), (1, .ref a1), (2, .int a2), (3, .int a3), (4, .long a4)] [.int t1, .ref 3] (s1, τ, q) := by
          intro t1  e_t1
          rw [eTt1] at e_t1
          refine k_Ctl_tell hC  wd_259 (by decide) (Nat.le_of_ble_eq_true rfl) d_Wr_numberPattern_216 ?_
          refine wi_nmC (fun s2 e_s2 => ?_)
          refine wi_lload hC 0 d_Wr_numberPattern_219 rfl ?_
          have hf : f_Wr_numberPattern σ a1 a2 a3 a4 = (v2, s2) := by subst e_s2; subst e_t1; subst e_v2; subst e_s1; subst e_v1; exact (Eq.trans (if_pos h1) (Eq.trans (if_neg h2) (if_neg h3)))
          exact wi_lret hC hr hk d_Wr_numberPattern_221 (congrArg (fun z => some (Value.long z.1)) hf) (congrArg (fun z => (z.2, τ, q)) hf).symm hQ
        refine wi_z_eq (b := (gZ s1 13 9)) hC 215 d_Wr_numberPattern_207 (by decide) (fun h4 => ?_) (fun h4 => ?_)
        · skip
          refine wi_iconst hC 0 (by decide) d_Wr_numberPattern_215 ?_
          exact Jt1 0 (by exact (Eq.trans eTt1 (if_neg h4)))
        · skip
          refine wi_bipush hC 32 (by decide) d_Wr_numberPattern_210 ?_
          refine wi_goto hC 216 d_Wr_numberPattern_212 (by decide) ?_
          exact Jt1 32 (by exact (Eq.trans eTt1 (if_pos h4)))
  · skip
    refine wi_aload_n hC 1 d_Wr_numberPattern_17 rfl rfl ?_
    refine wg_Wr_size hC wd_242 d_Wr_numberPattern_18 ?_
    refine wi_iconst hC 3 (by decide) d_Wr_numberPattern_21 ?_
    refine wi_iload_n hC 4 d_Wr_numberPattern_22 rfl rfl ?_
    refine wi_isub hC d_Wr_numberPattern_23 ?_
    refine wi_iload_n hC 3 d_Wr_numberPattern_24 rfl rfl ?_
    refine wi_isub hC d_Wr_numberPattern_25 ?_
    refine wi_aload_n hC 1 d_Wr_numberPattern_26 rfl rfl ?_
    refine wg_Wr_size hC wd_242 d_Wr_numberPattern_27 ?_
    refine wg_Size_unit hC (by unfold isSize; decide) wd_244 d_Wr_numberPattern_30 ?_
    refine wi_isub hC d_Wr_numberPattern_33 ?_
    refine wi_aload_n hC 1 d_Wr_numberPattern_34 rfl rfl ?_
    refine wg_Wr_control hC wd_253 d_Wr_numberPattern_35 ?_
    refine k_Ctl_rounding hC  wd_254 (by decide) (Nat.le_of_ble_eq_true rfl) d_Wr_numberPattern_38 ?_
    refine wi_aload_n hC 2 d_Wr_numberPattern_41 rfl rfl ?_
    refine wg_Real_minus hC ha1 wd_245 d_Wr_numberPattern_42 ?_
    refine k_Size_round hC (gZ σ 15 a1) rfl (by unfold isSize; decide) wd_246 (by decide) (Nat.le_of_ble_eq_true rfl) d_Wr_numberPattern_45 ?_
    refine wi_nmC (fun s4 e_s4 => ?_)
    refine wi_aload_n hC 1 d_Wr_numberPattern_48 rfl rfl ?_
    refine wg_Wr_size hC wd_242 d_Wr_numberPattern_49 ?_
    refine wg_Size_isCut hC (by unfold isSize; decide) wd_258 d_Wr_numberPattern_52 ?_
    obtain ⟨Tt4, eTt4⟩ : ∃ y : Bool, y = (
            if gZ s4 13 9 = true then
              true
            else
              if f_Ctl_masks s4 16 = true then
                false
              else
                true) := ⟨_, rfl⟩
    have Jt4 : ∀ (t4 : Bool), Tt4 = t4 → WS p l e { frames := 2, cells := 0, slots := 0, locals := 52 } s m args below meth c Q E 9 75 [(6, .int v1), (0, .ref 27), (1, .ref a1), (2, .int a2), (3, .int a3), (4, .long a4)] [.int (bI t4)] (s4, τ, q) := by
      intro t4  e_t4
      rw [eTt4] at e_t4
      refine wi_istore hC [(7, .int (bI t4)), (6, .int v1), (0, .ref 27), (1, .ref a1), (2, .int a2), (3, .int a3), (4, .long a4)] d_Wr_numberPattern_75 (by decide) rfl ?_
      refine wi_aload_n hC 2 d_Wr_numberPattern_77 rfl rfl ?_
      refine wg_Wr_control hC wd_253 d_Wr_numberPattern_78 ?_
      refine wi_iload hC 0 d_Wr_numberPattern_81 rfl ?_
      obtain ⟨Tt5, eTt5⟩ : ∃ y : Int32, y = (
              if t4 = true then
                16
              else
                0) := ⟨_, rfl⟩
      have Jt5 : ∀ (t5 : Int32), Tt5 = t5 → WS p l e { frames := 2, cells := 0, slots := 0, locals := 52 } s m args below meth c Q E 9 92 [(7, .int (bI t4)), (6, .int v1), (0, .ref 27), (1, .ref a1), (2, .int a2), (3, .int a3), (4, .long a4)] [.int t5, .ref 3] (s4, τ, q) := by
        intro t5  e_t5
        rw [eTt5] at e_t5
        refine k_Ctl_tell hC  wd_259 (by decide) (Nat.le_of_ble_eq_true rfl) d_Wr_numberPattern_92 ?_
        refine wi_nmC (fun s5 e_s5 => ?_)
        refine wi_aload_n hC 2 d_Wr_numberPattern_95 rfl rfl ?_
        refine wg_Wr_control hC wd_253 d_Wr_numberPattern_96 ?_
        refine wi_aload_n hC 2 d_Wr_numberPattern_99 rfl rfl ?_
        refine wg_Wr_size hC wd_242 d_Wr_numberPattern_100 ?_
        refine wg_Size_isCut hC (by unfold isSize; decide) wd_258 d_Wr_numberPattern_103 ?_
        obtain ⟨Tt6, eTt6⟩ : ∃ y : Int32, y = (
                if gZ s5 13 9 = true then
                  if f_Ctl_masks s5 16 = true then
                    32
                  else
                    0
                else
                  0) := ⟨_, rfl⟩
        have Jt6 : ∀ (t6 : Int32), Tt6 = t6 → WS p l e { frames := 2, cells := 0, slots := 0, locals := 52 } s m args below meth c Q E 9 127 [(7, .int (bI t4)), (6, .int v1), (0, .ref 27), (1, .ref a1), (2, .int a2), (3, .int a3), (4, .long a4)] [.int t6, .ref 3] (s5, τ, q) := by
          intro t6  e_t6
          rw [eTt6] at e_t6
          refine k_Ctl_tell hC  wd_259 (by decide) (Nat.le_of_ble_eq_true rfl) d_Wr_numberPattern_127 ?_
          refine wi_nmC (fun s6 e_s6 => ?_)
          refine wi_aload_n hC 2 d_Wr_numberPattern_130 rfl rfl ?_
          refine wg_Wr_size hC wd_242 d_Wr_numberPattern_131 ?_
          refine wg_Size_kept hC (by unfold isSize; decide) wd_256 d_Wr_numberPattern_134 ?_
          have hf : f_Wr_numberPattern σ a1 a2 a3 a4 = (gJ s6 12 9, s6) := by subst e_s6; subst e_t6; subst e_s5; subst e_t5; subst e_t4; subst e_s4; subst e_v1; exact (if_neg h1)
          exact wi_lret hC hr hk d_Wr_numberPattern_137 (congrArg (fun z => some (Value.long z.1)) hf) (congrArg (fun z => (z.2, τ, q)) hf).symm hQ
        refine wi_z_eq (b := (gZ s5 13 9)) hC 126 d_Wr_numberPattern_106 (by decide) (fun h10 => ?_) (fun h10 => ?_)
        · skip
          refine wi_iconst hC 0 (by decide) d_Wr_numberPattern_126 ?_
          exact Jt6 0 (by exact (Eq.trans eTt6 (if_neg h10)))
        · skip
          refine wi_aload_n hC 2 d_Wr_numberPattern_109 rfl rfl ?_
          refine wg_Wr_control hC wd_253 d_Wr_numberPattern_110 ?_
          refine wi_bipush hC 16 (by decide) d_Wr_numberPattern_113 ?_
          refine k_Ctl_masks hC  wd_264 (by decide) (Nat.le_of_ble_eq_true rfl) d_Wr_numberPattern_115 ?_
          refine wi_z_eq (b := (f_Ctl_masks s5 16)) hC 126 d_Wr_numberPattern_118 (by decide) (fun h11 => ?_) (fun h11 => ?_)
          · skip
            refine wi_iconst hC 0 (by decide) d_Wr_numberPattern_126 ?_
            exact Jt6 0 (by exact (Eq.trans eTt6 (Eq.trans (if_pos h10) (if_neg h11))))
          · skip
            refine wi_bipush hC 32 (by decide) d_Wr_numberPattern_121 ?_
            refine wi_goto hC 127 d_Wr_numberPattern_123 (by decide) ?_
            exact Jt6 32 (by exact (Eq.trans eTt6 (Eq.trans (if_pos h10) (if_pos h11))))
      refine wi_z_eq (b := t4) hC 91 d_Wr_numberPattern_83 (by decide) (fun h9 => ?_) (fun h9 => ?_)
      · skip
        refine wi_iconst hC 0 (by decide) d_Wr_numberPattern_91 ?_
        exact Jt5 0 (by exact (Eq.trans eTt5 (if_neg h9)))
      · skip
        refine wi_bipush hC 16 (by decide) d_Wr_numberPattern_86 ?_
        refine wi_goto hC 92 d_Wr_numberPattern_88 (by decide) ?_
        exact Jt5 16 (by exact (Eq.trans eTt5 (if_pos h9)))
    refine wi_z_ne (b := (gZ s4 13 9)) hC 70 d_Wr_numberPattern_55 (by decide) (fun h7 => ?_) (fun h7 => ?_)
    · skip
      refine wi_iconst hC 1 (by decide) d_Wr_numberPattern_70 ?_
      refine wi_goto hC 75 d_Wr_numberPattern_71 (by decide) ?_
      exact Jt4 true (by exact (Eq.trans eTt4 (if_pos h7)))
    · skip
      refine wi_aload_n hC 1 d_Wr_numberPattern_58 rfl rfl ?_
      refine wg_Wr_control hC wd_253 d_Wr_numberPattern_59 ?_
      refine wi_bipush hC 16 (by decide) d_Wr_numberPattern_62 ?_
      refine k_Ctl_masks hC  wd_264 (by decide) (Nat.le_of_ble_eq_true rfl) d_Wr_numberPattern_64 ?_
      refine wi_z_ne (b := (f_Ctl_masks s4 16)) hC 74 d_Wr_numberPattern_67 (by decide) (fun h8 => ?_) (fun h8 => ?_)
      · skip
        refine wi_iconst hC 0 (by decide) d_Wr_numberPattern_74 ?_
        exact Jt4 false (by exact (Eq.trans eTt4 (Eq.trans (if_neg h7) (if_pos h8))))
      · skip
        refine wi_iconst hC 1 (by decide) d_Wr_numberPattern_70 ?_
        refine wi_goto hC 75 d_Wr_numberPattern_71 (by decide) ?_
        exact Jt4 true (by exact (Eq.trans eTt4 (Eq.trans (if_neg h7) (if_neg h8))))
theorem k_Wr_numberPattern {p : Program} {l : Launch} {e : Env} {R : Room} {s : State} {m : MethodId} {args : Array Value} {below : List Frame} {meth : Method} {c : Code} {Q : State → Prop} {E : Ev} {nL pc index : Nat} {lv : List (Nat × Value)} {rest : List Value} {cc : ByteArray} {own : String} {σ τ : St} {q : Int64} {a1 : Nat} {a2 : Int32} {a3 : Int32} {a4 : Int64} (hC : Cx p s m args c cc nL own E)  (ha1 : isReal a1) (hl : Cond.methodLink own index y_Wr_numberPattern ∈ WL) (hR : 2 + 1 ≤ R.frames ∧ 8 + (9 + 11) + 52 ≤ R.locals) (hs8 : (rest.map fun v => v.category).sum ≤ 8) (d : decode cc pc = .ok (.invokevirtual index, 3)) (k : WS p l e R s m args below meth c Q E nL (pc + 3) lv ((.long ((f_Wr_numberPattern σ a1 a2 a3 a4).1)) :: rest) ((f_Wr_numberPattern σ a1 a2 a3 a4).2, τ, q)) : WS p l e R s m args below meth c Q E nL pc lv (.long a4 :: .int a3 :: .int a2 :: .ref a1 :: .ref 27 :: rest) (σ, τ, q) := by
  exact wi_callV hC (n := 4) (vs := [.ref a1, .int a2, .int a3, .long a4]) (rest := rest) 27 9 (by decide) rfl rfl rfl (c_Wr_numberPattern l E σ τ q a1 a2 a3 a4 ha1) (by decide +kernel) wd_266 wd_238 wd_267 wd_268 ⟨rfl, rfl⟩ rfl rfl hl hR hs8 d k
set_option maxRecDepth 100000 in
set_option maxHeartbeats 400000 in
theorem c_Wr_writeFloating (l : Launch) (E : Ev) (σ τ : St) (q : Int64) (a1 : Int32) (a2 : Int32) (a3 : Nat) (ha3 : isReal a3) : MF l y_Wr_writeFloating prog_10_method_8_code 12 none { frames := 3, cells := 0, slots := 0, locals := 80 } E [.ref 27, .int a1, .int a2, .ref a3] (σ, τ, q) none ((f_Wr_writeFloating σ a1 a2 a3), τ, q) := by
  refine MF_intro (lv0 := [(0, .ref 27), (1, .int a1), (2, .int a2), (3, .ref a3)]) (by decide) wd_274 (Nat.le_of_ble_eq_true rfl) rfl ?_
  intro p e s m args below meth c Q hC hr hk hQ
  replace hC : Cx p s m args c prog_10_method_8_code 12 "PartnerStack$Writer" E := hC
  refine wi_iload_n hC 2 d_Wr_writeFloating_0 rfl rfl ?_
  refine wi_iconst hC 1 (by decide) d_Wr_writeFloating_1 ?_
  refine wi_isub hC d_Wr_writeFloating_2 ?_
  refine wi_nmI (fun v1 e_v1 => ?_)
  refine wi_istore hC [(4, .int v1), (0, .ref 27), (1, .int a1), (2, .int a2), (3, .ref a3)] d_Wr_writeFloating_3 (by decide) rfl ?_
  refine wi_lconst hC 1 (by decide) d_Wr_writeFloating_5 ?_
  refine wi_bipush hC 8 (by decide) d_Wr_writeFloating_6 ?_
  refine wi_iload_n hC 2 d_Wr_writeFloating_8 rfl rfl ?_
  refine wi_imul hC d_Wr_writeFloating_9 ?_
  refine wi_iload_n hC 3 d_Wr_writeFloating_10 rfl rfl ?_
  refine wi_isub hC d_Wr_writeFloating_11 ?_
  refine wi_lshl hC d_Wr_writeFloating_12 ?_
  refine wi_lconst hC 1 (by decide) d_Wr_writeFloating_13 ?_
  refine wi_lsub hC d_Wr_writeFloating_14 ?_
  refine wi_iload hC 0 d_Wr_writeFloating_15 rfl ?_
  refine wi_lshl hC d_Wr_writeFloating_17 ?_
  refine wi_nmJ (fun v2 e_v2 => ?_)
  refine wi_lstore hC [(5, .long v2), (4, .int v1), (0, .ref 27), (1, .int a1), (2, .int a2), (3, .ref a3)] d_Wr_writeFloating_18 (by decide) rfl ?_
  refine wi_aload_n hC 5 d_Wr_writeFloating_20 rfl rfl ?_
  refine wg_Real_minus hC ha3 wd_245 d_Wr_writeFloating_21 ?_
  refine wi_nmZ (fun v3 e_v3 => ?_)
  refine wi_istore hC [(7, .int (bI v3)), (5, .long v2), (4, .int v1), (0, .ref 27), (1, .int a1), (2, .int a2), (3, .ref a3)] d_Wr_writeFloating_24 (by decide) rfl ?_
  refine wi_aload_n hC 6 d_Wr_writeFloating_26 rfl rfl ?_
  refine k_Real_isInfinite hC ha3 wd_269 (by decide) (Nat.le_of_ble_eq_true rfl) d_Wr_writeFloating_27 ?_
  obtain ⟨Tt1, eTt1⟩ : ∃ y : Int64 × Bool × St, y = (
          if f_Real_isInfinite σ a3 = true then
            (v2, v3, σ)
          else
            if f_Real_isNothing σ a3 = true then
              (0, v3, σ)
            else
              if f_Real_kind σ a3 = 5 then
                let s2 : St := f_Ctl_tell σ 1
                let v5 : Int64 := jlushr (jlshl (gJ s2 17 a3) 1) (64 - v1)
                let t2 : Int64 := 
                    if v5 = 0 then
                      1
                    else
                      v5
                let v6 : Int64 := v2 ||| t2
                (v6, v3, s2)
              else
                if f_Real_isUnnormalSomething σ a3 = true then
                  let s1 : St := f_Ctl_tell σ 1
                  let v4 : Int64 := v2 ||| (jlshl 1 (v1 - 1))
                  (v4, true, s1)
                else
                  let r1 : Int64 × St := f_Wr_numberPattern σ a3 a2 (jshl 1 (((8 * a1) - a2) - 1)) v2
                  (r1.1, v3, r1.2)) := ⟨_, rfl⟩
  have Jt1 : ∀ (t1 : Int64 × Bool × St), Tt1 = t1 → WS p l e { frames := 3, cells := 0, slots := 0, locals := 80 } s m args below meth c Q E 12 156 [(8, .long t1.1), (7, .int (bI t1.2.1)), (5, .long v2), (4, .int v1), (0, .ref 27), (1, .int a1), (2, .int a2), (3, .ref a3)] [] (t1.2.2, τ, q) := by
    intro t1  e_t1
    rw [eTt1] at e_t1
    refine wi_aload_n hC 4 d_Wr_writeFloating_156 rfl rfl ?_
    refine wg_Wr_control hC wd_253 d_Wr_writeFloating_157 ?_
    refine k_Ctl_endsWriting hC  wd_260 (by decide) (Nat.le_of_ble_eq_true rfl) d_Wr_writeFloating_160 ?_
    obtain ⟨Tt3, eTt3⟩ : ∃ y : St, y = (
            if f_Ctl_endsWriting t1.2.2 = true then
              t1.2.2
            else
              let t4 : Int64 := 
                  if t1.2.1 = true then
                    jlshl 1 ((8 * a1) - 1)
                  else
                    0
              let s3 : St := f_Mem_put t1.2.2 0 a1 (t1.1 ||| t4)
              s3) := ⟨_, rfl⟩
    have Jt3 : ∀ (t3 : St), Tt3 = t3 → WS p l e { frames := 3, cells := 0, slots := 0, locals := 80 } s m args below meth c Q E 12 195 [(8, .long t1.1), (7, .int (bI t1.2.1)), (5, .long v2), (4, .int v1), (0, .ref 27), (1, .int a1), (2, .int a2), (3, .ref a3)] [] (t3, τ, q) := by
      intro t3  e_t3
      rw [eTt3] at e_t3
      have hf : f_Wr_writeFloating σ a1 a2 a3 = t3 := by subst e_t3; subst e_t1; subst e_v3; subst e_v2; subst e_v1; exact rfl
      exact wi_vret hC hr hk d_Wr_writeFloating_195 rfl (congrArg (fun z => (z, τ, q)) hf).symm hQ
    refine wi_z_ne (b := (f_Ctl_endsWriting t1.2.2)) hC 195 d_Wr_writeFloating_163 (by decide) (fun h6 => ?_) (fun h6 => ?_)
    · skip
      exact Jt3 t1.2.2 (by exact (Eq.trans eTt3 (if_pos h6)))
    · skip
      refine wi_aload_n hC 4 d_Wr_writeFloating_166 rfl rfl ?_
      refine wg_Wr_row hC wd_233 d_Wr_writeFloating_167 ?_
      refine wi_iconst hC 0 (by decide) d_Wr_writeFloating_170 ?_
      refine wi_iload_n hC 5 d_Wr_writeFloating_171 rfl rfl ?_
      refine wi_lload hC 0 d_Wr_writeFloating_172 rfl ?_
      refine wi_iload hC 1 d_Wr_writeFloating_174 rfl ?_
      obtain ⟨Tt4, eTt4⟩ : ∃ y : Int64, y = (
              if t1.2.1 = true then
                jlshl 1 ((8 * a1) - 1)
              else
                0) := ⟨_, rfl⟩
      have Jt4 : ∀ (t4 : Int64), Tt4 = t4 → WS p l e { frames := 3, cells := 0, slots := 0, locals := 80 } s m args below meth c Q E 12 191 [(8, .long t1.1), (7, .int (bI t1.2.1)), (5, .long v2), (4, .int v1), (0, .ref 27), (1, .int a1), (2, .int a2), (3, .ref a3)] [.long t4, .long t1.1, .int a1, .int 0, .ref 1] (t1.2.2, τ, q) := by
        intro t4  e_t4
        rw [eTt4] at e_t4
        refine wi_lor hC d_Wr_writeFloating_191 ?_
        refine k_Mem_put hC  wd_235 (by decide) (Nat.le_of_ble_eq_true rfl) d_Wr_writeFloating_192 ?_
        refine wi_nmC (fun s3 e_s3 => ?_)
        exact Jt3 s3 (by subst e_s3; subst e_t4; exact (Eq.trans eTt3 (if_neg h6)))
      refine wi_z_eq (b := t1.2.1) hC 190 d_Wr_writeFloating_176 (by decide) (fun h7 => ?_) (fun h7 => ?_)
      · skip
        refine wi_lconst hC 0 (by decide) d_Wr_writeFloating_190 ?_
        exact Jt4 0 (by exact (Eq.trans eTt4 (if_neg h7)))
      · skip
        refine wi_lconst hC 1 (by decide) d_Wr_writeFloating_179 ?_
        refine wi_bipush hC 8 (by decide) d_Wr_writeFloating_180 ?_
        refine wi_iload_n hC 5 d_Wr_writeFloating_182 rfl rfl ?_
        refine wi_imul hC d_Wr_writeFloating_183 ?_
        refine wi_iconst hC 1 (by decide) d_Wr_writeFloating_184 ?_
        refine wi_isub hC d_Wr_writeFloating_185 ?_
        refine wi_lshl hC d_Wr_writeFloating_186 ?_
        refine wi_goto hC 191 d_Wr_writeFloating_187 (by decide) ?_
        exact Jt4 (jlshl 1 ((8 * a1) - 1)) (by exact (Eq.trans eTt4 (if_pos h7)))
  refine wi_z_eq (b := (f_Real_isInfinite σ a3)) hC 40 d_Wr_writeFloating_30 (by decide) (fun h1 => ?_) (fun h1 => ?_)
  · skip
    refine wi_aload_n hC 6 d_Wr_writeFloating_40 rfl rfl ?_
    refine k_Real_isNothing hC ha3 wd_270 (by decide) (Nat.le_of_ble_eq_true rfl) d_Wr_writeFloating_41 ?_
    refine wi_z_eq (b := (f_Real_isNothing σ a3)) hC 53 d_Wr_writeFloating_44 (by decide) (fun h2 => ?_) (fun h2 => ?_)
    · skip
      refine wi_aload_n hC 6 d_Wr_writeFloating_53 rfl rfl ?_
      refine k_Real_kind hC ha3 wd_271 (by decide) (Nat.le_of_ble_eq_true rfl) d_Wr_writeFloating_54 ?_
      refine wi_iconst hC 5 (by decide) d_Wr_writeFloating_57 ?_
      refine wi_icmp_ne hC 104 d_Wr_writeFloating_58 (by decide) (fun h3 => ?_) (fun h3 => ?_)
      · skip
        refine wi_aload_n hC 6 d_Wr_writeFloating_104 rfl rfl ?_
        refine k_Real_isUnnormalSomething hC ha3 wd_272 (by decide) (Nat.le_of_ble_eq_true rfl) d_Wr_writeFloating_105 ?_
        refine wi_z_eq (b := (f_Real_isUnnormalSomething σ a3)) hC 136 d_Wr_writeFloating_108 (by decide) (fun h4 => ?_) (fun h4 => ?_)
        · skip
          refine wi_aload_n hC 3 d_Wr_writeFloating_136 rfl rfl ?_
          refine wi_aload_n hC 6 d_Wr_writeFloating_137 rfl rfl ?_
          refine wi_iload_n hC 5 d_Wr_writeFloating_138 rfl rfl ?_
          refine wi_iconst hC 1 (by decide) d_Wr_writeFloating_139 ?_
          refine wi_bipush hC 8 (by decide) d_Wr_writeFloating_140 ?_
          refine wi_iload_n hC 4 d_Wr_writeFloating_142 rfl rfl ?_
          refine wi_imul hC d_Wr_writeFloating_143 ?_
          refine wi_iload_n hC 5 d_Wr_writeFloating_144 rfl rfl ?_
          refine wi_isub hC d_Wr_writeFloating_145 ?_
          refine wi_iconst hC 1 (by decide) d_Wr_writeFloating_146 ?_
          refine wi_isub hC d_Wr_writeFloating_147 ?_
          refine wi_ishl hC d_Wr_writeFloating_148 ?_
          refine wi_lload hC 1 d_Wr_writeFloating_149 rfl ?_
          refine k_Wr_numberPattern hC ha3 wd_273 (by decide) (Nat.le_of_ble_eq_true rfl) d_Wr_writeFloating_151 ?_
          obtain ⟨r1, e_r1⟩ : ∃ y : Int64 × St, f_Wr_numberPattern σ a3 a2 (jshl 1 (((8 * a1) - a2) - 1)) v2 = y := ⟨_, rfl⟩
          rw [e_r1]
          refine wi_lstore hC [(8, .long r1.1), (7, .int (bI v3)), (5, .long v2), (4, .int v1), (0, .ref 27), (1, .int a1), (2, .int a2), (3, .ref a3)] d_Wr_writeFloating_154 (by decide) rfl ?_
          exact Jt1 (r1.1, v3, r1.2) (by subst e_r1; exact (Eq.trans eTt1 (Eq.trans (if_neg h1) (Eq.trans (if_neg h2) (Eq.trans (if_neg h3) (if_neg h4))))))
        · skip
          refine wi_aload_n hC 3 d_Wr_writeFloating_111 rfl rfl ?_
          refine wg_Wr_control hC wd_253 d_Wr_writeFloating_112 ?_
          refine wi_iconst hC 1 (by decide) d_Wr_writeFloating_115 ?_
          refine k_Ctl_tell hC  wd_259 (by decide) (Nat.le_of_ble_eq_true rfl) d_Wr_writeFloating_116 ?_
          refine wi_nmC (fun s1 e_s1 => ?_)
          refine wi_iconst hC 1 (by decide) d_Wr_writeFloating_119 ?_
          refine wi_istore hC [(7, .int 1), (5, .long v2), (4, .int v1), (0, .ref 27), (1, .int a1), (2, .int a2), (3, .ref a3)] d_Wr_writeFloating_120 (by decide) rfl ?_
          refine wi_lload hC 1 d_Wr_writeFloating_122 rfl ?_
          refine wi_lconst hC 1 (by decide) d_Wr_writeFloating_124 ?_
          refine wi_iload hC 2 d_Wr_writeFloating_125 rfl ?_
          refine wi_iconst hC 1 (by decide) d_Wr_writeFloating_127 ?_
          refine wi_isub hC d_Wr_writeFloating_128 ?_
          refine wi_lshl hC d_Wr_writeFloating_129 ?_
          refine wi_lor hC d_Wr_writeFloating_130 ?_
          refine wi_nmJ (fun v4 e_v4 => ?_)
          refine wi_lstore hC [(8, .long v4), (7, .int 1), (5, .long v2), (4, .int v1), (0, .ref 27), (1, .int a1), (2, .int a2), (3, .ref a3)] d_Wr_writeFloating_131 (by decide) rfl ?_
          refine wi_goto hC 156 d_Wr_writeFloating_133 (by decide) ?_
          exact Jt1 (v4, true, s1) (by subst e_v4; subst e_s1; exact (Eq.trans eTt1 (Eq.trans (if_neg h1) (Eq.trans (if_neg h2) (Eq.trans (if_neg h3) (if_pos h4))))))
      · skip
        refine wi_aload_n hC 3 d_Wr_writeFloating_61 rfl rfl ?_
        refine wg_Wr_control hC wd_253 d_Wr_writeFloating_62 ?_
        refine wi_iconst hC 1 (by decide) d_Wr_writeFloating_65 ?_
        refine k_Ctl_tell hC  wd_259 (by decide) (Nat.le_of_ble_eq_true rfl) d_Wr_writeFloating_66 ?_
        refine wi_nmC (fun s2 e_s2 => ?_)
        refine wi_aload_n hC 6 d_Wr_writeFloating_69 rfl rfl ?_
        refine wg_Real_fraction hC ha3 wd_234 d_Wr_writeFloating_70 ?_
        refine wi_iconst hC 1 (by decide) d_Wr_writeFloating_73 ?_
        refine wi_lshl hC d_Wr_writeFloating_74 ?_
        refine wi_bipush hC 64 (by decide) d_Wr_writeFloating_75 ?_
        refine wi_iload hC 2 d_Wr_writeFloating_77 rfl ?_
        refine wi_isub hC d_Wr_writeFloating_79 ?_
        refine wi_lushr hC d_Wr_writeFloating_80 ?_
        refine wi_nmJ (fun v5 e_v5 => ?_)
        refine wi_lstore hC [(10, .long v5), (7, .int (bI v3)), (5, .long v2), (4, .int v1), (0, .ref 27), (1, .int a1), (2, .int a2), (3, .ref a3)] d_Wr_writeFloating_81 (by decide) rfl ?_
        refine wi_lload hC 2 d_Wr_writeFloating_83 rfl ?_
        refine wi_lload hC 0 d_Wr_writeFloating_85 rfl ?_
        refine wi_lconst hC 0 (by decide) d_Wr_writeFloating_87 ?_
        obtain ⟨Tt2, eTt2⟩ : ∃ y : Int64, y = (
                if v5 = 0 then
                  1
                else
                  v5) := ⟨_, rfl⟩
        have Jt2 : ∀ (t2 : Int64), Tt2 = t2 → WS p l e { frames := 3, cells := 0, slots := 0, locals := 80 } s m args below meth c Q E 12 98 [(10, .long v5), (7, .int (bI v3)), (5, .long v2), (4, .int v1), (0, .ref 27), (1, .int a1), (2, .int a2), (3, .ref a3)] [.long t2, .long v2] (s2, τ, q) := by
          intro t2  e_t2
          rw [eTt2] at e_t2
          refine wi_lor hC d_Wr_writeFloating_98 ?_
          refine wi_nmJ (fun v6 e_v6 => ?_)
          refine wi_lstore hC [(8, .long v6), (10, .long v5), (7, .int (bI v3)), (5, .long v2), (4, .int v1), (0, .ref 27), (1, .int a1), (2, .int a2), (3, .ref a3)] d_Wr_writeFloating_99 (by decide) rfl ?_
          refine wi_goto hC 156 d_Wr_writeFloating_101 (by decide) ?_
          refine wi_lv [0, 2, 3, 4, 5, 6, 7, 8] [(8, .long v6), (7, .int (bI v3)), (5, .long v2), (4, .int v1), (0, .ref 27), (1, .int a1), (2, .int a2), (3, .ref a3)] rfl ?_
          exact Jt1 (v6, v3, s2) (by subst e_v6; subst e_t2; subst e_v5; subst e_s2; exact (Eq.trans eTt1 (Eq.trans (if_neg h1) (Eq.trans (if_neg h2) (if_pos h3)))))
        refine wi_lcmp_ne hC 96 d_Wr_writeFloating_88 d_Wr_writeFloating_89 (by decide) (fun h5 => ?_) (fun h5 => ?_)
        · skip
          refine wi_lload hC 0 d_Wr_writeFloating_96 rfl ?_
          exact Jt2 v5 (by exact (Eq.trans eTt2 (if_neg h5)))
        · skip
          refine wi_lconst hC 1 (by decide) d_Wr_writeFloating_92 ?_
          refine wi_goto hC 98 d_Wr_writeFloating_93 (by decide) ?_
          exact Jt2 1 (by exact (Eq.trans eTt2 (if_pos h5)))
    · skip
      refine wi_lconst hC 0 (by decide) d_Wr_writeFloating_47 ?_
      refine wi_lstore hC [(8, .long 0), (7, .int (bI v3)), (5, .long v2), (4, .int v1), (0, .ref 27), (1, .int a1), (2, .int a2), (3, .ref a3)] d_Wr_writeFloating_48 (by decide) rfl ?_
      refine wi_goto hC 156 d_Wr_writeFloating_50 (by decide) ?_
      exact Jt1 (0, v3, σ) (by exact (Eq.trans eTt1 (Eq.trans (if_neg h1) (if_pos h2))))
  · skip
    refine wi_lload hC 1 d_Wr_writeFloating_33 rfl ?_
    refine wi_lstore hC [(8, .long v2), (7, .int (bI v3)), (5, .long v2), (4, .int v1), (0, .ref 27), (1, .int a1), (2, .int a2), (3, .ref a3)] d_Wr_writeFloating_35 (by decide) rfl ?_
    refine wi_goto hC 156 d_Wr_writeFloating_37 (by decide) ?_
    exact Jt1 (v2, v3, σ) (by exact (Eq.trans eTt1 (if_pos h1)))
theorem k_Wr_writeFloating {p : Program} {l : Launch} {e : Env} {R : Room} {s : State} {m : MethodId} {args : Array Value} {below : List Frame} {meth : Method} {c : Code} {Q : State → Prop} {E : Ev} {nL pc index : Nat} {lv : List (Nat × Value)} {rest : List Value} {cc : ByteArray} {own : String} {σ τ : St} {q : Int64} {a1 : Int32} {a2 : Int32} {a3 : Nat} (hC : Cx p s m args c cc nL own E)  (ha3 : isReal a3) (hl : Cond.methodLink own index y_Wr_writeFloating ∈ WL) (hR : 3 + 1 ≤ R.frames ∧ 8 + (12 + 11) + 80 ≤ R.locals) (hs8 : (rest.map fun v => v.category).sum ≤ 8) (d : decode cc pc = .ok (.invokevirtual index, 3)) (k : WS p l e R s m args below meth c Q E nL (pc + 3) lv rest ((f_Wr_writeFloating σ a1 a2 a3), τ, q)) : WS p l e R s m args below meth c Q E nL pc lv (.ref a3 :: .int a2 :: .int a1 :: .ref 27 :: rest) (σ, τ, q) := by
  exact wi_callV hC (n := 3) (vs := [.int a1, .int a2, .ref a3]) (rest := rest) 27 9 (by decide) rfl rfl rfl (c_Wr_writeFloating l E σ τ q a1 a2 a3 ha3) (by decide +kernel) wd_274 wd_238 wd_275 wd_276 ⟨rfl, rfl⟩ rfl rfl hl hR hs8 d k
set_option maxRecDepth 100000 in
set_option maxHeartbeats 400000 in
theorem c_Wr_writeDecimals (l : Launch) (E : Ev) (σ τ : St) (q : Int64) (a1 : Nat) (ha1 : isReal a1) : MF l y_Wr_writeDecimals prog_10_method_7_code 7 none { frames := 3, cells := 0, slots := 0, locals := 74 } E [.ref 27, .ref a1] (σ, τ, q) none ((f_Wr_writeDecimals σ a1), τ, q) := by
  refine MF_intro (lv0 := [(0, .ref 27), (1, .ref a1)]) (by decide) wd_282 (Nat.le_of_ble_eq_true rfl) rfl ?_
  intro p e s m args below meth c Q hC hr hk hQ
  replace hC : Cx p s m args c prog_10_method_7_code 7 "PartnerStack$Writer" E := hC
  refine wi_aload_n hC 0 d_Wr_writeDecimals_0 rfl rfl ?_
  refine wi_aload_n hC 1 d_Wr_writeDecimals_1 rfl rfl ?_
  refine wi_iconst hC 4 (by decide) d_Wr_writeDecimals_2 ?_
  refine k_Wr_roundToWhole hC ha1 wd_255 (by decide) (Nat.le_of_ble_eq_true rfl) d_Wr_writeDecimals_3 ?_
  obtain ⟨r1, e_r1⟩ : ∃ y : Bool × St, f_Wr_roundToWhole σ a1 4 = y := ⟨_, rfl⟩
  rw [e_r1]
  obtain ⟨Tt1, eTt1⟩ : ∃ y : Bool, y = (
          if r1.1 = true then
            if (gJ r1.2 12 9) < 0 then
              false
            else
              if 1000000000000000000 ≤ (gJ r1.2 12 9) then
                false
              else
                true
          else
            false) := ⟨_, rfl⟩
  have Jt1 : ∀ (t1 : Bool), Tt1 = t1 → WS p l e { frames := 3, cells := 0, slots := 0, locals := 74 } s m args below meth c Q E 7 40 [(0, .ref 27), (1, .ref a1)] [.int (bI t1)] (r1.2, τ, q) := by
    intro t1  e_t1
    rw [eTt1] at e_t1
    refine wi_istore_n hC [(2, .int (bI t1)), (0, .ref 27), (1, .ref a1)] d_Wr_writeDecimals_40 rfl (by decide) rfl ?_
    refine wi_aload_n hC 1 d_Wr_writeDecimals_41 rfl rfl ?_
    refine wg_Wr_control hC wd_253 d_Wr_writeDecimals_42 ?_
    refine wi_iload_n hC 0 d_Wr_writeDecimals_45 rfl rfl ?_
    obtain ⟨Tt2, eTt2⟩ : ∃ y : Int32, y = (
            if t1 = true then
              if gZ r1.2 13 9 = true then
                32
              else
                0
            else
              1) := ⟨_, rfl⟩
    have Jt2 : ∀ (t2 : Int32), Tt2 = t2 → WS p l e { frames := 3, cells := 0, slots := 0, locals := 74 } s m args below meth c Q E 7 69 [(2, .int (bI t1)), (0, .ref 27), (1, .ref a1)] [.int t2, .ref 3] (r1.2, τ, q) := by
      intro t2  e_t2
      rw [eTt2] at e_t2
      refine k_Ctl_tell hC  wd_259 (by decide) (Nat.le_of_ble_eq_true rfl) d_Wr_writeDecimals_69 ?_
      refine wi_nmC (fun s1 e_s1 => ?_)
      refine wi_aload_n hC 1 d_Wr_writeDecimals_72 rfl rfl ?_
      refine wg_Wr_control hC wd_253 d_Wr_writeDecimals_73 ?_
      refine k_Ctl_endsWriting hC  wd_260 (by decide) (Nat.le_of_ble_eq_true rfl) d_Wr_writeDecimals_76 ?_
      refine wi_z_eq (b := (f_Ctl_endsWriting s1)) hC 83 d_Wr_writeDecimals_79 (by decide) (fun h6 => ?_) (fun h6 => ?_)
      · skip
        refine wi_iload_n hC 0 d_Wr_writeDecimals_83 rfl rfl ?_
        refine wi_z_ne (b := t1) hC 114 d_Wr_writeDecimals_84 (by decide) (fun h7 => ?_) (fun h7 => ?_)
        · skip
          refine wi_aload_n hC 1 d_Wr_writeDecimals_114 rfl rfl ?_
          refine wg_Wr_size hC wd_242 d_Wr_writeDecimals_115 ?_
          refine wg_Size_kept hC (by unfold isSize; decide) wd_256 d_Wr_writeDecimals_118 ?_
          refine wi_nmJ (fun v1 e_v1 => ?_)
          refine wi_lstore_n hC [(3, .long v1), (2, .int (bI t1)), (0, .ref 27), (1, .ref a1)] d_Wr_writeDecimals_121 rfl (by decide) rfl ?_
          refine wi_iconst hC 0 (by decide) d_Wr_writeDecimals_122 ?_
          refine wi_istore hC [(5, .int 0), (3, .long v1), (2, .int (bI t1)), (0, .ref 27), (1, .ref a1)] d_Wr_writeDecimals_123 (by decide) rfl ?_
          refine wi_loop ((b_Wr_writeDecimals_125)) (fun t4 => 0 ≤ (t4.1).toInt) (fun t4 => [(5, .int t4.1), (3, .long t4.2.1), (2, .int (bI t1)), (0, .ref 27), (1, .ref a1)]) (fun t4 => (t4.2.2, τ, q)) 176 ?_ (up_inv (b := (b_Wr_writeDecimals_125)) (fun t => t.1) 9 0 st_b_Wr_writeDecimals_125) (upf 9 0) (0, v1, s1) (show (0 : Int) ≤ (0 : Int32).toInt by decide) (up_halt (b := (b_Wr_writeDecimals_125)) (fun t => t.1) 9 st_b_Wr_writeDecimals_125 (0, v1, s1)) ?_
          · intro t4 hi_t4 hc_t4 hx_t4
            refine wi_iload hC 0 d_Wr_writeDecimals_125 rfl ?_
            refine wi_bipush hC 9 (by decide) d_Wr_writeDecimals_127 ?_
            refine wi_icmp_ge hC 176 d_Wr_writeDecimals_129 (by decide) (fun h8 => ?_) (fun h8 => ?_)
            · skip
              exact hx_t4 (t4.1, t4.2.1, t4.2.2) (by exact (if_pos h8))
            · skip
              refine wi_lload_n hC 1 d_Wr_writeDecimals_132 rfl rfl ?_
              refine wi_ldc2 hC wd_278 d_Wr_writeDecimals_133 ?_
              refine wi_lrem hC (by decide) d_Wr_writeDecimals_136 ?_
              refine wi_l2i hC d_Wr_writeDecimals_137 ?_
              refine wi_nmI (fun v2 e_v2 => ?_)
              refine wi_istore hC [(6, .int v2), (5, .int t4.1), (3, .long t4.2.1), (2, .int (bI t1)), (0, .ref 27), (1, .ref a1)] d_Wr_writeDecimals_138 (by decide) rfl ?_
              refine wi_aload_n hC 4 d_Wr_writeDecimals_140 rfl rfl ?_
              refine wg_Wr_row hC wd_233 d_Wr_writeDecimals_141 ?_
              refine wi_iload hC 1 d_Wr_writeDecimals_144 rfl ?_
              refine wi_iconst hC 1 (by decide) d_Wr_writeDecimals_146 ?_
              refine wi_iload hC 0 d_Wr_writeDecimals_147 rfl ?_
              refine wi_bipush hC 10 (by decide) d_Wr_writeDecimals_149 ?_
              refine wi_idiv hC (by decide) d_Wr_writeDecimals_151 ?_
              refine wi_iconst hC 4 (by decide) d_Wr_writeDecimals_152 ?_
              refine wi_ishl hC d_Wr_writeDecimals_153 ?_
              refine wi_iload hC 0 d_Wr_writeDecimals_154 rfl ?_
              refine wi_bipush hC 10 (by decide) d_Wr_writeDecimals_156 ?_
              refine wi_irem hC (by decide) d_Wr_writeDecimals_158 ?_
              refine wi_ior hC d_Wr_writeDecimals_159 ?_
              refine wi_i2l hC d_Wr_writeDecimals_160 ?_
              refine k_Mem_put hC  wd_235 (by decide) (Nat.le_of_ble_eq_true rfl) d_Wr_writeDecimals_161 ?_
              refine wi_nmC (fun s2 e_s2 => ?_)
              refine wi_lload_n hC 2 d_Wr_writeDecimals_164 rfl rfl ?_
              refine wi_ldc2 hC wd_278 d_Wr_writeDecimals_165 ?_
              refine wi_ldiv hC (by decide) d_Wr_writeDecimals_168 ?_
              refine wi_nmJ (fun v3 e_v3 => ?_)
              refine wi_lstore_n hC [(3, .long v3), (6, .int v2), (5, .int t4.1), (2, .int (bI t1)), (0, .ref 27), (1, .ref a1)] d_Wr_writeDecimals_169 rfl (by decide) rfl ?_
              obtain ⟨v4, e_v4⟩ : ∃ y : Int32, t4.1 + 1 = y := ⟨_, rfl⟩
              refine wi_iinc hC 2 v4 [(5, .int v4), (3, .long v3), (6, .int v2), (2, .int (bI t1)), (0, .ref 27), (1, .ref a1)] d_Wr_writeDecimals_170 rfl (by rw [← e_v4]; rfl) (by decide) rfl ?_
              refine wi_goto hC 125 d_Wr_writeDecimals_173 (by decide) ?_
              refine wi_lv [0, 1, 3, 4, 5] [(5, .int v4), (3, .long v3), (2, .int (bI t1)), (0, .ref 27), (1, .ref a1)] rfl ?_
              exact hc_t4 (v4, v3, s2) (by subst e_v4; subst e_v3; subst e_s2; subst e_v2; exact (if_neg h8))
          obtain ⟨t3, e_t3⟩ : ∃ y : Int32 × Int64 × St, lpn ((b_Wr_writeDecimals_125)) (upf 9 0) (0, v1, s1) = y := ⟨_, rfl⟩
          rw [e_t3]
          refine wi_aload_n hC 3 d_Wr_writeDecimals_176 rfl rfl ?_
          refine wg_Wr_row hC wd_233 d_Wr_writeDecimals_177 ?_
          refine wi_bipush hC 9 (by decide) d_Wr_writeDecimals_180 ?_
          refine wi_iconst hC 1 (by decide) d_Wr_writeDecimals_182 ?_
          refine wi_aload_n hC 4 d_Wr_writeDecimals_183 rfl rfl ?_
          refine wg_Real_minus hC ha1 wd_245 d_Wr_writeDecimals_184 ?_
          obtain ⟨Tt5, eTt5⟩ : ∃ y : Int64, y = (
                  if gZ t3.2.2 15 a1 = true then
                    128
                  else
                    0) := ⟨_, rfl⟩
          have Jt5 : ∀ (t5 : Int64), Tt5 = t5 → WS p l e { frames := 3, cells := 0, slots := 0, locals := 74 } s m args below meth c Q E 7 197 [(5, .int t3.1), (3, .long t3.2.1), (2, .int (bI t1)), (0, .ref 27), (1, .ref a1)] [.long t5, .int 1, .int 9, .ref 1] (t3.2.2, τ, q) := by
            intro t5  e_t5
            rw [eTt5] at e_t5
            refine k_Mem_put hC  wd_235 (by decide) (Nat.le_of_ble_eq_true rfl) d_Wr_writeDecimals_197 ?_
            refine wi_nmC (fun s3 e_s3 => ?_)
            have hf : f_Wr_writeDecimals σ a1 = s3 := by subst e_s3; subst e_t5; subst e_t3; subst e_v1; subst e_s1; subst e_t2; subst e_t1; subst e_r1; exact (Eq.trans (if_neg h6) (if_pos h7))
            exact wi_vret hC hr hk d_Wr_writeDecimals_200 rfl (congrArg (fun z => (z, τ, q)) hf).symm hQ
          refine wi_z_eq (b := (gZ t3.2.2 15 a1)) hC 196 d_Wr_writeDecimals_187 (by decide) (fun h9 => ?_) (fun h9 => ?_)
          · skip
            refine wi_lconst hC 0 (by decide) d_Wr_writeDecimals_196 ?_
            exact Jt5 0 (by exact (Eq.trans eTt5 (if_neg h9)))
          · skip
            refine wi_ldc2 hC wd_279 d_Wr_writeDecimals_190 ?_
            refine wi_goto hC 197 d_Wr_writeDecimals_193 (by decide) ?_
            exact Jt5 128 (by exact (Eq.trans eTt5 (if_pos h9)))
        · skip
          refine wi_aload_n hC 1 d_Wr_writeDecimals_87 rfl rfl ?_
          refine wg_Wr_row hC wd_233 d_Wr_writeDecimals_88 ?_
          refine wi_iconst hC 0 (by decide) d_Wr_writeDecimals_91 ?_
          refine wi_bipush hC 8 (by decide) d_Wr_writeDecimals_92 ?_
          refine wi_ldc2 hC wd_280 d_Wr_writeDecimals_94 ?_
          refine k_Mem_put hC  wd_235 (by decide) (Nat.le_of_ble_eq_true rfl) d_Wr_writeDecimals_97 ?_
          refine wi_nmC (fun s4 e_s4 => ?_)
          refine wi_aload_n hC 1 d_Wr_writeDecimals_100 rfl rfl ?_
          refine wg_Wr_row hC wd_233 d_Wr_writeDecimals_101 ?_
          refine wi_bipush hC 8 (by decide) d_Wr_writeDecimals_104 ?_
          refine wi_iconst hC 2 (by decide) d_Wr_writeDecimals_106 ?_
          refine wi_ldc2 hC wd_281 d_Wr_writeDecimals_107 ?_
          refine k_Mem_put hC  wd_235 (by decide) (Nat.le_of_ble_eq_true rfl) d_Wr_writeDecimals_110 ?_
          refine wi_nmC (fun s5 e_s5 => ?_)
          have hf : f_Wr_writeDecimals σ a1 = s5 := by subst e_s5; subst e_s4; subst e_s1; subst e_t2; subst e_t1; subst e_r1; exact (Eq.trans (if_neg h6) (if_neg h7))
          exact wi_vret hC hr hk d_Wr_writeDecimals_113 rfl (congrArg (fun z => (z, τ, q)) hf).symm hQ
      · skip
        have hf : f_Wr_writeDecimals σ a1 = s1 := by subst e_s1; subst e_t2; subst e_t1; subst e_r1; exact (if_pos h6)
        exact wi_vret hC hr hk d_Wr_writeDecimals_82 rfl (congrArg (fun z => (z, τ, q)) hf).symm hQ
    refine wi_z_ne (b := t1) hC 53 d_Wr_writeDecimals_46 (by decide) (fun h4 => ?_) (fun h4 => ?_)
    · skip
      refine wi_aload_n hC 1 d_Wr_writeDecimals_53 rfl rfl ?_
      refine wg_Wr_size hC wd_242 d_Wr_writeDecimals_54 ?_
      refine wg_Size_isCut hC (by unfold isSize; decide) wd_258 d_Wr_writeDecimals_57 ?_
      refine wi_z_eq (b := (gZ r1.2 13 9)) hC 68 d_Wr_writeDecimals_60 (by decide) (fun h5 => ?_) (fun h5 => ?_)
      · skip
        refine wi_iconst hC 0 (by decide) d_Wr_writeDecimals_68 ?_
        exact Jt2 0 (by exact (Eq.trans eTt2 (Eq.trans (if_pos h4) (if_neg h5))))
      · skip
        refine wi_bipush hC 32 (by decide) d_Wr_writeDecimals_63 ?_
        refine wi_goto hC 69 d_Wr_writeDecimals_65 (by decide) ?_
        exact Jt2 32 (by exact (Eq.trans eTt2 (Eq.trans (if_pos h4) (if_pos h5))))
    · skip
      refine wi_iconst hC 1 (by decide) d_Wr_writeDecimals_49 ?_
      refine wi_goto hC 69 d_Wr_writeDecimals_50 (by decide) ?_
      exact Jt2 1 (by exact (Eq.trans eTt2 (if_neg h4)))
  refine wi_z_eq (b := r1.1) hC 39 d_Wr_writeDecimals_6 (by decide) (fun h1 => ?_) (fun h1 => ?_)
  · skip
    refine wi_iconst hC 0 (by decide) d_Wr_writeDecimals_39 ?_
    exact Jt1 false (by exact (Eq.trans eTt1 (if_neg h1)))
  · skip
    refine wi_aload_n hC 0 d_Wr_writeDecimals_9 rfl rfl ?_
    refine wg_Wr_size hC wd_242 d_Wr_writeDecimals_10 ?_
    refine wg_Size_kept hC (by unfold isSize; decide) wd_256 d_Wr_writeDecimals_13 ?_
    refine wi_lconst hC 0 (by decide) d_Wr_writeDecimals_16 ?_
    refine wi_lcmp_lt hC 39 d_Wr_writeDecimals_17 d_Wr_writeDecimals_18 (by decide) (fun h2 => ?_) (fun h2 => ?_)
    · skip
      refine wi_iconst hC 0 (by decide) d_Wr_writeDecimals_39 ?_
      exact Jt1 false (by exact (Eq.trans eTt1 (Eq.trans (if_pos h1) (if_pos h2))))
    · skip
      refine wi_aload_n hC 0 d_Wr_writeDecimals_21 rfl rfl ?_
      refine wg_Wr_size hC wd_242 d_Wr_writeDecimals_22 ?_
      refine wg_Size_kept hC (by unfold isSize; decide) wd_256 d_Wr_writeDecimals_25 ?_
      refine wi_ldc2 hC wd_277 d_Wr_writeDecimals_28 ?_
      refine wi_lcmp_ge hC 39 d_Wr_writeDecimals_31 d_Wr_writeDecimals_32 (by decide) (fun h3 => ?_) (fun h3 => ?_)
      · skip
        refine wi_iconst hC 0 (by decide) d_Wr_writeDecimals_39 ?_
        exact Jt1 false (by exact (Eq.trans eTt1 (Eq.trans (if_pos h1) (Eq.trans (if_neg h2) (if_pos h3)))))
      · skip
        refine wi_iconst hC 1 (by decide) d_Wr_writeDecimals_35 ?_
        refine wi_goto hC 40 d_Wr_writeDecimals_36 (by decide) ?_
        exact Jt1 true (by exact (Eq.trans eTt1 (Eq.trans (if_pos h1) (Eq.trans (if_neg h2) (if_neg h3)))))
theorem k_Wr_writeDecimals {p : Program} {l : Launch} {e : Env} {R : Room} {s : State} {m : MethodId} {args : Array Value} {below : List Frame} {meth : Method} {c : Code} {Q : State → Prop} {E : Ev} {nL pc index : Nat} {lv : List (Nat × Value)} {rest : List Value} {cc : ByteArray} {own : String} {σ τ : St} {q : Int64} {a1 : Nat} (hC : Cx p s m args c cc nL own E)  (ha1 : isReal a1) (hl : Cond.methodLink own index y_Wr_writeDecimals ∈ WL) (hR : 3 + 1 ≤ R.frames ∧ 8 + (7 + 11) + 74 ≤ R.locals) (hs8 : (rest.map fun v => v.category).sum ≤ 8) (d : decode cc pc = .ok (.invokevirtual index, 3)) (k : WS p l e R s m args below meth c Q E nL (pc + 3) lv rest ((f_Wr_writeDecimals σ a1), τ, q)) : WS p l e R s m args below meth c Q E nL pc lv (.ref a1 :: .ref 27 :: rest) (σ, τ, q) := by
  exact wi_callV hC (n := 1) (vs := [.ref a1]) (rest := rest) 27 9 (by decide) rfl rfl rfl (c_Wr_writeDecimals l E σ τ q a1 ha1) (by decide +kernel) wd_282 wd_238 wd_283 wd_284 ⟨rfl, rfl⟩ rfl rfl hl hR hs8 d k
set_option maxRecDepth 100000 in
set_option maxHeartbeats 400000 in
theorem c_Wr_write (l : Launch) (E : Ev) (σ τ : St) (q : Int64) (a1 : Int32) (a2 : Nat) (ha2 : isReal a2) : MF l y_Wr_write prog_10_method_2_code 3 none { frames := 4, cells := 0, slots := 0, locals := 111 } E [.ref 27, .int a1, .ref a2] (σ, τ, q) none ((f_Wr_write σ a1 a2), τ, q) := by
  refine MF_intro (lv0 := [(0, .ref 27), (1, .int a1), (2, .ref a2)]) (by decide) wd_290 (Nat.le_of_ble_eq_true rfl) rfl ?_
  intro p e s m args below meth c Q hC hr hk hQ
  replace hC : Cx p s m args c prog_10_method_2_code 3 "PartnerStack$Writer" E := hC
  refine wi_aload_n hC 0 d_Wr_write_0 rfl rfl ?_
  refine wg_Wr_size hC wd_242 d_Wr_write_1 ?_
  refine wi_aload_n hC 2 d_Wr_write_4 rfl rfl ?_
  refine k_Size_load hC (by unfold isSize; decide) ha2 wd_285 (by decide) (Nat.le_of_ble_eq_true rfl) d_Wr_write_5 ?_
  refine wi_nmC (fun s1 e_s1 => ?_)
  refine wi_iload_n hC 1 d_Wr_write_8 rfl rfl ?_
  obtain ⟨Tt1, eTt1⟩ : ∃ y : St, y = (
          if a1 = 0 then
            let s2 : St := f_Wr_writeWhole s1 2 a2
            s2
          else
            if a1 = 1 then
              let s3 : St := f_Wr_writeWhole s1 4 a2
              s3
            else
              if a1 = 2 then
                let s4 : St := f_Wr_writeWhole s1 8 a2
                s4
              else
                if a1 = 3 then
                  let s5 : St := f_Wr_writeFloating s1 4 24 a2
                  s5
                else
                  if a1 = 4 then
                    let s6 : St := f_Wr_writeFloating s1 8 53 a2
                    s6
                  else
                    if a1 = 5 then
                      let s7 : St := f_Wr_writeDecimals s1 a2
                      s7
                    else
                      let s8 : St := f_Wr_writePattern s1 0 a2
                      s8) := ⟨_, rfl⟩
  have Jt1 : ∀ (t1 : St), Tt1 = t1 → WS p l e { frames := 4, cells := 0, slots := 0, locals := 111 } s m args below meth c Q E 3 113 [(0, .ref 27), (1, .int a1), (2, .ref a2)] [] (t1, τ, q) := by
    intro t1  e_t1
    rw [eTt1] at e_t1
    have hf : f_Wr_write σ a1 a2 = t1 := by subst e_t1; subst e_s1; exact rfl
    exact wi_vret hC hr hk d_Wr_write_113 rfl (congrArg (fun z => (z, τ, q)) hf).symm hQ
  refine wi_by (a1 = 0) (fun h1 => ?_) (fun h1 => ?_)
  · skip
    refine wi_tsIn hC 0 48 d_Wr_write_9 (by rw [h1]; decide) (by decide) rfl (by decide) ?_
    refine wi_aload_n hC 0 d_Wr_write_48 rfl rfl ?_
    refine wi_iconst hC 2 (by decide) d_Wr_write_49 ?_
    refine wi_aload_n hC 2 d_Wr_write_50 rfl rfl ?_
    refine k_Wr_writeWhole hC ha2 wd_286 (by decide) (Nat.le_of_ble_eq_true rfl) d_Wr_write_51 ?_
    refine wi_nmC (fun s2 e_s2 => ?_)
    refine wi_goto hC 113 d_Wr_write_54 (by decide) ?_
    exact Jt1 s2 (by subst e_s2; exact (Eq.trans eTt1 (if_pos h1)))
  · skip
    refine wi_by (a1 = 1) (fun h2 => ?_) (fun h2 => ?_)
    · skip
      refine wi_tsIn hC 1 57 d_Wr_write_9 (by rw [h2]; decide) (by decide) rfl (by decide) ?_
      refine wi_aload_n hC 0 d_Wr_write_57 rfl rfl ?_
      refine wi_iconst hC 4 (by decide) d_Wr_write_58 ?_
      refine wi_aload_n hC 2 d_Wr_write_59 rfl rfl ?_
      refine k_Wr_writeWhole hC ha2 wd_286 (by decide) (Nat.le_of_ble_eq_true rfl) d_Wr_write_60 ?_
      refine wi_nmC (fun s3 e_s3 => ?_)
      refine wi_goto hC 113 d_Wr_write_63 (by decide) ?_
      exact Jt1 s3 (by subst e_s3; exact (Eq.trans eTt1 (Eq.trans (if_neg h1) (if_pos h2))))
    · skip
      refine wi_by (a1 = 2) (fun h3 => ?_) (fun h3 => ?_)
      · skip
        refine wi_tsIn hC 2 66 d_Wr_write_9 (by rw [h3]; decide) (by decide) rfl (by decide) ?_
        refine wi_aload_n hC 0 d_Wr_write_66 rfl rfl ?_
        refine wi_bipush hC 8 (by decide) d_Wr_write_67 ?_
        refine wi_aload_n hC 2 d_Wr_write_69 rfl rfl ?_
        refine k_Wr_writeWhole hC ha2 wd_286 (by decide) (Nat.le_of_ble_eq_true rfl) d_Wr_write_70 ?_
        refine wi_nmC (fun s4 e_s4 => ?_)
        refine wi_goto hC 113 d_Wr_write_73 (by decide) ?_
        exact Jt1 s4 (by subst e_s4; exact (Eq.trans eTt1 (Eq.trans (if_neg h1) (Eq.trans (if_neg h2) (if_pos h3)))))
      · skip
        refine wi_by (a1 = 3) (fun h4 => ?_) (fun h4 => ?_)
        · skip
          refine wi_tsIn hC 3 76 d_Wr_write_9 (by rw [h4]; decide) (by decide) rfl (by decide) ?_
          refine wi_aload_n hC 0 d_Wr_write_76 rfl rfl ?_
          refine wi_iconst hC 4 (by decide) d_Wr_write_77 ?_
          refine wi_bipush hC 24 (by decide) d_Wr_write_78 ?_
          refine wi_aload_n hC 2 d_Wr_write_80 rfl rfl ?_
          refine k_Wr_writeFloating hC ha2 wd_287 (by decide) (Nat.le_of_ble_eq_true rfl) d_Wr_write_81 ?_
          refine wi_nmC (fun s5 e_s5 => ?_)
          refine wi_goto hC 113 d_Wr_write_84 (by decide) ?_
          exact Jt1 s5 (by subst e_s5; exact (Eq.trans eTt1 (Eq.trans (if_neg h1) (Eq.trans (if_neg h2) (Eq.trans (if_neg h3) (if_pos h4))))))
        · skip
          refine wi_by (a1 = 4) (fun h5 => ?_) (fun h5 => ?_)
          · skip
            refine wi_tsIn hC 4 87 d_Wr_write_9 (by rw [h5]; decide) (by decide) rfl (by decide) ?_
            refine wi_aload_n hC 0 d_Wr_write_87 rfl rfl ?_
            refine wi_bipush hC 8 (by decide) d_Wr_write_88 ?_
            refine wi_bipush hC 53 (by decide) d_Wr_write_90 ?_
            refine wi_aload_n hC 2 d_Wr_write_92 rfl rfl ?_
            refine k_Wr_writeFloating hC ha2 wd_287 (by decide) (Nat.le_of_ble_eq_true rfl) d_Wr_write_93 ?_
            refine wi_nmC (fun s6 e_s6 => ?_)
            refine wi_goto hC 113 d_Wr_write_96 (by decide) ?_
            exact Jt1 s6 (by subst e_s6; exact (Eq.trans eTt1 (Eq.trans (if_neg h1) (Eq.trans (if_neg h2) (Eq.trans (if_neg h3) (Eq.trans (if_neg h4) (if_pos h5)))))))
          · skip
            refine wi_by (a1 = 5) (fun h6 => ?_) (fun h6 => ?_)
            · skip
              refine wi_tsIn hC 5 99 d_Wr_write_9 (by rw [h6]; decide) (by decide) rfl (by decide) ?_
              refine wi_aload_n hC 0 d_Wr_write_99 rfl rfl ?_
              refine wi_aload_n hC 2 d_Wr_write_100 rfl rfl ?_
              refine k_Wr_writeDecimals hC ha2 wd_288 (by decide) (Nat.le_of_ble_eq_true rfl) d_Wr_write_101 ?_
              refine wi_nmC (fun s7 e_s7 => ?_)
              refine wi_goto hC 113 d_Wr_write_104 (by decide) ?_
              exact Jt1 s7 (by subst e_s7; exact (Eq.trans eTt1 (Eq.trans (if_neg h1) (Eq.trans (if_neg h2) (Eq.trans (if_neg h3) (Eq.trans (if_neg h4) (Eq.trans (if_neg h5) (if_pos h6))))))))
            · skip
              refine wi_tsOut hC 107 d_Wr_write_9 (by have q0 := lv_neT h1 (a := 0) (by decide); have q1 := lv_neT h2 (a := 1) (by decide); have q2 := lv_neT h3 (a := 2) (by decide); have q3 := lv_neT h4 (a := 3) (by decide); have q4 := lv_neT h5 (a := 4) (by decide); have q5 := lv_neT h6 (a := 5) (by decide); omega) (by decide) ?_
              refine wi_aload_n hC 0 d_Wr_write_107 rfl rfl ?_
              refine wi_iconst hC 0 (by decide) d_Wr_write_108 ?_
              refine wi_aload_n hC 2 d_Wr_write_109 rfl rfl ?_
              refine k_Wr_writePattern hC ha2 wd_289 (by decide) (Nat.le_of_ble_eq_true rfl) d_Wr_write_110 ?_
              refine wi_nmC (fun s8 e_s8 => ?_)
              exact Jt1 s8 (by subst e_s8; exact (Eq.trans eTt1 (Eq.trans (if_neg h1) (Eq.trans (if_neg h2) (Eq.trans (if_neg h3) (Eq.trans (if_neg h4) (Eq.trans (if_neg h5) (if_neg h6))))))))
theorem k_Wr_write {p : Program} {l : Launch} {e : Env} {R : Room} {s : State} {m : MethodId} {args : Array Value} {below : List Frame} {meth : Method} {c : Code} {Q : State → Prop} {E : Ev} {nL pc index : Nat} {lv : List (Nat × Value)} {rest : List Value} {cc : ByteArray} {own : String} {σ τ : St} {q : Int64} {a1 : Int32} {a2 : Nat} (hC : Cx p s m args c cc nL own E)  (ha2 : isReal a2) (hl : Cond.methodLink own index y_Wr_write ∈ WL) (hR : 4 + 1 ≤ R.frames ∧ 8 + (3 + 11) + 111 ≤ R.locals) (hs8 : (rest.map fun v => v.category).sum ≤ 8) (d : decode cc pc = .ok (.invokevirtual index, 3)) (k : WS p l e R s m args below meth c Q E nL (pc + 3) lv rest ((f_Wr_write σ a1 a2), τ, q)) : WS p l e R s m args below meth c Q E nL pc lv (.ref a2 :: .int a1 :: .ref 27 :: rest) (σ, τ, q) := by
  exact wi_callV hC (n := 2) (vs := [.int a1, .ref a2]) (rest := rest) 27 9 (by decide) rfl rfl rfl (c_Wr_write l E σ τ q a1 a2 ha2) (by decide +kernel) wd_290 wd_238 wd_291 wd_292 ⟨rfl, rfl⟩ rfl rfl hl hR hs8 d k
