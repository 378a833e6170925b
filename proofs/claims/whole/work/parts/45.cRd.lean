set_option maxRecDepth 100000 in
set_option maxHeartbeats 400000 in
theorem c_Rd_readPattern (l : Launch) (E : Ev) (σ τ : St) (q : Int64) (a1 : Int32) (a2 : Nat) (ha2 : isReal a2) (hp : vp_in a1 93) : MF l y_Rd_readPattern prog_6_method_3_code 4 none { frames := 1, cells := 0, slots := 0, locals := 25 } E [.ref 26, .int a1, .ref a2] (σ, τ, q) none ((f_Rd_readPattern σ a1 a2), τ, q) := by
  refine MF_intro (lv0 := [(0, .ref 26), (1, .int a1), (2, .ref a2)]) (by decide) wd_198 (Nat.le_of_ble_eq_true rfl) rfl ?_
  intro p e s m args below meth c Q hC hr hk hQ
  replace hC : Cx p s m args c prog_6_method_3_code 4 "PartnerStack$Reader" E := hC
  refine wi_aload_n hC 0 d_Rd_readPattern_0 rfl rfl ?_
  refine wg_Rd_row hC wd_194 d_Rd_readPattern_1 ?_
  refine wi_iload_n hC 1 d_Rd_readPattern_4 rfl rfl ?_
  refine wi_bipush hC 8 (by decide) d_Rd_readPattern_5 ?_
  refine wi_iadd hC d_Rd_readPattern_7 ?_
  refine wi_iconst hC 2 (by decide) d_Rd_readPattern_8 ?_
  refine k_Mem_bits hC (gt8 hp) wd_195 (by decide) (Nat.le_of_ble_eq_true rfl) d_Rd_readPattern_9 ?_
  refine wi_l2i hC d_Rd_readPattern_12 ?_
  refine wi_nmI (fun v1 e_v1 => ?_)
  refine wi_istore_n hC [(3, .int v1), (0, .ref 26), (1, .int a1), (2, .ref a2)] d_Rd_readPattern_13 rfl (by decide) rfl ?_
  refine wi_aload_n hC 3 d_Rd_readPattern_14 rfl rfl ?_
  refine wi_iload_n hC 0 d_Rd_readPattern_15 rfl rfl ?_
  refine wi_ldc hC wd_196 d_Rd_readPattern_16 ?_
  obtain ⟨Tt1, eTt1⟩ : ∃ y : Bool, y = (
          if v1 < 32768 then
            false
          else
            true) := ⟨_, rfl⟩
  have Jt1 : ∀ (t1 : Bool), Tt1 = t1 → WS p l e { frames := 1, cells := 0, slots := 0, locals := 25 } s m args below meth c Q E 4 26 [(3, .int v1), (0, .ref 26), (1, .int a1), (2, .ref a2)] [.int (bI t1), .ref a2] (σ, τ, q) := by
    intro t1  e_t1
    rw [eTt1] at e_t1
    refine wi_iload_n hC 0 d_Rd_readPattern_26 rfl rfl ?_
    refine wi_sipush hC 32767 (by decide) d_Rd_readPattern_27 ?_
    refine wi_iand hC d_Rd_readPattern_30 ?_
    refine wi_aload_n hC 1 d_Rd_readPattern_31 rfl rfl ?_
    refine wg_Rd_row hC wd_194 d_Rd_readPattern_32 ?_
    refine wi_iload_n hC 2 d_Rd_readPattern_35 rfl rfl ?_
    refine wi_bipush hC 8 (by decide) d_Rd_readPattern_36 ?_
    refine k_Mem_bits hC (gt0 hp) wd_195 (by decide) (Nat.le_of_ble_eq_true rfl) d_Rd_readPattern_38 ?_
    refine k_Real_set hC t1 rfl ha2 wd_197 (by decide) (Nat.le_of_ble_eq_true rfl) d_Rd_readPattern_41 ?_
    refine wi_nmC (fun s1 e_s1 => ?_)
    have hf : f_Rd_readPattern σ a1 a2 = s1 := by subst e_s1; subst e_t1; subst e_v1; exact rfl
    exact wi_vret hC hr hk d_Rd_readPattern_44 rfl (congrArg (fun z => (z, τ, q)) hf).symm hQ
  refine wi_icmp_lt hC 25 d_Rd_readPattern_18 (by decide) (fun h1 => ?_) (fun h1 => ?_)
  · skip
    refine wi_iconst hC 0 (by decide) d_Rd_readPattern_25 ?_
    exact Jt1 false (by exact (Eq.trans eTt1 (if_pos h1)))
  · skip
    refine wi_iconst hC 1 (by decide) d_Rd_readPattern_21 ?_
    refine wi_goto hC 26 d_Rd_readPattern_22 (by decide) ?_
    exact Jt1 true (by exact (Eq.trans eTt1 (if_neg h1)))
theorem k_Rd_readPattern {p : Program} {l : Launch} {e : Env} {R : Room} {s : State} {m : MethodId} {args : Array Value} {below : List Frame} {meth : Method} {c : Code} {Q : State → Prop} {E : Ev} {nL pc index : Nat} {lv : List (Nat × Value)} {rest : List Value} {cc : ByteArray} {own : String} {σ τ : St} {q : Int64} {a1 : Int32} {a2 : Nat} (hC : Cx p s m args c cc nL own E)  (ha2 : isReal a2) (hp : vp_in a1 93) (hl : Cond.methodLink own index y_Rd_readPattern ∈ WL) (hR : 1 + 1 ≤ R.frames ∧ 8 + (4 + 11) + 25 ≤ R.locals) (hs8 : (rest.map fun v => v.category).sum ≤ 8) (d : decode cc pc = .ok (.invokevirtual index, 3)) (k : WS p l e R s m args below meth c Q E nL (pc + 3) lv rest ((f_Rd_readPattern σ a1 a2), τ, q)) : WS p l e R s m args below meth c Q E nL pc lv (.ref a2 :: .int a1 :: .ref 26 :: rest) (σ, τ, q) := by
  exact wi_callV hC (n := 2) (vs := [.int a1, .ref a2]) (rest := rest) 26 8 (by decide) rfl rfl rfl (c_Rd_readPattern l E σ τ q a1 a2 ha2 hp) (by decide +kernel) wd_198 wd_199 wd_200 wd_201 ⟨rfl, rfl⟩ rfl rfl hl hR hs8 d k
set_option maxRecDepth 100000 in
set_option maxHeartbeats 400000 in
theorem c_Rd_putNumber (l : Launch) (E : Ev) (σ τ : St) (q : Int64) (a1 : Bool) (a2 : Int64) (a3 : Int32) (a4 : Nat) (ha4 : isReal a4) : MF l y_Rd_putNumber prog_6_method_7_code 6 none { frames := 2, cells := 0, slots := 0, locals := 45 } E [.ref 26, .int (bI a1), .long a2, .int a3, .ref a4] (σ, τ, q) none ((f_Rd_putNumber σ a1 a2 a3 a4), τ, q) := by
  refine MF_intro (lv0 := [(0, .ref 26), (1, .int (bI a1)), (2, .long a2), (4, .int a3), (5, .ref a4)]) (by decide) wd_207 (Nat.le_of_ble_eq_true rfl) rfl ?_
  intro p e s m args below meth c Q hC hr hk hQ
  replace hC : Cx p s m args c prog_6_method_7_code 6 "PartnerStack$Reader" E := hC
  refine wi_lload_n hC 2 d_Rd_putNumber_0 rfl rfl ?_
  refine wi_lconst hC 0 (by decide) d_Rd_putNumber_1 ?_
  refine wi_lcmp_ne hC 13 d_Rd_putNumber_2 d_Rd_putNumber_3 (by decide) (fun h1 => ?_) (fun h1 => ?_)
  · skip
    refine wi_aload_n hC 0 d_Rd_putNumber_13 rfl rfl ?_
    refine wg_Rd_size hC wd_202 d_Rd_putNumber_14 ?_
    refine wi_lload_n hC 2 d_Rd_putNumber_17 rfl rfl ?_
    refine wi_iload hC 3 d_Rd_putNumber_18 rfl ?_
    refine k_Size_loadTimes hC (by unfold isSize; decide) wd_203 (by decide) (Nat.le_of_ble_eq_true rfl) d_Rd_putNumber_20 ?_
    refine wi_nmC (fun s1 e_s1 => ?_)
    refine wi_aload hC 4 d_Rd_putNumber_23 rfl ?_
    refine wi_iload_n hC 1 d_Rd_putNumber_25 rfl rfl ?_
    refine wi_aload_n hC 0 d_Rd_putNumber_26 rfl rfl ?_
    refine wg_Rd_size hC wd_202 d_Rd_putNumber_27 ?_
    refine k_Size_exponent hC (by unfold isSize; decide) wd_204 (by decide) (Nat.le_of_ble_eq_true rfl) d_Rd_putNumber_30 ?_
    refine wi_sipush hC 16383 (by decide) d_Rd_putNumber_33 ?_
    refine wi_iadd hC d_Rd_putNumber_36 ?_
    refine wi_aload_n hC 0 d_Rd_putNumber_37 rfl rfl ?_
    refine wg_Rd_size hC wd_202 d_Rd_putNumber_38 ?_
    refine wg_Size_high hC (by unfold isSize; decide) wd_205 d_Rd_putNumber_41 ?_
    refine k_Real_set hC a1 rfl ha4 wd_197 (by decide) (Nat.le_of_ble_eq_true rfl) d_Rd_putNumber_44 ?_
    refine wi_nmC (fun s2 e_s2 => ?_)
    have hf : f_Rd_putNumber σ a1 a2 a3 a4 = s2 := by subst e_s2; subst e_s1; exact (if_neg h1)
    exact wi_vret hC hr hk d_Rd_putNumber_47 rfl (congrArg (fun z => (z, τ, q)) hf).symm hQ
  · skip
    refine wi_aload hC 4 d_Rd_putNumber_6 rfl ?_
    refine wi_iload_n hC 1 d_Rd_putNumber_8 rfl rfl ?_
    refine k_Real_setZero hC a1 rfl ha4 wd_206 (by decide) (Nat.le_of_ble_eq_true rfl) d_Rd_putNumber_9 ?_
    refine wi_nmC (fun s3 e_s3 => ?_)
    have hf : f_Rd_putNumber σ a1 a2 a3 a4 = s3 := by subst e_s3; exact (if_pos h1)
    exact wi_vret hC hr hk d_Rd_putNumber_12 rfl (congrArg (fun z => (z, τ, q)) hf).symm hQ
theorem k_Rd_putNumber {p : Program} {l : Launch} {e : Env} {R : Room} {s : State} {m : MethodId} {args : Array Value} {below : List Frame} {meth : Method} {c : Code} {Q : State → Prop} {E : Ev} {nL pc index : Nat} {lv : List (Nat × Value)} {rest : List Value} {cc : ByteArray} {own : String} {σ τ : St} {q : Int64} {a2 : Int64} {a3 : Int32} {a4 : Nat} (hC : Cx p s m args c cc nL own E) {x_a1 : Int32} (a1 : Bool) (hx_a1 : x_a1 = bI a1) (ha4 : isReal a4) (hl : Cond.methodLink own index y_Rd_putNumber ∈ WL) (hR : 2 + 1 ≤ R.frames ∧ 8 + (6 + 11) + 45 ≤ R.locals) (hs8 : (rest.map fun v => v.category).sum ≤ 8) (d : decode cc pc = .ok (.invokevirtual index, 3)) (k : WS p l e R s m args below meth c Q E nL (pc + 3) lv rest ((f_Rd_putNumber σ a1 a2 a3 a4), τ, q)) : WS p l e R s m args below meth c Q E nL pc lv (.ref a4 :: .int a3 :: .long a2 :: .int x_a1 :: .ref 26 :: rest) (σ, τ, q) := by
  subst hx_a1
  exact wi_callV hC (n := 4) (vs := [.int (bI a1), .long a2, .int a3, .ref a4]) (rest := rest) 26 8 (by decide) rfl rfl rfl (c_Rd_putNumber l E σ τ q a1 a2 a3 a4 ha4) (by decide +kernel) wd_207 wd_199 wd_208 wd_209 ⟨rfl, rfl⟩ rfl rfl hl hR hs8 d k
set_option maxRecDepth 100000 in
set_option maxHeartbeats 400000 in
theorem c_Rd_readWhole (l : Launch) (E : Ev) (σ τ : St) (q : Int64) (a1 : Int64) (a2 : Nat) (ha2 : isReal a2) : MF l y_Rd_readWhole prog_6_method_4_code 4 none { frames := 3, cells := 0, slots := 0, locals := 70 } E [.ref 26, .long a1, .ref a2] (σ, τ, q) none ((f_Rd_readWhole σ a1 a2), τ, q) := by
  refine MF_intro (lv0 := [(0, .ref 26), (1, .long a1), (3, .ref a2)]) (by decide) wd_211 (Nat.le_of_ble_eq_true rfl) rfl ?_
  intro p e s m args below meth c Q hC hr hk hQ
  replace hC : Cx p s m args c prog_6_method_4_code 4 "PartnerStack$Reader" E := hC
  refine wi_aload_n hC 0 d_Rd_readWhole_0 rfl rfl ?_
  refine wi_lload_n hC 1 d_Rd_readWhole_1 rfl rfl ?_
  refine wi_lconst hC 0 (by decide) d_Rd_readWhole_2 ?_
  obtain ⟨Tt1, eTt1⟩ : ∃ y : Bool, y = (
          if 0 ≤ a1 then
            false
          else
            true) := ⟨_, rfl⟩
  have Jt1 : ∀ (t1 : Bool), Tt1 = t1 → WS p l e { frames := 3, cells := 0, slots := 0, locals := 70 } s m args below meth c Q E 4 12 [(0, .ref 26), (1, .long a1), (3, .ref a2)] [.int (bI t1), .ref 26] (σ, τ, q) := by
    intro t1  e_t1
    rw [eTt1] at e_t1
    refine wi_lload_n hC 1 d_Rd_readWhole_12 rfl rfl ?_
    refine wi_lconst hC 0 (by decide) d_Rd_readWhole_13 ?_
    obtain ⟨Tt2, eTt2⟩ : ∃ y : Int64, y = (
            if 0 ≤ a1 then
              a1
            else
              -a1) := ⟨_, rfl⟩
    have Jt2 : ∀ (t2 : Int64), Tt2 = t2 → WS p l e { frames := 3, cells := 0, slots := 0, locals := 70 } s m args below meth c Q E 4 24 [(0, .ref 26), (1, .long a1), (3, .ref a2)] [.long t2, .int (bI t1), .ref 26] (σ, τ, q) := by
      intro t2  e_t2
      rw [eTt2] at e_t2
      refine wi_iconst hC 0 (by decide) d_Rd_readWhole_24 ?_
      refine wi_aload_n hC 2 d_Rd_readWhole_25 rfl rfl ?_
      refine k_Rd_putNumber hC t1 rfl ha2 wd_210 (by decide) (Nat.le_of_ble_eq_true rfl) d_Rd_readWhole_26 ?_
      refine wi_nmC (fun s1 e_s1 => ?_)
      have hf : f_Rd_readWhole σ a1 a2 = s1 := by subst e_s1; subst e_t2; subst e_t1; exact rfl
      exact wi_vret hC hr hk d_Rd_readWhole_29 rfl (congrArg (fun z => (z, τ, q)) hf).symm hQ
    refine wi_lcmp_ge hC 23 d_Rd_readWhole_14 d_Rd_readWhole_15 (by decide) (fun h2 => ?_) (fun h2 => ?_)
    · skip
      refine wi_lload_n hC 1 d_Rd_readWhole_23 rfl rfl ?_
      exact Jt2 a1 (by exact (Eq.trans eTt2 (if_pos h2)))
    · skip
      refine wi_lload_n hC 1 d_Rd_readWhole_18 rfl rfl ?_
      refine wi_lneg hC d_Rd_readWhole_19 ?_
      refine wi_goto hC 24 d_Rd_readWhole_20 (by decide) ?_
      exact Jt2 (-a1) (by exact (Eq.trans eTt2 (if_neg h2)))
  refine wi_lcmp_ge hC 11 d_Rd_readWhole_3 d_Rd_readWhole_4 (by decide) (fun h1 => ?_) (fun h1 => ?_)
  · skip
    refine wi_iconst hC 0 (by decide) d_Rd_readWhole_11 ?_
    exact Jt1 false (by exact (Eq.trans eTt1 (if_pos h1)))
  · skip
    refine wi_iconst hC 1 (by decide) d_Rd_readWhole_7 ?_
    refine wi_goto hC 12 d_Rd_readWhole_8 (by decide) ?_
    exact Jt1 true (by exact (Eq.trans eTt1 (if_neg h1)))
theorem k_Rd_readWhole {p : Program} {l : Launch} {e : Env} {R : Room} {s : State} {m : MethodId} {args : Array Value} {below : List Frame} {meth : Method} {c : Code} {Q : State → Prop} {E : Ev} {nL pc index : Nat} {lv : List (Nat × Value)} {rest : List Value} {cc : ByteArray} {own : String} {σ τ : St} {q : Int64} {a1 : Int64} {a2 : Nat} (hC : Cx p s m args c cc nL own E)  (ha2 : isReal a2) (hl : Cond.methodLink own index y_Rd_readWhole ∈ WL) (hR : 3 + 1 ≤ R.frames ∧ 8 + (4 + 11) + 70 ≤ R.locals) (hs8 : (rest.map fun v => v.category).sum ≤ 8) (d : decode cc pc = .ok (.invokevirtual index, 3)) (k : WS p l e R s m args below meth c Q E nL (pc + 3) lv rest ((f_Rd_readWhole σ a1 a2), τ, q)) : WS p l e R s m args below meth c Q E nL pc lv (.ref a2 :: .long a1 :: .ref 26 :: rest) (σ, τ, q) := by
  exact wi_callV hC (n := 2) (vs := [.long a1, .ref a2]) (rest := rest) 26 8 (by decide) rfl rfl rfl (c_Rd_readWhole l E σ τ q a1 a2 ha2) (by decide +kernel) wd_211 wd_199 wd_212 wd_213 ⟨rfl, rfl⟩ rfl rfl hl hR hs8 d k
set_option maxRecDepth 100000 in
set_option maxHeartbeats 400000 in
theorem c_Rd_readFloating (l : Launch) (E : Ev) (σ τ : St) (q : Int64) (a1 : Int64) (a2 : Int32) (a3 : Nat) (ha3 : isReal a3) : MF l y_Rd_readFloating prog_6_method_6_code 13 none { frames := 3, cells := 0, slots := 0, locals := 70 } E [.ref 26, .long a1, .int a2, .ref a3] (σ, τ, q) none ((f_Rd_readFloating σ a1 a2 a3), τ, q) := by
  refine MF_intro (lv0 := [(0, .ref 26), (1, .long a1), (3, .int a2), (4, .ref a3)]) (by decide) wd_217 (Nat.le_of_ble_eq_true rfl) rfl ?_
  intro p e s m args below meth c Q hC hr hk hQ
  replace hC : Cx p s m args c prog_6_method_6_code 13 "PartnerStack$Reader" E := hC
  refine wi_lload_n hC 1 d_Rd_readFloating_0 rfl rfl ?_
  refine wi_lconst hC 0 (by decide) d_Rd_readFloating_1 ?_
  obtain ⟨Tt1, eTt1⟩ : ∃ y : Bool, y = (
          if 0 ≤ a1 then
            false
          else
            true) := ⟨_, rfl⟩
  have Jt1 : ∀ (t1 : Bool), Tt1 = t1 → WS p l e { frames := 3, cells := 0, slots := 0, locals := 70 } s m args below meth c Q E 13 11 [(0, .ref 26), (1, .long a1), (3, .int a2), (4, .ref a3)] [.int (bI t1)] (σ, τ, q) := by
    intro t1  e_t1
    rw [eTt1] at e_t1
    refine wi_istore hC [(5, .int (bI t1)), (0, .ref 26), (1, .long a1), (3, .int a2), (4, .ref a3)] d_Rd_readFloating_11 (by decide) rfl ?_
    refine wi_iconst hC 1 (by decide) d_Rd_readFloating_13 ?_
    refine wi_iload_n hC 3 d_Rd_readFloating_14 rfl rfl ?_
    refine wi_ishl hC d_Rd_readFloating_15 ?_
    refine wi_iconst hC 1 (by decide) d_Rd_readFloating_16 ?_
    refine wi_isub hC d_Rd_readFloating_17 ?_
    refine wi_nmI (fun v1 e_v1 => ?_)
    refine wi_istore hC [(6, .int v1), (5, .int (bI t1)), (0, .ref 26), (1, .long a1), (3, .int a2), (4, .ref a3)] d_Rd_readFloating_18 (by decide) rfl ?_
    refine wi_lload_n hC 3 d_Rd_readFloating_20 rfl rfl ?_
    refine wi_bipush hC 63 (by decide) d_Rd_readFloating_21 ?_
    refine wi_iload_n hC 4 d_Rd_readFloating_23 rfl rfl ?_
    refine wi_isub hC d_Rd_readFloating_24 ?_
    refine wi_lushr hC d_Rd_readFloating_25 ?_
    refine wi_l2i hC d_Rd_readFloating_26 ?_
    refine wi_iload hC 0 d_Rd_readFloating_27 rfl ?_
    refine wi_iand hC d_Rd_readFloating_29 ?_
    refine wi_nmI (fun v2 e_v2 => ?_)
    refine wi_istore hC [(7, .int v2), (6, .int v1), (5, .int (bI t1)), (0, .ref 26), (1, .long a1), (3, .int a2), (4, .ref a3)] d_Rd_readFloating_30 (by decide) rfl ?_
    refine wi_lload_n hC 4 d_Rd_readFloating_32 rfl rfl ?_
    refine wi_iload_n hC 5 d_Rd_readFloating_33 rfl rfl ?_
    refine wi_iconst hC 1 (by decide) d_Rd_readFloating_34 ?_
    refine wi_iadd hC d_Rd_readFloating_35 ?_
    refine wi_lshl hC d_Rd_readFloating_36 ?_
    refine wi_iconst hC 1 (by decide) d_Rd_readFloating_37 ?_
    refine wi_lushr hC d_Rd_readFloating_38 ?_
    refine wi_nmJ (fun v3 e_v3 => ?_)
    refine wi_lstore hC [(8, .long v3), (7, .int v2), (6, .int v1), (5, .int (bI t1)), (0, .ref 26), (1, .long a1), (3, .int a2), (4, .ref a3)] d_Rd_readFloating_39 (by decide) rfl ?_
    refine wi_iload hC 1 d_Rd_readFloating_41 rfl ?_
    refine wi_iload hC 2 d_Rd_readFloating_43 rfl ?_
    refine wi_icmp_ne hC 65 d_Rd_readFloating_45 (by decide) (fun h2 => ?_) (fun h2 => ?_)
    · skip
      refine wi_iload hC 1 d_Rd_readFloating_65 rfl ?_
      obtain ⟨Tt2, eTt2⟩ : ∃ y : Bool, y = (
              if v2 = 0 then
                true
              else
                false) := ⟨_, rfl⟩
      have Jt2 : ∀ (t2 : Bool), Tt2 = t2 → WS p l e { frames := 3, cells := 0, slots := 0, locals := 70 } s m args below meth c Q E 13 75 [(8, .long v3), (7, .int v2), (6, .int v1), (5, .int (bI t1)), (0, .ref 26), (1, .long a1), (3, .int a2), (4, .ref a3)] [.int (bI t2)] (σ, τ, q) := by
        intro t2  e_t2
        rw [eTt2] at e_t2
        refine wi_istore hC [(10, .int (bI t2)), (8, .long v3), (7, .int v2), (6, .int v1), (5, .int (bI t1)), (0, .ref 26), (1, .long a1), (3, .int a2), (4, .ref a3)] d_Rd_readFloating_75 (by decide) rfl ?_
        refine wi_iload hC 0 d_Rd_readFloating_77 rfl ?_
        obtain ⟨Tt3, eTt3⟩ : ∃ y : St, y = (
                if t2 = true then
                  if v3 = 0 then
                    σ
                  else
                    let s1 : St := f_Ctl_tell σ 2
                    s1
                else
                  σ) := ⟨_, rfl⟩
        have Jt3 : ∀ (t3 : St), Tt3 = t3 → WS p l e { frames := 3, cells := 0, slots := 0, locals := 70 } s m args below meth c Q E 13 97 [(10, .int (bI t2)), (8, .long v3), (7, .int v2), (6, .int v1), (5, .int (bI t1)), (0, .ref 26), (1, .long a1), (3, .int a2), (4, .ref a3)] [] (t3, τ, q) := by
          intro t3  e_t3
          rw [eTt3] at e_t3
          refine wi_iload hC 0 d_Rd_readFloating_97 rfl ?_
          obtain ⟨Tt4, eTt4⟩ : ∃ y : Int64, y = (
                  if t2 = true then
                    v3
                  else
                    (-9223372036854775808) ||| v3) := ⟨_, rfl⟩
          have Jt4 : ∀ (t4 : Int64), Tt4 = t4 → WS p l e { frames := 3, cells := 0, slots := 0, locals := 70 } s m args below meth c Q E 13 113 [(10, .int (bI t2)), (8, .long v3), (7, .int v2), (6, .int v1), (5, .int (bI t1)), (0, .ref 26), (1, .long a1), (3, .int a2), (4, .ref a3)] [.long t4] (t3, τ, q) := by
            intro t4  e_t4
            rw [eTt4] at e_t4
            refine wi_lstore hC [(11, .long t4), (10, .int (bI t2)), (8, .long v3), (7, .int v2), (6, .int v1), (5, .int (bI t1)), (0, .ref 26), (1, .long a1), (3, .int a2), (4, .ref a3)] d_Rd_readFloating_113 (by decide) rfl ?_
            refine wi_aload_n hC 6 d_Rd_readFloating_115 rfl rfl ?_
            refine wi_iload hC 5 d_Rd_readFloating_116 rfl ?_
            refine wi_lload hC 0 d_Rd_readFloating_118 rfl ?_
            refine wi_iload hC 1 d_Rd_readFloating_120 rfl ?_
            obtain ⟨Tt5, eTt5⟩ : ∃ y : Int32, y = (
                    if t2 = true then
                      1
                    else
                      v2) := ⟨_, rfl⟩
            have Jt5 : ∀ (t5 : Int32), Tt5 = t5 → WS p l e { frames := 3, cells := 0, slots := 0, locals := 70 } s m args below meth c Q E 13 131 [(11, .long t4), (10, .int (bI t2)), (8, .long v3), (7, .int v2), (6, .int v1), (5, .int (bI t1)), (0, .ref 26), (1, .long a1), (3, .int a2), (4, .ref a3)] [.int t5, .long t4, .int (bI t1), .ref 26] (t3, τ, q) := by
              intro t5  e_t5
              rw [eTt5] at e_t5
              refine wi_iload hC 4 d_Rd_readFloating_131 rfl ?_
              refine wi_iconst hC 1 (by decide) d_Rd_readFloating_133 ?_
              refine wi_ishr hC d_Rd_readFloating_134 ?_
              refine wi_isub hC d_Rd_readFloating_135 ?_
              refine wi_bipush hC 63 (by decide) d_Rd_readFloating_136 ?_
              refine wi_isub hC d_Rd_readFloating_138 ?_
              refine wi_aload hC 9 d_Rd_readFloating_139 rfl ?_
              refine k_Rd_putNumber hC t1 rfl ha3 wd_210 (by decide) (Nat.le_of_ble_eq_true rfl) d_Rd_readFloating_141 ?_
              refine wi_nmC (fun s2 e_s2 => ?_)
              have hf : f_Rd_readFloating σ a1 a2 a3 = s2 := by subst e_s2; subst e_t5; subst e_t4; subst e_t3; subst e_t2; subst e_v3; subst e_v2; subst e_v1; subst e_t1; exact (if_neg h2)
              exact wi_vret hC hr hk d_Rd_readFloating_144 rfl (congrArg (fun z => (z, τ, q)) hf).symm hQ
            refine wi_z_eq (b := t2) hC 129 d_Rd_readFloating_122 (by decide) (fun h7 => ?_) (fun h7 => ?_)
            · skip
              refine wi_iload hC 3 d_Rd_readFloating_129 rfl ?_
              exact Jt5 v2 (by exact (Eq.trans eTt5 (if_neg h7)))
            · skip
              refine wi_iconst hC 1 (by decide) d_Rd_readFloating_125 ?_
              refine wi_goto hC 131 d_Rd_readFloating_126 (by decide) ?_
              exact Jt5 1 (by exact (Eq.trans eTt5 (if_pos h7)))
          refine wi_z_eq (b := t2) hC 107 d_Rd_readFloating_99 (by decide) (fun h6 => ?_) (fun h6 => ?_)
          · skip
            refine wi_ldc2 hC wd_216 d_Rd_readFloating_107 ?_
            refine wi_lload hC 1 d_Rd_readFloating_110 rfl ?_
            refine wi_lor hC d_Rd_readFloating_112 ?_
            exact Jt4 ((-9223372036854775808) ||| v3) (by exact (Eq.trans eTt4 (if_neg h6)))
          · skip
            refine wi_lload hC 1 d_Rd_readFloating_102 rfl ?_
            refine wi_goto hC 113 d_Rd_readFloating_104 (by decide) ?_
            exact Jt4 v3 (by exact (Eq.trans eTt4 (if_pos h6)))
        refine wi_z_eq (b := t2) hC 97 d_Rd_readFloating_79 (by decide) (fun h4 => ?_) (fun h4 => ?_)
        · skip
          exact Jt3 σ (by exact (Eq.trans eTt3 (if_neg h4)))
        · skip
          refine wi_lload hC 1 d_Rd_readFloating_82 rfl ?_
          refine wi_lconst hC 0 (by decide) d_Rd_readFloating_84 ?_
          refine wi_lcmp_eq hC 97 d_Rd_readFloating_85 d_Rd_readFloating_86 (by decide) (fun h5 => ?_) (fun h5 => ?_)
          · skip
            exact Jt3 σ (by exact (Eq.trans eTt3 (Eq.trans (if_pos h4) (if_pos h5))))
          · skip
            refine wi_aload_n hC 5 d_Rd_readFloating_89 rfl rfl ?_
            refine wg_Rd_control hC wd_214 d_Rd_readFloating_90 ?_
            refine wi_iconst hC 2 (by decide) d_Rd_readFloating_93 ?_
            refine k_Ctl_tell hC  wd_215 (by decide) (Nat.le_of_ble_eq_true rfl) d_Rd_readFloating_94 ?_
            refine wi_nmC (fun s1 e_s1 => ?_)
            exact Jt3 s1 (by subst e_s1; exact (Eq.trans eTt3 (Eq.trans (if_pos h4) (if_neg h5))))
      refine wi_if_ne hC 74 d_Rd_readFloating_67 (by decide) (fun h3 => ?_) (fun h3 => ?_)
      · skip
        refine wi_iconst hC 0 (by decide) d_Rd_readFloating_74 ?_
        exact Jt2 false (by exact (Eq.trans eTt2 (if_neg h3)))
      · skip
        refine wi_iconst hC 1 (by decide) d_Rd_readFloating_70 ?_
        refine wi_goto hC 75 d_Rd_readFloating_71 (by decide) ?_
        exact Jt2 true (by exact (Eq.trans eTt2 (if_pos h3)))
    · skip
      refine wi_aload hC 7 d_Rd_readFloating_48 rfl ?_
      refine wi_iload hC 3 d_Rd_readFloating_50 rfl ?_
      refine wi_sipush hC 32767 (by decide) d_Rd_readFloating_52 ?_
      refine wi_ldc2 hC wd_216 d_Rd_readFloating_55 ?_
      refine wi_lload hC 0 d_Rd_readFloating_58 rfl ?_
      refine wi_lor hC d_Rd_readFloating_60 ?_
      refine k_Real_set hC t1 rfl ha3 wd_197 (by decide) (Nat.le_of_ble_eq_true rfl) d_Rd_readFloating_61 ?_
      refine wi_nmC (fun s3 e_s3 => ?_)
      have hf : f_Rd_readFloating σ a1 a2 a3 = s3 := by subst e_s3; subst e_v3; subst e_v2; subst e_v1; subst e_t1; exact (if_pos h2)
      exact wi_vret hC hr hk d_Rd_readFloating_64 rfl (congrArg (fun z => (z, τ, q)) hf).symm hQ
  refine wi_lcmp_ge hC 10 d_Rd_readFloating_2 d_Rd_readFloating_3 (by decide) (fun h1 => ?_) (fun h1 => ?_)
  · skip
    refine wi_iconst hC 0 (by decide) d_Rd_readFloating_10 ?_
    exact Jt1 false (by exact (Eq.trans eTt1 (if_pos h1)))
  · skip
    refine wi_iconst hC 1 (by decide) d_Rd_readFloating_6 ?_
    refine wi_goto hC 11 d_Rd_readFloating_7 (by decide) ?_
    exact Jt1 true (by exact (Eq.trans eTt1 (if_neg h1)))
theorem k_Rd_readFloating {p : Program} {l : Launch} {e : Env} {R : Room} {s : State} {m : MethodId} {args : Array Value} {below : List Frame} {meth : Method} {c : Code} {Q : State → Prop} {E : Ev} {nL pc index : Nat} {lv : List (Nat × Value)} {rest : List Value} {cc : ByteArray} {own : String} {σ τ : St} {q : Int64} {a1 : Int64} {a2 : Int32} {a3 : Nat} (hC : Cx p s m args c cc nL own E)  (ha3 : isReal a3) (hl : Cond.methodLink own index y_Rd_readFloating ∈ WL) (hR : 3 + 1 ≤ R.frames ∧ 8 + (13 + 11) + 70 ≤ R.locals) (hs8 : (rest.map fun v => v.category).sum ≤ 8) (d : decode cc pc = .ok (.invokevirtual index, 3)) (k : WS p l e R s m args below meth c Q E nL (pc + 3) lv rest ((f_Rd_readFloating σ a1 a2 a3), τ, q)) : WS p l e R s m args below meth c Q E nL pc lv (.ref a3 :: .int a2 :: .long a1 :: .ref 26 :: rest) (σ, τ, q) := by
  exact wi_callV hC (n := 3) (vs := [.long a1, .int a2, .ref a3]) (rest := rest) 26 8 (by decide) rfl rfl rfl (c_Rd_readFloating l E σ τ q a1 a2 a3 ha3) (by decide +kernel) wd_217 wd_199 wd_218 wd_219 ⟨rfl, rfl⟩ rfl rfl hl hR hs8 d k
set_option maxRecDepth 100000 in
set_option maxHeartbeats 400000 in
theorem c_Rd_readDecimals (l : Launch) (E : Ev) (σ τ : St) (q : Int64) (a1 : Nat) (ha1 : isReal a1) : MF l y_Rd_readDecimals prog_6_method_5_code 5 none { frames := 3, cells := 0, slots := 0, locals := 70 } E [.ref 26, .ref a1] (σ, τ, q) none ((f_Rd_readDecimals σ a1), τ, q) := by
  refine MF_intro (lv0 := [(0, .ref 26), (1, .ref a1)]) (by decide) wd_223 (Nat.le_of_ble_eq_true rfl) rfl ?_
  intro p e s m args below meth c Q hC hr hk hQ
  replace hC : Cx p s m args c prog_6_method_5_code 5 "PartnerStack$Reader" E := hC
  refine wi_lconst hC 0 (by decide) d_Rd_readDecimals_0 ?_
  refine wi_lstore_n hC [(2, .long 0), (0, .ref 26), (1, .ref a1)] d_Rd_readDecimals_1 rfl (by decide) rfl ?_
  refine wi_bipush hC 17 (by decide) d_Rd_readDecimals_2 ?_
  refine wi_istore hC [(4, .int 17), (2, .long 0), (0, .ref 26), (1, .ref a1)] d_Rd_readDecimals_4 (by decide) rfl ?_
  refine wi_loop ((b_Rd_readDecimals_6 σ)) (fun t2 => (t2.1).toInt ≤ 17) (fun t2 => [(4, .int t2.1), (2, .long t2.2), (0, .ref 26), (1, .ref a1)]) (fun t2 => (σ, τ, q)) 47 ?_ (dn_inv (b := (b_Rd_readDecimals_6 σ)) (fun t => t.1) 17 (st_b_Rd_readDecimals_6 σ)) (dnf 17) (17, 0) (show (17 : Int32).toInt ≤ 17 by decide) (dn_halt (b := (b_Rd_readDecimals_6 σ)) (fun t => t.1) (st_b_Rd_readDecimals_6 σ) (17, 0)) ?_
  · intro t2 hi_t2 hc_t2 hx_t2
    refine wi_iload hC 0 d_Rd_readDecimals_6 rfl ?_
    refine wi_if_lt hC 47 d_Rd_readDecimals_8 (by decide) (fun h1 => ?_) (fun h1 => ?_)
    · skip
      exact hx_t2 (t2.1, t2.2) (by exact (if_pos h1))
    · skip
      refine wi_lload_n hC 1 d_Rd_readDecimals_11 rfl rfl ?_
      refine wi_ldc2 hC wd_220 d_Rd_readDecimals_12 ?_
      refine wi_lmul hC d_Rd_readDecimals_15 ?_
      refine wi_aload_n hC 2 d_Rd_readDecimals_16 rfl rfl ?_
      refine wg_Rd_row hC wd_194 d_Rd_readDecimals_17 ?_
      refine wi_iload hC 0 d_Rd_readDecimals_20 rfl ?_
      refine wi_iconst hC 1 (by decide) d_Rd_readDecimals_22 ?_
      refine wi_ishr hC d_Rd_readDecimals_23 ?_
      refine wi_iconst hC 1 (by decide) d_Rd_readDecimals_24 ?_
      refine k_Mem_bits hC (shr1_gt _) wd_195 (by decide) (Nat.le_of_ble_eq_true rfl) d_Rd_readDecimals_25 ?_
      refine wi_iconst hC 4 (by decide) d_Rd_readDecimals_28 ?_
      refine wi_iload hC 0 d_Rd_readDecimals_29 rfl ?_
      refine wi_iconst hC 1 (by decide) d_Rd_readDecimals_31 ?_
      refine wi_iand hC d_Rd_readDecimals_32 ?_
      refine wi_imul hC d_Rd_readDecimals_33 ?_
      refine wi_lshr hC d_Rd_readDecimals_34 ?_
      refine wi_ldc2 hC wd_221 d_Rd_readDecimals_35 ?_
      refine wi_land hC d_Rd_readDecimals_38 ?_
      refine wi_ladd hC d_Rd_readDecimals_39 ?_
      refine wi_nmJ (fun v1 e_v1 => ?_)
      refine wi_lstore_n hC [(2, .long v1), (4, .int t2.1), (0, .ref 26), (1, .ref a1)] d_Rd_readDecimals_40 rfl (by decide) rfl ?_
      obtain ⟨v2, e_v2⟩ : ∃ y : Int32, t2.1 + (-1) = y := ⟨_, rfl⟩
      refine wi_iinc hC 1 v2 [(4, .int v2), (2, .long v1), (0, .ref 26), (1, .ref a1)] d_Rd_readDecimals_41 rfl (by rw [← e_v2]; rfl) (by decide) rfl ?_
      refine wi_goto hC 6 d_Rd_readDecimals_44 (by decide) ?_
      exact hc_t2 (v2, v1) (by subst e_v2; subst e_v1; exact (if_neg h1))
  obtain ⟨t1, e_t1⟩ : ∃ y : Int32 × Int64, lpn ((b_Rd_readDecimals_6 σ)) (dnf 17) (17, 0) = y := ⟨_, rfl⟩
  rw [e_t1]
  refine wi_aload_n hC 2 d_Rd_readDecimals_47 rfl rfl ?_
  refine wi_aload_n hC 2 d_Rd_readDecimals_48 rfl rfl ?_
  refine wg_Rd_row hC wd_194 d_Rd_readDecimals_49 ?_
  refine wi_bipush hC 9 (by decide) d_Rd_readDecimals_52 ?_
  refine wi_iconst hC 1 (by decide) d_Rd_readDecimals_54 ?_
  refine k_Mem_bits hC (by decide) wd_195 (by decide) (Nat.le_of_ble_eq_true rfl) d_Rd_readDecimals_55 ?_
  refine wi_ldc2 hC wd_222 d_Rd_readDecimals_58 ?_
  obtain ⟨Tt3, eTt3⟩ : ∃ y : Bool, y = (
          if (f_Mem_bits σ 9 1) < 128 then
            false
          else
            true) := ⟨_, rfl⟩
  have Jt3 : ∀ (t3 : Bool), Tt3 = t3 → WS p l e { frames := 3, cells := 0, slots := 0, locals := 70 } s m args below meth c Q E 5 70 [(4, .int t1.1), (2, .long t1.2), (0, .ref 26), (1, .ref a1)] [.int (bI t3), .ref 26] (σ, τ, q) := by
    intro t3  e_t3
    rw [eTt3] at e_t3
    refine wi_lload_n hC 1 d_Rd_readDecimals_70 rfl rfl ?_
    refine wi_iconst hC 0 (by decide) d_Rd_readDecimals_71 ?_
    refine wi_aload_n hC 3 d_Rd_readDecimals_72 rfl rfl ?_
    refine k_Rd_putNumber hC t3 rfl ha1 wd_210 (by decide) (Nat.le_of_ble_eq_true rfl) d_Rd_readDecimals_73 ?_
    refine wi_nmC (fun s1 e_s1 => ?_)
    have hf : f_Rd_readDecimals σ a1 = s1 := by subst e_s1; subst e_t3; subst e_t1; exact rfl
    exact wi_vret hC hr hk d_Rd_readDecimals_76 rfl (congrArg (fun z => (z, τ, q)) hf).symm hQ
  refine wi_lcmp_lt hC 69 d_Rd_readDecimals_61 d_Rd_readDecimals_62 (by decide) (fun h2 => ?_) (fun h2 => ?_)
  · skip
    refine wi_iconst hC 0 (by decide) d_Rd_readDecimals_69 ?_
    exact Jt3 false (by exact (Eq.trans eTt3 (if_pos h2)))
  · skip
    refine wi_iconst hC 1 (by decide) d_Rd_readDecimals_65 ?_
    refine wi_goto hC 70 d_Rd_readDecimals_66 (by decide) ?_
    exact Jt3 true (by exact (Eq.trans eTt3 (if_neg h2)))
theorem k_Rd_readDecimals {p : Program} {l : Launch} {e : Env} {R : Room} {s : State} {m : MethodId} {args : Array Value} {below : List Frame} {meth : Method} {c : Code} {Q : State → Prop} {E : Ev} {nL pc index : Nat} {lv : List (Nat × Value)} {rest : List Value} {cc : ByteArray} {own : String} {σ τ : St} {q : Int64} {a1 : Nat} (hC : Cx p s m args c cc nL own E)  (ha1 : isReal a1) (hl : Cond.methodLink own index y_Rd_readDecimals ∈ WL) (hR : 3 + 1 ≤ R.frames ∧ 8 + (5 + 11) + 70 ≤ R.locals) (hs8 : (rest.map fun v => v.category).sum ≤ 8) (d : decode cc pc = .ok (.invokevirtual index, 3)) (k : WS p l e R s m args below meth c Q E nL (pc + 3) lv rest ((f_Rd_readDecimals σ a1), τ, q)) : WS p l e R s m args below meth c Q E nL pc lv (.ref a1 :: .ref 26 :: rest) (σ, τ, q) := by
  exact wi_callV hC (n := 1) (vs := [.ref a1]) (rest := rest) 26 8 (by decide) rfl rfl rfl (c_Rd_readDecimals l E σ τ q a1 ha1) (by decide +kernel) wd_223 wd_199 wd_224 wd_225 ⟨rfl, rfl⟩ rfl rfl hl hR hs8 d k
set_option maxRecDepth 100000 in
set_option maxHeartbeats 400000 in
theorem c_Rd_read (l : Launch) (E : Ev) (σ τ : St) (q : Int64) (a1 : Int32) (a2 : Nat) (ha2 : isReal a2) : MF l y_Rd_read prog_6_method_2_code 3 none { frames := 4, cells := 0, slots := 0, locals := 102 } E [.ref 26, .int a1, .ref a2] (σ, τ, q) none ((f_Rd_read σ a1 a2), τ, q) := by
  refine MF_intro (lv0 := [(0, .ref 26), (1, .int a1), (2, .ref a2)]) (by decide) wd_230 (Nat.le_of_ble_eq_true rfl) rfl ?_
  intro p e s m args below meth c Q hC hr hk hQ
  replace hC : Cx p s m args c prog_6_method_2_code 3 "PartnerStack$Reader" E := hC
  refine wi_iload_n hC 1 d_Rd_read_0 rfl rfl ?_
  obtain ⟨Tt1, eTt1⟩ : ∃ y : St, y = (
          if a1 = 0 then
            let s1 : St := f_Rd_readWhole σ (Int32.toInt64 (js (Int64.toInt32 (f_Mem_bits σ 0 2)))) a2
            s1
          else
            if a1 = 1 then
              let s2 : St := f_Rd_readWhole σ (Int32.toInt64 (Int64.toInt32 (f_Mem_bits σ 0 4))) a2
              s2
            else
              if a1 = 2 then
                let s3 : St := f_Rd_readWhole σ (f_Mem_bits σ 0 8) a2
                s3
              else
                if a1 = 3 then
                  let s4 : St := f_Rd_readFloating σ (jlshl (f_Mem_bits σ 0 4) 32) 8 a2
                  s4
                else
                  if a1 = 4 then
                    let s5 : St := f_Rd_readFloating σ (f_Mem_bits σ 0 8) 11 a2
                    s5
                  else
                    if a1 = 5 then
                      let s6 : St := f_Rd_readDecimals σ a2
                      s6
                    else
                      let s7 : St := f_Rd_readPattern σ 0 a2
                      s7) := ⟨_, rfl⟩
  have Jt1 : ∀ (t1 : St), Tt1 = t1 → WS p l e { frames := 4, cells := 0, slots := 0, locals := 102 } s m args below meth c Q E 3 153 [(0, .ref 26), (1, .int a1), (2, .ref a2)] [] (t1, τ, q) := by
    intro t1  e_t1
    rw [eTt1] at e_t1
    have hf : f_Rd_read σ a1 a2 = t1 := by subst e_t1; exact rfl
    exact wi_vret hC hr hk d_Rd_read_153 rfl (congrArg (fun z => (z, τ, q)) hf).symm hQ
  refine wi_by (a1 = 0) (fun h1 => ?_) (fun h1 => ?_)
  · skip
    refine wi_tsIn hC 0 40 d_Rd_read_1 (by rw [h1]; decide) (by decide) rfl (by decide) ?_
    refine wi_aload_n hC 0 d_Rd_read_40 rfl rfl ?_
    refine wi_aload_n hC 0 d_Rd_read_41 rfl rfl ?_
    refine wg_Rd_row hC wd_194 d_Rd_read_42 ?_
    refine wi_iconst hC 0 (by decide) d_Rd_read_45 ?_
    refine wi_iconst hC 2 (by decide) d_Rd_read_46 ?_
    refine k_Mem_bits hC (by decide) wd_195 (by decide) (Nat.le_of_ble_eq_true rfl) d_Rd_read_47 ?_
    refine wi_l2i hC d_Rd_read_50 ?_
    refine wi_i2s hC d_Rd_read_51 ?_
    refine wi_i2l hC d_Rd_read_52 ?_
    refine wi_aload_n hC 2 d_Rd_read_53 rfl rfl ?_
    refine k_Rd_readWhole hC ha2 wd_226 (by decide) (Nat.le_of_ble_eq_true rfl) d_Rd_read_54 ?_
    refine wi_nmC (fun s1 e_s1 => ?_)
    refine wi_goto hC 153 d_Rd_read_57 (by decide) ?_
    exact Jt1 s1 (by subst e_s1; exact (Eq.trans eTt1 (if_pos h1)))
  · skip
    refine wi_by (a1 = 1) (fun h2 => ?_) (fun h2 => ?_)
    · skip
      refine wi_tsIn hC 1 60 d_Rd_read_1 (by rw [h2]; decide) (by decide) rfl (by decide) ?_
      refine wi_aload_n hC 0 d_Rd_read_60 rfl rfl ?_
      refine wi_aload_n hC 0 d_Rd_read_61 rfl rfl ?_
      refine wg_Rd_row hC wd_194 d_Rd_read_62 ?_
      refine wi_iconst hC 0 (by decide) d_Rd_read_65 ?_
      refine wi_iconst hC 4 (by decide) d_Rd_read_66 ?_
      refine k_Mem_bits hC (by decide) wd_195 (by decide) (Nat.le_of_ble_eq_true rfl) d_Rd_read_67 ?_
      refine wi_l2i hC d_Rd_read_70 ?_
      refine wi_i2l hC d_Rd_read_71 ?_
      refine wi_aload_n hC 2 d_Rd_read_72 rfl rfl ?_
      refine k_Rd_readWhole hC ha2 wd_226 (by decide) (Nat.le_of_ble_eq_true rfl) d_Rd_read_73 ?_
      refine wi_nmC (fun s2 e_s2 => ?_)
      refine wi_goto hC 153 d_Rd_read_76 (by decide) ?_
      exact Jt1 s2 (by subst e_s2; exact (Eq.trans eTt1 (Eq.trans (if_neg h1) (if_pos h2))))
    · skip
      refine wi_by (a1 = 2) (fun h3 => ?_) (fun h3 => ?_)
      · skip
        refine wi_tsIn hC 2 79 d_Rd_read_1 (by rw [h3]; decide) (by decide) rfl (by decide) ?_
        refine wi_aload_n hC 0 d_Rd_read_79 rfl rfl ?_
        refine wi_aload_n hC 0 d_Rd_read_80 rfl rfl ?_
        refine wg_Rd_row hC wd_194 d_Rd_read_81 ?_
        refine wi_iconst hC 0 (by decide) d_Rd_read_84 ?_
        refine wi_bipush hC 8 (by decide) d_Rd_read_85 ?_
        refine k_Mem_bits hC (by decide) wd_195 (by decide) (Nat.le_of_ble_eq_true rfl) d_Rd_read_87 ?_
        refine wi_aload_n hC 2 d_Rd_read_90 rfl rfl ?_
        refine k_Rd_readWhole hC ha2 wd_226 (by decide) (Nat.le_of_ble_eq_true rfl) d_Rd_read_91 ?_
        refine wi_nmC (fun s3 e_s3 => ?_)
        refine wi_goto hC 153 d_Rd_read_94 (by decide) ?_
        exact Jt1 s3 (by subst e_s3; exact (Eq.trans eTt1 (Eq.trans (if_neg h1) (Eq.trans (if_neg h2) (if_pos h3)))))
      · skip
        refine wi_by (a1 = 3) (fun h4 => ?_) (fun h4 => ?_)
        · skip
          refine wi_tsIn hC 3 97 d_Rd_read_1 (by rw [h4]; decide) (by decide) rfl (by decide) ?_
          refine wi_aload_n hC 0 d_Rd_read_97 rfl rfl ?_
          refine wi_aload_n hC 0 d_Rd_read_98 rfl rfl ?_
          refine wg_Rd_row hC wd_194 d_Rd_read_99 ?_
          refine wi_iconst hC 0 (by decide) d_Rd_read_102 ?_
          refine wi_iconst hC 4 (by decide) d_Rd_read_103 ?_
          refine k_Mem_bits hC (by decide) wd_195 (by decide) (Nat.le_of_ble_eq_true rfl) d_Rd_read_104 ?_
          refine wi_bipush hC 32 (by decide) d_Rd_read_107 ?_
          refine wi_lshl hC d_Rd_read_109 ?_
          refine wi_bipush hC 8 (by decide) d_Rd_read_110 ?_
          refine wi_aload_n hC 2 d_Rd_read_112 rfl rfl ?_
          refine k_Rd_readFloating hC ha2 wd_227 (by decide) (Nat.le_of_ble_eq_true rfl) d_Rd_read_113 ?_
          refine wi_nmC (fun s4 e_s4 => ?_)
          refine wi_goto hC 153 d_Rd_read_116 (by decide) ?_
          exact Jt1 s4 (by subst e_s4; exact (Eq.trans eTt1 (Eq.trans (if_neg h1) (Eq.trans (if_neg h2) (Eq.trans (if_neg h3) (if_pos h4))))))
        · skip
          refine wi_by (a1 = 4) (fun h5 => ?_) (fun h5 => ?_)
          · skip
            refine wi_tsIn hC 4 119 d_Rd_read_1 (by rw [h5]; decide) (by decide) rfl (by decide) ?_
            refine wi_aload_n hC 0 d_Rd_read_119 rfl rfl ?_
            refine wi_aload_n hC 0 d_Rd_read_120 rfl rfl ?_
            refine wg_Rd_row hC wd_194 d_Rd_read_121 ?_
            refine wi_iconst hC 0 (by decide) d_Rd_read_124 ?_
            refine wi_bipush hC 8 (by decide) d_Rd_read_125 ?_
            refine k_Mem_bits hC (by decide) wd_195 (by decide) (Nat.le_of_ble_eq_true rfl) d_Rd_read_127 ?_
            refine wi_bipush hC 11 (by decide) d_Rd_read_130 ?_
            refine wi_aload_n hC 2 d_Rd_read_132 rfl rfl ?_
            refine k_Rd_readFloating hC ha2 wd_227 (by decide) (Nat.le_of_ble_eq_true rfl) d_Rd_read_133 ?_
            refine wi_nmC (fun s5 e_s5 => ?_)
            refine wi_goto hC 153 d_Rd_read_136 (by decide) ?_
            exact Jt1 s5 (by subst e_s5; exact (Eq.trans eTt1 (Eq.trans (if_neg h1) (Eq.trans (if_neg h2) (Eq.trans (if_neg h3) (Eq.trans (if_neg h4) (if_pos h5)))))))
          · skip
            refine wi_by (a1 = 5) (fun h6 => ?_) (fun h6 => ?_)
            · skip
              refine wi_tsIn hC 5 139 d_Rd_read_1 (by rw [h6]; decide) (by decide) rfl (by decide) ?_
              refine wi_aload_n hC 0 d_Rd_read_139 rfl rfl ?_
              refine wi_aload_n hC 2 d_Rd_read_140 rfl rfl ?_
              refine k_Rd_readDecimals hC ha2 wd_228 (by decide) (Nat.le_of_ble_eq_true rfl) d_Rd_read_141 ?_
              refine wi_nmC (fun s6 e_s6 => ?_)
              refine wi_goto hC 153 d_Rd_read_144 (by decide) ?_
              exact Jt1 s6 (by subst e_s6; exact (Eq.trans eTt1 (Eq.trans (if_neg h1) (Eq.trans (if_neg h2) (Eq.trans (if_neg h3) (Eq.trans (if_neg h4) (Eq.trans (if_neg h5) (if_pos h6))))))))
            · skip
              refine wi_tsOut hC 147 d_Rd_read_1 (by have q0 := lv_neT h1 (a := 0) (by decide); have q1 := lv_neT h2 (a := 1) (by decide); have q2 := lv_neT h3 (a := 2) (by decide); have q3 := lv_neT h4 (a := 3) (by decide); have q4 := lv_neT h5 (a := 4) (by decide); have q5 := lv_neT h6 (a := 5) (by decide); omega) (by decide) ?_
              refine wi_aload_n hC 0 d_Rd_read_147 rfl rfl ?_
              refine wi_iconst hC 0 (by decide) d_Rd_read_148 ?_
              refine wi_aload_n hC 2 d_Rd_read_149 rfl rfl ?_
              refine k_Rd_readPattern hC ha2 (by unfold vp_in; decide) wd_229 (by decide) (Nat.le_of_ble_eq_true rfl) d_Rd_read_150 ?_
              refine wi_nmC (fun s7 e_s7 => ?_)
              exact Jt1 s7 (by subst e_s7; exact (Eq.trans eTt1 (Eq.trans (if_neg h1) (Eq.trans (if_neg h2) (Eq.trans (if_neg h3) (Eq.trans (if_neg h4) (Eq.trans (if_neg h5) (if_neg h6))))))))
theorem k_Rd_read {p : Program} {l : Launch} {e : Env} {R : Room} {s : State} {m : MethodId} {args : Array Value} {below : List Frame} {meth : Method} {c : Code} {Q : State → Prop} {E : Ev} {nL pc index : Nat} {lv : List (Nat × Value)} {rest : List Value} {cc : ByteArray} {own : String} {σ τ : St} {q : Int64} {a1 : Int32} {a2 : Nat} (hC : Cx p s m args c cc nL own E)  (ha2 : isReal a2) (hl : Cond.methodLink own index y_Rd_read ∈ WL) (hR : 4 + 1 ≤ R.frames ∧ 8 + (3 + 11) + 102 ≤ R.locals) (hs8 : (rest.map fun v => v.category).sum ≤ 8) (d : decode cc pc = .ok (.invokevirtual index, 3)) (k : WS p l e R s m args below meth c Q E nL (pc + 3) lv rest ((f_Rd_read σ a1 a2), τ, q)) : WS p l e R s m args below meth c Q E nL pc lv (.ref a2 :: .int a1 :: .ref 26 :: rest) (σ, τ, q) := by
  exact wi_callV hC (n := 2) (vs := [.int a1, .ref a2]) (rest := rest) 26 8 (by decide) rfl rfl rfl (c_Rd_read l E σ τ q a1 a2 ha2) (by decide +kernel) wd_230 wd_199 wd_231 wd_232 ⟨rfl, rfl⟩ rfl rfl hl hR hs8 d k
