set_option maxRecDepth 100000 in
set_option maxHeartbeats 400000 in
theorem c_M_begin (l : Launch) (E : Ev) (σ τ : St) (q : Int64)   : MF l y_M_begin prog_12_method_3_code 2 none { frames := 0, cells := 0, slots := 0, locals := 0 } E [.ref 30] (σ, τ, q) none (σ, (f_M_begin τ), q) := by
  refine MF_intro (lv0 := [(0, .ref 30)]) (by decide) wd_951 (Nat.le_of_ble_eq_true rfl) rfl ?_
  intro p e s m args below meth c Q hC hr hk hQ
  replace hC : Cx p s m args c prog_12_method_3_code 2 "PartnerStackModel" E := hC
  refine wi_aload_n hC 0 d_M_begin_0 rfl rfl ?_
  refine wi_sipush hC 1023 (by decide) d_M_begin_1 ?_
  refine wp_M_control hC wd_943 d_M_begin_4 ?_
  refine wi_nmM (fun s1 e_s1 => ?_)
  refine wi_aload_n hC 0 d_M_begin_7 rfl rfl ?_
  refine wi_iconst hC 0 (by decide) d_M_begin_8 ?_
  refine wp_M_told hC wd_944 d_M_begin_9 ?_
  refine wi_nmM (fun s2 e_s2 => ?_)
  refine wi_aload_n hC 0 d_M_begin_12 rfl rfl ?_
  refine wi_iconst hC 0 (by decide) d_M_begin_13 ?_
  refine wp_M_conditions hC wd_945 d_M_begin_14 ?_
  refine wi_nmM (fun s3 e_s3 => ?_)
  refine wi_aload_n hC 0 d_M_begin_17 rfl rfl ?_
  refine wi_iconst hC 0 (by decide) d_M_begin_18 ?_
  refine wp_M_first hC (by unfold vp_in; decide) wd_946 d_M_begin_19 ?_
  refine wi_nmM (fun s4 e_s4 => ?_)
  refine wi_iconst hC 0 (by decide) d_M_begin_22 ?_
  refine wi_istore_n hC [(1, .int 0), (0, .ref 30)] d_M_begin_23 rfl (by decide) rfl ?_
  refine wi_loop ((b_M_begin_24)) (fun t2 => 0 ≤ (t2.1).toInt) (fun t2 => [(1, .int t2.1), (0, .ref 30)]) (fun t2 => (σ, t2.2, q)) 43 ?_ (up_inv (b := (b_M_begin_24)) (fun t => t.1) 8 0 st_b_M_begin_24) (upf 8 0) (0, s4) (show (0 : Int) ≤ (0 : Int32).toInt by decide) (up_halt (b := (b_M_begin_24)) (fun t => t.1) 8 st_b_M_begin_24 (0, s4)) ?_
  · intro t2 hi_t2 hc_t2 hx_t2
    refine wi_iload_n hC 0 d_M_begin_24 rfl rfl ?_
    refine wi_bipush hC 8 (by decide) d_M_begin_25 ?_
    refine wi_icmp_ge hC 43 d_M_begin_27 (by decide) (fun h1 => ?_) (fun h1 => ?_)
    · skip
      exact hx_t2 (t2.1, t2.2) (by exact (if_pos h1))
    · skip
      refine wi_aload_n hC 1 d_M_begin_30 rfl rfl ?_
      refine wg_M_empty hC wd_947 d_M_begin_31 ?_
      refine wi_iload_n hC 0 d_M_begin_34 rfl rfl ?_
      refine wi_iconst hC 1 (by decide) d_M_begin_35 ?_
      refine wa_st34 hC true rfl (vin_of hi_t2 (hi_n h1 (by decide))) d_M_begin_36 ?_
      refine wi_nmM (fun s5 e_s5 => ?_)
      obtain ⟨v1, e_v1⟩ : ∃ y : Int32, t2.1 + 1 = y := ⟨_, rfl⟩
      refine wi_iinc hC 0 v1 [(1, .int v1), (0, .ref 30)] d_M_begin_37 rfl (by rw [← e_v1]; rfl) (by decide) rfl ?_
      refine wi_goto hC 24 d_M_begin_40 (by decide) ?_
      exact hc_t2 (v1, s5) (by subst e_v1; subst e_s5; exact (if_neg h1))
  obtain ⟨t1, e_t1⟩ : ∃ y : Int32 × St, lpn ((b_M_begin_24)) (upf 8 0) (0, s4) = y := ⟨_, rfl⟩
  rw [e_t1]
  refine wi_aload_n hC 1 d_M_begin_43 rfl rfl ?_
  refine wi_iconst hC 0 (by decide) d_M_begin_44 ?_
  refine wp_M_codeOf hC wd_948 d_M_begin_45 ?_
  refine wi_nmM (fun s6 e_s6 => ?_)
  refine wi_aload_n hC 1 d_M_begin_48 rfl rfl ?_
  refine wi_iconst hC 0 (by decide) d_M_begin_49 ?_
  refine wp_M_codePlace hC wd_949 d_M_begin_50 ?_
  refine wi_nmM (fun s7 e_s7 => ?_)
  refine wi_aload_n hC 1 d_M_begin_53 rfl rfl ?_
  refine wi_iconst hC 0 (by decide) d_M_begin_54 ?_
  refine wp_M_operandPlace hC wd_950 d_M_begin_55 ?_
  refine wi_nmM (fun s8 e_s8 => ?_)
  have hf : f_M_begin τ = s8 := by subst e_s8; subst e_s7; subst e_s6; subst e_t1; subst e_s4; subst e_s3; subst e_s2; subst e_s1; exact rfl
  exact wi_vret hC hr hk d_M_begin_58 rfl (congrArg (fun z => (σ, z, q)) hf).symm hQ
theorem k_M_begin {p : Program} {l : Launch} {e : Env} {R : Room} {s : State} {m : MethodId} {args : Array Value} {below : List Frame} {meth : Method} {c : Code} {Q : State → Prop} {E : Ev} {nL pc index : Nat} {lv : List (Nat × Value)} {rest : List Value} {cc : ByteArray} {own : String} {σ τ : St} {q : Int64}  (hC : Cx p s m args c cc nL own E)   (hl : Cond.methodLink own index y_M_begin ∈ WL) (hR : 0 + 1 ≤ R.frames ∧ 8 + (2 + 11) + 0 ≤ R.locals) (hs8 : (rest.map fun v => v.category).sum ≤ 8) (d : decode cc pc = .ok (.invokevirtual index, 3)) (k : WS p l e R s m args below meth c Q E nL (pc + 3) lv rest (σ, (f_M_begin τ), q)) : WS p l e R s m args below meth c Q E nL pc lv (.ref 30 :: rest) (σ, τ, q) := by
  exact wi_callV hC (n := 0) (vs := []) (rest := rest) 30 10 (by decide) rfl rfl rfl (c_M_begin l E σ τ q  ) (by decide +kernel) wd_951 wd_952 wd_953 wd_954 ⟨rfl, rfl⟩ rfl rfl hl hR hs8 d k
set_option maxRecDepth 100000 in
set_option maxHeartbeats 400000 in
theorem c_M_thrown (l : Launch) (E : Ev) (σ τ : St) (q : Int64)   : MF l y_M_thrown prog_12_method_2_code 1 (some .int) { frames := 0, cells := 0, slots := 0, locals := 0 } E [.ref 30] (σ, τ, q) (some (.int (f_M_thrown τ))) (σ, τ, q) := by
  refine MF_intro (lv0 := [(0, .ref 30)]) (by decide) wd_956 (Nat.le_of_ble_eq_true rfl) rfl ?_
  intro p e s m args below meth c Q hC hr hk hQ
  replace hC : Cx p s m args c prog_12_method_2_code 1 "PartnerStackModel" E := hC
  refine wi_aload_n hC 0 d_M_thrown_0 rfl rfl ?_
  refine wg_M_code hC wd_955 d_M_thrown_1 ?_
  have hf : f_M_thrown τ = gI τ 0 30 := by exact rfl
  exact wi_iret hC hr hk d_M_thrown_4 (congrArg (fun z => some (Value.int z)) hf) rfl hQ
theorem k_M_thrown {p : Program} {l : Launch} {e : Env} {R : Room} {s : State} {m : MethodId} {args : Array Value} {below : List Frame} {meth : Method} {c : Code} {Q : State → Prop} {E : Ev} {nL pc index : Nat} {lv : List (Nat × Value)} {rest : List Value} {cc : ByteArray} {own : String} {σ τ : St} {q : Int64}  (hC : Cx p s m args c cc nL own E)   (hl : Cond.methodLink own index y_M_thrown ∈ WL) (hR : 0 + 1 ≤ R.frames ∧ 8 + (1 + 11) + 0 ≤ R.locals) (hs8 : (rest.map fun v => v.category).sum ≤ 8) (d : decode cc pc = .ok (.invokevirtual index, 3)) (k : WS p l e R s m args below meth c Q E nL (pc + 3) lv ((.int (f_M_thrown τ)) :: rest) (σ, τ, q)) : WS p l e R s m args below meth c Q E nL pc lv (.ref 30 :: rest) (σ, τ, q) := by
  exact wi_callV hC (n := 0) (vs := []) (rest := rest) 30 10 (by decide) rfl rfl rfl (c_M_thrown l E σ τ q  ) (by decide +kernel) wd_956 wd_952 wd_957 wd_958 ⟨rfl, rfl⟩ rfl rfl hl hR hs8 d k
set_option maxRecDepth 100000 in
set_option maxHeartbeats 400000 in
theorem c_M_st (l : Launch) (E : Ev) (σ τ : St) (q : Int64) (a1 : Int32)  : MF l y_M_st prog_12_method_4_code 2 (some .int) { frames := 0, cells := 0, slots := 0, locals := 0 } E [.ref 30, .int a1] (σ, τ, q) (some (.int (f_M_st τ a1))) (σ, τ, q) := by
  refine MF_intro (lv0 := [(0, .ref 30), (1, .int a1)]) (by decide) wd_959 (Nat.le_of_ble_eq_true rfl) rfl ?_
  intro p e s m args below meth c Q hC hr hk hQ
  replace hC : Cx p s m args c prog_12_method_4_code 2 "PartnerStackModel" E := hC
  refine wi_aload_n hC 0 d_M_st_0 rfl rfl ?_
  refine wg_M_first hC wd_946 d_M_st_1 ?_
  refine wi_iload_n hC 1 d_M_st_4 rfl rfl ?_
  refine wi_iadd hC d_M_st_5 ?_
  refine wi_bipush hC 8 (by decide) d_M_st_6 ?_
  refine wi_irem hC (by decide) d_M_st_8 ?_
  have hf : f_M_st τ a1 = jrem ((gI τ 1 30) + a1) 8 := by exact rfl
  exact wi_iret hC hr hk d_M_st_9 (congrArg (fun z => some (Value.int z)) hf) rfl hQ
theorem k_M_st {p : Program} {l : Launch} {e : Env} {R : Room} {s : State} {m : MethodId} {args : Array Value} {below : List Frame} {meth : Method} {c : Code} {Q : State → Prop} {E : Ev} {nL pc index : Nat} {lv : List (Nat × Value)} {rest : List Value} {cc : ByteArray} {own : String} {σ τ : St} {q : Int64} {a1 : Int32} (hC : Cx p s m args c cc nL own E)   (hl : Cond.methodLink own index y_M_st ∈ WL) (hR : 0 + 1 ≤ R.frames ∧ 8 + (2 + 11) + 0 ≤ R.locals) (hs8 : (rest.map fun v => v.category).sum ≤ 8) (d : decode cc pc = .ok (.invokevirtual index, 3)) (k : WS p l e R s m args below meth c Q E nL (pc + 3) lv ((.int (f_M_st τ a1)) :: rest) (σ, τ, q)) : WS p l e R s m args below meth c Q E nL pc lv (.int a1 :: .ref 30 :: rest) (σ, τ, q) := by
  exact wi_callV hC (n := 1) (vs := [.int a1]) (rest := rest) 30 10 (by decide) rfl rfl rfl (c_M_st l E σ τ q a1 ) (by decide +kernel) wd_959 wd_952 wd_960 wd_961 ⟨rfl, rfl⟩ rfl rfl hl hR hs8 d k
set_option maxRecDepth 100000 in
set_option maxHeartbeats 400000 in
theorem c_M_memory (l : Launch) (E : Ev) (σ τ : St) (q : Int64) (a1 : Int32) (a2 : Int32)  : MF l y_M_memory prog_12_method_5_code 4 none { frames := 0, cells := 0, slots := 0, locals := 0 } E [.ref 30, .int a1, .int a2] (σ, τ, q) none (σ, (f_M_memory τ a1 a2), q) := by
  refine MF_intro (lv0 := [(0, .ref 30), (1, .int a1), (2, .int a2)]) (by decide) wd_963 (Nat.le_of_ble_eq_true rfl) rfl ?_
  intro p e s m args below meth c Q hC hr hk hQ
  replace hC : Cx p s m args c prog_12_method_5_code 4 "PartnerStackModel" E := hC
  refine wi_aload_n hC 0 d_M_memory_0 rfl rfl ?_
  refine wi_iload_n hC 1 d_M_memory_1 rfl rfl ?_
  obtain ⟨Tt1, eTt1⟩ : ∃ y : Bool, y = (
          if a1 < 0 then
            true
          else
            if a1 ≤ 90 then
              false
            else
              true) := ⟨_, rfl⟩
  have Jt1 : ∀ (t1 : Bool), Tt1 = t1 → WS p l e { frames := 0, cells := 0, slots := 0, locals := 0 } s m args below meth c Q E 4 16 [(0, .ref 30), (1, .int a1), (2, .int a2)] [.int (bI t1), .ref 30] (σ, τ, q) := by
    intro t1  e_t1
    rw [eTt1] at e_t1
    refine wp_M_code hC wd_955 d_M_memory_16 ?_
    refine wi_nmM (fun s1 e_s1 => ?_)
    refine wi_iconst hC 0 (by decide) d_M_memory_19 ?_
    refine wi_istore_n hC [(3, .int 0), (0, .ref 30), (1, .int a1), (2, .int a2)] d_M_memory_20 rfl (by decide) rfl ?_
    refine wi_loop ((b_M_memory_21 a1 a2)) (fun t3 => 0 ≤ (t3.1).toInt ∧ gI t3.2 0 30 = bI t1) (fun t3 => [(3, .int t3.1), (0, .ref 30), (1, .int a1), (2, .int a2)]) (fun t3 => (σ, t3.2, q)) 57 ?_ (fun x y hi e => ⟨up_inv (b := (b_M_memory_21 a1 a2)) (fun t => t.1) 4 0 (fun x y e => ((st_b_M_memory_21 a1 a2) x y e).1) x y hi.1 e, ((st_b_M_memory_21 a1 a2) x y e).2.1.trans hi.2⟩) (upf 4 0) (0, s1) ⟨(show (0 : Int) ≤ (0 : Int32).toInt by decide), (by show gI s1 0 30 = bI t1; rw [← e_s1]; rfl)⟩ (up_halt (b := (b_M_memory_21 a1 a2)) (fun t => t.1) 4 (fun x y e => ((st_b_M_memory_21 a1 a2) x y e).1) (0, s1)) ?_
    · intro t3 hi_t3 hc_t3 hx_t3
      refine wi_iload_n hC 0 d_M_memory_21 rfl rfl ?_
      refine wi_iconst hC 4 (by decide) d_M_memory_22 ?_
      refine wi_icmp_ge hC 57 d_M_memory_23 (by decide) (fun h3 => ?_) (fun h3 => ?_)
      · skip
        exact hx_t3 (t3.1, t3.2) (by exact (if_pos h3))
      · skip
        refine wi_aload_n hC 1 d_M_memory_26 rfl rfl ?_
        refine wg_M_code hC wd_955 d_M_memory_27 ?_
        refine wi_if_ne hC 57 d_M_memory_30 (by decide) (fun h4 => ?_) (fun h4 => ?_)
        · skip
          exact hx_t3 (t3.1, t3.2) (by exact (Eq.trans (if_neg h3) (if_neg h4)))
        · skip
          refine wi_aload_n hC 1 d_M_memory_33 rfl rfl ?_
          refine wg_M_memory hC wd_962 d_M_memory_34 ?_
          refine wi_iload_n hC 2 d_M_memory_37 rfl rfl ?_
          refine wi_iload_n hC 0 d_M_memory_38 rfl rfl ?_
          refine wi_iadd hC d_M_memory_39 ?_
          refine wi_iload_n hC 3 d_M_memory_40 rfl rfl ?_
          refine wi_bipush hC 8 (by decide) d_M_memory_41 ?_
          refine wi_iload_n hC 0 d_M_memory_43 rfl rfl ?_
          refine wi_imul hC d_M_memory_44 ?_
          refine wi_ishr hC d_M_memory_45 ?_
          refine wi_sipush hC 255 (by decide) d_M_memory_46 ?_
          refine wi_iand hC d_M_memory_49 ?_
          refine wa_st31 hC (by have q0 := hi_t3.2; rw [h4] at q0; have q1 := bz0 q0; rw [← e_t1] at q1; (repeat' split at q1) <;> first | (exact absurd q1 (by decide)) | exact m90 (lo_n (by assumption)) (hi_q (B := 90) (n := 91) (by assumption) (by decide)) (vin_of hi_t3.1 (hi_n h3 (by decide)))) d_M_memory_50 ?_
          refine wi_nmM (fun s2 e_s2 => ?_)
          obtain ⟨v1, e_v1⟩ : ∃ y : Int32, t3.1 + 1 = y := ⟨_, rfl⟩
          refine wi_iinc hC 0 v1 [(3, .int v1), (0, .ref 30), (1, .int a1), (2, .int a2)] d_M_memory_51 rfl (by rw [← e_v1]; rfl) (by decide) rfl ?_
          refine wi_goto hC 21 d_M_memory_54 (by decide) ?_
          exact hc_t3 (v1, s2) (by subst e_v1; subst e_s2; exact (Eq.trans (if_neg h3) (if_pos h4)))
    obtain ⟨t2, e_t2⟩ : ∃ y : Int32 × St, lpn ((b_M_memory_21 a1 a2)) (upf 4 0) (0, s1) = y := ⟨_, rfl⟩
    rw [e_t2]
    have hf : f_M_memory τ a1 a2 = t2.2 := by subst e_t2; subst e_s1; subst e_t1; exact rfl
    exact wi_vret hC hr hk d_M_memory_57 rfl (congrArg (fun z => (σ, z, q)) hf).symm hQ
  refine wi_if_lt hC 11 d_M_memory_2 (by decide) (fun h1 => ?_) (fun h1 => ?_)
  · skip
    refine wi_iconst hC 1 (by decide) d_M_memory_11 ?_
    refine wi_goto hC 16 d_M_memory_12 (by decide) ?_
    exact Jt1 true (by exact (Eq.trans eTt1 (if_pos h1)))
  · skip
    refine wi_iload_n hC 1 d_M_memory_5 rfl rfl ?_
    refine wi_bipush hC 90 (by decide) d_M_memory_6 ?_
    refine wi_icmp_le hC 15 d_M_memory_8 (by decide) (fun h2 => ?_) (fun h2 => ?_)
    · skip
      refine wi_iconst hC 0 (by decide) d_M_memory_15 ?_
      exact Jt1 false (by exact (Eq.trans eTt1 (Eq.trans (if_neg h1) (if_pos h2))))
    · skip
      refine wi_iconst hC 1 (by decide) d_M_memory_11 ?_
      refine wi_goto hC 16 d_M_memory_12 (by decide) ?_
      exact Jt1 true (by exact (Eq.trans eTt1 (Eq.trans (if_neg h1) (if_neg h2))))
theorem k_M_memory {p : Program} {l : Launch} {e : Env} {R : Room} {s : State} {m : MethodId} {args : Array Value} {below : List Frame} {meth : Method} {c : Code} {Q : State → Prop} {E : Ev} {nL pc index : Nat} {lv : List (Nat × Value)} {rest : List Value} {cc : ByteArray} {own : String} {σ τ : St} {q : Int64} {a1 : Int32} {a2 : Int32} (hC : Cx p s m args c cc nL own E)   (hl : Cond.methodLink own index y_M_memory ∈ WL) (hR : 0 + 1 ≤ R.frames ∧ 8 + (4 + 11) + 0 ≤ R.locals) (hs8 : (rest.map fun v => v.category).sum ≤ 8) (d : decode cc pc = .ok (.invokevirtual index, 3)) (k : WS p l e R s m args below meth c Q E nL (pc + 3) lv rest (σ, (f_M_memory τ a1 a2), q)) : WS p l e R s m args below meth c Q E nL pc lv (.int a2 :: .int a1 :: .ref 30 :: rest) (σ, τ, q) := by
  exact wi_callV hC (n := 2) (vs := [.int a1, .int a2]) (rest := rest) 30 10 (by decide) rfl rfl rfl (c_M_memory l E σ τ q a1 a2 ) (by decide +kernel) wd_963 wd_952 wd_964 wd_965 ⟨rfl, rfl⟩ rfl rfl hl hR hs8 d k
set_option maxRecDepth 100000 in
set_option maxHeartbeats 400000 in
theorem c_M_byteAt (l : Launch) (E : Ev) (σ τ : St) (q : Int64) (a1 : Int32)  : MF l y_M_byteAt prog_12_method_6_code 2 (some .int) { frames := 0, cells := 0, slots := 0, locals := 0 } E [.ref 30, .int a1] (σ, τ, q) (some (.int ((f_M_byteAt τ a1).1))) (σ, (f_M_byteAt τ a1).2, q) := by
  refine MF_intro (lv0 := [(0, .ref 30), (1, .int a1)]) (by decide) wd_966 (Nat.le_of_ble_eq_true rfl) rfl ?_
  intro p e s m args below meth c Q hC hr hk hQ
  replace hC : Cx p s m args c prog_12_method_6_code 2 "PartnerStackModel" E := hC
  refine wi_aload_n hC 0 d_M_byteAt_0 rfl rfl ?_
  refine wi_iload_n hC 1 d_M_byteAt_1 rfl rfl ?_
  obtain ⟨Tt1, eTt1⟩ : ∃ y : Bool, y = (
          if a1 < 0 then
            true
          else
            if a1 ≤ 93 then
              false
            else
              true) := ⟨_, rfl⟩
  have Jt1 : ∀ (t1 : Bool), Tt1 = t1 → WS p l e { frames := 0, cells := 0, slots := 0, locals := 0 } s m args below meth c Q E 2 16 [(0, .ref 30), (1, .int a1)] [.int (bI t1), .ref 30] (σ, τ, q) := by
    intro t1  e_t1
    rw [eTt1] at e_t1
    refine wp_M_code hC wd_955 d_M_byteAt_16 ?_
    refine wi_nmM (fun s1 e_s1 => ?_)
    refine wi_aload_n hC 0 d_M_byteAt_19 rfl rfl ?_
    refine wg_M_code hC wd_955 d_M_byteAt_20 ?_
    obtain ⟨Tt2, eTt2⟩ : ∃ y : Int32, y = (
            if (gI s1 0 30) ≤ 0 then
              gI s1 100 (jat a1)
            else
              0) := ⟨_, rfl⟩
    have Jt2 : ∀ (t2 : Int32), Tt2 = t2 → WS p l e { frames := 0, cells := 0, slots := 0, locals := 0 } s m args below meth c Q E 2 36 [(0, .ref 30), (1, .int a1)] [.int t2] (σ, s1, q) := by
      intro t2  e_t2
      rw [eTt2] at e_t2
      have hf : f_M_byteAt τ a1 = (t2, s1) := by subst e_t2; subst e_s1; subst e_t1; exact rfl
      exact wi_iret hC hr hk d_M_byteAt_36 (congrArg (fun z => some (Value.int z.1)) hf) (congrArg (fun z => (σ, z.2, q)) hf).symm hQ
    refine wi_if_le hC 30 d_M_byteAt_23 (by decide) (fun h3 => ?_) (fun h3 => ?_)
    · skip
      refine wi_aload_n hC 0 d_M_byteAt_30 rfl rfl ?_
      refine wg_M_memory hC wd_962 d_M_byteAt_31 ?_
      refine wi_iload_n hC 1 d_M_byteAt_34 rfl rfl ?_
      refine wa_ld31 hC (by have q1 := cd_le (e_s1.symm ▸ h3); rw [← e_t1] at q1; (repeat' split at q1) <;> first | (exact absurd q1 (by decide)) | exact vin_of (lo_n (by assumption)) (hi_q (B := 93) (by assumption) (by decide))) d_M_byteAt_35 ?_
      exact Jt2 (gI s1 100 (jat a1)) (by exact (Eq.trans eTt2 (if_pos h3)))
    · skip
      refine wi_iconst hC 0 (by decide) d_M_byteAt_26 ?_
      refine wi_goto hC 36 d_M_byteAt_27 (by decide) ?_
      exact Jt2 0 (by exact (Eq.trans eTt2 (if_neg h3)))
  refine wi_if_lt hC 11 d_M_byteAt_2 (by decide) (fun h1 => ?_) (fun h1 => ?_)
  · skip
    refine wi_iconst hC 1 (by decide) d_M_byteAt_11 ?_
    refine wi_goto hC 16 d_M_byteAt_12 (by decide) ?_
    exact Jt1 true (by exact (Eq.trans eTt1 (if_pos h1)))
  · skip
    refine wi_iload_n hC 1 d_M_byteAt_5 rfl rfl ?_
    refine wi_bipush hC 93 (by decide) d_M_byteAt_6 ?_
    refine wi_icmp_le hC 15 d_M_byteAt_8 (by decide) (fun h2 => ?_) (fun h2 => ?_)
    · skip
      refine wi_iconst hC 0 (by decide) d_M_byteAt_15 ?_
      exact Jt1 false (by exact (Eq.trans eTt1 (Eq.trans (if_neg h1) (if_pos h2))))
    · skip
      refine wi_iconst hC 1 (by decide) d_M_byteAt_11 ?_
      refine wi_goto hC 16 d_M_byteAt_12 (by decide) ?_
      exact Jt1 true (by exact (Eq.trans eTt1 (Eq.trans (if_neg h1) (if_neg h2))))
theorem k_M_byteAt {p : Program} {l : Launch} {e : Env} {R : Room} {s : State} {m : MethodId} {args : Array Value} {below : List Frame} {meth : Method} {c : Code} {Q : State → Prop} {E : Ev} {nL pc index : Nat} {lv : List (Nat × Value)} {rest : List Value} {cc : ByteArray} {own : String} {σ τ : St} {q : Int64} {a1 : Int32} (hC : Cx p s m args c cc nL own E)   (hl : Cond.methodLink own index y_M_byteAt ∈ WL) (hR : 0 + 1 ≤ R.frames ∧ 8 + (2 + 11) + 0 ≤ R.locals) (hs8 : (rest.map fun v => v.category).sum ≤ 8) (d : decode cc pc = .ok (.invokevirtual index, 3)) (k : WS p l e R s m args below meth c Q E nL (pc + 3) lv ((.int ((f_M_byteAt τ a1).1)) :: rest) (σ, (f_M_byteAt τ a1).2, q)) : WS p l e R s m args below meth c Q E nL pc lv (.int a1 :: .ref 30 :: rest) (σ, τ, q) := by
  exact wi_callV hC (n := 1) (vs := [.int a1]) (rest := rest) 30 10 (by decide) rfl rfl rfl (c_M_byteAt l E σ τ q a1 ) (by decide +kernel) wd_966 wd_952 wd_967 wd_968 ⟨rfl, rfl⟩ rfl rfl hl hR hs8 d k
set_option maxRecDepth 100000 in
set_option maxHeartbeats 400000 in
theorem c_M_wordAt (l : Launch) (E : Ev) (σ τ : St) (q : Int64) (a1 : Int32) (hp : vp_in a1 93) : MF l y_M_wordAt prog_12_method_7_code 2 (some .int) { frames := 0, cells := 0, slots := 0, locals := 0 } E [.ref 30, .int a1] (σ, τ, q) (some (.int (f_M_wordAt τ a1))) (σ, τ, q) := by
  refine MF_intro (lv0 := [(0, .ref 30), (1, .int a1)]) (by decide) wd_969 (Nat.le_of_ble_eq_true rfl) rfl ?_
  intro p e s m args below meth c Q hC hr hk hQ
  replace hC : Cx p s m args c prog_12_method_7_code 2 "PartnerStackModel" E := hC
  refine wi_aload_n hC 0 d_M_wordAt_0 rfl rfl ?_
  refine wg_M_memory hC wd_962 d_M_wordAt_1 ?_
  refine wi_iload_n hC 1 d_M_wordAt_4 rfl rfl ?_
  refine wa_ld31 hC (vin93 hp) d_M_wordAt_5 ?_
  refine wi_sipush hC 256 (by decide) d_M_wordAt_6 ?_
  refine wi_aload_n hC 0 d_M_wordAt_9 rfl rfl ?_
  refine wg_M_memory hC wd_962 d_M_wordAt_10 ?_
  refine wi_iload_n hC 1 d_M_wordAt_13 rfl rfl ?_
  refine wi_iconst hC 1 (by decide) d_M_wordAt_14 ?_
  refine wi_iadd hC d_M_wordAt_15 ?_
  refine wa_ld31 hC (vin93s hp) d_M_wordAt_16 ?_
  refine wi_imul hC d_M_wordAt_17 ?_
  refine wi_iadd hC d_M_wordAt_18 ?_
  have hf : f_M_wordAt τ a1 = (gI τ 100 (jat a1)) + (256 * (gI τ 100 (jat (a1 + 1)))) := by exact rfl
  exact wi_iret hC hr hk d_M_wordAt_19 (congrArg (fun z => some (Value.int z)) hf) rfl hQ
theorem k_M_wordAt {p : Program} {l : Launch} {e : Env} {R : Room} {s : State} {m : MethodId} {args : Array Value} {below : List Frame} {meth : Method} {c : Code} {Q : State → Prop} {E : Ev} {nL pc index : Nat} {lv : List (Nat × Value)} {rest : List Value} {cc : ByteArray} {own : String} {σ τ : St} {q : Int64} {a1 : Int32} (hC : Cx p s m args c cc nL own E)  (hp : vp_in a1 93) (hl : Cond.methodLink own index y_M_wordAt ∈ WL) (hR : 0 + 1 ≤ R.frames ∧ 8 + (2 + 11) + 0 ≤ R.locals) (hs8 : (rest.map fun v => v.category).sum ≤ 8) (d : decode cc pc = .ok (.invokevirtual index, 3)) (k : WS p l e R s m args below meth c Q E nL (pc + 3) lv ((.int (f_M_wordAt τ a1)) :: rest) (σ, τ, q)) : WS p l e R s m args below meth c Q E nL pc lv (.int a1 :: .ref 30 :: rest) (σ, τ, q) := by
  exact wi_callV hC (n := 1) (vs := [.int a1]) (rest := rest) 30 10 (by decide) rfl rfl rfl (c_M_wordAt l E σ τ q a1 hp) (by decide +kernel) wd_969 wd_952 wd_970 wd_971 ⟨rfl, rfl⟩ rfl rfl hl hR hs8 d k
set_option maxRecDepth 100000 in
set_option maxHeartbeats 400000 in
theorem c_M_setWord (l : Launch) (E : Ev) (σ τ : St) (q : Int64) (a1 : Int32) (a2 : Int32) (hp : vp_in a1 93) : MF l y_M_setWord prog_12_method_8_code 3 none { frames := 0, cells := 0, slots := 0, locals := 0 } E [.ref 30, .int a1, .int a2] (σ, τ, q) none (σ, (f_M_setWord τ a1 a2), q) := by
  refine MF_intro (lv0 := [(0, .ref 30), (1, .int a1), (2, .int a2)]) (by decide) wd_972 (Nat.le_of_ble_eq_true rfl) rfl ?_
  intro p e s m args below meth c Q hC hr hk hQ
  replace hC : Cx p s m args c prog_12_method_8_code 3 "PartnerStackModel" E := hC
  refine wi_aload_n hC 0 d_M_setWord_0 rfl rfl ?_
  refine wg_M_memory hC wd_962 d_M_setWord_1 ?_
  refine wi_iload_n hC 1 d_M_setWord_4 rfl rfl ?_
  refine wi_iload_n hC 2 d_M_setWord_5 rfl rfl ?_
  refine wi_sipush hC 256 (by decide) d_M_setWord_6 ?_
  refine wi_irem hC (by decide) d_M_setWord_9 ?_
  refine wa_st31 hC (vin93 hp) d_M_setWord_10 ?_
  refine wi_nmM (fun s1 e_s1 => ?_)
  refine wi_aload_n hC 0 d_M_setWord_11 rfl rfl ?_
  refine wg_M_memory hC wd_962 d_M_setWord_12 ?_
  refine wi_iload_n hC 1 d_M_setWord_15 rfl rfl ?_
  refine wi_iconst hC 1 (by decide) d_M_setWord_16 ?_
  refine wi_iadd hC d_M_setWord_17 ?_
  refine wi_iload_n hC 2 d_M_setWord_18 rfl rfl ?_
  refine wi_sipush hC 256 (by decide) d_M_setWord_19 ?_
  refine wi_idiv hC (by decide) d_M_setWord_22 ?_
  refine wi_sipush hC 256 (by decide) d_M_setWord_23 ?_
  refine wi_irem hC (by decide) d_M_setWord_26 ?_
  refine wa_st31 hC (vin93s hp) d_M_setWord_27 ?_
  refine wi_nmM (fun s2 e_s2 => ?_)
  have hf : f_M_setWord τ a1 a2 = s2 := by subst e_s2; subst e_s1; exact rfl
  exact wi_vret hC hr hk d_M_setWord_28 rfl (congrArg (fun z => (σ, z, q)) hf).symm hQ
theorem k_M_setWord {p : Program} {l : Launch} {e : Env} {R : Room} {s : State} {m : MethodId} {args : Array Value} {below : List Frame} {meth : Method} {c : Code} {Q : State → Prop} {E : Ev} {nL pc index : Nat} {lv : List (Nat × Value)} {rest : List Value} {cc : ByteArray} {own : String} {σ τ : St} {q : Int64} {a1 : Int32} {a2 : Int32} (hC : Cx p s m args c cc nL own E)  (hp : vp_in a1 93) (hl : Cond.methodLink own index y_M_setWord ∈ WL) (hR : 0 + 1 ≤ R.frames ∧ 8 + (3 + 11) + 0 ≤ R.locals) (hs8 : (rest.map fun v => v.category).sum ≤ 8) (d : decode cc pc = .ok (.invokevirtual index, 3)) (k : WS p l e R s m args below meth c Q E nL (pc + 3) lv rest (σ, (f_M_setWord τ a1 a2), q)) : WS p l e R s m args below meth c Q E nL pc lv (.int a2 :: .int a1 :: .ref 30 :: rest) (σ, τ, q) := by
  exact wi_callV hC (n := 2) (vs := [.int a1, .int a2]) (rest := rest) 30 10 (by decide) rfl rfl rfl (c_M_setWord l E σ τ q a1 a2 hp) (by decide +kernel) wd_972 wd_952 wd_973 wd_974 ⟨rfl, rfl⟩ rfl rfl hl hR hs8 d k
set_option maxRecDepth 100000 in
set_option maxHeartbeats 400000 in
theorem c_M_say (l : Launch) (E : Ev) (σ τ : St) (q : Int64) (a1 : Int32)  : MF l y_M_say prog_12_method_9_code 3 none { frames := 0, cells := 0, slots := 0, locals := 0 } E [.ref 30, .int a1] (σ, τ, q) none (σ, (f_M_say τ a1), q) := by
  refine MF_intro (lv0 := [(0, .ref 30), (1, .int a1)]) (by decide) wd_977 (Nat.le_of_ble_eq_true rfl) rfl ?_
  intro p e s m args below meth c Q hC hr hk hQ
  replace hC : Cx p s m args c prog_12_method_9_code 3 "PartnerStackModel" E := hC
  refine wi_aload_n hC 0 d_M_say_0 rfl rfl ?_
  refine wi_aload_n hC 0 d_M_say_1 rfl rfl ?_
  refine wg_M_now hC wd_975 d_M_say_2 ?_
  refine wi_iload_n hC 1 d_M_say_5 rfl rfl ?_
  refine wi_ior hC d_M_say_6 ?_
  refine wp_M_now hC wd_975 d_M_say_7 ?_
  refine wi_nmM (fun s1 e_s1 => ?_)
  refine wi_iconst hC 1 (by decide) d_M_say_10 ?_
  refine wi_istore_n hC [(2, .int 1), (0, .ref 30), (1, .int a1)] d_M_say_11 rfl (by decide) rfl ?_
  refine wi_loop ((b_M_say_12 a1)) (fun t2 => 0 < (t2.1).toInt ∧ (t2.1).toInt < 128) (fun t2 => [(2, .int t2.1), (0, .ref 30), (1, .int a1)]) (fun t2 => (σ, t2.2, q)) 61 ?_ (fun t t1 hi e => ((st_b_M_say_12 a1) t t1 hi e).1) (129) (1, s1) (show 0 < (1 : Int32).toInt ∧ (1 : Int32).toInt < 128 by decide) (two_halt (b := (b_M_say_12 a1)) (fun t => t.1) (st_b_M_say_12 a1) (1, s1) (by show 0 < (1 : Int32).toInt ∧ (1 : Int32).toInt < 128; decide)) ?_
  · intro t2 hi_t2 hc_t2 hx_t2
    refine wi_iload_n hC 0 d_M_say_12 rfl rfl ?_
    refine wi_bipush hC 8 (by decide) d_M_say_13 ?_
    refine wi_icmp_ge hC 61 d_M_say_15 (by decide) (fun h1 => ?_) (fun h1 => ?_)
    · skip
      exact hx_t2 (t2.1, t2.2) (by exact (if_pos h1))
    · skip
      refine wi_aload_n hC 1 d_M_say_18 rfl rfl ?_
      refine wi_aload_n hC 1 d_M_say_19 rfl rfl ?_
      refine wg_M_over hC wd_976 d_M_say_20 ?_
      obtain ⟨Tt3, eTt3⟩ : ∃ y : Bool, y = (
              if gZ t2.2 9 30 = true then
                true
              else
                if jrem (a1 / t2.1) 2 = 1 then
                  if jrem ((gI t2.2 2 30) / t2.1) 2 = 0 then
                    true
                  else
                    false
                else
                  false) := ⟨_, rfl⟩
      have Jt3 : ∀ (t3 : Bool), Tt3 = t3 → WS p l e { frames := 0, cells := 0, slots := 0, locals := 0 } s m args below meth c Q E 3 51 [(2, .int t2.1), (0, .ref 30), (1, .int a1)] [.int (bI t3), .ref 30] (σ, t2.2, q) := by
        intro t3  e_t3
        rw [eTt3] at e_t3
        refine wp_M_over hC t3 rfl wd_976 d_M_say_51 ?_
        refine wi_nmM (fun s2 e_s2 => ?_)
        refine wi_iconst hC 2 (by decide) d_M_say_54 ?_
        refine wi_iload_n hC 0 d_M_say_55 rfl rfl ?_
        refine wi_imul hC d_M_say_56 ?_
        refine wi_nmI (fun v1 e_v1 => ?_)
        refine wi_istore_n hC [(2, .int v1), (0, .ref 30), (1, .int a1)] d_M_say_57 rfl (by decide) rfl ?_
        refine wi_goto hC 12 d_M_say_58 (by decide) ?_
        exact hc_t2 (v1, s2) (by subst e_v1; subst e_s2; subst e_t3; exact (if_neg h1))
      refine wi_z_ne (b := (gZ t2.2 9 30)) hC 46 d_M_say_23 (by decide) (fun h2 => ?_) (fun h2 => ?_)
      · skip
        refine wi_iconst hC 1 (by decide) d_M_say_46 ?_
        refine wi_goto hC 51 d_M_say_47 (by decide) ?_
        exact Jt3 true (by exact (Eq.trans eTt3 (if_pos h2)))
      · skip
        refine wi_iload_n hC 2 d_M_say_26 rfl rfl ?_
        refine wi_iload_n hC 0 d_M_say_27 rfl rfl ?_
        refine wi_idiv hC (nz hi_t2) d_M_say_28 ?_
        refine wi_iconst hC 2 (by decide) d_M_say_29 ?_
        refine wi_irem hC (by decide) d_M_say_30 ?_
        refine wi_iconst hC 1 (by decide) d_M_say_31 ?_
        refine wi_icmp_ne hC 50 d_M_say_32 (by decide) (fun h3 => ?_) (fun h3 => ?_)
        · skip
          refine wi_iconst hC 0 (by decide) d_M_say_50 ?_
          exact Jt3 false (by exact (Eq.trans eTt3 (Eq.trans (if_neg h2) (if_neg h3))))
        · skip
          refine wi_aload_n hC 1 d_M_say_35 rfl rfl ?_
          refine wg_M_control hC wd_943 d_M_say_36 ?_
          refine wi_iload_n hC 0 d_M_say_39 rfl rfl ?_
          refine wi_idiv hC (nz hi_t2) d_M_say_40 ?_
          refine wi_iconst hC 2 (by decide) d_M_say_41 ?_
          refine wi_irem hC (by decide) d_M_say_42 ?_
          refine wi_if_ne hC 50 d_M_say_43 (by decide) (fun h4 => ?_) (fun h4 => ?_)
          · skip
            refine wi_iconst hC 0 (by decide) d_M_say_50 ?_
            exact Jt3 false (by exact (Eq.trans eTt3 (Eq.trans (if_neg h2) (Eq.trans (if_pos h3) (if_neg h4)))))
          · skip
            refine wi_iconst hC 1 (by decide) d_M_say_46 ?_
            refine wi_goto hC 51 d_M_say_47 (by decide) ?_
            exact Jt3 true (by exact (Eq.trans eTt3 (Eq.trans (if_neg h2) (Eq.trans (if_pos h3) (if_pos h4)))))
  obtain ⟨t1, e_t1⟩ : ∃ y : Int32 × St, lpn ((b_M_say_12 a1)) (129) (1, s1) = y := ⟨_, rfl⟩
  rw [e_t1]
  have hf : f_M_say τ a1 = t1.2 := by subst e_t1; subst e_s1; exact rfl
  exact wi_vret hC hr hk d_M_say_61 rfl (congrArg (fun z => (σ, z, q)) hf).symm hQ
theorem k_M_say {p : Program} {l : Launch} {e : Env} {R : Room} {s : State} {m : MethodId} {args : Array Value} {below : List Frame} {meth : Method} {c : Code} {Q : State → Prop} {E : Ev} {nL pc index : Nat} {lv : List (Nat × Value)} {rest : List Value} {cc : ByteArray} {own : String} {σ τ : St} {q : Int64} {a1 : Int32} (hC : Cx p s m args c cc nL own E)   (hl : Cond.methodLink own index y_M_say ∈ WL) (hR : 0 + 1 ≤ R.frames ∧ 8 + (3 + 11) + 0 ≤ R.locals) (hs8 : (rest.map fun v => v.category).sum ≤ 8) (d : decode cc pc = .ok (.invokevirtual index, 3)) (k : WS p l e R s m args below meth c Q E nL (pc + 3) lv rest (σ, (f_M_say τ a1), q)) : WS p l e R s m args below meth c Q E nL pc lv (.int a1 :: .ref 30 :: rest) (σ, τ, q) := by
  exact wi_callV hC (n := 1) (vs := [.int a1]) (rest := rest) 30 10 (by decide) rfl rfl rfl (c_M_say l E σ τ q a1 ) (by decide +kernel) wd_977 wd_952 wd_978 wd_979 ⟨rfl, rfl⟩ rfl rfl hl hR hs8 d k
set_option maxRecDepth 100000 in
set_option maxHeartbeats 400000 in
theorem c_M_status (l : Launch) (E : Ev) (σ τ : St) (q : Int64)   : MF l y_M_status prog_12_method_10_code 3 (some .int) { frames := 0, cells := 0, slots := 0, locals := 0 } E [.ref 30] (σ, τ, q) (some (.int (f_M_status τ))) (σ, τ, q) := by
  refine MF_intro (lv0 := [(0, .ref 30)]) (by decide) wd_980 (Nat.le_of_ble_eq_true rfl) rfl ?_
  intro p e s m args below meth c Q hC hr hk hQ
  replace hC : Cx p s m args c prog_12_method_10_code 3 "PartnerStackModel" E := hC
  refine wi_iconst hC 0 (by decide) d_M_status_0 ?_
  refine wi_istore_n hC [(1, .int 0), (0, .ref 30)] d_M_status_1 rfl (by decide) rfl ?_
  refine wi_iconst hC 1 (by decide) d_M_status_2 ?_
  refine wi_istore_n hC [(2, .int 1), (1, .int 0), (0, .ref 30)] d_M_status_3 rfl (by decide) rfl ?_
  refine wi_loop ((b_M_status_4 τ)) (fun t2 => 0 < (t2.1).toInt ∧ (t2.1).toInt < 128) (fun t2 => [(2, .int t2.1), (1, .int (bI t2.2)), (0, .ref 30)]) (fun t2 => (σ, τ, q)) 50 ?_ (fun t t1 hi e => ((st_b_M_status_4 τ) t t1 hi e).1) (129) (1, false) (show 0 < (1 : Int32).toInt ∧ (1 : Int32).toInt < 128 by decide) (two_halt (b := (b_M_status_4 τ)) (fun t => t.1) (st_b_M_status_4 τ) (1, false) (by show 0 < (1 : Int32).toInt ∧ (1 : Int32).toInt < 128; decide)) ?_
  · intro t2 hi_t2 hc_t2 hx_t2
    refine wi_iload_n hC 0 d_M_status_4 rfl rfl ?_
    refine wi_bipush hC 64 (by decide) d_M_status_5 ?_
    refine wi_icmp_ge hC 50 d_M_status_7 (by decide) (fun h1 => ?_) (fun h1 => ?_)
    · skip
      exact hx_t2 (t2.1, t2.2) (by exact (if_pos h1))
    · skip
      refine wi_iload_n hC 1 d_M_status_10 rfl rfl ?_
      obtain ⟨Tt3, eTt3⟩ : ∃ y : Bool, y = (
              if t2.2 = true then
                true
              else
                if jrem ((gI τ 3 30) / t2.1) 2 = 1 then
                  if jrem ((gI τ 2 30) / t2.1) 2 = 0 then
                    true
                  else
                    false
                else
                  false) := ⟨_, rfl⟩
      have Jt3 : ∀ (t3 : Bool), Tt3 = t3 → WS p l e { frames := 0, cells := 0, slots := 0, locals := 0 } s m args below meth c Q E 3 42 [(2, .int t2.1), (1, .int (bI t2.2)), (0, .ref 30)] [.int (bI t3)] (σ, τ, q) := by
        intro t3  e_t3
        rw [eTt3] at e_t3
        refine wi_istore_n hC [(1, .int (bI t3)), (2, .int t2.1), (0, .ref 30)] d_M_status_42 rfl (by decide) rfl ?_
        refine wi_iconst hC 2 (by decide) d_M_status_43 ?_
        refine wi_iload_n hC 1 d_M_status_44 rfl rfl ?_
        refine wi_imul hC d_M_status_45 ?_
        refine wi_nmI (fun v1 e_v1 => ?_)
        refine wi_istore_n hC [(2, .int v1), (1, .int (bI t3)), (0, .ref 30)] d_M_status_46 rfl (by decide) rfl ?_
        refine wi_goto hC 4 d_M_status_47 (by decide) ?_
        exact hc_t2 (v1, t3) (by subst e_v1; subst e_t3; exact (if_neg h1))
      refine wi_z_ne (b := t2.2) hC 37 d_M_status_11 (by decide) (fun h2 => ?_) (fun h2 => ?_)
      · skip
        refine wi_iconst hC 1 (by decide) d_M_status_37 ?_
        refine wi_goto hC 42 d_M_status_38 (by decide) ?_
        exact Jt3 true (by exact (Eq.trans eTt3 (if_pos h2)))
      · skip
        refine wi_aload_n hC 2 d_M_status_14 rfl rfl ?_
        refine wg_M_told hC wd_944 d_M_status_15 ?_
        refine wi_iload_n hC 0 d_M_status_18 rfl rfl ?_
        refine wi_idiv hC (nz hi_t2) d_M_status_19 ?_
        refine wi_iconst hC 2 (by decide) d_M_status_20 ?_
        refine wi_irem hC (by decide) d_M_status_21 ?_
        refine wi_iconst hC 1 (by decide) d_M_status_22 ?_
        refine wi_icmp_ne hC 41 d_M_status_23 (by decide) (fun h3 => ?_) (fun h3 => ?_)
        · skip
          refine wi_iconst hC 0 (by decide) d_M_status_41 ?_
          exact Jt3 false (by exact (Eq.trans eTt3 (Eq.trans (if_neg h2) (if_neg h3))))
        · skip
          refine wi_aload_n hC 2 d_M_status_26 rfl rfl ?_
          refine wg_M_control hC wd_943 d_M_status_27 ?_
          refine wi_iload_n hC 0 d_M_status_30 rfl rfl ?_
          refine wi_idiv hC (nz hi_t2) d_M_status_31 ?_
          refine wi_iconst hC 2 (by decide) d_M_status_32 ?_
          refine wi_irem hC (by decide) d_M_status_33 ?_
          refine wi_if_ne hC 41 d_M_status_34 (by decide) (fun h4 => ?_) (fun h4 => ?_)
          · skip
            refine wi_iconst hC 0 (by decide) d_M_status_41 ?_
            exact Jt3 false (by exact (Eq.trans eTt3 (Eq.trans (if_neg h2) (Eq.trans (if_pos h3) (if_neg h4)))))
          · skip
            refine wi_iconst hC 1 (by decide) d_M_status_37 ?_
            refine wi_goto hC 42 d_M_status_38 (by decide) ?_
            exact Jt3 true (by exact (Eq.trans eTt3 (Eq.trans (if_neg h2) (Eq.trans (if_pos h3) (if_pos h4)))))
  obtain ⟨t1, e_t1⟩ : ∃ y : Int32 × Bool, lpn ((b_M_status_4 τ)) (129) (1, false) = y := ⟨_, rfl⟩
  rw [e_t1]
  refine wi_aload_n hC 2 d_M_status_50 rfl rfl ?_
  refine wg_M_told hC wd_944 d_M_status_51 ?_
  refine wi_aload_n hC 2 d_M_status_54 rfl rfl ?_
  refine wg_M_conditions hC wd_945 d_M_status_55 ?_
  refine wi_iadd hC d_M_status_58 ?_
  refine wi_sipush hC 2048 (by decide) d_M_status_59 ?_
  refine wi_aload_n hC 2 d_M_status_62 rfl rfl ?_
  refine wg_M_first hC wd_946 d_M_status_63 ?_
  refine wi_imul hC d_M_status_66 ?_
  refine wi_iadd hC d_M_status_67 ?_
  refine wi_iload_n hC 1 d_M_status_68 rfl rfl ?_
  obtain ⟨Tt4, eTt4⟩ : ∃ y : Int32, y = (
          if t1.2 = true then
            128
          else
            0) := ⟨_, rfl⟩
  have Jt4 : ∀ (t4 : Int32), Tt4 = t4 → WS p l e { frames := 0, cells := 0, slots := 0, locals := 0 } s m args below meth c Q E 3 79 [(2, .int t1.1), (1, .int (bI t1.2)), (0, .ref 30)] [.int t4, .int (((gI τ 3 30) + (gI τ 4 30)) + (2048 * (gI τ 1 30)))] (σ, τ, q) := by
    intro t4  e_t4
    rw [eTt4] at e_t4
    refine wi_iadd hC d_M_status_79 ?_
    have hf : f_M_status τ = (((gI τ 3 30) + (gI τ 4 30)) + (2048 * (gI τ 1 30))) + t4 := by subst e_t4; subst e_t1; exact rfl
    exact wi_iret hC hr hk d_M_status_80 (congrArg (fun z => some (Value.int z)) hf) rfl hQ
  refine wi_z_eq (b := t1.2) hC 78 d_M_status_69 (by decide) (fun h5 => ?_) (fun h5 => ?_)
  · skip
    refine wi_iconst hC 0 (by decide) d_M_status_78 ?_
    exact Jt4 0 (by exact (Eq.trans eTt4 (if_neg h5)))
  · skip
    refine wi_sipush hC 128 (by decide) d_M_status_72 ?_
    refine wi_goto hC 79 d_M_status_75 (by decide) ?_
    exact Jt4 128 (by exact (Eq.trans eTt4 (if_pos h5)))
theorem k_M_status {p : Program} {l : Launch} {e : Env} {R : Room} {s : State} {m : MethodId} {args : Array Value} {below : List Frame} {meth : Method} {c : Code} {Q : State → Prop} {E : Ev} {nL pc index : Nat} {lv : List (Nat × Value)} {rest : List Value} {cc : ByteArray} {own : String} {σ τ : St} {q : Int64}  (hC : Cx p s m args c cc nL own E)   (hl : Cond.methodLink own index y_M_status ∈ WL) (hR : 0 + 1 ≤ R.frames ∧ 8 + (3 + 11) + 0 ≤ R.locals) (hs8 : (rest.map fun v => v.category).sum ≤ 8) (d : decode cc pc = .ok (.invokevirtual index, 3)) (k : WS p l e R s m args below meth c Q E nL (pc + 3) lv ((.int (f_M_status τ)) :: rest) (σ, τ, q)) : WS p l e R s m args below meth c Q E nL pc lv (.ref 30 :: rest) (σ, τ, q) := by
  exact wi_callV hC (n := 0) (vs := []) (rest := rest) 30 10 (by decide) rfl rfl rfl (c_M_status l E σ τ q  ) (by decide +kernel) wd_980 wd_952 wd_981 wd_982 ⟨rfl, rfl⟩ rfl rfl hl hR hs8 d k
set_option maxRecDepth 100000 in
set_option maxHeartbeats 400000 in
theorem c_M_tags (l : Launch) (E : Ev) (σ τ : St) (q : Int64)   : MF l y_M_tags prog_12_method_11_code 6 (some .int) { frames := 0, cells := 0, slots := 0, locals := 0 } E [.ref 30] (σ, τ, q) (some (.int (f_M_tags τ))) (σ, τ, q) := by
  refine MF_intro (lv0 := [(0, .ref 30)]) (by decide) wd_986 (Nat.le_of_ble_eq_true rfl) rfl ?_
  intro p e s m args below meth c Q hC hr hk hQ
  replace hC : Cx p s m args c prog_12_method_11_code 6 "PartnerStackModel" E := hC
  refine wi_iconst hC 0 (by decide) d_M_tags_0 ?_
  refine wi_istore_n hC [(1, .int 0), (0, .ref 30)] d_M_tags_1 rfl (by decide) rfl ?_
  refine wi_bipush hC 7 (by decide) d_M_tags_2 ?_
  refine wi_istore_n hC [(2, .int 7), (1, .int 0), (0, .ref 30)] d_M_tags_4 rfl (by decide) rfl ?_
  refine wi_loop ((b_M_tags_5 τ)) (fun t2 => (t2.1).toInt ≤ 7) (fun t2 => [(2, .int t2.1), (1, .int t2.2), (0, .ref 30)]) (fun t2 => (σ, τ, q)) 113 ?_ (dn_inv (b := (b_M_tags_5 τ)) (fun t => t.1) 7 (st_b_M_tags_5 τ)) (dnf 7) (7, 0) (show (7 : Int32).toInt ≤ 7 by decide) (dn_halt (b := (b_M_tags_5 τ)) (fun t => t.1) (st_b_M_tags_5 τ) (7, 0)) ?_
  · intro t2 hi_t2 hc_t2 hx_t2
    refine wi_iload_n hC 0 d_M_tags_5 rfl rfl ?_
    refine wi_if_lt hC 113 d_M_tags_6 (by decide) (fun h1 => ?_) (fun h1 => ?_)
    · skip
      exact hx_t2 (t2.1, t2.2) (by exact (if_pos h1))
    · skip
      refine wi_aload_n hC 2 d_M_tags_9 rfl rfl ?_
      refine wg_M_top hC wd_983 d_M_tags_10 ?_
      refine wi_iload_n hC 0 d_M_tags_13 rfl rfl ?_
      refine wa_ld32 hC (vin_of (lo_n h1) (hi_le hi_t2 (by decide))) d_M_tags_14 ?_
      refine wi_ldc hC wd_984 d_M_tags_15 ?_
      refine wi_irem hC (by decide) d_M_tags_17 ?_
      refine wi_nmI (fun v1 e_v1 => ?_)
      refine wi_istore_n hC [(3, .int v1), (2, .int t2.1), (1, .int t2.2), (0, .ref 30)] d_M_tags_18 rfl (by decide) rfl ?_
      refine wi_aload_n hC 3 d_M_tags_19 rfl rfl ?_
      refine wg_M_fraction hC wd_985 d_M_tags_20 ?_
      refine wi_iload_n hC 1 d_M_tags_23 rfl rfl ?_
      refine wa_ld33 hC (vin_of (lo_n h1) (hi_le hi_t2 (by decide))) d_M_tags_24 ?_
      refine wi_bipush hC 63 (by decide) d_M_tags_25 ?_
      refine wi_lshr hC d_M_tags_27 ?_
      refine wi_lconst hC 1 (by decide) d_M_tags_28 ?_
      refine wi_land hC d_M_tags_29 ?_
      refine wi_lconst hC 1 (by decide) d_M_tags_30 ?_
      obtain ⟨Tt3, eTt3⟩ : ∃ y : Bool, y = (
              if (jlshr (gJ τ 102 (jat t2.1)) 63) &&& 1 = 1 then
                true
              else
                false) := ⟨_, rfl⟩
      have Jt3 : ∀ (t3 : Bool), Tt3 = t3 → WS p l e { frames := 0, cells := 0, slots := 0, locals := 0 } s m args below meth c Q E 6 40 [(3, .int v1), (2, .int t2.1), (1, .int t2.2), (0, .ref 30)] [.int (bI t3)] (σ, τ, q) := by
        intro t3  e_t3
        rw [eTt3] at e_t3
        refine wi_istore hC [(4, .int (bI t3)), (3, .int v1), (2, .int t2.1), (1, .int t2.2), (0, .ref 30)] d_M_tags_40 (by decide) rfl ?_
        refine wi_aload_n hC 4 d_M_tags_42 rfl rfl ?_
        refine wg_M_empty hC wd_947 d_M_tags_43 ?_
        refine wi_iload_n hC 2 d_M_tags_46 rfl rfl ?_
        refine wa_ld34 hC (vin_of (lo_n h1) (hi_le hi_t2 (by decide))) d_M_tags_47 ?_
        obtain ⟨Tt4, eTt4⟩ : ∃ y : Int32, y = (
                if gZ τ 103 (jat t2.1) = true then
                  3
                else
                  if 32767 ≤ v1 then
                    f_M_tags_b77 v1 t3
                  else
                    if gJ τ 102 (jat t2.1) = 0 then
                      1
                    else
                      f_M_tags_b77 v1 t3) := ⟨_, rfl⟩
        have Jt4 : ∀ (t4 : Int32), Tt4 = t4 → WS p l e { frames := 0, cells := 0, slots := 0, locals := 0 } s m args below meth c Q E 6 98 [(4, .int (bI t3)), (3, .int v1), (2, .int t2.1), (1, .int t2.2), (0, .ref 30)] [.int t4] (σ, τ, q) := by
          intro t4  e_t4
          rw [eTt4] at e_t4
          refine wi_istore hC [(5, .int t4), (4, .int (bI t3)), (3, .int v1), (2, .int t2.1), (1, .int t2.2), (0, .ref 30)] d_M_tags_98 (by decide) rfl ?_
          refine wi_iconst hC 4 (by decide) d_M_tags_100 ?_
          refine wi_iload_n hC 4 d_M_tags_101 rfl rfl ?_
          refine wi_imul hC d_M_tags_102 ?_
          refine wi_iload hC 0 d_M_tags_103 rfl ?_
          refine wi_iadd hC d_M_tags_105 ?_
          refine wi_nmI (fun v2 e_v2 => ?_)
          refine wi_istore_n hC [(1, .int v2), (5, .int t4), (4, .int (bI t3)), (3, .int v1), (2, .int t2.1), (0, .ref 30)] d_M_tags_106 rfl (by decide) rfl ?_
          obtain ⟨v3, e_v3⟩ : ∃ y : Int32, t2.1 + (-1) = y := ⟨_, rfl⟩
          refine wi_iinc hC 4 v3 [(2, .int v3), (1, .int v2), (5, .int t4), (4, .int (bI t3)), (3, .int v1), (0, .ref 30)] d_M_tags_107 rfl (by rw [← e_v3]; rfl) (by decide) rfl ?_
          refine wi_goto hC 5 d_M_tags_110 (by decide) ?_
          refine wi_lv [0, 1, 5] [(2, .int v3), (1, .int v2), (0, .ref 30)] rfl ?_
          exact hc_t2 (v3, v2) (by subst e_v3; subst e_v2; subst e_t4; subst e_t3; subst e_v1; exact (if_neg h1))
        refine wi_z_eq (b := (gZ τ 103 (jat t2.1))) hC 55 d_M_tags_48 (by decide) (fun h3 => ?_) (fun h3 => ?_)
        · skip
          refine wi_iload_n hC 1 d_M_tags_55 rfl rfl ?_
          refine wi_sipush hC 32767 (by decide) d_M_tags_56 ?_
          have B1 : Tt4 = f_M_tags_b77 v1 t3 → WS p l e { frames := 0, cells := 0, slots := 0, locals := 0 } s m args below meth c Q E 6 77 [(4, .int (bI t3)), (3, .int v1), (2, .int t2.1), (1, .int t2.2), (0, .ref 30)] [] (σ, τ, q) := by
            intro hB1
            refine wi_iload_n hC 1 d_M_tags_77 rfl rfl ?_
            refine wi_if_le hC 97 d_M_tags_78 (by decide) (fun h6 => ?_) (fun h6 => ?_)
            · skip
              refine wi_iconst hC 2 (by decide) d_M_tags_97 ?_
              exact Jt4 2 (by exact (Eq.trans hB1 (if_pos h6)))
            · skip
              refine wi_iload_n hC 1 d_M_tags_81 rfl rfl ?_
              refine wi_sipush hC 32767 (by decide) d_M_tags_82 ?_
              refine wi_icmp_ge hC 97 d_M_tags_85 (by decide) (fun h7 => ?_) (fun h7 => ?_)
              · skip
                refine wi_iconst hC 2 (by decide) d_M_tags_97 ?_
                exact Jt4 2 (by exact (Eq.trans hB1 (Eq.trans (if_neg h6) (if_pos h7))))
              · skip
                refine wi_iload hC 0 d_M_tags_88 rfl ?_
                refine wi_z_eq (b := t3) hC 97 d_M_tags_90 (by decide) (fun h8 => ?_) (fun h8 => ?_)
                · skip
                  refine wi_iconst hC 2 (by decide) d_M_tags_97 ?_
                  exact Jt4 2 (by exact (Eq.trans hB1 (Eq.trans (if_neg h6) (Eq.trans (if_neg h7) (if_neg h8)))))
                · skip
                  refine wi_iconst hC 0 (by decide) d_M_tags_93 ?_
                  refine wi_goto hC 98 d_M_tags_94 (by decide) ?_
                  exact Jt4 0 (by exact (Eq.trans hB1 (Eq.trans (if_neg h6) (Eq.trans (if_neg h7) (if_pos h8)))))
          refine wi_icmp_ge hC 77 d_M_tags_59 (by decide) (fun h4 => ?_) (fun h4 => ?_)
          · skip
            exact B1   (by exact (Eq.trans eTt4 (Eq.trans (if_neg h3) (if_pos h4))))
          · skip
            refine wi_aload_n hC 4 d_M_tags_62 rfl rfl ?_
            refine wg_M_fraction hC wd_985 d_M_tags_63 ?_
            refine wi_iload_n hC 2 d_M_tags_66 rfl rfl ?_
            refine wa_ld33 hC (vin_of (lo_n h1) (hi_le hi_t2 (by decide))) d_M_tags_67 ?_
            refine wi_lconst hC 0 (by decide) d_M_tags_68 ?_
            refine wi_lcmp_ne hC 77 d_M_tags_69 d_M_tags_70 (by decide) (fun h5 => ?_) (fun h5 => ?_)
            · skip
              exact B1   (by exact (Eq.trans eTt4 (Eq.trans (if_neg h3) (Eq.trans (if_neg h4) (if_neg h5)))))
            · skip
              refine wi_iconst hC 1 (by decide) d_M_tags_73 ?_
              refine wi_goto hC 98 d_M_tags_74 (by decide) ?_
              exact Jt4 1 (by exact (Eq.trans eTt4 (Eq.trans (if_neg h3) (Eq.trans (if_neg h4) (if_pos h5)))))
        · skip
          refine wi_iconst hC 3 (by decide) d_M_tags_51 ?_
          refine wi_goto hC 98 d_M_tags_52 (by decide) ?_
          exact Jt4 3 (by exact (Eq.trans eTt4 (if_pos h3)))
      refine wi_lcmp_ne hC 39 d_M_tags_31 d_M_tags_32 (by decide) (fun h2 => ?_) (fun h2 => ?_)
      · skip
        refine wi_iconst hC 0 (by decide) d_M_tags_39 ?_
        exact Jt3 false (by exact (Eq.trans eTt3 (if_neg h2)))
      · skip
        refine wi_iconst hC 1 (by decide) d_M_tags_35 ?_
        refine wi_goto hC 40 d_M_tags_36 (by decide) ?_
        exact Jt3 true (by exact (Eq.trans eTt3 (if_pos h2)))
  obtain ⟨t1, e_t1⟩ : ∃ y : Int32 × Int32, lpn ((b_M_tags_5 τ)) (dnf 7) (7, 0) = y := ⟨_, rfl⟩
  rw [e_t1]
  refine wi_iload_n hC 1 d_M_tags_113 rfl rfl ?_
  have hf : f_M_tags τ = t1.2 := by subst e_t1; exact rfl
  exact wi_iret hC hr hk d_M_tags_114 (congrArg (fun z => some (Value.int z)) hf) rfl hQ
theorem k_M_tags {p : Program} {l : Launch} {e : Env} {R : Room} {s : State} {m : MethodId} {args : Array Value} {below : List Frame} {meth : Method} {c : Code} {Q : State → Prop} {E : Ev} {nL pc index : Nat} {lv : List (Nat × Value)} {rest : List Value} {cc : ByteArray} {own : String} {σ τ : St} {q : Int64}  (hC : Cx p s m args c cc nL own E)   (hl : Cond.methodLink own index y_M_tags ∈ WL) (hR : 0 + 1 ≤ R.frames ∧ 8 + (6 + 11) + 0 ≤ R.locals) (hs8 : (rest.map fun v => v.category).sum ≤ 8) (d : decode cc pc = .ok (.invokevirtual index, 3)) (k : WS p l e R s m args below meth c Q E nL (pc + 3) lv ((.int (f_M_tags τ)) :: rest) (σ, τ, q)) : WS p l e R s m args below meth c Q E nL pc lv (.ref 30 :: rest) (σ, τ, q) := by
  exact wi_callV hC (n := 0) (vs := []) (rest := rest) 30 10 (by decide) rfl rfl rfl (c_M_tags l E σ τ q  ) (by decide +kernel) wd_986 wd_952 wd_987 wd_988 ⟨rfl, rfl⟩ rfl rfl hl hR hs8 d k
set_option maxRecDepth 100000 in
set_option maxHeartbeats 400000 in
theorem c_M_want (l : Launch) (E : Ev) (σ τ : St) (q : Int64) (a1 : Int32) (hp : vp_in a1 8) : MF l y_M_want prog_12_method_12_code 2 none { frames := 1, cells := 0, slots := 0, locals := 22 } E [.ref 30, .int a1] (σ, τ, q) none (σ, (f_M_want τ a1), q) := by
  refine MF_intro (lv0 := [(0, .ref 30), (1, .int a1)]) (by decide) wd_991 (Nat.le_of_ble_eq_true rfl) rfl ?_
  intro p e s m args below meth c Q hC hr hk hQ
  replace hC : Cx p s m args c prog_12_method_12_code 2 "PartnerStackModel" E := hC
  refine wi_aload_n hC 0 d_M_want_0 rfl rfl ?_
  refine wg_M_empty hC wd_947 d_M_want_1 ?_
  refine wi_aload_n hC 0 d_M_want_4 rfl rfl ?_
  refine wi_iload_n hC 1 d_M_want_5 rfl rfl ?_
  refine k_M_st hC  wd_989 (by decide) (Nat.le_of_ble_eq_true rfl) d_M_want_6 ?_
  refine wi_inv (fun hv1 => ?_)
  refine wa_ld34 hC (st_in hv1.2.1 hp) d_M_want_9 ?_
  obtain ⟨Tt1, eTt1⟩ : ∃ y : St, y = (
          if gZ τ 103 (jat (f_M_st τ a1)) = true then
            let s1 : St := f_M_say τ 1
            s1
          else
            τ) := ⟨_, rfl⟩
  have Jt1 : ∀ (t1 : St), Tt1 = t1 → WS p l e { frames := 1, cells := 0, slots := 0, locals := 22 } s m args below meth c Q E 2 18 [(0, .ref 30), (1, .int a1)] [] (σ, t1, q) := by
    intro t1  e_t1
    rw [eTt1] at e_t1
    have hf : f_M_want τ a1 = t1 := by subst e_t1; exact rfl
    exact wi_vret hC hr hk d_M_want_18 rfl (congrArg (fun z => (σ, z, q)) hf).symm hQ
  refine wi_z_eq (b := (gZ τ 103 (jat (f_M_st τ a1)))) hC 18 d_M_want_10 (by decide) (fun h1 => ?_) (fun h1 => ?_)
  · skip
    exact Jt1 τ (by exact (Eq.trans eTt1 (if_neg h1)))
  · skip
    refine wi_aload_n hC 0 d_M_want_13 rfl rfl ?_
    refine wi_iconst hC 1 (by decide) d_M_want_14 ?_
    refine k_M_say hC  wd_990 (by decide) (Nat.le_of_ble_eq_true rfl) d_M_want_15 ?_
    refine wi_nmM (fun s1 e_s1 => ?_)
    exact Jt1 s1 (by subst e_s1; exact (Eq.trans eTt1 (if_pos h1)))
theorem k_M_want {p : Program} {l : Launch} {e : Env} {R : Room} {s : State} {m : MethodId} {args : Array Value} {below : List Frame} {meth : Method} {c : Code} {Q : State → Prop} {E : Ev} {nL pc index : Nat} {lv : List (Nat × Value)} {rest : List Value} {cc : ByteArray} {own : String} {σ τ : St} {q : Int64} {a1 : Int32} (hC : Cx p s m args c cc nL own E)  (hp : vp_in a1 8) (hl : Cond.methodLink own index y_M_want ∈ WL) (hR : 1 + 1 ≤ R.frames ∧ 8 + (2 + 11) + 22 ≤ R.locals) (hs8 : (rest.map fun v => v.category).sum ≤ 8) (d : decode cc pc = .ok (.invokevirtual index, 3)) (k : WS p l e R s m args below meth c Q E nL (pc + 3) lv rest (σ, (f_M_want τ a1), q)) : WS p l e R s m args below meth c Q E nL pc lv (.int a1 :: .ref 30 :: rest) (σ, τ, q) := by
  exact wi_callV hC (n := 1) (vs := [.int a1]) (rest := rest) 30 10 (by decide) rfl rfl rfl (c_M_want l E σ τ q a1 hp) (by decide +kernel) wd_991 wd_952 wd_992 wd_993 ⟨rfl, rfl⟩ rfl rfl hl hR hs8 d k
set_option maxRecDepth 100000 in
set_option maxHeartbeats 400000 in
theorem c_M_topOf (l : Launch) (E : Ev) (σ τ : St) (q : Int64) (a1 : Int32) (hp : vp_in a1 8) : MF l y_M_topOf prog_12_method_13_code 2 (some .int) { frames := 1, cells := 0, slots := 0, locals := 21 } E [.ref 30, .int a1] (σ, τ, q) (some (.int (f_M_topOf τ a1))) (σ, τ, q) := by
  refine MF_intro (lv0 := [(0, .ref 30), (1, .int a1)]) (by decide) wd_995 (Nat.le_of_ble_eq_true rfl) rfl ?_
  intro p e s m args below meth c Q hC hr hk hQ
  replace hC : Cx p s m args c prog_12_method_13_code 2 "PartnerStackModel" E := hC
  refine wi_aload_n hC 0 d_M_topOf_0 rfl rfl ?_
  refine wg_M_empty hC wd_947 d_M_topOf_1 ?_
  refine wi_aload_n hC 0 d_M_topOf_4 rfl rfl ?_
  refine wi_iload_n hC 1 d_M_topOf_5 rfl rfl ?_
  refine k_M_st hC  wd_989 (by decide) (Nat.le_of_ble_eq_true rfl) d_M_topOf_6 ?_
  refine wi_inv (fun hv1 => ?_)
  refine wa_ld34 hC (st_in hv1.2.1 hp) d_M_topOf_9 ?_
  obtain ⟨Tt1, eTt1⟩ : ∃ y : Int32, y = (
          if gZ τ 103 (jat (f_M_st τ a1)) = true then
            65535
          else
            gI τ 101 (jat (f_M_st τ a1))) := ⟨_, rfl⟩
  have Jt1 : ∀ (t1 : Int32), Tt1 = t1 → WS p l e { frames := 1, cells := 0, slots := 0, locals := 21 } s m args below meth c Q E 2 28 [(0, .ref 30), (1, .int a1)] [.int t1] (σ, τ, q) := by
    intro t1  e_t1
    rw [eTt1] at e_t1
    have hf : f_M_topOf τ a1 = t1 := by subst e_t1; exact rfl
    exact wi_iret hC hr hk d_M_topOf_28 (congrArg (fun z => some (Value.int z)) hf) rfl hQ
  refine wi_z_eq (b := (gZ τ 103 (jat (f_M_st τ a1)))) hC 18 d_M_topOf_10 (by decide) (fun h1 => ?_) (fun h1 => ?_)
  · skip
    refine wi_aload_n hC 0 d_M_topOf_18 rfl rfl ?_
    refine wg_M_top hC wd_983 d_M_topOf_19 ?_
    refine wi_aload_n hC 0 d_M_topOf_22 rfl rfl ?_
    refine wi_iload_n hC 1 d_M_topOf_23 rfl rfl ?_
    refine k_M_st hC  wd_989 (by decide) (Nat.le_of_ble_eq_true rfl) d_M_topOf_24 ?_
    refine wi_inv (fun hv2 => ?_)
    refine wa_ld32 hC (st_in hv2.2.1 hp) d_M_topOf_27 ?_
    exact Jt1 (gI τ 101 (jat (f_M_st τ a1))) (by exact (Eq.trans eTt1 (if_neg h1)))
  · skip
    refine wi_ldc hC wd_994 d_M_topOf_13 ?_
    refine wi_goto hC 28 d_M_topOf_15 (by decide) ?_
    exact Jt1 65535 (by exact (Eq.trans eTt1 (if_pos h1)))
theorem k_M_topOf {p : Program} {l : Launch} {e : Env} {R : Room} {s : State} {m : MethodId} {args : Array Value} {below : List Frame} {meth : Method} {c : Code} {Q : State → Prop} {E : Ev} {nL pc index : Nat} {lv : List (Nat × Value)} {rest : List Value} {cc : ByteArray} {own : String} {σ τ : St} {q : Int64} {a1 : Int32} (hC : Cx p s m args c cc nL own E)  (hp : vp_in a1 8) (hl : Cond.methodLink own index y_M_topOf ∈ WL) (hR : 1 + 1 ≤ R.frames ∧ 8 + (2 + 11) + 21 ≤ R.locals) (hs8 : (rest.map fun v => v.category).sum ≤ 8) (d : decode cc pc = .ok (.invokevirtual index, 3)) (k : WS p l e R s m args below meth c Q E nL (pc + 3) lv ((.int (f_M_topOf τ a1)) :: rest) (σ, τ, q)) : WS p l e R s m args below meth c Q E nL pc lv (.int a1 :: .ref 30 :: rest) (σ, τ, q) := by
  exact wi_callV hC (n := 1) (vs := [.int a1]) (rest := rest) 30 10 (by decide) rfl rfl rfl (c_M_topOf l E σ τ q a1 hp) (by decide +kernel) wd_995 wd_952 wd_996 wd_997 ⟨rfl, rfl⟩ rfl rfl hl hR hs8 d k
set_option maxRecDepth 100000 in
set_option maxHeartbeats 400000 in
theorem c_M_fractionOf (l : Launch) (E : Ev) (σ τ : St) (q : Int64) (a1 : Int32) (hp : vp_in a1 8) : MF l y_M_fractionOf prog_12_method_14_code 2 (some .long) { frames := 1, cells := 0, slots := 0, locals := 21 } E [.ref 30, .int a1] (σ, τ, q) (some (.long (f_M_fractionOf τ a1))) (σ, τ, q) := by
  refine MF_intro (lv0 := [(0, .ref 30), (1, .int a1)]) (by decide) wd_999 (Nat.le_of_ble_eq_true rfl) rfl ?_
  intro p e s m args below meth c Q hC hr hk hQ
  replace hC : Cx p s m args c prog_12_method_14_code 2 "PartnerStackModel" E := hC
  refine wi_aload_n hC 0 d_M_fractionOf_0 rfl rfl ?_
  refine wg_M_empty hC wd_947 d_M_fractionOf_1 ?_
  refine wi_aload_n hC 0 d_M_fractionOf_4 rfl rfl ?_
  refine wi_iload_n hC 1 d_M_fractionOf_5 rfl rfl ?_
  refine k_M_st hC  wd_989 (by decide) (Nat.le_of_ble_eq_true rfl) d_M_fractionOf_6 ?_
  refine wi_inv (fun hv1 => ?_)
  refine wa_ld34 hC (st_in hv1.2.1 hp) d_M_fractionOf_9 ?_
  obtain ⟨Tt1, eTt1⟩ : ∃ y : Int64, y = (
          if gZ τ 103 (jat (f_M_st τ a1)) = true then
            (-4611686018427387904)
          else
            gJ τ 102 (jat (f_M_st τ a1))) := ⟨_, rfl⟩
  have Jt1 : ∀ (t1 : Int64), Tt1 = t1 → WS p l e { frames := 1, cells := 0, slots := 0, locals := 21 } s m args below meth c Q E 2 29 [(0, .ref 30), (1, .int a1)] [.long t1] (σ, τ, q) := by
    intro t1  e_t1
    rw [eTt1] at e_t1
    have hf : f_M_fractionOf τ a1 = t1 := by subst e_t1; exact rfl
    exact wi_lret hC hr hk d_M_fractionOf_29 (congrArg (fun z => some (Value.long z)) hf) rfl hQ
  refine wi_z_eq (b := (gZ τ 103 (jat (f_M_st τ a1)))) hC 19 d_M_fractionOf_10 (by decide) (fun h1 => ?_) (fun h1 => ?_)
  · skip
    refine wi_aload_n hC 0 d_M_fractionOf_19 rfl rfl ?_
    refine wg_M_fraction hC wd_985 d_M_fractionOf_20 ?_
    refine wi_aload_n hC 0 d_M_fractionOf_23 rfl rfl ?_
    refine wi_iload_n hC 1 d_M_fractionOf_24 rfl rfl ?_
    refine k_M_st hC  wd_989 (by decide) (Nat.le_of_ble_eq_true rfl) d_M_fractionOf_25 ?_
    refine wi_inv (fun hv2 => ?_)
    refine wa_ld33 hC (st_in hv2.2.1 hp) d_M_fractionOf_28 ?_
    exact Jt1 (gJ τ 102 (jat (f_M_st τ a1))) (by exact (Eq.trans eTt1 (if_neg h1)))
  · skip
    refine wi_ldc2 hC wd_998 d_M_fractionOf_13 ?_
    refine wi_goto hC 29 d_M_fractionOf_16 (by decide) ?_
    exact Jt1 (-4611686018427387904) (by exact (Eq.trans eTt1 (if_pos h1)))
theorem k_M_fractionOf {p : Program} {l : Launch} {e : Env} {R : Room} {s : State} {m : MethodId} {args : Array Value} {below : List Frame} {meth : Method} {c : Code} {Q : State → Prop} {E : Ev} {nL pc index : Nat} {lv : List (Nat × Value)} {rest : List Value} {cc : ByteArray} {own : String} {σ τ : St} {q : Int64} {a1 : Int32} (hC : Cx p s m args c cc nL own E)  (hp : vp_in a1 8) (hl : Cond.methodLink own index y_M_fractionOf ∈ WL) (hR : 1 + 1 ≤ R.frames ∧ 8 + (2 + 11) + 21 ≤ R.locals) (hs8 : (rest.map fun v => v.category).sum ≤ 8) (d : decode cc pc = .ok (.invokevirtual index, 3)) (k : WS p l e R s m args below meth c Q E nL (pc + 3) lv ((.long (f_M_fractionOf τ a1)) :: rest) (σ, τ, q)) : WS p l e R s m args below meth c Q E nL pc lv (.int a1 :: .ref 30 :: rest) (σ, τ, q) := by
  exact wi_callV hC (n := 1) (vs := [.int a1]) (rest := rest) 30 10 (by decide) rfl rfl rfl (c_M_fractionOf l E σ τ q a1 hp) (by decide +kernel) wd_999 wd_952 wd_1000 wd_1001 ⟨rfl, rfl⟩ rfl rfl hl hR hs8 d k
set_option maxRecDepth 100000 in
set_option maxHeartbeats 400000 in
theorem c_M_takeX (l : Launch) (E : Ev) (σ τ : St) (q : Int64) (a1 : Int32) (hp : vp_in a1 8) : MF l y_M_takeX prog_12_method_15_code 2 none { frames := 2, cells := 0, slots := 0, locals := 42 } E [.ref 30, .int a1] (σ, τ, q) none (σ, (f_M_takeX τ a1), q) := by
  refine MF_intro (lv0 := [(0, .ref 30), (1, .int a1)]) (by decide) wd_1006 (Nat.le_of_ble_eq_true rfl) rfl ?_
  intro p e s m args below meth c Q hC hr hk hQ
  replace hC : Cx p s m args c prog_12_method_15_code 2 "PartnerStackModel" E := hC
  refine wi_aload_n hC 0 d_M_takeX_0 rfl rfl ?_
  refine wi_aload_n hC 0 d_M_takeX_1 rfl rfl ?_
  refine wi_iload_n hC 1 d_M_takeX_2 rfl rfl ?_
  refine k_M_topOf hC hp wd_1002 (by decide) (Nat.le_of_ble_eq_true rfl) d_M_takeX_3 ?_
  refine wp_M_xTop hC wd_1003 d_M_takeX_6 ?_
  refine wi_nmM (fun s1 e_s1 => ?_)
  refine wi_aload_n hC 0 d_M_takeX_9 rfl rfl ?_
  refine wi_aload_n hC 0 d_M_takeX_10 rfl rfl ?_
  refine wi_iload_n hC 1 d_M_takeX_11 rfl rfl ?_
  refine k_M_fractionOf hC hp wd_1004 (by decide) (Nat.le_of_ble_eq_true rfl) d_M_takeX_12 ?_
  refine wp_M_xFraction hC wd_1005 d_M_takeX_15 ?_
  refine wi_nmM (fun s2 e_s2 => ?_)
  have hf : f_M_takeX τ a1 = s2 := by subst e_s2; subst e_s1; exact rfl
  exact wi_vret hC hr hk d_M_takeX_18 rfl (congrArg (fun z => (σ, z, q)) hf).symm hQ
theorem k_M_takeX {p : Program} {l : Launch} {e : Env} {R : Room} {s : State} {m : MethodId} {args : Array Value} {below : List Frame} {meth : Method} {c : Code} {Q : State → Prop} {E : Ev} {nL pc index : Nat} {lv : List (Nat × Value)} {rest : List Value} {cc : ByteArray} {own : String} {σ τ : St} {q : Int64} {a1 : Int32} (hC : Cx p s m args c cc nL own E)  (hp : vp_in a1 8) (hl : Cond.methodLink own index y_M_takeX ∈ WL) (hR : 2 + 1 ≤ R.frames ∧ 8 + (2 + 11) + 42 ≤ R.locals) (hs8 : (rest.map fun v => v.category).sum ≤ 8) (d : decode cc pc = .ok (.invokevirtual index, 3)) (k : WS p l e R s m args below meth c Q E nL (pc + 3) lv rest (σ, (f_M_takeX τ a1), q)) : WS p l e R s m args below meth c Q E nL pc lv (.int a1 :: .ref 30 :: rest) (σ, τ, q) := by
  exact wi_callV hC (n := 1) (vs := [.int a1]) (rest := rest) 30 10 (by decide) rfl rfl rfl (c_M_takeX l E σ τ q a1 hp) (by decide +kernel) wd_1006 wd_952 wd_1007 wd_1008 ⟨rfl, rfl⟩ rfl rfl hl hR hs8 d k
set_option maxRecDepth 100000 in
set_option maxHeartbeats 400000 in
theorem c_M_becomeX (l : Launch) (E : Ev) (σ τ : St) (q : Int64) (a1 : Int32) (hp : vp_in a1 8) : MF l y_M_becomeX prog_12_method_16_code 2 none { frames := 1, cells := 0, slots := 0, locals := 21 } E [.ref 30, .int a1] (σ, τ, q) none (σ, (f_M_becomeX τ a1), q) := by
  refine MF_intro (lv0 := [(0, .ref 30), (1, .int a1)]) (by decide) wd_1009 (Nat.le_of_ble_eq_true rfl) rfl ?_
  intro p e s m args below meth c Q hC hr hk hQ
  replace hC : Cx p s m args c prog_12_method_16_code 2 "PartnerStackModel" E := hC
  refine wi_aload_n hC 0 d_M_becomeX_0 rfl rfl ?_
  refine wg_M_top hC wd_983 d_M_becomeX_1 ?_
  refine wi_aload_n hC 0 d_M_becomeX_4 rfl rfl ?_
  refine wi_iload_n hC 1 d_M_becomeX_5 rfl rfl ?_
  refine k_M_st hC  wd_989 (by decide) (Nat.le_of_ble_eq_true rfl) d_M_becomeX_6 ?_
  refine wi_aload_n hC 0 d_M_becomeX_9 rfl rfl ?_
  refine wg_M_xTop hC wd_1003 d_M_becomeX_10 ?_
  refine wi_inv (fun hv1 => ?_)
  refine wa_st32 hC (st_in hv1.2.1 hp) d_M_becomeX_13 ?_
  refine wi_nmM (fun s1 e_s1 => ?_)
  refine wi_aload_n hC 0 d_M_becomeX_14 rfl rfl ?_
  refine wg_M_fraction hC wd_985 d_M_becomeX_15 ?_
  refine wi_aload_n hC 0 d_M_becomeX_18 rfl rfl ?_
  refine wi_iload_n hC 1 d_M_becomeX_19 rfl rfl ?_
  refine k_M_st hC  wd_989 (by decide) (Nat.le_of_ble_eq_true rfl) d_M_becomeX_20 ?_
  refine wi_aload_n hC 0 d_M_becomeX_23 rfl rfl ?_
  refine wg_M_xFraction hC wd_1005 d_M_becomeX_24 ?_
  refine wi_inv (fun hv2 => ?_)
  refine wa_st33 hC (st_in hv2.2.1 hp) d_M_becomeX_27 ?_
  refine wi_nmM (fun s2 e_s2 => ?_)
  refine wi_aload_n hC 0 d_M_becomeX_28 rfl rfl ?_
  refine wg_M_empty hC wd_947 d_M_becomeX_29 ?_
  refine wi_aload_n hC 0 d_M_becomeX_32 rfl rfl ?_
  refine wi_iload_n hC 1 d_M_becomeX_33 rfl rfl ?_
  refine k_M_st hC  wd_989 (by decide) (Nat.le_of_ble_eq_true rfl) d_M_becomeX_34 ?_
  refine wi_iconst hC 0 (by decide) d_M_becomeX_37 ?_
  refine wi_inv (fun hv3 => ?_)
  refine wa_st34 hC false rfl (st_in hv3.2.1 hp) d_M_becomeX_38 ?_
  refine wi_nmM (fun s3 e_s3 => ?_)
  have hf : f_M_becomeX τ a1 = s3 := by subst e_s3; subst e_s2; subst e_s1; exact rfl
  exact wi_vret hC hr hk d_M_becomeX_39 rfl (congrArg (fun z => (σ, z, q)) hf).symm hQ
theorem k_M_becomeX {p : Program} {l : Launch} {e : Env} {R : Room} {s : State} {m : MethodId} {args : Array Value} {below : List Frame} {meth : Method} {c : Code} {Q : State → Prop} {E : Ev} {nL pc index : Nat} {lv : List (Nat × Value)} {rest : List Value} {cc : ByteArray} {own : String} {σ τ : St} {q : Int64} {a1 : Int32} (hC : Cx p s m args c cc nL own E)  (hp : vp_in a1 8) (hl : Cond.methodLink own index y_M_becomeX ∈ WL) (hR : 1 + 1 ≤ R.frames ∧ 8 + (2 + 11) + 21 ≤ R.locals) (hs8 : (rest.map fun v => v.category).sum ≤ 8) (d : decode cc pc = .ok (.invokevirtual index, 3)) (k : WS p l e R s m args below meth c Q E nL (pc + 3) lv rest (σ, (f_M_becomeX τ a1), q)) : WS p l e R s m args below meth c Q E nL pc lv (.int a1 :: .ref 30 :: rest) (σ, τ, q) := by
  exact wi_callV hC (n := 1) (vs := [.int a1]) (rest := rest) 30 10 (by decide) rfl rfl rfl (c_M_becomeX l E σ τ q a1 hp) (by decide +kernel) wd_1009 wd_952 wd_1010 wd_1011 ⟨rfl, rfl⟩ rfl rfl hl hR hs8 d k
set_option maxRecDepth 100000 in
set_option maxHeartbeats 400000 in
theorem c_M_pop (l : Launch) (E : Ev) (σ τ : St) (q : Int64)   : MF l y_M_pop prog_12_method_17_code 1 none { frames := 0, cells := 0, slots := 0, locals := 0 } E [.ref 30] (σ, τ, q) none (σ, (f_M_pop τ), q) := by
  refine MF_intro (lv0 := [(0, .ref 30)]) (by decide) wd_1012 (Nat.le_of_ble_eq_true rfl) rfl ?_
  intro p e s m args below meth c Q hC hr hk hQ
  replace hC : Cx p s m args c prog_12_method_17_code 1 "PartnerStackModel" E := hC
  refine wi_aload_n hC 0 d_M_pop_0 rfl rfl ?_
  refine wg_M_empty hC wd_947 d_M_pop_1 ?_
  refine wi_aload_n hC 0 d_M_pop_4 rfl rfl ?_
  refine wg_M_first hC wd_946 d_M_pop_5 ?_
  refine wi_iconst hC 1 (by decide) d_M_pop_8 ?_
  refine wi_inv (fun hv1 => ?_)
  refine wa_st34 hC true rfl hv1.2.1 d_M_pop_9 ?_
  refine wi_nmM (fun s1 e_s1 => ?_)
  refine wi_aload_n hC 0 d_M_pop_10 rfl rfl ?_
  refine wi_aload_n hC 0 d_M_pop_11 rfl rfl ?_
  refine wg_M_first hC wd_946 d_M_pop_12 ?_
  refine wi_iconst hC 1 (by decide) d_M_pop_15 ?_
  refine wi_iadd hC d_M_pop_16 ?_
  refine wi_bipush hC 8 (by decide) d_M_pop_17 ?_
  refine wi_irem hC (by decide) d_M_pop_19 ?_
  refine wi_inv (fun hv2 => ?_)
  refine wp_M_first hC (st_in hv2.2.1 (by unfold vp_in; decide)) wd_946 d_M_pop_20 ?_
  refine wi_nmM (fun s2 e_s2 => ?_)
  have hf : f_M_pop τ = s2 := by subst e_s2; subst e_s1; exact rfl
  exact wi_vret hC hr hk d_M_pop_23 rfl (congrArg (fun z => (σ, z, q)) hf).symm hQ
theorem k_M_pop {p : Program} {l : Launch} {e : Env} {R : Room} {s : State} {m : MethodId} {args : Array Value} {below : List Frame} {meth : Method} {c : Code} {Q : State → Prop} {E : Ev} {nL pc index : Nat} {lv : List (Nat × Value)} {rest : List Value} {cc : ByteArray} {own : String} {σ τ : St} {q : Int64}  (hC : Cx p s m args c cc nL own E)   (hl : Cond.methodLink own index y_M_pop ∈ WL) (hR : 0 + 1 ≤ R.frames ∧ 8 + (1 + 11) + 0 ≤ R.locals) (hs8 : (rest.map fun v => v.category).sum ≤ 8) (d : decode cc pc = .ok (.invokevirtual index, 3)) (k : WS p l e R s m args below meth c Q E nL (pc + 3) lv rest (σ, (f_M_pop τ), q)) : WS p l e R s m args below meth c Q E nL pc lv (.ref 30 :: rest) (σ, τ, q) := by
  exact wi_callV hC (n := 0) (vs := []) (rest := rest) 30 10 (by decide) rfl rfl rfl (c_M_pop l E σ τ q  ) (by decide +kernel) wd_1012 wd_952 wd_1013 wd_1014 ⟨rfl, rfl⟩ rfl rfl hl hR hs8 d k
set_option maxRecDepth 100000 in
set_option maxHeartbeats 400000 in
theorem c_M_isFull (l : Launch) (E : Ev) (σ τ : St) (q : Int64)   : MF l y_M_isFull prog_12_method_18_code 2 (some .boolean) { frames := 1, cells := 0, slots := 0, locals := 22 } E [.ref 30] (σ, τ, q) (some (.int (bI ((f_M_isFull τ).1)))) (σ, (f_M_isFull τ).2, q) := by
  refine MF_intro (lv0 := [(0, .ref 30)]) (by decide) wd_1015 (Nat.le_of_ble_eq_true rfl) rfl ?_
  intro p e s m args below meth c Q hC hr hk hQ
  replace hC : Cx p s m args c prog_12_method_18_code 2 "PartnerStackModel" E := hC
  refine wi_aload_n hC 0 d_M_isFull_0 rfl rfl ?_
  refine wg_M_empty hC wd_947 d_M_isFull_1 ?_
  refine wi_aload_n hC 0 d_M_isFull_4 rfl rfl ?_
  refine wi_bipush hC 7 (by decide) d_M_isFull_5 ?_
  refine k_M_st hC  wd_989 (by decide) (Nat.le_of_ble_eq_true rfl) d_M_isFull_7 ?_
  refine wi_inv (fun hv1 => ?_)
  refine wa_ld34 hC (st_in hv1.2.1 (by unfold vp_in; decide)) d_M_isFull_10 ?_
  obtain ⟨Tt1, eTt1⟩ : ∃ y : Bool, y = (
          if gZ τ 103 (jat (f_M_st τ 7)) = true then
            false
          else
            true) := ⟨_, rfl⟩
  have Jt1 : ∀ (t1 : Bool), Tt1 = t1 → WS p l e { frames := 1, cells := 0, slots := 0, locals := 22 } s m args below meth c Q E 2 19 [(0, .ref 30)] [.int (bI t1)] (σ, τ, q) := by
    intro t1  e_t1
    rw [eTt1] at e_t1
    refine wi_istore_n hC [(1, .int (bI t1)), (0, .ref 30)] d_M_isFull_19 rfl (by decide) rfl ?_
    refine wi_iload_n hC 0 d_M_isFull_20 rfl rfl ?_
    obtain ⟨Tt2, eTt2⟩ : ∃ y : St, y = (
            if t1 = true then
              let s1 : St := f_M_say τ 1
              s1
            else
              τ) := ⟨_, rfl⟩
    have Jt2 : ∀ (t2 : St), Tt2 = t2 → WS p l e { frames := 1, cells := 0, slots := 0, locals := 22 } s m args below meth c Q E 2 29 [(1, .int (bI t1)), (0, .ref 30)] [] (σ, t2, q) := by
      intro t2  e_t2
      rw [eTt2] at e_t2
      refine wi_iload_n hC 0 d_M_isFull_29 rfl rfl ?_
      have hf : f_M_isFull τ = (t1, t2) := by subst e_t2; subst e_t1; exact rfl
      exact wi_zret hC hr hk d_M_isFull_30 rfl (congrArg (fun z => some (Value.int (bI z.1))) hf) (congrArg (fun z => (σ, z.2, q)) hf).symm hQ
    refine wi_z_eq (b := t1) hC 29 d_M_isFull_21 (by decide) (fun h2 => ?_) (fun h2 => ?_)
    · skip
      exact Jt2 τ (by exact (Eq.trans eTt2 (if_neg h2)))
    · skip
      refine wi_aload_n hC 1 d_M_isFull_24 rfl rfl ?_
      refine wi_iconst hC 1 (by decide) d_M_isFull_25 ?_
      refine k_M_say hC  wd_990 (by decide) (Nat.le_of_ble_eq_true rfl) d_M_isFull_26 ?_
      refine wi_nmM (fun s1 e_s1 => ?_)
      exact Jt2 s1 (by subst e_s1; exact (Eq.trans eTt2 (if_pos h2)))
  refine wi_z_ne (b := (gZ τ 103 (jat (f_M_st τ 7)))) hC 18 d_M_isFull_11 (by decide) (fun h1 => ?_) (fun h1 => ?_)
  · skip
    refine wi_iconst hC 0 (by decide) d_M_isFull_18 ?_
    exact Jt1 false (by exact (Eq.trans eTt1 (if_pos h1)))
  · skip
    refine wi_iconst hC 1 (by decide) d_M_isFull_14 ?_
    refine wi_goto hC 19 d_M_isFull_15 (by decide) ?_
    exact Jt1 true (by exact (Eq.trans eTt1 (if_neg h1)))
theorem k_M_isFull {p : Program} {l : Launch} {e : Env} {R : Room} {s : State} {m : MethodId} {args : Array Value} {below : List Frame} {meth : Method} {c : Code} {Q : State → Prop} {E : Ev} {nL pc index : Nat} {lv : List (Nat × Value)} {rest : List Value} {cc : ByteArray} {own : String} {σ τ : St} {q : Int64}  (hC : Cx p s m args c cc nL own E)   (hl : Cond.methodLink own index y_M_isFull ∈ WL) (hR : 1 + 1 ≤ R.frames ∧ 8 + (2 + 11) + 22 ≤ R.locals) (hs8 : (rest.map fun v => v.category).sum ≤ 8) (d : decode cc pc = .ok (.invokevirtual index, 3)) (k : WS p l e R s m args below meth c Q E nL (pc + 3) lv ((.int (bI ((f_M_isFull τ).1))) :: rest) (σ, (f_M_isFull τ).2, q)) : WS p l e R s m args below meth c Q E nL pc lv (.ref 30 :: rest) (σ, τ, q) := by
  exact wi_callV hC (n := 0) (vs := []) (rest := rest) 30 10 (by decide) rfl rfl rfl (c_M_isFull l E σ τ q  ) (by decide +kernel) wd_1015 wd_952 wd_1016 wd_1017 ⟨rfl, rfl⟩ rfl rfl hl hR hs8 d k
set_option maxRecDepth 100000 in
set_option maxHeartbeats 400000 in
theorem c_M_push (l : Launch) (E : Ev) (σ τ : St) (q : Int64) (a1 : Bool)  : MF l y_M_push prog_12_method_19_code 2 none { frames := 2, cells := 0, slots := 0, locals := 42 } E [.ref 30, .int (bI a1)] (σ, τ, q) none (σ, (f_M_push τ a1), q) := by
  refine MF_intro (lv0 := [(0, .ref 30), (1, .int (bI a1))]) (by decide) wd_1019 (Nat.le_of_ble_eq_true rfl) rfl ?_
  intro p e s m args below meth c Q hC hr hk hQ
  replace hC : Cx p s m args c prog_12_method_19_code 2 "PartnerStackModel" E := hC
  refine wi_aload_n hC 0 d_M_push_0 rfl rfl ?_
  refine wg_M_over hC wd_976 d_M_push_1 ?_
  refine wi_z_eq (b := (gZ τ 9 30)) hC 8 d_M_push_4 (by decide) (fun h1 => ?_) (fun h1 => ?_)
  · skip
    refine wi_aload_n hC 0 d_M_push_8 rfl rfl ?_
    refine wi_aload_n hC 0 d_M_push_9 rfl rfl ?_
    refine wg_M_first hC wd_946 d_M_push_10 ?_
    refine wi_bipush hC 7 (by decide) d_M_push_13 ?_
    refine wi_iadd hC d_M_push_15 ?_
    refine wi_bipush hC 8 (by decide) d_M_push_16 ?_
    refine wi_irem hC (by decide) d_M_push_18 ?_
    refine wi_inv (fun hv1 => ?_)
    refine wp_M_first hC (st_in hv1.2.1 (by unfold vp_in; decide)) wd_946 d_M_push_19 ?_
    refine wi_nmM (fun s1 e_s1 => ?_)
    refine wi_iload_n hC 1 d_M_push_22 rfl rfl ?_
    obtain ⟨Tt1, eTt1⟩ : ∃ y : St, y = (
            if a1 = true then
              let s2 : St := sI s1 13 30 65535
              let s3 : St := sJ s2 14 30 (-4611686018427387904)
              s3
            else
              s1) := ⟨_, rfl⟩
    have Jt1 : ∀ (t1 : St), Tt1 = t1 → WS p l e { frames := 2, cells := 0, slots := 0, locals := 42 } s m args below meth c Q E 2 39 [(0, .ref 30), (1, .int (bI a1))] [] (σ, t1, q) := by
      intro t1  e_t1
      rw [eTt1] at e_t1
      refine wi_aload_n hC 0 d_M_push_39 rfl rfl ?_
      refine wi_iconst hC 0 (by decide) d_M_push_40 ?_
      refine k_M_becomeX hC (by unfold vp_in; decide) wd_1018 (by decide) (Nat.le_of_ble_eq_true rfl) d_M_push_41 ?_
      refine wi_nmM (fun s4 e_s4 => ?_)
      have hf : f_M_push τ a1 = s4 := by subst e_s4; subst e_t1; subst e_s1; exact (if_neg h1)
      exact wi_vret hC hr hk d_M_push_44 rfl (congrArg (fun z => (σ, z, q)) hf).symm hQ
    refine wi_z_eq (b := a1) hC 39 d_M_push_23 (by decide) (fun h2 => ?_) (fun h2 => ?_)
    · skip
      exact Jt1 s1 (by exact (Eq.trans eTt1 (if_neg h2)))
    · skip
      refine wi_aload_n hC 0 d_M_push_26 rfl rfl ?_
      refine wi_ldc hC wd_994 d_M_push_27 ?_
      refine wp_M_xTop hC wd_1003 d_M_push_29 ?_
      refine wi_nmM (fun s2 e_s2 => ?_)
      refine wi_aload_n hC 0 d_M_push_32 rfl rfl ?_
      refine wi_ldc2 hC wd_998 d_M_push_33 ?_
      refine wp_M_xFraction hC wd_1005 d_M_push_36 ?_
      refine wi_nmM (fun s3 e_s3 => ?_)
      exact Jt1 s3 (by subst e_s3; subst e_s2; exact (Eq.trans eTt1 (if_pos h2)))
  · skip
    have hf : f_M_push τ a1 = τ := by exact (if_pos h1)
    exact wi_vret hC hr hk d_M_push_7 rfl (congrArg (fun z => (σ, z, q)) hf).symm hQ
theorem k_M_push {p : Program} {l : Launch} {e : Env} {R : Room} {s : State} {m : MethodId} {args : Array Value} {below : List Frame} {meth : Method} {c : Code} {Q : State → Prop} {E : Ev} {nL pc index : Nat} {lv : List (Nat × Value)} {rest : List Value} {cc : ByteArray} {own : String} {σ τ : St} {q : Int64}  (hC : Cx p s m args c cc nL own E) {x_a1 : Int32} (a1 : Bool) (hx_a1 : x_a1 = bI a1)  (hl : Cond.methodLink own index y_M_push ∈ WL) (hR : 2 + 1 ≤ R.frames ∧ 8 + (2 + 11) + 42 ≤ R.locals) (hs8 : (rest.map fun v => v.category).sum ≤ 8) (d : decode cc pc = .ok (.invokevirtual index, 3)) (k : WS p l e R s m args below meth c Q E nL (pc + 3) lv rest (σ, (f_M_push τ a1), q)) : WS p l e R s m args below meth c Q E nL pc lv (.int x_a1 :: .ref 30 :: rest) (σ, τ, q) := by
  subst hx_a1
  exact wi_callV hC (n := 1) (vs := [.int (bI a1)]) (rest := rest) 30 10 (by decide) rfl rfl rfl (c_M_push l E σ τ q a1 ) (by decide +kernel) wd_1019 wd_952 wd_1020 wd_1021 ⟨rfl, rfl⟩ rfl rfl hl hR hs8 d k
set_option maxRecDepth 100000 in
set_option maxHeartbeats 400000 in
theorem c_M_kindOf (l : Launch) (E : Ev) (σ τ : St) (q : Int64) (a1 : Int32) (a2 : Int32)  : MF l y_M_kindOf prog_12_method_20_code 7 (some .int) { frames := 0, cells := 0, slots := 0, locals := 0 } E [.ref 30, .int a1, .int a2] (σ, τ, q) (some (.int (f_M_kindOf a1 a2))) (σ, τ, q) := by
  refine MF_intro (lv0 := [(0, .ref 30), (1, .int a1), (2, .int a2)]) (by decide) wd_1022 (Nat.le_of_ble_eq_true rfl) rfl ?_
  intro p e s m args below meth c Q hC hr hk hQ
  replace hC : Cx p s m args c prog_12_method_20_code 7 "PartnerStackModel" E := hC
  refine wi_iload_n hC 2 d_M_kindOf_0 rfl rfl ?_
  refine wi_bipush hC 64 (by decide) d_M_kindOf_1 ?_
  refine wi_idiv hC (by decide) d_M_kindOf_3 ?_
  refine wi_nmI (fun v1 e_v1 => ?_)
  refine wi_istore_n hC [(3, .int v1), (0, .ref 30), (1, .int a1), (2, .int a2)] d_M_kindOf_4 rfl (by decide) rfl ?_
  refine wi_iload_n hC 3 d_M_kindOf_5 rfl rfl ?_
  refine wi_bipush hC 8 (by decide) d_M_kindOf_6 ?_
  refine wi_idiv hC (by decide) d_M_kindOf_8 ?_
  refine wi_bipush hC 8 (by decide) d_M_kindOf_9 ?_
  refine wi_irem hC (by decide) d_M_kindOf_11 ?_
  refine wi_nmI (fun v2 e_v2 => ?_)
  refine wi_istore hC [(4, .int v2), (3, .int v1), (0, .ref 30), (1, .int a1), (2, .int a2)] d_M_kindOf_12 (by decide) rfl ?_
  refine wi_iload_n hC 4 d_M_kindOf_14 rfl rfl ?_
  refine wi_bipush hC 8 (by decide) d_M_kindOf_15 ?_
  refine wi_irem hC (by decide) d_M_kindOf_17 ?_
  refine wi_nmI (fun v3 e_v3 => ?_)
  refine wi_istore hC [(5, .int v3), (4, .int v2), (3, .int v1), (0, .ref 30), (1, .int a1), (2, .int a2)] d_M_kindOf_18 (by decide) rfl ?_
  refine wi_iload_n hC 2 d_M_kindOf_20 rfl rfl ?_
  refine wi_iconst hC 3 (by decide) d_M_kindOf_21 ?_
  refine wi_icmp_ge hC 169 d_M_kindOf_22 (by decide) (fun h1 => ?_) (fun h1 => ?_)
  · skip
    refine wi_iload_n hC 4 d_M_kindOf_169 rfl rfl ?_
    refine wi_iconst hC 1 (by decide) d_M_kindOf_170 ?_
    have B1 : f_M_kindOf a1 a2 = f_M_kindOf_b187 a1 v2 v3 → WS p l e { frames := 0, cells := 0, slots := 0, locals := 0 } s m args below meth c Q E 7 187 [(5, .int v3), (4, .int v2), (3, .int v1), (0, .ref 30), (1, .int a1), (2, .int a2)] [] (σ, τ, q) := by
      intro hB1
      refine wi_iload_n hC 4 d_M_kindOf_187 rfl rfl ?_
      refine wi_iconst hC 1 (by decide) d_M_kindOf_188 ?_
      have B2 : f_M_kindOf a1 a2 = f_M_kindOf_b207 a1 v2 v3 → WS p l e { frames := 0, cells := 0, slots := 0, locals := 0 } s m args below meth c Q E 7 207 [(5, .int v3), (4, .int v2), (3, .int v1), (0, .ref 30), (1, .int a1), (2, .int a2)] [] (σ, τ, q) := by
        intro hB2
        refine wi_iload_n hC 4 d_M_kindOf_207 rfl rfl ?_
        refine wi_by (a1 = 0) (fun h8 => ?_) (fun h8 => ?_)
        · skip
          refine wi_tsIn hC 0 252 d_M_kindOf_208 (by rw [h8]; decide) (by decide) rfl (by decide) ?_
          refine wi_iconst hC 0 (by decide) d_M_kindOf_252 ?_
          have hf : f_M_kindOf a1 a2 = 0 := by exact (Eq.trans hB2 (if_pos h8))
          exact wi_iret hC hr hk d_M_kindOf_253 (congrArg (fun z => some (Value.int z)) hf) rfl hQ
        · skip
          refine wi_by (a1 = 1) (fun h9 => ?_) (fun h9 => ?_)
          · skip
            refine wi_tsIn hC 1 254 d_M_kindOf_208 (by rw [h9]; decide) (by decide) rfl (by decide) ?_
            refine wi_iload hC 1 d_M_kindOf_254 rfl ?_
            refine wi_iconst hC 2 (by decide) d_M_kindOf_256 ?_
            obtain ⟨Tt1, eTt1⟩ : ∃ y : Bool, y = (
                    if v2 < 2 then
                      true
                    else
                      if v2 = 2 then
                        if v3 = 0 then
                          true
                        else
                          f_M_kindOf_b271 v2 v3
                      else
                        f_M_kindOf_b271 v2 v3) := ⟨_, rfl⟩
            have Jt1 : ∀ (t1 : Bool), Tt1 = t1 → WS p l e { frames := 0, cells := 0, slots := 0, locals := 0 } s m args below meth c Q E 7 375 [(5, .int v3), (4, .int v2), (3, .int v1), (0, .ref 30), (1, .int a1), (2, .int a2)] [.int (bI t1)] (σ, τ, q) := by
              intro t1  e_t1
              rw [eTt1] at e_t1
              refine wi_istore hC [(6, .int (bI t1)), (5, .int v3), (4, .int v2), (3, .int v1), (0, .ref 30), (1, .int a1), (2, .int a2)] d_M_kindOf_375 (by decide) rfl ?_
              refine wi_iload hC 0 d_M_kindOf_377 rfl ?_
              obtain ⟨Tt2, eTt2⟩ : ∃ y : Bool, y = (
                      if t1 = true then
                        false
                      else
                        true) := ⟨_, rfl⟩
              have Jt2 : ∀ (t2 : Bool), Tt2 = t2 → WS p l e { frames := 0, cells := 0, slots := 0, locals := 0 } s m args below meth c Q E 7 387 [(6, .int (bI t1)), (5, .int v3), (4, .int v2), (3, .int v1), (0, .ref 30), (1, .int a1), (2, .int a2)] [.int (bI t2)] (σ, τ, q) := by
                intro t2  e_t2
                rw [eTt2] at e_t2
                have hf : f_M_kindOf a1 a2 = bI t2 := by subst e_t2; subst e_t1; exact (Eq.trans hB2 (Eq.trans (if_neg h8) (if_pos h9)))
                exact wi_iret hC hr hk d_M_kindOf_387 (congrArg (fun z => some (Value.int z)) hf) rfl hQ
              refine wi_z_eq (b := t1) hC 386 d_M_kindOf_379 (by decide) (fun h29 => ?_) (fun h29 => ?_)
              · skip
                refine wi_iconst hC 1 (by decide) d_M_kindOf_386 ?_
                exact Jt2 true (by exact (Eq.trans eTt2 (if_neg h29)))
              · skip
                refine wi_iconst hC 0 (by decide) d_M_kindOf_382 ?_
                refine wi_goto hC 387 d_M_kindOf_383 (by decide) ?_
                exact Jt2 false (by exact (Eq.trans eTt2 (if_pos h29)))
            refine wi_icmp_lt hC 370 d_M_kindOf_257 (by decide) (fun h10 => ?_) (fun h10 => ?_)
            · skip
              refine wi_iconst hC 1 (by decide) d_M_kindOf_370 ?_
              refine wi_goto hC 375 d_M_kindOf_371 (by decide) ?_
              exact Jt1 true (by exact (Eq.trans eTt1 (if_pos h10)))
            · skip
              refine wi_iload hC 1 d_M_kindOf_260 rfl ?_
              refine wi_iconst hC 2 (by decide) d_M_kindOf_262 ?_
              have B3 : Tt1 = f_M_kindOf_b271 v2 v3 → WS p l e { frames := 0, cells := 0, slots := 0, locals := 0 } s m args below meth c Q E 7 271 [(5, .int v3), (4, .int v2), (3, .int v1), (0, .ref 30), (1, .int a1), (2, .int a2)] [] (σ, τ, q) := by
                intro hB3
                refine wi_iload hC 1 d_M_kindOf_271 rfl ?_
                refine wi_iconst hC 4 (by decide) d_M_kindOf_273 ?_
                have B4 : Tt1 = f_M_kindOf_b300 v2 v3 → WS p l e { frames := 0, cells := 0, slots := 0, locals := 0 } s m args below meth c Q E 7 300 [(5, .int v3), (4, .int v2), (3, .int v1), (0, .ref 30), (1, .int a1), (2, .int a2)] [] (σ, τ, q) := by
                  intro hB4
                  refine wi_iload hC 1 d_M_kindOf_300 rfl ?_
                  refine wi_iconst hC 5 (by decide) d_M_kindOf_302 ?_
                  have B5 : Tt1 = f_M_kindOf_b313 v2 v3 → WS p l e { frames := 0, cells := 0, slots := 0, locals := 0 } s m args below meth c Q E 7 313 [(5, .int v3), (4, .int v2), (3, .int v1), (0, .ref 30), (1, .int a1), (2, .int a2)] [] (σ, τ, q) := by
                    intro hB5
                    refine wi_iload hC 1 d_M_kindOf_313 rfl ?_
                    refine wi_bipush hC 6 (by decide) d_M_kindOf_315 ?_
                    have B6 : Tt1 = f_M_kindOf_b340 v2 v3 → WS p l e { frames := 0, cells := 0, slots := 0, locals := 0 } s m args below meth c Q E 7 340 [(5, .int v3), (4, .int v2), (3, .int v1), (0, .ref 30), (1, .int a1), (2, .int a2)] [] (σ, τ, q) := by
                      intro hB6
                      refine wi_iload hC 1 d_M_kindOf_340 rfl ?_
                      refine wi_bipush hC 7 (by decide) d_M_kindOf_342 ?_
                      refine wi_icmp_ne hC 374 d_M_kindOf_344 (by decide) (fun h24 => ?_) (fun h24 => ?_)
                      · skip
                        refine wi_iconst hC 0 (by decide) d_M_kindOf_374 ?_
                        exact Jt1 false (by exact (Eq.trans hB6 (if_neg h24)))
                      · skip
                        refine wi_iload hC 0 d_M_kindOf_347 rfl ?_
                        refine wi_if_eq hC 370 d_M_kindOf_349 (by decide) (fun h25 => ?_) (fun h25 => ?_)
                        · skip
                          refine wi_iconst hC 1 (by decide) d_M_kindOf_370 ?_
                          refine wi_goto hC 375 d_M_kindOf_371 (by decide) ?_
                          exact Jt1 true (by exact (Eq.trans hB6 (Eq.trans (if_pos h24) (if_pos h25))))
                        · skip
                          refine wi_iload hC 0 d_M_kindOf_352 rfl ?_
                          refine wi_iconst hC 2 (by decide) d_M_kindOf_354 ?_
                          refine wi_icmp_eq hC 370 d_M_kindOf_355 (by decide) (fun h26 => ?_) (fun h26 => ?_)
                          · skip
                            refine wi_iconst hC 1 (by decide) d_M_kindOf_370 ?_
                            refine wi_goto hC 375 d_M_kindOf_371 (by decide) ?_
                            exact Jt1 true (by exact (Eq.trans hB6 (Eq.trans (if_pos h24) (Eq.trans (if_neg h25) (if_pos h26)))))
                          · skip
                            refine wi_iload hC 0 d_M_kindOf_358 rfl ?_
                            refine wi_iconst hC 4 (by decide) d_M_kindOf_360 ?_
                            refine wi_icmp_eq hC 370 d_M_kindOf_361 (by decide) (fun h27 => ?_) (fun h27 => ?_)
                            · skip
                              refine wi_iconst hC 1 (by decide) d_M_kindOf_370 ?_
                              refine wi_goto hC 375 d_M_kindOf_371 (by decide) ?_
                              exact Jt1 true (by exact (Eq.trans hB6 (Eq.trans (if_pos h24) (Eq.trans (if_neg h25) (Eq.trans (if_neg h26) (if_pos h27))))))
                            · skip
                              refine wi_iload hC 0 d_M_kindOf_364 rfl ?_
                              refine wi_iconst hC 5 (by decide) d_M_kindOf_366 ?_
                              refine wi_icmp_ne hC 374 d_M_kindOf_367 (by decide) (fun h28 => ?_) (fun h28 => ?_)
                              · skip
                                refine wi_iconst hC 0 (by decide) d_M_kindOf_374 ?_
                                exact Jt1 false (by exact (Eq.trans hB6 (Eq.trans (if_pos h24) (Eq.trans (if_neg h25) (Eq.trans (if_neg h26) (Eq.trans (if_neg h27) (if_neg h28)))))))
                              · skip
                                refine wi_iconst hC 1 (by decide) d_M_kindOf_370 ?_
                                refine wi_goto hC 375 d_M_kindOf_371 (by decide) ?_
                                exact Jt1 true (by exact (Eq.trans hB6 (Eq.trans (if_pos h24) (Eq.trans (if_neg h25) (Eq.trans (if_neg h26) (Eq.trans (if_neg h27) (if_pos h28)))))))
                    refine wi_icmp_ne hC 340 d_M_kindOf_317 (by decide) (fun h20 => ?_) (fun h20 => ?_)
                    · skip
                      exact B6   (by exact (Eq.trans hB5 (if_neg h20)))
                    · skip
                      refine wi_iload hC 0 d_M_kindOf_320 rfl ?_
                      refine wi_iconst hC 4 (by decide) d_M_kindOf_322 ?_
                      refine wi_icmp_eq hC 370 d_M_kindOf_323 (by decide) (fun h21 => ?_) (fun h21 => ?_)
                      · skip
                        refine wi_iconst hC 1 (by decide) d_M_kindOf_370 ?_
                        refine wi_goto hC 375 d_M_kindOf_371 (by decide) ?_
                        exact Jt1 true (by exact (Eq.trans hB5 (Eq.trans (if_pos h20) (if_pos h21))))
                      · skip
                        refine wi_iload hC 0 d_M_kindOf_326 rfl ?_
                        refine wi_bipush hC 6 (by decide) d_M_kindOf_328 ?_
                        refine wi_icmp_eq hC 370 d_M_kindOf_330 (by decide) (fun h22 => ?_) (fun h22 => ?_)
                        · skip
                          refine wi_iconst hC 1 (by decide) d_M_kindOf_370 ?_
                          refine wi_goto hC 375 d_M_kindOf_371 (by decide) ?_
                          exact Jt1 true (by exact (Eq.trans hB5 (Eq.trans (if_pos h20) (Eq.trans (if_neg h21) (if_pos h22)))))
                        · skip
                          refine wi_iload hC 0 d_M_kindOf_333 rfl ?_
                          refine wi_bipush hC 7 (by decide) d_M_kindOf_335 ?_
                          refine wi_icmp_eq hC 370 d_M_kindOf_337 (by decide) (fun h23 => ?_) (fun h23 => ?_)
                          · skip
                            refine wi_iconst hC 1 (by decide) d_M_kindOf_370 ?_
                            refine wi_goto hC 375 d_M_kindOf_371 (by decide) ?_
                            exact Jt1 true (by exact (Eq.trans hB5 (Eq.trans (if_pos h20) (Eq.trans (if_neg h21) (Eq.trans (if_neg h22) (if_pos h23))))))
                          · skip
                            exact B6   (by exact (Eq.trans hB5 (Eq.trans (if_pos h20) (Eq.trans (if_neg h21) (Eq.trans (if_neg h22) (if_neg h23))))))
                  refine wi_icmp_ne hC 313 d_M_kindOf_303 (by decide) (fun h18 => ?_) (fun h18 => ?_)
                  · skip
                    exact B5   (by exact (Eq.trans hB4 (if_neg h18)))
                  · skip
                    refine wi_iload hC 0 d_M_kindOf_306 rfl ?_
                    refine wi_bipush hC 7 (by decide) d_M_kindOf_308 ?_
                    refine wi_icmp_ne hC 370 d_M_kindOf_310 (by decide) (fun h19 => ?_) (fun h19 => ?_)
                    · skip
                      refine wi_iconst hC 1 (by decide) d_M_kindOf_370 ?_
                      refine wi_goto hC 375 d_M_kindOf_371 (by decide) ?_
                      exact Jt1 true (by exact (Eq.trans hB4 (Eq.trans (if_pos h18) (if_neg h19))))
                    · skip
                      exact B5   (by exact (Eq.trans hB4 (Eq.trans (if_pos h18) (if_pos h19))))
                refine wi_icmp_ne hC 300 d_M_kindOf_274 (by decide) (fun h13 => ?_) (fun h13 => ?_)
                · skip
                  exact B4   (by exact (Eq.trans hB3 (if_neg h13)))
                · skip
                  refine wi_iload hC 0 d_M_kindOf_277 rfl ?_
                  refine wi_if_eq hC 370 d_M_kindOf_279 (by decide) (fun h14 => ?_) (fun h14 => ?_)
                  · skip
                    refine wi_iconst hC 1 (by decide) d_M_kindOf_370 ?_
                    refine wi_goto hC 375 d_M_kindOf_371 (by decide) ?_
                    exact Jt1 true (by exact (Eq.trans hB3 (Eq.trans (if_pos h13) (if_pos h14))))
                  · skip
                    refine wi_iload hC 0 d_M_kindOf_282 rfl ?_
                    refine wi_iconst hC 1 (by decide) d_M_kindOf_284 ?_
                    refine wi_icmp_eq hC 370 d_M_kindOf_285 (by decide) (fun h15 => ?_) (fun h15 => ?_)
                    · skip
                      refine wi_iconst hC 1 (by decide) d_M_kindOf_370 ?_
                      refine wi_goto hC 375 d_M_kindOf_371 (by decide) ?_
                      exact Jt1 true (by exact (Eq.trans hB3 (Eq.trans (if_pos h13) (Eq.trans (if_neg h14) (if_pos h15)))))
                    · skip
                      refine wi_iload hC 0 d_M_kindOf_288 rfl ?_
                      refine wi_iconst hC 4 (by decide) d_M_kindOf_290 ?_
                      refine wi_icmp_eq hC 370 d_M_kindOf_291 (by decide) (fun h16 => ?_) (fun h16 => ?_)
                      · skip
                        refine wi_iconst hC 1 (by decide) d_M_kindOf_370 ?_
                        refine wi_goto hC 375 d_M_kindOf_371 (by decide) ?_
                        exact Jt1 true (by exact (Eq.trans hB3 (Eq.trans (if_pos h13) (Eq.trans (if_neg h14) (Eq.trans (if_neg h15) (if_pos h16))))))
                      · skip
                        refine wi_iload hC 0 d_M_kindOf_294 rfl ?_
                        refine wi_iconst hC 5 (by decide) d_M_kindOf_296 ?_
                        refine wi_icmp_eq hC 370 d_M_kindOf_297 (by decide) (fun h17 => ?_) (fun h17 => ?_)
                        · skip
                          refine wi_iconst hC 1 (by decide) d_M_kindOf_370 ?_
                          refine wi_goto hC 375 d_M_kindOf_371 (by decide) ?_
                          exact Jt1 true (by exact (Eq.trans hB3 (Eq.trans (if_pos h13) (Eq.trans (if_neg h14) (Eq.trans (if_neg h15) (Eq.trans (if_neg h16) (if_pos h17)))))))
                        · skip
                          exact B4   (by exact (Eq.trans hB3 (Eq.trans (if_pos h13) (Eq.trans (if_neg h14) (Eq.trans (if_neg h15) (Eq.trans (if_neg h16) (if_neg h17)))))))
              refine wi_icmp_ne hC 271 d_M_kindOf_263 (by decide) (fun h11 => ?_) (fun h11 => ?_)
              · skip
                exact B3   (by exact (Eq.trans eTt1 (Eq.trans (if_neg h10) (if_neg h11))))
              · skip
                refine wi_iload hC 0 d_M_kindOf_266 rfl ?_
                refine wi_if_eq hC 370 d_M_kindOf_268 (by decide) (fun h12 => ?_) (fun h12 => ?_)
                · skip
                  refine wi_iconst hC 1 (by decide) d_M_kindOf_370 ?_
                  refine wi_goto hC 375 d_M_kindOf_371 (by decide) ?_
                  exact Jt1 true (by exact (Eq.trans eTt1 (Eq.trans (if_neg h10) (Eq.trans (if_pos h11) (if_pos h12)))))
                · skip
                  exact B3   (by exact (Eq.trans eTt1 (Eq.trans (if_neg h10) (Eq.trans (if_pos h11) (if_neg h12)))))
          · skip
            refine wi_by (a1 = 2) (fun h30 => ?_) (fun h30 => ?_)
            · skip
              refine wi_tsIn hC 2 471 d_M_kindOf_208 (by rw [h30]; decide) (by decide) rfl (by decide) ?_
              refine wi_iconst hC 1 (by decide) d_M_kindOf_471 ?_
              have hf : f_M_kindOf a1 a2 = 1 := by exact (Eq.trans hB2 (Eq.trans (if_neg h8) (Eq.trans (if_neg h9) (if_pos h30))))
              exact wi_iret hC hr hk d_M_kindOf_472 (congrArg (fun z => some (Value.int z)) hf) rfl hQ
            · skip
              refine wi_by (a1 = 3) (fun h31 => ?_) (fun h31 => ?_)
              · skip
                refine wi_tsIn hC 3 388 d_M_kindOf_208 (by rw [h31]; decide) (by decide) rfl (by decide) ?_
                refine wi_iload hC 1 d_M_kindOf_388 rfl ?_
                refine wi_iconst hC 4 (by decide) d_M_kindOf_390 ?_
                obtain ⟨Tt3, eTt3⟩ : ∃ y : Bool, y = (
                        if v2 = 4 then
                          if 4 ≤ v3 then
                            true
                          else
                            false
                        else
                          true) := ⟨_, rfl⟩
                have Jt3 : ∀ (t3 : Bool), Tt3 = t3 → WS p l e { frames := 0, cells := 0, slots := 0, locals := 0 } s m args below meth c Q E 7 405 [(5, .int v3), (4, .int v2), (3, .int v1), (0, .ref 30), (1, .int a1), (2, .int a2)] [.int (bI t3)] (σ, τ, q) := by
                  intro t3  e_t3
                  rw [eTt3] at e_t3
                  have hf : f_M_kindOf a1 a2 = bI t3 := by subst e_t3; exact (Eq.trans hB2 (Eq.trans (if_neg h8) (Eq.trans (if_neg h9) (Eq.trans (if_neg h30) (if_pos h31)))))
                  exact wi_iret hC hr hk d_M_kindOf_405 (congrArg (fun z => some (Value.int z)) hf) rfl hQ
                refine wi_icmp_ne hC 404 d_M_kindOf_391 (by decide) (fun h32 => ?_) (fun h32 => ?_)
                · skip
                  refine wi_iconst hC 1 (by decide) d_M_kindOf_404 ?_
                  exact Jt3 true (by exact (Eq.trans eTt3 (if_neg h32)))
                · skip
                  refine wi_iload hC 0 d_M_kindOf_394 rfl ?_
                  refine wi_iconst hC 4 (by decide) d_M_kindOf_396 ?_
                  refine wi_icmp_ge hC 404 d_M_kindOf_397 (by decide) (fun h33 => ?_) (fun h33 => ?_)
                  · skip
                    refine wi_iconst hC 1 (by decide) d_M_kindOf_404 ?_
                    exact Jt3 true (by exact (Eq.trans eTt3 (Eq.trans (if_pos h32) (if_pos h33))))
                  · skip
                    refine wi_iconst hC 0 (by decide) d_M_kindOf_400 ?_
                    refine wi_goto hC 405 d_M_kindOf_401 (by decide) ?_
                    exact Jt3 false (by exact (Eq.trans eTt3 (Eq.trans (if_pos h32) (if_neg h33))))
              · skip
                refine wi_by (a1 = 4) (fun h34 => ?_) (fun h34 => ?_)
                · skip
                  refine wi_tsIn hC 4 406 d_M_kindOf_208 (by rw [h34]; decide) (by decide) rfl (by decide) ?_
                  refine wi_iload hC 1 d_M_kindOf_406 rfl ?_
                  refine wi_iconst hC 2 (by decide) d_M_kindOf_408 ?_
                  obtain ⟨Tt4, eTt4⟩ : ∃ y : Bool, y = (
                          if v2 = 2 then
                            true
                          else
                            if v2 = 3 then
                              true
                            else
                              false) := ⟨_, rfl⟩
                  have Jt4 : ∀ (t4 : Bool), Tt4 = t4 → WS p l e { frames := 0, cells := 0, slots := 0, locals := 0 } s m args below meth c Q E 7 423 [(5, .int v3), (4, .int v2), (3, .int v1), (0, .ref 30), (1, .int a1), (2, .int a2)] [.int (bI t4)] (σ, τ, q) := by
                    intro t4  e_t4
                    rw [eTt4] at e_t4
                    have hf : f_M_kindOf a1 a2 = bI t4 := by subst e_t4; exact (Eq.trans hB2 (Eq.trans (if_neg h8) (Eq.trans (if_neg h9) (Eq.trans (if_neg h30) (Eq.trans (if_neg h31) (if_pos h34))))))
                    exact wi_iret hC hr hk d_M_kindOf_423 (congrArg (fun z => some (Value.int z)) hf) rfl hQ
                  refine wi_icmp_eq hC 418 d_M_kindOf_409 (by decide) (fun h35 => ?_) (fun h35 => ?_)
                  · skip
                    refine wi_iconst hC 1 (by decide) d_M_kindOf_418 ?_
                    refine wi_goto hC 423 d_M_kindOf_419 (by decide) ?_
                    exact Jt4 true (by exact (Eq.trans eTt4 (if_pos h35)))
                  · skip
                    refine wi_iload hC 1 d_M_kindOf_412 rfl ?_
                    refine wi_iconst hC 3 (by decide) d_M_kindOf_414 ?_
                    refine wi_icmp_ne hC 422 d_M_kindOf_415 (by decide) (fun h36 => ?_) (fun h36 => ?_)
                    · skip
                      refine wi_iconst hC 0 (by decide) d_M_kindOf_422 ?_
                      exact Jt4 false (by exact (Eq.trans eTt4 (Eq.trans (if_neg h35) (if_neg h36))))
                    · skip
                      refine wi_iconst hC 1 (by decide) d_M_kindOf_418 ?_
                      refine wi_goto hC 423 d_M_kindOf_419 (by decide) ?_
                      exact Jt4 true (by exact (Eq.trans eTt4 (Eq.trans (if_neg h35) (if_pos h36))))
                · skip
                  refine wi_by (a1 = 5) (fun h37 => ?_) (fun h37 => ?_)
                  · skip
                    refine wi_tsIn hC 5 424 d_M_kindOf_208 (by rw [h37]; decide) (by decide) rfl (by decide) ?_
                    refine wi_iload hC 1 d_M_kindOf_424 rfl ?_
                    obtain ⟨Tt5, eTt5⟩ : ∃ y : Bool, y = (
                            if v2 = 0 then
                              false
                            else
                              if v2 = 2 then
                                false
                              else
                                if v2 = 3 then
                                  false
                                else
                                  true) := ⟨_, rfl⟩
                    have Jt5 : ∀ (t5 : Bool), Tt5 = t5 → WS p l e { frames := 0, cells := 0, slots := 0, locals := 0 } s m args below meth c Q E 7 446 [(5, .int v3), (4, .int v2), (3, .int v1), (0, .ref 30), (1, .int a1), (2, .int a2)] [.int (bI t5)] (σ, τ, q) := by
                      intro t5  e_t5
                      rw [eTt5] at e_t5
                      have hf : f_M_kindOf a1 a2 = bI t5 := by subst e_t5; exact (Eq.trans hB2 (Eq.trans (if_neg h8) (Eq.trans (if_neg h9) (Eq.trans (if_neg h30) (Eq.trans (if_neg h31) (Eq.trans (if_neg h34) (if_pos h37)))))))
                      exact wi_iret hC hr hk d_M_kindOf_446 (congrArg (fun z => some (Value.int z)) hf) rfl hQ
                    refine wi_if_eq hC 441 d_M_kindOf_426 (by decide) (fun h38 => ?_) (fun h38 => ?_)
                    · skip
                      refine wi_iconst hC 0 (by decide) d_M_kindOf_441 ?_
                      refine wi_goto hC 446 d_M_kindOf_442 (by decide) ?_
                      exact Jt5 false (by exact (Eq.trans eTt5 (if_pos h38)))
                    · skip
                      refine wi_iload hC 1 d_M_kindOf_429 rfl ?_
                      refine wi_iconst hC 2 (by decide) d_M_kindOf_431 ?_
                      refine wi_icmp_eq hC 441 d_M_kindOf_432 (by decide) (fun h39 => ?_) (fun h39 => ?_)
                      · skip
                        refine wi_iconst hC 0 (by decide) d_M_kindOf_441 ?_
                        refine wi_goto hC 446 d_M_kindOf_442 (by decide) ?_
                        exact Jt5 false (by exact (Eq.trans eTt5 (Eq.trans (if_neg h38) (if_pos h39))))
                      · skip
                        refine wi_iload hC 1 d_M_kindOf_435 rfl ?_
                        refine wi_iconst hC 3 (by decide) d_M_kindOf_437 ?_
                        refine wi_icmp_ne hC 445 d_M_kindOf_438 (by decide) (fun h40 => ?_) (fun h40 => ?_)
                        · skip
                          refine wi_iconst hC 1 (by decide) d_M_kindOf_445 ?_
                          exact Jt5 true (by exact (Eq.trans eTt5 (Eq.trans (if_neg h38) (Eq.trans (if_neg h39) (if_neg h40)))))
                        · skip
                          refine wi_iconst hC 0 (by decide) d_M_kindOf_441 ?_
                          refine wi_goto hC 446 d_M_kindOf_442 (by decide) ?_
                          exact Jt5 false (by exact (Eq.trans eTt5 (Eq.trans (if_neg h38) (Eq.trans (if_neg h39) (if_pos h40)))))
                  · skip
                    refine wi_by (a1 = 6) (fun h41 => ?_) (fun h41 => ?_)
                    · skip
                      refine wi_tsIn hC 6 447 d_M_kindOf_208 (by rw [h41]; decide) (by decide) rfl (by decide) ?_
                      refine wi_iload hC 1 d_M_kindOf_447 rfl ?_
                      refine wi_iconst hC 2 (by decide) d_M_kindOf_449 ?_
                      obtain ⟨Tt6, eTt6⟩ : ∃ y : Bool, y = (
                              if v2 = 2 then
                                true
                              else
                                if v2 = 3 then
                                  if v3 = 1 then
                                    false
                                  else
                                    true
                                else
                                  false) := ⟨_, rfl⟩
                      have Jt6 : ∀ (t6 : Bool), Tt6 = t6 → WS p l e { frames := 0, cells := 0, slots := 0, locals := 0 } s m args below meth c Q E 7 470 [(5, .int v3), (4, .int v2), (3, .int v1), (0, .ref 30), (1, .int a1), (2, .int a2)] [.int (bI t6)] (σ, τ, q) := by
                        intro t6  e_t6
                        rw [eTt6] at e_t6
                        have hf : f_M_kindOf a1 a2 = bI t6 := by subst e_t6; exact (Eq.trans hB2 (Eq.trans (if_neg h8) (Eq.trans (if_neg h9) (Eq.trans (if_neg h30) (Eq.trans (if_neg h31) (Eq.trans (if_neg h34) (Eq.trans (if_neg h37) (if_pos h41))))))))
                        exact wi_iret hC hr hk d_M_kindOf_470 (congrArg (fun z => some (Value.int z)) hf) rfl hQ
                      refine wi_icmp_eq hC 465 d_M_kindOf_450 (by decide) (fun h42 => ?_) (fun h42 => ?_)
                      · skip
                        refine wi_iconst hC 1 (by decide) d_M_kindOf_465 ?_
                        refine wi_goto hC 470 d_M_kindOf_466 (by decide) ?_
                        exact Jt6 true (by exact (Eq.trans eTt6 (if_pos h42)))
                      · skip
                        refine wi_iload hC 1 d_M_kindOf_453 rfl ?_
                        refine wi_iconst hC 3 (by decide) d_M_kindOf_455 ?_
                        refine wi_icmp_ne hC 469 d_M_kindOf_456 (by decide) (fun h43 => ?_) (fun h43 => ?_)
                        · skip
                          refine wi_iconst hC 0 (by decide) d_M_kindOf_469 ?_
                          exact Jt6 false (by exact (Eq.trans eTt6 (Eq.trans (if_neg h42) (if_neg h43))))
                        · skip
                          refine wi_iload hC 0 d_M_kindOf_459 rfl ?_
                          refine wi_iconst hC 1 (by decide) d_M_kindOf_461 ?_
                          refine wi_icmp_eq hC 469 d_M_kindOf_462 (by decide) (fun h44 => ?_) (fun h44 => ?_)
                          · skip
                            refine wi_iconst hC 0 (by decide) d_M_kindOf_469 ?_
                            exact Jt6 false (by exact (Eq.trans eTt6 (Eq.trans (if_neg h42) (Eq.trans (if_pos h43) (if_pos h44)))))
                          · skip
                            refine wi_iconst hC 1 (by decide) d_M_kindOf_465 ?_
                            refine wi_goto hC 470 d_M_kindOf_466 (by decide) ?_
                            exact Jt6 true (by exact (Eq.trans eTt6 (Eq.trans (if_neg h42) (Eq.trans (if_pos h43) (if_neg h44)))))
                    · skip
                      refine wi_tsOut hC 471 d_M_kindOf_208 (by have q0 := lv_neT h8 (a := 0) (by decide); have q1 := lv_neT h9 (a := 1) (by decide); have q2 := lv_neT h30 (a := 2) (by decide); have q3 := lv_neT h31 (a := 3) (by decide); have q4 := lv_neT h34 (a := 4) (by decide); have q5 := lv_neT h37 (a := 5) (by decide); have q6 := lv_neT h41 (a := 6) (by decide); omega) (by decide) ?_
                      refine wi_iconst hC 1 (by decide) d_M_kindOf_471 ?_
                      have hf : f_M_kindOf a1 a2 = 1 := by exact (Eq.trans hB2 (Eq.trans (if_neg h8) (Eq.trans (if_neg h9) (Eq.trans (if_neg h30) (Eq.trans (if_neg h31) (Eq.trans (if_neg h34) (Eq.trans (if_neg h37) (if_neg h41))))))))
                      exact wi_iret hC hr hk d_M_kindOf_472 (congrArg (fun z => some (Value.int z)) hf) rfl hQ
      refine wi_icmp_ne hC 207 d_M_kindOf_189 (by decide) (fun h5 => ?_) (fun h5 => ?_)
      · skip
        exact B2   (by exact (Eq.trans hB1 (if_neg h5)))
      · skip
        refine wi_iload hC 1 d_M_kindOf_192 rfl ?_
        refine wi_bipush hC 7 (by decide) d_M_kindOf_194 ?_
        refine wi_icmp_ne hC 207 d_M_kindOf_196 (by decide) (fun h6 => ?_) (fun h6 => ?_)
        · skip
          exact B2   (by exact (Eq.trans hB1 (Eq.trans (if_pos h5) (if_neg h6))))
        · skip
          refine wi_iload hC 0 d_M_kindOf_199 rfl ?_
          refine wi_iconst hC 1 (by decide) d_M_kindOf_201 ?_
          refine wi_icmp_ne hC 207 d_M_kindOf_202 (by decide) (fun h7 => ?_) (fun h7 => ?_)
          · skip
            exact B2   (by exact (Eq.trans hB1 (Eq.trans (if_pos h5) (Eq.trans (if_pos h6) (if_neg h7)))))
          · skip
            refine wi_iconst hC 2 (by decide) d_M_kindOf_205 ?_
            have hf : f_M_kindOf a1 a2 = 2 := by exact (Eq.trans hB1 (Eq.trans (if_pos h5) (Eq.trans (if_pos h6) (if_pos h7))))
            exact wi_iret hC hr hk d_M_kindOf_206 (congrArg (fun z => some (Value.int z)) hf) rfl hQ
    refine wi_icmp_ne hC 187 d_M_kindOf_171 (by decide) (fun h2 => ?_) (fun h2 => ?_)
    · skip
      exact B1   (by subst e_v3; subst e_v2; subst e_v1; exact (Eq.trans (if_pos h1) (if_neg h2)))
    · skip
      refine wi_iload hC 1 d_M_kindOf_174 rfl ?_
      refine wi_bipush hC 6 (by decide) d_M_kindOf_176 ?_
      refine wi_icmp_ne hC 187 d_M_kindOf_178 (by decide) (fun h3 => ?_) (fun h3 => ?_)
      · skip
        exact B1   (by subst e_v3; subst e_v2; subst e_v1; exact (Eq.trans (if_pos h1) (Eq.trans (if_pos h2) (if_neg h3))))
      · skip
        refine wi_iload hC 0 d_M_kindOf_181 rfl ?_
        refine wi_iconst hC 4 (by decide) d_M_kindOf_183 ?_
        refine wi_icmp_lt hC 205 d_M_kindOf_184 (by decide) (fun h4 => ?_) (fun h4 => ?_)
        · skip
          refine wi_iconst hC 2 (by decide) d_M_kindOf_205 ?_
          have hf : f_M_kindOf a1 a2 = 2 := by subst e_v3; subst e_v2; subst e_v1; exact (Eq.trans (if_pos h1) (Eq.trans (if_pos h2) (Eq.trans (if_pos h3) (if_pos h4))))
          exact wi_iret hC hr hk d_M_kindOf_206 (congrArg (fun z => some (Value.int z)) hf) rfl hQ
        · skip
          exact B1   (by subst e_v3; subst e_v2; subst e_v1; exact (Eq.trans (if_pos h1) (Eq.trans (if_pos h2) (Eq.trans (if_pos h3) (if_neg h4)))))
  · skip
    refine wi_iload_n hC 4 d_M_kindOf_25 rfl rfl ?_
    refine wi_iconst hC 2 (by decide) d_M_kindOf_26 ?_
    refine wi_irem hC (by decide) d_M_kindOf_27 ?_
    refine wi_if_ne hC 33 d_M_kindOf_28 (by decide) (fun h45 => ?_) (fun h45 => ?_)
    · skip
      refine wi_iload_n hC 4 d_M_kindOf_33 rfl rfl ?_
      refine wi_iconst hC 1 (by decide) d_M_kindOf_34 ?_
      obtain ⟨Tt7, eTt7⟩ : ∃ y : Bool, y = (
              if a1 = 1 then
                if v2 = 1 then
                  false
                else
                  true
              else
                if a1 = 3 then
                  if v2 = 0 then
                    true
                  else
                    if v2 = 2 then
                      true
                    else
                      if v2 = 3 then
                        true
                      else
                        if v2 = 5 then
                          true
                        else
                          if v2 = 7 then
                            true
                          else
                            false
                else
                  if a1 = 5 then
                    if v2 = 0 then
                      true
                    else
                      if v2 = 2 then
                        true
                      else
                        if v2 = 3 then
                          true
                        else
                          if v2 = 4 then
                            true
                          else
                            if v2 = 6 then
                              true
                            else
                              if v2 = 7 then
                                true
                              else
                                false
                  else
                    if v2 = 1 then
                      false
                    else
                      true) := ⟨_, rfl⟩
      have Jt7 : ∀ (t7 : Bool), Tt7 = t7 → WS p l e { frames := 0, cells := 0, slots := 0, locals := 0 } s m args below meth c Q E 7 156 [(5, .int v3), (4, .int v2), (3, .int v1), (0, .ref 30), (1, .int a1), (2, .int a2)] [.int (bI t7)] (σ, τ, q) := by
        intro t7  e_t7
        rw [eTt7] at e_t7
        refine wi_istore hC [(6, .int (bI t7)), (5, .int v3), (4, .int v2), (3, .int v1), (0, .ref 30), (1, .int a1), (2, .int a2)] d_M_kindOf_156 (by decide) rfl ?_
        refine wi_iload hC 0 d_M_kindOf_158 rfl ?_
        obtain ⟨Tt8, eTt8⟩ : ∃ y : Bool, y = (
                if t7 = true then
                  false
                else
                  true) := ⟨_, rfl⟩
        have Jt8 : ∀ (t8 : Bool), Tt8 = t8 → WS p l e { frames := 0, cells := 0, slots := 0, locals := 0 } s m args below meth c Q E 7 168 [(6, .int (bI t7)), (5, .int v3), (4, .int v2), (3, .int v1), (0, .ref 30), (1, .int a1), (2, .int a2)] [.int (bI t8)] (σ, τ, q) := by
          intro t8  e_t8
          rw [eTt8] at e_t8
          have hf : f_M_kindOf a1 a2 = bI t8 := by subst e_t8; subst e_t7; subst e_v3; subst e_v2; subst e_v1; exact (Eq.trans (if_neg h1) (if_neg h45))
          exact wi_iret hC hr hk d_M_kindOf_168 (congrArg (fun z => some (Value.int z)) hf) rfl hQ
        refine wi_z_eq (b := t7) hC 167 d_M_kindOf_160 (by decide) (fun h62 => ?_) (fun h62 => ?_)
        · skip
          refine wi_iconst hC 1 (by decide) d_M_kindOf_167 ?_
          exact Jt8 true (by exact (Eq.trans eTt8 (if_neg h62)))
        · skip
          refine wi_iconst hC 0 (by decide) d_M_kindOf_163 ?_
          refine wi_goto hC 168 d_M_kindOf_164 (by decide) ?_
          exact Jt8 false (by exact (Eq.trans eTt8 (if_pos h62)))
      refine wi_icmp_ne hC 52 d_M_kindOf_35 (by decide) (fun h46 => ?_) (fun h46 => ?_)
      · skip
        refine wi_iload_n hC 4 d_M_kindOf_52 rfl rfl ?_
        refine wi_iconst hC 3 (by decide) d_M_kindOf_53 ?_
        refine wi_icmp_ne hC 95 d_M_kindOf_54 (by decide) (fun h47 => ?_) (fun h47 => ?_)
        · skip
          refine wi_iload_n hC 4 d_M_kindOf_95 rfl rfl ?_
          refine wi_iconst hC 5 (by decide) d_M_kindOf_96 ?_
          refine wi_icmp_ne hC 145 d_M_kindOf_97 (by decide) (fun h48 => ?_) (fun h48 => ?_)
          · skip
            refine wi_iload hC 1 d_M_kindOf_145 rfl ?_
            refine wi_iconst hC 1 (by decide) d_M_kindOf_147 ?_
            refine wi_icmp_eq hC 155 d_M_kindOf_148 (by decide) (fun h49 => ?_) (fun h49 => ?_)
            · skip
              refine wi_iconst hC 0 (by decide) d_M_kindOf_155 ?_
              exact Jt7 false (by exact (Eq.trans eTt7 (Eq.trans (if_neg h46) (Eq.trans (if_neg h47) (Eq.trans (if_neg h48) (if_pos h49))))))
            · skip
              refine wi_iconst hC 1 (by decide) d_M_kindOf_151 ?_
              refine wi_goto hC 156 d_M_kindOf_152 (by decide) ?_
              exact Jt7 true (by exact (Eq.trans eTt7 (Eq.trans (if_neg h46) (Eq.trans (if_neg h47) (Eq.trans (if_neg h48) (if_neg h49))))))
          · skip
            refine wi_iload hC 1 d_M_kindOf_100 rfl ?_
            refine wi_if_eq hC 137 d_M_kindOf_102 (by decide) (fun h50 => ?_) (fun h50 => ?_)
            · skip
              refine wi_iconst hC 1 (by decide) d_M_kindOf_137 ?_
              refine wi_goto hC 156 d_M_kindOf_138 (by decide) ?_
              exact Jt7 true (by exact (Eq.trans eTt7 (Eq.trans (if_neg h46) (Eq.trans (if_neg h47) (Eq.trans (if_pos h48) (if_pos h50))))))
            · skip
              refine wi_iload hC 1 d_M_kindOf_105 rfl ?_
              refine wi_iconst hC 2 (by decide) d_M_kindOf_107 ?_
              refine wi_icmp_eq hC 137 d_M_kindOf_108 (by decide) (fun h51 => ?_) (fun h51 => ?_)
              · skip
                refine wi_iconst hC 1 (by decide) d_M_kindOf_137 ?_
                refine wi_goto hC 156 d_M_kindOf_138 (by decide) ?_
                exact Jt7 true (by exact (Eq.trans eTt7 (Eq.trans (if_neg h46) (Eq.trans (if_neg h47) (Eq.trans (if_pos h48) (Eq.trans (if_neg h50) (if_pos h51)))))))
              · skip
                refine wi_iload hC 1 d_M_kindOf_111 rfl ?_
                refine wi_iconst hC 3 (by decide) d_M_kindOf_113 ?_
                refine wi_icmp_eq hC 137 d_M_kindOf_114 (by decide) (fun h52 => ?_) (fun h52 => ?_)
                · skip
                  refine wi_iconst hC 1 (by decide) d_M_kindOf_137 ?_
                  refine wi_goto hC 156 d_M_kindOf_138 (by decide) ?_
                  exact Jt7 true (by exact (Eq.trans eTt7 (Eq.trans (if_neg h46) (Eq.trans (if_neg h47) (Eq.trans (if_pos h48) (Eq.trans (if_neg h50) (Eq.trans (if_neg h51) (if_pos h52))))))))
                · skip
                  refine wi_iload hC 1 d_M_kindOf_117 rfl ?_
                  refine wi_iconst hC 4 (by decide) d_M_kindOf_119 ?_
                  refine wi_icmp_eq hC 137 d_M_kindOf_120 (by decide) (fun h53 => ?_) (fun h53 => ?_)
                  · skip
                    refine wi_iconst hC 1 (by decide) d_M_kindOf_137 ?_
                    refine wi_goto hC 156 d_M_kindOf_138 (by decide) ?_
                    exact Jt7 true (by exact (Eq.trans eTt7 (Eq.trans (if_neg h46) (Eq.trans (if_neg h47) (Eq.trans (if_pos h48) (Eq.trans (if_neg h50) (Eq.trans (if_neg h51) (Eq.trans (if_neg h52) (if_pos h53)))))))))
                  · skip
                    refine wi_iload hC 1 d_M_kindOf_123 rfl ?_
                    refine wi_bipush hC 6 (by decide) d_M_kindOf_125 ?_
                    refine wi_icmp_eq hC 137 d_M_kindOf_127 (by decide) (fun h54 => ?_) (fun h54 => ?_)
                    · skip
                      refine wi_iconst hC 1 (by decide) d_M_kindOf_137 ?_
                      refine wi_goto hC 156 d_M_kindOf_138 (by decide) ?_
                      exact Jt7 true (by exact (Eq.trans eTt7 (Eq.trans (if_neg h46) (Eq.trans (if_neg h47) (Eq.trans (if_pos h48) (Eq.trans (if_neg h50) (Eq.trans (if_neg h51) (Eq.trans (if_neg h52) (Eq.trans (if_neg h53) (if_pos h54))))))))))
                    · skip
                      refine wi_iload hC 1 d_M_kindOf_130 rfl ?_
                      refine wi_bipush hC 7 (by decide) d_M_kindOf_132 ?_
                      refine wi_icmp_ne hC 141 d_M_kindOf_134 (by decide) (fun h55 => ?_) (fun h55 => ?_)
                      · skip
                        refine wi_iconst hC 0 (by decide) d_M_kindOf_141 ?_
                        refine wi_goto hC 156 d_M_kindOf_142 (by decide) ?_
                        exact Jt7 false (by exact (Eq.trans eTt7 (Eq.trans (if_neg h46) (Eq.trans (if_neg h47) (Eq.trans (if_pos h48) (Eq.trans (if_neg h50) (Eq.trans (if_neg h51) (Eq.trans (if_neg h52) (Eq.trans (if_neg h53) (Eq.trans (if_neg h54) (if_neg h55)))))))))))
                      · skip
                        refine wi_iconst hC 1 (by decide) d_M_kindOf_137 ?_
                        refine wi_goto hC 156 d_M_kindOf_138 (by decide) ?_
                        exact Jt7 true (by exact (Eq.trans eTt7 (Eq.trans (if_neg h46) (Eq.trans (if_neg h47) (Eq.trans (if_pos h48) (Eq.trans (if_neg h50) (Eq.trans (if_neg h51) (Eq.trans (if_neg h52) (Eq.trans (if_neg h53) (Eq.trans (if_neg h54) (if_pos h55)))))))))))
        · skip
          refine wi_iload hC 1 d_M_kindOf_57 rfl ?_
          refine wi_if_eq hC 87 d_M_kindOf_59 (by decide) (fun h56 => ?_) (fun h56 => ?_)
          · skip
            refine wi_iconst hC 1 (by decide) d_M_kindOf_87 ?_
            refine wi_goto hC 156 d_M_kindOf_88 (by decide) ?_
            exact Jt7 true (by exact (Eq.trans eTt7 (Eq.trans (if_neg h46) (Eq.trans (if_pos h47) (if_pos h56)))))
          · skip
            refine wi_iload hC 1 d_M_kindOf_62 rfl ?_
            refine wi_iconst hC 2 (by decide) d_M_kindOf_64 ?_
            refine wi_icmp_eq hC 87 d_M_kindOf_65 (by decide) (fun h57 => ?_) (fun h57 => ?_)
            · skip
              refine wi_iconst hC 1 (by decide) d_M_kindOf_87 ?_
              refine wi_goto hC 156 d_M_kindOf_88 (by decide) ?_
              exact Jt7 true (by exact (Eq.trans eTt7 (Eq.trans (if_neg h46) (Eq.trans (if_pos h47) (Eq.trans (if_neg h56) (if_pos h57))))))
            · skip
              refine wi_iload hC 1 d_M_kindOf_68 rfl ?_
              refine wi_iconst hC 3 (by decide) d_M_kindOf_70 ?_
              refine wi_icmp_eq hC 87 d_M_kindOf_71 (by decide) (fun h58 => ?_) (fun h58 => ?_)
              · skip
                refine wi_iconst hC 1 (by decide) d_M_kindOf_87 ?_
                refine wi_goto hC 156 d_M_kindOf_88 (by decide) ?_
                exact Jt7 true (by exact (Eq.trans eTt7 (Eq.trans (if_neg h46) (Eq.trans (if_pos h47) (Eq.trans (if_neg h56) (Eq.trans (if_neg h57) (if_pos h58)))))))
              · skip
                refine wi_iload hC 1 d_M_kindOf_74 rfl ?_
                refine wi_iconst hC 5 (by decide) d_M_kindOf_76 ?_
                refine wi_icmp_eq hC 87 d_M_kindOf_77 (by decide) (fun h59 => ?_) (fun h59 => ?_)
                · skip
                  refine wi_iconst hC 1 (by decide) d_M_kindOf_87 ?_
                  refine wi_goto hC 156 d_M_kindOf_88 (by decide) ?_
                  exact Jt7 true (by exact (Eq.trans eTt7 (Eq.trans (if_neg h46) (Eq.trans (if_pos h47) (Eq.trans (if_neg h56) (Eq.trans (if_neg h57) (Eq.trans (if_neg h58) (if_pos h59))))))))
                · skip
                  refine wi_iload hC 1 d_M_kindOf_80 rfl ?_
                  refine wi_bipush hC 7 (by decide) d_M_kindOf_82 ?_
                  refine wi_icmp_ne hC 91 d_M_kindOf_84 (by decide) (fun h60 => ?_) (fun h60 => ?_)
                  · skip
                    refine wi_iconst hC 0 (by decide) d_M_kindOf_91 ?_
                    refine wi_goto hC 156 d_M_kindOf_92 (by decide) ?_
                    exact Jt7 false (by exact (Eq.trans eTt7 (Eq.trans (if_neg h46) (Eq.trans (if_pos h47) (Eq.trans (if_neg h56) (Eq.trans (if_neg h57) (Eq.trans (if_neg h58) (Eq.trans (if_neg h59) (if_neg h60)))))))))
                  · skip
                    refine wi_iconst hC 1 (by decide) d_M_kindOf_87 ?_
                    refine wi_goto hC 156 d_M_kindOf_88 (by decide) ?_
                    exact Jt7 true (by exact (Eq.trans eTt7 (Eq.trans (if_neg h46) (Eq.trans (if_pos h47) (Eq.trans (if_neg h56) (Eq.trans (if_neg h57) (Eq.trans (if_neg h58) (Eq.trans (if_neg h59) (if_pos h60)))))))))
      · skip
        refine wi_iload hC 1 d_M_kindOf_38 rfl ?_
        refine wi_iconst hC 1 (by decide) d_M_kindOf_40 ?_
        refine wi_icmp_eq hC 48 d_M_kindOf_41 (by decide) (fun h61 => ?_) (fun h61 => ?_)
        · skip
          refine wi_iconst hC 0 (by decide) d_M_kindOf_48 ?_
          refine wi_goto hC 156 d_M_kindOf_49 (by decide) ?_
          exact Jt7 false (by exact (Eq.trans eTt7 (Eq.trans (if_pos h46) (if_pos h61))))
        · skip
          refine wi_iconst hC 1 (by decide) d_M_kindOf_44 ?_
          refine wi_goto hC 156 d_M_kindOf_45 (by decide) ?_
          exact Jt7 true (by exact (Eq.trans eTt7 (Eq.trans (if_pos h46) (if_neg h61))))
    · skip
      refine wi_iconst hC 0 (by decide) d_M_kindOf_31 ?_
      have hf : f_M_kindOf a1 a2 = 0 := by subst e_v3; subst e_v2; subst e_v1; exact (Eq.trans (if_neg h1) (if_pos h45))
      exact wi_iret hC hr hk d_M_kindOf_32 (congrArg (fun z => some (Value.int z)) hf) rfl hQ
theorem k_M_kindOf {p : Program} {l : Launch} {e : Env} {R : Room} {s : State} {m : MethodId} {args : Array Value} {below : List Frame} {meth : Method} {c : Code} {Q : State → Prop} {E : Ev} {nL pc index : Nat} {lv : List (Nat × Value)} {rest : List Value} {cc : ByteArray} {own : String} {σ τ : St} {q : Int64} {a1 : Int32} {a2 : Int32} (hC : Cx p s m args c cc nL own E)   (hl : Cond.methodLink own index y_M_kindOf ∈ WL) (hR : 0 + 1 ≤ R.frames ∧ 8 + (7 + 11) + 0 ≤ R.locals) (hs8 : (rest.map fun v => v.category).sum ≤ 8) (d : decode cc pc = .ok (.invokevirtual index, 3)) (k : WS p l e R s m args below meth c Q E nL (pc + 3) lv ((.int (f_M_kindOf a1 a2)) :: rest) (σ, τ, q)) : WS p l e R s m args below meth c Q E nL pc lv (.int a2 :: .int a1 :: .ref 30 :: rest) (σ, τ, q) := by
  exact wi_callV hC (n := 2) (vs := [.int a1, .int a2]) (rest := rest) 30 10 (by decide) rfl rfl rfl (c_M_kindOf l E σ τ q a1 a2 ) (by decide +kernel) wd_1022 wd_952 wd_1023 wd_1024 ⟨rfl, rfl⟩ rfl rfl hl hR hs8 d k
set_option maxRecDepth 100000 in
set_option maxHeartbeats 400000 in
theorem c_M_operandOf (l : Launch) (E : Ev) (σ τ : St) (q : Int64) (a1 : Int32) (a2 : Int32)  : MF l y_M_operandOf prog_12_method_21_code 2 (some .int) { frames := 0, cells := 0, slots := 0, locals := 0 } E [.int a1, .int a2] (σ, τ, q) (some (.int (f_M_operandOf a1 a2))) (σ, τ, q) := by
  refine MF_intro (lv0 := [(0, .int a1), (1, .int a2)]) (by decide) wd_1025 (Nat.le_of_ble_eq_true rfl) rfl ?_
  intro p e s m args below meth c Q hC hr hk hQ
  replace hC : Cx p s m args c prog_12_method_21_code 2 "PartnerStackModel" E := hC
  refine wi_iload_n hC 0 d_M_operandOf_0 rfl rfl ?_
  refine wi_by (a1 = 0) (fun h1 => ?_) (fun h1 => ?_)
  · skip
    refine wi_tsIn hC 0 44 d_M_operandOf_1 (by rw [h1]; decide) (by decide) rfl (by decide) ?_
    refine wi_iconst hC 3 (by decide) d_M_operandOf_44 ?_
    have hf : f_M_operandOf a1 a2 = 3 := by exact (if_pos h1)
    exact wi_iret hC hr hk d_M_operandOf_45 (congrArg (fun z => some (Value.int z)) hf) rfl hQ
  · skip
    refine wi_by (a1 = 1) (fun h2 => ?_) (fun h2 => ?_)
    · skip
      refine wi_tsIn hC 1 52 d_M_operandOf_1 (by rw [h2]; decide) (by decide) rfl (by decide) ?_
      refine wi_iload_n hC 1 d_M_operandOf_52 rfl rfl ?_
      refine wi_iconst hC 4 (by decide) d_M_operandOf_53 ?_
      obtain ⟨Tt1, eTt1⟩ : ∃ y : Int32, y = (
              if 4 ≤ a2 then
                if a2 = 4 then
                  8
                else
                  if a2 = 6 then
                    8
                  else
                    7
              else
                3) := ⟨_, rfl⟩
      have Jt1 : ∀ (t1 : Int32), Tt1 = t1 → WS p l e { frames := 0, cells := 0, slots := 0, locals := 0 } s m args below meth c Q E 2 79 [(0, .int a1), (1, .int a2)] [.int t1] (σ, τ, q) := by
        intro t1  e_t1
        rw [eTt1] at e_t1
        have hf : f_M_operandOf a1 a2 = t1 := by subst e_t1; exact (Eq.trans (if_neg h1) (if_pos h2))
        exact wi_iret hC hr hk d_M_operandOf_79 (congrArg (fun z => some (Value.int z)) hf) rfl hQ
      refine wi_icmp_ge hC 61 d_M_operandOf_54 (by decide) (fun h3 => ?_) (fun h3 => ?_)
      · skip
        refine wi_iload_n hC 1 d_M_operandOf_61 rfl rfl ?_
        refine wi_iconst hC 4 (by decide) d_M_operandOf_62 ?_
        refine wi_icmp_eq hC 72 d_M_operandOf_63 (by decide) (fun h4 => ?_) (fun h4 => ?_)
        · skip
          refine wi_bipush hC 8 (by decide) d_M_operandOf_72 ?_
          refine wi_goto hC 79 d_M_operandOf_74 (by decide) ?_
          exact Jt1 8 (by exact (Eq.trans eTt1 (Eq.trans (if_pos h3) (if_pos h4))))
        · skip
          refine wi_iload_n hC 1 d_M_operandOf_66 rfl rfl ?_
          refine wi_bipush hC 6 (by decide) d_M_operandOf_67 ?_
          refine wi_icmp_ne hC 77 d_M_operandOf_69 (by decide) (fun h5 => ?_) (fun h5 => ?_)
          · skip
            refine wi_bipush hC 7 (by decide) d_M_operandOf_77 ?_
            exact Jt1 7 (by exact (Eq.trans eTt1 (Eq.trans (if_pos h3) (Eq.trans (if_neg h4) (if_neg h5)))))
          · skip
            refine wi_bipush hC 8 (by decide) d_M_operandOf_72 ?_
            refine wi_goto hC 79 d_M_operandOf_74 (by decide) ?_
            exact Jt1 8 (by exact (Eq.trans eTt1 (Eq.trans (if_pos h3) (Eq.trans (if_neg h4) (if_pos h5)))))
      · skip
        refine wi_iconst hC 3 (by decide) d_M_operandOf_57 ?_
        refine wi_goto hC 79 d_M_operandOf_58 (by decide) ?_
        exact Jt1 3 (by exact (Eq.trans eTt1 (if_neg h3)))
    · skip
      refine wi_by (a1 = 2) (fun h6 => ?_) (fun h6 => ?_)
      · skip
        refine wi_tsIn hC 2 46 d_M_operandOf_1 (by rw [h6]; decide) (by decide) rfl (by decide) ?_
        refine wi_iconst hC 1 (by decide) d_M_operandOf_46 ?_
        have hf : f_M_operandOf a1 a2 = 1 := by exact (Eq.trans (if_neg h1) (Eq.trans (if_neg h2) (if_pos h6)))
        exact wi_iret hC hr hk d_M_operandOf_47 (congrArg (fun z => some (Value.int z)) hf) rfl hQ
      · skip
        refine wi_by (a1 = 3) (fun h7 => ?_) (fun h7 => ?_)
        · skip
          refine wi_tsIn hC 3 80 d_M_operandOf_1 (by rw [h7]; decide) (by decide) rfl (by decide) ?_
          refine wi_iload_n hC 1 d_M_operandOf_80 rfl rfl ?_
          refine wi_iconst hC 4 (by decide) d_M_operandOf_81 ?_
          obtain ⟨Tt2, eTt2⟩ : ∃ y : Int32, y = (
                  if 4 ≤ a2 then
                    6
                  else
                    1) := ⟨_, rfl⟩
          have Jt2 : ∀ (t2 : Int32), Tt2 = t2 → WS p l e { frames := 0, cells := 0, slots := 0, locals := 0 } s m args below meth c Q E 2 91 [(0, .int a1), (1, .int a2)] [.int t2] (σ, τ, q) := by
            intro t2  e_t2
            rw [eTt2] at e_t2
            have hf : f_M_operandOf a1 a2 = t2 := by subst e_t2; exact (Eq.trans (if_neg h1) (Eq.trans (if_neg h2) (Eq.trans (if_neg h6) (if_pos h7))))
            exact wi_iret hC hr hk d_M_operandOf_91 (congrArg (fun z => some (Value.int z)) hf) rfl hQ
          refine wi_icmp_ge hC 89 d_M_operandOf_82 (by decide) (fun h8 => ?_) (fun h8 => ?_)
          · skip
            refine wi_bipush hC 6 (by decide) d_M_operandOf_89 ?_
            exact Jt2 6 (by exact (Eq.trans eTt2 (if_pos h8)))
          · skip
            refine wi_iconst hC 1 (by decide) d_M_operandOf_85 ?_
            refine wi_goto hC 91 d_M_operandOf_86 (by decide) ?_
            exact Jt2 1 (by exact (Eq.trans eTt2 (if_neg h8)))
        · skip
          refine wi_by (a1 = 4) (fun h9 => ?_) (fun h9 => ?_)
          · skip
            refine wi_tsIn hC 4 48 d_M_operandOf_1 (by rw [h9]; decide) (by decide) rfl (by decide) ?_
            refine wi_iconst hC 4 (by decide) d_M_operandOf_48 ?_
            have hf : f_M_operandOf a1 a2 = 4 := by exact (Eq.trans (if_neg h1) (Eq.trans (if_neg h2) (Eq.trans (if_neg h6) (Eq.trans (if_neg h7) (if_pos h9)))))
            exact wi_iret hC hr hk d_M_operandOf_49 (congrArg (fun z => some (Value.int z)) hf) rfl hQ
          · skip
            refine wi_by (a1 = 5) (fun h10 => ?_) (fun h10 => ?_)
            · skip
              refine wi_tsIn hC 5 92 d_M_operandOf_1 (by rw [h10]; decide) (by decide) rfl (by decide) ?_
              refine wi_iload_n hC 1 d_M_operandOf_92 rfl rfl ?_
              refine wi_iconst hC 4 (by decide) d_M_operandOf_93 ?_
              obtain ⟨Tt3, eTt3⟩ : ∃ y : Int32, y = (
                      if 4 ≤ a2 then
                        if a2 = 7 then
                          7
                        else
                          9
                      else
                        4) := ⟨_, rfl⟩
              have Jt3 : ∀ (t3 : Int32), Tt3 = t3 → WS p l e { frames := 0, cells := 0, slots := 0, locals := 0 } s m args below meth c Q E 2 114 [(0, .int a1), (1, .int a2)] [.int t3] (σ, τ, q) := by
                intro t3  e_t3
                rw [eTt3] at e_t3
                have hf : f_M_operandOf a1 a2 = t3 := by subst e_t3; exact (Eq.trans (if_neg h1) (Eq.trans (if_neg h2) (Eq.trans (if_neg h6) (Eq.trans (if_neg h7) (Eq.trans (if_neg h9) (if_pos h10))))))
                exact wi_iret hC hr hk d_M_operandOf_114 (congrArg (fun z => some (Value.int z)) hf) rfl hQ
              refine wi_icmp_ge hC 101 d_M_operandOf_94 (by decide) (fun h11 => ?_) (fun h11 => ?_)
              · skip
                refine wi_iload_n hC 1 d_M_operandOf_101 rfl rfl ?_
                refine wi_bipush hC 7 (by decide) d_M_operandOf_102 ?_
                refine wi_icmp_ne hC 112 d_M_operandOf_104 (by decide) (fun h12 => ?_) (fun h12 => ?_)
                · skip
                  refine wi_bipush hC 9 (by decide) d_M_operandOf_112 ?_
                  exact Jt3 9 (by exact (Eq.trans eTt3 (Eq.trans (if_pos h11) (if_neg h12))))
                · skip
                  refine wi_bipush hC 7 (by decide) d_M_operandOf_107 ?_
                  refine wi_goto hC 114 d_M_operandOf_109 (by decide) ?_
                  exact Jt3 7 (by exact (Eq.trans eTt3 (Eq.trans (if_pos h11) (if_pos h12))))
              · skip
                refine wi_iconst hC 4 (by decide) d_M_operandOf_97 ?_
                refine wi_goto hC 114 d_M_operandOf_98 (by decide) ?_
                exact Jt3 4 (by exact (Eq.trans eTt3 (if_neg h11)))
            · skip
              refine wi_by (a1 = 6) (fun h13 => ?_) (fun h13 => ?_)
              · skip
                refine wi_tsIn hC 6 50 d_M_operandOf_1 (by rw [h13]; decide) (by decide) rfl (by decide) ?_
                refine wi_iconst hC 0 (by decide) d_M_operandOf_50 ?_
                have hf : f_M_operandOf a1 a2 = 0 := by exact (Eq.trans (if_neg h1) (Eq.trans (if_neg h2) (Eq.trans (if_neg h6) (Eq.trans (if_neg h7) (Eq.trans (if_neg h9) (Eq.trans (if_neg h10) (if_pos h13)))))))
                exact wi_iret hC hr hk d_M_operandOf_51 (congrArg (fun z => some (Value.int z)) hf) rfl hQ
              · skip
                refine wi_tsOut hC 115 d_M_operandOf_1 (by have q0 := lv_neT h1 (a := 0) (by decide); have q1 := lv_neT h2 (a := 1) (by decide); have q2 := lv_neT h6 (a := 2) (by decide); have q3 := lv_neT h7 (a := 3) (by decide); have q4 := lv_neT h9 (a := 4) (by decide); have q5 := lv_neT h10 (a := 5) (by decide); have q6 := lv_neT h13 (a := 6) (by decide); omega) (by decide) ?_
                refine wi_iload_n hC 1 d_M_operandOf_115 rfl rfl ?_
                refine wi_iconst hC 4 (by decide) d_M_operandOf_116 ?_
                obtain ⟨Tt4, eTt4⟩ : ∃ y : Int32, y = (
                        if 4 ≤ a2 then
                          if a2 = 4 then
                            5
                          else
                            if a2 = 6 then
                              5
                            else
                              2
                        else
                          0) := ⟨_, rfl⟩
                have Jt4 : ∀ (t4 : Int32), Tt4 = t4 → WS p l e { frames := 0, cells := 0, slots := 0, locals := 0 } s m args below meth c Q E 2 140 [(0, .int a1), (1, .int a2)] [.int t4] (σ, τ, q) := by
                  intro t4  e_t4
                  rw [eTt4] at e_t4
                  have hf : f_M_operandOf a1 a2 = t4 := by subst e_t4; exact (Eq.trans (if_neg h1) (Eq.trans (if_neg h2) (Eq.trans (if_neg h6) (Eq.trans (if_neg h7) (Eq.trans (if_neg h9) (Eq.trans (if_neg h10) (if_neg h13)))))))
                  exact wi_iret hC hr hk d_M_operandOf_140 (congrArg (fun z => some (Value.int z)) hf) rfl hQ
                refine wi_icmp_ge hC 124 d_M_operandOf_117 (by decide) (fun h14 => ?_) (fun h14 => ?_)
                · skip
                  refine wi_iload_n hC 1 d_M_operandOf_124 rfl rfl ?_
                  refine wi_iconst hC 4 (by decide) d_M_operandOf_125 ?_
                  refine wi_icmp_eq hC 135 d_M_operandOf_126 (by decide) (fun h15 => ?_) (fun h15 => ?_)
                  · skip
                    refine wi_iconst hC 5 (by decide) d_M_operandOf_135 ?_
                    refine wi_goto hC 140 d_M_operandOf_136 (by decide) ?_
                    exact Jt4 5 (by exact (Eq.trans eTt4 (Eq.trans (if_pos h14) (if_pos h15))))
                  · skip
                    refine wi_iload_n hC 1 d_M_operandOf_129 rfl rfl ?_
                    refine wi_bipush hC 6 (by decide) d_M_operandOf_130 ?_
                    refine wi_icmp_ne hC 139 d_M_operandOf_132 (by decide) (fun h16 => ?_) (fun h16 => ?_)
                    · skip
                      refine wi_iconst hC 2 (by decide) d_M_operandOf_139 ?_
                      exact Jt4 2 (by exact (Eq.trans eTt4 (Eq.trans (if_pos h14) (Eq.trans (if_neg h15) (if_neg h16)))))
                    · skip
                      refine wi_iconst hC 5 (by decide) d_M_operandOf_135 ?_
                      refine wi_goto hC 140 d_M_operandOf_136 (by decide) ?_
                      exact Jt4 5 (by exact (Eq.trans eTt4 (Eq.trans (if_pos h14) (Eq.trans (if_neg h15) (if_pos h16)))))
                · skip
                  refine wi_iconst hC 0 (by decide) d_M_operandOf_120 ?_
                  refine wi_goto hC 140 d_M_operandOf_121 (by decide) ?_
                  exact Jt4 0 (by exact (Eq.trans eTt4 (if_neg h14)))
theorem k_M_operandOf {p : Program} {l : Launch} {e : Env} {R : Room} {s : State} {m : MethodId} {args : Array Value} {below : List Frame} {meth : Method} {c : Code} {Q : State → Prop} {E : Ev} {nL pc index : Nat} {lv : List (Nat × Value)} {rest : List Value} {cc : ByteArray} {own : String} {σ τ : St} {q : Int64} {a1 : Int32} {a2 : Int32} (hC : Cx p s m args c cc nL own E)   (hl : Cond.methodLink own index y_M_operandOf ∈ WL) (hR : 0 + 1 ≤ R.frames ∧ 8 + (2 + 11) + 0 ≤ R.locals) (hs8 : (rest.map fun v => v.category).sum ≤ 8) (d : decode cc pc = .ok (.invokestatic index, 3)) (k : WS p l e R s m args below meth c Q E nL (pc + 3) lv ((.int (f_M_operandOf a1 a2)) :: rest) (σ, τ, q)) : WS p l e R s m args below meth c Q E nL pc lv (.int a2 :: .int a1 :: rest) (σ, τ, q) := by
  exact wi_callS hC (n := 2) (vs := [.int a1, .int a2]) (rest := rest) (c_M_operandOf l E σ τ q a1 a2 ) (by decide +kernel) wd_1025 wd_952 wd_1026 ⟨rfl, rfl⟩ rfl rfl hl hR hs8 d k
set_option maxRecDepth 100000 in
set_option maxHeartbeats 400000 in
theorem c_M_isWritten (l : Launch) (E : Ev) (σ τ : St) (q : Int64) (a1 : Int32) (a2 : Int32)  : MF l y_M_isWritten prog_12_method_22_code 2 (some .boolean) { frames := 0, cells := 0, slots := 0, locals := 0 } E [.int a1, .int a2] (σ, τ, q) (some (.int (bI (f_M_isWritten a1 a2)))) (σ, τ, q) := by
  refine MF_intro (lv0 := [(0, .int a1), (1, .int a2)]) (by decide) wd_1027 (Nat.le_of_ble_eq_true rfl) rfl ?_
  intro p e s m args below meth c Q hC hr hk hQ
  replace hC : Cx p s m args c prog_12_method_22_code 2 "PartnerStackModel" E := hC
  refine wi_iload_n hC 0 d_M_isWritten_0 rfl rfl ?_
  refine wi_iconst hC 2 (by decide) d_M_isWritten_1 ?_
  refine wi_irem hC (by decide) d_M_isWritten_2 ?_
  refine wi_iconst hC 1 (by decide) d_M_isWritten_3 ?_
  obtain ⟨Tt1, eTt1⟩ : ∃ y : Bool, y = (
          if jrem a1 2 = 1 then
            if a2 = 2 then
              true
            else
              if a2 = 3 then
                true
              else
                if a2 = 6 then
                  true
                else
                  if a2 = 7 then
                    true
                  else
                    false
          else
            false) := ⟨_, rfl⟩
  have Jt1 : ∀ (t1 : Bool), Tt1 = t1 → WS p l e { frames := 0, cells := 0, slots := 0, locals := 0 } s m args below meth c Q E 2 34 [(0, .int a1), (1, .int a2)] [.int (bI t1)] (σ, τ, q) := by
    intro t1  e_t1
    rw [eTt1] at e_t1
    have hf : f_M_isWritten a1 a2 = t1 := by subst e_t1; exact rfl
    exact wi_zret hC hr hk d_M_isWritten_34 rfl (congrArg (fun z => some (Value.int (bI z))) hf) rfl hQ
  refine wi_icmp_ne hC 33 d_M_isWritten_4 (by decide) (fun h1 => ?_) (fun h1 => ?_)
  · skip
    refine wi_iconst hC 0 (by decide) d_M_isWritten_33 ?_
    exact Jt1 false (by exact (Eq.trans eTt1 (if_neg h1)))
  · skip
    refine wi_iload_n hC 1 d_M_isWritten_7 rfl rfl ?_
    refine wi_iconst hC 2 (by decide) d_M_isWritten_8 ?_
    refine wi_icmp_eq hC 29 d_M_isWritten_9 (by decide) (fun h2 => ?_) (fun h2 => ?_)
    · skip
      refine wi_iconst hC 1 (by decide) d_M_isWritten_29 ?_
      refine wi_goto hC 34 d_M_isWritten_30 (by decide) ?_
      exact Jt1 true (by exact (Eq.trans eTt1 (Eq.trans (if_pos h1) (if_pos h2))))
    · skip
      refine wi_iload_n hC 1 d_M_isWritten_12 rfl rfl ?_
      refine wi_iconst hC 3 (by decide) d_M_isWritten_13 ?_
      refine wi_icmp_eq hC 29 d_M_isWritten_14 (by decide) (fun h3 => ?_) (fun h3 => ?_)
      · skip
        refine wi_iconst hC 1 (by decide) d_M_isWritten_29 ?_
        refine wi_goto hC 34 d_M_isWritten_30 (by decide) ?_
        exact Jt1 true (by exact (Eq.trans eTt1 (Eq.trans (if_pos h1) (Eq.trans (if_neg h2) (if_pos h3)))))
      · skip
        refine wi_iload_n hC 1 d_M_isWritten_17 rfl rfl ?_
        refine wi_bipush hC 6 (by decide) d_M_isWritten_18 ?_
        refine wi_icmp_eq hC 29 d_M_isWritten_20 (by decide) (fun h4 => ?_) (fun h4 => ?_)
        · skip
          refine wi_iconst hC 1 (by decide) d_M_isWritten_29 ?_
          refine wi_goto hC 34 d_M_isWritten_30 (by decide) ?_
          exact Jt1 true (by exact (Eq.trans eTt1 (Eq.trans (if_pos h1) (Eq.trans (if_neg h2) (Eq.trans (if_neg h3) (if_pos h4))))))
        · skip
          refine wi_iload_n hC 1 d_M_isWritten_23 rfl rfl ?_
          refine wi_bipush hC 7 (by decide) d_M_isWritten_24 ?_
          refine wi_icmp_ne hC 33 d_M_isWritten_26 (by decide) (fun h5 => ?_) (fun h5 => ?_)
          · skip
            refine wi_iconst hC 0 (by decide) d_M_isWritten_33 ?_
            exact Jt1 false (by exact (Eq.trans eTt1 (Eq.trans (if_pos h1) (Eq.trans (if_neg h2) (Eq.trans (if_neg h3) (Eq.trans (if_neg h4) (if_neg h5)))))))
          · skip
            refine wi_iconst hC 1 (by decide) d_M_isWritten_29 ?_
            refine wi_goto hC 34 d_M_isWritten_30 (by decide) ?_
            exact Jt1 true (by exact (Eq.trans eTt1 (Eq.trans (if_pos h1) (Eq.trans (if_neg h2) (Eq.trans (if_neg h3) (Eq.trans (if_neg h4) (if_pos h5)))))))
theorem k_M_isWritten {p : Program} {l : Launch} {e : Env} {R : Room} {s : State} {m : MethodId} {args : Array Value} {below : List Frame} {meth : Method} {c : Code} {Q : State → Prop} {E : Ev} {nL pc index : Nat} {lv : List (Nat × Value)} {rest : List Value} {cc : ByteArray} {own : String} {σ τ : St} {q : Int64} {a1 : Int32} {a2 : Int32} (hC : Cx p s m args c cc nL own E)   (hl : Cond.methodLink own index y_M_isWritten ∈ WL) (hR : 0 + 1 ≤ R.frames ∧ 8 + (2 + 11) + 0 ≤ R.locals) (hs8 : (rest.map fun v => v.category).sum ≤ 8) (d : decode cc pc = .ok (.invokestatic index, 3)) (k : WS p l e R s m args below meth c Q E nL (pc + 3) lv ((.int (bI (f_M_isWritten a1 a2))) :: rest) (σ, τ, q)) : WS p l e R s m args below meth c Q E nL pc lv (.int a2 :: .int a1 :: rest) (σ, τ, q) := by
  exact wi_callS hC (n := 2) (vs := [.int a1, .int a2]) (rest := rest) (c_M_isWritten l E σ τ q a1 a2 ) (by decide +kernel) wd_1027 wd_952 wd_1028 ⟨rfl, rfl⟩ rfl rfl hl hR hs8 d k
set_option maxRecDepth 100000 in
set_option maxHeartbeats 400000 in
theorem c_M_bytesOf (l : Launch) (E : Ev) (σ τ : St) (q : Int64) (a1 : Int32)  : MF l y_M_bytesOf prog_12_method_23_code 1 (some .int) { frames := 0, cells := 0, slots := 0, locals := 0 } E [.int a1] (σ, τ, q) (some (.int (f_M_bytesOf a1))) (σ, τ, q) := by
  refine MF_intro (lv0 := [(0, .int a1)]) (by decide) wd_1029 (Nat.le_of_ble_eq_true rfl) rfl ?_
  intro p e s m args below meth c Q hC hr hk hQ
  replace hC : Cx p s m args c prog_12_method_23_code 1 "PartnerStackModel" E := hC
  refine wi_iload_n hC 0 d_M_bytesOf_0 rfl rfl ?_
  obtain ⟨Tt1, eTt1⟩ : ∃ y : Int32, y = (
          if a1 = 0 then
            2
          else
            if a1 = 7 then
              2
            else
              if a1 = 1 then
                4
              else
                if a1 = 3 then
                  4
                else
                  if a1 = 2 then
                    8
                  else
                    if a1 = 4 then
                      8
                    else
                      if 7 ≤ a1 then
                        if a1 = 8 then
                          14
                        else
                          94
                      else
                        10) := ⟨_, rfl⟩
  have Jt1 : ∀ (t1 : Int32), Tt1 = t1 → WS p l e { frames := 0, cells := 0, slots := 0, locals := 0 } s m args below meth c Q E 1 67 [(0, .int a1)] [.int t1] (σ, τ, q) := by
    intro t1  e_t1
    rw [eTt1] at e_t1
    have hf : f_M_bytesOf a1 = t1 := by subst e_t1; exact rfl
    exact wi_iret hC hr hk d_M_bytesOf_67 (congrArg (fun z => some (Value.int z)) hf) rfl hQ
  refine wi_if_eq hC 10 d_M_bytesOf_1 (by decide) (fun h1 => ?_) (fun h1 => ?_)
  · skip
    refine wi_iconst hC 2 (by decide) d_M_bytesOf_10 ?_
    refine wi_goto hC 67 d_M_bytesOf_11 (by decide) ?_
    exact Jt1 2 (by exact (Eq.trans eTt1 (if_pos h1)))
  · skip
    refine wi_iload_n hC 0 d_M_bytesOf_4 rfl rfl ?_
    refine wi_bipush hC 7 (by decide) d_M_bytesOf_5 ?_
    refine wi_icmp_ne hC 14 d_M_bytesOf_7 (by decide) (fun h2 => ?_) (fun h2 => ?_)
    · skip
      refine wi_iload_n hC 0 d_M_bytesOf_14 rfl rfl ?_
      refine wi_iconst hC 1 (by decide) d_M_bytesOf_15 ?_
      refine wi_icmp_eq hC 24 d_M_bytesOf_16 (by decide) (fun h3 => ?_) (fun h3 => ?_)
      · skip
        refine wi_iconst hC 4 (by decide) d_M_bytesOf_24 ?_
        refine wi_goto hC 67 d_M_bytesOf_25 (by decide) ?_
        exact Jt1 4 (by exact (Eq.trans eTt1 (Eq.trans (if_neg h1) (Eq.trans (if_neg h2) (if_pos h3)))))
      · skip
        refine wi_iload_n hC 0 d_M_bytesOf_19 rfl rfl ?_
        refine wi_iconst hC 3 (by decide) d_M_bytesOf_20 ?_
        refine wi_icmp_ne hC 28 d_M_bytesOf_21 (by decide) (fun h4 => ?_) (fun h4 => ?_)
        · skip
          refine wi_iload_n hC 0 d_M_bytesOf_28 rfl rfl ?_
          refine wi_iconst hC 2 (by decide) d_M_bytesOf_29 ?_
          refine wi_icmp_eq hC 38 d_M_bytesOf_30 (by decide) (fun h5 => ?_) (fun h5 => ?_)
          · skip
            refine wi_bipush hC 8 (by decide) d_M_bytesOf_38 ?_
            refine wi_goto hC 67 d_M_bytesOf_40 (by decide) ?_
            exact Jt1 8 (by exact (Eq.trans eTt1 (Eq.trans (if_neg h1) (Eq.trans (if_neg h2) (Eq.trans (if_neg h3) (Eq.trans (if_neg h4) (if_pos h5)))))))
          · skip
            refine wi_iload_n hC 0 d_M_bytesOf_33 rfl rfl ?_
            refine wi_iconst hC 4 (by decide) d_M_bytesOf_34 ?_
            refine wi_icmp_ne hC 43 d_M_bytesOf_35 (by decide) (fun h6 => ?_) (fun h6 => ?_)
            · skip
              refine wi_iload_n hC 0 d_M_bytesOf_43 rfl rfl ?_
              refine wi_bipush hC 7 (by decide) d_M_bytesOf_44 ?_
              refine wi_icmp_ge hC 54 d_M_bytesOf_46 (by decide) (fun h7 => ?_) (fun h7 => ?_)
              · skip
                refine wi_iload_n hC 0 d_M_bytesOf_54 rfl rfl ?_
                refine wi_bipush hC 8 (by decide) d_M_bytesOf_55 ?_
                refine wi_icmp_ne hC 65 d_M_bytesOf_57 (by decide) (fun h8 => ?_) (fun h8 => ?_)
                · skip
                  refine wi_bipush hC 94 (by decide) d_M_bytesOf_65 ?_
                  exact Jt1 94 (by exact (Eq.trans eTt1 (Eq.trans (if_neg h1) (Eq.trans (if_neg h2) (Eq.trans (if_neg h3) (Eq.trans (if_neg h4) (Eq.trans (if_neg h5) (Eq.trans (if_neg h6) (Eq.trans (if_pos h7) (if_neg h8))))))))))
                · skip
                  refine wi_bipush hC 14 (by decide) d_M_bytesOf_60 ?_
                  refine wi_goto hC 67 d_M_bytesOf_62 (by decide) ?_
                  exact Jt1 14 (by exact (Eq.trans eTt1 (Eq.trans (if_neg h1) (Eq.trans (if_neg h2) (Eq.trans (if_neg h3) (Eq.trans (if_neg h4) (Eq.trans (if_neg h5) (Eq.trans (if_neg h6) (Eq.trans (if_pos h7) (if_pos h8))))))))))
              · skip
                refine wi_bipush hC 10 (by decide) d_M_bytesOf_49 ?_
                refine wi_goto hC 67 d_M_bytesOf_51 (by decide) ?_
                exact Jt1 10 (by exact (Eq.trans eTt1 (Eq.trans (if_neg h1) (Eq.trans (if_neg h2) (Eq.trans (if_neg h3) (Eq.trans (if_neg h4) (Eq.trans (if_neg h5) (Eq.trans (if_neg h6) (if_neg h7)))))))))
            · skip
              refine wi_bipush hC 8 (by decide) d_M_bytesOf_38 ?_
              refine wi_goto hC 67 d_M_bytesOf_40 (by decide) ?_
              exact Jt1 8 (by exact (Eq.trans eTt1 (Eq.trans (if_neg h1) (Eq.trans (if_neg h2) (Eq.trans (if_neg h3) (Eq.trans (if_neg h4) (Eq.trans (if_neg h5) (if_pos h6))))))))
        · skip
          refine wi_iconst hC 4 (by decide) d_M_bytesOf_24 ?_
          refine wi_goto hC 67 d_M_bytesOf_25 (by decide) ?_
          exact Jt1 4 (by exact (Eq.trans eTt1 (Eq.trans (if_neg h1) (Eq.trans (if_neg h2) (Eq.trans (if_neg h3) (if_pos h4))))))
    · skip
      refine wi_iconst hC 2 (by decide) d_M_bytesOf_10 ?_
      refine wi_goto hC 67 d_M_bytesOf_11 (by decide) ?_
      exact Jt1 2 (by exact (Eq.trans eTt1 (Eq.trans (if_neg h1) (if_pos h2))))
theorem k_M_bytesOf {p : Program} {l : Launch} {e : Env} {R : Room} {s : State} {m : MethodId} {args : Array Value} {below : List Frame} {meth : Method} {c : Code} {Q : State → Prop} {E : Ev} {nL pc index : Nat} {lv : List (Nat × Value)} {rest : List Value} {cc : ByteArray} {own : String} {σ τ : St} {q : Int64} {a1 : Int32} (hC : Cx p s m args c cc nL own E)   (hl : Cond.methodLink own index y_M_bytesOf ∈ WL) (hR : 0 + 1 ≤ R.frames ∧ 8 + (1 + 11) + 0 ≤ R.locals) (hs8 : (rest.map fun v => v.category).sum ≤ 8) (d : decode cc pc = .ok (.invokestatic index, 3)) (k : WS p l e R s m args below meth c Q E nL (pc + 3) lv ((.int (f_M_bytesOf a1)) :: rest) (σ, τ, q)) : WS p l e R s m args below meth c Q E nL pc lv (.int a1 :: rest) (σ, τ, q) := by
  exact wi_callS hC (n := 1) (vs := [.int a1]) (rest := rest) (c_M_bytesOf l E σ τ q a1 ) (by decide +kernel) wd_1029 wd_952 wd_1030 ⟨rfl, rfl⟩ rfl rfl hl hR hs8 d k
set_option maxRecDepth 100000 in
set_option maxHeartbeats 400000 in
theorem c_M_needs (l : Launch) (E : Ev) (σ τ : St) (q : Int64) (a1 : Int32) (a2 : Int32)  : MF l y_M_needs prog_12_method_24_code 4 (some .int) { frames := 1, cells := 0, slots := 0, locals := 26 } E [.ref 30, .int a1, .int a2] (σ, τ, q) (some (.int ((f_M_needs τ a1 a2).1))) (σ, (f_M_needs τ a1 a2).2, q) := by
  refine MF_intro (lv0 := [(0, .ref 30), (1, .int a1), (2, .int a2)]) (by decide) wd_1035 (Nat.le_of_ble_eq_true rfl) rfl ?_
  intro p e s m args below meth c Q hC hr hk hQ
  replace hC : Cx p s m args c prog_12_method_24_code 4 "PartnerStackModel" E := hC
  refine wi_aload_n hC 0 d_M_needs_0 rfl rfl ?_
  refine wi_iload_n hC 1 d_M_needs_1 rfl rfl ?_
  obtain ⟨Tt1, eTt1⟩ : ∃ y : Bool, y = (
          if a1 < 0 then
            true
          else
            if 7 < a1 then
              true
            else
              if a2 < 0 then
                true
              else
                if a2 ≤ 255 then
                  false
                else
                  true) := ⟨_, rfl⟩
  have Jt1 : ∀ (t1 : Bool), Tt1 = t1 → WS p l e { frames := 1, cells := 0, slots := 0, locals := 26 } s m args below meth c Q E 4 27 [(0, .ref 30), (1, .int a1), (2, .int a2)] [.int (bI t1), .ref 30] (σ, τ, q) := by
    intro t1  e_t1
    rw [eTt1] at e_t1
    refine wp_M_code hC wd_955 d_M_needs_27 ?_
    refine wi_nmM (fun s1 e_s1 => ?_)
    refine wi_aload_n hC 0 d_M_needs_30 rfl rfl ?_
    refine wg_M_code hC wd_955 d_M_needs_31 ?_
    refine wi_if_gt hC 53 d_M_needs_34 (by decide) (fun h5 => ?_) (fun h5 => ?_)
    · skip
      refine wi_iconst hC 0 (by decide) d_M_needs_53 ?_
      have hf : f_M_needs τ a1 a2 = (0, s1) := by subst e_s1; subst e_t1; exact (if_pos h5)
      exact wi_iret hC hr hk d_M_needs_54 (congrArg (fun z => some (Value.int z.1)) hf) (congrArg (fun z => (σ, z.2, q)) hf).symm hQ
    · skip
      refine wi_iload_n hC 2 d_M_needs_37 rfl rfl ?_
      refine wi_sipush hC 192 (by decide) d_M_needs_38 ?_
      refine wi_icmp_ge hC 53 d_M_needs_41 (by decide) (fun h6 => ?_) (fun h6 => ?_)
      · skip
        refine wi_iconst hC 0 (by decide) d_M_needs_53 ?_
        have hf : f_M_needs τ a1 a2 = (0, s1) := by subst e_s1; subst e_t1; exact (Eq.trans (if_neg h5) (if_pos h6))
        exact wi_iret hC hr hk d_M_needs_54 (congrArg (fun z => some (Value.int z.1)) hf) (congrArg (fun z => (σ, z.2, q)) hf).symm hQ
      · skip
        refine wi_aload_n hC 0 d_M_needs_44 rfl rfl ?_
        refine wi_iload_n hC 1 d_M_needs_45 rfl rfl ?_
        refine wi_iload_n hC 2 d_M_needs_46 rfl rfl ?_
        refine k_M_kindOf hC  wd_1031 (by decide) (Nat.le_of_ble_eq_true rfl) d_M_needs_47 ?_
        refine wi_if_eq hC 55 d_M_needs_50 (by decide) (fun h7 => ?_) (fun h7 => ?_)
        · skip
          refine wi_iload_n hC 1 d_M_needs_55 rfl rfl ?_
          refine wi_iload_n hC 2 d_M_needs_56 rfl rfl ?_
          refine wi_bipush hC 8 (by decide) d_M_needs_57 ?_
          refine wi_idiv hC (by decide) d_M_needs_59 ?_
          refine wi_bipush hC 8 (by decide) d_M_needs_60 ?_
          refine wi_irem hC (by decide) d_M_needs_62 ?_
          refine k_M_operandOf hC  wd_1032 (by decide) (Nat.le_of_ble_eq_true rfl) d_M_needs_63 ?_
          refine k_M_bytesOf hC  wd_1033 (by decide) (Nat.le_of_ble_eq_true rfl) d_M_needs_66 ?_
          refine wi_nmI (fun v1 e_v1 => ?_)
          refine wi_istore_n hC [(3, .int v1), (0, .ref 30), (1, .int a1), (2, .int a2)] d_M_needs_69 rfl (by decide) rfl ?_
          refine wi_iload_n hC 2 d_M_needs_70 rfl rfl ?_
          refine wi_iload_n hC 3 d_M_needs_71 rfl rfl ?_
          refine wi_bipush hC 8 (by decide) d_M_needs_72 ?_
          refine wi_idiv hC (by decide) d_M_needs_74 ?_
          refine wi_bipush hC 8 (by decide) d_M_needs_75 ?_
          refine wi_irem hC (by decide) d_M_needs_77 ?_
          refine k_M_isWritten hC  wd_1034 (by decide) (Nat.le_of_ble_eq_true rfl) d_M_needs_78 ?_
          obtain ⟨Tt2, eTt2⟩ : ∃ y : Int32, y = (
                  if f_M_isWritten a1 (jrem (a2 / 8) 8) = true then
                    -v1
                  else
                    v1) := ⟨_, rfl⟩
          have Jt2 : ∀ (t2 : Int32), Tt2 = t2 → WS p l e { frames := 1, cells := 0, slots := 0, locals := 26 } s m args below meth c Q E 4 90 [(3, .int v1), (0, .ref 30), (1, .int a1), (2, .int a2)] [.int t2] (σ, s1, q) := by
            intro t2  e_t2
            rw [eTt2] at e_t2
            have hf : f_M_needs τ a1 a2 = (t2, s1) := by subst e_t2; subst e_v1; subst e_s1; subst e_t1; exact (Eq.trans (if_neg h5) (Eq.trans (if_neg h6) (if_pos h7)))
            exact wi_iret hC hr hk d_M_needs_90 (congrArg (fun z => some (Value.int z.1)) hf) (congrArg (fun z => (σ, z.2, q)) hf).symm hQ
          refine wi_z_eq (b := (f_M_isWritten a1 (jrem (a2 / 8) 8))) hC 89 d_M_needs_81 (by decide) (fun h8 => ?_) (fun h8 => ?_)
          · skip
            refine wi_iload_n hC 0 d_M_needs_89 rfl rfl ?_
            exact Jt2 v1 (by exact (Eq.trans eTt2 (if_neg h8)))
          · skip
            refine wi_iload_n hC 0 d_M_needs_84 rfl rfl ?_
            refine wi_ineg hC d_M_needs_85 ?_
            refine wi_goto hC 90 d_M_needs_86 (by decide) ?_
            exact Jt2 (-v1) (by exact (Eq.trans eTt2 (if_pos h8)))
        · skip
          refine wi_iconst hC 0 (by decide) d_M_needs_53 ?_
          have hf : f_M_needs τ a1 a2 = (0, s1) := by subst e_s1; subst e_t1; exact (Eq.trans (if_neg h5) (Eq.trans (if_neg h6) (if_neg h7)))
          exact wi_iret hC hr hk d_M_needs_54 (congrArg (fun z => some (Value.int z.1)) hf) (congrArg (fun z => (σ, z.2, q)) hf).symm hQ
  refine wi_if_lt hC 22 d_M_needs_2 (by decide) (fun h1 => ?_) (fun h1 => ?_)
  · skip
    refine wi_iconst hC 1 (by decide) d_M_needs_22 ?_
    refine wi_goto hC 27 d_M_needs_23 (by decide) ?_
    exact Jt1 true (by exact (Eq.trans eTt1 (if_pos h1)))
  · skip
    refine wi_iload_n hC 1 d_M_needs_5 rfl rfl ?_
    refine wi_bipush hC 7 (by decide) d_M_needs_6 ?_
    refine wi_icmp_gt hC 22 d_M_needs_8 (by decide) (fun h2 => ?_) (fun h2 => ?_)
    · skip
      refine wi_iconst hC 1 (by decide) d_M_needs_22 ?_
      refine wi_goto hC 27 d_M_needs_23 (by decide) ?_
      exact Jt1 true (by exact (Eq.trans eTt1 (Eq.trans (if_neg h1) (if_pos h2))))
    · skip
      refine wi_iload_n hC 2 d_M_needs_11 rfl rfl ?_
      refine wi_if_lt hC 22 d_M_needs_12 (by decide) (fun h3 => ?_) (fun h3 => ?_)
      · skip
        refine wi_iconst hC 1 (by decide) d_M_needs_22 ?_
        refine wi_goto hC 27 d_M_needs_23 (by decide) ?_
        exact Jt1 true (by exact (Eq.trans eTt1 (Eq.trans (if_neg h1) (Eq.trans (if_neg h2) (if_pos h3)))))
      · skip
        refine wi_iload_n hC 2 d_M_needs_15 rfl rfl ?_
        refine wi_sipush hC 255 (by decide) d_M_needs_16 ?_
        refine wi_icmp_le hC 26 d_M_needs_19 (by decide) (fun h4 => ?_) (fun h4 => ?_)
        · skip
          refine wi_iconst hC 0 (by decide) d_M_needs_26 ?_
          exact Jt1 false (by exact (Eq.trans eTt1 (Eq.trans (if_neg h1) (Eq.trans (if_neg h2) (Eq.trans (if_neg h3) (if_pos h4))))))
        · skip
          refine wi_iconst hC 1 (by decide) d_M_needs_22 ?_
          refine wi_goto hC 27 d_M_needs_23 (by decide) ?_
          exact Jt1 true (by exact (Eq.trans eTt1 (Eq.trans (if_neg h1) (Eq.trans (if_neg h2) (Eq.trans (if_neg h3) (if_neg h4))))))
theorem k_M_needs {p : Program} {l : Launch} {e : Env} {R : Room} {s : State} {m : MethodId} {args : Array Value} {below : List Frame} {meth : Method} {c : Code} {Q : State → Prop} {E : Ev} {nL pc index : Nat} {lv : List (Nat × Value)} {rest : List Value} {cc : ByteArray} {own : String} {σ τ : St} {q : Int64} {a1 : Int32} {a2 : Int32} (hC : Cx p s m args c cc nL own E)   (hl : Cond.methodLink own index y_M_needs ∈ WL) (hR : 1 + 1 ≤ R.frames ∧ 8 + (4 + 11) + 26 ≤ R.locals) (hs8 : (rest.map fun v => v.category).sum ≤ 8) (d : decode cc pc = .ok (.invokevirtual index, 3)) (k : WS p l e R s m args below meth c Q E nL (pc + 3) lv ((.int ((f_M_needs τ a1 a2).1)) :: rest) (σ, (f_M_needs τ a1 a2).2, q)) : WS p l e R s m args below meth c Q E nL pc lv (.int a2 :: .int a1 :: .ref 30 :: rest) (σ, τ, q) := by
  exact wi_callV hC (n := 2) (vs := [.int a1, .int a2]) (rest := rest) 30 10 (by decide) rfl rfl rfl (c_M_needs l E σ τ q a1 a2 ) (by decide +kernel) wd_1035 wd_952 wd_1036 wd_1037 ⟨rfl, rfl⟩ rfl rfl hl hR hs8 d k
set_option maxRecDepth 100000 in
set_option maxHeartbeats 400000 in
theorem c_M_high (l : Launch) (E : Ev) (σ τ : St) (q : Int64) (a1 : Int64)  : MF l y_M_high prog_12_method_25_code 2 (some .int) { frames := 0, cells := 0, slots := 0, locals := 0 } E [.long a1] (σ, τ, q) (some (.int (f_M_high a1))) (σ, τ, q) := by
  refine MF_intro (lv0 := [(0, .long a1)]) (by decide) wd_1038 (Nat.le_of_ble_eq_true rfl) rfl ?_
  intro p e s m args below meth c Q hC hr hk hQ
  replace hC : Cx p s m args c prog_12_method_25_code 2 "PartnerStackModel" E := hC
  refine wi_lload_n hC 0 d_M_high_0 rfl rfl ?_
  refine wi_bipush hC 32 (by decide) d_M_high_1 ?_
  refine wi_lshr hC d_M_high_3 ?_
  refine wi_l2i hC d_M_high_4 ?_
  have hf : f_M_high a1 = Int64.toInt32 (jlshr a1 32) := by exact rfl
  exact wi_iret hC hr hk d_M_high_5 (congrArg (fun z => some (Value.int z)) hf) rfl hQ
theorem k_M_high {p : Program} {l : Launch} {e : Env} {R : Room} {s : State} {m : MethodId} {args : Array Value} {below : List Frame} {meth : Method} {c : Code} {Q : State → Prop} {E : Ev} {nL pc index : Nat} {lv : List (Nat × Value)} {rest : List Value} {cc : ByteArray} {own : String} {σ τ : St} {q : Int64} {a1 : Int64} (hC : Cx p s m args c cc nL own E)   (hl : Cond.methodLink own index y_M_high ∈ WL) (hR : 0 + 1 ≤ R.frames ∧ 8 + (2 + 11) + 0 ≤ R.locals) (hs8 : (rest.map fun v => v.category).sum ≤ 8) (d : decode cc pc = .ok (.invokestatic index, 3)) (k : WS p l e R s m args below meth c Q E nL (pc + 3) lv ((.int (f_M_high a1)) :: rest) (σ, τ, q)) : WS p l e R s m args below meth c Q E nL pc lv (.long a1 :: rest) (σ, τ, q) := by
  exact wi_callS hC (n := 1) (vs := [.long a1]) (rest := rest) (c_M_high l E σ τ q a1 ) (by decide +kernel) wd_1038 wd_952 wd_1039 ⟨rfl, rfl⟩ rfl rfl hl hR hs8 d k
set_option maxRecDepth 100000 in
set_option maxHeartbeats 400000 in
theorem c_M_operate (l : Launch) (E : Ev) (σ τ : St) (q : Int64) (a1 : Int32) (a2 : Int32) (a3 : Int64) (a4 : Int32) (a5 : Int64)  : MF l y_M_operate prog_12_method_26_code 8 none { frames := 6, cells := 0, slots := 0, locals := 174 } E [.ref 30, .int a1, .int a2, .long a3, .int a4, .long a5] (σ, τ, q) none (σ, (f_M_operate τ a1 a2 a3 a4 a5), q) := by
  refine MF_intro (lv0 := [(0, .ref 30), (1, .int a1), (2, .int a2), (3, .long a3), (5, .int a4), (6, .long a5)]) (by decide) wd_1047 (Nat.le_of_ble_eq_true rfl) rfl ?_
  intro p e s m args below meth c Q hC hr hk hQ
  replace hC : Cx p s m args c prog_12_method_26_code 8 "PartnerStackModel" E := hC
  refine wi_aload_n hC 0 d_M_operate_0 rfl rfl ?_
  refine wg_M_operations hC wd_1040 d_M_operate_1 ?_
  refine wi_aload_n hC 0 d_M_operate_4 rfl rfl ?_
  refine wg_M_control hC wd_943 d_M_operate_5 ?_
  refine k_MO_control hC  wd_1041 (by decide) (Nat.le_of_ble_eq_true rfl) d_M_operate_8 ?_
  refine wi_nmM (fun s1 e_s1 => ?_)
  refine wi_aload_n hC 0 d_M_operate_11 rfl rfl ?_
  refine wg_M_operations hC wd_1040 d_M_operate_12 ?_
  refine wi_iconst hC 0 (by decide) d_M_operate_15 ?_
  refine wi_iload_n hC 2 d_M_operate_16 rfl rfl ?_
  refine wi_lload_n hC 3 d_M_operate_17 rfl rfl ?_
  refine k_M_high hC  wd_1042 (by decide) (Nat.le_of_ble_eq_true rfl) d_M_operate_18 ?_
  refine wi_lload_n hC 3 d_M_operate_21 rfl rfl ?_
  refine wi_l2i hC d_M_operate_22 ?_
  refine k_MO_set hC (by unfold vp_in; decide) wd_1043 (by decide) (Nat.le_of_ble_eq_true rfl) d_M_operate_23 ?_
  refine wi_nmM (fun s2 e_s2 => ?_)
  refine wi_aload_n hC 0 d_M_operate_26 rfl rfl ?_
  refine wg_M_operations hC wd_1040 d_M_operate_27 ?_
  refine wi_iconst hC 1 (by decide) d_M_operate_30 ?_
  refine wi_iload hC 4 d_M_operate_31 rfl ?_
  refine wi_lload hC 5 d_M_operate_33 rfl ?_
  refine k_M_high hC  wd_1042 (by decide) (Nat.le_of_ble_eq_true rfl) d_M_operate_35 ?_
  refine wi_lload hC 5 d_M_operate_38 rfl ?_
  refine wi_l2i hC d_M_operate_40 ?_
  refine k_MO_set hC (by unfold vp_in; decide) wd_1043 (by decide) (Nat.le_of_ble_eq_true rfl) d_M_operate_41 ?_
  refine wi_nmM (fun s3 e_s3 => ?_)
  refine wi_aload_n hC 0 d_M_operate_44 rfl rfl ?_
  refine wi_aload_n hC 0 d_M_operate_45 rfl rfl ?_
  refine wg_M_operations hC wd_1040 d_M_operate_46 ?_
  refine wi_iload_n hC 1 d_M_operate_49 rfl rfl ?_
  refine wi_iconst hC 0 (by decide) d_M_operate_50 ?_
  refine wi_iconst hC 1 (by decide) d_M_operate_51 ?_
  refine wi_iconst hC 2 (by decide) d_M_operate_52 ?_
  refine k_MO_operate hC (by unfold vp_in; decide) (by unfold vp_in; decide) (by decide) wd_1044 (by decide) (Nat.le_of_ble_eq_true rfl) d_M_operate_53 ?_
  obtain ⟨r1, e_r1⟩ : ∃ y : Int32 × St, f_MO_operate s3 a1 0 1 2 = y := ⟨_, rfl⟩
  rw [e_r1]
  refine k_M_say hC  wd_990 (by decide) (Nat.le_of_ble_eq_true rfl) d_M_operate_56 ?_
  refine wi_nmM (fun s4 e_s4 => ?_)
  refine wi_aload_n hC 0 d_M_operate_59 rfl rfl ?_
  refine wi_aload_n hC 0 d_M_operate_60 rfl rfl ?_
  refine wg_M_operations hC wd_1040 d_M_operate_61 ?_
  refine wi_iconst hC 2 (by decide) d_M_operate_64 ?_
  refine wi_iconst hC 0 (by decide) d_M_operate_65 ?_
  refine k_MO_part hC (by unfold vp_in; decide) wd_1045 (by decide) (Nat.le_of_ble_eq_true rfl) d_M_operate_66 ?_
  obtain ⟨r2, e_r2⟩ : ∃ y : Int32 × St, f_MO_part s4 2 0 = y := ⟨_, rfl⟩
  rw [e_r2]
  refine wp_M_xTop hC wd_1003 d_M_operate_69 ?_
  refine wi_nmM (fun s5 e_s5 => ?_)
  refine wi_aload_n hC 0 d_M_operate_72 rfl rfl ?_
  refine wi_aload_n hC 0 d_M_operate_73 rfl rfl ?_
  refine wg_M_operations hC wd_1040 d_M_operate_74 ?_
  refine wi_iconst hC 2 (by decide) d_M_operate_77 ?_
  refine wi_iconst hC 1 (by decide) d_M_operate_78 ?_
  refine k_MO_part hC (by unfold vp_in; decide) wd_1045 (by decide) (Nat.le_of_ble_eq_true rfl) d_M_operate_79 ?_
  obtain ⟨r3, e_r3⟩ : ∃ y : Int32 × St, f_MO_part s5 2 1 = y := ⟨_, rfl⟩
  rw [e_r3]
  refine wi_i2l hC d_M_operate_82 ?_
  refine wi_bipush hC 32 (by decide) d_M_operate_83 ?_
  refine wi_lshl hC d_M_operate_85 ?_
  refine wi_aload_n hC 0 d_M_operate_86 rfl rfl ?_
  refine wg_M_operations hC wd_1040 d_M_operate_87 ?_
  refine wi_iconst hC 2 (by decide) d_M_operate_90 ?_
  refine wi_iconst hC 2 (by decide) d_M_operate_91 ?_
  refine k_MO_part hC (by unfold vp_in; decide) wd_1045 (by decide) (Nat.le_of_ble_eq_true rfl) d_M_operate_92 ?_
  obtain ⟨r4, e_r4⟩ : ∃ y : Int32 × St, f_MO_part r3.2 2 2 = y := ⟨_, rfl⟩
  rw [e_r4]
  refine wi_i2l hC d_M_operate_95 ?_
  refine wi_ldc2 hC wd_1046 d_M_operate_96 ?_
  refine wi_land hC d_M_operate_99 ?_
  refine wi_lor hC d_M_operate_100 ?_
  refine wp_M_xFraction hC wd_1005 d_M_operate_101 ?_
  refine wi_nmM (fun s6 e_s6 => ?_)
  have hf : f_M_operate τ a1 a2 a3 a4 a5 = s6 := by subst e_s6; subst e_r4; subst e_r3; subst e_s5; subst e_r2; subst e_s4; subst e_r1; subst e_s3; subst e_s2; subst e_s1; exact rfl
  exact wi_vret hC hr hk d_M_operate_104 rfl (congrArg (fun z => (σ, z, q)) hf).symm hQ
theorem k_M_operate {p : Program} {l : Launch} {e : Env} {R : Room} {s : State} {m : MethodId} {args : Array Value} {below : List Frame} {meth : Method} {c : Code} {Q : State → Prop} {E : Ev} {nL pc index : Nat} {lv : List (Nat × Value)} {rest : List Value} {cc : ByteArray} {own : String} {σ τ : St} {q : Int64} {a1 : Int32} {a2 : Int32} {a3 : Int64} {a4 : Int32} {a5 : Int64} (hC : Cx p s m args c cc nL own E)   (hl : Cond.methodLink own index y_M_operate ∈ WL) (hR : 6 + 1 ≤ R.frames ∧ 8 + (8 + 11) + 174 ≤ R.locals) (hs8 : (rest.map fun v => v.category).sum ≤ 8) (d : decode cc pc = .ok (.invokevirtual index, 3)) (k : WS p l e R s m args below meth c Q E nL (pc + 3) lv rest (σ, (f_M_operate τ a1 a2 a3 a4 a5), q)) : WS p l e R s m args below meth c Q E nL pc lv (.long a5 :: .int a4 :: .long a3 :: .int a2 :: .int a1 :: .ref 30 :: rest) (σ, τ, q) := by
  exact wi_callV hC (n := 5) (vs := [.int a1, .int a2, .long a3, .int a4, .long a5]) (rest := rest) 30 10 (by decide) rfl rfl rfl (c_M_operate l E σ τ q a1 a2 a3 a4 a5 ) (by decide +kernel) wd_1047 wd_952 wd_1048 wd_1049 ⟨rfl, rfl⟩ rfl rfl hl hR hs8 d k
set_option maxRecDepth 100000 in
set_option maxHeartbeats 400000 in
theorem c_M_giveSteps (l : Launch) (E : Ev) (σ τ : St) (q : Int64) (a1 : Int32) (a2 : Int32) (a3 : Int64) (hp : vp_in a1 8) : MF l y_M_giveSteps prog_12_method_27_code 5 none { frames := 2, cells := 0, slots := 0, locals := 44 } E [.ref 30, .int a1, .int a2, .long a3] (σ, τ, q) none (σ, (f_M_giveSteps τ a1 a2 a3), q) := by
  refine MF_intro (lv0 := [(0, .ref 30), (1, .int a1), (2, .int a2), (3, .long a3)]) (by decide) wd_1053 (Nat.le_of_ble_eq_true rfl) rfl ?_
  intro p e s m args below meth c Q hC hr hk hQ
  replace hC : Cx p s m args c prog_12_method_27_code 5 "PartnerStackModel" E := hC
  refine wi_aload_n hC 0 d_M_giveSteps_0 rfl rfl ?_
  refine wg_M_steps hC wd_1050 d_M_giveSteps_1 ?_
  refine wi_aload_n hC 0 d_M_giveSteps_4 rfl rfl ?_
  refine wg_M_control hC wd_943 d_M_giveSteps_5 ?_
  refine k_MS_control hC  wd_1051 (by decide) (Nat.le_of_ble_eq_true rfl) d_M_giveSteps_8 ?_
  refine wi_nmM (fun s1 e_s1 => ?_)
  refine wi_aload_n hC 0 d_M_giveSteps_11 rfl rfl ?_
  refine wg_M_steps hC wd_1050 d_M_giveSteps_12 ?_
  refine wi_iload_n hC 1 d_M_giveSteps_15 rfl rfl ?_
  refine wi_iload_n hC 2 d_M_giveSteps_16 rfl rfl ?_
  refine wi_lload_n hC 3 d_M_giveSteps_17 rfl rfl ?_
  refine k_M_high hC  wd_1042 (by decide) (Nat.le_of_ble_eq_true rfl) d_M_giveSteps_18 ?_
  refine wi_lload_n hC 3 d_M_giveSteps_21 rfl rfl ?_
  refine wi_l2i hC d_M_giveSteps_22 ?_
  refine k_MS_set hC hp wd_1052 (by decide) (Nat.le_of_ble_eq_true rfl) d_M_giveSteps_23 ?_
  refine wi_nmM (fun s2 e_s2 => ?_)
  have hf : f_M_giveSteps τ a1 a2 a3 = s2 := by subst e_s2; subst e_s1; exact rfl
  exact wi_vret hC hr hk d_M_giveSteps_26 rfl (congrArg (fun z => (σ, z, q)) hf).symm hQ
theorem k_M_giveSteps {p : Program} {l : Launch} {e : Env} {R : Room} {s : State} {m : MethodId} {args : Array Value} {below : List Frame} {meth : Method} {c : Code} {Q : State → Prop} {E : Ev} {nL pc index : Nat} {lv : List (Nat × Value)} {rest : List Value} {cc : ByteArray} {own : String} {σ τ : St} {q : Int64} {a1 : Int32} {a2 : Int32} {a3 : Int64} (hC : Cx p s m args c cc nL own E)  (hp : vp_in a1 8) (hl : Cond.methodLink own index y_M_giveSteps ∈ WL) (hR : 2 + 1 ≤ R.frames ∧ 8 + (5 + 11) + 44 ≤ R.locals) (hs8 : (rest.map fun v => v.category).sum ≤ 8) (d : decode cc pc = .ok (.invokevirtual index, 3)) (k : WS p l e R s m args below meth c Q E nL (pc + 3) lv rest (σ, (f_M_giveSteps τ a1 a2 a3), q)) : WS p l e R s m args below meth c Q E nL pc lv (.long a3 :: .int a2 :: .int a1 :: .ref 30 :: rest) (σ, τ, q) := by
  exact wi_callV hC (n := 3) (vs := [.int a1, .int a2, .long a3]) (rest := rest) 30 10 (by decide) rfl rfl rfl (c_M_giveSteps l E σ τ q a1 a2 a3 hp) (by decide +kernel) wd_1053 wd_952 wd_1054 wd_1055 ⟨rfl, rfl⟩ rfl rfl hl hR hs8 d k
set_option maxRecDepth 100000 in
set_option maxHeartbeats 400000 in
theorem c_M_fromSteps (l : Launch) (E : Ev) (σ τ : St) (q : Int64) (a1 : Int32) (hp : vp_in a1 8) : MF l y_M_fromSteps prog_12_method_28_code 2 none { frames := 2, cells := 0, slots := 0, locals := 42 } E [.ref 30, .int a1] (σ, τ, q) none (σ, (f_M_fromSteps τ a1), q) := by
  refine MF_intro (lv0 := [(0, .ref 30), (1, .int a1)]) (by decide) wd_1057 (Nat.le_of_ble_eq_true rfl) rfl ?_
  intro p e s m args below meth c Q hC hr hk hQ
  replace hC : Cx p s m args c prog_12_method_28_code 2 "PartnerStackModel" E := hC
  refine wi_aload_n hC 0 d_M_fromSteps_0 rfl rfl ?_
  refine wi_aload_n hC 0 d_M_fromSteps_1 rfl rfl ?_
  refine wg_M_steps hC wd_1050 d_M_fromSteps_2 ?_
  refine wi_iload_n hC 1 d_M_fromSteps_5 rfl rfl ?_
  refine wi_iconst hC 0 (by decide) d_M_fromSteps_6 ?_
  refine k_MS_part hC hp wd_1056 (by decide) (Nat.le_of_ble_eq_true rfl) d_M_fromSteps_7 ?_
  obtain ⟨r1, e_r1⟩ : ∃ y : Int32 × St, f_MS_part τ a1 0 = y := ⟨_, rfl⟩
  rw [e_r1]
  refine wp_M_xTop hC wd_1003 d_M_fromSteps_10 ?_
  refine wi_nmM (fun s1 e_s1 => ?_)
  refine wi_aload_n hC 0 d_M_fromSteps_13 rfl rfl ?_
  refine wi_aload_n hC 0 d_M_fromSteps_14 rfl rfl ?_
  refine wg_M_steps hC wd_1050 d_M_fromSteps_15 ?_
  refine wi_iload_n hC 1 d_M_fromSteps_18 rfl rfl ?_
  refine wi_iconst hC 1 (by decide) d_M_fromSteps_19 ?_
  refine k_MS_part hC hp wd_1056 (by decide) (Nat.le_of_ble_eq_true rfl) d_M_fromSteps_20 ?_
  obtain ⟨r2, e_r2⟩ : ∃ y : Int32 × St, f_MS_part s1 a1 1 = y := ⟨_, rfl⟩
  rw [e_r2]
  refine wi_i2l hC d_M_fromSteps_23 ?_
  refine wi_bipush hC 32 (by decide) d_M_fromSteps_24 ?_
  refine wi_lshl hC d_M_fromSteps_26 ?_
  refine wi_aload_n hC 0 d_M_fromSteps_27 rfl rfl ?_
  refine wg_M_steps hC wd_1050 d_M_fromSteps_28 ?_
  refine wi_iload_n hC 1 d_M_fromSteps_31 rfl rfl ?_
  refine wi_iconst hC 2 (by decide) d_M_fromSteps_32 ?_
  refine k_MS_part hC hp wd_1056 (by decide) (Nat.le_of_ble_eq_true rfl) d_M_fromSteps_33 ?_
  obtain ⟨r3, e_r3⟩ : ∃ y : Int32 × St, f_MS_part r2.2 a1 2 = y := ⟨_, rfl⟩
  rw [e_r3]
  refine wi_i2l hC d_M_fromSteps_36 ?_
  refine wi_ldc2 hC wd_1046 d_M_fromSteps_37 ?_
  refine wi_land hC d_M_fromSteps_40 ?_
  refine wi_lor hC d_M_fromSteps_41 ?_
  refine wp_M_xFraction hC wd_1005 d_M_fromSteps_42 ?_
  refine wi_nmM (fun s2 e_s2 => ?_)
  have hf : f_M_fromSteps τ a1 = s2 := by subst e_s2; subst e_r3; subst e_r2; subst e_s1; subst e_r1; exact rfl
  exact wi_vret hC hr hk d_M_fromSteps_45 rfl (congrArg (fun z => (σ, z, q)) hf).symm hQ
theorem k_M_fromSteps {p : Program} {l : Launch} {e : Env} {R : Room} {s : State} {m : MethodId} {args : Array Value} {below : List Frame} {meth : Method} {c : Code} {Q : State → Prop} {E : Ev} {nL pc index : Nat} {lv : List (Nat × Value)} {rest : List Value} {cc : ByteArray} {own : String} {σ τ : St} {q : Int64} {a1 : Int32} (hC : Cx p s m args c cc nL own E)  (hp : vp_in a1 8) (hl : Cond.methodLink own index y_M_fromSteps ∈ WL) (hR : 2 + 1 ≤ R.frames ∧ 8 + (2 + 11) + 42 ≤ R.locals) (hs8 : (rest.map fun v => v.category).sum ≤ 8) (d : decode cc pc = .ok (.invokevirtual index, 3)) (k : WS p l e R s m args below meth c Q E nL (pc + 3) lv rest (σ, (f_M_fromSteps τ a1), q)) : WS p l e R s m args below meth c Q E nL pc lv (.int a1 :: .ref 30 :: rest) (σ, τ, q) := by
  exact wi_callV hC (n := 1) (vs := [.int a1]) (rest := rest) 30 10 (by decide) rfl rfl rfl (c_M_fromSteps l E σ τ q a1 hp) (by decide +kernel) wd_1057 wd_952 wd_1058 wd_1059 ⟨rfl, rfl⟩ rfl rfl hl hR hs8 d k
set_option maxRecDepth 100000 in
set_option maxHeartbeats 400000 in
theorem c_M_condition (l : Launch) (E : Ev) (σ τ : St) (q : Int64) (a1 : Int32) (a2 : Bool) (hp : ¬ a1 = 0) : MF l y_M_condition prog_12_method_29_code 4 none { frames := 0, cells := 0, slots := 0, locals := 0 } E [.ref 30, .int a1, .int (bI a2)] (σ, τ, q) none (σ, (f_M_condition τ a1 a2), q) := by
  refine MF_intro (lv0 := [(0, .ref 30), (1, .int a1), (2, .int (bI a2))]) (by decide) wd_1060 (Nat.le_of_ble_eq_true rfl) rfl ?_
  intro p e s m args below meth c Q hC hr hk hQ
  replace hC : Cx p s m args c prog_12_method_29_code 4 "PartnerStackModel" E := hC
  refine wi_aload_n hC 0 d_M_condition_0 rfl rfl ?_
  refine wg_M_conditions hC wd_945 d_M_condition_1 ?_
  refine wi_iload_n hC 1 d_M_condition_4 rfl rfl ?_
  refine wi_idiv hC hp d_M_condition_5 ?_
  refine wi_iconst hC 2 (by decide) d_M_condition_6 ?_
  refine wi_irem hC (by decide) d_M_condition_7 ?_
  refine wi_iconst hC 1 (by decide) d_M_condition_8 ?_
  obtain ⟨Tt1, eTt1⟩ : ∃ y : Bool, y = (
          if jrem ((gI τ 4 30) / a1) 2 = 1 then
            true
          else
            false) := ⟨_, rfl⟩
  have Jt1 : ∀ (t1 : Bool), Tt1 = t1 → WS p l e { frames := 0, cells := 0, slots := 0, locals := 0 } s m args below meth c Q E 4 17 [(0, .ref 30), (1, .int a1), (2, .int (bI a2))] [.int (bI t1)] (σ, τ, q) := by
    intro t1  e_t1
    rw [eTt1] at e_t1
    refine wi_istore_n hC [(3, .int (bI t1)), (0, .ref 30), (1, .int a1), (2, .int (bI a2))] d_M_condition_17 rfl (by decide) rfl ?_
    refine wi_aload_n hC 1 d_M_condition_18 rfl rfl ?_
    refine wi_aload_n hC 1 d_M_condition_19 rfl rfl ?_
    refine wg_M_conditions hC wd_945 d_M_condition_20 ?_
    refine wi_iload_n hC 3 d_M_condition_23 rfl rfl ?_
    refine wi_iload_n hC 0 d_M_condition_24 rfl rfl ?_
    obtain ⟨Tt2, eTt2⟩ : ∃ y : Int32, y = (
            if a2 = t1 then
              0
            else
              if a2 = true then
                a1
              else
                -a1) := ⟨_, rfl⟩
    have Jt2 : ∀ (t2 : Int32), Tt2 = t2 → WS p l e { frames := 0, cells := 0, slots := 0, locals := 0 } s m args below meth c Q E 4 42 [(3, .int (bI t1)), (0, .ref 30), (1, .int a1), (2, .int (bI a2))] [.int t2, .int (gI τ 4 30), .ref 30] (σ, τ, q) := by
      intro t2  e_t2
      rw [eTt2] at e_t2
      refine wi_iadd hC d_M_condition_42 ?_
      refine wp_M_conditions hC wd_945 d_M_condition_43 ?_
      refine wi_nmM (fun s1 e_s1 => ?_)
      have hf : f_M_condition τ a1 a2 = s1 := by subst e_s1; subst e_t2; subst e_t1; exact rfl
      exact wi_vret hC hr hk d_M_condition_46 rfl (congrArg (fun z => (σ, z, q)) hf).symm hQ
    refine wi_zc_ne (a := a2) (b := t1) hC 32 d_M_condition_25 (by decide) (fun h2 => ?_) (fun h2 => ?_)
    · skip
      refine wi_iload_n hC 3 d_M_condition_32 rfl rfl ?_
      refine wi_z_eq (b := a2) hC 40 d_M_condition_33 (by decide) (fun h3 => ?_) (fun h3 => ?_)
      · skip
        refine wi_iload_n hC 2 d_M_condition_40 rfl rfl ?_
        refine wi_ineg hC d_M_condition_41 ?_
        exact Jt2 (-a1) (by exact (Eq.trans eTt2 (Eq.trans (if_neg h2) (if_neg h3))))
      · skip
        refine wi_iload_n hC 2 d_M_condition_36 rfl rfl ?_
        refine wi_goto hC 42 d_M_condition_37 (by decide) ?_
        exact Jt2 a1 (by exact (Eq.trans eTt2 (Eq.trans (if_neg h2) (if_pos h3))))
    · skip
      refine wi_iconst hC 0 (by decide) d_M_condition_28 ?_
      refine wi_goto hC 42 d_M_condition_29 (by decide) ?_
      exact Jt2 0 (by exact (Eq.trans eTt2 (if_pos h2)))
  refine wi_icmp_ne hC 16 d_M_condition_9 (by decide) (fun h1 => ?_) (fun h1 => ?_)
  · skip
    refine wi_iconst hC 0 (by decide) d_M_condition_16 ?_
    exact Jt1 false (by exact (Eq.trans eTt1 (if_neg h1)))
  · skip
    refine wi_iconst hC 1 (by decide) d_M_condition_12 ?_
    refine wi_goto hC 17 d_M_condition_13 (by decide) ?_
    exact Jt1 true (by exact (Eq.trans eTt1 (if_pos h1)))
theorem k_M_condition {p : Program} {l : Launch} {e : Env} {R : Room} {s : State} {m : MethodId} {args : Array Value} {below : List Frame} {meth : Method} {c : Code} {Q : State → Prop} {E : Ev} {nL pc index : Nat} {lv : List (Nat × Value)} {rest : List Value} {cc : ByteArray} {own : String} {σ τ : St} {q : Int64} {a1 : Int32} (hC : Cx p s m args c cc nL own E) {x_a2 : Int32} (a2 : Bool) (hx_a2 : x_a2 = bI a2) (hp : ¬ a1 = 0) (hl : Cond.methodLink own index y_M_condition ∈ WL) (hR : 0 + 1 ≤ R.frames ∧ 8 + (4 + 11) + 0 ≤ R.locals) (hs8 : (rest.map fun v => v.category).sum ≤ 8) (d : decode cc pc = .ok (.invokevirtual index, 3)) (k : WS p l e R s m args below meth c Q E nL (pc + 3) lv rest (σ, (f_M_condition τ a1 a2), q)) : WS p l e R s m args below meth c Q E nL pc lv (.int x_a2 :: .int a1 :: .ref 30 :: rest) (σ, τ, q) := by
  subst hx_a2
  exact wi_callV hC (n := 2) (vs := [.int a1, .int (bI a2)]) (rest := rest) 30 10 (by decide) rfl rfl rfl (c_M_condition l E σ τ q a1 a2 hp) (by decide +kernel) wd_1060 wd_952 wd_1061 wd_1062 ⟨rfl, rfl⟩ rfl rfl hl hR hs8 d k
set_option maxRecDepth 100000 in
set_option maxHeartbeats 400000 in
theorem c_M_compare (l : Launch) (E : Ev) (σ τ : St) (q : Int64) (a1 : Bool)  : MF l y_M_compare prog_12_method_30_code 3 none { frames := 5, cells := 0, slots := 0, locals := 121 } E [.ref 30, .int (bI a1)] (σ, τ, q) none (σ, (f_M_compare τ a1), q) := by
  refine MF_intro (lv0 := [(0, .ref 30), (1, .int (bI a1))]) (by decide) wd_1068 (Nat.le_of_ble_eq_true rfl) rfl ?_
  intro p e s m args below meth c Q hC hr hk hQ
  replace hC : Cx p s m args c prog_12_method_30_code 3 "PartnerStackModel" E := hC
  refine wi_aload_n hC 0 d_M_compare_0 rfl rfl ?_
  refine wi_iconst hC 0 (by decide) d_M_compare_1 ?_
  refine wi_aload_n hC 0 d_M_compare_2 rfl rfl ?_
  refine wi_iconst hC 0 (by decide) d_M_compare_3 ?_
  refine k_M_topOf hC (by unfold vp_in; decide) wd_1002 (by decide) (Nat.le_of_ble_eq_true rfl) d_M_compare_4 ?_
  refine wi_aload_n hC 0 d_M_compare_7 rfl rfl ?_
  refine wi_iconst hC 0 (by decide) d_M_compare_8 ?_
  refine k_M_fractionOf hC (by unfold vp_in; decide) wd_1004 (by decide) (Nat.le_of_ble_eq_true rfl) d_M_compare_9 ?_
  refine k_M_giveSteps hC (by unfold vp_in; decide) wd_1063 (by decide) (Nat.le_of_ble_eq_true rfl) d_M_compare_12 ?_
  refine wi_nmM (fun s1 e_s1 => ?_)
  refine wi_aload_n hC 0 d_M_compare_15 rfl rfl ?_
  refine wi_iconst hC 1 (by decide) d_M_compare_16 ?_
  refine wi_aload_n hC 0 d_M_compare_17 rfl rfl ?_
  refine wg_M_xTop hC wd_1003 d_M_compare_18 ?_
  refine wi_aload_n hC 0 d_M_compare_21 rfl rfl ?_
  refine wg_M_xFraction hC wd_1005 d_M_compare_22 ?_
  refine k_M_giveSteps hC (by unfold vp_in; decide) wd_1063 (by decide) (Nat.le_of_ble_eq_true rfl) d_M_compare_25 ?_
  refine wi_nmM (fun s2 e_s2 => ?_)
  refine wi_iload_n hC 1 d_M_compare_28 rfl rfl ?_
  obtain ⟨Tt1, eTt1⟩ : ∃ y : Int32 × St, y = (
          if a1 = true then
            let r2 : Int32 × St := f_MS_test s2 0
            (r2.1, r2.2)
          else
            let r1 : Int32 × St := f_MS_compare s2 0 1
            (r1.1, r1.2)) := ⟨_, rfl⟩
  have Jt1 : ∀ (t1 : Int32 × St), Tt1 = t1 → WS p l e { frames := 5, cells := 0, slots := 0, locals := 121 } s m args below meth c Q E 3 52 [(0, .ref 30), (1, .int (bI a1))] [.int t1.1] (σ, t1.2, q) := by
    intro t1  e_t1
    rw [eTt1] at e_t1
    refine wi_istore_n hC [(2, .int t1.1), (0, .ref 30), (1, .int (bI a1))] d_M_compare_52 rfl (by decide) rfl ?_
    refine wi_aload_n hC 1 d_M_compare_53 rfl rfl ?_
    refine wi_aload_n hC 1 d_M_compare_54 rfl rfl ?_
    refine wg_M_steps hC wd_1050 d_M_compare_55 ?_
    refine wi_iconst hC 0 (by decide) d_M_compare_58 ?_
    refine k_MS_told hC  wd_1066 (by decide) (Nat.le_of_ble_eq_true rfl) d_M_compare_59 ?_
    obtain ⟨r3, e_r3⟩ : ∃ y : Int32 × St, f_MS_told t1.2 0 = y := ⟨_, rfl⟩
    rw [e_r3]
    refine k_M_say hC  wd_990 (by decide) (Nat.le_of_ble_eq_true rfl) d_M_compare_62 ?_
    refine wi_nmM (fun s3 e_s3 => ?_)
    refine wi_aload_n hC 1 d_M_compare_65 rfl rfl ?_
    refine wg_M_over hC wd_976 d_M_compare_66 ?_
    refine wi_z_eq (b := (gZ s3 9 30)) hC 73 d_M_compare_69 (by decide) (fun h2 => ?_) (fun h2 => ?_)
    · skip
      refine wi_aload_n hC 1 d_M_compare_73 rfl rfl ?_
      refine wi_sipush hC 256 (by decide) d_M_compare_74 ?_
      refine wi_iload_n hC 0 d_M_compare_77 rfl rfl ?_
      refine wi_iconst hC (-1) (by decide) d_M_compare_78 ?_
      obtain ⟨Tt2, eTt2⟩ : ∃ y : Bool, y = (
              if t1.1 = (-1) then
                true
              else
                if t1.1 = 2 then
                  true
                else
                  false) := ⟨_, rfl⟩
      have Jt2 : ∀ (t2 : Bool), Tt2 = t2 → WS p l e { frames := 5, cells := 0, slots := 0, locals := 121 } s m args below meth c Q E 3 92 [(2, .int t1.1), (0, .ref 30), (1, .int (bI a1))] [.int (bI t2), .int 256, .ref 30] (σ, s3, q) := by
        intro t2  e_t2
        rw [eTt2] at e_t2
        refine k_M_condition hC t2 rfl (by decide) wd_1067 (by decide) (Nat.le_of_ble_eq_true rfl) d_M_compare_92 ?_
        refine wi_nmM (fun s4 e_s4 => ?_)
        refine wi_aload_n hC 1 d_M_compare_95 rfl rfl ?_
        refine wi_sipush hC 1024 (by decide) d_M_compare_96 ?_
        refine wi_iload_n hC 0 d_M_compare_99 rfl rfl ?_
        refine wi_iconst hC 2 (by decide) d_M_compare_100 ?_
        obtain ⟨Tt3, eTt3⟩ : ∃ y : Bool, y = (
                if t1.1 = 2 then
                  true
                else
                  false) := ⟨_, rfl⟩
        have Jt3 : ∀ (t3 : Bool), Tt3 = t3 → WS p l e { frames := 5, cells := 0, slots := 0, locals := 121 } s m args below meth c Q E 3 109 [(2, .int t1.1), (0, .ref 30), (1, .int (bI a1))] [.int (bI t3), .int 1024, .ref 30] (σ, s4, q) := by
          intro t3  e_t3
          rw [eTt3] at e_t3
          refine k_M_condition hC t3 rfl (by decide) wd_1067 (by decide) (Nat.le_of_ble_eq_true rfl) d_M_compare_109 ?_
          refine wi_nmM (fun s5 e_s5 => ?_)
          refine wi_aload_n hC 1 d_M_compare_112 rfl rfl ?_
          refine wi_sipush hC 16384 (by decide) d_M_compare_113 ?_
          refine wi_iload_n hC 0 d_M_compare_116 rfl rfl ?_
          obtain ⟨Tt4, eTt4⟩ : ∃ y : Bool, y = (
                  if t1.1 = 0 then
                    true
                  else
                    if t1.1 = 2 then
                      true
                    else
                      false) := ⟨_, rfl⟩
          have Jt4 : ∀ (t4 : Bool), Tt4 = t4 → WS p l e { frames := 5, cells := 0, slots := 0, locals := 121 } s m args below meth c Q E 3 130 [(2, .int t1.1), (0, .ref 30), (1, .int (bI a1))] [.int (bI t4), .int 16384, .ref 30] (σ, s5, q) := by
            intro t4  e_t4
            rw [eTt4] at e_t4
            refine k_M_condition hC t4 rfl (by decide) wd_1067 (by decide) (Nat.le_of_ble_eq_true rfl) d_M_compare_130 ?_
            refine wi_nmM (fun s6 e_s6 => ?_)
            have hf : f_M_compare τ a1 = s6 := by subst e_s6; subst e_t4; subst e_s5; subst e_t3; subst e_s4; subst e_t2; subst e_s3; subst e_r3; subst e_t1; subst e_s2; subst e_s1; exact (if_neg h2)
            exact wi_vret hC hr hk d_M_compare_133 rfl (congrArg (fun z => (σ, z, q)) hf).symm hQ
          refine wi_if_eq hC 125 d_M_compare_117 (by decide) (fun h6 => ?_) (fun h6 => ?_)
          · skip
            refine wi_iconst hC 1 (by decide) d_M_compare_125 ?_
            refine wi_goto hC 130 d_M_compare_126 (by decide) ?_
            exact Jt4 true (by exact (Eq.trans eTt4 (if_pos h6)))
          · skip
            refine wi_iload_n hC 0 d_M_compare_120 rfl rfl ?_
            refine wi_iconst hC 2 (by decide) d_M_compare_121 ?_
            refine wi_icmp_ne hC 129 d_M_compare_122 (by decide) (fun h7 => ?_) (fun h7 => ?_)
            · skip
              refine wi_iconst hC 0 (by decide) d_M_compare_129 ?_
              exact Jt4 false (by exact (Eq.trans eTt4 (Eq.trans (if_neg h6) (if_neg h7))))
            · skip
              refine wi_iconst hC 1 (by decide) d_M_compare_125 ?_
              refine wi_goto hC 130 d_M_compare_126 (by decide) ?_
              exact Jt4 true (by exact (Eq.trans eTt4 (Eq.trans (if_neg h6) (if_pos h7))))
        refine wi_icmp_ne hC 108 d_M_compare_101 (by decide) (fun h5 => ?_) (fun h5 => ?_)
        · skip
          refine wi_iconst hC 0 (by decide) d_M_compare_108 ?_
          exact Jt3 false (by exact (Eq.trans eTt3 (if_neg h5)))
        · skip
          refine wi_iconst hC 1 (by decide) d_M_compare_104 ?_
          refine wi_goto hC 109 d_M_compare_105 (by decide) ?_
          exact Jt3 true (by exact (Eq.trans eTt3 (if_pos h5)))
      refine wi_icmp_eq hC 87 d_M_compare_79 (by decide) (fun h3 => ?_) (fun h3 => ?_)
      · skip
        refine wi_iconst hC 1 (by decide) d_M_compare_87 ?_
        refine wi_goto hC 92 d_M_compare_88 (by decide) ?_
        exact Jt2 true (by exact (Eq.trans eTt2 (if_pos h3)))
      · skip
        refine wi_iload_n hC 0 d_M_compare_82 rfl rfl ?_
        refine wi_iconst hC 2 (by decide) d_M_compare_83 ?_
        refine wi_icmp_ne hC 91 d_M_compare_84 (by decide) (fun h4 => ?_) (fun h4 => ?_)
        · skip
          refine wi_iconst hC 0 (by decide) d_M_compare_91 ?_
          exact Jt2 false (by exact (Eq.trans eTt2 (Eq.trans (if_neg h3) (if_neg h4))))
        · skip
          refine wi_iconst hC 1 (by decide) d_M_compare_87 ?_
          refine wi_goto hC 92 d_M_compare_88 (by decide) ?_
          exact Jt2 true (by exact (Eq.trans eTt2 (Eq.trans (if_neg h3) (if_pos h4))))
    · skip
      have hf : f_M_compare τ a1 = s3 := by subst e_s3; subst e_r3; subst e_t1; subst e_s2; subst e_s1; exact (if_pos h2)
      exact wi_vret hC hr hk d_M_compare_72 rfl (congrArg (fun z => (σ, z, q)) hf).symm hQ
  refine wi_z_eq (b := a1) hC 43 d_M_compare_29 (by decide) (fun h1 => ?_) (fun h1 => ?_)
  · skip
    refine wi_aload_n hC 0 d_M_compare_43 rfl rfl ?_
    refine wg_M_steps hC wd_1050 d_M_compare_44 ?_
    refine wi_iconst hC 0 (by decide) d_M_compare_47 ?_
    refine wi_iconst hC 1 (by decide) d_M_compare_48 ?_
    refine k_MS_compare hC (by unfold vp_in; decide) (by unfold vp_in; decide) wd_1064 (by decide) (Nat.le_of_ble_eq_true rfl) d_M_compare_49 ?_
    obtain ⟨r1, e_r1⟩ : ∃ y : Int32 × St, f_MS_compare s2 0 1 = y := ⟨_, rfl⟩
    rw [e_r1]
    exact Jt1 (r1.1, r1.2) (by subst e_r1; exact (Eq.trans eTt1 (if_neg h1)))
  · skip
    refine wi_aload_n hC 0 d_M_compare_32 rfl rfl ?_
    refine wg_M_steps hC wd_1050 d_M_compare_33 ?_
    refine wi_iconst hC 0 (by decide) d_M_compare_36 ?_
    refine k_MS_test hC (by unfold vp_in; decide) wd_1065 (by decide) (Nat.le_of_ble_eq_true rfl) d_M_compare_37 ?_
    obtain ⟨r2, e_r2⟩ : ∃ y : Int32 × St, f_MS_test s2 0 = y := ⟨_, rfl⟩
    rw [e_r2]
    refine wi_goto hC 52 d_M_compare_40 (by decide) ?_
    exact Jt1 (r2.1, r2.2) (by subst e_r2; exact (Eq.trans eTt1 (if_pos h1)))
theorem k_M_compare {p : Program} {l : Launch} {e : Env} {R : Room} {s : State} {m : MethodId} {args : Array Value} {below : List Frame} {meth : Method} {c : Code} {Q : State → Prop} {E : Ev} {nL pc index : Nat} {lv : List (Nat × Value)} {rest : List Value} {cc : ByteArray} {own : String} {σ τ : St} {q : Int64}  (hC : Cx p s m args c cc nL own E) {x_a1 : Int32} (a1 : Bool) (hx_a1 : x_a1 = bI a1)  (hl : Cond.methodLink own index y_M_compare ∈ WL) (hR : 5 + 1 ≤ R.frames ∧ 8 + (3 + 11) + 121 ≤ R.locals) (hs8 : (rest.map fun v => v.category).sum ≤ 8) (d : decode cc pc = .ok (.invokevirtual index, 3)) (k : WS p l e R s m args below meth c Q E nL (pc + 3) lv rest (σ, (f_M_compare τ a1), q)) : WS p l e R s m args below meth c Q E nL pc lv (.int x_a1 :: .ref 30 :: rest) (σ, τ, q) := by
  subst hx_a1
  exact wi_callV hC (n := 1) (vs := [.int (bI a1)]) (rest := rest) 30 10 (by decide) rfl rfl rfl (c_M_compare l E σ τ q a1 ) (by decide +kernel) wd_1068 wd_952 wd_1069 wd_1070 ⟨rfl, rfl⟩ rfl rfl hl hR hs8 d k
set_option maxRecDepth 100000 in
set_option maxHeartbeats 400000 in
theorem c_M_reckon (l : Launch) (E : Ev) (σ τ : St) (q : Int64) (a1 : Int32) (hp : vp_in a1 8) : MF l y_M_reckon prog_12_method_31_code 3 none { frames := 7, cells := 0, slots := 0, locals := 201 } E [.ref 30, .int a1] (σ, τ, q) none (σ, (f_M_reckon τ a1), q) := by
  refine MF_intro (lv0 := [(0, .ref 30), (1, .int a1)]) (by decide) wd_1075 (Nat.le_of_ble_eq_true rfl) rfl ?_
  intro p e s m args below meth c Q hC hr hk hQ
  replace hC : Cx p s m args c prog_12_method_31_code 3 "PartnerStackModel" E := hC
  refine wi_aload_n hC 0 d_M_reckon_0 rfl rfl ?_
  refine wg_M_r hC wd_1071 d_M_reckon_1 ?_
  refine wi_iconst hC 2 (by decide) d_M_reckon_4 ?_
  have B1 : f_M_reckon τ a1 = f_M_reckon_b16 τ → WS p l e { frames := 7, cells := 0, slots := 0, locals := 201 } s m args below meth c Q E 3 16 [(0, .ref 30), (1, .int a1)] [] (σ, τ, q) := by
    intro hB1
    refine wi_aload_n hC 0 d_M_reckon_16 rfl rfl ?_
    refine wi_iconst hC 0 (by decide) d_M_reckon_17 ?_
    refine k_M_compare hC false rfl wd_1073 (by decide) (Nat.le_of_ble_eq_true rfl) d_M_reckon_18 ?_
    refine wi_nmM (fun s3 e_s3 => ?_)
    refine wi_aload_n hC 0 d_M_reckon_21 rfl rfl ?_
    refine wg_M_r hC wd_1071 d_M_reckon_22 ?_
    refine wi_iconst hC 3 (by decide) d_M_reckon_25 ?_
    obtain ⟨Tt4, eTt4⟩ : ∃ y : St, y = (
            if gI s3 11 30 = 3 then
              if gZ s3 9 30 = true then
                s3
              else
                let s4 : St := f_M_pop s3
                s4
            else
              s3) := ⟨_, rfl⟩
    have Jt4 : ∀ (t4 : St), Tt4 = t4 → WS p l e { frames := 7, cells := 0, slots := 0, locals := 201 } s m args below meth c Q E 3 40 [(0, .ref 30), (1, .int a1)] [] (σ, t4, q) := by
      intro t4  e_t4
      rw [eTt4] at e_t4
      have hf : f_M_reckon τ a1 = t4 := by subst e_t4; subst e_s3; exact hB1
      exact wi_vret hC hr hk d_M_reckon_40 rfl (congrArg (fun z => (σ, z, q)) hf).symm hQ
    refine wi_icmp_ne hC 40 d_M_reckon_26 (by decide) (fun h8 => ?_) (fun h8 => ?_)
    · skip
      exact Jt4 s3 (by exact (Eq.trans eTt4 (if_neg h8)))
    · skip
      refine wi_aload_n hC 0 d_M_reckon_29 rfl rfl ?_
      refine wg_M_over hC wd_976 d_M_reckon_30 ?_
      refine wi_z_ne (b := (gZ s3 9 30)) hC 40 d_M_reckon_33 (by decide) (fun h9 => ?_) (fun h9 => ?_)
      · skip
        exact Jt4 s3 (by exact (Eq.trans eTt4 (Eq.trans (if_pos h8) (if_pos h9))))
      · skip
        refine wi_aload_n hC 0 d_M_reckon_36 rfl rfl ?_
        refine k_M_pop hC  wd_1074 (by decide) (Nat.le_of_ble_eq_true rfl) d_M_reckon_37 ?_
        refine wi_nmM (fun s4 e_s4 => ?_)
        exact Jt4 s4 (by subst e_s4; exact (Eq.trans eTt4 (Eq.trans (if_pos h8) (if_neg h9))))
  refine wi_icmp_eq hC 16 d_M_reckon_5 (by decide) (fun h1 => ?_) (fun h1 => ?_)
  · skip
    exact B1   (by exact (if_pos h1))
  · skip
    refine wi_aload_n hC 0 d_M_reckon_8 rfl rfl ?_
    refine wg_M_r hC wd_1071 d_M_reckon_9 ?_
    refine wi_iconst hC 3 (by decide) d_M_reckon_12 ?_
    refine wi_icmp_ne hC 41 d_M_reckon_13 (by decide) (fun h2 => ?_) (fun h2 => ?_)
    · skip
      refine wi_aload_n hC 0 d_M_reckon_41 rfl rfl ?_
      refine wg_M_r hC wd_1071 d_M_reckon_42 ?_
      obtain ⟨Tt1, eTt1⟩ : ∃ y : Int32, y = (
              if gI τ 11 30 = 0 then
                0
              else
                if gI τ 11 30 = 1 then
                  3
                else
                  (gI τ 11 30) - 3) := ⟨_, rfl⟩
      have Jt1 : ∀ (t1 : Int32), Tt1 = t1 → WS p l e { frames := 7, cells := 0, slots := 0, locals := 201 } s m args below meth c Q E 3 70 [(0, .ref 30), (1, .int a1)] [.int t1] (σ, τ, q) := by
        intro t1  e_t1
        rw [eTt1] at e_t1
        refine wi_istore_n hC [(2, .int t1), (0, .ref 30), (1, .int a1)] d_M_reckon_70 rfl (by decide) rfl ?_
        refine wi_aload_n hC 1 d_M_reckon_71 rfl rfl ?_
        refine wg_M_r hC wd_1071 d_M_reckon_72 ?_
        refine wi_bipush hC 6 (by decide) d_M_reckon_75 ?_
        obtain ⟨Tt2, eTt2⟩ : ∃ y : Int32, y = (
                if gI τ 11 30 = 6 then
                  4
                else
                  if gI τ 11 30 = 7 then
                    5
                  else
                    t1) := ⟨_, rfl⟩
        have Jt2 : ∀ (t2 : Int32), Tt2 = t2 → WS p l e { frames := 7, cells := 0, slots := 0, locals := 201 } s m args below meth c Q E 3 98 [(2, .int t1), (0, .ref 30), (1, .int a1)] [.int t2] (σ, τ, q) := by
          intro t2  e_t2
          rw [eTt2] at e_t2
          refine wi_istore_n hC [(2, .int t2), (0, .ref 30), (1, .int a1)] d_M_reckon_98 rfl (by decide) rfl ?_
          refine wi_aload_n hC 1 d_M_reckon_99 rfl rfl ?_
          refine wi_iload_n hC 0 d_M_reckon_100 rfl rfl ?_
          refine wi_aload_n hC 1 d_M_reckon_101 rfl rfl ?_
          refine wi_iconst hC 0 (by decide) d_M_reckon_102 ?_
          refine k_M_topOf hC (by unfold vp_in; decide) wd_1002 (by decide) (Nat.le_of_ble_eq_true rfl) d_M_reckon_103 ?_
          refine wi_aload_n hC 1 d_M_reckon_106 rfl rfl ?_
          refine wi_iconst hC 0 (by decide) d_M_reckon_107 ?_
          refine k_M_fractionOf hC (by unfold vp_in; decide) wd_1004 (by decide) (Nat.le_of_ble_eq_true rfl) d_M_reckon_108 ?_
          refine wi_aload_n hC 1 d_M_reckon_111 rfl rfl ?_
          refine wg_M_xTop hC wd_1003 d_M_reckon_112 ?_
          refine wi_aload_n hC 1 d_M_reckon_115 rfl rfl ?_
          refine wg_M_xFraction hC wd_1005 d_M_reckon_116 ?_
          refine k_M_operate hC  wd_1072 (by decide) (Nat.le_of_ble_eq_true rfl) d_M_reckon_119 ?_
          refine wi_nmM (fun s1 e_s1 => ?_)
          refine wi_aload_n hC 1 d_M_reckon_122 rfl rfl ?_
          refine wg_M_over hC wd_976 d_M_reckon_123 ?_
          obtain ⟨Tt3, eTt3⟩ : ∃ y : St, y = (
                  if gZ s1 9 30 = true then
                    s1
                  else
                    let s2 : St := f_M_becomeX s1 a1
                    s2) := ⟨_, rfl⟩
          have Jt3 : ∀ (t3 : St), Tt3 = t3 → WS p l e { frames := 7, cells := 0, slots := 0, locals := 201 } s m args below meth c Q E 3 134 [(2, .int t2), (0, .ref 30), (1, .int a1)] [] (σ, t3, q) := by
            intro t3  e_t3
            rw [eTt3] at e_t3
            have hf : f_M_reckon τ a1 = t3 := by subst e_t3; subst e_s1; subst e_t2; subst e_t1; exact (Eq.trans (if_neg h1) (if_neg h2))
            exact wi_vret hC hr hk d_M_reckon_134 rfl (congrArg (fun z => (σ, z, q)) hf).symm hQ
          refine wi_z_ne (b := (gZ s1 9 30)) hC 134 d_M_reckon_126 (by decide) (fun h7 => ?_) (fun h7 => ?_)
          · skip
            exact Jt3 s1 (by exact (Eq.trans eTt3 (if_pos h7)))
          · skip
            refine wi_aload_n hC 1 d_M_reckon_129 rfl rfl ?_
            refine wi_iload_n hC 2 d_M_reckon_130 rfl rfl ?_
            refine k_M_becomeX hC hp wd_1018 (by decide) (Nat.le_of_ble_eq_true rfl) d_M_reckon_131 ?_
            refine wi_nmM (fun s2 e_s2 => ?_)
            exact Jt3 s2 (by subst e_s2; exact (Eq.trans eTt3 (if_neg h7)))
        refine wi_icmp_ne hC 84 d_M_reckon_77 (by decide) (fun h5 => ?_) (fun h5 => ?_)
        · skip
          refine wi_aload_n hC 1 d_M_reckon_84 rfl rfl ?_
          refine wg_M_r hC wd_1071 d_M_reckon_85 ?_
          refine wi_bipush hC 7 (by decide) d_M_reckon_88 ?_
          refine wi_icmp_ne hC 97 d_M_reckon_90 (by decide) (fun h6 => ?_) (fun h6 => ?_)
          · skip
            refine wi_iload_n hC 0 d_M_reckon_97 rfl rfl ?_
            exact Jt2 t1 (by exact (Eq.trans eTt2 (Eq.trans (if_neg h5) (if_neg h6))))
          · skip
            refine wi_iconst hC 5 (by decide) d_M_reckon_93 ?_
            refine wi_goto hC 98 d_M_reckon_94 (by decide) ?_
            exact Jt2 5 (by exact (Eq.trans eTt2 (Eq.trans (if_neg h5) (if_pos h6))))
        · skip
          refine wi_iconst hC 4 (by decide) d_M_reckon_80 ?_
          refine wi_goto hC 98 d_M_reckon_81 (by decide) ?_
          exact Jt2 4 (by exact (Eq.trans eTt2 (if_pos h5)))
      refine wi_if_ne hC 52 d_M_reckon_45 (by decide) (fun h3 => ?_) (fun h3 => ?_)
      · skip
        refine wi_aload_n hC 0 d_M_reckon_52 rfl rfl ?_
        refine wg_M_r hC wd_1071 d_M_reckon_53 ?_
        refine wi_iconst hC 1 (by decide) d_M_reckon_56 ?_
        refine wi_icmp_ne hC 64 d_M_reckon_57 (by decide) (fun h4 => ?_) (fun h4 => ?_)
        · skip
          refine wi_aload_n hC 0 d_M_reckon_64 rfl rfl ?_
          refine wg_M_r hC wd_1071 d_M_reckon_65 ?_
          refine wi_iconst hC 3 (by decide) d_M_reckon_68 ?_
          refine wi_isub hC d_M_reckon_69 ?_
          exact Jt1 ((gI τ 11 30) - 3) (by exact (Eq.trans eTt1 (Eq.trans (if_neg h3) (if_neg h4))))
        · skip
          refine wi_iconst hC 3 (by decide) d_M_reckon_60 ?_
          refine wi_goto hC 70 d_M_reckon_61 (by decide) ?_
          exact Jt1 3 (by exact (Eq.trans eTt1 (Eq.trans (if_neg h3) (if_pos h4))))
      · skip
        refine wi_iconst hC 0 (by decide) d_M_reckon_48 ?_
        refine wi_goto hC 70 d_M_reckon_49 (by decide) ?_
        exact Jt1 0 (by exact (Eq.trans eTt1 (if_pos h3)))
    · skip
      exact B1   (by exact (Eq.trans (if_neg h1) (if_pos h2)))
theorem k_M_reckon {p : Program} {l : Launch} {e : Env} {R : Room} {s : State} {m : MethodId} {args : Array Value} {below : List Frame} {meth : Method} {c : Code} {Q : State → Prop} {E : Ev} {nL pc index : Nat} {lv : List (Nat × Value)} {rest : List Value} {cc : ByteArray} {own : String} {σ τ : St} {q : Int64} {a1 : Int32} (hC : Cx p s m args c cc nL own E)  (hp : vp_in a1 8) (hl : Cond.methodLink own index y_M_reckon ∈ WL) (hR : 7 + 1 ≤ R.frames ∧ 8 + (3 + 11) + 201 ≤ R.locals) (hs8 : (rest.map fun v => v.category).sum ≤ 8) (d : decode cc pc = .ok (.invokevirtual index, 3)) (k : WS p l e R s m args below meth c Q E nL (pc + 3) lv rest (σ, (f_M_reckon τ a1), q)) : WS p l e R s m args below meth c Q E nL pc lv (.int a1 :: .ref 30 :: rest) (σ, τ, q) := by
  exact wi_callV hC (n := 1) (vs := [.int a1]) (rest := rest) 30 10 (by decide) rfl rfl rfl (c_M_reckon l E σ τ q a1 hp) (by decide +kernel) wd_1075 wd_952 wd_1076 wd_1077 ⟨rfl, rfl⟩ rfl rfl hl hR hs8 d k
set_option maxRecDepth 100000 in
set_option maxHeartbeats 400000 in
theorem c_M_read (l : Launch) (E : Ev) (σ τ : St) (q : Int64) (a1 : Int32)  : MF l y_M_read prog_12_method_32_code 4 none { frames := 4, cells := 0, slots := 0, locals := 103 } E [.ref 30, .int a1] (σ, τ, q) none (σ, (f_M_read τ a1), q) := by
  refine MF_intro (lv0 := [(0, .ref 30), (1, .int a1)]) (by decide) wd_1084 (Nat.le_of_ble_eq_true rfl) rfl ?_
  intro p e s m args below meth c Q hC hr hk hQ
  replace hC : Cx p s m args c prog_12_method_32_code 4 "PartnerStackModel" E := hC
  refine wi_aload_n hC 0 d_M_read_0 rfl rfl ?_
  refine wi_iconst hC 0 (by decide) d_M_read_1 ?_
  refine k_M_wordAt hC (by unfold vp_in; decide) wd_1078 (by decide) (Nat.le_of_ble_eq_true rfl) d_M_read_2 ?_
  refine wi_aload_n hC 0 d_M_read_5 rfl rfl ?_
  refine wi_iconst hC 2 (by decide) d_M_read_6 ?_
  refine k_M_wordAt hC (by unfold vp_in; decide) wd_1078 (by decide) (Nat.le_of_ble_eq_true rfl) d_M_read_7 ?_
  refine wi_bipush hC 16 (by decide) d_M_read_10 ?_
  refine wi_ishl hC d_M_read_12 ?_
  refine wi_iadd hC d_M_read_13 ?_
  refine wi_nmI (fun v1 e_v1 => ?_)
  refine wi_istore_n hC [(2, .int v1), (0, .ref 30), (1, .int a1)] d_M_read_14 rfl (by decide) rfl ?_
  refine wi_aload_n hC 1 d_M_read_15 rfl rfl ?_
  refine wi_iconst hC 4 (by decide) d_M_read_16 ?_
  refine k_M_wordAt hC (by unfold vp_in; decide) wd_1078 (by decide) (Nat.le_of_ble_eq_true rfl) d_M_read_17 ?_
  refine wi_aload_n hC 1 d_M_read_20 rfl rfl ?_
  refine wi_bipush hC 6 (by decide) d_M_read_21 ?_
  refine k_M_wordAt hC (by unfold vp_in; decide) wd_1078 (by decide) (Nat.le_of_ble_eq_true rfl) d_M_read_23 ?_
  refine wi_bipush hC 16 (by decide) d_M_read_26 ?_
  refine wi_ishl hC d_M_read_28 ?_
  refine wi_iadd hC d_M_read_29 ?_
  refine wi_nmI (fun v2 e_v2 => ?_)
  refine wi_istore_n hC [(3, .int v2), (2, .int v1), (0, .ref 30), (1, .int a1)] d_M_read_30 rfl (by decide) rfl ?_
  refine wi_aload_n hC 2 d_M_read_31 rfl rfl ?_
  refine wg_M_conversions hC wd_1079 d_M_read_32 ?_
  refine wi_aload_n hC 2 d_M_read_35 rfl rfl ?_
  refine wg_M_control hC wd_943 d_M_read_36 ?_
  refine k_MC_control hC  wd_1080 (by decide) (Nat.le_of_ble_eq_true rfl) d_M_read_39 ?_
  refine wi_nmM (fun s1 e_s1 => ?_)
  refine wi_aload_n hC 2 d_M_read_42 rfl rfl ?_
  refine wg_M_conversions hC wd_1079 d_M_read_43 ?_
  refine wi_iload_n hC 1 d_M_read_46 rfl rfl ?_
  refine wi_iload_n hC 0 d_M_read_47 rfl rfl ?_
  refine wi_aload_n hC 2 d_M_read_48 rfl rfl ?_
  refine wi_bipush hC 8 (by decide) d_M_read_49 ?_
  refine k_M_wordAt hC (by unfold vp_in; decide) wd_1078 (by decide) (Nat.le_of_ble_eq_true rfl) d_M_read_51 ?_
  refine k_MC_memory hC  wd_1081 (by decide) (Nat.le_of_ble_eq_true rfl) d_M_read_54 ?_
  refine wi_nmM (fun s2 e_s2 => ?_)
  refine wi_aload_n hC 2 d_M_read_57 rfl rfl ?_
  refine wi_aload_n hC 2 d_M_read_58 rfl rfl ?_
  refine wg_M_conversions hC wd_1079 d_M_read_59 ?_
  refine wi_iload_n hC 3 d_M_read_62 rfl rfl ?_
  refine wi_iconst hC 0 (by decide) d_M_read_63 ?_
  refine k_MC_read hC (by unfold vp_in; decide) wd_1082 (by decide) (Nat.le_of_ble_eq_true rfl) d_M_read_64 ?_
  obtain ⟨r1, e_r1⟩ : ∃ y : Int32 × St, f_MC_read s2 a1 0 = y := ⟨_, rfl⟩
  rw [e_r1]
  refine k_M_say hC  wd_990 (by decide) (Nat.le_of_ble_eq_true rfl) d_M_read_67 ?_
  refine wi_nmM (fun s3 e_s3 => ?_)
  refine wi_aload_n hC 2 d_M_read_70 rfl rfl ?_
  refine wi_aload_n hC 2 d_M_read_71 rfl rfl ?_
  refine wg_M_conversions hC wd_1079 d_M_read_72 ?_
  refine wi_iconst hC 0 (by decide) d_M_read_75 ?_
  refine wi_iconst hC 0 (by decide) d_M_read_76 ?_
  refine k_MC_part hC (by unfold vp_in; decide) wd_1083 (by decide) (Nat.le_of_ble_eq_true rfl) d_M_read_77 ?_
  obtain ⟨r2, e_r2⟩ : ∃ y : Int32 × St, f_MC_part s3 0 0 = y := ⟨_, rfl⟩
  rw [e_r2]
  refine wp_M_xTop hC wd_1003 d_M_read_80 ?_
  refine wi_nmM (fun s4 e_s4 => ?_)
  refine wi_aload_n hC 2 d_M_read_83 rfl rfl ?_
  refine wi_aload_n hC 2 d_M_read_84 rfl rfl ?_
  refine wg_M_conversions hC wd_1079 d_M_read_85 ?_
  refine wi_iconst hC 0 (by decide) d_M_read_88 ?_
  refine wi_iconst hC 1 (by decide) d_M_read_89 ?_
  refine k_MC_part hC (by unfold vp_in; decide) wd_1083 (by decide) (Nat.le_of_ble_eq_true rfl) d_M_read_90 ?_
  obtain ⟨r3, e_r3⟩ : ∃ y : Int32 × St, f_MC_part s4 0 1 = y := ⟨_, rfl⟩
  rw [e_r3]
  refine wi_i2l hC d_M_read_93 ?_
  refine wi_bipush hC 32 (by decide) d_M_read_94 ?_
  refine wi_lshl hC d_M_read_96 ?_
  refine wi_aload_n hC 2 d_M_read_97 rfl rfl ?_
  refine wg_M_conversions hC wd_1079 d_M_read_98 ?_
  refine wi_iconst hC 0 (by decide) d_M_read_101 ?_
  refine wi_iconst hC 2 (by decide) d_M_read_102 ?_
  refine k_MC_part hC (by unfold vp_in; decide) wd_1083 (by decide) (Nat.le_of_ble_eq_true rfl) d_M_read_103 ?_
  obtain ⟨r4, e_r4⟩ : ∃ y : Int32 × St, f_MC_part r3.2 0 2 = y := ⟨_, rfl⟩
  rw [e_r4]
  refine wi_i2l hC d_M_read_106 ?_
  refine wi_ldc2 hC wd_1046 d_M_read_107 ?_
  refine wi_land hC d_M_read_110 ?_
  refine wi_lor hC d_M_read_111 ?_
  refine wp_M_xFraction hC wd_1005 d_M_read_112 ?_
  refine wi_nmM (fun s5 e_s5 => ?_)
  have hf : f_M_read τ a1 = s5 := by subst e_s5; subst e_r4; subst e_r3; subst e_s4; subst e_r2; subst e_s3; subst e_r1; subst e_s2; subst e_s1; subst e_v2; subst e_v1; exact rfl
  exact wi_vret hC hr hk d_M_read_115 rfl (congrArg (fun z => (σ, z, q)) hf).symm hQ
theorem k_M_read {p : Program} {l : Launch} {e : Env} {R : Room} {s : State} {m : MethodId} {args : Array Value} {below : List Frame} {meth : Method} {c : Code} {Q : State → Prop} {E : Ev} {nL pc index : Nat} {lv : List (Nat × Value)} {rest : List Value} {cc : ByteArray} {own : String} {σ τ : St} {q : Int64} {a1 : Int32} (hC : Cx p s m args c cc nL own E)   (hl : Cond.methodLink own index y_M_read ∈ WL) (hR : 4 + 1 ≤ R.frames ∧ 8 + (4 + 11) + 103 ≤ R.locals) (hs8 : (rest.map fun v => v.category).sum ≤ 8) (d : decode cc pc = .ok (.invokevirtual index, 3)) (k : WS p l e R s m args below meth c Q E nL (pc + 3) lv rest (σ, (f_M_read τ a1), q)) : WS p l e R s m args below meth c Q E nL pc lv (.int a1 :: .ref 30 :: rest) (σ, τ, q) := by
  exact wi_callV hC (n := 1) (vs := [.int a1]) (rest := rest) 30 10 (by decide) rfl rfl rfl (c_M_read l E σ τ q a1 ) (by decide +kernel) wd_1084 wd_952 wd_1085 wd_1086 ⟨rfl, rfl⟩ rfl rfl hl hR hs8 d k
set_option maxRecDepth 100000 in
set_option maxHeartbeats 400000 in
theorem c_M_write (l : Launch) (E : Ev) (σ τ : St) (q : Int64) (a1 : Int32) (hq : vp_in a1 7) : MF l y_M_write prog_12_method_33_code 4 none { frames := 6, cells := 0, slots := 0, locals := 148 } E [.ref 30, .int a1] (σ, τ, q) none (σ, (f_M_write τ a1), q) := by
  refine MF_intro (lv0 := [(0, .ref 30), (1, .int a1)]) (by decide) wd_1092 (Nat.le_of_ble_eq_true rfl) rfl ?_
  intro p e s m args below meth c Q hC hr hk hQ
  replace hC : Cx p s m args c prog_12_method_33_code 4 "PartnerStackModel" E := hC
  refine wi_aload_n hC 0 d_M_write_0 rfl rfl ?_
  refine wi_iconst hC 0 (by decide) d_M_write_1 ?_
  refine k_M_want hC (by unfold vp_in; decide) wd_1087 (by decide) (Nat.le_of_ble_eq_true rfl) d_M_write_2 ?_
  refine wi_nmM (fun s1 e_s1 => ?_)
  refine wi_aload_n hC 0 d_M_write_5 rfl rfl ?_
  refine wg_M_over hC wd_976 d_M_write_6 ?_
  refine wi_z_eq (b := (gZ s1 9 30)) hC 13 d_M_write_9 (by decide) (fun h1 => ?_) (fun h1 => ?_)
  · skip
    refine wi_aload_n hC 0 d_M_write_13 rfl rfl ?_
    refine wi_iconst hC 0 (by decide) d_M_write_14 ?_
    refine k_M_takeX hC (by unfold vp_in; decide) wd_1088 (by decide) (Nat.le_of_ble_eq_true rfl) d_M_write_15 ?_
    refine wi_nmM (fun s2 e_s2 => ?_)
    refine wi_aload_n hC 0 d_M_write_18 rfl rfl ?_
    refine wg_M_conversions hC wd_1079 d_M_write_19 ?_
    refine wi_aload_n hC 0 d_M_write_22 rfl rfl ?_
    refine wg_M_control hC wd_943 d_M_write_23 ?_
    refine k_MC_control hC  wd_1080 (by decide) (Nat.le_of_ble_eq_true rfl) d_M_write_26 ?_
    refine wi_nmM (fun s3 e_s3 => ?_)
    refine wi_aload_n hC 0 d_M_write_29 rfl rfl ?_
    refine wg_M_conversions hC wd_1079 d_M_write_30 ?_
    refine wi_iconst hC 0 (by decide) d_M_write_33 ?_
    refine wi_aload_n hC 0 d_M_write_34 rfl rfl ?_
    refine wg_M_xTop hC wd_1003 d_M_write_35 ?_
    refine wi_aload_n hC 0 d_M_write_38 rfl rfl ?_
    refine wg_M_xFraction hC wd_1005 d_M_write_39 ?_
    refine k_M_high hC  wd_1042 (by decide) (Nat.le_of_ble_eq_true rfl) d_M_write_42 ?_
    refine wi_aload_n hC 0 d_M_write_45 rfl rfl ?_
    refine wg_M_xFraction hC wd_1005 d_M_write_46 ?_
    refine wi_l2i hC d_M_write_49 ?_
    refine k_MC_set hC (by unfold vp_in; decide) wd_1089 (by decide) (Nat.le_of_ble_eq_true rfl) d_M_write_50 ?_
    refine wi_nmM (fun s4 e_s4 => ?_)
    refine wi_aload_n hC 0 d_M_write_53 rfl rfl ?_
    refine wg_M_conversions hC wd_1079 d_M_write_54 ?_
    refine wi_iload_n hC 1 d_M_write_57 rfl rfl ?_
    refine wi_iconst hC 0 (by decide) d_M_write_58 ?_
    refine k_MC_write hC (by unfold vp_in; decide) wd_1090 (by decide) (Nat.le_of_ble_eq_true rfl) d_M_write_59 ?_
    obtain ⟨r1, e_r1⟩ : ∃ y : Int32 × St, f_MC_write s4 a1 0 = y := ⟨_, rfl⟩
    rw [e_r1]
    refine wi_istore_n hC [(2, .int r1.1), (0, .ref 30), (1, .int a1)] d_M_write_62 rfl (by decide) rfl ?_
    refine wi_aload_n hC 1 d_M_write_63 rfl rfl ?_
    refine wi_iload_n hC 0 d_M_write_64 rfl rfl ?_
    refine k_M_say hC  wd_990 (by decide) (Nat.le_of_ble_eq_true rfl) d_M_write_65 ?_
    refine wi_nmM (fun s5 e_s5 => ?_)
    refine wi_aload_n hC 1 d_M_write_68 rfl rfl ?_
    refine wi_aload_n hC 1 d_M_write_69 rfl rfl ?_
    refine wg_M_over hC wd_976 d_M_write_70 ?_
    obtain ⟨Tt1, eTt1⟩ : ∃ y : Bool, y = (
            if gZ s5 9 30 = true then
              true
            else
              if jrem (r1.1 / 8) 2 = 1 then
                if jrem ((gI s5 2 30) / 8) 2 = 0 then
                  true
                else
                  f_M_write_b98 r1 s5
              else
                f_M_write_b98 r1 s5) := ⟨_, rfl⟩
    have Jt1 : ∀ (t1 : Bool), Tt1 = t1 → WS p l e { frames := 6, cells := 0, slots := 0, locals := 148 } s m args below meth c Q E 4 125 [(2, .int r1.1), (0, .ref 30), (1, .int a1)] [.int (bI t1), .ref 30] (σ, s5, q) := by
      intro t1  e_t1
      rw [eTt1] at e_t1
      refine wp_M_over hC t1 rfl wd_976 d_M_write_125 ?_
      refine wi_nmM (fun s6 e_s6 => ?_)
      refine wi_aload_n hC 1 d_M_write_128 rfl rfl ?_
      refine wg_M_over hC wd_976 d_M_write_129 ?_
      refine wi_z_eq (b := (gZ s6 9 30)) hC 136 d_M_write_132 (by decide) (fun h7 => ?_) (fun h7 => ?_)
      · skip
        refine wi_iconst hC 0 (by decide) d_M_write_136 ?_
        refine wi_istore_n hC [(3, .int 0), (2, .int r1.1), (0, .ref 30), (1, .int a1)] d_M_write_137 rfl (by decide) rfl ?_
        refine wi_loop ((b_M_write_138 a1)) (fun t3 => 0 ≤ (t3.1).toInt) (fun t3 => [(3, .int t3.1), (2, .int r1.1), (0, .ref 30), (1, .int a1)]) (fun t3 => (σ, t3.2, q)) 166 ?_ (up_inv (b := (b_M_write_138 a1)) (fun t => t.1) (f_M_bytesOf a1) 0 (st_b_M_write_138 a1)) (upf (f_M_bytesOf a1) 0) (0, s6) (show (0 : Int) ≤ (0 : Int32).toInt by decide) (up_halt (b := (b_M_write_138 a1)) (fun t => t.1) (f_M_bytesOf a1) (st_b_M_write_138 a1) (0, s6)) ?_
        · intro t3 hi_t3 hc_t3 hx_t3
          refine wi_iload_n hC 0 d_M_write_138 rfl rfl ?_
          refine wi_iload_n hC 3 d_M_write_139 rfl rfl ?_
          refine k_M_bytesOf hC  wd_1033 (by decide) (Nat.le_of_ble_eq_true rfl) d_M_write_140 ?_
          refine wi_icmp_ge hC 166 d_M_write_143 (by decide) (fun h8 => ?_) (fun h8 => ?_)
          · skip
            exact hx_t3 (t3.1, t3.2) (by exact (if_pos h8))
          · skip
            refine wi_aload_n hC 2 d_M_write_146 rfl rfl ?_
            refine wg_M_memory hC wd_962 d_M_write_147 ?_
            refine wi_iload_n hC 0 d_M_write_150 rfl rfl ?_
            refine wi_aload_n hC 2 d_M_write_151 rfl rfl ?_
            refine wg_M_conversions hC wd_1079 d_M_write_152 ?_
            refine wi_iload_n hC 0 d_M_write_155 rfl rfl ?_
            refine k_MC_byteAt hC (by_in hq hi_t3 h8) wd_1091 (by decide) (Nat.le_of_ble_eq_true rfl) d_M_write_156 ?_
            obtain ⟨r2, e_r2⟩ : ∃ y : Int32 × St, f_MC_byteAt t3.2 t3.1 = y := ⟨_, rfl⟩
            rw [e_r2]
            refine wa_st31 hC (vin10 (by_in hq hi_t3 h8)) d_M_write_159 ?_
            refine wi_nmM (fun s7 e_s7 => ?_)
            obtain ⟨v1, e_v1⟩ : ∃ y : Int32, t3.1 + 1 = y := ⟨_, rfl⟩
            refine wi_iinc hC 0 v1 [(3, .int v1), (2, .int r1.1), (0, .ref 30), (1, .int a1)] d_M_write_160 rfl (by rw [← e_v1]; rfl) (by decide) rfl ?_
            refine wi_goto hC 138 d_M_write_163 (by decide) ?_
            exact hc_t3 (v1, s7) (by subst e_v1; subst e_s7; subst e_r2; exact (if_neg h8))
        obtain ⟨t2, e_t2⟩ : ∃ y : Int32 × St, lpn ((b_M_write_138 a1)) (upf (f_M_bytesOf a1) 0) (0, s6) = y := ⟨_, rfl⟩
        rw [e_t2]
        refine wi_aload_n hC 2 d_M_write_166 rfl rfl ?_
        refine wg_M_r hC wd_1071 d_M_write_167 ?_
        refine wi_iconst hC 2 (by decide) d_M_write_170 ?_
        obtain ⟨Tt4, eTt4⟩ : ∃ y : St, y = (
                if gI t2.2 11 30 = 2 then
                  t2.2
                else
                  let s8 : St := f_M_pop t2.2
                  s8) := ⟨_, rfl⟩
        have Jt4 : ∀ (t4 : St), Tt4 = t4 → WS p l e { frames := 6, cells := 0, slots := 0, locals := 148 } s m args below meth c Q E 4 178 [(3, .int t2.1), (2, .int r1.1), (0, .ref 30), (1, .int a1)] [] (σ, t4, q) := by
          intro t4  e_t4
          rw [eTt4] at e_t4
          have hf : f_M_write τ a1 = t4 := by subst e_t4; subst e_t2; subst e_s6; subst e_t1; subst e_s5; subst e_r1; subst e_s4; subst e_s3; subst e_s2; subst e_s1; exact (Eq.trans (if_neg h1) (if_neg h7))
          exact wi_vret hC hr hk d_M_write_178 rfl (congrArg (fun z => (σ, z, q)) hf).symm hQ
        refine wi_icmp_eq hC 178 d_M_write_171 (by decide) (fun h9 => ?_) (fun h9 => ?_)
        · skip
          exact Jt4 t2.2 (by exact (Eq.trans eTt4 (if_pos h9)))
        · skip
          refine wi_aload_n hC 2 d_M_write_174 rfl rfl ?_
          refine k_M_pop hC  wd_1074 (by decide) (Nat.le_of_ble_eq_true rfl) d_M_write_175 ?_
          refine wi_nmM (fun s8 e_s8 => ?_)
          exact Jt4 s8 (by subst e_s8; exact (Eq.trans eTt4 (if_neg h9)))
      · skip
        have hf : f_M_write τ a1 = s6 := by subst e_s6; subst e_t1; subst e_s5; subst e_r1; subst e_s4; subst e_s3; subst e_s2; subst e_s1; exact (Eq.trans (if_neg h1) (if_pos h7))
        exact wi_vret hC hr hk d_M_write_135 rfl (congrArg (fun z => (σ, z, q)) hf).symm hQ
    refine wi_z_ne (b := (gZ s5 9 30)) hC 120 d_M_write_73 (by decide) (fun h2 => ?_) (fun h2 => ?_)
    · skip
      refine wi_iconst hC 1 (by decide) d_M_write_120 ?_
      refine wi_goto hC 125 d_M_write_121 (by decide) ?_
      exact Jt1 true (by exact (Eq.trans eTt1 (if_pos h2)))
    · skip
      refine wi_iload_n hC 0 d_M_write_76 rfl rfl ?_
      refine wi_bipush hC 8 (by decide) d_M_write_77 ?_
      refine wi_idiv hC (by decide) d_M_write_79 ?_
      refine wi_iconst hC 2 (by decide) d_M_write_80 ?_
      refine wi_irem hC (by decide) d_M_write_81 ?_
      refine wi_iconst hC 1 (by decide) d_M_write_82 ?_
      have B1 : Tt1 = f_M_write_b98 r1 s5 → WS p l e { frames := 6, cells := 0, slots := 0, locals := 148 } s m args below meth c Q E 4 98 [(2, .int r1.1), (0, .ref 30), (1, .int a1)] [.ref 30] (σ, s5, q) := by
        intro hB1
        refine wi_iload_n hC 0 d_M_write_98 rfl rfl ?_
        refine wi_bipush hC 16 (by decide) d_M_write_99 ?_
        refine wi_idiv hC (by decide) d_M_write_101 ?_
        refine wi_iconst hC 2 (by decide) d_M_write_102 ?_
        refine wi_irem hC (by decide) d_M_write_103 ?_
        refine wi_iconst hC 1 (by decide) d_M_write_104 ?_
        refine wi_icmp_ne hC 124 d_M_write_105 (by decide) (fun h5 => ?_) (fun h5 => ?_)
        · skip
          refine wi_iconst hC 0 (by decide) d_M_write_124 ?_
          exact Jt1 false (by exact (Eq.trans hB1 (if_neg h5)))
        · skip
          refine wi_aload_n hC 1 d_M_write_108 rfl rfl ?_
          refine wg_M_control hC wd_943 d_M_write_109 ?_
          refine wi_bipush hC 16 (by decide) d_M_write_112 ?_
          refine wi_idiv hC (by decide) d_M_write_114 ?_
          refine wi_iconst hC 2 (by decide) d_M_write_115 ?_
          refine wi_irem hC (by decide) d_M_write_116 ?_
          refine wi_if_ne hC 124 d_M_write_117 (by decide) (fun h6 => ?_) (fun h6 => ?_)
          · skip
            refine wi_iconst hC 0 (by decide) d_M_write_124 ?_
            exact Jt1 false (by exact (Eq.trans hB1 (Eq.trans (if_pos h5) (if_neg h6))))
          · skip
            refine wi_iconst hC 1 (by decide) d_M_write_120 ?_
            refine wi_goto hC 125 d_M_write_121 (by decide) ?_
            exact Jt1 true (by exact (Eq.trans hB1 (Eq.trans (if_pos h5) (if_pos h6))))
      refine wi_icmp_ne hC 98 d_M_write_83 (by decide) (fun h3 => ?_) (fun h3 => ?_)
      · skip
        exact B1   (by exact (Eq.trans eTt1 (Eq.trans (if_neg h2) (if_neg h3))))
      · skip
        refine wi_aload_n hC 1 d_M_write_86 rfl rfl ?_
        refine wg_M_control hC wd_943 d_M_write_87 ?_
        refine wi_bipush hC 8 (by decide) d_M_write_90 ?_
        refine wi_idiv hC (by decide) d_M_write_92 ?_
        refine wi_iconst hC 2 (by decide) d_M_write_93 ?_
        refine wi_irem hC (by decide) d_M_write_94 ?_
        refine wi_if_eq hC 120 d_M_write_95 (by decide) (fun h4 => ?_) (fun h4 => ?_)
        · skip
          refine wi_iconst hC 1 (by decide) d_M_write_120 ?_
          refine wi_goto hC 125 d_M_write_121 (by decide) ?_
          exact Jt1 true (by exact (Eq.trans eTt1 (Eq.trans (if_neg h2) (Eq.trans (if_pos h3) (if_pos h4)))))
        · skip
          exact B1   (by exact (Eq.trans eTt1 (Eq.trans (if_neg h2) (Eq.trans (if_pos h3) (if_neg h4)))))
  · skip
    have hf : f_M_write τ a1 = s1 := by subst e_s1; exact (if_pos h1)
    exact wi_vret hC hr hk d_M_write_12 rfl (congrArg (fun z => (σ, z, q)) hf).symm hQ
theorem k_M_write {p : Program} {l : Launch} {e : Env} {R : Room} {s : State} {m : MethodId} {args : Array Value} {below : List Frame} {meth : Method} {c : Code} {Q : State → Prop} {E : Ev} {nL pc index : Nat} {lv : List (Nat × Value)} {rest : List Value} {cc : ByteArray} {own : String} {σ τ : St} {q : Int64} {a1 : Int32} (hC : Cx p s m args c cc nL own E)  (hq : vp_in a1 7) (hl : Cond.methodLink own index y_M_write ∈ WL) (hR : 6 + 1 ≤ R.frames ∧ 8 + (4 + 11) + 148 ≤ R.locals) (hs8 : (rest.map fun v => v.category).sum ≤ 8) (d : decode cc pc = .ok (.invokevirtual index, 3)) (k : WS p l e R s m args below meth c Q E nL (pc + 3) lv rest (σ, (f_M_write τ a1), q)) : WS p l e R s m args below meth c Q E nL pc lv (.int a1 :: .ref 30 :: rest) (σ, τ, q) := by
  exact wi_callV hC (n := 1) (vs := [.int a1]) (rest := rest) 30 10 (by decide) rfl rfl rfl (c_M_write l E σ τ q a1 hq) (by decide +kernel) wd_1092 wd_952 wd_1093 wd_1094 ⟨rfl, rfl⟩ rfl rfl hl hR hs8 d k
set_option maxRecDepth 100000 in
set_option maxHeartbeats 400000 in
theorem c_M_writeEnvironment (l : Launch) (E : Ev) (σ τ : St) (q : Int64)   : MF l y_M_writeEnvironment prog_12_method_34_code 1 none { frames := 1, cells := 0, slots := 0, locals := 25 } E [.ref 30] (σ, τ, q) none (σ, (f_M_writeEnvironment τ), q) := by
  refine MF_intro (lv0 := [(0, .ref 30)]) (by decide) wd_1099 (Nat.le_of_ble_eq_true rfl) rfl ?_
  intro p e s m args below meth c Q hC hr hk hQ
  replace hC : Cx p s m args c prog_12_method_34_code 1 "PartnerStackModel" E := hC
  refine wi_aload_n hC 0 d_M_writeEnvironment_0 rfl rfl ?_
  refine wi_iconst hC 0 (by decide) d_M_writeEnvironment_1 ?_
  refine wi_aload_n hC 0 d_M_writeEnvironment_2 rfl rfl ?_
  refine wg_M_control hC wd_943 d_M_writeEnvironment_3 ?_
  refine k_M_setWord hC (by unfold vp_in; decide) wd_1095 (by decide) (Nat.le_of_ble_eq_true rfl) d_M_writeEnvironment_6 ?_
  refine wi_nmM (fun s1 e_s1 => ?_)
  refine wi_aload_n hC 0 d_M_writeEnvironment_9 rfl rfl ?_
  refine wi_iconst hC 2 (by decide) d_M_writeEnvironment_10 ?_
  refine wi_aload_n hC 0 d_M_writeEnvironment_11 rfl rfl ?_
  refine k_M_status hC  wd_1096 (by decide) (Nat.le_of_ble_eq_true rfl) d_M_writeEnvironment_12 ?_
  refine k_M_setWord hC (by unfold vp_in; decide) wd_1095 (by decide) (Nat.le_of_ble_eq_true rfl) d_M_writeEnvironment_15 ?_
  refine wi_nmM (fun s2 e_s2 => ?_)
  refine wi_aload_n hC 0 d_M_writeEnvironment_18 rfl rfl ?_
  refine wi_iconst hC 4 (by decide) d_M_writeEnvironment_19 ?_
  refine wi_aload_n hC 0 d_M_writeEnvironment_20 rfl rfl ?_
  refine k_M_tags hC  wd_1097 (by decide) (Nat.le_of_ble_eq_true rfl) d_M_writeEnvironment_21 ?_
  refine k_M_setWord hC (by unfold vp_in; decide) wd_1095 (by decide) (Nat.le_of_ble_eq_true rfl) d_M_writeEnvironment_24 ?_
  refine wi_nmM (fun s3 e_s3 => ?_)
  refine wi_aload_n hC 0 d_M_writeEnvironment_27 rfl rfl ?_
  refine wi_bipush hC 6 (by decide) d_M_writeEnvironment_28 ?_
  refine wi_aload_n hC 0 d_M_writeEnvironment_30 rfl rfl ?_
  refine wg_M_codePlace hC wd_949 d_M_writeEnvironment_31 ?_
  refine wi_ldc hC wd_1098 d_M_writeEnvironment_34 ?_
  refine wi_irem hC (by decide) d_M_writeEnvironment_36 ?_
  refine k_M_setWord hC (by unfold vp_in; decide) wd_1095 (by decide) (Nat.le_of_ble_eq_true rfl) d_M_writeEnvironment_37 ?_
  refine wi_nmM (fun s4 e_s4 => ?_)
  refine wi_aload_n hC 0 d_M_writeEnvironment_40 rfl rfl ?_
  refine wi_bipush hC 8 (by decide) d_M_writeEnvironment_41 ?_
  refine wi_aload_n hC 0 d_M_writeEnvironment_43 rfl rfl ?_
  refine wg_M_codePlace hC wd_949 d_M_writeEnvironment_44 ?_
  refine wi_ldc hC wd_1098 d_M_writeEnvironment_47 ?_
  refine wi_idiv hC (by decide) d_M_writeEnvironment_49 ?_
  refine wi_sipush hC 4096 (by decide) d_M_writeEnvironment_50 ?_
  refine wi_imul hC d_M_writeEnvironment_53 ?_
  refine wi_aload_n hC 0 d_M_writeEnvironment_54 rfl rfl ?_
  refine wg_M_codeOf hC wd_948 d_M_writeEnvironment_55 ?_
  refine wi_iadd hC d_M_writeEnvironment_58 ?_
  refine k_M_setWord hC (by unfold vp_in; decide) wd_1095 (by decide) (Nat.le_of_ble_eq_true rfl) d_M_writeEnvironment_59 ?_
  refine wi_nmM (fun s5 e_s5 => ?_)
  refine wi_aload_n hC 0 d_M_writeEnvironment_62 rfl rfl ?_
  refine wi_bipush hC 10 (by decide) d_M_writeEnvironment_63 ?_
  refine wi_aload_n hC 0 d_M_writeEnvironment_65 rfl rfl ?_
  refine wg_M_operandPlace hC wd_950 d_M_writeEnvironment_66 ?_
  refine wi_ldc hC wd_1098 d_M_writeEnvironment_69 ?_
  refine wi_irem hC (by decide) d_M_writeEnvironment_71 ?_
  refine k_M_setWord hC (by unfold vp_in; decide) wd_1095 (by decide) (Nat.le_of_ble_eq_true rfl) d_M_writeEnvironment_72 ?_
  refine wi_nmM (fun s6 e_s6 => ?_)
  refine wi_aload_n hC 0 d_M_writeEnvironment_75 rfl rfl ?_
  refine wi_bipush hC 12 (by decide) d_M_writeEnvironment_76 ?_
  refine wi_aload_n hC 0 d_M_writeEnvironment_78 rfl rfl ?_
  refine wg_M_operandPlace hC wd_950 d_M_writeEnvironment_79 ?_
  refine wi_ldc hC wd_1098 d_M_writeEnvironment_82 ?_
  refine wi_idiv hC (by decide) d_M_writeEnvironment_84 ?_
  refine wi_sipush hC 4096 (by decide) d_M_writeEnvironment_85 ?_
  refine wi_imul hC d_M_writeEnvironment_88 ?_
  refine k_M_setWord hC (by unfold vp_in; decide) wd_1095 (by decide) (Nat.le_of_ble_eq_true rfl) d_M_writeEnvironment_89 ?_
  refine wi_nmM (fun s7 e_s7 => ?_)
  have hf : f_M_writeEnvironment τ = s7 := by subst e_s7; subst e_s6; subst e_s5; subst e_s4; subst e_s3; subst e_s2; subst e_s1; exact rfl
  exact wi_vret hC hr hk d_M_writeEnvironment_92 rfl (congrArg (fun z => (σ, z, q)) hf).symm hQ
theorem k_M_writeEnvironment {p : Program} {l : Launch} {e : Env} {R : Room} {s : State} {m : MethodId} {args : Array Value} {below : List Frame} {meth : Method} {c : Code} {Q : State → Prop} {E : Ev} {nL pc index : Nat} {lv : List (Nat × Value)} {rest : List Value} {cc : ByteArray} {own : String} {σ τ : St} {q : Int64}  (hC : Cx p s m args c cc nL own E)   (hl : Cond.methodLink own index y_M_writeEnvironment ∈ WL) (hR : 1 + 1 ≤ R.frames ∧ 8 + (1 + 11) + 25 ≤ R.locals) (hs8 : (rest.map fun v => v.category).sum ≤ 8) (d : decode cc pc = .ok (.invokevirtual index, 3)) (k : WS p l e R s m args below meth c Q E nL (pc + 3) lv rest (σ, (f_M_writeEnvironment τ), q)) : WS p l e R s m args below meth c Q E nL pc lv (.ref 30 :: rest) (σ, τ, q) := by
  exact wi_callV hC (n := 0) (vs := []) (rest := rest) 30 10 (by decide) rfl rfl rfl (c_M_writeEnvironment l E σ τ q  ) (by decide +kernel) wd_1099 wd_952 wd_1100 wd_1101 ⟨rfl, rfl⟩ rfl rfl hl hR hs8 d k
set_option maxRecDepth 100000 in
set_option maxHeartbeats 400000 in
theorem c_M_readEnvironment (l : Launch) (E : Ev) (σ τ : St) (q : Int64)  (hm : memb τ) : MF l y_M_readEnvironment prog_12_method_35_code 4 none { frames := 1, cells := 0, slots := 0, locals := 21 } E [.ref 30] (σ, τ, q) none (σ, (f_M_readEnvironment τ), q) := by
  refine MF_intro (lv0 := [(0, .ref 30)]) (by decide) wd_1102 (Nat.le_of_ble_eq_true rfl) rfl ?_
  intro p e s m args below meth c Q hC hr hk hQ
  replace hC : Cx p s m args c prog_12_method_35_code 4 "PartnerStackModel" E := hC
  refine wi_aload_n hC 0 d_M_readEnvironment_0 rfl rfl ?_
  refine wi_aload_n hC 0 d_M_readEnvironment_1 rfl rfl ?_
  refine wi_iconst hC 0 (by decide) d_M_readEnvironment_2 ?_
  refine k_M_wordAt hC (by unfold vp_in; decide) wd_1078 (by decide) (Nat.le_of_ble_eq_true rfl) d_M_readEnvironment_3 ?_
  refine wp_M_control hC wd_943 d_M_readEnvironment_6 ?_
  refine wi_nmM (fun s1 e_s1 => ?_)
  refine wi_aload_n hC 0 d_M_readEnvironment_9 rfl rfl ?_
  refine wi_iconst hC 2 (by decide) d_M_readEnvironment_10 ?_
  refine k_M_wordAt hC (by unfold vp_in; decide) wd_1078 (by decide) (Nat.le_of_ble_eq_true rfl) d_M_readEnvironment_11 ?_
  refine wi_nmI (fun v1 e_v1 => ?_)
  refine wi_istore_n hC [(1, .int v1), (0, .ref 30)] d_M_readEnvironment_14 rfl (by decide) rfl ?_
  refine wi_aload_n hC 1 d_M_readEnvironment_15 rfl rfl ?_
  refine wi_iload_n hC 0 d_M_readEnvironment_16 rfl rfl ?_
  refine wi_bipush hC 64 (by decide) d_M_readEnvironment_17 ?_
  refine wi_irem hC (by decide) d_M_readEnvironment_19 ?_
  refine wp_M_told hC wd_944 d_M_readEnvironment_20 ?_
  refine wi_nmM (fun s2 e_s2 => ?_)
  refine wi_aload_n hC 1 d_M_readEnvironment_23 rfl rfl ?_
  refine wi_iload_n hC 0 d_M_readEnvironment_24 rfl rfl ?_
  refine wi_sipush hC 256 (by decide) d_M_readEnvironment_25 ?_
  refine wi_idiv hC (by decide) d_M_readEnvironment_28 ?_
  refine wi_iconst hC 2 (by decide) d_M_readEnvironment_29 ?_
  refine wi_irem hC (by decide) d_M_readEnvironment_30 ?_
  refine wi_sipush hC 256 (by decide) d_M_readEnvironment_31 ?_
  refine wi_imul hC d_M_readEnvironment_34 ?_
  refine wi_iload_n hC 0 d_M_readEnvironment_35 rfl rfl ?_
  refine wi_sipush hC 512 (by decide) d_M_readEnvironment_36 ?_
  refine wi_idiv hC (by decide) d_M_readEnvironment_39 ?_
  refine wi_iconst hC 2 (by decide) d_M_readEnvironment_40 ?_
  refine wi_irem hC (by decide) d_M_readEnvironment_41 ?_
  refine wi_sipush hC 512 (by decide) d_M_readEnvironment_42 ?_
  refine wi_imul hC d_M_readEnvironment_45 ?_
  refine wi_iadd hC d_M_readEnvironment_46 ?_
  refine wi_iload_n hC 0 d_M_readEnvironment_47 rfl rfl ?_
  refine wi_sipush hC 1024 (by decide) d_M_readEnvironment_48 ?_
  refine wi_idiv hC (by decide) d_M_readEnvironment_51 ?_
  refine wi_iconst hC 2 (by decide) d_M_readEnvironment_52 ?_
  refine wi_irem hC (by decide) d_M_readEnvironment_53 ?_
  refine wi_sipush hC 1024 (by decide) d_M_readEnvironment_54 ?_
  refine wi_imul hC d_M_readEnvironment_57 ?_
  refine wi_iadd hC d_M_readEnvironment_58 ?_
  refine wi_iload_n hC 0 d_M_readEnvironment_59 rfl rfl ?_
  refine wi_sipush hC 16384 (by decide) d_M_readEnvironment_60 ?_
  refine wi_idiv hC (by decide) d_M_readEnvironment_63 ?_
  refine wi_iconst hC 2 (by decide) d_M_readEnvironment_64 ?_
  refine wi_irem hC (by decide) d_M_readEnvironment_65 ?_
  refine wi_sipush hC 16384 (by decide) d_M_readEnvironment_66 ?_
  refine wi_imul hC d_M_readEnvironment_69 ?_
  refine wi_iadd hC d_M_readEnvironment_70 ?_
  refine wp_M_conditions hC wd_945 d_M_readEnvironment_71 ?_
  refine wi_nmM (fun s3 e_s3 => ?_)
  refine wi_aload_n hC 1 d_M_readEnvironment_74 rfl rfl ?_
  refine wi_iload_n hC 0 d_M_readEnvironment_75 rfl rfl ?_
  refine wi_sipush hC 2048 (by decide) d_M_readEnvironment_76 ?_
  refine wi_idiv hC (by decide) d_M_readEnvironment_79 ?_
  refine wi_bipush hC 8 (by decide) d_M_readEnvironment_80 ?_
  refine wi_irem hC (by decide) d_M_readEnvironment_82 ?_
  refine wp_M_first hC (by rw [← e_v1, ← e_s1]; exact env_first hm) wd_946 d_M_readEnvironment_83 ?_
  refine wi_nmM (fun s4 e_s4 => ?_)
  refine wi_aload_n hC 1 d_M_readEnvironment_86 rfl rfl ?_
  refine wi_iconst hC 4 (by decide) d_M_readEnvironment_87 ?_
  refine k_M_wordAt hC (by unfold vp_in; decide) wd_1078 (by decide) (Nat.le_of_ble_eq_true rfl) d_M_readEnvironment_88 ?_
  refine wi_nmI (fun v2 e_v2 => ?_)
  refine wi_istore_n hC [(2, .int v2), (1, .int v1), (0, .ref 30)] d_M_readEnvironment_91 rfl (by decide) rfl ?_
  refine wi_iconst hC 0 (by decide) d_M_readEnvironment_92 ?_
  refine wi_istore_n hC [(3, .int 0), (2, .int v2), (1, .int v1), (0, .ref 30)] d_M_readEnvironment_93 rfl (by decide) rfl ?_
  refine wi_loop ((b_M_readEnvironment_94)) (fun t2 => 0 ≤ (t2.1).toInt) (fun t2 => [(3, .int t2.1), (2, .int t2.2.1), (1, .int v1), (0, .ref 30)]) (fun t2 => (σ, t2.2.2, q)) 128 ?_ (up_inv (b := (b_M_readEnvironment_94)) (fun t => t.1) 8 0 st_b_M_readEnvironment_94) (upf 8 0) (0, v2, s4) (show (0 : Int) ≤ (0 : Int32).toInt by decide) (up_halt (b := (b_M_readEnvironment_94)) (fun t => t.1) 8 st_b_M_readEnvironment_94 (0, v2, s4)) ?_
  · intro t2 hi_t2 hc_t2 hx_t2
    refine wi_iload_n hC 0 d_M_readEnvironment_94 rfl rfl ?_
    refine wi_bipush hC 8 (by decide) d_M_readEnvironment_95 ?_
    refine wi_icmp_ge hC 128 d_M_readEnvironment_97 (by decide) (fun h1 => ?_) (fun h1 => ?_)
    · skip
      exact hx_t2 (t2.1, t2.2.1, t2.2.2) (by exact (if_pos h1))
    · skip
      refine wi_aload_n hC 3 d_M_readEnvironment_100 rfl rfl ?_
      refine wg_M_empty hC wd_947 d_M_readEnvironment_101 ?_
      refine wi_iload_n hC 0 d_M_readEnvironment_104 rfl rfl ?_
      refine wi_iload_n hC 1 d_M_readEnvironment_105 rfl rfl ?_
      refine wi_iconst hC 4 (by decide) d_M_readEnvironment_106 ?_
      refine wi_irem hC (by decide) d_M_readEnvironment_107 ?_
      refine wi_iconst hC 3 (by decide) d_M_readEnvironment_108 ?_
      obtain ⟨Tt3, eTt3⟩ : ∃ y : Bool, y = (
              if jrem t2.2.1 4 = 3 then
                true
              else
                false) := ⟨_, rfl⟩
      have Jt3 : ∀ (t3 : Bool), Tt3 = t3 → WS p l e { frames := 1, cells := 0, slots := 0, locals := 21 } s m args below meth c Q E 4 117 [(3, .int t2.1), (2, .int t2.2.1), (1, .int v1), (0, .ref 30)] [.int (bI t3), .int t2.1, .ref 34] (σ, t2.2.2, q) := by
        intro t3  e_t3
        rw [eTt3] at e_t3
        refine wa_st34 hC t3 rfl (vin_of hi_t2 (hi_n h1 (by decide))) d_M_readEnvironment_117 ?_
        refine wi_nmM (fun s5 e_s5 => ?_)
        refine wi_iload_n hC 1 d_M_readEnvironment_118 rfl rfl ?_
        refine wi_iconst hC 4 (by decide) d_M_readEnvironment_119 ?_
        refine wi_idiv hC (by decide) d_M_readEnvironment_120 ?_
        refine wi_nmI (fun v3 e_v3 => ?_)
        refine wi_istore_n hC [(2, .int v3), (3, .int t2.1), (1, .int v1), (0, .ref 30)] d_M_readEnvironment_121 rfl (by decide) rfl ?_
        obtain ⟨v4, e_v4⟩ : ∃ y : Int32, t2.1 + 1 = y := ⟨_, rfl⟩
        refine wi_iinc hC 1 v4 [(3, .int v4), (2, .int v3), (1, .int v1), (0, .ref 30)] d_M_readEnvironment_122 rfl (by rw [← e_v4]; rfl) (by decide) rfl ?_
        refine wi_goto hC 94 d_M_readEnvironment_125 (by decide) ?_
        exact hc_t2 (v4, v3, s5) (by subst e_v4; subst e_v3; subst e_s5; subst e_t3; exact (if_neg h1))
      refine wi_icmp_ne hC 116 d_M_readEnvironment_109 (by decide) (fun h2 => ?_) (fun h2 => ?_)
      · skip
        refine wi_iconst hC 0 (by decide) d_M_readEnvironment_116 ?_
        exact Jt3 false (by exact (Eq.trans eTt3 (if_neg h2)))
      · skip
        refine wi_iconst hC 1 (by decide) d_M_readEnvironment_112 ?_
        refine wi_goto hC 117 d_M_readEnvironment_113 (by decide) ?_
        exact Jt3 true (by exact (Eq.trans eTt3 (if_pos h2)))
  obtain ⟨t1, e_t1⟩ : ∃ y : Int32 × Int32 × St, lpn ((b_M_readEnvironment_94)) (upf 8 0) (0, v2, s4) = y := ⟨_, rfl⟩
  rw [e_t1]
  refine wi_aload_n hC 3 d_M_readEnvironment_128 rfl rfl ?_
  refine wi_aload_n hC 3 d_M_readEnvironment_129 rfl rfl ?_
  refine wi_bipush hC 6 (by decide) d_M_readEnvironment_130 ?_
  refine k_M_wordAt hC (by unfold vp_in; decide) wd_1078 (by decide) (Nat.le_of_ble_eq_true rfl) d_M_readEnvironment_132 ?_
  refine wi_aload_n hC 3 d_M_readEnvironment_135 rfl rfl ?_
  refine wi_bipush hC 8 (by decide) d_M_readEnvironment_136 ?_
  refine k_M_wordAt hC (by unfold vp_in; decide) wd_1078 (by decide) (Nat.le_of_ble_eq_true rfl) d_M_readEnvironment_138 ?_
  refine wi_sipush hC 4096 (by decide) d_M_readEnvironment_141 ?_
  refine wi_idiv hC (by decide) d_M_readEnvironment_144 ?_
  refine wi_ldc hC wd_1098 d_M_readEnvironment_145 ?_
  refine wi_imul hC d_M_readEnvironment_147 ?_
  refine wi_iadd hC d_M_readEnvironment_148 ?_
  refine wp_M_codePlace hC wd_949 d_M_readEnvironment_149 ?_
  refine wi_nmM (fun s6 e_s6 => ?_)
  refine wi_aload_n hC 3 d_M_readEnvironment_152 rfl rfl ?_
  refine wi_aload_n hC 3 d_M_readEnvironment_153 rfl rfl ?_
  refine wi_bipush hC 8 (by decide) d_M_readEnvironment_154 ?_
  refine k_M_wordAt hC (by unfold vp_in; decide) wd_1078 (by decide) (Nat.le_of_ble_eq_true rfl) d_M_readEnvironment_156 ?_
  refine wi_sipush hC 2048 (by decide) d_M_readEnvironment_159 ?_
  refine wi_irem hC (by decide) d_M_readEnvironment_162 ?_
  refine wp_M_codeOf hC wd_948 d_M_readEnvironment_163 ?_
  refine wi_nmM (fun s7 e_s7 => ?_)
  refine wi_aload_n hC 3 d_M_readEnvironment_166 rfl rfl ?_
  refine wi_aload_n hC 3 d_M_readEnvironment_167 rfl rfl ?_
  refine wi_bipush hC 10 (by decide) d_M_readEnvironment_168 ?_
  refine k_M_wordAt hC (by unfold vp_in; decide) wd_1078 (by decide) (Nat.le_of_ble_eq_true rfl) d_M_readEnvironment_170 ?_
  refine wi_aload_n hC 3 d_M_readEnvironment_173 rfl rfl ?_
  refine wi_bipush hC 12 (by decide) d_M_readEnvironment_174 ?_
  refine k_M_wordAt hC (by unfold vp_in; decide) wd_1078 (by decide) (Nat.le_of_ble_eq_true rfl) d_M_readEnvironment_176 ?_
  refine wi_sipush hC 4096 (by decide) d_M_readEnvironment_179 ?_
  refine wi_idiv hC (by decide) d_M_readEnvironment_182 ?_
  refine wi_ldc hC wd_1098 d_M_readEnvironment_183 ?_
  refine wi_imul hC d_M_readEnvironment_185 ?_
  refine wi_iadd hC d_M_readEnvironment_186 ?_
  refine wp_M_operandPlace hC wd_950 d_M_readEnvironment_187 ?_
  refine wi_nmM (fun s8 e_s8 => ?_)
  have hf : f_M_readEnvironment τ = s8 := by subst e_s8; subst e_s7; subst e_s6; subst e_t1; subst e_v2; subst e_s4; subst e_s3; subst e_s2; subst e_v1; subst e_s1; exact rfl
  exact wi_vret hC hr hk d_M_readEnvironment_190 rfl (congrArg (fun z => (σ, z, q)) hf).symm hQ
theorem k_M_readEnvironment {p : Program} {l : Launch} {e : Env} {R : Room} {s : State} {m : MethodId} {args : Array Value} {below : List Frame} {meth : Method} {c : Code} {Q : State → Prop} {E : Ev} {nL pc index : Nat} {lv : List (Nat × Value)} {rest : List Value} {cc : ByteArray} {own : String} {σ τ : St} {q : Int64}  (hC : Cx p s m args c cc nL own E)  (hm : memb τ) (hl : Cond.methodLink own index y_M_readEnvironment ∈ WL) (hR : 1 + 1 ≤ R.frames ∧ 8 + (4 + 11) + 21 ≤ R.locals) (hs8 : (rest.map fun v => v.category).sum ≤ 8) (d : decode cc pc = .ok (.invokevirtual index, 3)) (k : WS p l e R s m args below meth c Q E nL (pc + 3) lv rest (σ, (f_M_readEnvironment τ), q)) : WS p l e R s m args below meth c Q E nL pc lv (.ref 30 :: rest) (σ, τ, q) := by
  exact wi_callV hC (n := 0) (vs := []) (rest := rest) 30 10 (by decide) rfl rfl rfl (c_M_readEnvironment l E σ τ q  hm) (by decide +kernel) wd_1102 wd_952 wd_1103 wd_1104 ⟨rfl, rfl⟩ rfl rfl hl hR hs8 d k
set_option maxRecDepth 100000 in
set_option maxHeartbeats 400000 in
theorem c_M_writeState (l : Launch) (E : Ev) (σ τ : St) (q : Int64)   : MF l y_M_writeState prog_12_method_36_code 3 none { frames := 2, cells := 0, slots := 0, locals := 45 } E [.ref 30] (σ, τ, q) none (σ, (f_M_writeState τ), q) := by
  refine MF_intro (lv0 := [(0, .ref 30)]) (by decide) wd_1108 (Nat.le_of_ble_eq_true rfl) rfl ?_
  intro p e s m args below meth c Q hC hr hk hQ
  replace hC : Cx p s m args c prog_12_method_36_code 3 "PartnerStackModel" E := hC
  refine wi_aload_n hC 0 d_M_writeState_0 rfl rfl ?_
  refine k_M_writeEnvironment hC  wd_1105 (by decide) (Nat.le_of_ble_eq_true rfl) d_M_writeState_1 ?_
  refine wi_nmM (fun s1 e_s1 => ?_)
  refine wi_iconst hC 0 (by decide) d_M_writeState_4 ?_
  refine wi_istore_n hC [(1, .int 0), (0, .ref 30)] d_M_writeState_5 rfl (by decide) rfl ?_
  refine wi_loop ((b_M_writeState_6)) (fun t2 => 0 ≤ (t2.1).toInt) (fun t2 => [(1, .int t2.1), (0, .ref 30)]) (fun t2 => (σ, t2.2, q)) 87 ?_ (up_inv (b := (b_M_writeState_6)) (fun t => t.1) 8 0 st_b_M_writeState_6) (upf 8 0) (0, s1) (show (0 : Int) ≤ (0 : Int32).toInt by decide) (up_halt (b := (b_M_writeState_6)) (fun t => t.1) 8 st_b_M_writeState_6 (0, s1)) ?_
  · intro t2 hi_t2 hc_t2 hx_t2
    refine wi_iload_n hC 0 d_M_writeState_6 rfl rfl ?_
    refine wi_bipush hC 8 (by decide) d_M_writeState_7 ?_
    refine wi_icmp_ge hC 87 d_M_writeState_9 (by decide) (fun h1 => ?_) (fun h1 => ?_)
    · skip
      exact hx_t2 (t2.1, t2.2) (by exact (if_pos h1))
    · skip
      refine wi_iconst hC 0 (by decide) d_M_writeState_12 ?_
      refine wi_istore_n hC [(2, .int 0), (1, .int t2.1), (0, .ref 30)] d_M_writeState_13 rfl (by decide) rfl ?_
      refine wi_loop ((b_M_writeState_14 t2)) (fun t4 => 0 ≤ (t4.1).toInt) (fun t4 => [(2, .int t4.1), (1, .int t2.1), (0, .ref 30)]) (fun t4 => (σ, t4.2, q)) 60 ?_ (up_inv (b := (b_M_writeState_14 t2)) (fun t => t.1) 8 0 (st_b_M_writeState_14 t2)) (upf 8 0) (0, t2.2) (show (0 : Int) ≤ (0 : Int32).toInt by decide) (up_halt (b := (b_M_writeState_14 t2)) (fun t => t.1) 8 (st_b_M_writeState_14 t2) (0, t2.2)) ?_
      · intro t4 hi_t4 hc_t4 hx_t4
        refine wi_iload_n hC 0 d_M_writeState_14 rfl rfl ?_
        refine wi_bipush hC 8 (by decide) d_M_writeState_15 ?_
        refine wi_icmp_ge hC 60 d_M_writeState_17 (by decide) (fun h2 => ?_) (fun h2 => ?_)
        · skip
          exact hx_t4 (t4.1, t4.2) (by exact (if_pos h2))
        · skip
          refine wi_aload_n hC 2 d_M_writeState_20 rfl rfl ?_
          refine wg_M_memory hC wd_962 d_M_writeState_21 ?_
          refine wi_bipush hC 14 (by decide) d_M_writeState_24 ?_
          refine wi_bipush hC 10 (by decide) d_M_writeState_26 ?_
          refine wi_iload_n hC 1 d_M_writeState_28 rfl rfl ?_
          refine wi_imul hC d_M_writeState_29 ?_
          refine wi_iadd hC d_M_writeState_30 ?_
          refine wi_iload_n hC 0 d_M_writeState_31 rfl rfl ?_
          refine wi_iadd hC d_M_writeState_32 ?_
          refine wi_aload_n hC 2 d_M_writeState_33 rfl rfl ?_
          refine wg_M_fraction hC wd_985 d_M_writeState_34 ?_
          refine wi_aload_n hC 2 d_M_writeState_37 rfl rfl ?_
          refine wi_iload_n hC 1 d_M_writeState_38 rfl rfl ?_
          refine k_M_st hC  wd_989 (by decide) (Nat.le_of_ble_eq_true rfl) d_M_writeState_39 ?_
          refine wi_inv (fun hv1 => ?_)
          refine wa_ld33 hC (st_in hv1.2.1 (vin_of hi_t2 (hi_n h1 (by decide)))) d_M_writeState_42 ?_
          refine wi_bipush hC 8 (by decide) d_M_writeState_43 ?_
          refine wi_iload_n hC 0 d_M_writeState_45 rfl rfl ?_
          refine wi_imul hC d_M_writeState_46 ?_
          refine wi_lshr hC d_M_writeState_47 ?_
          refine wi_ldc2 hC wd_1106 d_M_writeState_48 ?_
          refine wi_land hC d_M_writeState_51 ?_
          refine wi_l2i hC d_M_writeState_52 ?_
          refine wa_st31 hC (m14 (vin_of hi_t2 (hi_n h1 (by decide))) (vin_of hi_t4 (hi_n h2 (by decide)))) d_M_writeState_53 ?_
          refine wi_nmM (fun s2 e_s2 => ?_)
          obtain ⟨v1, e_v1⟩ : ∃ y : Int32, t4.1 + 1 = y := ⟨_, rfl⟩
          refine wi_iinc hC 0 v1 [(2, .int v1), (1, .int t2.1), (0, .ref 30)] d_M_writeState_54 rfl (by rw [← e_v1]; rfl) (by decide) rfl ?_
          refine wi_goto hC 14 d_M_writeState_57 (by decide) ?_
          exact hc_t4 (v1, s2) (by subst e_v1; subst e_s2; exact (if_neg h2))
      obtain ⟨t3, e_t3⟩ : ∃ y : Int32 × St, lpn ((b_M_writeState_14 t2)) (upf 8 0) (0, t2.2) = y := ⟨_, rfl⟩
      rw [e_t3]
      refine wi_aload_n hC 2 d_M_writeState_60 rfl rfl ?_
      refine wi_bipush hC 22 (by decide) d_M_writeState_61 ?_
      refine wi_bipush hC 10 (by decide) d_M_writeState_63 ?_
      refine wi_iload_n hC 1 d_M_writeState_65 rfl rfl ?_
      refine wi_imul hC d_M_writeState_66 ?_
      refine wi_iadd hC d_M_writeState_67 ?_
      refine wi_aload_n hC 2 d_M_writeState_68 rfl rfl ?_
      refine wg_M_top hC wd_983 d_M_writeState_69 ?_
      refine wi_aload_n hC 2 d_M_writeState_72 rfl rfl ?_
      refine wi_iload_n hC 1 d_M_writeState_73 rfl rfl ?_
      refine k_M_st hC  wd_989 (by decide) (Nat.le_of_ble_eq_true rfl) d_M_writeState_74 ?_
      refine wi_inv (fun hv2 => ?_)
      refine wa_ld32 hC (st_in hv2.2.1 (vin_of hi_t2 (hi_n h1 (by decide)))) d_M_writeState_77 ?_
      refine k_M_setWord hC (m22 (vin_of hi_t2 (hi_n h1 (by decide)))) wd_1095 (by decide) (Nat.le_of_ble_eq_true rfl) d_M_writeState_78 ?_
      refine wi_nmM (fun s3 e_s3 => ?_)
      obtain ⟨v2, e_v2⟩ : ∃ y : Int32, t2.1 + 1 = y := ⟨_, rfl⟩
      refine wi_iinc hC 1 v2 [(1, .int v2), (2, .int t3.1), (0, .ref 30)] d_M_writeState_81 rfl (by rw [← e_v2]; rfl) (by decide) rfl ?_
      refine wi_goto hC 6 d_M_writeState_84 (by decide) ?_
      refine wi_lv [0, 2] [(1, .int v2), (0, .ref 30)] rfl ?_
      exact hc_t2 (v2, s3) (by subst e_v2; subst e_s3; subst e_t3; exact (if_neg h1))
  obtain ⟨t1, e_t1⟩ : ∃ y : Int32 × St, lpn ((b_M_writeState_6)) (upf 8 0) (0, s1) = y := ⟨_, rfl⟩
  rw [e_t1]
  refine wi_aload_n hC 1 d_M_writeState_87 rfl rfl ?_
  refine k_M_begin hC  wd_1107 (by decide) (Nat.le_of_ble_eq_true rfl) d_M_writeState_88 ?_
  refine wi_nmM (fun s4 e_s4 => ?_)
  have hf : f_M_writeState τ = s4 := by subst e_s4; subst e_t1; subst e_s1; exact rfl
  exact wi_vret hC hr hk d_M_writeState_91 rfl (congrArg (fun z => (σ, z, q)) hf).symm hQ
theorem k_M_writeState {p : Program} {l : Launch} {e : Env} {R : Room} {s : State} {m : MethodId} {args : Array Value} {below : List Frame} {meth : Method} {c : Code} {Q : State → Prop} {E : Ev} {nL pc index : Nat} {lv : List (Nat × Value)} {rest : List Value} {cc : ByteArray} {own : String} {σ τ : St} {q : Int64}  (hC : Cx p s m args c cc nL own E)   (hl : Cond.methodLink own index y_M_writeState ∈ WL) (hR : 2 + 1 ≤ R.frames ∧ 8 + (3 + 11) + 45 ≤ R.locals) (hs8 : (rest.map fun v => v.category).sum ≤ 8) (d : decode cc pc = .ok (.invokevirtual index, 3)) (k : WS p l e R s m args below meth c Q E nL (pc + 3) lv rest (σ, (f_M_writeState τ), q)) : WS p l e R s m args below meth c Q E nL pc lv (.ref 30 :: rest) (σ, τ, q) := by
  exact wi_callV hC (n := 0) (vs := []) (rest := rest) 30 10 (by decide) rfl rfl rfl (c_M_writeState l E σ τ q  ) (by decide +kernel) wd_1108 wd_952 wd_1109 wd_1110 ⟨rfl, rfl⟩ rfl rfl hl hR hs8 d k
set_option maxRecDepth 100000 in
set_option maxHeartbeats 400000 in
theorem c_M_readState (l : Launch) (E : Ev) (σ τ : St) (q : Int64)  (hm : memb τ) : MF l y_M_readState prog_12_method_37_code 5 none { frames := 2, cells := 0, slots := 0, locals := 44 } E [.ref 30] (σ, τ, q) none (σ, (f_M_readState τ), q) := by
  refine MF_intro (lv0 := [(0, .ref 30)]) (by decide) wd_1113 (Nat.le_of_ble_eq_true rfl) rfl ?_
  intro p e s m args below meth c Q hC hr hk hQ
  replace hC : Cx p s m args c prog_12_method_37_code 5 "PartnerStackModel" E := hC
  refine wi_aload_n hC 0 d_M_readState_0 rfl rfl ?_
  refine k_M_readEnvironment hC hm wd_1111 (by decide) (Nat.le_of_ble_eq_true rfl) d_M_readState_1 ?_
  refine wi_nmM (fun s1 e_s1 => ?_)
  refine wi_iconst hC 0 (by decide) d_M_readState_4 ?_
  refine wi_istore_n hC [(1, .int 0), (0, .ref 30)] d_M_readState_5 rfl (by decide) rfl ?_
  refine wi_loop ((b_M_readState_6)) (fun t2 => 0 ≤ (t2.1).toInt) (fun t2 => [(1, .int t2.1), (0, .ref 30)]) (fun t2 => (σ, t2.2, q)) 90 ?_ (up_inv (b := (b_M_readState_6)) (fun t => t.1) 8 0 st_b_M_readState_6) (upf 8 0) (0, s1) (show (0 : Int) ≤ (0 : Int32).toInt by decide) (up_halt (b := (b_M_readState_6)) (fun t => t.1) 8 st_b_M_readState_6 (0, s1)) ?_
  · intro t2 hi_t2 hc_t2 hx_t2
    refine wi_iload_n hC 0 d_M_readState_6 rfl rfl ?_
    refine wi_bipush hC 8 (by decide) d_M_readState_7 ?_
    refine wi_icmp_ge hC 90 d_M_readState_9 (by decide) (fun h1 => ?_) (fun h1 => ?_)
    · skip
      exact hx_t2 (t2.1, t2.2) (by exact (if_pos h1))
    · skip
      refine wi_lconst hC 0 (by decide) d_M_readState_12 ?_
      refine wi_lstore_n hC [(2, .long 0), (1, .int t2.1), (0, .ref 30)] d_M_readState_13 rfl (by decide) rfl ?_
      refine wi_bipush hC 7 (by decide) d_M_readState_14 ?_
      refine wi_istore hC [(4, .int 7), (2, .long 0), (1, .int t2.1), (0, .ref 30)] d_M_readState_16 (by decide) rfl ?_
      refine wi_loop ((b_M_readState_18 t2)) (fun t4 => (t4.1).toInt ≤ 7) (fun t4 => [(4, .int t4.1), (2, .long t4.2), (1, .int t2.1), (0, .ref 30)]) (fun t4 => (σ, t2.2, q)) 52 ?_ (dn_inv (b := (b_M_readState_18 t2)) (fun t => t.1) 7 (st_b_M_readState_18 t2)) (dnf 7) (7, 0) (show (7 : Int32).toInt ≤ 7 by decide) (dn_halt (b := (b_M_readState_18 t2)) (fun t => t.1) (st_b_M_readState_18 t2) (7, 0)) ?_
      · intro t4 hi_t4 hc_t4 hx_t4
        refine wi_iload hC 0 d_M_readState_18 rfl ?_
        refine wi_if_lt hC 52 d_M_readState_20 (by decide) (fun h2 => ?_) (fun h2 => ?_)
        · skip
          exact hx_t4 (t4.1, t4.2) (by exact (if_pos h2))
        · skip
          refine wi_ldc2 hC wd_1112 d_M_readState_23 ?_
          refine wi_lload_n hC 1 d_M_readState_26 rfl rfl ?_
          refine wi_lmul hC d_M_readState_27 ?_
          refine wi_aload_n hC 3 d_M_readState_28 rfl rfl ?_
          refine wg_M_memory hC wd_962 d_M_readState_29 ?_
          refine wi_bipush hC 14 (by decide) d_M_readState_32 ?_
          refine wi_bipush hC 10 (by decide) d_M_readState_34 ?_
          refine wi_iload_n hC 2 d_M_readState_36 rfl rfl ?_
          refine wi_imul hC d_M_readState_37 ?_
          refine wi_iadd hC d_M_readState_38 ?_
          refine wi_iload hC 0 d_M_readState_39 rfl ?_
          refine wi_iadd hC d_M_readState_41 ?_
          refine wa_ld31 hC (m14 (vin_of hi_t2 (hi_n h1 (by decide))) (vin_of (lo_n h2) (hi_le hi_t4 (by decide)))) d_M_readState_42 ?_
          refine wi_i2l hC d_M_readState_43 ?_
          refine wi_ladd hC d_M_readState_44 ?_
          refine wi_nmJ (fun v1 e_v1 => ?_)
          refine wi_lstore_n hC [(2, .long v1), (4, .int t4.1), (1, .int t2.1), (0, .ref 30)] d_M_readState_45 rfl (by decide) rfl ?_
          obtain ⟨v2, e_v2⟩ : ∃ y : Int32, t4.1 + (-1) = y := ⟨_, rfl⟩
          refine wi_iinc hC 1 v2 [(4, .int v2), (2, .long v1), (1, .int t2.1), (0, .ref 30)] d_M_readState_46 rfl (by rw [← e_v2]; rfl) (by decide) rfl ?_
          refine wi_goto hC 18 d_M_readState_49 (by decide) ?_
          exact hc_t4 (v2, v1) (by subst e_v2; subst e_v1; exact (if_neg h2))
      obtain ⟨t3, e_t3⟩ : ∃ y : Int32 × Int64, lpn ((b_M_readState_18 t2)) (dnf 7) (7, 0) = y := ⟨_, rfl⟩
      rw [e_t3]
      refine wi_aload_n hC 3 d_M_readState_52 rfl rfl ?_
      refine wg_M_fraction hC wd_985 d_M_readState_53 ?_
      refine wi_aload_n hC 3 d_M_readState_56 rfl rfl ?_
      refine wi_iload_n hC 2 d_M_readState_57 rfl rfl ?_
      refine k_M_st hC  wd_989 (by decide) (Nat.le_of_ble_eq_true rfl) d_M_readState_58 ?_
      refine wi_lload_n hC 1 d_M_readState_61 rfl rfl ?_
      refine wi_inv (fun hv1 => ?_)
      refine wa_st33 hC (st_in hv1.2.1 (vin_of hi_t2 (hi_n h1 (by decide)))) d_M_readState_62 ?_
      refine wi_nmM (fun s2 e_s2 => ?_)
      refine wi_aload_n hC 3 d_M_readState_63 rfl rfl ?_
      refine wg_M_top hC wd_983 d_M_readState_64 ?_
      refine wi_aload_n hC 3 d_M_readState_67 rfl rfl ?_
      refine wi_iload_n hC 2 d_M_readState_68 rfl rfl ?_
      refine k_M_st hC  wd_989 (by decide) (Nat.le_of_ble_eq_true rfl) d_M_readState_69 ?_
      refine wi_aload_n hC 3 d_M_readState_72 rfl rfl ?_
      refine wi_bipush hC 22 (by decide) d_M_readState_73 ?_
      refine wi_bipush hC 10 (by decide) d_M_readState_75 ?_
      refine wi_iload_n hC 2 d_M_readState_77 rfl rfl ?_
      refine wi_imul hC d_M_readState_78 ?_
      refine wi_iadd hC d_M_readState_79 ?_
      refine k_M_wordAt hC (m22 (vin_of hi_t2 (hi_n h1 (by decide)))) wd_1078 (by decide) (Nat.le_of_ble_eq_true rfl) d_M_readState_80 ?_
      refine wi_inv (fun hv2 => ?_)
      refine wa_st32 hC (st_in hv2.2.1 (vin_of hi_t2 (hi_n h1 (by decide)))) d_M_readState_83 ?_
      refine wi_nmM (fun s3 e_s3 => ?_)
      obtain ⟨v3, e_v3⟩ : ∃ y : Int32, t2.1 + 1 = y := ⟨_, rfl⟩
      refine wi_iinc hC 2 v3 [(1, .int v3), (4, .int t3.1), (2, .long t3.2), (0, .ref 30)] d_M_readState_84 rfl (by rw [← e_v3]; rfl) (by decide) rfl ?_
      refine wi_goto hC 6 d_M_readState_87 (by decide) ?_
      refine wi_lv [0, 3] [(1, .int v3), (0, .ref 30)] rfl ?_
      exact hc_t2 (v3, s3) (by subst e_v3; subst e_s3; subst e_s2; subst e_t3; exact (if_neg h1))
  obtain ⟨t1, e_t1⟩ : ∃ y : Int32 × St, lpn ((b_M_readState_6)) (upf 8 0) (0, s1) = y := ⟨_, rfl⟩
  rw [e_t1]
  have hf : f_M_readState τ = t1.2 := by subst e_t1; subst e_s1; exact rfl
  exact wi_vret hC hr hk d_M_readState_90 rfl (congrArg (fun z => (σ, z, q)) hf).symm hQ
theorem k_M_readState {p : Program} {l : Launch} {e : Env} {R : Room} {s : State} {m : MethodId} {args : Array Value} {below : List Frame} {meth : Method} {c : Code} {Q : State → Prop} {E : Ev} {nL pc index : Nat} {lv : List (Nat × Value)} {rest : List Value} {cc : ByteArray} {own : String} {σ τ : St} {q : Int64}  (hC : Cx p s m args c cc nL own E)  (hm : memb τ) (hl : Cond.methodLink own index y_M_readState ∈ WL) (hR : 2 + 1 ≤ R.frames ∧ 8 + (5 + 11) + 44 ≤ R.locals) (hs8 : (rest.map fun v => v.category).sum ≤ 8) (d : decode cc pc = .ok (.invokevirtual index, 3)) (k : WS p l e R s m args below meth c Q E nL (pc + 3) lv rest (σ, (f_M_readState τ), q)) : WS p l e R s m args below meth c Q E nL pc lv (.ref 30 :: rest) (σ, τ, q) := by
  exact wi_callV hC (n := 0) (vs := []) (rest := rest) 30 10 (by decide) rfl rfl rfl (c_M_readState l E σ τ q  hm) (by decide +kernel) wd_1113 wd_952 wd_1114 wd_1115 ⟨rfl, rfl⟩ rfl rfl hl hR hs8 d k
set_option maxRecDepth 100000 in
set_option maxHeartbeats 400000 in
theorem c_M_inMemory (l : Launch) (E : Ev) (σ τ : St) (q : Int64)  (hm : memb τ) : MF l y_M_inMemory prog_12_method_38_code 4 none { frames := 8, cells := 0, slots := 0, locals := 223 } E [.ref 30] (σ, τ, q) none (σ, (f_M_inMemory τ), q) := by
  refine MF_intro (lv0 := [(0, .ref 30)]) (by decide) wd_1124 (Nat.le_of_ble_eq_true rfl) rfl ?_
  intro p e s m args below meth c Q hC hr hk hQ
  replace hC : Cx p s m args c prog_12_method_38_code 4 "PartnerStackModel" E := hC
  refine wi_aload_n hC 0 d_M_inMemory_0 rfl rfl ?_
  refine wg_M_op hC wd_1116 d_M_inMemory_1 ?_
  refine wi_aload_n hC 0 d_M_inMemory_4 rfl rfl ?_
  refine wg_M_r hC wd_1071 d_M_inMemory_5 ?_
  refine k_M_operandOf hC  wd_1032 (by decide) (Nat.le_of_ble_eq_true rfl) d_M_inMemory_8 ?_
  refine wi_nmI (fun v1 e_v1 => ?_)
  refine wi_istore_n hC [(1, .int v1), (0, .ref 30)] d_M_inMemory_11 rfl (by decide) rfl ?_
  refine wi_aload_n hC 1 d_M_inMemory_12 rfl rfl ?_
  refine wg_M_op hC wd_1116 d_M_inMemory_13 ?_
  refine wi_aload_n hC 1 d_M_inMemory_16 rfl rfl ?_
  refine wg_M_r hC wd_1071 d_M_inMemory_17 ?_
  refine k_M_isWritten hC  wd_1034 (by decide) (Nat.le_of_ble_eq_true rfl) d_M_inMemory_20 ?_
  refine wi_nmZ (fun v2 e_v2 => ?_)
  refine wi_istore_n hC [(2, .int (bI v2)), (1, .int v1), (0, .ref 30)] d_M_inMemory_23 rfl (by decide) rfl ?_
  refine wi_aload_n hC 2 d_M_inMemory_24 rfl rfl ?_
  refine wg_M_op hC wd_1116 d_M_inMemory_25 ?_
  refine wi_iconst hC 2 (by decide) d_M_inMemory_28 ?_
  refine wi_irem hC (by decide) d_M_inMemory_29 ?_
  obtain ⟨Tt1, eTt1⟩ : ∃ y : St, y = (
          if jrem (gI τ 10 30) 2 = 0 then
            let s11 : St := f_M_want τ 0
            let t3 : St := 
                if gZ s11 9 30 = true then
                  s11
                else
                  let s12 : St := f_M_read s11 v1
                  s12
            if gZ t3 9 30 = true then
              t3
            else
              let s13 : St := f_M_reckon t3 0
              s13
          else
            if v1 = 9 then
              if v2 = true then
                let s10 : St := f_M_writeState τ
                s10
              else
                let s9 : St := f_M_readState τ
                s9
            else
              if v1 = 8 then
                if v2 = true then
                  let s8 : St := f_M_writeEnvironment τ
                  s8
                else
                  let s7 : St := f_M_readEnvironment τ
                  s7
              else
                if v1 = 7 then
                  if gI τ 10 30 = 5 then
                    let s6 : St := f_M_setWord τ 0 (f_M_status τ)
                    s6
                  else
                    if v2 = true then
                      let s5 : St := f_M_setWord τ 0 (gI τ 2 30)
                      s5
                    else
                      let s4 : St := sI τ 2 30 (f_M_wordAt τ 0)
                      s4
                else
                  if v2 = true then
                    let s3 : St := f_M_write τ v1
                    s3
                  else
                    let r1 : Bool × St := f_M_isFull τ
                    let t2 : St := 
                        if r1.1 = true then
                          r1.2
                        else
                          let s1 : St := f_M_read r1.2 v1
                          s1
                    let s2 : St := f_M_push t2 r1.1
                    s2) := ⟨_, rfl⟩
  have Jt1 : ∀ (t1 : St), Tt1 = t1 → WS p l e { frames := 8, cells := 0, slots := 0, locals := 223 } s m args below meth c Q E 4 198 [(2, .int (bI v2)), (1, .int v1), (0, .ref 30)] [] (σ, t1, q) := by
    intro t1  e_t1
    rw [eTt1] at e_t1
    have hf : f_M_inMemory τ = t1 := by subst e_t1; subst e_v2; subst e_v1; exact rfl
    exact wi_vret hC hr hk d_M_inMemory_198 rfl (congrArg (fun z => (σ, z, q)) hf).symm hQ
  refine wi_if_ne hC 65 d_M_inMemory_30 (by decide) (fun h1 => ?_) (fun h1 => ?_)
  · skip
    refine wi_iload_n hC 1 d_M_inMemory_65 rfl rfl ?_
    refine wi_bipush hC 9 (by decide) d_M_inMemory_66 ?_
    refine wi_icmp_ne hC 89 d_M_inMemory_68 (by decide) (fun h2 => ?_) (fun h2 => ?_)
    · skip
      refine wi_iload_n hC 1 d_M_inMemory_89 rfl rfl ?_
      refine wi_bipush hC 8 (by decide) d_M_inMemory_90 ?_
      refine wi_icmp_ne hC 113 d_M_inMemory_92 (by decide) (fun h3 => ?_) (fun h3 => ?_)
      · skip
        refine wi_iload_n hC 1 d_M_inMemory_113 rfl rfl ?_
        refine wi_bipush hC 7 (by decide) d_M_inMemory_114 ?_
        refine wi_icmp_ne hC 167 d_M_inMemory_116 (by decide) (fun h4 => ?_) (fun h4 => ?_)
        · skip
          refine wi_iload_n hC 0 d_M_inMemory_167 rfl rfl ?_
          refine wi_z_eq (b := v2) hC 179 d_M_inMemory_168 (by decide) (fun h5 => ?_) (fun h5 => ?_)
          · skip
            refine wi_aload_n hC 2 d_M_inMemory_179 rfl rfl ?_
            refine k_M_isFull hC  wd_1117 (by decide) (Nat.le_of_ble_eq_true rfl) d_M_inMemory_180 ?_
            obtain ⟨r1, e_r1⟩ : ∃ y : Bool × St, f_M_isFull τ = y := ⟨_, rfl⟩
            rw [e_r1]
            refine wi_istore_n hC [(3, .int (bI r1.1)), (2, .int (bI v2)), (1, .int v1), (0, .ref 30)] d_M_inMemory_183 rfl (by decide) rfl ?_
            refine wi_iload_n hC 0 d_M_inMemory_184 rfl rfl ?_
            obtain ⟨Tt2, eTt2⟩ : ∃ y : St, y = (
                    if r1.1 = true then
                      r1.2
                    else
                      let s1 : St := f_M_read r1.2 v1
                      s1) := ⟨_, rfl⟩
            have Jt2 : ∀ (t2 : St), Tt2 = t2 → WS p l e { frames := 8, cells := 0, slots := 0, locals := 223 } s m args below meth c Q E 4 193 [(3, .int (bI r1.1)), (2, .int (bI v2)), (1, .int v1), (0, .ref 30)] [] (σ, t2, q) := by
              intro t2  e_t2
              rw [eTt2] at e_t2
              refine wi_aload_n hC 3 d_M_inMemory_193 rfl rfl ?_
              refine wi_iload_n hC 0 d_M_inMemory_194 rfl rfl ?_
              refine k_M_push hC r1.1 rfl wd_1119 (by decide) (Nat.le_of_ble_eq_true rfl) d_M_inMemory_195 ?_
              refine wi_nmM (fun s2 e_s2 => ?_)
              refine wi_lv [1, 2, 3] [(2, .int (bI v2)), (1, .int v1), (0, .ref 30)] rfl ?_
              exact Jt1 s2 (by subst e_s2; subst e_t2; subst e_r1; exact (Eq.trans eTt1 (Eq.trans (if_neg h1) (Eq.trans (if_neg h2) (Eq.trans (if_neg h3) (Eq.trans (if_neg h4) (if_neg h5)))))))
            refine wi_z_ne (b := r1.1) hC 193 d_M_inMemory_185 (by decide) (fun h6 => ?_) (fun h6 => ?_)
            · skip
              exact Jt2 r1.2 (by exact (Eq.trans eTt2 (if_pos h6)))
            · skip
              refine wi_aload_n hC 3 d_M_inMemory_188 rfl rfl ?_
              refine wi_iload_n hC 2 d_M_inMemory_189 rfl rfl ?_
              refine k_M_read hC  wd_1118 (by decide) (Nat.le_of_ble_eq_true rfl) d_M_inMemory_190 ?_
              refine wi_nmM (fun s1 e_s1 => ?_)
              exact Jt2 s1 (by subst e_s1; exact (Eq.trans eTt2 (if_neg h6)))
          · skip
            refine wi_aload_n hC 2 d_M_inMemory_171 rfl rfl ?_
            refine wi_iload_n hC 1 d_M_inMemory_172 rfl rfl ?_
            refine k_M_write hC (opr_in e_v1 h2 h3 h4) wd_1120 (by decide) (Nat.le_of_ble_eq_true rfl) d_M_inMemory_173 ?_
            refine wi_nmM (fun s3 e_s3 => ?_)
            refine wi_goto hC 198 d_M_inMemory_176 (by decide) ?_
            exact Jt1 s3 (by subst e_s3; exact (Eq.trans eTt1 (Eq.trans (if_neg h1) (Eq.trans (if_neg h2) (Eq.trans (if_neg h3) (Eq.trans (if_neg h4) (if_pos h5)))))))
        · skip
          refine wi_aload_n hC 2 d_M_inMemory_119 rfl rfl ?_
          refine wg_M_op hC wd_1116 d_M_inMemory_120 ?_
          refine wi_iconst hC 5 (by decide) d_M_inMemory_123 ?_
          refine wi_icmp_ne hC 139 d_M_inMemory_124 (by decide) (fun h7 => ?_) (fun h7 => ?_)
          · skip
            refine wi_iload_n hC 0 d_M_inMemory_139 rfl rfl ?_
            refine wi_z_eq (b := v2) hC 155 d_M_inMemory_140 (by decide) (fun h8 => ?_) (fun h8 => ?_)
            · skip
              refine wi_aload_n hC 2 d_M_inMemory_155 rfl rfl ?_
              refine wi_aload_n hC 2 d_M_inMemory_156 rfl rfl ?_
              refine wi_iconst hC 0 (by decide) d_M_inMemory_157 ?_
              refine k_M_wordAt hC (by unfold vp_in; decide) wd_1078 (by decide) (Nat.le_of_ble_eq_true rfl) d_M_inMemory_158 ?_
              refine wp_M_control hC wd_943 d_M_inMemory_161 ?_
              refine wi_nmM (fun s4 e_s4 => ?_)
              refine wi_goto hC 198 d_M_inMemory_164 (by decide) ?_
              exact Jt1 s4 (by subst e_s4; exact (Eq.trans eTt1 (Eq.trans (if_neg h1) (Eq.trans (if_neg h2) (Eq.trans (if_neg h3) (Eq.trans (if_pos h4) (Eq.trans (if_neg h7) (if_neg h8))))))))
            · skip
              refine wi_aload_n hC 2 d_M_inMemory_143 rfl rfl ?_
              refine wi_iconst hC 0 (by decide) d_M_inMemory_144 ?_
              refine wi_aload_n hC 2 d_M_inMemory_145 rfl rfl ?_
              refine wg_M_control hC wd_943 d_M_inMemory_146 ?_
              refine k_M_setWord hC (by unfold vp_in; decide) wd_1095 (by decide) (Nat.le_of_ble_eq_true rfl) d_M_inMemory_149 ?_
              refine wi_nmM (fun s5 e_s5 => ?_)
              refine wi_goto hC 198 d_M_inMemory_152 (by decide) ?_
              exact Jt1 s5 (by subst e_s5; exact (Eq.trans eTt1 (Eq.trans (if_neg h1) (Eq.trans (if_neg h2) (Eq.trans (if_neg h3) (Eq.trans (if_pos h4) (Eq.trans (if_neg h7) (if_pos h8))))))))
          · skip
            refine wi_aload_n hC 2 d_M_inMemory_127 rfl rfl ?_
            refine wi_iconst hC 0 (by decide) d_M_inMemory_128 ?_
            refine wi_aload_n hC 2 d_M_inMemory_129 rfl rfl ?_
            refine k_M_status hC  wd_1096 (by decide) (Nat.le_of_ble_eq_true rfl) d_M_inMemory_130 ?_
            refine k_M_setWord hC (by unfold vp_in; decide) wd_1095 (by decide) (Nat.le_of_ble_eq_true rfl) d_M_inMemory_133 ?_
            refine wi_nmM (fun s6 e_s6 => ?_)
            refine wi_goto hC 198 d_M_inMemory_136 (by decide) ?_
            exact Jt1 s6 (by subst e_s6; exact (Eq.trans eTt1 (Eq.trans (if_neg h1) (Eq.trans (if_neg h2) (Eq.trans (if_neg h3) (Eq.trans (if_pos h4) (if_pos h7)))))))
      · skip
        refine wi_iload_n hC 0 d_M_inMemory_95 rfl rfl ?_
        refine wi_z_eq (b := v2) hC 106 d_M_inMemory_96 (by decide) (fun h9 => ?_) (fun h9 => ?_)
        · skip
          refine wi_aload_n hC 2 d_M_inMemory_106 rfl rfl ?_
          refine k_M_readEnvironment hC hm wd_1111 (by decide) (Nat.le_of_ble_eq_true rfl) d_M_inMemory_107 ?_
          refine wi_nmM (fun s7 e_s7 => ?_)
          refine wi_goto hC 198 d_M_inMemory_110 (by decide) ?_
          exact Jt1 s7 (by subst e_s7; exact (Eq.trans eTt1 (Eq.trans (if_neg h1) (Eq.trans (if_neg h2) (Eq.trans (if_pos h3) (if_neg h9))))))
        · skip
          refine wi_aload_n hC 2 d_M_inMemory_99 rfl rfl ?_
          refine k_M_writeEnvironment hC  wd_1105 (by decide) (Nat.le_of_ble_eq_true rfl) d_M_inMemory_100 ?_
          refine wi_nmM (fun s8 e_s8 => ?_)
          refine wi_goto hC 198 d_M_inMemory_103 (by decide) ?_
          exact Jt1 s8 (by subst e_s8; exact (Eq.trans eTt1 (Eq.trans (if_neg h1) (Eq.trans (if_neg h2) (Eq.trans (if_pos h3) (if_pos h9))))))
    · skip
      refine wi_iload_n hC 0 d_M_inMemory_71 rfl rfl ?_
      refine wi_z_eq (b := v2) hC 82 d_M_inMemory_72 (by decide) (fun h10 => ?_) (fun h10 => ?_)
      · skip
        refine wi_aload_n hC 2 d_M_inMemory_82 rfl rfl ?_
        refine k_M_readState hC hm wd_1121 (by decide) (Nat.le_of_ble_eq_true rfl) d_M_inMemory_83 ?_
        refine wi_nmM (fun s9 e_s9 => ?_)
        refine wi_goto hC 198 d_M_inMemory_86 (by decide) ?_
        exact Jt1 s9 (by subst e_s9; exact (Eq.trans eTt1 (Eq.trans (if_neg h1) (Eq.trans (if_pos h2) (if_neg h10)))))
      · skip
        refine wi_aload_n hC 2 d_M_inMemory_75 rfl rfl ?_
        refine k_M_writeState hC  wd_1122 (by decide) (Nat.le_of_ble_eq_true rfl) d_M_inMemory_76 ?_
        refine wi_nmM (fun s10 e_s10 => ?_)
        refine wi_goto hC 198 d_M_inMemory_79 (by decide) ?_
        exact Jt1 s10 (by subst e_s10; exact (Eq.trans eTt1 (Eq.trans (if_neg h1) (Eq.trans (if_pos h2) (if_pos h10)))))
  · skip
    refine wi_aload_n hC 2 d_M_inMemory_33 rfl rfl ?_
    refine wi_iconst hC 0 (by decide) d_M_inMemory_34 ?_
    refine k_M_want hC (by unfold vp_in; decide) wd_1087 (by decide) (Nat.le_of_ble_eq_true rfl) d_M_inMemory_35 ?_
    refine wi_nmM (fun s11 e_s11 => ?_)
    refine wi_aload_n hC 2 d_M_inMemory_38 rfl rfl ?_
    refine wg_M_over hC wd_976 d_M_inMemory_39 ?_
    obtain ⟨Tt3, eTt3⟩ : ∃ y : St, y = (
            if gZ s11 9 30 = true then
              s11
            else
              let s12 : St := f_M_read s11 v1
              s12) := ⟨_, rfl⟩
    have Jt3 : ∀ (t3 : St), Tt3 = t3 → WS p l e { frames := 8, cells := 0, slots := 0, locals := 223 } s m args below meth c Q E 4 50 [(2, .int (bI v2)), (1, .int v1), (0, .ref 30)] [] (σ, t3, q) := by
      intro t3  e_t3
      rw [eTt3] at e_t3
      refine wi_aload_n hC 2 d_M_inMemory_50 rfl rfl ?_
      refine wg_M_over hC wd_976 d_M_inMemory_51 ?_
      refine wi_z_ne (b := (gZ t3 9 30)) hC 198 d_M_inMemory_54 (by decide) (fun h12 => ?_) (fun h12 => ?_)
      · skip
        exact Jt1 t3 (by subst e_t3; subst e_s11; exact (Eq.trans eTt1 (Eq.trans (if_pos h1) (if_pos h12))))
      · skip
        refine wi_aload_n hC 2 d_M_inMemory_57 rfl rfl ?_
        refine wi_iconst hC 0 (by decide) d_M_inMemory_58 ?_
        refine k_M_reckon hC (by unfold vp_in; decide) wd_1123 (by decide) (Nat.le_of_ble_eq_true rfl) d_M_inMemory_59 ?_
        refine wi_nmM (fun s13 e_s13 => ?_)
        refine wi_goto hC 198 d_M_inMemory_62 (by decide) ?_
        exact Jt1 s13 (by subst e_s13; subst e_t3; subst e_s11; exact (Eq.trans eTt1 (Eq.trans (if_pos h1) (if_neg h12))))
    refine wi_z_ne (b := (gZ s11 9 30)) hC 50 d_M_inMemory_42 (by decide) (fun h11 => ?_) (fun h11 => ?_)
    · skip
      exact Jt3 s11 (by exact (Eq.trans eTt3 (if_pos h11)))
    · skip
      refine wi_aload_n hC 2 d_M_inMemory_45 rfl rfl ?_
      refine wi_iload_n hC 1 d_M_inMemory_46 rfl rfl ?_
      refine k_M_read hC  wd_1118 (by decide) (Nat.le_of_ble_eq_true rfl) d_M_inMemory_47 ?_
      refine wi_nmM (fun s12 e_s12 => ?_)
      exact Jt3 s12 (by subst e_s12; exact (Eq.trans eTt3 (if_neg h11)))
theorem k_M_inMemory {p : Program} {l : Launch} {e : Env} {R : Room} {s : State} {m : MethodId} {args : Array Value} {below : List Frame} {meth : Method} {c : Code} {Q : State → Prop} {E : Ev} {nL pc index : Nat} {lv : List (Nat × Value)} {rest : List Value} {cc : ByteArray} {own : String} {σ τ : St} {q : Int64}  (hC : Cx p s m args c cc nL own E)  (hm : memb τ) (hl : Cond.methodLink own index y_M_inMemory ∈ WL) (hR : 8 + 1 ≤ R.frames ∧ 8 + (4 + 11) + 223 ≤ R.locals) (hs8 : (rest.map fun v => v.category).sum ≤ 8) (d : decode cc pc = .ok (.invokevirtual index, 3)) (k : WS p l e R s m args below meth c Q E nL (pc + 3) lv rest (σ, (f_M_inMemory τ), q)) : WS p l e R s m args below meth c Q E nL pc lv (.ref 30 :: rest) (σ, τ, q) := by
  exact wi_callV hC (n := 0) (vs := []) (rest := rest) 30 10 (by decide) rfl rfl rfl (c_M_inMemory l E σ τ q  hm) (by decide +kernel) wd_1124 wd_952 wd_1125 wd_1126 ⟨rfl, rfl⟩ rfl rfl hl hR hs8 d k
set_option maxRecDepth 100000 in
set_option maxHeartbeats 400000 in
theorem c_M_copy (l : Launch) (E : Ev) (σ τ : St) (q : Int64)   : MF l y_M_copy prog_12_method_40_code 1 none { frames := 3, cells := 0, slots := 0, locals := 63 } E [.ref 30] (σ, τ, q) none (σ, (f_M_copy τ), q) := by
  refine MF_intro (lv0 := [(0, .ref 30)]) (by decide) wd_1128 (Nat.le_of_ble_eq_true rfl) rfl ?_
  intro p e s m args below meth c Q hC hr hk hQ
  replace hC : Cx p s m args c prog_12_method_40_code 1 "PartnerStackModel" E := hC
  refine wi_aload_n hC 0 d_M_copy_0 rfl rfl ?_
  refine wg_M_r hC wd_1071 d_M_copy_1 ?_
  refine wi_if_ne hC 22 d_M_copy_4 (by decide) (fun h1 => ?_) (fun h1 => ?_)
  · skip
    refine wi_aload_n hC 0 d_M_copy_22 rfl rfl ?_
    refine wi_iconst hC 0 (by decide) d_M_copy_23 ?_
    refine k_M_want hC (by unfold vp_in; decide) wd_1087 (by decide) (Nat.le_of_ble_eq_true rfl) d_M_copy_24 ?_
    refine wi_nmM (fun s1 e_s1 => ?_)
    refine wi_aload_n hC 0 d_M_copy_27 rfl rfl ?_
    refine wg_M_over hC wd_976 d_M_copy_28 ?_
    refine wi_z_eq (b := (gZ s1 9 30)) hC 35 d_M_copy_31 (by decide) (fun h2 => ?_) (fun h2 => ?_)
    · skip
      refine wi_aload_n hC 0 d_M_copy_35 rfl rfl ?_
      refine wi_iconst hC 0 (by decide) d_M_copy_36 ?_
      refine k_M_takeX hC (by unfold vp_in; decide) wd_1088 (by decide) (Nat.le_of_ble_eq_true rfl) d_M_copy_37 ?_
      refine wi_nmM (fun s2 e_s2 => ?_)
      refine wi_aload_n hC 0 d_M_copy_40 rfl rfl ?_
      refine wi_aload_n hC 0 d_M_copy_41 rfl rfl ?_
      refine wg_M_i hC wd_1127 d_M_copy_42 ?_
      refine wi_inv (fun hv1 => ?_)
      refine k_M_becomeX hC hv1.2.2.2.2.1 wd_1018 (by decide) (Nat.le_of_ble_eq_true rfl) d_M_copy_45 ?_
      refine wi_nmM (fun s3 e_s3 => ?_)
      refine wi_aload_n hC 0 d_M_copy_48 rfl rfl ?_
      refine wg_M_r hC wd_1071 d_M_copy_49 ?_
      refine wi_iconst hC 3 (by decide) d_M_copy_52 ?_
      obtain ⟨Tt1, eTt1⟩ : ∃ y : St, y = (
              if gI s3 11 30 = 3 then
                let s4 : St := f_M_pop s3
                s4
              else
                s3) := ⟨_, rfl⟩
      have Jt1 : ∀ (t1 : St), Tt1 = t1 → WS p l e { frames := 3, cells := 0, slots := 0, locals := 63 } s m args below meth c Q E 1 60 [(0, .ref 30)] [] (σ, t1, q) := by
        intro t1  e_t1
        rw [eTt1] at e_t1
        have hf : f_M_copy τ = t1 := by subst e_t1; subst e_s3; subst e_s2; subst e_s1; exact (Eq.trans (if_neg h1) (if_neg h2))
        exact wi_vret hC hr hk d_M_copy_60 rfl (congrArg (fun z => (σ, z, q)) hf).symm hQ
      refine wi_icmp_ne hC 60 d_M_copy_53 (by decide) (fun h3 => ?_) (fun h3 => ?_)
      · skip
        exact Jt1 s3 (by exact (Eq.trans eTt1 (if_neg h3)))
      · skip
        refine wi_aload_n hC 0 d_M_copy_56 rfl rfl ?_
        refine k_M_pop hC  wd_1074 (by decide) (Nat.le_of_ble_eq_true rfl) d_M_copy_57 ?_
        refine wi_nmM (fun s4 e_s4 => ?_)
        exact Jt1 s4 (by subst e_s4; exact (Eq.trans eTt1 (if_pos h3)))
    · skip
      have hf : f_M_copy τ = s1 := by subst e_s1; exact (Eq.trans (if_neg h1) (if_pos h2))
      exact wi_vret hC hr hk d_M_copy_34 rfl (congrArg (fun z => (σ, z, q)) hf).symm hQ
  · skip
    refine wi_aload_n hC 0 d_M_copy_7 rfl rfl ?_
    refine wg_M_empty hC wd_947 d_M_copy_8 ?_
    refine wi_aload_n hC 0 d_M_copy_11 rfl rfl ?_
    refine wi_aload_n hC 0 d_M_copy_12 rfl rfl ?_
    refine wg_M_i hC wd_1127 d_M_copy_13 ?_
    refine k_M_st hC  wd_989 (by decide) (Nat.le_of_ble_eq_true rfl) d_M_copy_16 ?_
    refine wi_iconst hC 1 (by decide) d_M_copy_19 ?_
    refine wi_inv (fun hv2 => ?_)
    refine wi_inv (fun hv3 => ?_)
    refine wa_st34 hC true rfl (st_in hv3.2.1 hv2.2.2.2.2.1) d_M_copy_20 ?_
    refine wi_nmM (fun s5 e_s5 => ?_)
    have hf : f_M_copy τ = s5 := by subst e_s5; exact (if_pos h1)
    exact wi_vret hC hr hk d_M_copy_21 rfl (congrArg (fun z => (σ, z, q)) hf).symm hQ
theorem k_M_copy {p : Program} {l : Launch} {e : Env} {R : Room} {s : State} {m : MethodId} {args : Array Value} {below : List Frame} {meth : Method} {c : Code} {Q : State → Prop} {E : Ev} {nL pc index : Nat} {lv : List (Nat × Value)} {rest : List Value} {cc : ByteArray} {own : String} {σ τ : St} {q : Int64}  (hC : Cx p s m args c cc nL own E)   (hl : Cond.methodLink own index y_M_copy ∈ WL) (hR : 3 + 1 ≤ R.frames ∧ 8 + (1 + 11) + 63 ≤ R.locals) (hs8 : (rest.map fun v => v.category).sum ≤ 8) (d : decode cc pc = .ok (.invokevirtual index, 3)) (k : WS p l e R s m args below meth c Q E nL (pc + 3) lv rest (σ, (f_M_copy τ), q)) : WS p l e R s m args below meth c Q E nL pc lv (.ref 30 :: rest) (σ, τ, q) := by
  exact wi_callV hC (n := 0) (vs := []) (rest := rest) 30 10 (by decide) rfl rfl rfl (c_M_copy l E σ τ q  ) (by decide +kernel) wd_1128 wd_952 wd_1129 wd_1130 ⟨rfl, rfl⟩ rfl rfl hl hR hs8 d k
set_option maxRecDepth 100000 in
set_option maxHeartbeats 400000 in
theorem c_M_change (l : Launch) (E : Ev) (σ τ : St) (q : Int64)   : MF l y_M_change prog_12_method_42_code 4 none { frames := 3, cells := 0, slots := 0, locals := 63 } E [.ref 30] (σ, τ, q) none (σ, (f_M_change τ), q) := by
  refine MF_intro (lv0 := [(0, .ref 30)]) (by decide) wd_1131 (Nat.le_of_ble_eq_true rfl) rfl ?_
  intro p e s m args below meth c Q hC hr hk hQ
  replace hC : Cx p s m args c prog_12_method_42_code 4 "PartnerStackModel" E := hC
  refine wi_aload_n hC 0 d_M_change_0 rfl rfl ?_
  refine wi_iconst hC 0 (by decide) d_M_change_1 ?_
  refine k_M_want hC (by unfold vp_in; decide) wd_1087 (by decide) (Nat.le_of_ble_eq_true rfl) d_M_change_2 ?_
  refine wi_nmM (fun s1 e_s1 => ?_)
  refine wi_aload_n hC 0 d_M_change_5 rfl rfl ?_
  refine wi_aload_n hC 0 d_M_change_6 rfl rfl ?_
  refine wg_M_i hC wd_1127 d_M_change_7 ?_
  refine wi_inv (fun hv1 => ?_)
  refine k_M_want hC hv1.2.2.2.2.1 wd_1087 (by decide) (Nat.le_of_ble_eq_true rfl) d_M_change_10 ?_
  refine wi_nmM (fun s2 e_s2 => ?_)
  refine wi_aload_n hC 0 d_M_change_13 rfl rfl ?_
  refine wg_M_over hC wd_976 d_M_change_14 ?_
  refine wi_z_eq (b := (gZ s2 9 30)) hC 21 d_M_change_17 (by decide) (fun h1 => ?_) (fun h1 => ?_)
  · skip
    refine wi_aload_n hC 0 d_M_change_21 rfl rfl ?_
    refine wi_iconst hC 0 (by decide) d_M_change_22 ?_
    refine k_M_topOf hC (by unfold vp_in; decide) wd_1002 (by decide) (Nat.le_of_ble_eq_true rfl) d_M_change_23 ?_
    refine wi_nmI (fun v1 e_v1 => ?_)
    refine wi_istore_n hC [(1, .int v1), (0, .ref 30)] d_M_change_26 rfl (by decide) rfl ?_
    refine wi_aload_n hC 1 d_M_change_27 rfl rfl ?_
    refine wi_iconst hC 0 (by decide) d_M_change_28 ?_
    refine k_M_fractionOf hC (by unfold vp_in; decide) wd_1004 (by decide) (Nat.le_of_ble_eq_true rfl) d_M_change_29 ?_
    refine wi_nmJ (fun v2 e_v2 => ?_)
    refine wi_lstore_n hC [(2, .long v2), (1, .int v1), (0, .ref 30)] d_M_change_32 rfl (by decide) rfl ?_
    refine wi_aload_n hC 2 d_M_change_33 rfl rfl ?_
    refine wi_aload_n hC 2 d_M_change_34 rfl rfl ?_
    refine wg_M_i hC wd_1127 d_M_change_35 ?_
    refine wi_inv (fun hv2 => ?_)
    refine k_M_takeX hC hv2.2.2.2.2.1 wd_1088 (by decide) (Nat.le_of_ble_eq_true rfl) d_M_change_38 ?_
    refine wi_nmM (fun s3 e_s3 => ?_)
    refine wi_aload_n hC 2 d_M_change_41 rfl rfl ?_
    refine wi_iconst hC 0 (by decide) d_M_change_42 ?_
    refine k_M_becomeX hC (by unfold vp_in; decide) wd_1018 (by decide) (Nat.le_of_ble_eq_true rfl) d_M_change_43 ?_
    refine wi_nmM (fun s4 e_s4 => ?_)
    refine wi_aload_n hC 2 d_M_change_46 rfl rfl ?_
    refine wi_iload_n hC 1 d_M_change_47 rfl rfl ?_
    refine wp_M_xTop hC wd_1003 d_M_change_48 ?_
    refine wi_nmM (fun s5 e_s5 => ?_)
    refine wi_aload_n hC 2 d_M_change_51 rfl rfl ?_
    refine wi_lload_n hC 0 d_M_change_52 rfl rfl ?_
    refine wp_M_xFraction hC wd_1005 d_M_change_53 ?_
    refine wi_nmM (fun s6 e_s6 => ?_)
    refine wi_aload_n hC 2 d_M_change_56 rfl rfl ?_
    refine wi_aload_n hC 2 d_M_change_57 rfl rfl ?_
    refine wg_M_i hC wd_1127 d_M_change_58 ?_
    refine wi_inv (fun hv3 => ?_)
    refine k_M_becomeX hC hv3.2.2.2.2.1 wd_1018 (by decide) (Nat.le_of_ble_eq_true rfl) d_M_change_61 ?_
    refine wi_nmM (fun s7 e_s7 => ?_)
    have hf : f_M_change τ = s7 := by subst e_s7; subst e_s6; subst e_s5; subst e_s4; subst e_s3; subst e_v2; subst e_v1; subst e_s2; subst e_s1; exact (if_neg h1)
    exact wi_vret hC hr hk d_M_change_64 rfl (congrArg (fun z => (σ, z, q)) hf).symm hQ
  · skip
    have hf : f_M_change τ = s2 := by subst e_s2; subst e_s1; exact (if_pos h1)
    exact wi_vret hC hr hk d_M_change_20 rfl (congrArg (fun z => (σ, z, q)) hf).symm hQ
theorem k_M_change {p : Program} {l : Launch} {e : Env} {R : Room} {s : State} {m : MethodId} {args : Array Value} {below : List Frame} {meth : Method} {c : Code} {Q : State → Prop} {E : Ev} {nL pc index : Nat} {lv : List (Nat × Value)} {rest : List Value} {cc : ByteArray} {own : String} {σ τ : St} {q : Int64}  (hC : Cx p s m args c cc nL own E)   (hl : Cond.methodLink own index y_M_change ∈ WL) (hR : 3 + 1 ≤ R.frames ∧ 8 + (4 + 11) + 63 ≤ R.locals) (hs8 : (rest.map fun v => v.category).sum ≤ 8) (d : decode cc pc = .ok (.invokevirtual index, 3)) (k : WS p l e R s m args below meth c Q E nL (pc + 3) lv rest (σ, (f_M_change τ), q)) : WS p l e R s m args below meth c Q E nL pc lv (.ref 30 :: rest) (σ, τ, q) := by
  exact wi_callV hC (n := 0) (vs := []) (rest := rest) 30 10 (by decide) rfl rfl rfl (c_M_change l E σ τ q  ) (by decide +kernel) wd_1131 wd_952 wd_1132 wd_1133 ⟨rfl, rfl⟩ rfl rfl hl hR hs8 d k
set_option maxRecDepth 100000 in
set_option maxHeartbeats 400000 in
theorem c_M_look (l : Launch) (E : Ev) (σ τ : St) (q : Int64)   : MF l y_M_look prog_12_method_43_code 2 none { frames := 6, cells := 0, slots := 0, locals := 143 } E [.ref 30] (σ, τ, q) none (σ, (f_M_look τ), q) := by
  refine MF_intro (lv0 := [(0, .ref 30)]) (by decide) wd_1135 (Nat.le_of_ble_eq_true rfl) rfl ?_
  intro p e s m args below meth c Q hC hr hk hQ
  replace hC : Cx p s m args c prog_12_method_43_code 2 "PartnerStackModel" E := hC
  refine wi_aload_n hC 0 d_M_look_0 rfl rfl ?_
  refine wg_M_i hC wd_1127 d_M_look_1 ?_
  refine wi_iconst hC 5 (by decide) d_M_look_4 ?_
  refine wi_icmp_ne hC 139 d_M_look_5 (by decide) (fun h1 => ?_) (fun h1 => ?_)
  · skip
    refine wi_aload_n hC 0 d_M_look_139 rfl rfl ?_
    refine wi_iconst hC 0 (by decide) d_M_look_140 ?_
    refine k_M_want hC (by unfold vp_in; decide) wd_1087 (by decide) (Nat.le_of_ble_eq_true rfl) d_M_look_141 ?_
    refine wi_nmM (fun s1 e_s1 => ?_)
    refine wi_aload_n hC 0 d_M_look_144 rfl rfl ?_
    refine wg_M_over hC wd_976 d_M_look_145 ?_
    refine wi_z_eq (b := (gZ s1 9 30)) hC 152 d_M_look_148 (by decide) (fun h2 => ?_) (fun h2 => ?_)
    · skip
      refine wi_aload_n hC 0 d_M_look_152 rfl rfl ?_
      refine wi_iconst hC 0 (by decide) d_M_look_153 ?_
      refine k_M_takeX hC (by unfold vp_in; decide) wd_1088 (by decide) (Nat.le_of_ble_eq_true rfl) d_M_look_154 ?_
      refine wi_nmM (fun s2 e_s2 => ?_)
      refine wi_aload_n hC 0 d_M_look_157 rfl rfl ?_
      refine wg_M_i hC wd_1127 d_M_look_158 ?_
      refine wi_iconst hC 4 (by decide) d_M_look_161 ?_
      obtain ⟨Tt1, eTt1⟩ : ∃ y : St, y = (
              if gI s2 12 30 = 4 then
                let s5 : St := f_M_compare s2 true
                s5
              else
                let t2 : Bool := 
                    if (gI s2 13 30) ≤ 32767 then
                      false
                    else
                      true
                let t3 : Int32 := 
                    if gI s2 12 30 = 0 then
                      if t2 = true then
                        0
                      else
                        32768
                    else
                      0
                let s3 : St := sI s2 13 30 ((jrem (gI s2 13 30) 32768) + t3)
                let s4 : St := f_M_becomeX s3 0
                s4) := ⟨_, rfl⟩
      have Jt1 : ∀ (t1 : St), Tt1 = t1 → WS p l e { frames := 6, cells := 0, slots := 0, locals := 143 } s m args below meth c Q E 2 223 [(0, .ref 30)] [] (σ, t1, q) := by
        intro t1  e_t1
        rw [eTt1] at e_t1
        have hf : f_M_look τ = t1 := by subst e_t1; subst e_s2; subst e_s1; exact (Eq.trans (if_neg h1) (if_neg h2))
        exact wi_vret hC hr hk d_M_look_223 rfl (congrArg (fun z => (σ, z, q)) hf).symm hQ
      refine wi_icmp_ne hC 173 d_M_look_162 (by decide) (fun h3 => ?_) (fun h3 => ?_)
      · skip
        refine wi_aload_n hC 0 d_M_look_173 rfl rfl ?_
        refine wg_M_xTop hC wd_1003 d_M_look_174 ?_
        refine wi_sipush hC 32767 (by decide) d_M_look_177 ?_
        obtain ⟨Tt2, eTt2⟩ : ∃ y : Bool, y = (
                if (gI s2 13 30) ≤ 32767 then
                  false
                else
                  true) := ⟨_, rfl⟩
        have Jt2 : ∀ (t2 : Bool), Tt2 = t2 → WS p l e { frames := 6, cells := 0, slots := 0, locals := 143 } s m args below meth c Q E 2 188 [(0, .ref 30)] [.int (bI t2)] (σ, s2, q) := by
          intro t2  e_t2
          rw [eTt2] at e_t2
          refine wi_istore_n hC [(1, .int (bI t2)), (0, .ref 30)] d_M_look_188 rfl (by decide) rfl ?_
          refine wi_aload_n hC 1 d_M_look_189 rfl rfl ?_
          refine wi_aload_n hC 1 d_M_look_190 rfl rfl ?_
          refine wg_M_xTop hC wd_1003 d_M_look_191 ?_
          refine wi_ldc hC wd_984 d_M_look_194 ?_
          refine wi_irem hC (by decide) d_M_look_196 ?_
          refine wi_aload_n hC 1 d_M_look_197 rfl rfl ?_
          refine wg_M_i hC wd_1127 d_M_look_198 ?_
          obtain ⟨Tt3, eTt3⟩ : ∃ y : Int32, y = (
                  if gI s2 12 30 = 0 then
                    if t2 = true then
                      0
                    else
                      32768
                  else
                    0) := ⟨_, rfl⟩
          have Jt3 : ∀ (t3 : Int32), Tt3 = t3 → WS p l e { frames := 6, cells := 0, slots := 0, locals := 143 } s m args below meth c Q E 2 214 [(1, .int (bI t2)), (0, .ref 30)] [.int t3, .int (jrem (gI s2 13 30) 32768), .ref 30] (σ, s2, q) := by
            intro t3  e_t3
            rw [eTt3] at e_t3
            refine wi_iadd hC d_M_look_214 ?_
            refine wp_M_xTop hC wd_1003 d_M_look_215 ?_
            refine wi_nmM (fun s3 e_s3 => ?_)
            refine wi_aload_n hC 1 d_M_look_218 rfl rfl ?_
            refine wi_iconst hC 0 (by decide) d_M_look_219 ?_
            refine k_M_becomeX hC (by unfold vp_in; decide) wd_1018 (by decide) (Nat.le_of_ble_eq_true rfl) d_M_look_220 ?_
            refine wi_nmM (fun s4 e_s4 => ?_)
            refine wi_lv [1] [(0, .ref 30)] rfl ?_
            exact Jt1 s4 (by subst e_s4; subst e_s3; subst e_t3; subst e_t2; exact (Eq.trans eTt1 (if_neg h3)))
          refine wi_if_ne hC 213 d_M_look_201 (by decide) (fun h5 => ?_) (fun h5 => ?_)
          · skip
            refine wi_iconst hC 0 (by decide) d_M_look_213 ?_
            exact Jt3 0 (by exact (Eq.trans eTt3 (if_neg h5)))
          · skip
            refine wi_iload_n hC 0 d_M_look_204 rfl rfl ?_
            refine wi_z_ne (b := t2) hC 213 d_M_look_205 (by decide) (fun h6 => ?_) (fun h6 => ?_)
            · skip
              refine wi_iconst hC 0 (by decide) d_M_look_213 ?_
              exact Jt3 0 (by exact (Eq.trans eTt3 (Eq.trans (if_pos h5) (if_pos h6))))
            · skip
              refine wi_ldc hC wd_984 d_M_look_208 ?_
              refine wi_goto hC 214 d_M_look_210 (by decide) ?_
              exact Jt3 32768 (by exact (Eq.trans eTt3 (Eq.trans (if_pos h5) (if_neg h6))))
        refine wi_icmp_le hC 187 d_M_look_180 (by decide) (fun h4 => ?_) (fun h4 => ?_)
        · skip
          refine wi_iconst hC 0 (by decide) d_M_look_187 ?_
          exact Jt2 false (by exact (Eq.trans eTt2 (if_pos h4)))
        · skip
          refine wi_iconst hC 1 (by decide) d_M_look_183 ?_
          refine wi_goto hC 188 d_M_look_184 (by decide) ?_
          exact Jt2 true (by exact (Eq.trans eTt2 (if_neg h4)))
      · skip
        refine wi_aload_n hC 0 d_M_look_165 rfl rfl ?_
        refine wi_iconst hC 1 (by decide) d_M_look_166 ?_
        refine k_M_compare hC true rfl wd_1073 (by decide) (Nat.le_of_ble_eq_true rfl) d_M_look_167 ?_
        refine wi_nmM (fun s5 e_s5 => ?_)
        refine wi_goto hC 223 d_M_look_170 (by decide) ?_
        exact Jt1 s5 (by subst e_s5; exact (Eq.trans eTt1 (if_pos h3)))
    · skip
      have hf : f_M_look τ = s1 := by subst e_s1; exact (Eq.trans (if_neg h1) (if_pos h2))
      exact wi_vret hC hr hk d_M_look_151 rfl (congrArg (fun z => (σ, z, q)) hf).symm hQ
  · skip
    refine wi_aload_n hC 0 d_M_look_8 rfl rfl ?_
    refine wi_iconst hC 0 (by decide) d_M_look_9 ?_
    refine wi_aload_n hC 0 d_M_look_10 rfl rfl ?_
    refine wg_M_top hC wd_983 d_M_look_11 ?_
    refine wi_aload_n hC 0 d_M_look_14 rfl rfl ?_
    refine wg_M_first hC wd_946 d_M_look_15 ?_
    refine wi_inv (fun hv1 => ?_)
    refine wa_ld32 hC hv1.2.1 d_M_look_18 ?_
    refine wi_aload_n hC 0 d_M_look_19 rfl rfl ?_
    refine wg_M_fraction hC wd_985 d_M_look_20 ?_
    refine wi_aload_n hC 0 d_M_look_23 rfl rfl ?_
    refine wg_M_first hC wd_946 d_M_look_24 ?_
    refine wi_inv (fun hv2 => ?_)
    refine wa_ld33 hC hv2.2.1 d_M_look_27 ?_
    refine k_M_giveSteps hC (by unfold vp_in; decide) wd_1063 (by decide) (Nat.le_of_ble_eq_true rfl) d_M_look_28 ?_
    refine wi_nmM (fun s6 e_s6 => ?_)
    refine wi_aload_n hC 0 d_M_look_31 rfl rfl ?_
    refine wg_M_empty hC wd_947 d_M_look_32 ?_
    refine wi_aload_n hC 0 d_M_look_35 rfl rfl ?_
    refine wg_M_first hC wd_946 d_M_look_36 ?_
    refine wi_inv (fun hv3 => ?_)
    refine wa_ld34 hC hv3.2.1 d_M_look_39 ?_
    obtain ⟨Tt4, eTt4⟩ : ∃ y : Int32 × St, y = (
            if gZ s6 103 (jat (gI s6 1 30)) = true then
              (9, s6)
            else
              let r1 : Int32 × St := f_MS_examine s6 0
              (r1.1, r1.2)) := ⟨_, rfl⟩
    have Jt4 : ∀ (t4 : Int32 × St), Tt4 = t4 → WS p l e { frames := 6, cells := 0, slots := 0, locals := 143 } s m args below meth c Q E 2 56 [(0, .ref 30)] [.int t4.1] (σ, t4.2, q) := by
      intro t4  e_t4
      rw [eTt4] at e_t4
      refine wi_istore_n hC [(1, .int t4.1), (0, .ref 30)] d_M_look_56 rfl (by decide) rfl ?_
      refine wi_aload_n hC 1 d_M_look_57 rfl rfl ?_
      refine wi_sipush hC 256 (by decide) d_M_look_58 ?_
      refine wi_iload_n hC 0 d_M_look_61 rfl rfl ?_
      refine wi_iconst hC 2 (by decide) d_M_look_62 ?_
      refine wi_irem hC (by decide) d_M_look_63 ?_
      refine wi_iconst hC 1 (by decide) d_M_look_64 ?_
      obtain ⟨Tt5, eTt5⟩ : ∃ y : Bool, y = (
              if jrem t4.1 2 = 1 then
                true
              else
                false) := ⟨_, rfl⟩
      have Jt5 : ∀ (t5 : Bool), Tt5 = t5 → WS p l e { frames := 6, cells := 0, slots := 0, locals := 143 } s m args below meth c Q E 2 73 [(1, .int t4.1), (0, .ref 30)] [.int (bI t5), .int 256, .ref 30] (σ, t4.2, q) := by
        intro t5  e_t5
        rw [eTt5] at e_t5
        refine k_M_condition hC t5 rfl (by decide) wd_1067 (by decide) (Nat.le_of_ble_eq_true rfl) d_M_look_73 ?_
        refine wi_nmM (fun s7 e_s7 => ?_)
        refine wi_aload_n hC 1 d_M_look_76 rfl rfl ?_
        refine wi_sipush hC 512 (by decide) d_M_look_77 ?_
        refine wi_iload_n hC 0 d_M_look_80 rfl rfl ?_
        refine wi_iconst hC 2 (by decide) d_M_look_81 ?_
        refine wi_idiv hC (by decide) d_M_look_82 ?_
        refine wi_iconst hC 2 (by decide) d_M_look_83 ?_
        refine wi_irem hC (by decide) d_M_look_84 ?_
        refine wi_iconst hC 1 (by decide) d_M_look_85 ?_
        obtain ⟨Tt6, eTt6⟩ : ∃ y : Bool, y = (
                if jrem (t4.1 / 2) 2 = 1 then
                  true
                else
                  false) := ⟨_, rfl⟩
        have Jt6 : ∀ (t6 : Bool), Tt6 = t6 → WS p l e { frames := 6, cells := 0, slots := 0, locals := 143 } s m args below meth c Q E 2 94 [(1, .int t4.1), (0, .ref 30)] [.int (bI t6), .int 512, .ref 30] (σ, s7, q) := by
          intro t6  e_t6
          rw [eTt6] at e_t6
          refine k_M_condition hC t6 rfl (by decide) wd_1067 (by decide) (Nat.le_of_ble_eq_true rfl) d_M_look_94 ?_
          refine wi_nmM (fun s8 e_s8 => ?_)
          refine wi_aload_n hC 1 d_M_look_97 rfl rfl ?_
          refine wi_sipush hC 1024 (by decide) d_M_look_98 ?_
          refine wi_iload_n hC 0 d_M_look_101 rfl rfl ?_
          refine wi_iconst hC 4 (by decide) d_M_look_102 ?_
          refine wi_idiv hC (by decide) d_M_look_103 ?_
          refine wi_iconst hC 2 (by decide) d_M_look_104 ?_
          refine wi_irem hC (by decide) d_M_look_105 ?_
          refine wi_iconst hC 1 (by decide) d_M_look_106 ?_
          obtain ⟨Tt7, eTt7⟩ : ∃ y : Bool, y = (
                  if jrem (t4.1 / 4) 2 = 1 then
                    true
                  else
                    false) := ⟨_, rfl⟩
          have Jt7 : ∀ (t7 : Bool), Tt7 = t7 → WS p l e { frames := 6, cells := 0, slots := 0, locals := 143 } s m args below meth c Q E 2 115 [(1, .int t4.1), (0, .ref 30)] [.int (bI t7), .int 1024, .ref 30] (σ, s8, q) := by
            intro t7  e_t7
            rw [eTt7] at e_t7
            refine k_M_condition hC t7 rfl (by decide) wd_1067 (by decide) (Nat.le_of_ble_eq_true rfl) d_M_look_115 ?_
            refine wi_nmM (fun s9 e_s9 => ?_)
            refine wi_aload_n hC 1 d_M_look_118 rfl rfl ?_
            refine wi_sipush hC 16384 (by decide) d_M_look_119 ?_
            refine wi_iload_n hC 0 d_M_look_122 rfl rfl ?_
            refine wi_bipush hC 8 (by decide) d_M_look_123 ?_
            refine wi_idiv hC (by decide) d_M_look_125 ?_
            refine wi_iconst hC 1 (by decide) d_M_look_126 ?_
            obtain ⟨Tt8, eTt8⟩ : ∃ y : Bool, y = (
                    if t4.1 / 8 = 1 then
                      true
                    else
                      false) := ⟨_, rfl⟩
            have Jt8 : ∀ (t8 : Bool), Tt8 = t8 → WS p l e { frames := 6, cells := 0, slots := 0, locals := 143 } s m args below meth c Q E 2 135 [(1, .int t4.1), (0, .ref 30)] [.int (bI t8), .int 16384, .ref 30] (σ, s9, q) := by
              intro t8  e_t8
              rw [eTt8] at e_t8
              refine k_M_condition hC t8 rfl (by decide) wd_1067 (by decide) (Nat.le_of_ble_eq_true rfl) d_M_look_135 ?_
              refine wi_nmM (fun s10 e_s10 => ?_)
              have hf : f_M_look τ = s10 := by subst e_s10; subst e_t8; subst e_s9; subst e_t7; subst e_s8; subst e_t6; subst e_s7; subst e_t5; subst e_t4; subst e_s6; exact (if_pos h1)
              exact wi_vret hC hr hk d_M_look_138 rfl (congrArg (fun z => (σ, z, q)) hf).symm hQ
            refine wi_icmp_ne hC 134 d_M_look_127 (by decide) (fun h11 => ?_) (fun h11 => ?_)
            · skip
              refine wi_iconst hC 0 (by decide) d_M_look_134 ?_
              exact Jt8 false (by exact (Eq.trans eTt8 (if_neg h11)))
            · skip
              refine wi_iconst hC 1 (by decide) d_M_look_130 ?_
              refine wi_goto hC 135 d_M_look_131 (by decide) ?_
              exact Jt8 true (by exact (Eq.trans eTt8 (if_pos h11)))
          refine wi_icmp_ne hC 114 d_M_look_107 (by decide) (fun h10 => ?_) (fun h10 => ?_)
          · skip
            refine wi_iconst hC 0 (by decide) d_M_look_114 ?_
            exact Jt7 false (by exact (Eq.trans eTt7 (if_neg h10)))
          · skip
            refine wi_iconst hC 1 (by decide) d_M_look_110 ?_
            refine wi_goto hC 115 d_M_look_111 (by decide) ?_
            exact Jt7 true (by exact (Eq.trans eTt7 (if_pos h10)))
        refine wi_icmp_ne hC 93 d_M_look_86 (by decide) (fun h9 => ?_) (fun h9 => ?_)
        · skip
          refine wi_iconst hC 0 (by decide) d_M_look_93 ?_
          exact Jt6 false (by exact (Eq.trans eTt6 (if_neg h9)))
        · skip
          refine wi_iconst hC 1 (by decide) d_M_look_89 ?_
          refine wi_goto hC 94 d_M_look_90 (by decide) ?_
          exact Jt6 true (by exact (Eq.trans eTt6 (if_pos h9)))
      refine wi_icmp_ne hC 72 d_M_look_65 (by decide) (fun h8 => ?_) (fun h8 => ?_)
      · skip
        refine wi_iconst hC 0 (by decide) d_M_look_72 ?_
        exact Jt5 false (by exact (Eq.trans eTt5 (if_neg h8)))
      · skip
        refine wi_iconst hC 1 (by decide) d_M_look_68 ?_
        refine wi_goto hC 73 d_M_look_69 (by decide) ?_
        exact Jt5 true (by exact (Eq.trans eTt5 (if_pos h8)))
    refine wi_z_eq (b := (gZ s6 103 (jat (gI s6 1 30)))) hC 48 d_M_look_40 (by decide) (fun h7 => ?_) (fun h7 => ?_)
    · skip
      refine wi_aload_n hC 0 d_M_look_48 rfl rfl ?_
      refine wg_M_steps hC wd_1050 d_M_look_49 ?_
      refine wi_iconst hC 0 (by decide) d_M_look_52 ?_
      refine k_MS_examine hC (by unfold vp_in; decide) wd_1134 (by decide) (Nat.le_of_ble_eq_true rfl) d_M_look_53 ?_
      obtain ⟨r1, e_r1⟩ : ∃ y : Int32 × St, f_MS_examine s6 0 = y := ⟨_, rfl⟩
      rw [e_r1]
      exact Jt4 (r1.1, r1.2) (by subst e_r1; exact (Eq.trans eTt4 (if_neg h7)))
    · skip
      refine wi_bipush hC 9 (by decide) d_M_look_43 ?_
      refine wi_goto hC 56 d_M_look_45 (by decide) ?_
      exact Jt4 (9, s6) (by exact (Eq.trans eTt4 (if_pos h7)))
theorem k_M_look {p : Program} {l : Launch} {e : Env} {R : Room} {s : State} {m : MethodId} {args : Array Value} {below : List Frame} {meth : Method} {c : Code} {Q : State → Prop} {E : Ev} {nL pc index : Nat} {lv : List (Nat × Value)} {rest : List Value} {cc : ByteArray} {own : String} {σ τ : St} {q : Int64}  (hC : Cx p s m args c cc nL own E)   (hl : Cond.methodLink own index y_M_look ∈ WL) (hR : 6 + 1 ≤ R.frames ∧ 8 + (2 + 11) + 143 ≤ R.locals) (hs8 : (rest.map fun v => v.category).sum ≤ 8) (d : decode cc pc = .ok (.invokevirtual index, 3)) (k : WS p l e R s m args below meth c Q E nL (pc + 3) lv rest (σ, (f_M_look τ), q)) : WS p l e R s m args below meth c Q E nL pc lv (.ref 30 :: rest) (σ, τ, q) := by
  exact wi_callV hC (n := 0) (vs := []) (rest := rest) 30 10 (by decide) rfl rfl rfl (c_M_look l E σ τ q  ) (by decide +kernel) wd_1135 wd_952 wd_1136 wd_1137 ⟨rfl, rfl⟩ rfl rfl hl hR hs8 d k
set_option maxRecDepth 100000 in
set_option maxHeartbeats 400000 in
theorem c_M_split (l : Launch) (E : Ev) (σ τ : St) (q : Int64)   : MF l y_M_split prog_12_method_44_code 2 none { frames := 4, cells := 0, slots := 0, locals := 110 } E [.ref 30] (σ, τ, q) none (σ, (f_M_split τ), q) := by
  refine MF_intro (lv0 := [(0, .ref 30)]) (by decide) wd_1140 (Nat.le_of_ble_eq_true rfl) rfl ?_
  intro p e s m args below meth c Q hC hr hk hQ
  replace hC : Cx p s m args c prog_12_method_44_code 2 "PartnerStackModel" E := hC
  refine wi_aload_n hC 0 d_M_split_0 rfl rfl ?_
  refine wi_iconst hC 0 (by decide) d_M_split_1 ?_
  refine k_M_want hC (by unfold vp_in; decide) wd_1087 (by decide) (Nat.le_of_ble_eq_true rfl) d_M_split_2 ?_
  refine wi_nmM (fun s1 e_s1 => ?_)
  refine wi_aload_n hC 0 d_M_split_5 rfl rfl ?_
  refine wg_M_over hC wd_976 d_M_split_6 ?_
  refine wi_z_eq (b := (gZ s1 9 30)) hC 13 d_M_split_9 (by decide) (fun h1 => ?_) (fun h1 => ?_)
  · skip
    refine wi_aload_n hC 0 d_M_split_13 rfl rfl ?_
    refine k_M_isFull hC  wd_1117 (by decide) (Nat.le_of_ble_eq_true rfl) d_M_split_14 ?_
    obtain ⟨r1, e_r1⟩ : ∃ y : Bool × St, f_M_isFull s1 = y := ⟨_, rfl⟩
    rw [e_r1]
    refine wi_istore_n hC [(1, .int (bI r1.1)), (0, .ref 30)] d_M_split_17 rfl (by decide) rfl ?_
    refine wi_aload_n hC 1 d_M_split_18 rfl rfl ?_
    refine wg_M_over hC wd_976 d_M_split_19 ?_
    refine wi_z_eq (b := (gZ r1.2 9 30)) hC 26 d_M_split_22 (by decide) (fun h2 => ?_) (fun h2 => ?_)
    · skip
      refine wi_aload_n hC 1 d_M_split_26 rfl rfl ?_
      refine wi_iconst hC 0 (by decide) d_M_split_27 ?_
      refine wi_aload_n hC 1 d_M_split_28 rfl rfl ?_
      refine wi_iconst hC 0 (by decide) d_M_split_29 ?_
      refine k_M_topOf hC (by unfold vp_in; decide) wd_1002 (by decide) (Nat.le_of_ble_eq_true rfl) d_M_split_30 ?_
      refine wi_aload_n hC 1 d_M_split_33 rfl rfl ?_
      refine wi_iconst hC 0 (by decide) d_M_split_34 ?_
      refine k_M_fractionOf hC (by unfold vp_in; decide) wd_1004 (by decide) (Nat.le_of_ble_eq_true rfl) d_M_split_35 ?_
      refine k_M_giveSteps hC (by unfold vp_in; decide) wd_1063 (by decide) (Nat.le_of_ble_eq_true rfl) d_M_split_38 ?_
      refine wi_nmM (fun s2 e_s2 => ?_)
      refine wi_aload_n hC 1 d_M_split_41 rfl rfl ?_
      refine wi_aload_n hC 1 d_M_split_42 rfl rfl ?_
      refine wg_M_steps hC wd_1050 d_M_split_43 ?_
      refine wi_iconst hC 0 (by decide) d_M_split_46 ?_
      refine wi_iconst hC 1 (by decide) d_M_split_47 ?_
      refine wi_iconst hC 2 (by decide) d_M_split_48 ?_
      refine k_MS_extract hC (by unfold vp_in; decide) (by unfold vp_in; decide) (by unfold vp_in; decide) wd_1138 (by decide) (Nat.le_of_ble_eq_true rfl) d_M_split_49 ?_
      obtain ⟨r2, e_r2⟩ : ∃ y : Int32 × St, f_MS_extract s2 0 1 2 = y := ⟨_, rfl⟩
      rw [e_r2]
      refine k_M_say hC  wd_990 (by decide) (Nat.le_of_ble_eq_true rfl) d_M_split_52 ?_
      refine wi_nmM (fun s3 e_s3 => ?_)
      refine wi_aload_n hC 1 d_M_split_55 rfl rfl ?_
      refine wg_M_over hC wd_976 d_M_split_56 ?_
      refine wi_z_eq (b := (gZ s3 9 30)) hC 63 d_M_split_59 (by decide) (fun h3 => ?_) (fun h3 => ?_)
      · skip
        refine wi_aload_n hC 1 d_M_split_63 rfl rfl ?_
        refine wi_iconst hC 1 (by decide) d_M_split_64 ?_
        refine k_M_fromSteps hC (by unfold vp_in; decide) wd_1139 (by decide) (Nat.le_of_ble_eq_true rfl) d_M_split_65 ?_
        refine wi_nmM (fun s4 e_s4 => ?_)
        refine wi_aload_n hC 1 d_M_split_68 rfl rfl ?_
        refine wi_iconst hC 0 (by decide) d_M_split_69 ?_
        refine k_M_becomeX hC (by unfold vp_in; decide) wd_1018 (by decide) (Nat.le_of_ble_eq_true rfl) d_M_split_70 ?_
        refine wi_nmM (fun s5 e_s5 => ?_)
        refine wi_aload_n hC 1 d_M_split_73 rfl rfl ?_
        refine wi_iconst hC 2 (by decide) d_M_split_74 ?_
        refine k_M_fromSteps hC (by unfold vp_in; decide) wd_1139 (by decide) (Nat.le_of_ble_eq_true rfl) d_M_split_75 ?_
        refine wi_nmM (fun s6 e_s6 => ?_)
        refine wi_aload_n hC 1 d_M_split_78 rfl rfl ?_
        refine wi_iload_n hC 0 d_M_split_79 rfl rfl ?_
        refine k_M_push hC r1.1 rfl wd_1119 (by decide) (Nat.le_of_ble_eq_true rfl) d_M_split_80 ?_
        refine wi_nmM (fun s7 e_s7 => ?_)
        have hf : f_M_split τ = s7 := by subst e_s7; subst e_s6; subst e_s5; subst e_s4; subst e_s3; subst e_r2; subst e_s2; subst e_r1; subst e_s1; exact (Eq.trans (if_neg h1) (Eq.trans (if_neg h2) (if_neg h3)))
        exact wi_vret hC hr hk d_M_split_83 rfl (congrArg (fun z => (σ, z, q)) hf).symm hQ
      · skip
        have hf : f_M_split τ = s3 := by subst e_s3; subst e_r2; subst e_s2; subst e_r1; subst e_s1; exact (Eq.trans (if_neg h1) (Eq.trans (if_neg h2) (if_pos h3)))
        exact wi_vret hC hr hk d_M_split_62 rfl (congrArg (fun z => (σ, z, q)) hf).symm hQ
    · skip
      have hf : f_M_split τ = r1.2 := by subst e_r1; subst e_s1; exact (Eq.trans (if_neg h1) (if_pos h2))
      exact wi_vret hC hr hk d_M_split_25 rfl (congrArg (fun z => (σ, z, q)) hf).symm hQ
  · skip
    have hf : f_M_split τ = s1 := by subst e_s1; exact (if_pos h1)
    exact wi_vret hC hr hk d_M_split_12 rfl (congrArg (fun z => (σ, z, q)) hf).symm hQ
theorem k_M_split {p : Program} {l : Launch} {e : Env} {R : Room} {s : State} {m : MethodId} {args : Array Value} {below : List Frame} {meth : Method} {c : Code} {Q : State → Prop} {E : Ev} {nL pc index : Nat} {lv : List (Nat × Value)} {rest : List Value} {cc : ByteArray} {own : String} {σ τ : St} {q : Int64}  (hC : Cx p s m args c cc nL own E)   (hl : Cond.methodLink own index y_M_split ∈ WL) (hR : 4 + 1 ≤ R.frames ∧ 8 + (2 + 11) + 110 ≤ R.locals) (hs8 : (rest.map fun v => v.category).sum ≤ 8) (d : decode cc pc = .ok (.invokevirtual index, 3)) (k : WS p l e R s m args below meth c Q E nL (pc + 3) lv rest (σ, (f_M_split τ), q)) : WS p l e R s m args below meth c Q E nL pc lv (.ref 30 :: rest) (σ, τ, q) := by
  exact wi_callV hC (n := 0) (vs := []) (rest := rest) 30 10 (by decide) rfl rfl rfl (c_M_split l E σ τ q  ) (by decide +kernel) wd_1140 wd_952 wd_1141 wd_1142 ⟨rfl, rfl⟩ rfl rfl hl hR hs8 d k
set_option maxRecDepth 100000 in
set_option maxHeartbeats 400000 in
theorem c_M_step (l : Launch) (E : Ev) (σ τ : St) (q : Int64)   : MF l y_M_step prog_12_method_45_code 4 none { frames := 7, cells := 0, slots := 0, locals := 201 } E [.ref 30] (σ, τ, q) none (σ, (f_M_step τ), q) := by
  refine MF_intro (lv0 := [(0, .ref 30)]) (by decide) wd_1146 (Nat.le_of_ble_eq_true rfl) rfl ?_
  intro p e s m args below meth c Q hC hr hk hQ
  replace hC : Cx p s m args c prog_12_method_45_code 4 "PartnerStackModel" E := hC
  refine wi_aload_n hC 0 d_M_step_0 rfl rfl ?_
  refine wg_M_i hC wd_1127 d_M_step_1 ?_
  obtain ⟨Tt1, eTt1⟩ : ∃ y : Bool, y = (
          if gI τ 12 30 = 0 then
            true
          else
            if gI τ 12 30 = 5 then
              true
            else
              false) := ⟨_, rfl⟩
  have Jt1 : ∀ (t1 : Bool), Tt1 = t1 → WS p l e { frames := 7, cells := 0, slots := 0, locals := 201 } s m args below meth c Q E 4 20 [(0, .ref 30)] [.int (bI t1)] (σ, τ, q) := by
    intro t1  e_t1
    rw [eTt1] at e_t1
    refine wi_istore_n hC [(1, .int (bI t1)), (0, .ref 30)] d_M_step_20 rfl (by decide) rfl ?_
    refine wi_aload_n hC 1 d_M_step_21 rfl rfl ?_
    refine wi_iconst hC 0 (by decide) d_M_step_22 ?_
    refine k_M_want hC (by unfold vp_in; decide) wd_1087 (by decide) (Nat.le_of_ble_eq_true rfl) d_M_step_23 ?_
    refine wi_nmM (fun s1 e_s1 => ?_)
    refine wi_iload_n hC 0 d_M_step_26 rfl rfl ?_
    obtain ⟨Tt2, eTt2⟩ : ∃ y : St, y = (
            if t1 = true then
              let s2 : St := f_M_want s1 1
              s2
            else
              s1) := ⟨_, rfl⟩
    have Jt2 : ∀ (t2 : St), Tt2 = t2 → WS p l e { frames := 7, cells := 0, slots := 0, locals := 201 } s m args below meth c Q E 4 35 [(1, .int (bI t1)), (0, .ref 30)] [] (σ, t2, q) := by
      intro t2  e_t2
      rw [eTt2] at e_t2
      refine wi_aload_n hC 1 d_M_step_35 rfl rfl ?_
      refine wg_M_over hC wd_976 d_M_step_36 ?_
      refine wi_z_eq (b := (gZ t2 9 30)) hC 43 d_M_step_39 (by decide) (fun h4 => ?_) (fun h4 => ?_)
      · skip
        refine wi_aload_n hC 1 d_M_step_43 rfl rfl ?_
        refine wg_M_i hC wd_1127 d_M_step_44 ?_
        refine wi_iconst hC 2 (by decide) d_M_step_47 ?_
        refine wi_icmp_ne hC 82 d_M_step_48 (by decide) (fun h5 => ?_) (fun h5 => ?_)
        · skip
          refine wi_aload_n hC 1 d_M_step_82 rfl rfl ?_
          refine wi_iconst hC 0 (by decide) d_M_step_83 ?_
          refine wi_aload_n hC 1 d_M_step_84 rfl rfl ?_
          refine wi_iconst hC 0 (by decide) d_M_step_85 ?_
          refine k_M_topOf hC (by unfold vp_in; decide) wd_1002 (by decide) (Nat.le_of_ble_eq_true rfl) d_M_step_86 ?_
          refine wi_aload_n hC 1 d_M_step_89 rfl rfl ?_
          refine wi_iconst hC 0 (by decide) d_M_step_90 ?_
          refine k_M_fractionOf hC (by unfold vp_in; decide) wd_1004 (by decide) (Nat.le_of_ble_eq_true rfl) d_M_step_91 ?_
          refine k_M_giveSteps hC (by unfold vp_in; decide) wd_1063 (by decide) (Nat.le_of_ble_eq_true rfl) d_M_step_94 ?_
          refine wi_nmM (fun s3 e_s3 => ?_)
          refine wi_iload_n hC 0 d_M_step_97 rfl rfl ?_
          obtain ⟨Tt3, eTt3⟩ : ∃ y : St, y = (
                  if t1 = true then
                    let s4 : St := f_M_giveSteps s3 1 (f_M_topOf s3 1) (f_M_fractionOf s3 1)
                    s4
                  else
                    s3) := ⟨_, rfl⟩
          have Jt3 : ∀ (t3 : St), Tt3 = t3 → WS p l e { frames := 7, cells := 0, slots := 0, locals := 201 } s m args below meth c Q E 4 116 [(1, .int (bI t1)), (0, .ref 30)] [] (σ, t3, q) := by
            intro t3  e_t3
            rw [eTt3] at e_t3
            refine wi_aload_n hC 1 d_M_step_116 rfl rfl ?_
            refine wg_M_i hC wd_1127 d_M_step_117 ?_
            obtain ⟨Tt4, eTt4⟩ : ∃ y : Int32 × St, y = (
                    if gI t3 12 30 = 0 then
                      let r3 : Int32 × St := f_MS_remainder t3 0 1 2
                      (r3.1, r3.2)
                    else
                      if gI t3 12 30 = 4 then
                        let r2 : Int32 × St := f_MS_whole t3 0 2
                        (r2.1, r2.2)
                      else
                        let r1 : Int32 × St := f_MS_scale t3 0 1 2
                        (r1.1, r1.2)) := ⟨_, rfl⟩
            have Jt4 : ∀ (t4 : Int32 × St), Tt4 = t4 → WS p l e { frames := 7, cells := 0, slots := 0, locals := 201 } s m args below meth c Q E 4 166 [(1, .int (bI t1)), (0, .ref 30)] [.int t4.1] (σ, t4.2, q) := by
              intro t4  e_t4
              rw [eTt4] at e_t4
              refine wi_istore_n hC [(2, .int t4.1), (1, .int (bI t1)), (0, .ref 30)] d_M_step_166 rfl (by decide) rfl ?_
              refine wi_aload_n hC 2 d_M_step_167 rfl rfl ?_
              refine wi_iload_n hC 0 d_M_step_168 rfl rfl ?_
              refine k_M_say hC  wd_990 (by decide) (Nat.le_of_ble_eq_true rfl) d_M_step_169 ?_
              refine wi_nmM (fun s5 e_s5 => ?_)
              refine wi_aload_n hC 2 d_M_step_172 rfl rfl ?_
              refine wg_M_over hC wd_976 d_M_step_173 ?_
              refine wi_z_eq (b := (gZ s5 9 30)) hC 180 d_M_step_176 (by decide) (fun h9 => ?_) (fun h9 => ?_)
              · skip
                refine wi_aload_n hC 2 d_M_step_180 rfl rfl ?_
                refine wi_iconst hC 2 (by decide) d_M_step_181 ?_
                refine k_M_fromSteps hC (by unfold vp_in; decide) wd_1139 (by decide) (Nat.le_of_ble_eq_true rfl) d_M_step_182 ?_
                refine wi_nmM (fun s6 e_s6 => ?_)
                refine wi_aload_n hC 2 d_M_step_185 rfl rfl ?_
                refine wi_iconst hC 0 (by decide) d_M_step_186 ?_
                refine k_M_becomeX hC (by unfold vp_in; decide) wd_1018 (by decide) (Nat.le_of_ble_eq_true rfl) d_M_step_187 ?_
                refine wi_nmM (fun s7 e_s7 => ?_)
                refine wi_aload_n hC 2 d_M_step_190 rfl rfl ?_
                refine wg_M_i hC wd_1127 d_M_step_191 ?_
                obtain ⟨Tt5, eTt5⟩ : ∃ y : St, y = (
                        if gI s7 12 30 = 0 then
                          if jrem t4.1 2 = 0 then
                            let r4 : Int32 × St := f_MS_told s7 2
                            let r5 : Int32 × St := f_MS_told r4.2 3
                            let t6 : Bool := 
                                if r5.1 = 1 then
                                  true
                                else
                                  false
                            let s8 : St := f_M_condition r5.2 1024 t6
                            let t7 : Bool := 
                                if jrem (r4.1 / 4) 2 = 1 then
                                  true
                                else
                                  false
                            let s9 : St := f_M_condition s8 256 t7
                            let t8 : Bool := 
                                if jrem (r4.1 / 2) 2 = 1 then
                                  true
                                else
                                  false
                            let s10 : St := f_M_condition s9 16384 t8
                            let t9 : Bool := 
                                if jrem r4.1 2 = 1 then
                                  true
                                else
                                  false
                            let s11 : St := f_M_condition s10 512 t9
                            s11
                          else
                            s7
                        else
                          s7) := ⟨_, rfl⟩
                have Jt5 : ∀ (t5 : St), Tt5 = t5 → WS p l e { frames := 7, cells := 0, slots := 0, locals := 201 } s m args below meth c Q E 4 297 [(2, .int t4.1), (1, .int (bI t1)), (0, .ref 30)] [] (σ, t5, q) := by
                  intro t5  e_t5
                  rw [eTt5] at e_t5
                  have hf : f_M_step τ = t5 := by subst e_t5; subst e_s7; subst e_s6; subst e_s5; subst e_t4; subst e_t3; subst e_s3; subst e_t2; subst e_s1; subst e_t1; exact (Eq.trans (if_neg h4) (Eq.trans (if_neg h5) (if_neg h9)))
                  exact wi_vret hC hr hk d_M_step_297 rfl (congrArg (fun z => (σ, z, q)) hf).symm hQ
                refine wi_if_ne hC 297 d_M_step_194 (by decide) (fun h10 => ?_) (fun h10 => ?_)
                · skip
                  exact Jt5 s7 (by exact (Eq.trans eTt5 (if_neg h10)))
                · skip
                  refine wi_iload_n hC 0 d_M_step_197 rfl rfl ?_
                  refine wi_iconst hC 2 (by decide) d_M_step_198 ?_
                  refine wi_irem hC (by decide) d_M_step_199 ?_
                  refine wi_if_ne hC 297 d_M_step_200 (by decide) (fun h11 => ?_) (fun h11 => ?_)
                  · skip
                    exact Jt5 s7 (by exact (Eq.trans eTt5 (Eq.trans (if_pos h10) (if_neg h11))))
                  · skip
                    refine wi_aload_n hC 2 d_M_step_203 rfl rfl ?_
                    refine wg_M_steps hC wd_1050 d_M_step_204 ?_
                    refine wi_iconst hC 2 (by decide) d_M_step_207 ?_
                    refine k_MS_told hC  wd_1066 (by decide) (Nat.le_of_ble_eq_true rfl) d_M_step_208 ?_
                    obtain ⟨r4, e_r4⟩ : ∃ y : Int32 × St, f_MS_told s7 2 = y := ⟨_, rfl⟩
                    rw [e_r4]
                    refine wi_istore_n hC [(3, .int r4.1), (2, .int t4.1), (1, .int (bI t1)), (0, .ref 30)] d_M_step_211 rfl (by decide) rfl ?_
                    refine wi_aload_n hC 3 d_M_step_212 rfl rfl ?_
                    refine wi_sipush hC 1024 (by decide) d_M_step_213 ?_
                    refine wi_aload_n hC 3 d_M_step_216 rfl rfl ?_
                    refine wg_M_steps hC wd_1050 d_M_step_217 ?_
                    refine wi_iconst hC 3 (by decide) d_M_step_220 ?_
                    refine k_MS_told hC  wd_1066 (by decide) (Nat.le_of_ble_eq_true rfl) d_M_step_221 ?_
                    obtain ⟨r5, e_r5⟩ : ∃ y : Int32 × St, f_MS_told r4.2 3 = y := ⟨_, rfl⟩
                    rw [e_r5]
                    refine wi_iconst hC 1 (by decide) d_M_step_224 ?_
                    obtain ⟨Tt6, eTt6⟩ : ∃ y : Bool, y = (
                            if r5.1 = 1 then
                              true
                            else
                              false) := ⟨_, rfl⟩
                    have Jt6 : ∀ (t6 : Bool), Tt6 = t6 → WS p l e { frames := 7, cells := 0, slots := 0, locals := 201 } s m args below meth c Q E 4 233 [(3, .int r4.1), (2, .int t4.1), (1, .int (bI t1)), (0, .ref 30)] [.int (bI t6), .int 1024, .ref 30] (σ, r5.2, q) := by
                      intro t6  e_t6
                      rw [eTt6] at e_t6
                      refine k_M_condition hC t6 rfl (by decide) wd_1067 (by decide) (Nat.le_of_ble_eq_true rfl) d_M_step_233 ?_
                      refine wi_nmM (fun s8 e_s8 => ?_)
                      refine wi_aload_n hC 3 d_M_step_236 rfl rfl ?_
                      refine wi_sipush hC 256 (by decide) d_M_step_237 ?_
                      refine wi_iload_n hC 0 d_M_step_240 rfl rfl ?_
                      refine wi_iconst hC 4 (by decide) d_M_step_241 ?_
                      refine wi_idiv hC (by decide) d_M_step_242 ?_
                      refine wi_iconst hC 2 (by decide) d_M_step_243 ?_
                      refine wi_irem hC (by decide) d_M_step_244 ?_
                      refine wi_iconst hC 1 (by decide) d_M_step_245 ?_
                      obtain ⟨Tt7, eTt7⟩ : ∃ y : Bool, y = (
                              if jrem (r4.1 / 4) 2 = 1 then
                                true
                              else
                                false) := ⟨_, rfl⟩
                      have Jt7 : ∀ (t7 : Bool), Tt7 = t7 → WS p l e { frames := 7, cells := 0, slots := 0, locals := 201 } s m args below meth c Q E 4 254 [(3, .int r4.1), (2, .int t4.1), (1, .int (bI t1)), (0, .ref 30)] [.int (bI t7), .int 256, .ref 30] (σ, s8, q) := by
                        intro t7  e_t7
                        rw [eTt7] at e_t7
                        refine k_M_condition hC t7 rfl (by decide) wd_1067 (by decide) (Nat.le_of_ble_eq_true rfl) d_M_step_254 ?_
                        refine wi_nmM (fun s9 e_s9 => ?_)
                        refine wi_aload_n hC 3 d_M_step_257 rfl rfl ?_
                        refine wi_sipush hC 16384 (by decide) d_M_step_258 ?_
                        refine wi_iload_n hC 0 d_M_step_261 rfl rfl ?_
                        refine wi_iconst hC 2 (by decide) d_M_step_262 ?_
                        refine wi_idiv hC (by decide) d_M_step_263 ?_
                        refine wi_iconst hC 2 (by decide) d_M_step_264 ?_
                        refine wi_irem hC (by decide) d_M_step_265 ?_
                        refine wi_iconst hC 1 (by decide) d_M_step_266 ?_
                        obtain ⟨Tt8, eTt8⟩ : ∃ y : Bool, y = (
                                if jrem (r4.1 / 2) 2 = 1 then
                                  true
                                else
                                  false) := ⟨_, rfl⟩
                        have Jt8 : ∀ (t8 : Bool), Tt8 = t8 → WS p l e { frames := 7, cells := 0, slots := 0, locals := 201 } s m args below meth c Q E 4 275 [(3, .int r4.1), (2, .int t4.1), (1, .int (bI t1)), (0, .ref 30)] [.int (bI t8), .int 16384, .ref 30] (σ, s9, q) := by
                          intro t8  e_t8
                          rw [eTt8] at e_t8
                          refine k_M_condition hC t8 rfl (by decide) wd_1067 (by decide) (Nat.le_of_ble_eq_true rfl) d_M_step_275 ?_
                          refine wi_nmM (fun s10 e_s10 => ?_)
                          refine wi_aload_n hC 3 d_M_step_278 rfl rfl ?_
                          refine wi_sipush hC 512 (by decide) d_M_step_279 ?_
                          refine wi_iload_n hC 0 d_M_step_282 rfl rfl ?_
                          refine wi_iconst hC 2 (by decide) d_M_step_283 ?_
                          refine wi_irem hC (by decide) d_M_step_284 ?_
                          refine wi_iconst hC 1 (by decide) d_M_step_285 ?_
                          obtain ⟨Tt9, eTt9⟩ : ∃ y : Bool, y = (
                                  if jrem r4.1 2 = 1 then
                                    true
                                  else
                                    false) := ⟨_, rfl⟩
                          have Jt9 : ∀ (t9 : Bool), Tt9 = t9 → WS p l e { frames := 7, cells := 0, slots := 0, locals := 201 } s m args below meth c Q E 4 294 [(3, .int r4.1), (2, .int t4.1), (1, .int (bI t1)), (0, .ref 30)] [.int (bI t9), .int 512, .ref 30] (σ, s10, q) := by
                            intro t9  e_t9
                            rw [eTt9] at e_t9
                            refine k_M_condition hC t9 rfl (by decide) wd_1067 (by decide) (Nat.le_of_ble_eq_true rfl) d_M_step_294 ?_
                            refine wi_nmM (fun s11 e_s11 => ?_)
                            refine wi_lv [1, 2, 3] [(2, .int t4.1), (1, .int (bI t1)), (0, .ref 30)] rfl ?_
                            exact Jt5 s11 (by subst e_s11; subst e_t9; subst e_s10; subst e_t8; subst e_s9; subst e_t7; subst e_s8; subst e_t6; subst e_r5; subst e_r4; exact (Eq.trans eTt5 (Eq.trans (if_pos h10) (if_pos h11))))
                          refine wi_icmp_ne hC 293 d_M_step_286 (by decide) (fun h15 => ?_) (fun h15 => ?_)
                          · skip
                            refine wi_iconst hC 0 (by decide) d_M_step_293 ?_
                            exact Jt9 false (by exact (Eq.trans eTt9 (if_neg h15)))
                          · skip
                            refine wi_iconst hC 1 (by decide) d_M_step_289 ?_
                            refine wi_goto hC 294 d_M_step_290 (by decide) ?_
                            exact Jt9 true (by exact (Eq.trans eTt9 (if_pos h15)))
                        refine wi_icmp_ne hC 274 d_M_step_267 (by decide) (fun h14 => ?_) (fun h14 => ?_)
                        · skip
                          refine wi_iconst hC 0 (by decide) d_M_step_274 ?_
                          exact Jt8 false (by exact (Eq.trans eTt8 (if_neg h14)))
                        · skip
                          refine wi_iconst hC 1 (by decide) d_M_step_270 ?_
                          refine wi_goto hC 275 d_M_step_271 (by decide) ?_
                          exact Jt8 true (by exact (Eq.trans eTt8 (if_pos h14)))
                      refine wi_icmp_ne hC 253 d_M_step_246 (by decide) (fun h13 => ?_) (fun h13 => ?_)
                      · skip
                        refine wi_iconst hC 0 (by decide) d_M_step_253 ?_
                        exact Jt7 false (by exact (Eq.trans eTt7 (if_neg h13)))
                      · skip
                        refine wi_iconst hC 1 (by decide) d_M_step_249 ?_
                        refine wi_goto hC 254 d_M_step_250 (by decide) ?_
                        exact Jt7 true (by exact (Eq.trans eTt7 (if_pos h13)))
                    refine wi_icmp_ne hC 232 d_M_step_225 (by decide) (fun h12 => ?_) (fun h12 => ?_)
                    · skip
                      refine wi_iconst hC 0 (by decide) d_M_step_232 ?_
                      exact Jt6 false (by exact (Eq.trans eTt6 (if_neg h12)))
                    · skip
                      refine wi_iconst hC 1 (by decide) d_M_step_228 ?_
                      refine wi_goto hC 233 d_M_step_229 (by decide) ?_
                      exact Jt6 true (by exact (Eq.trans eTt6 (if_pos h12)))
              · skip
                have hf : f_M_step τ = s5 := by subst e_s5; subst e_t4; subst e_t3; subst e_s3; subst e_t2; subst e_s1; subst e_t1; exact (Eq.trans (if_neg h4) (Eq.trans (if_neg h5) (if_pos h9)))
                exact wi_vret hC hr hk d_M_step_179 rfl (congrArg (fun z => (σ, z, q)) hf).symm hQ
            refine wi_if_ne hC 136 d_M_step_120 (by decide) (fun h7 => ?_) (fun h7 => ?_)
            · skip
              refine wi_aload_n hC 1 d_M_step_136 rfl rfl ?_
              refine wg_M_i hC wd_1127 d_M_step_137 ?_
              refine wi_iconst hC 4 (by decide) d_M_step_140 ?_
              refine wi_icmp_ne hC 156 d_M_step_141 (by decide) (fun h8 => ?_) (fun h8 => ?_)
              · skip
                refine wi_aload_n hC 1 d_M_step_156 rfl rfl ?_
                refine wg_M_steps hC wd_1050 d_M_step_157 ?_
                refine wi_iconst hC 0 (by decide) d_M_step_160 ?_
                refine wi_iconst hC 1 (by decide) d_M_step_161 ?_
                refine wi_iconst hC 2 (by decide) d_M_step_162 ?_
                refine k_MS_scale hC (by unfold vp_in; decide) (by unfold vp_in; decide) (by unfold vp_in; decide) wd_1143 (by decide) (Nat.le_of_ble_eq_true rfl) d_M_step_163 ?_
                obtain ⟨r1, e_r1⟩ : ∃ y : Int32 × St, f_MS_scale t3 0 1 2 = y := ⟨_, rfl⟩
                rw [e_r1]
                exact Jt4 (r1.1, r1.2) (by subst e_r1; exact (Eq.trans eTt4 (Eq.trans (if_neg h7) (if_neg h8))))
              · skip
                refine wi_aload_n hC 1 d_M_step_144 rfl rfl ?_
                refine wg_M_steps hC wd_1050 d_M_step_145 ?_
                refine wi_iconst hC 0 (by decide) d_M_step_148 ?_
                refine wi_iconst hC 2 (by decide) d_M_step_149 ?_
                refine k_MS_whole hC (by unfold vp_in; decide) (by unfold vp_in; decide) wd_1144 (by decide) (Nat.le_of_ble_eq_true rfl) d_M_step_150 ?_
                obtain ⟨r2, e_r2⟩ : ∃ y : Int32 × St, f_MS_whole t3 0 2 = y := ⟨_, rfl⟩
                rw [e_r2]
                refine wi_goto hC 166 d_M_step_153 (by decide) ?_
                exact Jt4 (r2.1, r2.2) (by subst e_r2; exact (Eq.trans eTt4 (Eq.trans (if_neg h7) (if_pos h8))))
            · skip
              refine wi_aload_n hC 1 d_M_step_123 rfl rfl ?_
              refine wg_M_steps hC wd_1050 d_M_step_124 ?_
              refine wi_iconst hC 0 (by decide) d_M_step_127 ?_
              refine wi_iconst hC 1 (by decide) d_M_step_128 ?_
              refine wi_iconst hC 2 (by decide) d_M_step_129 ?_
              refine k_MS_remainder hC (by unfold vp_in; decide) (by unfold vp_in; decide) (by unfold vp_in; decide) wd_1145 (by decide) (Nat.le_of_ble_eq_true rfl) d_M_step_130 ?_
              obtain ⟨r3, e_r3⟩ : ∃ y : Int32 × St, f_MS_remainder t3 0 1 2 = y := ⟨_, rfl⟩
              rw [e_r3]
              refine wi_goto hC 166 d_M_step_133 (by decide) ?_
              exact Jt4 (r3.1, r3.2) (by subst e_r3; exact (Eq.trans eTt4 (if_pos h7)))
          refine wi_z_eq (b := t1) hC 116 d_M_step_98 (by decide) (fun h6 => ?_) (fun h6 => ?_)
          · skip
            exact Jt3 s3 (by exact (Eq.trans eTt3 (if_neg h6)))
          · skip
            refine wi_aload_n hC 1 d_M_step_101 rfl rfl ?_
            refine wi_iconst hC 1 (by decide) d_M_step_102 ?_
            refine wi_aload_n hC 1 d_M_step_103 rfl rfl ?_
            refine wi_iconst hC 1 (by decide) d_M_step_104 ?_
            refine k_M_topOf hC (by unfold vp_in; decide) wd_1002 (by decide) (Nat.le_of_ble_eq_true rfl) d_M_step_105 ?_
            refine wi_aload_n hC 1 d_M_step_108 rfl rfl ?_
            refine wi_iconst hC 1 (by decide) d_M_step_109 ?_
            refine k_M_fractionOf hC (by unfold vp_in; decide) wd_1004 (by decide) (Nat.le_of_ble_eq_true rfl) d_M_step_110 ?_
            refine k_M_giveSteps hC (by unfold vp_in; decide) wd_1063 (by decide) (Nat.le_of_ble_eq_true rfl) d_M_step_113 ?_
            refine wi_nmM (fun s4 e_s4 => ?_)
            exact Jt3 s4 (by subst e_s4; exact (Eq.trans eTt3 (if_pos h6)))
        · skip
          refine wi_aload_n hC 1 d_M_step_51 rfl rfl ?_
          refine wi_bipush hC 6 (by decide) d_M_step_52 ?_
          refine wi_aload_n hC 1 d_M_step_54 rfl rfl ?_
          refine wi_iconst hC 0 (by decide) d_M_step_55 ?_
          refine k_M_topOf hC (by unfold vp_in; decide) wd_1002 (by decide) (Nat.le_of_ble_eq_true rfl) d_M_step_56 ?_
          refine wi_aload_n hC 1 d_M_step_59 rfl rfl ?_
          refine wi_iconst hC 0 (by decide) d_M_step_60 ?_
          refine k_M_fractionOf hC (by unfold vp_in; decide) wd_1004 (by decide) (Nat.le_of_ble_eq_true rfl) d_M_step_61 ?_
          refine wi_iconst hC 0 (by decide) d_M_step_64 ?_
          refine wi_lconst hC 0 (by decide) d_M_step_65 ?_
          refine k_M_operate hC  wd_1072 (by decide) (Nat.le_of_ble_eq_true rfl) d_M_step_66 ?_
          refine wi_nmM (fun s12 e_s12 => ?_)
          refine wi_aload_n hC 1 d_M_step_69 rfl rfl ?_
          refine wg_M_over hC wd_976 d_M_step_70 ?_
          obtain ⟨Tt10, eTt10⟩ : ∃ y : St, y = (
                  if gZ s12 9 30 = true then
                    s12
                  else
                    let s13 : St := f_M_becomeX s12 0
                    s13) := ⟨_, rfl⟩
          have Jt10 : ∀ (t10 : St), Tt10 = t10 → WS p l e { frames := 7, cells := 0, slots := 0, locals := 201 } s m args below meth c Q E 4 81 [(1, .int (bI t1)), (0, .ref 30)] [] (σ, t10, q) := by
            intro t10  e_t10
            rw [eTt10] at e_t10
            have hf : f_M_step τ = t10 := by subst e_t10; subst e_s12; subst e_t2; subst e_s1; subst e_t1; exact (Eq.trans (if_neg h4) (if_pos h5))
            exact wi_vret hC hr hk d_M_step_81 rfl (congrArg (fun z => (σ, z, q)) hf).symm hQ
          refine wi_z_ne (b := (gZ s12 9 30)) hC 81 d_M_step_73 (by decide) (fun h16 => ?_) (fun h16 => ?_)
          · skip
            exact Jt10 s12 (by exact (Eq.trans eTt10 (if_pos h16)))
          · skip
            refine wi_aload_n hC 1 d_M_step_76 rfl rfl ?_
            refine wi_iconst hC 0 (by decide) d_M_step_77 ?_
            refine k_M_becomeX hC (by unfold vp_in; decide) wd_1018 (by decide) (Nat.le_of_ble_eq_true rfl) d_M_step_78 ?_
            refine wi_nmM (fun s13 e_s13 => ?_)
            exact Jt10 s13 (by subst e_s13; exact (Eq.trans eTt10 (if_neg h16)))
      · skip
        have hf : f_M_step τ = t2 := by subst e_t2; subst e_s1; subst e_t1; exact (if_pos h4)
        exact wi_vret hC hr hk d_M_step_42 rfl (congrArg (fun z => (σ, z, q)) hf).symm hQ
    refine wi_z_eq (b := t1) hC 35 d_M_step_27 (by decide) (fun h3 => ?_) (fun h3 => ?_)
    · skip
      exact Jt2 s1 (by exact (Eq.trans eTt2 (if_neg h3)))
    · skip
      refine wi_aload_n hC 1 d_M_step_30 rfl rfl ?_
      refine wi_iconst hC 1 (by decide) d_M_step_31 ?_
      refine k_M_want hC (by unfold vp_in; decide) wd_1087 (by decide) (Nat.le_of_ble_eq_true rfl) d_M_step_32 ?_
      refine wi_nmM (fun s2 e_s2 => ?_)
      exact Jt2 s2 (by subst e_s2; exact (Eq.trans eTt2 (if_pos h3)))
  refine wi_if_eq hC 15 d_M_step_4 (by decide) (fun h1 => ?_) (fun h1 => ?_)
  · skip
    refine wi_iconst hC 1 (by decide) d_M_step_15 ?_
    refine wi_goto hC 20 d_M_step_16 (by decide) ?_
    exact Jt1 true (by exact (Eq.trans eTt1 (if_pos h1)))
  · skip
    refine wi_aload_n hC 0 d_M_step_7 rfl rfl ?_
    refine wg_M_i hC wd_1127 d_M_step_8 ?_
    refine wi_iconst hC 5 (by decide) d_M_step_11 ?_
    refine wi_icmp_ne hC 19 d_M_step_12 (by decide) (fun h2 => ?_) (fun h2 => ?_)
    · skip
      refine wi_iconst hC 0 (by decide) d_M_step_19 ?_
      exact Jt1 false (by exact (Eq.trans eTt1 (Eq.trans (if_neg h1) (if_neg h2))))
    · skip
      refine wi_iconst hC 1 (by decide) d_M_step_15 ?_
      refine wi_goto hC 20 d_M_step_16 (by decide) ?_
      exact Jt1 true (by exact (Eq.trans eTt1 (Eq.trans (if_neg h1) (if_pos h2))))
theorem k_M_step {p : Program} {l : Launch} {e : Env} {R : Room} {s : State} {m : MethodId} {args : Array Value} {below : List Frame} {meth : Method} {c : Code} {Q : State → Prop} {E : Ev} {nL pc index : Nat} {lv : List (Nat × Value)} {rest : List Value} {cc : ByteArray} {own : String} {σ τ : St} {q : Int64}  (hC : Cx p s m args c cc nL own E)   (hl : Cond.methodLink own index y_M_step ∈ WL) (hR : 7 + 1 ≤ R.frames ∧ 8 + (4 + 11) + 201 ≤ R.locals) (hs8 : (rest.map fun v => v.category).sum ≤ 8) (d : decode cc pc = .ok (.invokevirtual index, 3)) (k : WS p l e R s m args below meth c Q E nL (pc + 3) lv rest (σ, (f_M_step τ), q)) : WS p l e R s m args below meth c Q E nL pc lv (.ref 30 :: rest) (σ, τ, q) := by
  exact wi_callV hC (n := 0) (vs := []) (rest := rest) 30 10 (by decide) rfl rfl rfl (c_M_step l E σ τ q  ) (by decide +kernel) wd_1146 wd_952 wd_1147 wd_1148 ⟨rfl, rfl⟩ rfl rfl hl hR hs8 d k
set_option maxRecDepth 100000 in
set_option maxHeartbeats 400000 in
theorem c_M_alone (l : Launch) (E : Ev) (σ τ : St) (q : Int64)   : MF l y_M_alone prog_12_method_41_code 2 none { frames := 8, cells := 0, slots := 0, locals := 224 } E [.ref 30] (σ, τ, q) none (σ, (f_M_alone τ), q) := by
  refine MF_intro (lv0 := [(0, .ref 30)]) (by decide) wd_1154 (Nat.le_of_ble_eq_true rfl) rfl ?_
  intro p e s m args below meth c Q hC hr hk hQ
  replace hC : Cx p s m args c prog_12_method_41_code 2 "PartnerStackModel" E := hC
  refine wi_aload_n hC 0 d_M_alone_0 rfl rfl ?_
  refine wg_M_r hC wd_1071 d_M_alone_1 ?_
  refine wi_if_ne hC 44 d_M_alone_4 (by decide) (fun h1 => ?_) (fun h1 => ?_)
  · skip
    refine wi_aload_n hC 0 d_M_alone_44 rfl rfl ?_
    refine wg_M_r hC wd_1071 d_M_alone_45 ?_
    refine wi_iconst hC 1 (by decide) d_M_alone_48 ?_
    obtain ⟨Tt1, eTt1⟩ : ∃ y : St, y = (
            if gI τ 11 30 = 1 then
              let s9 : St := f_M_change τ
              s9
            else
              if gI τ 11 30 = 4 then
                let s8 : St := f_M_look τ
                s8
              else
                if gI τ 11 30 = 5 then
                  let r1 : Bool × St := f_M_isFull τ
                  let t2 : Int32 := 
                      if gI r1.2 12 30 = 6 then
                        0
                      else
                        (gI r1.2 12 30) + 1
                  let s5 : St := f_MS_constant r1.2 t2 7
                  let s6 : St := f_M_fromSteps s5 7
                  let s7 : St := f_M_push s6 r1.1
                  s7
                else
                  if gI τ 11 30 = 6 then
                    if gI τ 12 30 = 6 then
                      let s4 : St := sI τ 1 30 (jrem ((gI τ 1 30) + 7) 8)
                      s4
                    else
                      if gI τ 12 30 = 7 then
                        let s3 : St := sI τ 1 30 (jrem ((gI τ 1 30) + 1) 8)
                        s3
                      else
                        let s2 : St := f_M_split τ
                        s2
                  else
                    if gI τ 11 30 = 7 then
                      let s1 : St := f_M_step τ
                      s1
                    else
                      τ) := ⟨_, rfl⟩
    have Jt1 : ∀ (t1 : St), Tt1 = t1 → WS p l e { frames := 8, cells := 0, slots := 0, locals := 224 } s m args below meth c Q E 2 209 [(0, .ref 30)] [] (σ, t1, q) := by
      intro t1  e_t1
      rw [eTt1] at e_t1
      have hf : f_M_alone τ = t1 := by subst e_t1; exact (if_neg h1)
      exact wi_vret hC hr hk d_M_alone_209 rfl (congrArg (fun z => (σ, z, q)) hf).symm hQ
    refine wi_icmp_ne hC 59 d_M_alone_49 (by decide) (fun h2 => ?_) (fun h2 => ?_)
    · skip
      refine wi_aload_n hC 0 d_M_alone_59 rfl rfl ?_
      refine wg_M_r hC wd_1071 d_M_alone_60 ?_
      refine wi_iconst hC 4 (by decide) d_M_alone_63 ?_
      refine wi_icmp_ne hC 74 d_M_alone_64 (by decide) (fun h3 => ?_) (fun h3 => ?_)
      · skip
        refine wi_aload_n hC 0 d_M_alone_74 rfl rfl ?_
        refine wg_M_r hC wd_1071 d_M_alone_75 ?_
        refine wi_iconst hC 5 (by decide) d_M_alone_78 ?_
        refine wi_icmp_ne hC 129 d_M_alone_79 (by decide) (fun h4 => ?_) (fun h4 => ?_)
        · skip
          refine wi_aload_n hC 0 d_M_alone_129 rfl rfl ?_
          refine wg_M_r hC wd_1071 d_M_alone_130 ?_
          refine wi_bipush hC 6 (by decide) d_M_alone_133 ?_
          refine wi_icmp_ne hC 196 d_M_alone_135 (by decide) (fun h5 => ?_) (fun h5 => ?_)
          · skip
            refine wi_aload_n hC 0 d_M_alone_196 rfl rfl ?_
            refine wg_M_r hC wd_1071 d_M_alone_197 ?_
            refine wi_bipush hC 7 (by decide) d_M_alone_200 ?_
            refine wi_icmp_ne hC 209 d_M_alone_202 (by decide) (fun h6 => ?_) (fun h6 => ?_)
            · skip
              exact Jt1 τ (by exact (Eq.trans eTt1 (Eq.trans (if_neg h2) (Eq.trans (if_neg h3) (Eq.trans (if_neg h4) (Eq.trans (if_neg h5) (if_neg h6)))))))
            · skip
              refine wi_aload_n hC 0 d_M_alone_205 rfl rfl ?_
              refine k_M_step hC  wd_1149 (by decide) (Nat.le_of_ble_eq_true rfl) d_M_alone_206 ?_
              refine wi_nmM (fun s1 e_s1 => ?_)
              exact Jt1 s1 (by subst e_s1; exact (Eq.trans eTt1 (Eq.trans (if_neg h2) (Eq.trans (if_neg h3) (Eq.trans (if_neg h4) (Eq.trans (if_neg h5) (if_pos h6)))))))
          · skip
            refine wi_aload_n hC 0 d_M_alone_138 rfl rfl ?_
            refine wg_M_i hC wd_1127 d_M_alone_139 ?_
            refine wi_bipush hC 6 (by decide) d_M_alone_142 ?_
            refine wi_icmp_ne hC 164 d_M_alone_144 (by decide) (fun h7 => ?_) (fun h7 => ?_)
            · skip
              refine wi_aload_n hC 0 d_M_alone_164 rfl rfl ?_
              refine wg_M_i hC wd_1127 d_M_alone_165 ?_
              refine wi_bipush hC 7 (by decide) d_M_alone_168 ?_
              refine wi_icmp_ne hC 189 d_M_alone_170 (by decide) (fun h8 => ?_) (fun h8 => ?_)
              · skip
                refine wi_aload_n hC 0 d_M_alone_189 rfl rfl ?_
                refine k_M_split hC  wd_1150 (by decide) (Nat.le_of_ble_eq_true rfl) d_M_alone_190 ?_
                refine wi_nmM (fun s2 e_s2 => ?_)
                refine wi_goto hC 209 d_M_alone_193 (by decide) ?_
                exact Jt1 s2 (by subst e_s2; exact (Eq.trans eTt1 (Eq.trans (if_neg h2) (Eq.trans (if_neg h3) (Eq.trans (if_neg h4) (Eq.trans (if_pos h5) (Eq.trans (if_neg h7) (if_neg h8))))))))
              · skip
                refine wi_aload_n hC 0 d_M_alone_173 rfl rfl ?_
                refine wi_aload_n hC 0 d_M_alone_174 rfl rfl ?_
                refine wg_M_first hC wd_946 d_M_alone_175 ?_
                refine wi_iconst hC 1 (by decide) d_M_alone_178 ?_
                refine wi_iadd hC d_M_alone_179 ?_
                refine wi_bipush hC 8 (by decide) d_M_alone_180 ?_
                refine wi_irem hC (by decide) d_M_alone_182 ?_
                refine wi_inv (fun hv1 => ?_)
                refine wp_M_first hC (st_in hv1.2.1 (by unfold vp_in; decide)) wd_946 d_M_alone_183 ?_
                refine wi_nmM (fun s3 e_s3 => ?_)
                refine wi_goto hC 209 d_M_alone_186 (by decide) ?_
                exact Jt1 s3 (by subst e_s3; exact (Eq.trans eTt1 (Eq.trans (if_neg h2) (Eq.trans (if_neg h3) (Eq.trans (if_neg h4) (Eq.trans (if_pos h5) (Eq.trans (if_neg h7) (if_pos h8))))))))
            · skip
              refine wi_aload_n hC 0 d_M_alone_147 rfl rfl ?_
              refine wi_aload_n hC 0 d_M_alone_148 rfl rfl ?_
              refine wg_M_first hC wd_946 d_M_alone_149 ?_
              refine wi_bipush hC 7 (by decide) d_M_alone_152 ?_
              refine wi_iadd hC d_M_alone_154 ?_
              refine wi_bipush hC 8 (by decide) d_M_alone_155 ?_
              refine wi_irem hC (by decide) d_M_alone_157 ?_
              refine wi_inv (fun hv2 => ?_)
              refine wp_M_first hC (st_in hv2.2.1 (by unfold vp_in; decide)) wd_946 d_M_alone_158 ?_
              refine wi_nmM (fun s4 e_s4 => ?_)
              refine wi_goto hC 209 d_M_alone_161 (by decide) ?_
              exact Jt1 s4 (by subst e_s4; exact (Eq.trans eTt1 (Eq.trans (if_neg h2) (Eq.trans (if_neg h3) (Eq.trans (if_neg h4) (Eq.trans (if_pos h5) (if_pos h7)))))))
        · skip
          refine wi_aload_n hC 0 d_M_alone_82 rfl rfl ?_
          refine k_M_isFull hC  wd_1117 (by decide) (Nat.le_of_ble_eq_true rfl) d_M_alone_83 ?_
          obtain ⟨r1, e_r1⟩ : ∃ y : Bool × St, f_M_isFull τ = y := ⟨_, rfl⟩
          rw [e_r1]
          refine wi_istore_n hC [(1, .int (bI r1.1)), (0, .ref 30)] d_M_alone_86 rfl (by decide) rfl ?_
          refine wi_aload_n hC 1 d_M_alone_87 rfl rfl ?_
          refine wg_M_steps hC wd_1050 d_M_alone_88 ?_
          refine wi_aload_n hC 1 d_M_alone_91 rfl rfl ?_
          refine wg_M_i hC wd_1127 d_M_alone_92 ?_
          refine wi_bipush hC 6 (by decide) d_M_alone_95 ?_
          obtain ⟨Tt2, eTt2⟩ : ∃ y : Int32, y = (
                  if gI r1.2 12 30 = 6 then
                    0
                  else
                    (gI r1.2 12 30) + 1) := ⟨_, rfl⟩
          have Jt2 : ∀ (t2 : Int32), Tt2 = t2 → WS p l e { frames := 8, cells := 0, slots := 0, locals := 224 } s m args below meth c Q E 2 110 [(1, .int (bI r1.1)), (0, .ref 30)] [.int t2, .ref 42] (σ, r1.2, q) := by
            intro t2  e_t2
            rw [eTt2] at e_t2
            refine wi_bipush hC 7 (by decide) d_M_alone_110 ?_
            refine k_MS_constant hC (by unfold vp_in; decide) wd_1151 (by decide) (Nat.le_of_ble_eq_true rfl) d_M_alone_112 ?_
            refine wi_nmM (fun s5 e_s5 => ?_)
            refine wi_aload_n hC 1 d_M_alone_115 rfl rfl ?_
            refine wi_bipush hC 7 (by decide) d_M_alone_116 ?_
            refine k_M_fromSteps hC (by unfold vp_in; decide) wd_1139 (by decide) (Nat.le_of_ble_eq_true rfl) d_M_alone_118 ?_
            refine wi_nmM (fun s6 e_s6 => ?_)
            refine wi_aload_n hC 1 d_M_alone_121 rfl rfl ?_
            refine wi_iload_n hC 0 d_M_alone_122 rfl rfl ?_
            refine k_M_push hC r1.1 rfl wd_1119 (by decide) (Nat.le_of_ble_eq_true rfl) d_M_alone_123 ?_
            refine wi_nmM (fun s7 e_s7 => ?_)
            refine wi_goto hC 209 d_M_alone_126 (by decide) ?_
            refine wi_lv [1] [(0, .ref 30)] rfl ?_
            exact Jt1 s7 (by subst e_s7; subst e_s6; subst e_s5; subst e_t2; subst e_r1; exact (Eq.trans eTt1 (Eq.trans (if_neg h2) (Eq.trans (if_neg h3) (if_pos h4)))))
          refine wi_icmp_ne hC 104 d_M_alone_97 (by decide) (fun h9 => ?_) (fun h9 => ?_)
          · skip
            refine wi_aload_n hC 1 d_M_alone_104 rfl rfl ?_
            refine wg_M_i hC wd_1127 d_M_alone_105 ?_
            refine wi_iconst hC 1 (by decide) d_M_alone_108 ?_
            refine wi_iadd hC d_M_alone_109 ?_
            exact Jt2 ((gI r1.2 12 30) + 1) (by exact (Eq.trans eTt2 (if_neg h9)))
          · skip
            refine wi_iconst hC 0 (by decide) d_M_alone_100 ?_
            refine wi_goto hC 110 d_M_alone_101 (by decide) ?_
            exact Jt2 0 (by exact (Eq.trans eTt2 (if_pos h9)))
      · skip
        refine wi_aload_n hC 0 d_M_alone_67 rfl rfl ?_
        refine k_M_look hC  wd_1152 (by decide) (Nat.le_of_ble_eq_true rfl) d_M_alone_68 ?_
        refine wi_nmM (fun s8 e_s8 => ?_)
        refine wi_goto hC 209 d_M_alone_71 (by decide) ?_
        exact Jt1 s8 (by subst e_s8; exact (Eq.trans eTt1 (Eq.trans (if_neg h2) (if_pos h3))))
    · skip
      refine wi_aload_n hC 0 d_M_alone_52 rfl rfl ?_
      refine k_M_change hC  wd_1153 (by decide) (Nat.le_of_ble_eq_true rfl) d_M_alone_53 ?_
      refine wi_nmM (fun s9 e_s9 => ?_)
      refine wi_goto hC 209 d_M_alone_56 (by decide) ?_
      exact Jt1 s9 (by subst e_s9; exact (Eq.trans eTt1 (if_pos h2)))
  · skip
    refine wi_aload_n hC 0 d_M_alone_7 rfl rfl ?_
    refine wi_aload_n hC 0 d_M_alone_8 rfl rfl ?_
    refine wg_M_i hC wd_1127 d_M_alone_9 ?_
    refine wi_inv (fun hv3 => ?_)
    refine k_M_want hC hv3.2.2.2.2.1 wd_1087 (by decide) (Nat.le_of_ble_eq_true rfl) d_M_alone_12 ?_
    refine wi_nmM (fun s10 e_s10 => ?_)
    refine wi_aload_n hC 0 d_M_alone_15 rfl rfl ?_
    refine wg_M_over hC wd_976 d_M_alone_16 ?_
    refine wi_z_eq (b := (gZ s10 9 30)) hC 23 d_M_alone_19 (by decide) (fun h10 => ?_) (fun h10 => ?_)
    · skip
      refine wi_aload_n hC 0 d_M_alone_23 rfl rfl ?_
      refine k_M_isFull hC  wd_1117 (by decide) (Nat.le_of_ble_eq_true rfl) d_M_alone_24 ?_
      obtain ⟨r2, e_r2⟩ : ∃ y : Bool × St, f_M_isFull s10 = y := ⟨_, rfl⟩
      rw [e_r2]
      refine wi_istore_n hC [(1, .int (bI r2.1)), (0, .ref 30)] d_M_alone_27 rfl (by decide) rfl ?_
      refine wi_aload_n hC 1 d_M_alone_28 rfl rfl ?_
      refine wi_aload_n hC 1 d_M_alone_29 rfl rfl ?_
      refine wg_M_i hC wd_1127 d_M_alone_30 ?_
      refine wi_inv (fun hv4 => ?_)
      refine k_M_takeX hC hv4.2.2.2.2.1 wd_1088 (by decide) (Nat.le_of_ble_eq_true rfl) d_M_alone_33 ?_
      refine wi_nmM (fun s11 e_s11 => ?_)
      refine wi_aload_n hC 1 d_M_alone_36 rfl rfl ?_
      refine wi_iload_n hC 0 d_M_alone_37 rfl rfl ?_
      refine k_M_push hC r2.1 rfl wd_1119 (by decide) (Nat.le_of_ble_eq_true rfl) d_M_alone_38 ?_
      refine wi_nmM (fun s12 e_s12 => ?_)
      refine wi_goto hC 209 d_M_alone_41 (by decide) ?_
      have hf : f_M_alone τ = s12 := by subst e_s12; subst e_s11; subst e_r2; subst e_s10; exact (Eq.trans (if_pos h1) (if_neg h10))
      exact wi_vret hC hr hk d_M_alone_209 rfl (congrArg (fun z => (σ, z, q)) hf).symm hQ
    · skip
      have hf : f_M_alone τ = s10 := by subst e_s10; exact (Eq.trans (if_pos h1) (if_pos h10))
      exact wi_vret hC hr hk d_M_alone_22 rfl (congrArg (fun z => (σ, z, q)) hf).symm hQ
theorem k_M_alone {p : Program} {l : Launch} {e : Env} {R : Room} {s : State} {m : MethodId} {args : Array Value} {below : List Frame} {meth : Method} {c : Code} {Q : State → Prop} {E : Ev} {nL pc index : Nat} {lv : List (Nat × Value)} {rest : List Value} {cc : ByteArray} {own : String} {σ τ : St} {q : Int64}  (hC : Cx p s m args c cc nL own E)   (hl : Cond.methodLink own index y_M_alone ∈ WL) (hR : 8 + 1 ≤ R.frames ∧ 8 + (2 + 11) + 224 ≤ R.locals) (hs8 : (rest.map fun v => v.category).sum ≤ 8) (d : decode cc pc = .ok (.invokevirtual index, 3)) (k : WS p l e R s m args below meth c Q E nL (pc + 3) lv rest (σ, (f_M_alone τ), q)) : WS p l e R s m args below meth c Q E nL pc lv (.ref 30 :: rest) (σ, τ, q) := by
  exact wi_callV hC (n := 0) (vs := []) (rest := rest) 30 10 (by decide) rfl rfl rfl (c_M_alone l E σ τ q  ) (by decide +kernel) wd_1154 wd_952 wd_1155 wd_1156 ⟨rfl, rfl⟩ rfl rfl hl hR hs8 d k
set_option maxRecDepth 100000 in
set_option maxHeartbeats 400000 in
theorem c_M_inRegisters (l : Launch) (E : Ev) (σ τ : St) (q : Int64)   : MF l y_M_inRegisters prog_12_method_39_code 1 none { frames := 9, cells := 0, slots := 0, locals := 245 } E [.ref 30] (σ, τ, q) none (σ, (f_M_inRegisters τ), q) := by
  refine MF_intro (lv0 := [(0, .ref 30)]) (by decide) wd_1159 (Nat.le_of_ble_eq_true rfl) rfl ?_
  intro p e s m args below meth c Q hC hr hk hQ
  replace hC : Cx p s m args c prog_12_method_39_code 1 "PartnerStackModel" E := hC
  refine wi_aload_n hC 0 d_M_inRegisters_0 rfl rfl ?_
  refine wg_M_op hC wd_1116 d_M_inRegisters_1 ?_
  refine wi_iconst hC 3 (by decide) d_M_inRegisters_4 ?_
  refine wi_icmp_ne hC 81 d_M_inRegisters_5 (by decide) (fun h1 => ?_) (fun h1 => ?_)
  · skip
    refine wi_aload_n hC 0 d_M_inRegisters_81 rfl rfl ?_
    refine wg_M_op hC wd_1116 d_M_inRegisters_82 ?_
    refine wi_iconst hC 5 (by decide) d_M_inRegisters_85 ?_
    refine wi_icmp_ne hC 94 d_M_inRegisters_86 (by decide) (fun h2 => ?_) (fun h2 => ?_)
    · skip
      refine wi_aload_n hC 0 d_M_inRegisters_94 rfl rfl ?_
      refine wg_M_op hC wd_1116 d_M_inRegisters_95 ?_
      refine wi_iconst hC 1 (by decide) d_M_inRegisters_98 ?_
      refine wi_icmp_ne hC 107 d_M_inRegisters_99 (by decide) (fun h3 => ?_) (fun h3 => ?_)
      · skip
        refine wi_aload_n hC 0 d_M_inRegisters_107 rfl rfl ?_
        refine wi_iconst hC 0 (by decide) d_M_inRegisters_108 ?_
        refine k_M_want hC (by unfold vp_in; decide) wd_1087 (by decide) (Nat.le_of_ble_eq_true rfl) d_M_inRegisters_109 ?_
        refine wi_nmM (fun s1 e_s1 => ?_)
        refine wi_aload_n hC 0 d_M_inRegisters_112 rfl rfl ?_
        refine wi_aload_n hC 0 d_M_inRegisters_113 rfl rfl ?_
        refine wg_M_i hC wd_1127 d_M_inRegisters_114 ?_
        refine wi_inv (fun hv1 => ?_)
        refine k_M_want hC hv1.2.2.2.2.1 wd_1087 (by decide) (Nat.le_of_ble_eq_true rfl) d_M_inRegisters_117 ?_
        refine wi_nmM (fun s2 e_s2 => ?_)
        refine wi_aload_n hC 0 d_M_inRegisters_120 rfl rfl ?_
        refine wg_M_over hC wd_976 d_M_inRegisters_121 ?_
        refine wi_z_eq (b := (gZ s2 9 30)) hC 128 d_M_inRegisters_124 (by decide) (fun h4 => ?_) (fun h4 => ?_)
        · skip
          refine wi_aload_n hC 0 d_M_inRegisters_128 rfl rfl ?_
          refine wi_aload_n hC 0 d_M_inRegisters_129 rfl rfl ?_
          refine wg_M_i hC wd_1127 d_M_inRegisters_130 ?_
          refine wi_inv (fun hv2 => ?_)
          refine k_M_takeX hC hv2.2.2.2.2.1 wd_1088 (by decide) (Nat.le_of_ble_eq_true rfl) d_M_inRegisters_133 ?_
          refine wi_nmM (fun s3 e_s3 => ?_)
          refine wi_aload_n hC 0 d_M_inRegisters_136 rfl rfl ?_
          refine wi_aload_n hC 0 d_M_inRegisters_137 rfl rfl ?_
          refine wg_M_op hC wd_1116 d_M_inRegisters_138 ?_
          obtain ⟨Tt1, eTt1⟩ : ∃ y : Int32, y = (
                  if gI s3 10 30 = 0 then
                    0
                  else
                    gI s3 12 30) := ⟨_, rfl⟩
          have Jt1 : ∀ (t1 : Int32), Tt1 = t1 → WS p l e { frames := 9, cells := 0, slots := 0, locals := 245 } s m args below meth c Q E 1 152 [(0, .ref 30)] [.int t1, .ref 30] (σ, s3, q) := by
            intro t1  e_t1
            rw [eTt1] at e_t1
            refine wi_inv (fun hv3 => ?_)
            refine k_M_reckon hC (by rw [← e_t1]; (repeat' split) <;> first | exact hv3.2.2.2.2.1 | exact (by unfold vp_in; decide)) wd_1123 (by decide) (Nat.le_of_ble_eq_true rfl) d_M_inRegisters_152 ?_
            refine wi_nmM (fun s4 e_s4 => ?_)
            refine wi_aload_n hC 0 d_M_inRegisters_155 rfl rfl ?_
            refine wg_M_op hC wd_1116 d_M_inRegisters_156 ?_
            refine wi_bipush hC 6 (by decide) d_M_inRegisters_159 ?_
            obtain ⟨Tt2, eTt2⟩ : ∃ y : St, y = (
                    if gI s4 10 30 = 6 then
                      if gZ s4 9 30 = true then
                        s4
                      else
                        let s5 : St := f_M_pop s4
                        s5
                    else
                      s4) := ⟨_, rfl⟩
            have Jt2 : ∀ (t2 : St), Tt2 = t2 → WS p l e { frames := 9, cells := 0, slots := 0, locals := 245 } s m args below meth c Q E 1 175 [(0, .ref 30)] [] (σ, t2, q) := by
              intro t2  e_t2
              rw [eTt2] at e_t2
              have hf : f_M_inRegisters τ = t2 := by subst e_t2; subst e_s4; subst e_t1; subst e_s3; subst e_s2; subst e_s1; exact (Eq.trans (if_neg h1) (Eq.trans (if_neg h2) (Eq.trans (if_neg h3) (if_neg h4))))
              exact wi_vret hC hr hk d_M_inRegisters_175 rfl (congrArg (fun z => (σ, z, q)) hf).symm hQ
            refine wi_icmp_ne hC 175 d_M_inRegisters_161 (by decide) (fun h6 => ?_) (fun h6 => ?_)
            · skip
              exact Jt2 s4 (by exact (Eq.trans eTt2 (if_neg h6)))
            · skip
              refine wi_aload_n hC 0 d_M_inRegisters_164 rfl rfl ?_
              refine wg_M_over hC wd_976 d_M_inRegisters_165 ?_
              refine wi_z_ne (b := (gZ s4 9 30)) hC 175 d_M_inRegisters_168 (by decide) (fun h7 => ?_) (fun h7 => ?_)
              · skip
                exact Jt2 s4 (by exact (Eq.trans eTt2 (Eq.trans (if_pos h6) (if_pos h7))))
              · skip
                refine wi_aload_n hC 0 d_M_inRegisters_171 rfl rfl ?_
                refine k_M_pop hC  wd_1074 (by decide) (Nat.le_of_ble_eq_true rfl) d_M_inRegisters_172 ?_
                refine wi_nmM (fun s5 e_s5 => ?_)
                exact Jt2 s5 (by subst e_s5; exact (Eq.trans eTt2 (Eq.trans (if_pos h6) (if_neg h7))))
          refine wi_if_ne hC 148 d_M_inRegisters_141 (by decide) (fun h5 => ?_) (fun h5 => ?_)
          · skip
            refine wi_aload_n hC 0 d_M_inRegisters_148 rfl rfl ?_
            refine wg_M_i hC wd_1127 d_M_inRegisters_149 ?_
            exact Jt1 (gI s3 12 30) (by exact (Eq.trans eTt1 (if_neg h5)))
          · skip
            refine wi_iconst hC 0 (by decide) d_M_inRegisters_144 ?_
            refine wi_goto hC 152 d_M_inRegisters_145 (by decide) ?_
            exact Jt1 0 (by exact (Eq.trans eTt1 (if_pos h5)))
        · skip
          have hf : f_M_inRegisters τ = s2 := by subst e_s2; subst e_s1; exact (Eq.trans (if_neg h1) (Eq.trans (if_neg h2) (Eq.trans (if_neg h3) (if_pos h4))))
          exact wi_vret hC hr hk d_M_inRegisters_127 rfl (congrArg (fun z => (σ, z, q)) hf).symm hQ
      · skip
        refine wi_aload_n hC 0 d_M_inRegisters_102 rfl rfl ?_
        refine k_M_alone hC  wd_1157 (by decide) (Nat.le_of_ble_eq_true rfl) d_M_inRegisters_103 ?_
        refine wi_nmM (fun s6 e_s6 => ?_)
        have hf : f_M_inRegisters τ = s6 := by subst e_s6; exact (Eq.trans (if_neg h1) (Eq.trans (if_neg h2) (if_pos h3)))
        exact wi_vret hC hr hk d_M_inRegisters_106 rfl (congrArg (fun z => (σ, z, q)) hf).symm hQ
    · skip
      refine wi_aload_n hC 0 d_M_inRegisters_89 rfl rfl ?_
      refine k_M_copy hC  wd_1158 (by decide) (Nat.le_of_ble_eq_true rfl) d_M_inRegisters_90 ?_
      refine wi_nmM (fun s7 e_s7 => ?_)
      have hf : f_M_inRegisters τ = s7 := by subst e_s7; exact (Eq.trans (if_neg h1) (if_pos h2))
      exact wi_vret hC hr hk d_M_inRegisters_93 rfl (congrArg (fun z => (σ, z, q)) hf).symm hQ
  · skip
    refine wi_aload_n hC 0 d_M_inRegisters_8 rfl rfl ?_
    refine wg_M_i hC wd_1127 d_M_inRegisters_9 ?_
    obtain ⟨Tt3, eTt3⟩ : ∃ y : St, y = (
            if gI τ 12 30 = 0 then
              f_M_inRegisters_b23 τ
            else
              if gI τ 12 30 = 1 then
                f_M_inRegisters_b23 τ
              else
                τ) := ⟨_, rfl⟩
    have Jt3 : ∀ (t3 : St), Tt3 = t3 → WS p l e { frames := 9, cells := 0, slots := 0, locals := 245 } s m args below meth c Q E 1 55 [(0, .ref 30)] [] (σ, t3, q) := by
      intro t3  e_t3
      rw [eTt3] at e_t3
      refine wi_aload_n hC 0 d_M_inRegisters_55 rfl rfl ?_
      refine wg_M_i hC wd_1127 d_M_inRegisters_56 ?_
      refine wi_iconst hC 2 (by decide) d_M_inRegisters_59 ?_
      obtain ⟨Tt4, eTt4⟩ : ∃ y : St, y = (
              if gI t3 12 30 = 2 then
                let s9 : St := sI t3 3 30 0
                s9
              else
                t3) := ⟨_, rfl⟩
      have Jt4 : ∀ (t4 : St), Tt4 = t4 → WS p l e { frames := 9, cells := 0, slots := 0, locals := 245 } s m args below meth c Q E 1 68 [(0, .ref 30)] [] (σ, t4, q) := by
        intro t4  e_t4
        rw [eTt4] at e_t4
        refine wi_aload_n hC 0 d_M_inRegisters_68 rfl rfl ?_
        refine wg_M_i hC wd_1127 d_M_inRegisters_69 ?_
        refine wi_iconst hC 3 (by decide) d_M_inRegisters_72 ?_
        obtain ⟨Tt5, eTt5⟩ : ∃ y : St, y = (
                if gI t4 12 30 = 3 then
                  let s10 : St := f_M_begin t4
                  s10
                else
                  t4) := ⟨_, rfl⟩
        have Jt5 : ∀ (t5 : St), Tt5 = t5 → WS p l e { frames := 9, cells := 0, slots := 0, locals := 245 } s m args below meth c Q E 1 80 [(0, .ref 30)] [] (σ, t5, q) := by
          intro t5  e_t5
          rw [eTt5] at e_t5
          have hf : f_M_inRegisters τ = t5 := by subst e_t5; subst e_t4; subst e_t3; exact (if_pos h1)
          exact wi_vret hC hr hk d_M_inRegisters_80 rfl (congrArg (fun z => (σ, z, q)) hf).symm hQ
        refine wi_icmp_ne hC 80 d_M_inRegisters_73 (by decide) (fun h11 => ?_) (fun h11 => ?_)
        · skip
          exact Jt5 t4 (by exact (Eq.trans eTt5 (if_neg h11)))
        · skip
          refine wi_aload_n hC 0 d_M_inRegisters_76 rfl rfl ?_
          refine k_M_begin hC  wd_1107 (by decide) (Nat.le_of_ble_eq_true rfl) d_M_inRegisters_77 ?_
          refine wi_nmM (fun s10 e_s10 => ?_)
          exact Jt5 s10 (by subst e_s10; exact (Eq.trans eTt5 (if_pos h11)))
      refine wi_icmp_ne hC 68 d_M_inRegisters_60 (by decide) (fun h10 => ?_) (fun h10 => ?_)
      · skip
        exact Jt4 t3 (by exact (Eq.trans eTt4 (if_neg h10)))
      · skip
        refine wi_aload_n hC 0 d_M_inRegisters_63 rfl rfl ?_
        refine wi_iconst hC 0 (by decide) d_M_inRegisters_64 ?_
        refine wp_M_told hC wd_944 d_M_inRegisters_65 ?_
        refine wi_nmM (fun s9 e_s9 => ?_)
        exact Jt4 s9 (by subst e_s9; exact (Eq.trans eTt4 (if_pos h10)))
    have B1 : Tt3 = f_M_inRegisters_b23 τ → WS p l e { frames := 9, cells := 0, slots := 0, locals := 245 } s m args below meth c Q E 1 23 [(0, .ref 30)] [] (σ, τ, q) := by
      intro hB1
      refine wi_aload_n hC 0 d_M_inRegisters_23 rfl rfl ?_
      refine wi_aload_n hC 0 d_M_inRegisters_24 rfl rfl ?_
      refine wg_M_control hC wd_943 d_M_inRegisters_25 ?_
      refine wi_aload_n hC 0 d_M_inRegisters_28 rfl rfl ?_
      refine wg_M_control hC wd_943 d_M_inRegisters_29 ?_
      refine wi_sipush hC 128 (by decide) d_M_inRegisters_32 ?_
      refine wi_idiv hC (by decide) d_M_inRegisters_35 ?_
      refine wi_iconst hC 2 (by decide) d_M_inRegisters_36 ?_
      refine wi_irem hC (by decide) d_M_inRegisters_37 ?_
      refine wi_sipush hC 128 (by decide) d_M_inRegisters_38 ?_
      refine wi_imul hC d_M_inRegisters_41 ?_
      refine wi_isub hC d_M_inRegisters_42 ?_
      refine wi_sipush hC 128 (by decide) d_M_inRegisters_43 ?_
      refine wi_aload_n hC 0 d_M_inRegisters_46 rfl rfl ?_
      refine wg_M_i hC wd_1127 d_M_inRegisters_47 ?_
      refine wi_imul hC d_M_inRegisters_50 ?_
      refine wi_iadd hC d_M_inRegisters_51 ?_
      refine wp_M_control hC wd_943 d_M_inRegisters_52 ?_
      refine wi_nmM (fun s8 e_s8 => ?_)
      exact Jt3 s8 (by subst e_s8; exact hB1)
    refine wi_if_eq hC 23 d_M_inRegisters_12 (by decide) (fun h8 => ?_) (fun h8 => ?_)
    · skip
      exact B1   (by exact (Eq.trans eTt3 (if_pos h8)))
    · skip
      refine wi_aload_n hC 0 d_M_inRegisters_15 rfl rfl ?_
      refine wg_M_i hC wd_1127 d_M_inRegisters_16 ?_
      refine wi_iconst hC 1 (by decide) d_M_inRegisters_19 ?_
      refine wi_icmp_ne hC 55 d_M_inRegisters_20 (by decide) (fun h9 => ?_) (fun h9 => ?_)
      · skip
        exact Jt3 τ (by exact (Eq.trans eTt3 (Eq.trans (if_neg h8) (if_neg h9))))
      · skip
        exact B1   (by exact (Eq.trans eTt3 (Eq.trans (if_neg h8) (if_pos h9))))
theorem k_M_inRegisters {p : Program} {l : Launch} {e : Env} {R : Room} {s : State} {m : MethodId} {args : Array Value} {below : List Frame} {meth : Method} {c : Code} {Q : State → Prop} {E : Ev} {nL pc index : Nat} {lv : List (Nat × Value)} {rest : List Value} {cc : ByteArray} {own : String} {σ τ : St} {q : Int64}  (hC : Cx p s m args c cc nL own E)   (hl : Cond.methodLink own index y_M_inRegisters ∈ WL) (hR : 9 + 1 ≤ R.frames ∧ 8 + (1 + 11) + 245 ≤ R.locals) (hs8 : (rest.map fun v => v.category).sum ≤ 8) (d : decode cc pc = .ok (.invokevirtual index, 3)) (k : WS p l e R s m args below meth c Q E nL (pc + 3) lv rest (σ, (f_M_inRegisters τ), q)) : WS p l e R s m args below meth c Q E nL pc lv (.ref 30 :: rest) (σ, τ, q) := by
  exact wi_callV hC (n := 0) (vs := []) (rest := rest) 30 10 (by decide) rfl rfl rfl (c_M_inRegisters l E σ τ q  ) (by decide +kernel) wd_1159 wd_952 wd_1160 wd_1161 ⟨rfl, rfl⟩ rfl rfl hl hR hs8 d k
set_option maxRecDepth 100000 in
set_option maxHeartbeats 400000 in
theorem c_M_execute (l : Launch) (E : Ev) (σ τ : St) (q : Int64) (a1 : Int32) (a2 : Int32) (a3 : Int32) (a4 : Int32) (hm : memb τ) : MF l y_M_execute prog_12_method_46_code 8 (some .int) { frames := 10, cells := 0, slots := 0, locals := 265 } E [.ref 30, .int a1, .int a2, .int a3, .int a4] (σ, τ, q) (some (.int ((f_M_execute τ a1 a2 a3 a4).1))) (σ, (f_M_execute τ a1 a2 a3 a4).2, q) := by
  refine MF_intro (lv0 := [(0, .ref 30), (1, .int a1), (2, .int a2), (3, .int a3), (4, .int a4)]) (by decide) wd_1165 (Nat.le_of_ble_eq_true rfl) rfl ?_
  intro p e s m args below meth c Q hC hr hk hQ
  replace hC : Cx p s m args c prog_12_method_46_code 8 "PartnerStackModel" E := hC
  refine wi_aload_n hC 0 d_M_execute_0 rfl rfl ?_
  refine wi_iload_n hC 1 d_M_execute_1 rfl rfl ?_
  obtain ⟨Tt1, eTt1⟩ : ∃ y : Bool, y = (
          if a1 < 0 then
            true
          else
            if 7 < a1 then
              true
            else
              if a2 < 0 then
                true
              else
                if 255 < a2 then
                  true
                else
                  if a3 < 0 then
                    true
                  else
                    if 1048575 < a3 then
                      true
                    else
                      if a4 < 0 then
                        true
                      else
                        if a4 ≤ 1048575 then
                          false
                        else
                          true) := ⟨_, rfl⟩
  have Jt1 : ∀ (t1 : Bool), Tt1 = t1 → WS p l e { frames := 10, cells := 0, slots := 0, locals := 265 } s m args below meth c Q E 8 51 [(0, .ref 30), (1, .int a1), (2, .int a2), (3, .int a3), (4, .int a4)] [.int (bI t1), .ref 30] (σ, τ, q) := by
    intro t1  e_t1
    rw [eTt1] at e_t1
    refine wp_M_code hC wd_955 d_M_execute_51 ?_
    refine wi_nmM (fun s1 e_s1 => ?_)
    refine wi_aload_n hC 0 d_M_execute_54 rfl rfl ?_
    refine wg_M_code hC wd_955 d_M_execute_55 ?_
    refine wi_if_le hC 63 d_M_execute_58 (by decide) (fun h9 => ?_) (fun h9 => ?_)
    · skip
      refine wi_aload_n hC 0 d_M_execute_63 rfl rfl ?_
      refine wi_iload_n hC 1 d_M_execute_64 rfl rfl ?_
      refine wi_iload_n hC 2 d_M_execute_65 rfl rfl ?_
      refine k_M_kindOf hC  wd_1031 (by decide) (Nat.le_of_ble_eq_true rfl) d_M_execute_66 ?_
      refine wi_nmI (fun v1 e_v1 => ?_)
      refine wi_istore hC [(5, .int v1), (0, .ref 30), (1, .int a1), (2, .int a2), (3, .int a3), (4, .int a4)] d_M_execute_69 (by decide) rfl ?_
      refine wi_iload hC 0 d_M_execute_71 rfl ?_
      refine wi_if_le hC 79 d_M_execute_73 (by decide) (fun h10 => ?_) (fun h10 => ?_)
      · skip
        refine wi_aload_n hC 1 d_M_execute_79 rfl rfl ?_
        refine wi_iload_n hC 2 d_M_execute_80 rfl rfl ?_
        refine wp_M_op hC (by have q1 := cd_le (e_s1.symm ▸ h9); rw [← e_t1] at q1; (repeat' split at q1) <;> first | (exact absurd q1 (by decide)) | exact vin_of (lo_n (by assumption)) (hi_m (B := 7) (by assumption) (by decide))) wd_1116 d_M_execute_81 ?_
        refine wi_nmM (fun s2 e_s2 => ?_)
        refine wi_aload_n hC 1 d_M_execute_84 rfl rfl ?_
        refine wi_iload_n hC 3 d_M_execute_85 rfl rfl ?_
        refine wi_bipush hC 8 (by decide) d_M_execute_86 ?_
        refine wi_idiv hC (by decide) d_M_execute_88 ?_
        refine wi_bipush hC 8 (by decide) d_M_execute_89 ?_
        refine wi_irem hC (by decide) d_M_execute_91 ?_
        refine wp_M_r hC (by have q1 := cd_le (e_s1.symm ▸ h9); rw [← e_t1] at q1; (repeat' split at q1) <;> first | (exact absurd q1 (by decide)) | exact rr8 (lo_n (x := a2) (by assumption))) wd_1071 d_M_execute_92 ?_
        refine wi_nmM (fun s3 e_s3 => ?_)
        refine wi_aload_n hC 1 d_M_execute_95 rfl rfl ?_
        refine wi_iload_n hC 3 d_M_execute_96 rfl rfl ?_
        refine wi_bipush hC 8 (by decide) d_M_execute_97 ?_
        refine wi_irem hC (by decide) d_M_execute_99 ?_
        refine wp_M_i hC (by have q1 := cd_le (e_s1.symm ▸ h9); rw [← e_t1] at q1; (repeat' split at q1) <;> first | (exact absurd q1 (by decide)) | exact ii8 (lo_n (x := a2) (by assumption))) wd_1127 d_M_execute_100 ?_
        refine wi_nmM (fun s4 e_s4 => ?_)
        refine wi_aload_n hC 1 d_M_execute_103 rfl rfl ?_
        refine wi_iconst hC 0 (by decide) d_M_execute_104 ?_
        refine wp_M_now hC wd_975 d_M_execute_105 ?_
        refine wi_nmM (fun s5 e_s5 => ?_)
        refine wi_aload_n hC 1 d_M_execute_108 rfl rfl ?_
        refine wi_iconst hC 0 (by decide) d_M_execute_109 ?_
        refine wp_M_over hC false rfl wd_976 d_M_execute_110 ?_
        refine wi_nmM (fun s6 e_s6 => ?_)
        refine wi_iload_n hC 3 d_M_execute_113 rfl rfl ?_
        refine wi_sipush hC 192 (by decide) d_M_execute_114 ?_
        obtain ⟨Tt2, eTt2⟩ : ∃ y : Bool, y = (
                if a2 < 192 then
                  false
                else
                  true) := ⟨_, rfl⟩
        have Jt2 : ∀ (t2 : Bool), Tt2 = t2 → WS p l e { frames := 10, cells := 0, slots := 0, locals := 265 } s m args below meth c Q E 8 125 [(5, .int v1), (0, .ref 30), (1, .int a1), (2, .int a2), (3, .int a3), (4, .int a4)] [.int (bI t2)] (σ, s6, q) := by
          intro t2  e_t2
          rw [eTt2] at e_t2
          refine wi_istore hC [(6, .int (bI t2)), (5, .int v1), (0, .ref 30), (1, .int a1), (2, .int a2), (3, .int a3), (4, .int a4)] d_M_execute_125 (by decide) rfl ?_
          refine wi_iload hC 0 d_M_execute_127 rfl ?_
          obtain ⟨Tt3, eTt3⟩ : ∃ y : Bool, y = (
                  if t2 = true then
                    if gI s6 10 30 = 3 then
                      false
                    else
                      true
                  else
                    if gI s6 10 30 = 1 then
                      if 3 < (gI s6 11 30) then
                        false
                      else
                        f_M_execute_b164 s6
                    else
                      f_M_execute_b164 s6) := ⟨_, rfl⟩
          have Jt3 : ∀ (t3 : Bool), Tt3 = t3 → WS p l e { frames := 10, cells := 0, slots := 0, locals := 265 } s m args below meth c Q E 8 203 [(6, .int (bI t2)), (5, .int v1), (0, .ref 30), (1, .int a1), (2, .int a2), (3, .int a3), (4, .int a4)] [.int (bI t3)] (σ, s6, q) := by
            intro t3  e_t3
            rw [eTt3] at e_t3
            refine wi_istore hC [(7, .int (bI t3)), (6, .int (bI t2)), (5, .int v1), (0, .ref 30), (1, .int a1), (2, .int a2), (3, .int a3), (4, .int a4)] d_M_execute_203 (by decide) rfl ?_
            refine wi_iload hC 0 d_M_execute_205 rfl ?_
            obtain ⟨Tt4, eTt4⟩ : ∃ y : St, y = (
                    if t3 = true then
                      let s7 : St := sI s6 5 30 ((256 * (gI s6 10 30)) + a2)
                      let s8 : St := sI s7 6 30 a3
                      let s9 : St := sI s8 7 30 a4
                      s9
                    else
                      s6) := ⟨_, rfl⟩
            have Jt4 : ∀ (t4 : St), Tt4 = t4 → WS p l e { frames := 10, cells := 0, slots := 0, locals := 265 } s m args below meth c Q E 8 235 [(7, .int (bI t3)), (6, .int (bI t2)), (5, .int v1), (0, .ref 30), (1, .int a1), (2, .int a2), (3, .int a3), (4, .int a4)] [] (σ, t4, q) := by
              intro t4  e_t4
              rw [eTt4] at e_t4
              refine wi_iload hC 1 d_M_execute_235 rfl ?_
              obtain ⟨Tt5, eTt5⟩ : ∃ y : St, y = (
                      if t2 = true then
                        let s11 : St := f_M_inRegisters t4
                        s11
                      else
                        let s10 : St := f_M_inMemory t4
                        s10) := ⟨_, rfl⟩
              have Jt5 : ∀ (t5 : St), Tt5 = t5 → WS p l e { frames := 10, cells := 0, slots := 0, locals := 265 } s m args below meth c Q E 8 251 [(7, .int (bI t3)), (6, .int (bI t2)), (5, .int v1), (0, .ref 30), (1, .int a1), (2, .int a2), (3, .int a3), (4, .int a4)] [] (σ, t5, q) := by
                intro t5  e_t5
                rw [eTt5] at e_t5
                refine wi_aload_n hC 3 d_M_execute_251 rfl rfl ?_
                refine wi_aload_n hC 3 d_M_execute_252 rfl rfl ?_
                refine wg_M_told hC wd_944 d_M_execute_253 ?_
                refine wi_aload_n hC 3 d_M_execute_256 rfl rfl ?_
                refine wg_M_now hC wd_975 d_M_execute_257 ?_
                refine wi_ior hC d_M_execute_260 ?_
                refine wp_M_told hC wd_944 d_M_execute_261 ?_
                refine wi_nmM (fun s12 e_s12 => ?_)
                refine wi_aload_n hC 3 d_M_execute_264 rfl rfl ?_
                refine wi_iconst hC 0 (by decide) d_M_execute_265 ?_
                refine wp_M_code hC wd_955 d_M_execute_266 ?_
                refine wi_nmM (fun s13 e_s13 => ?_)
                refine wi_iconst hC 0 (by decide) d_M_execute_269 ?_
                have hf : f_M_execute τ a1 a2 a3 a4 = (0, s13) := by subst e_s13; subst e_s12; subst e_t5; subst e_t4; subst e_t3; subst e_t2; subst e_s6; subst e_s5; subst e_s4; subst e_s3; subst e_s2; subst e_v1; subst e_s1; subst e_t1; exact (Eq.trans (if_pos h9) (if_pos h10))
                exact wi_iret hC hr hk d_M_execute_270 (congrArg (fun z => some (Value.int z.1)) hf) (congrArg (fun z => (σ, z.2, q)) hf).symm hQ
              refine wi_z_eq (b := t2) hC 247 d_M_execute_237 (by decide) (fun h21 => ?_) (fun h21 => ?_)
              · skip
                refine wi_aload_n hC 3 d_M_execute_247 rfl rfl ?_
                refine k_M_inMemory hC (by subst e_s6; subst e_s5; subst e_s4; subst e_s3; subst e_s2; subst e_s1; rw [← e_t4]; (repeat' split) <;> exact hm) wd_1163 (by decide) (Nat.le_of_ble_eq_true rfl) d_M_execute_248 ?_
                refine wi_nmM (fun s10 e_s10 => ?_)
                exact Jt5 s10 (by subst e_s10; exact (Eq.trans eTt5 (if_neg h21)))
              · skip
                refine wi_aload_n hC 3 d_M_execute_240 rfl rfl ?_
                refine k_M_inRegisters hC  wd_1164 (by decide) (Nat.le_of_ble_eq_true rfl) d_M_execute_241 ?_
                refine wi_nmM (fun s11 e_s11 => ?_)
                refine wi_goto hC 251 d_M_execute_244 (by decide) ?_
                exact Jt5 s11 (by subst e_s11; exact (Eq.trans eTt5 (if_pos h21)))
            refine wi_z_eq (b := t3) hC 235 d_M_execute_207 (by decide) (fun h20 => ?_) (fun h20 => ?_)
            · skip
              exact Jt4 s6 (by exact (Eq.trans eTt4 (if_neg h20)))
            · skip
              refine wi_aload_n hC 3 d_M_execute_210 rfl rfl ?_
              refine wi_sipush hC 256 (by decide) d_M_execute_211 ?_
              refine wi_aload_n hC 3 d_M_execute_214 rfl rfl ?_
              refine wg_M_op hC wd_1116 d_M_execute_215 ?_
              refine wi_imul hC d_M_execute_218 ?_
              refine wi_iload_n hC 5 d_M_execute_219 rfl rfl ?_
              refine wi_iadd hC d_M_execute_220 ?_
              refine wp_M_codeOf hC wd_948 d_M_execute_221 ?_
              refine wi_nmM (fun s7 e_s7 => ?_)
              refine wi_aload_n hC 3 d_M_execute_224 rfl rfl ?_
              refine wi_iload_n hC 6 d_M_execute_225 rfl rfl ?_
              refine wp_M_codePlace hC wd_949 d_M_execute_226 ?_
              refine wi_nmM (fun s8 e_s8 => ?_)
              refine wi_aload_n hC 3 d_M_execute_229 rfl rfl ?_
              refine wi_iload hC 7 d_M_execute_230 rfl ?_
              refine wp_M_operandPlace hC wd_950 d_M_execute_232 ?_
              refine wi_nmM (fun s9 e_s9 => ?_)
              exact Jt4 s9 (by subst e_s9; subst e_s8; subst e_s7; exact (Eq.trans eTt4 (if_pos h20)))
          refine wi_z_eq (b := t2) hC 148 d_M_execute_129 (by decide) (fun h12 => ?_) (fun h12 => ?_)
          · skip
            refine wi_aload_n hC 2 d_M_execute_148 rfl rfl ?_
            refine wg_M_op hC wd_1116 d_M_execute_149 ?_
            refine wi_iconst hC 1 (by decide) d_M_execute_152 ?_
            have B1 : Tt3 = f_M_execute_b164 s6 → WS p l e { frames := 10, cells := 0, slots := 0, locals := 265 } s m args below meth c Q E 8 164 [(6, .int (bI t2)), (5, .int v1), (0, .ref 30), (1, .int a1), (2, .int a2), (3, .int a3), (4, .int a4)] [] (σ, s6, q) := by
              intro hB1
              refine wi_aload_n hC 2 d_M_execute_164 rfl rfl ?_
              refine wg_M_op hC wd_1116 d_M_execute_165 ?_
              refine wi_iconst hC 5 (by decide) d_M_execute_168 ?_
              refine wi_icmp_ne hC 198 d_M_execute_169 (by decide) (fun h15 => ?_) (fun h15 => ?_)
              · skip
                refine wi_iconst hC 1 (by decide) d_M_execute_198 ?_
                refine wi_goto hC 203 d_M_execute_199 (by decide) ?_
                exact Jt3 true (by exact (Eq.trans hB1 (if_neg h15)))
              · skip
                refine wi_aload_n hC 2 d_M_execute_172 rfl rfl ?_
                refine wg_M_r hC wd_1071 d_M_execute_173 ?_
                refine wi_iconst hC 4 (by decide) d_M_execute_176 ?_
                refine wi_icmp_eq hC 202 d_M_execute_177 (by decide) (fun h16 => ?_) (fun h16 => ?_)
                · skip
                  refine wi_iconst hC 0 (by decide) d_M_execute_202 ?_
                  exact Jt3 false (by exact (Eq.trans hB1 (Eq.trans (if_pos h15) (if_pos h16))))
                · skip
                  refine wi_aload_n hC 2 d_M_execute_180 rfl rfl ?_
                  refine wg_M_r hC wd_1071 d_M_execute_181 ?_
                  refine wi_bipush hC 6 (by decide) d_M_execute_184 ?_
                  refine wi_icmp_eq hC 202 d_M_execute_186 (by decide) (fun h17 => ?_) (fun h17 => ?_)
                  · skip
                    refine wi_iconst hC 0 (by decide) d_M_execute_202 ?_
                    exact Jt3 false (by exact (Eq.trans hB1 (Eq.trans (if_pos h15) (Eq.trans (if_neg h16) (if_pos h17)))))
                  · skip
                    refine wi_aload_n hC 2 d_M_execute_189 rfl rfl ?_
                    refine wg_M_r hC wd_1071 d_M_execute_190 ?_
                    refine wi_bipush hC 7 (by decide) d_M_execute_193 ?_
                    refine wi_icmp_eq hC 202 d_M_execute_195 (by decide) (fun h18 => ?_) (fun h18 => ?_)
                    · skip
                      refine wi_iconst hC 0 (by decide) d_M_execute_202 ?_
                      exact Jt3 false (by exact (Eq.trans hB1 (Eq.trans (if_pos h15) (Eq.trans (if_neg h16) (Eq.trans (if_neg h17) (if_pos h18))))))
                    · skip
                      refine wi_iconst hC 1 (by decide) d_M_execute_198 ?_
                      refine wi_goto hC 203 d_M_execute_199 (by decide) ?_
                      exact Jt3 true (by exact (Eq.trans hB1 (Eq.trans (if_pos h15) (Eq.trans (if_neg h16) (Eq.trans (if_neg h17) (if_neg h18))))))
            refine wi_icmp_ne hC 164 d_M_execute_153 (by decide) (fun h13 => ?_) (fun h13 => ?_)
            · skip
              exact B1   (by exact (Eq.trans eTt3 (Eq.trans (if_neg h12) (if_neg h13))))
            · skip
              refine wi_aload_n hC 2 d_M_execute_156 rfl rfl ?_
              refine wg_M_r hC wd_1071 d_M_execute_157 ?_
              refine wi_iconst hC 3 (by decide) d_M_execute_160 ?_
              refine wi_icmp_gt hC 202 d_M_execute_161 (by decide) (fun h14 => ?_) (fun h14 => ?_)
              · skip
                refine wi_iconst hC 0 (by decide) d_M_execute_202 ?_
                exact Jt3 false (by exact (Eq.trans eTt3 (Eq.trans (if_neg h12) (Eq.trans (if_pos h13) (if_pos h14)))))
              · skip
                exact B1   (by exact (Eq.trans eTt3 (Eq.trans (if_neg h12) (Eq.trans (if_pos h13) (if_neg h14)))))
          · skip
            refine wi_aload_n hC 2 d_M_execute_132 rfl rfl ?_
            refine wg_M_op hC wd_1116 d_M_execute_133 ?_
            refine wi_iconst hC 3 (by decide) d_M_execute_136 ?_
            refine wi_icmp_eq hC 144 d_M_execute_137 (by decide) (fun h19 => ?_) (fun h19 => ?_)
            · skip
              refine wi_iconst hC 0 (by decide) d_M_execute_144 ?_
              refine wi_goto hC 203 d_M_execute_145 (by decide) ?_
              exact Jt3 false (by exact (Eq.trans eTt3 (Eq.trans (if_pos h12) (if_pos h19))))
            · skip
              refine wi_iconst hC 1 (by decide) d_M_execute_140 ?_
              refine wi_goto hC 203 d_M_execute_141 (by decide) ?_
              exact Jt3 true (by exact (Eq.trans eTt3 (Eq.trans (if_pos h12) (if_neg h19))))
        refine wi_icmp_lt hC 124 d_M_execute_117 (by decide) (fun h11 => ?_) (fun h11 => ?_)
        · skip
          refine wi_iconst hC 0 (by decide) d_M_execute_124 ?_
          exact Jt2 false (by exact (Eq.trans eTt2 (if_pos h11)))
        · skip
          refine wi_iconst hC 1 (by decide) d_M_execute_120 ?_
          refine wi_goto hC 125 d_M_execute_121 (by decide) ?_
          exact Jt2 true (by exact (Eq.trans eTt2 (if_neg h11)))
      · skip
        refine wi_iload hC 0 d_M_execute_76 rfl ?_
        have hf : f_M_execute τ a1 a2 a3 a4 = (v1, s1) := by subst e_v1; subst e_s1; subst e_t1; exact (Eq.trans (if_pos h9) (if_neg h10))
        exact wi_iret hC hr hk d_M_execute_78 (congrArg (fun z => some (Value.int z.1)) hf) (congrArg (fun z => (σ, z.2, q)) hf).symm hQ
    · skip
      refine wi_iconst hC 0 (by decide) d_M_execute_61 ?_
      have hf : f_M_execute τ a1 a2 a3 a4 = (0, s1) := by subst e_s1; subst e_t1; exact (if_neg h9)
      exact wi_iret hC hr hk d_M_execute_62 (congrArg (fun z => some (Value.int z.1)) hf) (congrArg (fun z => (σ, z.2, q)) hf).symm hQ
  refine wi_if_lt hC 46 d_M_execute_2 (by decide) (fun h1 => ?_) (fun h1 => ?_)
  · skip
    refine wi_iconst hC 1 (by decide) d_M_execute_46 ?_
    refine wi_goto hC 51 d_M_execute_47 (by decide) ?_
    exact Jt1 true (by exact (Eq.trans eTt1 (if_pos h1)))
  · skip
    refine wi_iload_n hC 1 d_M_execute_5 rfl rfl ?_
    refine wi_bipush hC 7 (by decide) d_M_execute_6 ?_
    refine wi_icmp_gt hC 46 d_M_execute_8 (by decide) (fun h2 => ?_) (fun h2 => ?_)
    · skip
      refine wi_iconst hC 1 (by decide) d_M_execute_46 ?_
      refine wi_goto hC 51 d_M_execute_47 (by decide) ?_
      exact Jt1 true (by exact (Eq.trans eTt1 (Eq.trans (if_neg h1) (if_pos h2))))
    · skip
      refine wi_iload_n hC 2 d_M_execute_11 rfl rfl ?_
      refine wi_if_lt hC 46 d_M_execute_12 (by decide) (fun h3 => ?_) (fun h3 => ?_)
      · skip
        refine wi_iconst hC 1 (by decide) d_M_execute_46 ?_
        refine wi_goto hC 51 d_M_execute_47 (by decide) ?_
        exact Jt1 true (by exact (Eq.trans eTt1 (Eq.trans (if_neg h1) (Eq.trans (if_neg h2) (if_pos h3)))))
      · skip
        refine wi_iload_n hC 2 d_M_execute_15 rfl rfl ?_
        refine wi_sipush hC 255 (by decide) d_M_execute_16 ?_
        refine wi_icmp_gt hC 46 d_M_execute_19 (by decide) (fun h4 => ?_) (fun h4 => ?_)
        · skip
          refine wi_iconst hC 1 (by decide) d_M_execute_46 ?_
          refine wi_goto hC 51 d_M_execute_47 (by decide) ?_
          exact Jt1 true (by exact (Eq.trans eTt1 (Eq.trans (if_neg h1) (Eq.trans (if_neg h2) (Eq.trans (if_neg h3) (if_pos h4))))))
        · skip
          refine wi_iload_n hC 3 d_M_execute_22 rfl rfl ?_
          refine wi_if_lt hC 46 d_M_execute_23 (by decide) (fun h5 => ?_) (fun h5 => ?_)
          · skip
            refine wi_iconst hC 1 (by decide) d_M_execute_46 ?_
            refine wi_goto hC 51 d_M_execute_47 (by decide) ?_
            exact Jt1 true (by exact (Eq.trans eTt1 (Eq.trans (if_neg h1) (Eq.trans (if_neg h2) (Eq.trans (if_neg h3) (Eq.trans (if_neg h4) (if_pos h5)))))))
          · skip
            refine wi_iload_n hC 3 d_M_execute_26 rfl rfl ?_
            refine wi_ldcw hC wd_1162 d_M_execute_27 ?_
            refine wi_icmp_gt hC 46 d_M_execute_30 (by decide) (fun h6 => ?_) (fun h6 => ?_)
            · skip
              refine wi_iconst hC 1 (by decide) d_M_execute_46 ?_
              refine wi_goto hC 51 d_M_execute_47 (by decide) ?_
              exact Jt1 true (by exact (Eq.trans eTt1 (Eq.trans (if_neg h1) (Eq.trans (if_neg h2) (Eq.trans (if_neg h3) (Eq.trans (if_neg h4) (Eq.trans (if_neg h5) (if_pos h6))))))))
            · skip
              refine wi_iload hC 4 d_M_execute_33 rfl ?_
              refine wi_if_lt hC 46 d_M_execute_35 (by decide) (fun h7 => ?_) (fun h7 => ?_)
              · skip
                refine wi_iconst hC 1 (by decide) d_M_execute_46 ?_
                refine wi_goto hC 51 d_M_execute_47 (by decide) ?_
                exact Jt1 true (by exact (Eq.trans eTt1 (Eq.trans (if_neg h1) (Eq.trans (if_neg h2) (Eq.trans (if_neg h3) (Eq.trans (if_neg h4) (Eq.trans (if_neg h5) (Eq.trans (if_neg h6) (if_pos h7)))))))))
              · skip
                refine wi_iload hC 4 d_M_execute_38 rfl ?_
                refine wi_ldcw hC wd_1162 d_M_execute_40 ?_
                refine wi_icmp_le hC 50 d_M_execute_43 (by decide) (fun h8 => ?_) (fun h8 => ?_)
                · skip
                  refine wi_iconst hC 0 (by decide) d_M_execute_50 ?_
                  exact Jt1 false (by exact (Eq.trans eTt1 (Eq.trans (if_neg h1) (Eq.trans (if_neg h2) (Eq.trans (if_neg h3) (Eq.trans (if_neg h4) (Eq.trans (if_neg h5) (Eq.trans (if_neg h6) (Eq.trans (if_neg h7) (if_pos h8))))))))))
                · skip
                  refine wi_iconst hC 1 (by decide) d_M_execute_46 ?_
                  refine wi_goto hC 51 d_M_execute_47 (by decide) ?_
                  exact Jt1 true (by exact (Eq.trans eTt1 (Eq.trans (if_neg h1) (Eq.trans (if_neg h2) (Eq.trans (if_neg h3) (Eq.trans (if_neg h4) (Eq.trans (if_neg h5) (Eq.trans (if_neg h6) (Eq.trans (if_neg h7) (if_neg h8))))))))))
theorem k_M_execute {p : Program} {l : Launch} {e : Env} {R : Room} {s : State} {m : MethodId} {args : Array Value} {below : List Frame} {meth : Method} {c : Code} {Q : State → Prop} {E : Ev} {nL pc index : Nat} {lv : List (Nat × Value)} {rest : List Value} {cc : ByteArray} {own : String} {σ τ : St} {q : Int64} {a1 : Int32} {a2 : Int32} {a3 : Int32} {a4 : Int32} (hC : Cx p s m args c cc nL own E)  (hm : memb τ) (hl : Cond.methodLink own index y_M_execute ∈ WL) (hR : 10 + 1 ≤ R.frames ∧ 8 + (8 + 11) + 265 ≤ R.locals) (hs8 : (rest.map fun v => v.category).sum ≤ 8) (d : decode cc pc = .ok (.invokevirtual index, 3)) (k : WS p l e R s m args below meth c Q E nL (pc + 3) lv ((.int ((f_M_execute τ a1 a2 a3 a4).1)) :: rest) (σ, (f_M_execute τ a1 a2 a3 a4).2, q)) : WS p l e R s m args below meth c Q E nL pc lv (.int a4 :: .int a3 :: .int a2 :: .int a1 :: .ref 30 :: rest) (σ, τ, q) := by
  exact wi_callV hC (n := 4) (vs := [.int a1, .int a2, .int a3, .int a4]) (rest := rest) 30 10 (by decide) rfl rfl rfl (c_M_execute l E σ τ q a1 a2 a3 a4 hm) (by decide +kernel) wd_1165 wd_952 wd_1166 wd_1167 ⟨rfl, rfl⟩ rfl rfl hl hR hs8 d k
set_option maxRecDepth 100000 in
set_option maxHeartbeats 400000 in
theorem c_M_word (l : Launch) (E : Ev) (σ τ : St) (q : Int64) (a1 : Int32)  : MF l y_M_word prog_12_method_47_code 2 (some .int) { frames := 1, cells := 0, slots := 0, locals := 25 } E [.ref 30, .int a1] (σ, τ, q) (some (.int ((f_M_word τ a1).1))) (σ, (f_M_word τ a1).2, q) := by
  refine MF_intro (lv0 := [(0, .ref 30), (1, .int a1)]) (by decide) wd_1168 (Nat.le_of_ble_eq_true rfl) rfl ?_
  intro p e s m args below meth c Q hC hr hk hQ
  replace hC : Cx p s m args c prog_12_method_47_code 2 "PartnerStackModel" E := hC
  refine wi_aload_n hC 0 d_M_word_0 rfl rfl ?_
  refine wi_iload_n hC 1 d_M_word_1 rfl rfl ?_
  obtain ⟨Tt1, eTt1⟩ : ∃ y : Bool, y = (
          if a1 < 0 then
            true
          else
            if a1 ≤ 7 then
              false
            else
              true) := ⟨_, rfl⟩
  have Jt1 : ∀ (t1 : Bool), Tt1 = t1 → WS p l e { frames := 1, cells := 0, slots := 0, locals := 25 } s m args below meth c Q E 2 16 [(0, .ref 30), (1, .int a1)] [.int (bI t1), .ref 30] (σ, τ, q) := by
    intro t1  e_t1
    rw [eTt1] at e_t1
    refine wp_M_code hC wd_955 d_M_word_16 ?_
    refine wi_nmM (fun s1 e_s1 => ?_)
    refine wi_aload_n hC 0 d_M_word_19 rfl rfl ?_
    refine wg_M_code hC wd_955 d_M_word_20 ?_
    refine wi_if_le hC 28 d_M_word_23 (by decide) (fun h3 => ?_) (fun h3 => ?_)
    · skip
      refine wi_iload_n hC 1 d_M_word_28 rfl rfl ?_
      refine wi_by (a1 = 0) (fun h4 => ?_) (fun h4 => ?_)
      · skip
        refine wi_tsIn hC 0 72 d_M_word_29 (by rw [h4]; decide) (by decide) rfl (by decide) ?_
        refine wi_aload_n hC 0 d_M_word_72 rfl rfl ?_
        refine wg_M_control hC wd_943 d_M_word_73 ?_
        have hf : f_M_word τ a1 = (gI s1 2 30, s1) := by subst e_s1; subst e_t1; exact (Eq.trans (if_pos h3) (if_pos h4))
        exact wi_iret hC hr hk d_M_word_76 (by rw [hf]) (by rw [hf]) hQ
      · skip
        refine wi_by (a1 = 1) (fun h5 => ?_) (fun h5 => ?_)
        · skip
          refine wi_tsIn hC 1 77 d_M_word_29 (by rw [h5]; decide) (by decide) rfl (by decide) ?_
          refine wi_aload_n hC 0 d_M_word_77 rfl rfl ?_
          refine k_M_status hC  wd_1096 (by decide) (Nat.le_of_ble_eq_true rfl) d_M_word_78 ?_
          have hf : f_M_word τ a1 = (f_M_status s1, s1) := by subst e_s1; subst e_t1; exact (Eq.trans (if_pos h3) (Eq.trans (if_neg h4) (if_pos h5)))
          exact wi_iret hC hr hk d_M_word_81 (by rw [hf]) (by rw [hf]) hQ
        · skip
          refine wi_by (a1 = 2) (fun h6 => ?_) (fun h6 => ?_)
          · skip
            refine wi_tsIn hC 2 82 d_M_word_29 (by rw [h6]; decide) (by decide) rfl (by decide) ?_
            refine wi_aload_n hC 0 d_M_word_82 rfl rfl ?_
            refine k_M_tags hC  wd_1097 (by decide) (Nat.le_of_ble_eq_true rfl) d_M_word_83 ?_
            have hf : f_M_word τ a1 = (f_M_tags s1, s1) := by subst e_s1; subst e_t1; exact (Eq.trans (if_pos h3) (Eq.trans (if_neg h4) (Eq.trans (if_neg h5) (if_pos h6))))
            exact wi_iret hC hr hk d_M_word_86 (by rw [hf]) (by rw [hf]) hQ
          · skip
            refine wi_by (a1 = 3) (fun h7 => ?_) (fun h7 => ?_)
            · skip
              refine wi_tsIn hC 3 87 d_M_word_29 (by rw [h7]; decide) (by decide) rfl (by decide) ?_
              refine wi_aload_n hC 0 d_M_word_87 rfl rfl ?_
              refine k_M_status hC  wd_1096 (by decide) (Nat.le_of_ble_eq_true rfl) d_M_word_88 ?_
              refine wi_sipush hC 128 (by decide) d_M_word_91 ?_
              refine wi_idiv hC (by decide) d_M_word_94 ?_
              refine wi_iconst hC 2 (by decide) d_M_word_95 ?_
              refine wi_irem hC (by decide) d_M_word_96 ?_
              refine wi_iconst hC 1 (by decide) d_M_word_97 ?_
              obtain ⟨Tt2, eTt2⟩ : ∃ y : Bool, y = (
                      if jrem ((f_M_status s1) / 128) 2 = 1 then
                        if jrem ((gI s1 2 30) / 128) 2 = 0 then
                          true
                        else
                          false
                      else
                        false) := ⟨_, rfl⟩
              have Jt2 : ∀ (t2 : Bool), Tt2 = t2 → WS p l e { frames := 1, cells := 0, slots := 0, locals := 25 } s m args below meth c Q E 2 119 [(0, .ref 30), (1, .int a1)] [.int (bI t2)] (σ, s1, q) := by
                intro t2  e_t2
                rw [eTt2] at e_t2
                have hf : f_M_word τ a1 = (bI t2, s1) := by subst e_t2; subst e_s1; subst e_t1; exact (Eq.trans (if_pos h3) (Eq.trans (if_neg h4) (Eq.trans (if_neg h5) (Eq.trans (if_neg h6) (if_pos h7)))))
                exact wi_iret hC hr hk d_M_word_119 (by rw [hf]) (by rw [hf]) hQ
              refine wi_icmp_ne hC 118 d_M_word_98 (by decide) (fun h8 => ?_) (fun h8 => ?_)
              · skip
                refine wi_iconst hC 0 (by decide) d_M_word_118 ?_
                exact Jt2 false (by exact (Eq.trans eTt2 (if_neg h8)))
              · skip
                refine wi_aload_n hC 0 d_M_word_101 rfl rfl ?_
                refine wg_M_control hC wd_943 d_M_word_102 ?_
                refine wi_sipush hC 128 (by decide) d_M_word_105 ?_
                refine wi_idiv hC (by decide) d_M_word_108 ?_
                refine wi_iconst hC 2 (by decide) d_M_word_109 ?_
                refine wi_irem hC (by decide) d_M_word_110 ?_
                refine wi_if_ne hC 118 d_M_word_111 (by decide) (fun h9 => ?_) (fun h9 => ?_)
                · skip
                  refine wi_iconst hC 0 (by decide) d_M_word_118 ?_
                  exact Jt2 false (by exact (Eq.trans eTt2 (Eq.trans (if_pos h8) (if_neg h9))))
                · skip
                  refine wi_iconst hC 1 (by decide) d_M_word_114 ?_
                  refine wi_goto hC 119 d_M_word_115 (by decide) ?_
                  exact Jt2 true (by exact (Eq.trans eTt2 (Eq.trans (if_pos h8) (if_pos h9))))
            · skip
              refine wi_by (a1 = 4) (fun h10 => ?_) (fun h10 => ?_)
              · skip
                refine wi_tsIn hC 4 120 d_M_word_29 (by rw [h10]; decide) (by decide) rfl (by decide) ?_
                refine wi_aload_n hC 0 d_M_word_120 rfl rfl ?_
                refine wg_M_codeOf hC wd_948 d_M_word_121 ?_
                have hf : f_M_word τ a1 = (gI s1 5 30, s1) := by subst e_s1; subst e_t1; exact (Eq.trans (if_pos h3) (Eq.trans (if_neg h4) (Eq.trans (if_neg h5) (Eq.trans (if_neg h6) (Eq.trans (if_neg h7) (if_pos h10))))))
                exact wi_iret hC hr hk d_M_word_124 (by rw [hf]) (by rw [hf]) hQ
              · skip
                refine wi_by (a1 = 5) (fun h11 => ?_) (fun h11 => ?_)
                · skip
                  refine wi_tsIn hC 5 125 d_M_word_29 (by rw [h11]; decide) (by decide) rfl (by decide) ?_
                  refine wi_aload_n hC 0 d_M_word_125 rfl rfl ?_
                  refine wg_M_codePlace hC wd_949 d_M_word_126 ?_
                  have hf : f_M_word τ a1 = (gI s1 6 30, s1) := by subst e_s1; subst e_t1; exact (Eq.trans (if_pos h3) (Eq.trans (if_neg h4) (Eq.trans (if_neg h5) (Eq.trans (if_neg h6) (Eq.trans (if_neg h7) (Eq.trans (if_neg h10) (if_pos h11)))))))
                  exact wi_iret hC hr hk d_M_word_129 (by rw [hf]) (by rw [hf]) hQ
                · skip
                  refine wi_by (a1 = 6) (fun h12 => ?_) (fun h12 => ?_)
                  · skip
                    refine wi_tsIn hC 6 130 d_M_word_29 (by rw [h12]; decide) (by decide) rfl (by decide) ?_
                    refine wi_aload_n hC 0 d_M_word_130 rfl rfl ?_
                    refine wg_M_operandPlace hC wd_950 d_M_word_131 ?_
                    have hf : f_M_word τ a1 = (gI s1 7 30, s1) := by subst e_s1; subst e_t1; exact (Eq.trans (if_pos h3) (Eq.trans (if_neg h4) (Eq.trans (if_neg h5) (Eq.trans (if_neg h6) (Eq.trans (if_neg h7) (Eq.trans (if_neg h10) (Eq.trans (if_neg h11) (if_pos h12))))))))
                    exact wi_iret hC hr hk d_M_word_134 (by rw [hf]) (by rw [hf]) hQ
                  · skip
                    refine wi_tsOut hC 135 d_M_word_29 (by have q0 := lv_neT h4 (a := 0) (by decide); have q1 := lv_neT h5 (a := 1) (by decide); have q2 := lv_neT h6 (a := 2) (by decide); have q3 := lv_neT h7 (a := 3) (by decide); have q4 := lv_neT h10 (a := 4) (by decide); have q5 := lv_neT h11 (a := 5) (by decide); have q6 := lv_neT h12 (a := 6) (by decide); omega) (by decide) ?_
                    refine wi_aload_n hC 0 d_M_word_135 rfl rfl ?_
                    refine wg_M_now hC wd_975 d_M_word_136 ?_
                    have hf : f_M_word τ a1 = (gI s1 8 30, s1) := by subst e_s1; subst e_t1; exact (Eq.trans (if_pos h3) (Eq.trans (if_neg h4) (Eq.trans (if_neg h5) (Eq.trans (if_neg h6) (Eq.trans (if_neg h7) (Eq.trans (if_neg h10) (Eq.trans (if_neg h11) (if_neg h12))))))))
                    exact wi_iret hC hr hk d_M_word_139 (by rw [hf]) (by rw [hf]) hQ
    · skip
      refine wi_iconst hC 0 (by decide) d_M_word_26 ?_
      have hf : f_M_word τ a1 = (0, s1) := by subst e_s1; subst e_t1; exact (if_neg h3)
      exact wi_iret hC hr hk d_M_word_27 (by rw [hf]) (by rw [hf]) hQ
  refine wi_if_lt hC 11 d_M_word_2 (by decide) (fun h1 => ?_) (fun h1 => ?_)
  · skip
    refine wi_iconst hC 1 (by decide) d_M_word_11 ?_
    refine wi_goto hC 16 d_M_word_12 (by decide) ?_
    exact Jt1 true (by exact (Eq.trans eTt1 (if_pos h1)))
  · skip
    refine wi_iload_n hC 1 d_M_word_5 rfl rfl ?_
    refine wi_bipush hC 7 (by decide) d_M_word_6 ?_
    refine wi_icmp_le hC 15 d_M_word_8 (by decide) (fun h2 => ?_) (fun h2 => ?_)
    · skip
      refine wi_iconst hC 0 (by decide) d_M_word_15 ?_
      exact Jt1 false (by exact (Eq.trans eTt1 (Eq.trans (if_neg h1) (if_pos h2))))
    · skip
      refine wi_iconst hC 1 (by decide) d_M_word_11 ?_
      refine wi_goto hC 16 d_M_word_12 (by decide) ?_
      exact Jt1 true (by exact (Eq.trans eTt1 (Eq.trans (if_neg h1) (if_neg h2))))
theorem k_M_word {p : Program} {l : Launch} {e : Env} {R : Room} {s : State} {m : MethodId} {args : Array Value} {below : List Frame} {meth : Method} {c : Code} {Q : State → Prop} {E : Ev} {nL pc index : Nat} {lv : List (Nat × Value)} {rest : List Value} {cc : ByteArray} {own : String} {σ τ : St} {q : Int64} {a1 : Int32} (hC : Cx p s m args c cc nL own E)   (hl : Cond.methodLink own index y_M_word ∈ WL) (hR : 1 + 1 ≤ R.frames ∧ 8 + (2 + 11) + 25 ≤ R.locals) (hs8 : (rest.map fun v => v.category).sum ≤ 8) (d : decode cc pc = .ok (.invokevirtual index, 3)) (k : WS p l e R s m args below meth c Q E nL (pc + 3) lv ((.int ((f_M_word τ a1).1)) :: rest) (σ, (f_M_word τ a1).2, q)) : WS p l e R s m args below meth c Q E nL pc lv (.int a1 :: .ref 30 :: rest) (σ, τ, q) := by
  exact wi_callV hC (n := 1) (vs := [.int a1]) (rest := rest) 30 10 (by decide) rfl rfl rfl (c_M_word l E σ τ q a1 ) (by decide +kernel) wd_1168 wd_952 wd_1169 wd_1170 ⟨rfl, rfl⟩ rfl rfl hl hR hs8 d k
set_option maxRecDepth 100000 in
set_option maxHeartbeats 400000 in
theorem c_M_part (l : Launch) (E : Ev) (σ τ : St) (q : Int64) (a1 : Int32) (a2 : Int32)  : MF l y_M_part prog_12_method_48_code 3 (some .int) { frames := 1, cells := 0, slots := 0, locals := 21 } E [.ref 30, .int a1, .int a2] (σ, τ, q) (some (.int ((f_M_part τ a1 a2).1))) (σ, (f_M_part τ a1 a2).2, q) := by
  refine MF_intro (lv0 := [(0, .ref 30), (1, .int a1), (2, .int a2)]) (by decide) wd_1171 (Nat.le_of_ble_eq_true rfl) rfl ?_
  intro p e s m args below meth c Q hC hr hk hQ
  replace hC : Cx p s m args c prog_12_method_48_code 3 "PartnerStackModel" E := hC
  refine wi_aload_n hC 0 d_M_part_0 rfl rfl ?_
  refine wi_iload_n hC 1 d_M_part_1 rfl rfl ?_
  obtain ⟨Tt1, eTt1⟩ : ∃ y : Int32, y = (
          if a1 < 0 then
            1
          else
            if a1 ≤ 7 then
              if a2 < 0 then
                2
              else
                if a2 ≤ 2 then
                  0
                else
                  2
            else
              1) := ⟨_, rfl⟩
  have Jt1 : ∀ (t1 : Int32), Tt1 = t1 → WS p l e { frames := 1, cells := 0, slots := 0, locals := 21 } s m args below meth c Q E 3 29 [(0, .ref 30), (1, .int a1), (2, .int a2)] [.int t1, .ref 30] (σ, τ, q) := by
    intro t1  e_t1
    rw [eTt1] at e_t1
    refine wp_M_code hC wd_955 d_M_part_29 ?_
    refine wi_nmM (fun s1 e_s1 => ?_)
    refine wi_aload_n hC 0 d_M_part_32 rfl rfl ?_
    refine wg_M_code hC wd_955 d_M_part_33 ?_
    refine wi_if_le hC 41 d_M_part_36 (by decide) (fun h5 => ?_) (fun h5 => ?_)
    · skip
      refine wi_iload_n hC 2 d_M_part_41 rfl rfl ?_
      obtain ⟨Tt2, eTt2⟩ : ∃ y : Int32, y = (
              if a2 = 0 then
                gI s1 101 (jat (f_M_st s1 a1))
              else
                if a2 = 1 then
                  f_M_high (gJ s1 102 (jat (f_M_st s1 a1)))
                else
                  Int64.toInt32 (gJ s1 102 (jat (f_M_st s1 a1)))) := ⟨_, rfl⟩
      have Jt2 : ∀ (t2 : Int32), Tt2 = t2 → WS p l e { frames := 1, cells := 0, slots := 0, locals := 21 } s m args below meth c Q E 3 90 [(0, .ref 30), (1, .int a1), (2, .int a2)] [.int t2] (σ, s1, q) := by
        intro t2  e_t2
        rw [eTt2] at e_t2
        have hf : f_M_part τ a1 a2 = (t2, s1) := by subst e_t2; subst e_s1; subst e_t1; exact (if_pos h5)
        exact wi_iret hC hr hk d_M_part_90 (congrArg (fun z => some (Value.int z.1)) hf) (congrArg (fun z => (σ, z.2, q)) hf).symm hQ
      refine wi_if_ne hC 58 d_M_part_42 (by decide) (fun h6 => ?_) (fun h6 => ?_)
      · skip
        refine wi_iload_n hC 2 d_M_part_58 rfl rfl ?_
        refine wi_iconst hC 1 (by decide) d_M_part_59 ?_
        refine wi_icmp_ne hC 79 d_M_part_60 (by decide) (fun h7 => ?_) (fun h7 => ?_)
        · skip
          refine wi_aload_n hC 0 d_M_part_79 rfl rfl ?_
          refine wg_M_fraction hC wd_985 d_M_part_80 ?_
          refine wi_aload_n hC 0 d_M_part_83 rfl rfl ?_
          refine wi_iload_n hC 1 d_M_part_84 rfl rfl ?_
          refine k_M_st hC  wd_989 (by decide) (Nat.le_of_ble_eq_true rfl) d_M_part_85 ?_
          refine wi_inv (fun hv1 => ?_)
          refine wa_ld33 hC (by have q1 := cd_l3 (e_s1.symm ▸ h5); rw [← e_t1] at q1; (repeat' split at q1) <;> first | (exact absurd q1 (by decide)) | exact st_in hv1.2.1 (vin_of (lo_n (by assumption)) (hi_q (B := 7) (by assumption) (by decide)))) d_M_part_88 ?_
          refine wi_l2i hC d_M_part_89 ?_
          exact Jt2 (Int64.toInt32 (gJ s1 102 (jat (f_M_st s1 a1)))) (by exact (Eq.trans eTt2 (Eq.trans (if_neg h6) (if_neg h7))))
        · skip
          refine wi_aload_n hC 0 d_M_part_63 rfl rfl ?_
          refine wg_M_fraction hC wd_985 d_M_part_64 ?_
          refine wi_aload_n hC 0 d_M_part_67 rfl rfl ?_
          refine wi_iload_n hC 1 d_M_part_68 rfl rfl ?_
          refine k_M_st hC  wd_989 (by decide) (Nat.le_of_ble_eq_true rfl) d_M_part_69 ?_
          refine wi_inv (fun hv2 => ?_)
          refine wa_ld33 hC (by have q1 := cd_l3 (e_s1.symm ▸ h5); rw [← e_t1] at q1; (repeat' split at q1) <;> first | (exact absurd q1 (by decide)) | exact st_in hv2.2.1 (vin_of (lo_n (by assumption)) (hi_q (B := 7) (by assumption) (by decide)))) d_M_part_72 ?_
          refine k_M_high hC  wd_1042 (by decide) (Nat.le_of_ble_eq_true rfl) d_M_part_73 ?_
          refine wi_goto hC 90 d_M_part_76 (by decide) ?_
          exact Jt2 (f_M_high (gJ s1 102 (jat (f_M_st s1 a1)))) (by exact (Eq.trans eTt2 (Eq.trans (if_neg h6) (if_pos h7))))
      · skip
        refine wi_aload_n hC 0 d_M_part_45 rfl rfl ?_
        refine wg_M_top hC wd_983 d_M_part_46 ?_
        refine wi_aload_n hC 0 d_M_part_49 rfl rfl ?_
        refine wi_iload_n hC 1 d_M_part_50 rfl rfl ?_
        refine k_M_st hC  wd_989 (by decide) (Nat.le_of_ble_eq_true rfl) d_M_part_51 ?_
        refine wi_inv (fun hv3 => ?_)
        refine wa_ld32 hC (by have q1 := cd_l3 (e_s1.symm ▸ h5); rw [← e_t1] at q1; (repeat' split at q1) <;> first | (exact absurd q1 (by decide)) | exact st_in hv3.2.1 (vin_of (lo_n (by assumption)) (hi_q (B := 7) (by assumption) (by decide)))) d_M_part_54 ?_
        refine wi_goto hC 90 d_M_part_55 (by decide) ?_
        exact Jt2 (gI s1 101 (jat (f_M_st s1 a1))) (by exact (Eq.trans eTt2 (if_pos h6)))
    · skip
      refine wi_iconst hC 0 (by decide) d_M_part_39 ?_
      have hf : f_M_part τ a1 a2 = (0, s1) := by subst e_s1; subst e_t1; exact (if_neg h5)
      exact wi_iret hC hr hk d_M_part_40 (congrArg (fun z => some (Value.int z.1)) hf) (congrArg (fun z => (σ, z.2, q)) hf).symm hQ
  refine wi_if_lt hC 11 d_M_part_2 (by decide) (fun h1 => ?_) (fun h1 => ?_)
  · skip
    refine wi_iconst hC 1 (by decide) d_M_part_11 ?_
    refine wi_goto hC 29 d_M_part_12 (by decide) ?_
    exact Jt1 1 (by exact (Eq.trans eTt1 (if_pos h1)))
  · skip
    refine wi_iload_n hC 1 d_M_part_5 rfl rfl ?_
    refine wi_bipush hC 7 (by decide) d_M_part_6 ?_
    refine wi_icmp_le hC 15 d_M_part_8 (by decide) (fun h2 => ?_) (fun h2 => ?_)
    · skip
      refine wi_iload_n hC 2 d_M_part_15 rfl rfl ?_
      refine wi_if_lt hC 24 d_M_part_16 (by decide) (fun h3 => ?_) (fun h3 => ?_)
      · skip
        refine wi_iconst hC 2 (by decide) d_M_part_24 ?_
        refine wi_goto hC 29 d_M_part_25 (by decide) ?_
        exact Jt1 2 (by exact (Eq.trans eTt1 (Eq.trans (if_neg h1) (Eq.trans (if_pos h2) (if_pos h3)))))
      · skip
        refine wi_iload_n hC 2 d_M_part_19 rfl rfl ?_
        refine wi_iconst hC 2 (by decide) d_M_part_20 ?_
        refine wi_icmp_le hC 28 d_M_part_21 (by decide) (fun h4 => ?_) (fun h4 => ?_)
        · skip
          refine wi_iconst hC 0 (by decide) d_M_part_28 ?_
          exact Jt1 0 (by exact (Eq.trans eTt1 (Eq.trans (if_neg h1) (Eq.trans (if_pos h2) (Eq.trans (if_neg h3) (if_pos h4))))))
        · skip
          refine wi_iconst hC 2 (by decide) d_M_part_24 ?_
          refine wi_goto hC 29 d_M_part_25 (by decide) ?_
          exact Jt1 2 (by exact (Eq.trans eTt1 (Eq.trans (if_neg h1) (Eq.trans (if_pos h2) (Eq.trans (if_neg h3) (if_neg h4))))))
    · skip
      refine wi_iconst hC 1 (by decide) d_M_part_11 ?_
      refine wi_goto hC 29 d_M_part_12 (by decide) ?_
      exact Jt1 1 (by exact (Eq.trans eTt1 (Eq.trans (if_neg h1) (if_neg h2))))
theorem k_M_part {p : Program} {l : Launch} {e : Env} {R : Room} {s : State} {m : MethodId} {args : Array Value} {below : List Frame} {meth : Method} {c : Code} {Q : State → Prop} {E : Ev} {nL pc index : Nat} {lv : List (Nat × Value)} {rest : List Value} {cc : ByteArray} {own : String} {σ τ : St} {q : Int64} {a1 : Int32} {a2 : Int32} (hC : Cx p s m args c cc nL own E)   (hl : Cond.methodLink own index y_M_part ∈ WL) (hR : 1 + 1 ≤ R.frames ∧ 8 + (3 + 11) + 21 ≤ R.locals) (hs8 : (rest.map fun v => v.category).sum ≤ 8) (d : decode cc pc = .ok (.invokevirtual index, 3)) (k : WS p l e R s m args below meth c Q E nL (pc + 3) lv ((.int ((f_M_part τ a1 a2).1)) :: rest) (σ, (f_M_part τ a1 a2).2, q)) : WS p l e R s m args below meth c Q E nL pc lv (.int a2 :: .int a1 :: .ref 30 :: rest) (σ, τ, q) := by
  exact wi_callV hC (n := 2) (vs := [.int a1, .int a2]) (rest := rest) 30 10 (by decide) rfl rfl rfl (c_M_part l E σ τ q a1 a2 ) (by decide +kernel) wd_1171 wd_952 wd_1172 wd_1173 ⟨rfl, rfl⟩ rfl rfl hl hR hs8 d k
