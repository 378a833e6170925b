set_option maxRecDepth 100000 in
set_option maxHeartbeats 400000 in
theorem c_PS_beInitial (l : Launch) (E : Ev) (σ τ : St) (q : Int64)   : MF l y_PS_beInitial prog_1_method_15_code 2 none { frames := 0, cells := 0, slots := 0, locals := 0 } E [.ref 0] (σ, τ, q) none ((f_PS_beInitial σ), τ, q) := by
  refine MF_intro (lv0 := [(0, .ref 0)]) (by decide) wd_394 (Nat.le_of_ble_eq_true rfl) rfl ?_
  intro p e s m args below meth c Q hC hr hk hQ
  replace hC : Cx p s m args c prog_1_method_15_code 2 "PartnerStack" E := hC
  refine wi_aload_n hC 0 d_PS_beInitial_0 rfl rfl ?_
  refine wg_PS_control hC wd_385 d_PS_beInitial_1 ?_
  refine wi_sipush hC 1023 (by decide) d_PS_beInitial_4 ?_
  refine wp_Ctl_setting hC wd_386 d_PS_beInitial_7 ?_
  refine wi_nmC (fun s1 e_s1 => ?_)
  refine wi_aload_n hC 0 d_PS_beInitial_10 rfl rfl ?_
  refine wi_iconst hC 0 (by decide) d_PS_beInitial_11 ?_
  refine wp_PS_toldBefore hC wd_387 d_PS_beInitial_12 ?_
  refine wi_nmC (fun s2 e_s2 => ?_)
  refine wi_aload_n hC 0 d_PS_beInitial_15 rfl rfl ?_
  refine wi_iconst hC 0 (by decide) d_PS_beInitial_16 ?_
  refine wp_PS_conditions hC wd_388 d_PS_beInitial_17 ?_
  refine wi_nmC (fun s3 e_s3 => ?_)
  refine wi_aload_n hC 0 d_PS_beInitial_20 rfl rfl ?_
  refine wi_iconst hC 0 (by decide) d_PS_beInitial_21 ?_
  refine wp_PS_top hC (by unfold vp_in; decide) wd_389 d_PS_beInitial_22 ?_
  refine wi_nmC (fun s4 e_s4 => ?_)
  refine wi_iconst hC 0 (by decide) d_PS_beInitial_25 ?_
  refine wi_istore_n hC [(1, .int 0), (0, .ref 0)] d_PS_beInitial_26 rfl (by decide) rfl ?_
  refine wi_loop ((b_PS_beInitial_27)) (fun t2 => 0 ≤ (t2.1).toInt) (fun t2 => [(1, .int t2.1), (0, .ref 0)]) (fun t2 => (t2.2, τ, q)) 46 ?_ (up_inv (b := (b_PS_beInitial_27)) (fun t => t.1) 8 0 st_b_PS_beInitial_27) (upf 8 0) (0, s4) (show (0 : Int) ≤ (0 : Int32).toInt by decide) (up_halt (b := (b_PS_beInitial_27)) (fun t => t.1) 8 st_b_PS_beInitial_27 (0, s4)) ?_
  · intro t2 hi_t2 hc_t2 hx_t2
    refine wi_iload_n hC 0 d_PS_beInitial_27 rfl rfl ?_
    refine wi_bipush hC 8 (by decide) d_PS_beInitial_28 ?_
    refine wi_icmp_ge hC 46 d_PS_beInitial_30 (by decide) (fun h1 => ?_) (fun h1 => ?_)
    · skip
      exact hx_t2 (t2.1, t2.2) (by exact (if_pos h1))
    · skip
      refine wi_aload_n hC 1 d_PS_beInitial_33 rfl rfl ?_
      refine wg_PS_empty hC wd_390 d_PS_beInitial_34 ?_
      refine wi_iload_n hC 0 d_PS_beInitial_37 rfl rfl ?_
      refine wi_iconst hC 1 (by decide) d_PS_beInitial_38 ?_
      refine wa_st29 hC true rfl (vin_of hi_t2 (hi_n h1 (by decide))) d_PS_beInitial_39 ?_
      refine wi_nmC (fun s5 e_s5 => ?_)
      obtain ⟨v1, e_v1⟩ : ∃ y : Int32, t2.1 + 1 = y := ⟨_, rfl⟩
      refine wi_iinc hC 0 v1 [(1, .int v1), (0, .ref 0)] d_PS_beInitial_40 rfl (by rw [← e_v1]; rfl) (by decide) rfl ?_
      refine wi_goto hC 27 d_PS_beInitial_43 (by decide) ?_
      exact hc_t2 (v1, s5) (by subst e_v1; subst e_s5; exact (if_neg h1))
  obtain ⟨t1, e_t1⟩ : ∃ y : Int32 × St, lpn ((b_PS_beInitial_27)) (upf 8 0) (0, s4) = y := ⟨_, rfl⟩
  rw [e_t1]
  refine wi_aload_n hC 1 d_PS_beInitial_46 rfl rfl ?_
  refine wi_iconst hC 0 (by decide) d_PS_beInitial_47 ?_
  refine wp_PS_keptCode hC wd_391 d_PS_beInitial_48 ?_
  refine wi_nmC (fun s6 e_s6 => ?_)
  refine wi_aload_n hC 1 d_PS_beInitial_51 rfl rfl ?_
  refine wi_iconst hC 0 (by decide) d_PS_beInitial_52 ?_
  refine wp_PS_keptCodePlace hC wd_392 d_PS_beInitial_53 ?_
  refine wi_nmC (fun s7 e_s7 => ?_)
  refine wi_aload_n hC 1 d_PS_beInitial_56 rfl rfl ?_
  refine wi_iconst hC 0 (by decide) d_PS_beInitial_57 ?_
  refine wp_PS_keptOperandPlace hC wd_393 d_PS_beInitial_58 ?_
  refine wi_nmC (fun s8 e_s8 => ?_)
  have hf : f_PS_beInitial σ = s8 := by subst e_s8; subst e_s7; subst e_s6; subst e_t1; subst e_s4; subst e_s3; subst e_s2; subst e_s1; exact rfl
  exact wi_vret hC hr hk d_PS_beInitial_61 rfl (congrArg (fun z => (z, τ, q)) hf).symm hQ
theorem k_PS_beInitial {p : Program} {l : Launch} {e : Env} {R : Room} {s : State} {m : MethodId} {args : Array Value} {below : List Frame} {meth : Method} {c : Code} {Q : State → Prop} {E : Ev} {nL pc index : Nat} {lv : List (Nat × Value)} {rest : List Value} {cc : ByteArray} {own : String} {σ τ : St} {q : Int64}  (hC : Cx p s m args c cc nL own E)   (hl : Cond.methodLink own index y_PS_beInitial ∈ WL) (hR : 0 + 1 ≤ R.frames ∧ 8 + (2 + 11) + 0 ≤ R.locals) (hs8 : (rest.map fun v => v.category).sum ≤ 8) (d : decode cc pc = .ok (.invokevirtual index, 3)) (k : WS p l e R s m args below meth c Q E nL (pc + 3) lv rest ((f_PS_beInitial σ), τ, q)) : WS p l e R s m args below meth c Q E nL pc lv (.ref 0 :: rest) (σ, τ, q) := by
  exact wi_callV hC (n := 0) (vs := []) (rest := rest) 0 0 (by decide) rfl rfl rfl (c_PS_beInitial l E σ τ q  ) (by decide +kernel) wd_394 wd_395 wd_396 wd_397 ⟨rfl, rfl⟩ rfl rfl hl hR hs8 d k
set_option maxRecDepth 100000 in
set_option maxHeartbeats 400000 in
theorem c_PS_isPattern (l : Launch) (E : Ev) (σ τ : St) (q : Int64) (a1 : Int32) (a2 : Int32)  : MF l y_PS_isPattern prog_1_method_8_code 2 (some .boolean) { frames := 0, cells := 0, slots := 0, locals := 0 } E [.int a1, .int a2] (σ, τ, q) (some (.int (bI (f_PS_isPattern a1 a2)))) (σ, τ, q) := by
  refine MF_intro (lv0 := [(0, .int a1), (1, .int a2)]) (by decide) wd_398 (Nat.le_of_ble_eq_true rfl) rfl ?_
  intro p e s m args below meth c Q hC hr hk hQ
  replace hC : Cx p s m args c prog_1_method_8_code 2 "PartnerStack" E := hC
  refine wi_iload_n hC 0 d_PS_isPattern_0 rfl rfl ?_
  obtain ⟨Tt1, eTt1⟩ : ∃ y : Bool, y = (
          if a1 < 0 then
            false
          else
            if 7 < a1 then
              false
            else
              if a2 < 0 then
                false
              else
                if 255 < a2 then
                  false
                else
                  true) := ⟨_, rfl⟩
  have Jt1 : ∀ (t1 : Bool), Tt1 = t1 → WS p l e { frames := 0, cells := 0, slots := 0, locals := 0 } s m args below meth c Q E 2 26 [(0, .int a1), (1, .int a2)] [.int (bI t1)] (σ, τ, q) := by
    intro t1  e_t1
    rw [eTt1] at e_t1
    have hf : f_PS_isPattern a1 a2 = t1 := by subst e_t1; exact rfl
    exact wi_zret hC hr hk d_PS_isPattern_26 rfl (congrArg (fun z => some (Value.int (bI z))) hf) rfl hQ
  refine wi_if_lt hC 25 d_PS_isPattern_1 (by decide) (fun h1 => ?_) (fun h1 => ?_)
  · skip
    refine wi_iconst hC 0 (by decide) d_PS_isPattern_25 ?_
    exact Jt1 false (by exact (Eq.trans eTt1 (if_pos h1)))
  · skip
    refine wi_iload_n hC 0 d_PS_isPattern_4 rfl rfl ?_
    refine wi_bipush hC 7 (by decide) d_PS_isPattern_5 ?_
    refine wi_icmp_gt hC 25 d_PS_isPattern_7 (by decide) (fun h2 => ?_) (fun h2 => ?_)
    · skip
      refine wi_iconst hC 0 (by decide) d_PS_isPattern_25 ?_
      exact Jt1 false (by exact (Eq.trans eTt1 (Eq.trans (if_neg h1) (if_pos h2))))
    · skip
      refine wi_iload_n hC 1 d_PS_isPattern_10 rfl rfl ?_
      refine wi_if_lt hC 25 d_PS_isPattern_11 (by decide) (fun h3 => ?_) (fun h3 => ?_)
      · skip
        refine wi_iconst hC 0 (by decide) d_PS_isPattern_25 ?_
        exact Jt1 false (by exact (Eq.trans eTt1 (Eq.trans (if_neg h1) (Eq.trans (if_neg h2) (if_pos h3)))))
      · skip
        refine wi_iload_n hC 1 d_PS_isPattern_14 rfl rfl ?_
        refine wi_sipush hC 255 (by decide) d_PS_isPattern_15 ?_
        refine wi_icmp_gt hC 25 d_PS_isPattern_18 (by decide) (fun h4 => ?_) (fun h4 => ?_)
        · skip
          refine wi_iconst hC 0 (by decide) d_PS_isPattern_25 ?_
          exact Jt1 false (by exact (Eq.trans eTt1 (Eq.trans (if_neg h1) (Eq.trans (if_neg h2) (Eq.trans (if_neg h3) (if_pos h4))))))
        · skip
          refine wi_iconst hC 1 (by decide) d_PS_isPattern_21 ?_
          refine wi_goto hC 26 d_PS_isPattern_22 (by decide) ?_
          exact Jt1 true (by exact (Eq.trans eTt1 (Eq.trans (if_neg h1) (Eq.trans (if_neg h2) (Eq.trans (if_neg h3) (if_neg h4))))))
theorem k_PS_isPattern {p : Program} {l : Launch} {e : Env} {R : Room} {s : State} {m : MethodId} {args : Array Value} {below : List Frame} {meth : Method} {c : Code} {Q : State → Prop} {E : Ev} {nL pc index : Nat} {lv : List (Nat × Value)} {rest : List Value} {cc : ByteArray} {own : String} {σ τ : St} {q : Int64} {a1 : Int32} {a2 : Int32} (hC : Cx p s m args c cc nL own E)   (hl : Cond.methodLink own index y_PS_isPattern ∈ WL) (hR : 0 + 1 ≤ R.frames ∧ 8 + (2 + 11) + 0 ≤ R.locals) (hs8 : (rest.map fun v => v.category).sum ≤ 8) (d : decode cc pc = .ok (.invokestatic index, 3)) (k : WS p l e R s m args below meth c Q E nL (pc + 3) lv ((.int (bI (f_PS_isPattern a1 a2))) :: rest) (σ, τ, q)) : WS p l e R s m args below meth c Q E nL pc lv (.int a2 :: .int a1 :: rest) (σ, τ, q) := by
  exact wi_callS hC (n := 2) (vs := [.int a1, .int a2]) (rest := rest) (c_PS_isPattern l E σ τ q a1 a2 ) (by decide +kernel) wd_398 wd_395 wd_399 ⟨rfl, rfl⟩ rfl rfl hl hR hs8 d k
set_option maxRecDepth 100000 in
set_option maxHeartbeats 400000 in
theorem c_PS_isPlace (l : Launch) (E : Ev) (σ τ : St) (q : Int64) (a1 : Int32)  : MF l y_PS_isPlace prog_1_method_9_code 1 (some .boolean) { frames := 0, cells := 0, slots := 0, locals := 0 } E [.int a1] (σ, τ, q) (some (.int (bI (f_PS_isPlace a1)))) (σ, τ, q) := by
  refine MF_intro (lv0 := [(0, .int a1)]) (by decide) wd_401 (Nat.le_of_ble_eq_true rfl) rfl ?_
  intro p e s m args below meth c Q hC hr hk hQ
  replace hC : Cx p s m args c prog_1_method_9_code 1 "PartnerStack" E := hC
  refine wi_iload_n hC 0 d_PS_isPlace_0 rfl rfl ?_
  obtain ⟨Tt1, eTt1⟩ : ∃ y : Bool, y = (
          if a1 < 0 then
            false
          else
            if 1048576 ≤ a1 then
              false
            else
              true) := ⟨_, rfl⟩
  have Jt1 : ∀ (t1 : Bool), Tt1 = t1 → WS p l e { frames := 0, cells := 0, slots := 0, locals := 0 } s m args below meth c Q E 1 15 [(0, .int a1)] [.int (bI t1)] (σ, τ, q) := by
    intro t1  e_t1
    rw [eTt1] at e_t1
    have hf : f_PS_isPlace a1 = t1 := by subst e_t1; exact rfl
    exact wi_zret hC hr hk d_PS_isPlace_15 rfl (congrArg (fun z => some (Value.int (bI z))) hf) rfl hQ
  refine wi_if_lt hC 14 d_PS_isPlace_1 (by decide) (fun h1 => ?_) (fun h1 => ?_)
  · skip
    refine wi_iconst hC 0 (by decide) d_PS_isPlace_14 ?_
    exact Jt1 false (by exact (Eq.trans eTt1 (if_pos h1)))
  · skip
    refine wi_iload_n hC 0 d_PS_isPlace_4 rfl rfl ?_
    refine wi_ldc hC wd_400 d_PS_isPlace_5 ?_
    refine wi_icmp_ge hC 14 d_PS_isPlace_7 (by decide) (fun h2 => ?_) (fun h2 => ?_)
    · skip
      refine wi_iconst hC 0 (by decide) d_PS_isPlace_14 ?_
      exact Jt1 false (by exact (Eq.trans eTt1 (Eq.trans (if_neg h1) (if_pos h2))))
    · skip
      refine wi_iconst hC 1 (by decide) d_PS_isPlace_10 ?_
      refine wi_goto hC 15 d_PS_isPlace_11 (by decide) ?_
      exact Jt1 true (by exact (Eq.trans eTt1 (Eq.trans (if_neg h1) (if_neg h2))))
theorem k_PS_isPlace {p : Program} {l : Launch} {e : Env} {R : Room} {s : State} {m : MethodId} {args : Array Value} {below : List Frame} {meth : Method} {c : Code} {Q : State → Prop} {E : Ev} {nL pc index : Nat} {lv : List (Nat × Value)} {rest : List Value} {cc : ByteArray} {own : String} {σ τ : St} {q : Int64} {a1 : Int32} (hC : Cx p s m args c cc nL own E)   (hl : Cond.methodLink own index y_PS_isPlace ∈ WL) (hR : 0 + 1 ≤ R.frames ∧ 8 + (1 + 11) + 0 ≤ R.locals) (hs8 : (rest.map fun v => v.category).sum ≤ 8) (d : decode cc pc = .ok (.invokestatic index, 3)) (k : WS p l e R s m args below meth c Q E nL (pc + 3) lv ((.int (bI (f_PS_isPlace a1))) :: rest) (σ, τ, q)) : WS p l e R s m args below meth c Q E nL pc lv (.int a1 :: rest) (σ, τ, q) := by
  exact wi_callS hC (n := 1) (vs := [.int a1]) (rest := rest) (c_PS_isPlace l E σ τ q a1 ) (by decide +kernel) wd_401 wd_395 wd_402 ⟨rfl, rfl⟩ rfl rfl hl hR hs8 d k
set_option maxRecDepth 100000 in
set_option maxHeartbeats 400000 in
theorem c_PS_sortOf (l : Launch) (E : Ev) (σ τ : St) (q : Int64) (a1 : Int32) (a2 : Int32) (hp : vp_in a1 8) : MF l y_PS_sortOf prog_1_method_10_code 4 (some .int) { frames := 0, cells := 0, slots := 0, locals := 0 } E [.int a1, .int a2] (σ, τ, q) (some (.int (f_PS_sortOf σ a1 a2))) (σ, τ, q) := by
  refine MF_intro (lv0 := [(0, .int a1), (1, .int a2)]) (by decide) wd_405 (Nat.le_of_ble_eq_true rfl) rfl ?_
  intro p e s m args below meth c Q hC hr hk hQ
  replace hC : Cx p s m args c prog_1_method_10_code 4 "PartnerStack" E := hC
  refine wi_iload_n hC 1 d_PS_sortOf_0 rfl rfl ?_
  refine wi_iconst hC 3 (by decide) d_PS_sortOf_1 ?_
  refine wi_ishr hC d_PS_sortOf_2 ?_
  refine wi_bipush hC 7 (by decide) d_PS_sortOf_3 ?_
  refine wi_iand hC d_PS_sortOf_5 ?_
  refine wi_nmI (fun v1 e_v1 => ?_)
  refine wi_istore_n hC [(2, .int v1), (0, .int a1), (1, .int a2)] d_PS_sortOf_6 rfl (by decide) rfl ?_
  refine wi_iload_n hC 2 d_PS_sortOf_7 rfl rfl ?_
  refine wi_bipush hC 7 (by decide) d_PS_sortOf_8 ?_
  refine wi_iand hC d_PS_sortOf_10 ?_
  refine wi_nmI (fun v2 e_v2 => ?_)
  refine wi_istore_n hC [(3, .int v2), (2, .int v1), (0, .int a1), (1, .int a2)] d_PS_sortOf_11 rfl (by decide) rfl ?_
  refine wi_iload_n hC 3 d_PS_sortOf_12 rfl rfl ?_
  refine wi_sipush hC 192 (by decide) d_PS_sortOf_13 ?_
  refine wi_icmp_ge hC 38 d_PS_sortOf_16 (by decide) (fun h1 => ?_) (fun h1 => ?_)
  · skip
    refine wi_iload_n hC 2 d_PS_sortOf_38 rfl rfl ?_
    refine wi_iconst hC 1 (by decide) d_PS_sortOf_39 ?_
    have B2 : f_PS_sortOf σ a1 a2 = f_PS_sortOf_b67 a1 v1 v2 → WS p l e { frames := 0, cells := 0, slots := 0, locals := 0 } s m args below meth c Q E 4 67 [(3, .int v2), (2, .int v1), (0, .int a1), (1, .int a2)] [] (σ, τ, q) := by
      intro hB2
      refine wst_get51 hC wd_403 d_PS_sortOf_67 ?_
      refine wi_iload_n hC 2 d_PS_sortOf_70 rfl rfl ?_
      refine wi_bipush hC 8 (by decide) d_PS_sortOf_71 ?_
      refine wi_imul hC d_PS_sortOf_73 ?_
      refine wi_iload_n hC 1 d_PS_sortOf_74 rfl rfl ?_
      refine wi_iadd hC d_PS_sortOf_75 ?_
      refine wst_ld51 hC (ix88 hp (by rw [← e_v1]; exact (pk_andIn _ 3 rfl (by decide)))) d_PS_sortOf_76 ?_
      refine wi_iload_n hC 0 d_PS_sortOf_77 rfl rfl ?_
      refine wi_ishr hC d_PS_sortOf_78 ?_
      refine wi_iconst hC 1 (by decide) d_PS_sortOf_79 ?_
      refine wi_iand hC d_PS_sortOf_80 ?_
      obtain ⟨Tt1, eTt1⟩ : ∃ y : Bool, y = (
              if (jshr (tb1.getD (jat ((a1 * 8) + v1)) 0) v2) &&& 1 = 0 then
                true
              else
                false) := ⟨_, rfl⟩
      have Jt1 : ∀ (t1 : Bool), Tt1 = t1 → WS p l e { frames := 0, cells := 0, slots := 0, locals := 0 } s m args below meth c Q E 4 89 [(3, .int v2), (2, .int v1), (0, .int a1), (1, .int a2)] [.int (bI t1)] (σ, τ, q) := by
        intro t1  e_t1
        rw [eTt1] at e_t1
        have hf : f_PS_sortOf σ a1 a2 = bI t1 := by subst e_t1; exact hB2
        exact wi_iret hC hr hk d_PS_sortOf_89 (congrArg (fun z => some (Value.int z)) hf) rfl hQ
      refine wi_if_ne hC 88 d_PS_sortOf_81 (by decide) (fun h7 => ?_) (fun h7 => ?_)
      · skip
        refine wi_iconst hC 0 (by decide) d_PS_sortOf_88 ?_
        exact Jt1 false (by exact (Eq.trans eTt1 (if_neg h7)))
      · skip
        refine wi_iconst hC 1 (by decide) d_PS_sortOf_84 ?_
        refine wi_goto hC 89 d_PS_sortOf_85 (by decide) ?_
        exact Jt1 true (by exact (Eq.trans eTt1 (if_pos h7)))
    refine wi_icmp_ne hC 67 d_PS_sortOf_40 (by decide) (fun h2 => ?_) (fun h2 => ?_)
    · skip
      exact B2   (by subst e_v2; subst e_v1; exact (Eq.trans (if_pos h1) (if_neg h2)))
    · skip
      refine wi_iload_n hC 1 d_PS_sortOf_43 rfl rfl ?_
      refine wi_bipush hC 6 (by decide) d_PS_sortOf_44 ?_
      have B1 : f_PS_sortOf σ a1 a2 = f_PS_sortOf_b54 a1 v1 v2 → WS p l e { frames := 0, cells := 0, slots := 0, locals := 0 } s m args below meth c Q E 4 54 [(3, .int v2), (2, .int v1), (0, .int a1), (1, .int a2)] [] (σ, τ, q) := by
        intro hB1
        refine wi_iload_n hC 1 d_PS_sortOf_54 rfl rfl ?_
        refine wi_bipush hC 7 (by decide) d_PS_sortOf_55 ?_
        refine wi_icmp_ne hC 67 d_PS_sortOf_57 (by decide) (fun h5 => ?_) (fun h5 => ?_)
        · skip
          exact B2   (by exact (Eq.trans hB1 (if_neg h5)))
        · skip
          refine wi_iload_n hC 0 d_PS_sortOf_60 rfl rfl ?_
          refine wi_iconst hC 1 (by decide) d_PS_sortOf_61 ?_
          refine wi_icmp_ne hC 67 d_PS_sortOf_62 (by decide) (fun h6 => ?_) (fun h6 => ?_)
          · skip
            exact B2   (by exact (Eq.trans hB1 (Eq.trans (if_pos h5) (if_neg h6))))
          · skip
            refine wi_iconst hC 2 (by decide) d_PS_sortOf_65 ?_
            have hf : f_PS_sortOf σ a1 a2 = 2 := by exact (Eq.trans hB1 (Eq.trans (if_pos h5) (if_pos h6)))
            exact wi_iret hC hr hk d_PS_sortOf_66 (congrArg (fun z => some (Value.int z)) hf) rfl hQ
      refine wi_icmp_ne hC 54 d_PS_sortOf_46 (by decide) (fun h3 => ?_) (fun h3 => ?_)
      · skip
        exact B1   (by subst e_v2; subst e_v1; exact (Eq.trans (if_pos h1) (Eq.trans (if_pos h2) (if_neg h3))))
      · skip
        refine wi_iload_n hC 0 d_PS_sortOf_49 rfl rfl ?_
        refine wi_iconst hC 4 (by decide) d_PS_sortOf_50 ?_
        refine wi_icmp_lt hC 65 d_PS_sortOf_51 (by decide) (fun h4 => ?_) (fun h4 => ?_)
        · skip
          refine wi_iconst hC 2 (by decide) d_PS_sortOf_65 ?_
          have hf : f_PS_sortOf σ a1 a2 = 2 := by subst e_v2; subst e_v1; exact (Eq.trans (if_pos h1) (Eq.trans (if_pos h2) (Eq.trans (if_pos h3) (if_pos h4))))
          exact wi_iret hC hr hk d_PS_sortOf_66 (congrArg (fun z => some (Value.int z)) hf) rfl hQ
        · skip
          exact B1   (by subst e_v2; subst e_v1; exact (Eq.trans (if_pos h1) (Eq.trans (if_pos h2) (Eq.trans (if_pos h3) (if_neg h4)))))
  · skip
    refine wst_get50 hC wd_404 d_PS_sortOf_19 ?_
    refine wi_iload_n hC 2 d_PS_sortOf_22 rfl rfl ?_
    refine wi_bipush hC 8 (by decide) d_PS_sortOf_23 ?_
    refine wi_imul hC d_PS_sortOf_25 ?_
    refine wi_iload_n hC 1 d_PS_sortOf_26 rfl rfl ?_
    refine wi_iadd hC d_PS_sortOf_27 ?_
    refine wst_ld50 hC (ix88 hp (by rw [← e_v1]; exact (pk_andIn _ 3 rfl (by decide)))) d_PS_sortOf_28 ?_
    obtain ⟨Tt2, eTt2⟩ : ∃ y : Bool, y = (
            if tb0.getD (jat ((a1 * 8) + v1)) 0 = 0 then
              true
            else
              false) := ⟨_, rfl⟩
    have Jt2 : ∀ (t2 : Bool), Tt2 = t2 → WS p l e { frames := 0, cells := 0, slots := 0, locals := 0 } s m args below meth c Q E 4 37 [(3, .int v2), (2, .int v1), (0, .int a1), (1, .int a2)] [.int (bI t2)] (σ, τ, q) := by
      intro t2  e_t2
      rw [eTt2] at e_t2
      have hf : f_PS_sortOf σ a1 a2 = bI t2 := by subst e_t2; subst e_v2; subst e_v1; exact (if_neg h1)
      exact wi_iret hC hr hk d_PS_sortOf_37 (congrArg (fun z => some (Value.int z)) hf) rfl hQ
    refine wi_if_ne hC 36 d_PS_sortOf_29 (by decide) (fun h8 => ?_) (fun h8 => ?_)
    · skip
      refine wi_iconst hC 0 (by decide) d_PS_sortOf_36 ?_
      exact Jt2 false (by exact (Eq.trans eTt2 (if_neg h8)))
    · skip
      refine wi_iconst hC 1 (by decide) d_PS_sortOf_32 ?_
      refine wi_goto hC 37 d_PS_sortOf_33 (by decide) ?_
      exact Jt2 true (by exact (Eq.trans eTt2 (if_pos h8)))
theorem k_PS_sortOf {p : Program} {l : Launch} {e : Env} {R : Room} {s : State} {m : MethodId} {args : Array Value} {below : List Frame} {meth : Method} {c : Code} {Q : State → Prop} {E : Ev} {nL pc index : Nat} {lv : List (Nat × Value)} {rest : List Value} {cc : ByteArray} {own : String} {σ τ : St} {q : Int64} {a1 : Int32} {a2 : Int32} (hC : Cx p s m args c cc nL own E)  (hp : vp_in a1 8) (hl : Cond.methodLink own index y_PS_sortOf ∈ WL) (hR : 0 + 1 ≤ R.frames ∧ 8 + (4 + 11) + 0 ≤ R.locals) (hs8 : (rest.map fun v => v.category).sum ≤ 8) (d : decode cc pc = .ok (.invokestatic index, 3)) (k : WS p l e R s m args below meth c Q E nL (pc + 3) lv ((.int (f_PS_sortOf σ a1 a2)) :: rest) (σ, τ, q)) : WS p l e R s m args below meth c Q E nL pc lv (.int a2 :: .int a1 :: rest) (σ, τ, q) := by
  exact wi_callS hC (n := 2) (vs := [.int a1, .int a2]) (rest := rest) (c_PS_sortOf l E σ τ q a1 a2 hp) (by decide +kernel) wd_405 wd_395 wd_406 ⟨rfl, rfl⟩ rfl rfl hl hR hs8 d k
set_option maxRecDepth 100000 in
set_option maxHeartbeats 400000 in
theorem c_PS_readEnvironment (l : Launch) (E : Ev) (σ τ : St) (q : Int64)   : MF l y_PS_readEnvironment prog_1_method_37_code 4 none { frames := 1, cells := 0, slots := 0, locals := 25 } E [.ref 0] (σ, τ, q) none ((f_PS_readEnvironment σ), τ, q) := by
  refine MF_intro (lv0 := [(0, .ref 0)]) (by decide) wd_409 (Nat.le_of_ble_eq_true rfl) rfl ?_
  intro p e s m args below meth c Q hC hr hk hQ
  replace hC : Cx p s m args c prog_1_method_37_code 4 "PartnerStack" E := hC
  refine wi_aload_n hC 0 d_PS_readEnvironment_0 rfl rfl ?_
  refine wg_PS_control hC wd_385 d_PS_readEnvironment_1 ?_
  refine wi_aload_n hC 0 d_PS_readEnvironment_4 rfl rfl ?_
  refine wg_PS_row hC wd_407 d_PS_readEnvironment_5 ?_
  refine wi_iconst hC 0 (by decide) d_PS_readEnvironment_8 ?_
  refine wi_iconst hC 2 (by decide) d_PS_readEnvironment_9 ?_
  refine k_Mem_bits hC (by decide) wd_408 (by decide) (Nat.le_of_ble_eq_true rfl) d_PS_readEnvironment_10 ?_
  refine wi_l2i hC d_PS_readEnvironment_13 ?_
  refine wp_Ctl_setting hC wd_386 d_PS_readEnvironment_14 ?_
  refine wi_nmC (fun s1 e_s1 => ?_)
  refine wi_aload_n hC 0 d_PS_readEnvironment_17 rfl rfl ?_
  refine wg_PS_row hC wd_407 d_PS_readEnvironment_18 ?_
  refine wi_iconst hC 2 (by decide) d_PS_readEnvironment_21 ?_
  refine wi_iconst hC 2 (by decide) d_PS_readEnvironment_22 ?_
  refine k_Mem_bits hC (by decide) wd_408 (by decide) (Nat.le_of_ble_eq_true rfl) d_PS_readEnvironment_23 ?_
  refine wi_l2i hC d_PS_readEnvironment_26 ?_
  refine wi_nmI (fun v1 e_v1 => ?_)
  refine wi_istore_n hC [(1, .int v1), (0, .ref 0)] d_PS_readEnvironment_27 rfl (by decide) rfl ?_
  refine wi_aload_n hC 1 d_PS_readEnvironment_28 rfl rfl ?_
  refine wi_iload_n hC 0 d_PS_readEnvironment_29 rfl rfl ?_
  refine wi_bipush hC 63 (by decide) d_PS_readEnvironment_30 ?_
  refine wi_iand hC d_PS_readEnvironment_32 ?_
  refine wp_PS_toldBefore hC wd_387 d_PS_readEnvironment_33 ?_
  refine wi_nmC (fun s2 e_s2 => ?_)
  refine wi_aload_n hC 1 d_PS_readEnvironment_36 rfl rfl ?_
  refine wi_iload_n hC 0 d_PS_readEnvironment_37 rfl rfl ?_
  refine wi_sipush hC 18176 (by decide) d_PS_readEnvironment_38 ?_
  refine wi_iand hC d_PS_readEnvironment_41 ?_
  refine wp_PS_conditions hC wd_388 d_PS_readEnvironment_42 ?_
  refine wi_nmC (fun s3 e_s3 => ?_)
  refine wi_aload_n hC 1 d_PS_readEnvironment_45 rfl rfl ?_
  refine wi_iload_n hC 0 d_PS_readEnvironment_46 rfl rfl ?_
  refine wi_bipush hC 11 (by decide) d_PS_readEnvironment_47 ?_
  refine wi_ishr hC d_PS_readEnvironment_49 ?_
  refine wi_bipush hC 7 (by decide) d_PS_readEnvironment_50 ?_
  refine wi_iand hC d_PS_readEnvironment_52 ?_
  refine wp_PS_top hC (pk_andIn _ 3 rfl (by decide)) wd_389 d_PS_readEnvironment_53 ?_
  refine wi_nmC (fun s4 e_s4 => ?_)
  refine wi_aload_n hC 1 d_PS_readEnvironment_56 rfl rfl ?_
  refine wg_PS_row hC wd_407 d_PS_readEnvironment_57 ?_
  refine wi_iconst hC 4 (by decide) d_PS_readEnvironment_60 ?_
  refine wi_iconst hC 2 (by decide) d_PS_readEnvironment_61 ?_
  refine k_Mem_bits hC (by decide) wd_408 (by decide) (Nat.le_of_ble_eq_true rfl) d_PS_readEnvironment_62 ?_
  refine wi_l2i hC d_PS_readEnvironment_65 ?_
  refine wi_nmI (fun v2 e_v2 => ?_)
  refine wi_istore_n hC [(2, .int v2), (1, .int v1), (0, .ref 0)] d_PS_readEnvironment_66 rfl (by decide) rfl ?_
  refine wi_iconst hC 0 (by decide) d_PS_readEnvironment_67 ?_
  refine wi_istore_n hC [(3, .int 0), (2, .int v2), (1, .int v1), (0, .ref 0)] d_PS_readEnvironment_68 rfl (by decide) rfl ?_
  refine wi_loop ((b_PS_readEnvironment_69 v2)) (fun t2 => 0 ≤ (t2.1).toInt) (fun t2 => [(3, .int t2.1), (2, .int v2), (1, .int v1), (0, .ref 0)]) (fun t2 => (t2.2, τ, q)) 103 ?_ (up_inv (b := (b_PS_readEnvironment_69 v2)) (fun t => t.1) 8 0 (st_b_PS_readEnvironment_69 v2)) (upf 8 0) (0, s4) (show (0 : Int) ≤ (0 : Int32).toInt by decide) (up_halt (b := (b_PS_readEnvironment_69 v2)) (fun t => t.1) 8 (st_b_PS_readEnvironment_69 v2) (0, s4)) ?_
  · intro t2 hi_t2 hc_t2 hx_t2
    refine wi_iload_n hC 0 d_PS_readEnvironment_69 rfl rfl ?_
    refine wi_bipush hC 8 (by decide) d_PS_readEnvironment_70 ?_
    refine wi_icmp_ge hC 103 d_PS_readEnvironment_72 (by decide) (fun h1 => ?_) (fun h1 => ?_)
    · skip
      exact hx_t2 (t2.1, t2.2) (by exact (if_pos h1))
    · skip
      refine wi_aload_n hC 3 d_PS_readEnvironment_75 rfl rfl ?_
      refine wg_PS_empty hC wd_390 d_PS_readEnvironment_76 ?_
      refine wi_iload_n hC 0 d_PS_readEnvironment_79 rfl rfl ?_
      refine wi_iload_n hC 1 d_PS_readEnvironment_80 rfl rfl ?_
      refine wi_iconst hC 2 (by decide) d_PS_readEnvironment_81 ?_
      refine wi_iload_n hC 0 d_PS_readEnvironment_82 rfl rfl ?_
      refine wi_imul hC d_PS_readEnvironment_83 ?_
      refine wi_ishr hC d_PS_readEnvironment_84 ?_
      refine wi_iconst hC 3 (by decide) d_PS_readEnvironment_85 ?_
      refine wi_iand hC d_PS_readEnvironment_86 ?_
      refine wi_iconst hC 3 (by decide) d_PS_readEnvironment_87 ?_
      obtain ⟨Tt3, eTt3⟩ : ∃ y : Bool, y = (
              if (jshr v2 (2 * t2.1)) &&& 3 = 3 then
                true
              else
                false) := ⟨_, rfl⟩
      have Jt3 : ∀ (t3 : Bool), Tt3 = t3 → WS p l e { frames := 1, cells := 0, slots := 0, locals := 25 } s m args below meth c Q E 4 96 [(3, .int t2.1), (2, .int v2), (1, .int v1), (0, .ref 0)] [.int (bI t3), .int t2.1, .ref 29] (t2.2, τ, q) := by
        intro t3  e_t3
        rw [eTt3] at e_t3
        refine wa_st29 hC t3 rfl (vin_of hi_t2 (hi_n h1 (by decide))) d_PS_readEnvironment_96 ?_
        refine wi_nmC (fun s5 e_s5 => ?_)
        obtain ⟨v3, e_v3⟩ : ∃ y : Int32, t2.1 + 1 = y := ⟨_, rfl⟩
        refine wi_iinc hC 0 v3 [(3, .int v3), (2, .int v2), (1, .int v1), (0, .ref 0)] d_PS_readEnvironment_97 rfl (by rw [← e_v3]; rfl) (by decide) rfl ?_
        refine wi_goto hC 69 d_PS_readEnvironment_100 (by decide) ?_
        exact hc_t2 (v3, s5) (by subst e_v3; subst e_s5; subst e_t3; exact (if_neg h1))
      refine wi_icmp_ne hC 95 d_PS_readEnvironment_88 (by decide) (fun h2 => ?_) (fun h2 => ?_)
      · skip
        refine wi_iconst hC 0 (by decide) d_PS_readEnvironment_95 ?_
        exact Jt3 false (by exact (Eq.trans eTt3 (if_neg h2)))
      · skip
        refine wi_iconst hC 1 (by decide) d_PS_readEnvironment_91 ?_
        refine wi_goto hC 96 d_PS_readEnvironment_92 (by decide) ?_
        exact Jt3 true (by exact (Eq.trans eTt3 (if_pos h2)))
  obtain ⟨t1, e_t1⟩ : ∃ y : Int32 × St, lpn ((b_PS_readEnvironment_69 v2)) (upf 8 0) (0, s4) = y := ⟨_, rfl⟩
  rw [e_t1]
  refine wi_aload_n hC 3 d_PS_readEnvironment_103 rfl rfl ?_
  refine wg_PS_row hC wd_407 d_PS_readEnvironment_104 ?_
  refine wi_bipush hC 8 (by decide) d_PS_readEnvironment_107 ?_
  refine wi_iconst hC 2 (by decide) d_PS_readEnvironment_109 ?_
  refine k_Mem_bits hC (by decide) wd_408 (by decide) (Nat.le_of_ble_eq_true rfl) d_PS_readEnvironment_110 ?_
  refine wi_l2i hC d_PS_readEnvironment_113 ?_
  refine wi_nmI (fun v4 e_v4 => ?_)
  refine wi_istore_n hC [(3, .int v4), (2, .int v2), (1, .int v1), (0, .ref 0)] d_PS_readEnvironment_114 rfl (by decide) rfl ?_
  refine wi_aload_n hC 3 d_PS_readEnvironment_115 rfl rfl ?_
  refine wi_iload_n hC 0 d_PS_readEnvironment_116 rfl rfl ?_
  refine wi_sipush hC 2047 (by decide) d_PS_readEnvironment_117 ?_
  refine wi_iand hC d_PS_readEnvironment_120 ?_
  refine wp_PS_keptCode hC wd_391 d_PS_readEnvironment_121 ?_
  refine wi_nmC (fun s6 e_s6 => ?_)
  refine wi_aload_n hC 3 d_PS_readEnvironment_124 rfl rfl ?_
  refine wi_iload_n hC 0 d_PS_readEnvironment_125 rfl rfl ?_
  refine wi_bipush hC 12 (by decide) d_PS_readEnvironment_126 ?_
  refine wi_ishr hC d_PS_readEnvironment_128 ?_
  refine wi_bipush hC 16 (by decide) d_PS_readEnvironment_129 ?_
  refine wi_ishl hC d_PS_readEnvironment_131 ?_
  refine wi_aload_n hC 3 d_PS_readEnvironment_132 rfl rfl ?_
  refine wg_PS_row hC wd_407 d_PS_readEnvironment_133 ?_
  refine wi_bipush hC 6 (by decide) d_PS_readEnvironment_136 ?_
  refine wi_iconst hC 2 (by decide) d_PS_readEnvironment_138 ?_
  refine k_Mem_bits hC (by decide) wd_408 (by decide) (Nat.le_of_ble_eq_true rfl) d_PS_readEnvironment_139 ?_
  refine wi_l2i hC d_PS_readEnvironment_142 ?_
  refine wi_ior hC d_PS_readEnvironment_143 ?_
  refine wp_PS_keptCodePlace hC wd_392 d_PS_readEnvironment_144 ?_
  refine wi_nmC (fun s7 e_s7 => ?_)
  refine wi_aload_n hC 3 d_PS_readEnvironment_147 rfl rfl ?_
  refine wi_aload_n hC 3 d_PS_readEnvironment_148 rfl rfl ?_
  refine wg_PS_row hC wd_407 d_PS_readEnvironment_149 ?_
  refine wi_bipush hC 12 (by decide) d_PS_readEnvironment_152 ?_
  refine wi_iconst hC 2 (by decide) d_PS_readEnvironment_154 ?_
  refine k_Mem_bits hC (by decide) wd_408 (by decide) (Nat.le_of_ble_eq_true rfl) d_PS_readEnvironment_155 ?_
  refine wi_bipush hC 12 (by decide) d_PS_readEnvironment_158 ?_
  refine wi_lshr hC d_PS_readEnvironment_160 ?_
  refine wi_l2i hC d_PS_readEnvironment_161 ?_
  refine wi_bipush hC 16 (by decide) d_PS_readEnvironment_162 ?_
  refine wi_ishl hC d_PS_readEnvironment_164 ?_
  refine wi_aload_n hC 3 d_PS_readEnvironment_165 rfl rfl ?_
  refine wg_PS_row hC wd_407 d_PS_readEnvironment_166 ?_
  refine wi_bipush hC 10 (by decide) d_PS_readEnvironment_169 ?_
  refine wi_iconst hC 2 (by decide) d_PS_readEnvironment_171 ?_
  refine k_Mem_bits hC (by decide) wd_408 (by decide) (Nat.le_of_ble_eq_true rfl) d_PS_readEnvironment_172 ?_
  refine wi_l2i hC d_PS_readEnvironment_175 ?_
  refine wi_ior hC d_PS_readEnvironment_176 ?_
  refine wp_PS_keptOperandPlace hC wd_393 d_PS_readEnvironment_177 ?_
  refine wi_nmC (fun s8 e_s8 => ?_)
  have hf : f_PS_readEnvironment σ = s8 := by subst e_s8; subst e_s7; subst e_s6; subst e_v4; subst e_t1; subst e_v2; subst e_s4; subst e_s3; subst e_s2; subst e_v1; subst e_s1; exact rfl
  exact wi_vret hC hr hk d_PS_readEnvironment_180 rfl (congrArg (fun z => (z, τ, q)) hf).symm hQ
theorem k_PS_readEnvironment {p : Program} {l : Launch} {e : Env} {R : Room} {s : State} {m : MethodId} {args : Array Value} {below : List Frame} {meth : Method} {c : Code} {Q : State → Prop} {E : Ev} {nL pc index : Nat} {lv : List (Nat × Value)} {rest : List Value} {cc : ByteArray} {own : String} {σ τ : St} {q : Int64}  (hC : Cx p s m args c cc nL own E)   (hl : Cond.methodLink own index y_PS_readEnvironment ∈ WL) (hR : 1 + 1 ≤ R.frames ∧ 8 + (4 + 11) + 25 ≤ R.locals) (hs8 : (rest.map fun v => v.category).sum ≤ 8) (d : decode cc pc = .ok (.invokevirtual index, 3)) (k : WS p l e R s m args below meth c Q E nL (pc + 3) lv rest ((f_PS_readEnvironment σ), τ, q)) : WS p l e R s m args below meth c Q E nL pc lv (.ref 0 :: rest) (σ, τ, q) := by
  exact wi_callV hC (n := 0) (vs := []) (rest := rest) 0 0 (by decide) rfl rfl rfl (c_PS_readEnvironment l E σ τ q  ) (by decide +kernel) wd_409 wd_395 wd_410 wd_411 ⟨rfl, rfl⟩ rfl rfl hl hR hs8 d k
set_option maxRecDepth 100000 in
set_option maxHeartbeats 400000 in
theorem c_PS_place (l : Launch) (E : Ev) (σ τ : St) (q : Int64) (a1 : Int32)  : MF l y_PS_place prog_1_method_12_code 2 (some .int) { frames := 0, cells := 0, slots := 0, locals := 0 } E [.ref 0, .int a1] (σ, τ, q) (some (.int (f_PS_place σ a1))) (σ, τ, q) := by
  refine MF_intro (lv0 := [(0, .ref 0), (1, .int a1)]) (by decide) wd_412 (Nat.le_of_ble_eq_true rfl) rfl ?_
  intro p e s m args below meth c Q hC hr hk hQ
  replace hC : Cx p s m args c prog_1_method_12_code 2 "PartnerStack" E := hC
  refine wi_aload_n hC 0 d_PS_place_0 rfl rfl ?_
  refine wg_PS_top hC wd_389 d_PS_place_1 ?_
  refine wi_iload_n hC 1 d_PS_place_4 rfl rfl ?_
  refine wi_iadd hC d_PS_place_5 ?_
  refine wi_bipush hC 7 (by decide) d_PS_place_6 ?_
  refine wi_iand hC d_PS_place_8 ?_
  have hf : f_PS_place σ a1 = ((gI σ 0 0) + a1) &&& 7 := by exact rfl
  exact wi_iret hC hr hk d_PS_place_9 (congrArg (fun z => some (Value.int z)) hf) rfl hQ
theorem k_PS_place {p : Program} {l : Launch} {e : Env} {R : Room} {s : State} {m : MethodId} {args : Array Value} {below : List Frame} {meth : Method} {c : Code} {Q : State → Prop} {E : Ev} {nL pc index : Nat} {lv : List (Nat × Value)} {rest : List Value} {cc : ByteArray} {own : String} {σ τ : St} {q : Int64} {a1 : Int32} (hC : Cx p s m args c cc nL own E)   (hl : Cond.methodLink own index y_PS_place ∈ WL) (hR : 0 + 1 ≤ R.frames ∧ 8 + (2 + 11) + 0 ≤ R.locals) (hs8 : (rest.map fun v => v.category).sum ≤ 8) (d : decode cc pc = .ok (.invokevirtual index, 3)) (k : WS p l e R s m args below meth c Q E nL (pc + 3) lv ((.int (f_PS_place σ a1)) :: rest) (σ, τ, q)) : WS p l e R s m args below meth c Q E nL pc lv (.int a1 :: .ref 0 :: rest) (σ, τ, q) := by
  exact wi_callV hC (n := 1) (vs := [.int a1]) (rest := rest) 0 0 (by decide) rfl rfl rfl (c_PS_place l E σ τ q a1 ) (by decide +kernel) wd_412 wd_395 wd_413 wd_414 ⟨rfl, rfl⟩ rfl rfl hl hR hs8 d k
set_option maxRecDepth 100000 in
set_option maxHeartbeats 400000 in
theorem c_PS_readRegisters (l : Launch) (E : Ev) (σ τ : St) (q : Int64)   : MF l y_PS_readRegisters prog_1_method_39_code 2 none { frames := 2, cells := 0, slots := 0, locals := 48 } E [.ref 0] (σ, τ, q) none ((f_PS_readRegisters σ), τ, q) := by
  refine MF_intro (lv0 := [(0, .ref 0)]) (by decide) wd_419 (Nat.le_of_ble_eq_true rfl) rfl ?_
  intro p e s m args below meth c Q hC hr hk hQ
  replace hC : Cx p s m args c prog_1_method_39_code 2 "PartnerStack" E := hC
  refine wi_iconst hC 0 (by decide) d_PS_readRegisters_0 ?_
  refine wi_istore_n hC [(1, .int 0), (0, .ref 0)] d_PS_readRegisters_1 rfl (by decide) rfl ?_
  refine wi_loop ((b_PS_readRegisters_2)) (fun t2 => 0 ≤ (t2.1).toInt) (fun t2 => [(1, .int t2.1), (0, .ref 0)]) (fun t2 => (t2.2, τ, q)) 38 ?_ (up_inv (b := (b_PS_readRegisters_2)) (fun t => t.1) 8 0 st_b_PS_readRegisters_2) (upf 8 0) (0, σ) (show (0 : Int) ≤ (0 : Int32).toInt by decide) (up_halt (b := (b_PS_readRegisters_2)) (fun t => t.1) 8 st_b_PS_readRegisters_2 (0, σ)) ?_
  · intro t2 hi_t2 hc_t2 hx_t2
    refine wi_iload_n hC 0 d_PS_readRegisters_2 rfl rfl ?_
    refine wi_bipush hC 8 (by decide) d_PS_readRegisters_3 ?_
    refine wi_icmp_ge hC 38 d_PS_readRegisters_5 (by decide) (fun h1 => ?_) (fun h1 => ?_)
    · skip
      exact hx_t2 (t2.1, t2.2) (by exact (if_pos h1))
    · skip
      refine wi_aload_n hC 1 d_PS_readRegisters_8 rfl rfl ?_
      refine wg_PS_reader hC wd_415 d_PS_readRegisters_9 ?_
      refine wi_bipush hC 14 (by decide) d_PS_readRegisters_12 ?_
      refine wi_iload_n hC 0 d_PS_readRegisters_14 rfl rfl ?_
      refine wi_bipush hC 10 (by decide) d_PS_readRegisters_15 ?_
      refine wi_imul hC d_PS_readRegisters_17 ?_
      refine wi_iadd hC d_PS_readRegisters_18 ?_
      refine wi_aload_n hC 1 d_PS_readRegisters_19 rfl rfl ?_
      refine wg_PS_registers hC wd_416 d_PS_readRegisters_20 ?_
      refine wi_aload_n hC 1 d_PS_readRegisters_23 rfl rfl ?_
      refine wi_iload_n hC 0 d_PS_readRegisters_24 rfl rfl ?_
      refine k_PS_place hC  wd_417 (by decide) (Nat.le_of_ble_eq_true rfl) d_PS_readRegisters_25 ?_
      refine wa_ld28 hC (place_in _ _) d_PS_readRegisters_28 ?_
      refine k_Rd_readPattern hC (isReg (place_in _ _)) (r14 (vin_of hi_t2 (hi_n h1 (by decide)))) wd_418 (by decide) (Nat.le_of_ble_eq_true rfl) d_PS_readRegisters_29 ?_
      refine wi_nmC (fun s1 e_s1 => ?_)
      obtain ⟨v1, e_v1⟩ : ∃ y : Int32, t2.1 + 1 = y := ⟨_, rfl⟩
      refine wi_iinc hC 0 v1 [(1, .int v1), (0, .ref 0)] d_PS_readRegisters_32 rfl (by rw [← e_v1]; rfl) (by decide) rfl ?_
      refine wi_goto hC 2 d_PS_readRegisters_35 (by decide) ?_
      exact hc_t2 (v1, s1) (by subst e_v1; subst e_s1; exact (if_neg h1))
  obtain ⟨t1, e_t1⟩ : ∃ y : Int32 × St, lpn ((b_PS_readRegisters_2)) (upf 8 0) (0, σ) = y := ⟨_, rfl⟩
  rw [e_t1]
  have hf : f_PS_readRegisters σ = t1.2 := by subst e_t1; exact rfl
  exact wi_vret hC hr hk d_PS_readRegisters_38 rfl (congrArg (fun z => (z, τ, q)) hf).symm hQ
theorem k_PS_readRegisters {p : Program} {l : Launch} {e : Env} {R : Room} {s : State} {m : MethodId} {args : Array Value} {below : List Frame} {meth : Method} {c : Code} {Q : State → Prop} {E : Ev} {nL pc index : Nat} {lv : List (Nat × Value)} {rest : List Value} {cc : ByteArray} {own : String} {σ τ : St} {q : Int64}  (hC : Cx p s m args c cc nL own E)   (hl : Cond.methodLink own index y_PS_readRegisters ∈ WL) (hR : 2 + 1 ≤ R.frames ∧ 8 + (2 + 11) + 48 ≤ R.locals) (hs8 : (rest.map fun v => v.category).sum ≤ 8) (d : decode cc pc = .ok (.invokevirtual index, 3)) (k : WS p l e R s m args below meth c Q E nL (pc + 3) lv rest ((f_PS_readRegisters σ), τ, q)) : WS p l e R s m args below meth c Q E nL pc lv (.ref 0 :: rest) (σ, τ, q) := by
  exact wi_callV hC (n := 0) (vs := []) (rest := rest) 0 0 (by decide) rfl rfl rfl (c_PS_readRegisters l E σ τ q  ) (by decide +kernel) wd_419 wd_395 wd_420 wd_421 ⟨rfl, rfl⟩ rfl rfl hl hR hs8 d k
set_option maxRecDepth 100000 in
set_option maxHeartbeats 400000 in
theorem c_PS_status (l : Launch) (E : Ev) (σ τ : St) (q : Int64)   : MF l y_PS_status prog_1_method_13_code 2 (some .int) { frames := 0, cells := 0, slots := 0, locals := 0 } E [.ref 0] (σ, τ, q) (some (.int (f_PS_status σ))) (σ, τ, q) := by
  refine MF_intro (lv0 := [(0, .ref 0)]) (by decide) wd_422 (Nat.le_of_ble_eq_true rfl) rfl ?_
  intro p e s m args below meth c Q hC hr hk hQ
  replace hC : Cx p s m args c prog_1_method_13_code 2 "PartnerStack" E := hC
  refine wi_aload_n hC 0 d_PS_status_0 rfl rfl ?_
  refine wg_PS_toldBefore hC wd_387 d_PS_status_1 ?_
  refine wi_aload_n hC 0 d_PS_status_4 rfl rfl ?_
  refine wg_PS_control hC wd_385 d_PS_status_5 ?_
  refine wg_Ctl_setting hC wd_386 d_PS_status_8 ?_
  refine wi_iconst hC (-1) (by decide) d_PS_status_11 ?_
  refine wi_ixor hC d_PS_status_12 ?_
  refine wi_iand hC d_PS_status_13 ?_
  obtain ⟨Tt1, eTt1⟩ : ∃ y : Int32, y = (
          if (gI σ 1 0) &&& ((gI σ 6 3) ^^^ (-1)) = 0 then
            0
          else
            128) := ⟨_, rfl⟩
  have Jt1 : ∀ (t1 : Int32), Tt1 = t1 → WS p l e { frames := 0, cells := 0, slots := 0, locals := 0 } s m args below meth c Q E 2 24 [(0, .ref 0)] [.int t1] (σ, τ, q) := by
    intro t1  e_t1
    rw [eTt1] at e_t1
    refine wi_istore_n hC [(1, .int t1), (0, .ref 0)] d_PS_status_24 rfl (by decide) rfl ?_
    refine wi_aload_n hC 1 d_PS_status_25 rfl rfl ?_
    refine wg_PS_toldBefore hC wd_387 d_PS_status_26 ?_
    refine wi_iload_n hC 0 d_PS_status_29 rfl rfl ?_
    refine wi_ior hC d_PS_status_30 ?_
    refine wi_aload_n hC 1 d_PS_status_31 rfl rfl ?_
    refine wg_PS_conditions hC wd_388 d_PS_status_32 ?_
    refine wi_ior hC d_PS_status_35 ?_
    refine wi_aload_n hC 1 d_PS_status_36 rfl rfl ?_
    refine wg_PS_top hC wd_389 d_PS_status_37 ?_
    refine wi_bipush hC 11 (by decide) d_PS_status_40 ?_
    refine wi_ishl hC d_PS_status_42 ?_
    refine wi_ior hC d_PS_status_43 ?_
    have hf : f_PS_status σ = (((gI σ 1 0) ||| t1) ||| (gI σ 2 0)) ||| (jshl (gI σ 0 0) 11) := by subst e_t1; exact rfl
    exact wi_iret hC hr hk d_PS_status_44 (congrArg (fun z => some (Value.int z)) hf) rfl hQ
  refine wi_if_eq hC 23 d_PS_status_14 (by decide) (fun h1 => ?_) (fun h1 => ?_)
  · skip
    refine wi_iconst hC 0 (by decide) d_PS_status_23 ?_
    exact Jt1 0 (by exact (Eq.trans eTt1 (if_pos h1)))
  · skip
    refine wi_sipush hC 128 (by decide) d_PS_status_17 ?_
    refine wi_goto hC 24 d_PS_status_20 (by decide) ?_
    exact Jt1 128 (by exact (Eq.trans eTt1 (if_neg h1)))
theorem k_PS_status {p : Program} {l : Launch} {e : Env} {R : Room} {s : State} {m : MethodId} {args : Array Value} {below : List Frame} {meth : Method} {c : Code} {Q : State → Prop} {E : Ev} {nL pc index : Nat} {lv : List (Nat × Value)} {rest : List Value} {cc : ByteArray} {own : String} {σ τ : St} {q : Int64}  (hC : Cx p s m args c cc nL own E)   (hl : Cond.methodLink own index y_PS_status ∈ WL) (hR : 0 + 1 ≤ R.frames ∧ 8 + (2 + 11) + 0 ≤ R.locals) (hs8 : (rest.map fun v => v.category).sum ≤ 8) (d : decode cc pc = .ok (.invokevirtual index, 3)) (k : WS p l e R s m args below meth c Q E nL (pc + 3) lv ((.int (f_PS_status σ)) :: rest) (σ, τ, q)) : WS p l e R s m args below meth c Q E nL pc lv (.ref 0 :: rest) (σ, τ, q) := by
  exact wi_callV hC (n := 0) (vs := []) (rest := rest) 0 0 (by decide) rfl rfl rfl (c_PS_status l E σ τ q  ) (by decide +kernel) wd_422 wd_395 wd_423 wd_424 ⟨rfl, rfl⟩ rfl rfl hl hR hs8 d k
set_option maxRecDepth 100000 in
set_option maxHeartbeats 400000 in
theorem c_PS_tags (l : Launch) (E : Ev) (σ τ : St) (q : Int64)   : MF l y_PS_tags prog_1_method_14_code 3 (some .int) { frames := 2, cells := 0, slots := 0, locals := 40 } E [.ref 0] (σ, τ, q) (some (.int (f_PS_tags σ))) (σ, τ, q) := by
  refine MF_intro (lv0 := [(0, .ref 0)]) (by decide) wd_426 (Nat.le_of_ble_eq_true rfl) rfl ?_
  intro p e s m args below meth c Q hC hr hk hQ
  replace hC : Cx p s m args c prog_1_method_14_code 3 "PartnerStack" E := hC
  refine wi_iconst hC 0 (by decide) d_PS_tags_0 ?_
  refine wi_istore_n hC [(1, .int 0), (0, .ref 0)] d_PS_tags_1 rfl (by decide) rfl ?_
  refine wi_bipush hC 7 (by decide) d_PS_tags_2 ?_
  refine wi_istore_n hC [(2, .int 7), (1, .int 0), (0, .ref 0)] d_PS_tags_4 rfl (by decide) rfl ?_
  refine wi_loop ((b_PS_tags_5 σ)) (fun t2 => (t2.1).toInt ≤ 7) (fun t2 => [(2, .int t2.1), (1, .int t2.2), (0, .ref 0)]) (fun t2 => (σ, τ, q)) 42 ?_ (dn_inv (b := (b_PS_tags_5 σ)) (fun t => t.1) 7 (st_b_PS_tags_5 σ)) (dnf 7) (7, 0) (show (7 : Int32).toInt ≤ 7 by decide) (dn_halt (b := (b_PS_tags_5 σ)) (fun t => t.1) (st_b_PS_tags_5 σ) (7, 0)) ?_
  · intro t2 hi_t2 hc_t2 hx_t2
    refine wi_iload_n hC 0 d_PS_tags_5 rfl rfl ?_
    refine wi_if_lt hC 42 d_PS_tags_6 (by decide) (fun h1 => ?_) (fun h1 => ?_)
    · skip
      exact hx_t2 (t2.1, t2.2) (by exact (if_pos h1))
    · skip
      refine wi_iload_n hC 1 d_PS_tags_9 rfl rfl ?_
      refine wi_iconst hC 2 (by decide) d_PS_tags_10 ?_
      refine wi_ishl hC d_PS_tags_11 ?_
      refine wi_aload_n hC 2 d_PS_tags_12 rfl rfl ?_
      refine wg_PS_empty hC wd_390 d_PS_tags_13 ?_
      refine wi_iload_n hC 0 d_PS_tags_16 rfl rfl ?_
      refine wa_ld29 hC (vin_of (lo_n h1) (hi_le hi_t2 (by decide))) d_PS_tags_17 ?_
      obtain ⟨Tt3, eTt3⟩ : ∃ y : Int32, y = (
              if gZ σ 101 (jat t2.1) = true then
                3
              else
                f_Real_tag σ (16 + jat t2.1)) := ⟨_, rfl⟩
      have Jt3 : ∀ (t3 : Int32), Tt3 = t3 → WS p l e { frames := 2, cells := 0, slots := 0, locals := 40 } s m args below meth c Q E 3 34 [(2, .int t2.1), (1, .int t2.2), (0, .ref 0)] [.int t3, .int (jshl t2.2 2)] (σ, τ, q) := by
        intro t3  e_t3
        rw [eTt3] at e_t3
        refine wi_ior hC d_PS_tags_34 ?_
        refine wi_nmI (fun v1 e_v1 => ?_)
        refine wi_istore_n hC [(1, .int v1), (2, .int t2.1), (0, .ref 0)] d_PS_tags_35 rfl (by decide) rfl ?_
        obtain ⟨v2, e_v2⟩ : ∃ y : Int32, t2.1 + (-1) = y := ⟨_, rfl⟩
        refine wi_iinc hC 1 v2 [(2, .int v2), (1, .int v1), (0, .ref 0)] d_PS_tags_36 rfl (by rw [← e_v2]; rfl) (by decide) rfl ?_
        refine wi_goto hC 5 d_PS_tags_39 (by decide) ?_
        exact hc_t2 (v2, v1) (by subst e_v2; subst e_v1; subst e_t3; exact (if_neg h1))
      refine wi_z_eq (b := (gZ σ 101 (jat t2.1))) hC 25 d_PS_tags_18 (by decide) (fun h2 => ?_) (fun h2 => ?_)
      · skip
        refine wi_aload_n hC 2 d_PS_tags_25 rfl rfl ?_
        refine wg_PS_registers hC wd_416 d_PS_tags_26 ?_
        refine wi_iload_n hC 0 d_PS_tags_29 rfl rfl ?_
        refine wa_ld28 hC (vin_of (lo_n h1) (hi_le hi_t2 (by decide))) d_PS_tags_30 ?_
        refine k_Real_tag hC (isReg (vin_of (lo_n h1) (hi_le hi_t2 (by decide)))) wd_425 (by decide) (Nat.le_of_ble_eq_true rfl) d_PS_tags_31 ?_
        exact Jt3 (f_Real_tag σ (16 + jat t2.1)) (by exact (Eq.trans eTt3 (if_neg h2)))
      · skip
        refine wi_iconst hC 3 (by decide) d_PS_tags_21 ?_
        refine wi_goto hC 34 d_PS_tags_22 (by decide) ?_
        exact Jt3 3 (by exact (Eq.trans eTt3 (if_pos h2)))
  obtain ⟨t1, e_t1⟩ : ∃ y : Int32 × Int32, lpn ((b_PS_tags_5 σ)) (dnf 7) (7, 0) = y := ⟨_, rfl⟩
  rw [e_t1]
  refine wi_iload_n hC 1 d_PS_tags_42 rfl rfl ?_
  have hf : f_PS_tags σ = t1.2 := by subst e_t1; exact rfl
  exact wi_iret hC hr hk d_PS_tags_43 (congrArg (fun z => some (Value.int z)) hf) rfl hQ
theorem k_PS_tags {p : Program} {l : Launch} {e : Env} {R : Room} {s : State} {m : MethodId} {args : Array Value} {below : List Frame} {meth : Method} {c : Code} {Q : State → Prop} {E : Ev} {nL pc index : Nat} {lv : List (Nat × Value)} {rest : List Value} {cc : ByteArray} {own : String} {σ τ : St} {q : Int64}  (hC : Cx p s m args c cc nL own E)   (hl : Cond.methodLink own index y_PS_tags ∈ WL) (hR : 2 + 1 ≤ R.frames ∧ 8 + (3 + 11) + 40 ≤ R.locals) (hs8 : (rest.map fun v => v.category).sum ≤ 8) (d : decode cc pc = .ok (.invokevirtual index, 3)) (k : WS p l e R s m args below meth c Q E nL (pc + 3) lv ((.int (f_PS_tags σ)) :: rest) (σ, τ, q)) : WS p l e R s m args below meth c Q E nL pc lv (.ref 0 :: rest) (σ, τ, q) := by
  exact wi_callV hC (n := 0) (vs := []) (rest := rest) 0 0 (by decide) rfl rfl rfl (c_PS_tags l E σ τ q  ) (by decide +kernel) wd_426 wd_395 wd_427 wd_428 ⟨rfl, rfl⟩ rfl rfl hl hR hs8 d k
set_option maxRecDepth 100000 in
set_option maxHeartbeats 400000 in
theorem c_PS_writeEnvironment (l : Launch) (E : Ev) (σ τ : St) (q : Int64)   : MF l y_PS_writeEnvironment prog_1_method_36_code 1 none { frames := 3, cells := 0, slots := 0, locals := 62 } E [.ref 0] (σ, τ, q) none ((f_PS_writeEnvironment σ), τ, q) := by
  refine MF_intro (lv0 := [(0, .ref 0)]) (by decide) wd_432 (Nat.le_of_ble_eq_true rfl) rfl ?_
  intro p e s m args below meth c Q hC hr hk hQ
  replace hC : Cx p s m args c prog_1_method_36_code 1 "PartnerStack" E := hC
  refine wi_aload_n hC 0 d_PS_writeEnvironment_0 rfl rfl ?_
  refine wg_PS_row hC wd_407 d_PS_writeEnvironment_1 ?_
  refine wi_iconst hC 0 (by decide) d_PS_writeEnvironment_4 ?_
  refine wi_iconst hC 2 (by decide) d_PS_writeEnvironment_5 ?_
  refine wi_aload_n hC 0 d_PS_writeEnvironment_6 rfl rfl ?_
  refine wg_PS_control hC wd_385 d_PS_writeEnvironment_7 ?_
  refine wg_Ctl_setting hC wd_386 d_PS_writeEnvironment_10 ?_
  refine wi_i2l hC d_PS_writeEnvironment_13 ?_
  refine k_Mem_put hC  wd_429 (by decide) (Nat.le_of_ble_eq_true rfl) d_PS_writeEnvironment_14 ?_
  refine wi_nmC (fun s1 e_s1 => ?_)
  refine wi_aload_n hC 0 d_PS_writeEnvironment_17 rfl rfl ?_
  refine wg_PS_row hC wd_407 d_PS_writeEnvironment_18 ?_
  refine wi_iconst hC 2 (by decide) d_PS_writeEnvironment_21 ?_
  refine wi_iconst hC 2 (by decide) d_PS_writeEnvironment_22 ?_
  refine wi_aload_n hC 0 d_PS_writeEnvironment_23 rfl rfl ?_
  refine k_PS_status hC  wd_430 (by decide) (Nat.le_of_ble_eq_true rfl) d_PS_writeEnvironment_24 ?_
  refine wi_i2l hC d_PS_writeEnvironment_27 ?_
  refine k_Mem_put hC  wd_429 (by decide) (Nat.le_of_ble_eq_true rfl) d_PS_writeEnvironment_28 ?_
  refine wi_nmC (fun s2 e_s2 => ?_)
  refine wi_aload_n hC 0 d_PS_writeEnvironment_31 rfl rfl ?_
  refine wg_PS_row hC wd_407 d_PS_writeEnvironment_32 ?_
  refine wi_iconst hC 4 (by decide) d_PS_writeEnvironment_35 ?_
  refine wi_iconst hC 2 (by decide) d_PS_writeEnvironment_36 ?_
  refine wi_aload_n hC 0 d_PS_writeEnvironment_37 rfl rfl ?_
  refine k_PS_tags hC  wd_431 (by decide) (Nat.le_of_ble_eq_true rfl) d_PS_writeEnvironment_38 ?_
  refine wi_i2l hC d_PS_writeEnvironment_41 ?_
  refine k_Mem_put hC  wd_429 (by decide) (Nat.le_of_ble_eq_true rfl) d_PS_writeEnvironment_42 ?_
  refine wi_nmC (fun s3 e_s3 => ?_)
  refine wi_aload_n hC 0 d_PS_writeEnvironment_45 rfl rfl ?_
  refine wg_PS_row hC wd_407 d_PS_writeEnvironment_46 ?_
  refine wi_bipush hC 6 (by decide) d_PS_writeEnvironment_49 ?_
  refine wi_iconst hC 2 (by decide) d_PS_writeEnvironment_51 ?_
  refine wi_aload_n hC 0 d_PS_writeEnvironment_52 rfl rfl ?_
  refine wg_PS_keptCodePlace hC wd_392 d_PS_writeEnvironment_53 ?_
  refine wi_i2l hC d_PS_writeEnvironment_56 ?_
  refine k_Mem_put hC  wd_429 (by decide) (Nat.le_of_ble_eq_true rfl) d_PS_writeEnvironment_57 ?_
  refine wi_nmC (fun s4 e_s4 => ?_)
  refine wi_aload_n hC 0 d_PS_writeEnvironment_60 rfl rfl ?_
  refine wg_PS_row hC wd_407 d_PS_writeEnvironment_61 ?_
  refine wi_bipush hC 8 (by decide) d_PS_writeEnvironment_64 ?_
  refine wi_iconst hC 2 (by decide) d_PS_writeEnvironment_66 ?_
  refine wi_aload_n hC 0 d_PS_writeEnvironment_67 rfl rfl ?_
  refine wg_PS_keptCodePlace hC wd_392 d_PS_writeEnvironment_68 ?_
  refine wi_bipush hC 16 (by decide) d_PS_writeEnvironment_71 ?_
  refine wi_ishr hC d_PS_writeEnvironment_73 ?_
  refine wi_bipush hC 12 (by decide) d_PS_writeEnvironment_74 ?_
  refine wi_ishl hC d_PS_writeEnvironment_76 ?_
  refine wi_aload_n hC 0 d_PS_writeEnvironment_77 rfl rfl ?_
  refine wg_PS_keptCode hC wd_391 d_PS_writeEnvironment_78 ?_
  refine wi_ior hC d_PS_writeEnvironment_81 ?_
  refine wi_i2l hC d_PS_writeEnvironment_82 ?_
  refine k_Mem_put hC  wd_429 (by decide) (Nat.le_of_ble_eq_true rfl) d_PS_writeEnvironment_83 ?_
  refine wi_nmC (fun s5 e_s5 => ?_)
  refine wi_aload_n hC 0 d_PS_writeEnvironment_86 rfl rfl ?_
  refine wg_PS_row hC wd_407 d_PS_writeEnvironment_87 ?_
  refine wi_bipush hC 10 (by decide) d_PS_writeEnvironment_90 ?_
  refine wi_iconst hC 2 (by decide) d_PS_writeEnvironment_92 ?_
  refine wi_aload_n hC 0 d_PS_writeEnvironment_93 rfl rfl ?_
  refine wg_PS_keptOperandPlace hC wd_393 d_PS_writeEnvironment_94 ?_
  refine wi_i2l hC d_PS_writeEnvironment_97 ?_
  refine k_Mem_put hC  wd_429 (by decide) (Nat.le_of_ble_eq_true rfl) d_PS_writeEnvironment_98 ?_
  refine wi_nmC (fun s6 e_s6 => ?_)
  refine wi_aload_n hC 0 d_PS_writeEnvironment_101 rfl rfl ?_
  refine wg_PS_row hC wd_407 d_PS_writeEnvironment_102 ?_
  refine wi_bipush hC 12 (by decide) d_PS_writeEnvironment_105 ?_
  refine wi_iconst hC 2 (by decide) d_PS_writeEnvironment_107 ?_
  refine wi_aload_n hC 0 d_PS_writeEnvironment_108 rfl rfl ?_
  refine wg_PS_keptOperandPlace hC wd_393 d_PS_writeEnvironment_109 ?_
  refine wi_bipush hC 16 (by decide) d_PS_writeEnvironment_112 ?_
  refine wi_ishr hC d_PS_writeEnvironment_114 ?_
  refine wi_bipush hC 12 (by decide) d_PS_writeEnvironment_115 ?_
  refine wi_ishl hC d_PS_writeEnvironment_117 ?_
  refine wi_i2l hC d_PS_writeEnvironment_118 ?_
  refine k_Mem_put hC  wd_429 (by decide) (Nat.le_of_ble_eq_true rfl) d_PS_writeEnvironment_119 ?_
  refine wi_nmC (fun s7 e_s7 => ?_)
  have hf : f_PS_writeEnvironment σ = s7 := by subst e_s7; subst e_s6; subst e_s5; subst e_s4; subst e_s3; subst e_s2; subst e_s1; exact rfl
  exact wi_vret hC hr hk d_PS_writeEnvironment_122 rfl (congrArg (fun z => (z, τ, q)) hf).symm hQ
theorem k_PS_writeEnvironment {p : Program} {l : Launch} {e : Env} {R : Room} {s : State} {m : MethodId} {args : Array Value} {below : List Frame} {meth : Method} {c : Code} {Q : State → Prop} {E : Ev} {nL pc index : Nat} {lv : List (Nat × Value)} {rest : List Value} {cc : ByteArray} {own : String} {σ τ : St} {q : Int64}  (hC : Cx p s m args c cc nL own E)   (hl : Cond.methodLink own index y_PS_writeEnvironment ∈ WL) (hR : 3 + 1 ≤ R.frames ∧ 8 + (1 + 11) + 62 ≤ R.locals) (hs8 : (rest.map fun v => v.category).sum ≤ 8) (d : decode cc pc = .ok (.invokevirtual index, 3)) (k : WS p l e R s m args below meth c Q E nL (pc + 3) lv rest ((f_PS_writeEnvironment σ), τ, q)) : WS p l e R s m args below meth c Q E nL pc lv (.ref 0 :: rest) (σ, τ, q) := by
  exact wi_callV hC (n := 0) (vs := []) (rest := rest) 0 0 (by decide) rfl rfl rfl (c_PS_writeEnvironment l E σ τ q  ) (by decide +kernel) wd_432 wd_395 wd_433 wd_434 ⟨rfl, rfl⟩ rfl rfl hl hR hs8 d k
set_option maxRecDepth 100000 in
set_option maxHeartbeats 400000 in
theorem c_PS_writeRegisters (l : Launch) (E : Ev) (σ τ : St) (q : Int64)   : MF l y_PS_writeRegisters prog_1_method_38_code 2 none { frames := 2, cells := 0, slots := 0, locals := 47 } E [.ref 0] (σ, τ, q) none ((f_PS_writeRegisters σ), τ, q) := by
  refine MF_intro (lv0 := [(0, .ref 0)]) (by decide) wd_437 (Nat.le_of_ble_eq_true rfl) rfl ?_
  intro p e s m args below meth c Q hC hr hk hQ
  replace hC : Cx p s m args c prog_1_method_38_code 2 "PartnerStack" E := hC
  refine wi_iconst hC 0 (by decide) d_PS_writeRegisters_0 ?_
  refine wi_istore_n hC [(1, .int 0), (0, .ref 0)] d_PS_writeRegisters_1 rfl (by decide) rfl ?_
  refine wi_loop ((b_PS_writeRegisters_2)) (fun t2 => 0 ≤ (t2.1).toInt) (fun t2 => [(1, .int t2.1), (0, .ref 0)]) (fun t2 => (t2.2, τ, q)) 38 ?_ (up_inv (b := (b_PS_writeRegisters_2)) (fun t => t.1) 8 0 st_b_PS_writeRegisters_2) (upf 8 0) (0, σ) (show (0 : Int) ≤ (0 : Int32).toInt by decide) (up_halt (b := (b_PS_writeRegisters_2)) (fun t => t.1) 8 st_b_PS_writeRegisters_2 (0, σ)) ?_
  · intro t2 hi_t2 hc_t2 hx_t2
    refine wi_iload_n hC 0 d_PS_writeRegisters_2 rfl rfl ?_
    refine wi_bipush hC 8 (by decide) d_PS_writeRegisters_3 ?_
    refine wi_icmp_ge hC 38 d_PS_writeRegisters_5 (by decide) (fun h1 => ?_) (fun h1 => ?_)
    · skip
      exact hx_t2 (t2.1, t2.2) (by exact (if_pos h1))
    · skip
      refine wi_aload_n hC 1 d_PS_writeRegisters_8 rfl rfl ?_
      refine wg_PS_writer hC wd_435 d_PS_writeRegisters_9 ?_
      refine wi_bipush hC 14 (by decide) d_PS_writeRegisters_12 ?_
      refine wi_iload_n hC 0 d_PS_writeRegisters_14 rfl rfl ?_
      refine wi_bipush hC 10 (by decide) d_PS_writeRegisters_15 ?_
      refine wi_imul hC d_PS_writeRegisters_17 ?_
      refine wi_iadd hC d_PS_writeRegisters_18 ?_
      refine wi_aload_n hC 1 d_PS_writeRegisters_19 rfl rfl ?_
      refine wg_PS_registers hC wd_416 d_PS_writeRegisters_20 ?_
      refine wi_aload_n hC 1 d_PS_writeRegisters_23 rfl rfl ?_
      refine wi_iload_n hC 0 d_PS_writeRegisters_24 rfl rfl ?_
      refine k_PS_place hC  wd_417 (by decide) (Nat.le_of_ble_eq_true rfl) d_PS_writeRegisters_25 ?_
      refine wa_ld28 hC (place_in _ _) d_PS_writeRegisters_28 ?_
      refine k_Wr_writePattern hC (isReg (place_in _ _)) wd_436 (by decide) (Nat.le_of_ble_eq_true rfl) d_PS_writeRegisters_29 ?_
      refine wi_nmC (fun s1 e_s1 => ?_)
      obtain ⟨v1, e_v1⟩ : ∃ y : Int32, t2.1 + 1 = y := ⟨_, rfl⟩
      refine wi_iinc hC 0 v1 [(1, .int v1), (0, .ref 0)] d_PS_writeRegisters_32 rfl (by rw [← e_v1]; rfl) (by decide) rfl ?_
      refine wi_goto hC 2 d_PS_writeRegisters_35 (by decide) ?_
      exact hc_t2 (v1, s1) (by subst e_v1; subst e_s1; exact (if_neg h1))
  obtain ⟨t1, e_t1⟩ : ∃ y : Int32 × St, lpn ((b_PS_writeRegisters_2)) (upf 8 0) (0, σ) = y := ⟨_, rfl⟩
  rw [e_t1]
  have hf : f_PS_writeRegisters σ = t1.2 := by subst e_t1; exact rfl
  exact wi_vret hC hr hk d_PS_writeRegisters_38 rfl (congrArg (fun z => (z, τ, q)) hf).symm hQ
theorem k_PS_writeRegisters {p : Program} {l : Launch} {e : Env} {R : Room} {s : State} {m : MethodId} {args : Array Value} {below : List Frame} {meth : Method} {c : Code} {Q : State → Prop} {E : Ev} {nL pc index : Nat} {lv : List (Nat × Value)} {rest : List Value} {cc : ByteArray} {own : String} {σ τ : St} {q : Int64}  (hC : Cx p s m args c cc nL own E)   (hl : Cond.methodLink own index y_PS_writeRegisters ∈ WL) (hR : 2 + 1 ≤ R.frames ∧ 8 + (2 + 11) + 47 ≤ R.locals) (hs8 : (rest.map fun v => v.category).sum ≤ 8) (d : decode cc pc = .ok (.invokevirtual index, 3)) (k : WS p l e R s m args below meth c Q E nL (pc + 3) lv rest ((f_PS_writeRegisters σ), τ, q)) : WS p l e R s m args below meth c Q E nL pc lv (.ref 0 :: rest) (σ, τ, q) := by
  exact wi_callV hC (n := 0) (vs := []) (rest := rest) 0 0 (by decide) rfl rfl rfl (c_PS_writeRegisters l E σ τ q  ) (by decide +kernel) wd_437 wd_395 wd_438 wd_439 ⟨rfl, rfl⟩ rfl rfl hl hR hs8 d k
set_option maxRecDepth 100000 in
set_option maxHeartbeats 400000 in
theorem c_PS_doWithWords (l : Launch) (E : Ev) (σ τ : St) (q : Int64) (a1 : Int32) (a2 : Int32)  : MF l y_PS_doWithWords prog_1_method_17_code 4 none { frames := 4, cells := 0, slots := 0, locals := 82 } E [.ref 0, .int a1, .int a2] (σ, τ, q) none ((f_PS_doWithWords σ a1 a2), τ, q) := by
  refine MF_intro (lv0 := [(0, .ref 0), (1, .int a1), (2, .int a2)]) (by decide) wd_445 (Nat.le_of_ble_eq_true rfl) rfl ?_
  intro p e s m args below meth c Q hC hr hk hQ
  replace hC : Cx p s m args c prog_1_method_17_code 4 "PartnerStack" E := hC
  refine wi_iload_n hC 1 d_PS_doWithWords_0 rfl rfl ?_
  refine wi_iconst hC 1 (by decide) d_PS_doWithWords_1 ?_
  obtain ⟨Tt1, eTt1⟩ : ∃ y : Bool, y = (
          if a1 = 1 then
            true
          else
            false) := ⟨_, rfl⟩
  have Jt1 : ∀ (t1 : Bool), Tt1 = t1 → WS p l e { frames := 4, cells := 0, slots := 0, locals := 82 } s m args below meth c Q E 4 10 [(0, .ref 0), (1, .int a1), (2, .int a2)] [.int (bI t1)] (σ, τ, q) := by
    intro t1  e_t1
    rw [eTt1] at e_t1
    refine wi_istore_n hC [(3, .int (bI t1)), (0, .ref 0), (1, .int a1), (2, .int a2)] d_PS_doWithWords_10 rfl (by decide) rfl ?_
    refine wi_iload_n hC 3 d_PS_doWithWords_11 rfl rfl ?_
    obtain ⟨Tt2, eTt2⟩ : ∃ y : St, y = (
            if a2 = 4 then
              let s1 : St := f_PS_readEnvironment σ
              if t1 = true then
                s1
              else
                let s2 : St := f_PS_readRegisters s1
                s2
            else
              if a2 = 5 then
                let s3 : St := sI σ 6 3 (Int64.toInt32 (f_Mem_bits σ 0 2))
                s3
              else
                if a2 = 6 then
                  let s4 : St := f_PS_writeEnvironment σ
                  if t1 = true then
                    s4
                  else
                    let s5 : St := f_PS_writeRegisters s4
                    let s6 : St := f_PS_beInitial s5
                    s6
                else
                  let t3 : Int64 := 
                      if t1 = true then
                        Int32.toInt64 (gI σ 6 3)
                      else
                        Int32.toInt64 (f_PS_status σ)
                  let s7 : St := f_Mem_put σ 0 2 t3
                  s7) := ⟨_, rfl⟩
    have Jt2 : ∀ (t2 : St), Tt2 = t2 → WS p l e { frames := 4, cells := 0, slots := 0, locals := 82 } s m args below meth c Q E 4 123 [(3, .int (bI t1)), (0, .ref 0), (1, .int a1), (2, .int a2)] [] (t2, τ, q) := by
      intro t2  e_t2
      rw [eTt2] at e_t2
      have hf : f_PS_doWithWords σ a1 a2 = t2 := by subst e_t2; subst e_t1; exact rfl
      exact wi_vret hC hr hk d_PS_doWithWords_123 rfl (congrArg (fun z => (z, τ, q)) hf).symm hQ
    refine wi_by (a2 = 4) (fun h2 => ?_) (fun h2 => ?_)
    · skip
      refine wi_tsIn hC 4 40 d_PS_doWithWords_12 (by rw [h2]; decide) (by decide) rfl (by decide) ?_
      refine wi_aload_n hC 1 d_PS_doWithWords_40 rfl rfl ?_
      refine k_PS_readEnvironment hC  wd_440 (by decide) (Nat.le_of_ble_eq_true rfl) d_PS_doWithWords_41 ?_
      refine wi_nmC (fun s1 e_s1 => ?_)
      refine wi_iload_n hC 0 d_PS_doWithWords_44 rfl rfl ?_
      refine wi_z_ne (b := t1) hC 123 d_PS_doWithWords_45 (by decide) (fun h3 => ?_) (fun h3 => ?_)
      · skip
        exact Jt2 s1 (by subst e_s1; exact (Eq.trans eTt2 (Eq.trans (if_pos h2) (if_pos h3))))
      · skip
        refine wi_aload_n hC 1 d_PS_doWithWords_48 rfl rfl ?_
        refine k_PS_readRegisters hC  wd_441 (by decide) (Nat.le_of_ble_eq_true rfl) d_PS_doWithWords_49 ?_
        refine wi_nmC (fun s2 e_s2 => ?_)
        refine wi_goto hC 123 d_PS_doWithWords_52 (by decide) ?_
        exact Jt2 s2 (by subst e_s2; subst e_s1; exact (Eq.trans eTt2 (Eq.trans (if_pos h2) (if_neg h3))))
    · skip
      refine wi_by (a2 = 5) (fun h4 => ?_) (fun h4 => ?_)
      · skip
        refine wi_tsIn hC 5 55 d_PS_doWithWords_12 (by rw [h4]; decide) (by decide) rfl (by decide) ?_
        refine wi_aload_n hC 1 d_PS_doWithWords_55 rfl rfl ?_
        refine wg_PS_control hC wd_385 d_PS_doWithWords_56 ?_
        refine wi_aload_n hC 1 d_PS_doWithWords_59 rfl rfl ?_
        refine wg_PS_row hC wd_407 d_PS_doWithWords_60 ?_
        refine wi_iconst hC 0 (by decide) d_PS_doWithWords_63 ?_
        refine wi_iconst hC 2 (by decide) d_PS_doWithWords_64 ?_
        refine k_Mem_bits hC (by decide) wd_408 (by decide) (Nat.le_of_ble_eq_true rfl) d_PS_doWithWords_65 ?_
        refine wi_l2i hC d_PS_doWithWords_68 ?_
        refine wp_Ctl_setting hC wd_386 d_PS_doWithWords_69 ?_
        refine wi_nmC (fun s3 e_s3 => ?_)
        refine wi_goto hC 123 d_PS_doWithWords_72 (by decide) ?_
        exact Jt2 s3 (by subst e_s3; exact (Eq.trans eTt2 (Eq.trans (if_neg h2) (if_pos h4))))
      · skip
        refine wi_by (a2 = 6) (fun h5 => ?_) (fun h5 => ?_)
        · skip
          refine wi_tsIn hC 6 75 d_PS_doWithWords_12 (by rw [h5]; decide) (by decide) rfl (by decide) ?_
          refine wi_aload_n hC 1 d_PS_doWithWords_75 rfl rfl ?_
          refine k_PS_writeEnvironment hC  wd_442 (by decide) (Nat.le_of_ble_eq_true rfl) d_PS_doWithWords_76 ?_
          refine wi_nmC (fun s4 e_s4 => ?_)
          refine wi_iload_n hC 0 d_PS_doWithWords_79 rfl rfl ?_
          refine wi_z_ne (b := t1) hC 123 d_PS_doWithWords_80 (by decide) (fun h6 => ?_) (fun h6 => ?_)
          · skip
            exact Jt2 s4 (by subst e_s4; exact (Eq.trans eTt2 (Eq.trans (if_neg h2) (Eq.trans (if_neg h4) (Eq.trans (if_pos h5) (if_pos h6))))))
          · skip
            refine wi_aload_n hC 1 d_PS_doWithWords_83 rfl rfl ?_
            refine k_PS_writeRegisters hC  wd_443 (by decide) (Nat.le_of_ble_eq_true rfl) d_PS_doWithWords_84 ?_
            refine wi_nmC (fun s5 e_s5 => ?_)
            refine wi_aload_n hC 1 d_PS_doWithWords_87 rfl rfl ?_
            refine k_PS_beInitial hC  wd_444 (by decide) (Nat.le_of_ble_eq_true rfl) d_PS_doWithWords_88 ?_
            refine wi_nmC (fun s6 e_s6 => ?_)
            refine wi_goto hC 123 d_PS_doWithWords_91 (by decide) ?_
            exact Jt2 s6 (by subst e_s6; subst e_s5; subst e_s4; exact (Eq.trans eTt2 (Eq.trans (if_neg h2) (Eq.trans (if_neg h4) (Eq.trans (if_pos h5) (if_neg h6))))))
        · skip
          refine wi_tsOut hC 94 d_PS_doWithWords_12 (by have q4 := lv_neT h2 (a := 4) (by decide); have q5 := lv_neT h4 (a := 5) (by decide); have q6 := lv_neT h5 (a := 6) (by decide); omega) (by decide) ?_
          refine wi_aload_n hC 1 d_PS_doWithWords_94 rfl rfl ?_
          refine wg_PS_row hC wd_407 d_PS_doWithWords_95 ?_
          refine wi_iconst hC 0 (by decide) d_PS_doWithWords_98 ?_
          refine wi_iconst hC 2 (by decide) d_PS_doWithWords_99 ?_
          refine wi_iload_n hC 0 d_PS_doWithWords_100 rfl rfl ?_
          obtain ⟨Tt3, eTt3⟩ : ∃ y : Int64, y = (
                  if t1 = true then
                    Int32.toInt64 (gI σ 6 3)
                  else
                    Int32.toInt64 (f_PS_status σ)) := ⟨_, rfl⟩
          have Jt3 : ∀ (t3 : Int64), Tt3 = t3 → WS p l e { frames := 4, cells := 0, slots := 0, locals := 82 } s m args below meth c Q E 4 120 [(3, .int (bI t1)), (0, .ref 0), (1, .int a1), (2, .int a2)] [.long t3, .int 2, .int 0, .ref 1] (σ, τ, q) := by
            intro t3  e_t3
            rw [eTt3] at e_t3
            refine k_Mem_put hC  wd_429 (by decide) (Nat.le_of_ble_eq_true rfl) d_PS_doWithWords_120 ?_
            refine wi_nmC (fun s7 e_s7 => ?_)
            exact Jt2 s7 (by subst e_s7; subst e_t3; exact (Eq.trans eTt2 (Eq.trans (if_neg h2) (Eq.trans (if_neg h4) (if_neg h5)))))
          refine wi_z_eq (b := t1) hC 115 d_PS_doWithWords_101 (by decide) (fun h7 => ?_) (fun h7 => ?_)
          · skip
            refine wi_aload_n hC 1 d_PS_doWithWords_115 rfl rfl ?_
            refine k_PS_status hC  wd_430 (by decide) (Nat.le_of_ble_eq_true rfl) d_PS_doWithWords_116 ?_
            refine wi_i2l hC d_PS_doWithWords_119 ?_
            exact Jt3 (Int32.toInt64 (f_PS_status σ)) (by exact (Eq.trans eTt3 (if_neg h7)))
          · skip
            refine wi_aload_n hC 1 d_PS_doWithWords_104 rfl rfl ?_
            refine wg_PS_control hC wd_385 d_PS_doWithWords_105 ?_
            refine wg_Ctl_setting hC wd_386 d_PS_doWithWords_108 ?_
            refine wi_i2l hC d_PS_doWithWords_111 ?_
            refine wi_goto hC 120 d_PS_doWithWords_112 (by decide) ?_
            exact Jt3 (Int32.toInt64 (gI σ 6 3)) (by exact (Eq.trans eTt3 (if_pos h7)))
  refine wi_icmp_ne hC 9 d_PS_doWithWords_2 (by decide) (fun h1 => ?_) (fun h1 => ?_)
  · skip
    refine wi_iconst hC 0 (by decide) d_PS_doWithWords_9 ?_
    exact Jt1 false (by exact (Eq.trans eTt1 (if_neg h1)))
  · skip
    refine wi_iconst hC 1 (by decide) d_PS_doWithWords_5 ?_
    refine wi_goto hC 10 d_PS_doWithWords_6 (by decide) ?_
    exact Jt1 true (by exact (Eq.trans eTt1 (if_pos h1)))
theorem k_PS_doWithWords {p : Program} {l : Launch} {e : Env} {R : Room} {s : State} {m : MethodId} {args : Array Value} {below : List Frame} {meth : Method} {c : Code} {Q : State → Prop} {E : Ev} {nL pc index : Nat} {lv : List (Nat × Value)} {rest : List Value} {cc : ByteArray} {own : String} {σ τ : St} {q : Int64} {a1 : Int32} {a2 : Int32} (hC : Cx p s m args c cc nL own E)   (hl : Cond.methodLink own index y_PS_doWithWords ∈ WL) (hR : 4 + 1 ≤ R.frames ∧ 8 + (4 + 11) + 82 ≤ R.locals) (hs8 : (rest.map fun v => v.category).sum ≤ 8) (d : decode cc pc = .ok (.invokevirtual index, 3)) (k : WS p l e R s m args below meth c Q E nL (pc + 3) lv rest ((f_PS_doWithWords σ a1 a2), τ, q)) : WS p l e R s m args below meth c Q E nL pc lv (.int a2 :: .int a1 :: .ref 0 :: rest) (σ, τ, q) := by
  exact wi_callV hC (n := 2) (vs := [.int a1, .int a2]) (rest := rest) 0 0 (by decide) rfl rfl rfl (c_PS_doWithWords l E σ τ q a1 a2 ) (by decide +kernel) wd_445 wd_395 wd_446 wd_447 ⟨rfl, rfl⟩ rfl rfl hl hR hs8 d k
set_option maxRecDepth 100000 in
set_option maxHeartbeats 400000 in
theorem c_PS_need (l : Launch) (E : Ev) (σ τ : St) (q : Int64) (a1 : Int32) (a2 : Nat) (ha2 : isReal a2) : MF l y_PS_need prog_1_method_24_code 4 none { frames := 2, cells := 0, slots := 0, locals := 44 } E [.ref 0, .int a1, .ref a2] (σ, τ, q) none ((f_PS_need σ a1 a2), τ, q) := by
  refine MF_intro (lv0 := [(0, .ref 0), (1, .int a1), (2, .ref a2)]) (by decide) wd_451 (Nat.le_of_ble_eq_true rfl) rfl ?_
  intro p e s m args below meth c Q hC hr hk hQ
  replace hC : Cx p s m args c prog_1_method_24_code 4 "PartnerStack" E := hC
  refine wi_aload_n hC 0 d_PS_need_0 rfl rfl ?_
  refine wi_iload_n hC 1 d_PS_need_1 rfl rfl ?_
  refine k_PS_place hC  wd_417 (by decide) (Nat.le_of_ble_eq_true rfl) d_PS_need_2 ?_
  refine wi_nmI (fun v1 e_v1 => ?_)
  refine wi_istore_n hC [(3, .int v1), (0, .ref 0), (1, .int a1), (2, .ref a2)] d_PS_need_5 rfl (by decide) rfl ?_
  refine wi_aload_n hC 1 d_PS_need_6 rfl rfl ?_
  refine wg_PS_empty hC wd_390 d_PS_need_7 ?_
  refine wi_iload_n hC 0 d_PS_need_10 rfl rfl ?_
  refine wa_ld29 hC (by rw [← e_v1]; exact (place_in _ _)) d_PS_need_11 ?_
  obtain ⟨Tt1, eTt1⟩ : ∃ y : St, y = (
          if gZ σ 101 (jat v1) = true then
            let s2 : St := f_Ctl_tell σ 1
            let s3 : St := f_Real_setIndefinite s2 a2
            s3
          else
            let s1 : St := f_Real_take σ a2 (16 + jat v1)
            s1) := ⟨_, rfl⟩
  have Jt1 : ∀ (t1 : St), Tt1 = t1 → WS p l e { frames := 2, cells := 0, slots := 0, locals := 44 } s m args below meth c Q E 4 40 [(3, .int v1), (0, .ref 0), (1, .int a1), (2, .ref a2)] [] (t1, τ, q) := by
    intro t1  e_t1
    rw [eTt1] at e_t1
    have hf : f_PS_need σ a1 a2 = t1 := by subst e_t1; subst e_v1; exact rfl
    exact wi_vret hC hr hk d_PS_need_40 rfl (congrArg (fun z => (z, τ, q)) hf).symm hQ
  refine wi_z_eq (b := (gZ σ 101 (jat v1))) hC 30 d_PS_need_12 (by decide) (fun h1 => ?_) (fun h1 => ?_)
  · skip
    refine wi_aload_n hC 3 d_PS_need_30 rfl rfl ?_
    refine wi_aload_n hC 1 d_PS_need_31 rfl rfl ?_
    refine wg_PS_registers hC wd_416 d_PS_need_32 ?_
    refine wi_iload_n hC 0 d_PS_need_35 rfl rfl ?_
    refine wa_ld28 hC (by rw [← e_v1]; exact (place_in _ _)) d_PS_need_36 ?_
    refine k_Real_take hC ha2 (isReg (by rw [← e_v1]; exact (place_in _ _))) wd_448 (by decide) (Nat.le_of_ble_eq_true rfl) d_PS_need_37 ?_
    refine wi_nmC (fun s1 e_s1 => ?_)
    exact Jt1 s1 (by subst e_s1; exact (Eq.trans eTt1 (if_neg h1)))
  · skip
    refine wi_aload_n hC 1 d_PS_need_15 rfl rfl ?_
    refine wg_PS_control hC wd_385 d_PS_need_16 ?_
    refine wi_iconst hC 1 (by decide) d_PS_need_19 ?_
    refine k_Ctl_tell hC  wd_449 (by decide) (Nat.le_of_ble_eq_true rfl) d_PS_need_20 ?_
    refine wi_nmC (fun s2 e_s2 => ?_)
    refine wi_aload_n hC 3 d_PS_need_23 rfl rfl ?_
    refine k_Real_setIndefinite hC ha2 wd_450 (by decide) (Nat.le_of_ble_eq_true rfl) d_PS_need_24 ?_
    refine wi_nmC (fun s3 e_s3 => ?_)
    refine wi_goto hC 40 d_PS_need_27 (by decide) ?_
    exact Jt1 s3 (by subst e_s3; subst e_s2; exact (Eq.trans eTt1 (if_pos h1)))
theorem k_PS_need {p : Program} {l : Launch} {e : Env} {R : Room} {s : State} {m : MethodId} {args : Array Value} {below : List Frame} {meth : Method} {c : Code} {Q : State → Prop} {E : Ev} {nL pc index : Nat} {lv : List (Nat × Value)} {rest : List Value} {cc : ByteArray} {own : String} {σ τ : St} {q : Int64} {a1 : Int32} {a2 : Nat} (hC : Cx p s m args c cc nL own E)  (ha2 : isReal a2) (hl : Cond.methodLink own index y_PS_need ∈ WL) (hR : 2 + 1 ≤ R.frames ∧ 8 + (4 + 11) + 44 ≤ R.locals) (hs8 : (rest.map fun v => v.category).sum ≤ 8) (d : decode cc pc = .ok (.invokevirtual index, 3)) (k : WS p l e R s m args below meth c Q E nL (pc + 3) lv rest ((f_PS_need σ a1 a2), τ, q)) : WS p l e R s m args below meth c Q E nL pc lv (.ref a2 :: .int a1 :: .ref 0 :: rest) (σ, τ, q) := by
  exact wi_callV hC (n := 2) (vs := [.int a1, .ref a2]) (rest := rest) 0 0 (by decide) rfl rfl rfl (c_PS_need l E σ τ q a1 a2 ha2) (by decide +kernel) wd_451 wd_395 wd_452 wd_453 ⟨rfl, rfl⟩ rfl rfl hl hR hs8 d k
set_option maxRecDepth 100000 in
set_option maxHeartbeats 400000 in
theorem c_PS_pop (l : Launch) (E : Ev) (σ τ : St) (q : Int64)   : MF l y_PS_pop prog_1_method_26_code 1 none { frames := 1, cells := 0, slots := 0, locals := 21 } E [.ref 0] (σ, τ, q) none ((f_PS_pop σ), τ, q) := by
  refine MF_intro (lv0 := [(0, .ref 0)]) (by decide) wd_454 (Nat.le_of_ble_eq_true rfl) rfl ?_
  intro p e s m args below meth c Q hC hr hk hQ
  replace hC : Cx p s m args c prog_1_method_26_code 1 "PartnerStack" E := hC
  refine wi_aload_n hC 0 d_PS_pop_0 rfl rfl ?_
  refine wg_PS_empty hC wd_390 d_PS_pop_1 ?_
  refine wi_aload_n hC 0 d_PS_pop_4 rfl rfl ?_
  refine wg_PS_top hC wd_389 d_PS_pop_5 ?_
  refine wi_iconst hC 1 (by decide) d_PS_pop_8 ?_
  refine wi_inv (fun hv1 => ?_)
  refine wa_st29 hC true rfl hv1.1 d_PS_pop_9 ?_
  refine wi_nmC (fun s1 e_s1 => ?_)
  refine wi_aload_n hC 0 d_PS_pop_10 rfl rfl ?_
  refine wi_aload_n hC 0 d_PS_pop_11 rfl rfl ?_
  refine wi_iconst hC 1 (by decide) d_PS_pop_12 ?_
  refine k_PS_place hC  wd_417 (by decide) (Nat.le_of_ble_eq_true rfl) d_PS_pop_13 ?_
  refine wp_PS_top hC (place_in _ _) wd_389 d_PS_pop_16 ?_
  refine wi_nmC (fun s2 e_s2 => ?_)
  have hf : f_PS_pop σ = s2 := by subst e_s2; subst e_s1; exact rfl
  exact wi_vret hC hr hk d_PS_pop_19 rfl (congrArg (fun z => (z, τ, q)) hf).symm hQ
theorem k_PS_pop {p : Program} {l : Launch} {e : Env} {R : Room} {s : State} {m : MethodId} {args : Array Value} {below : List Frame} {meth : Method} {c : Code} {Q : State → Prop} {E : Ev} {nL pc index : Nat} {lv : List (Nat × Value)} {rest : List Value} {cc : ByteArray} {own : String} {σ τ : St} {q : Int64}  (hC : Cx p s m args c cc nL own E)   (hl : Cond.methodLink own index y_PS_pop ∈ WL) (hR : 1 + 1 ≤ R.frames ∧ 8 + (1 + 11) + 21 ≤ R.locals) (hs8 : (rest.map fun v => v.category).sum ≤ 8) (d : decode cc pc = .ok (.invokevirtual index, 3)) (k : WS p l e R s m args below meth c Q E nL (pc + 3) lv rest ((f_PS_pop σ), τ, q)) : WS p l e R s m args below meth c Q E nL pc lv (.ref 0 :: rest) (σ, τ, q) := by
  exact wi_callV hC (n := 0) (vs := []) (rest := rest) 0 0 (by decide) rfl rfl rfl (c_PS_pop l E σ τ q  ) (by decide +kernel) wd_454 wd_395 wd_455 wd_456 ⟨rfl, rfl⟩ rfl rfl hl hR hs8 d k
set_option maxRecDepth 100000 in
set_option maxHeartbeats 400000 in
theorem c_PS_compare (l : Launch) (E : Ev) (σ τ : St) (q : Int64) (a1 : Int32)  : MF l y_PS_compare prog_1_method_31_code 4 none { frames := 4, cells := 0, slots := 0, locals := 95 } E [.ref 0, .int a1] (σ, τ, q) none ((f_PS_compare σ a1), τ, q) := by
  refine MF_intro (lv0 := [(0, .ref 0), (1, .int a1)]) (by decide) wd_464 (Nat.le_of_ble_eq_true rfl) rfl ?_
  intro p e s m args below meth c Q hC hr hk hQ
  replace hC : Cx p s m args c prog_1_method_31_code 4 "PartnerStack" E := hC
  refine wi_aload_n hC 0 d_PS_compare_0 rfl rfl ?_
  refine wg_PS_control hC wd_385 d_PS_compare_1 ?_
  refine k_Ctl_ends hC  wd_457 (by decide) (Nat.le_of_ble_eq_true rfl) d_PS_compare_4 ?_
  refine wi_z_eq (b := (f_Ctl_ends σ)) hC 11 d_PS_compare_7 (by decide) (fun h1 => ?_) (fun h1 => ?_)
  · skip
    refine wi_aload_n hC 0 d_PS_compare_11 rfl rfl ?_
    refine wg_PS_steps hC wd_458 d_PS_compare_12 ?_
    refine wi_aload_n hC 0 d_PS_compare_15 rfl rfl ?_
    refine wg_PS_left hC wd_459 d_PS_compare_16 ?_
    refine wi_aload_n hC 0 d_PS_compare_19 rfl rfl ?_
    refine wg_PS_right hC wd_460 d_PS_compare_20 ?_
    refine wi_aload_n hC 0 d_PS_compare_23 rfl rfl ?_
    refine wg_PS_answer hC wd_461 d_PS_compare_24 ?_
    refine k_Steps_compare hC (by unfold isReal; decide) (by unfold isReal; decide) (by unfold isReal; decide) wd_462 (by decide) (Nat.le_of_ble_eq_true rfl) d_PS_compare_27 ?_
    obtain ⟨r1, e_r1⟩ : ∃ y : Int32 × St, f_Steps_compare σ 12 13 14 = y := ⟨_, rfl⟩
    rw [e_r1]
    refine wi_istore_n hC [(2, .int r1.1), (0, .ref 0), (1, .int a1)] d_PS_compare_30 rfl (by decide) rfl ?_
    refine wi_aload_n hC 1 d_PS_compare_31 rfl rfl ?_
    refine wg_PS_control hC wd_385 d_PS_compare_32 ?_
    refine k_Ctl_ends hC  wd_457 (by decide) (Nat.le_of_ble_eq_true rfl) d_PS_compare_35 ?_
    refine wi_z_eq (b := (f_Ctl_ends r1.2)) hC 42 d_PS_compare_38 (by decide) (fun h2 => ?_) (fun h2 => ?_)
    · skip
      refine wi_aload_n hC 1 d_PS_compare_42 rfl rfl ?_
      refine wi_dup hC rfl d_PS_compare_43 ?_
      refine wg_PS_conditions hC wd_388 d_PS_compare_44 ?_
      refine wi_sipush hC 512 (by decide) d_PS_compare_47 ?_
      refine wi_iand hC d_PS_compare_50 ?_
      refine wp_PS_conditions hC wd_388 d_PS_compare_51 ?_
      refine wi_nmC (fun s1 e_s1 => ?_)
      refine wi_iload_n hC 0 d_PS_compare_54 rfl rfl ?_
      refine wi_iconst hC 2 (by decide) d_PS_compare_55 ?_
      obtain ⟨Tt1, eTt1⟩ : ∃ y : St, y = (
              if r1.1 = 2 then
                let s3 : St := sI s1 2 0 ((gI s1 2 0) ||| 17664)
                s3
              else
                if 0 < r1.1 then
                  s1
                else
                  let t2 : Int32 := 
                      if 0 ≤ r1.1 then
                        16384
                      else
                        256
                  let s2 : St := sI s1 2 0 ((gI s1 2 0) ||| t2)
                  s2) := ⟨_, rfl⟩
      have Jt1 : ∀ (t1 : St), Tt1 = t1 → WS p l e { frames := 4, cells := 0, slots := 0, locals := 95 } s m args below meth c Q E 4 100 [(2, .int r1.1), (0, .ref 0), (1, .int a1)] [] (t1, τ, q) := by
        intro t1  e_t1
        rw [eTt1] at e_t1
        refine wi_iconst hC 0 (by decide) d_PS_compare_100 ?_
        refine wi_istore_n hC [(3, .int 0), (2, .int r1.1), (0, .ref 0), (1, .int a1)] d_PS_compare_101 rfl (by decide) rfl ?_
        refine wi_loop ((b_PS_compare_102 a1)) (fun t4 => 0 ≤ (t4.1).toInt) (fun t4 => [(3, .int t4.1), (2, .int r1.1), (0, .ref 0), (1, .int a1)]) (fun t4 => (t4.2, τ, q)) 117 ?_ (up_inv (b := (b_PS_compare_102 a1)) (fun t => t.1) a1 0 (st_b_PS_compare_102 a1)) (upf a1 0) (0, t1) (show (0 : Int) ≤ (0 : Int32).toInt by decide) (up_halt (b := (b_PS_compare_102 a1)) (fun t => t.1) a1 (st_b_PS_compare_102 a1) (0, t1)) ?_
        · intro t4 hi_t4 hc_t4 hx_t4
          refine wi_iload_n hC 0 d_PS_compare_102 rfl rfl ?_
          refine wi_iload_n hC 3 d_PS_compare_103 rfl rfl ?_
          refine wi_icmp_ge hC 117 d_PS_compare_104 (by decide) (fun h6 => ?_) (fun h6 => ?_)
          · skip
            exact hx_t4 (t4.1, t4.2) (by exact (if_pos h6))
          · skip
            refine wi_aload_n hC 2 d_PS_compare_107 rfl rfl ?_
            refine k_PS_pop hC  wd_463 (by decide) (Nat.le_of_ble_eq_true rfl) d_PS_compare_108 ?_
            refine wi_nmC (fun s4 e_s4 => ?_)
            obtain ⟨v1, e_v1⟩ : ∃ y : Int32, t4.1 + 1 = y := ⟨_, rfl⟩
            refine wi_iinc hC 0 v1 [(3, .int v1), (2, .int r1.1), (0, .ref 0), (1, .int a1)] d_PS_compare_111 rfl (by rw [← e_v1]; rfl) (by decide) rfl ?_
            refine wi_goto hC 102 d_PS_compare_114 (by decide) ?_
            exact hc_t4 (v1, s4) (by subst e_v1; subst e_s4; exact (if_neg h6))
        obtain ⟨t3, e_t3⟩ : ∃ y : Int32 × St, lpn ((b_PS_compare_102 a1)) (upf a1 0) (0, t1) = y := ⟨_, rfl⟩
        rw [e_t3]
        have hf : f_PS_compare σ a1 = t3.2 := by subst e_t3; subst e_t1; subst e_s1; subst e_r1; exact (Eq.trans (if_neg h1) (if_neg h2))
        exact wi_vret hC hr hk d_PS_compare_117 rfl (congrArg (fun z => (z, τ, q)) hf).symm hQ
      refine wi_icmp_ne hC 74 d_PS_compare_56 (by decide) (fun h3 => ?_) (fun h3 => ?_)
      · skip
        refine wi_iload_n hC 0 d_PS_compare_74 rfl rfl ?_
        refine wi_if_gt hC 100 d_PS_compare_75 (by decide) (fun h4 => ?_) (fun h4 => ?_)
        · skip
          exact Jt1 s1 (by exact (Eq.trans eTt1 (Eq.trans (if_neg h3) (if_pos h4))))
        · skip
          refine wi_aload_n hC 1 d_PS_compare_78 rfl rfl ?_
          refine wi_dup hC rfl d_PS_compare_79 ?_
          refine wg_PS_conditions hC wd_388 d_PS_compare_80 ?_
          refine wi_iload_n hC 0 d_PS_compare_83 rfl rfl ?_
          obtain ⟨Tt2, eTt2⟩ : ∃ y : Int32, y = (
                  if 0 ≤ r1.1 then
                    16384
                  else
                    256) := ⟨_, rfl⟩
          have Jt2 : ∀ (t2 : Int32), Tt2 = t2 → WS p l e { frames := 4, cells := 0, slots := 0, locals := 95 } s m args below meth c Q E 4 96 [(2, .int r1.1), (0, .ref 0), (1, .int a1)] [.int t2, .int (gI s1 2 0), .ref 0] (s1, τ, q) := by
            intro t2  e_t2
            rw [eTt2] at e_t2
            refine wi_ior hC d_PS_compare_96 ?_
            refine wp_PS_conditions hC wd_388 d_PS_compare_97 ?_
            refine wi_nmC (fun s2 e_s2 => ?_)
            exact Jt1 s2 (by subst e_s2; subst e_t2; exact (Eq.trans eTt1 (Eq.trans (if_neg h3) (if_neg h4))))
          refine wi_if_ge hC 93 d_PS_compare_84 (by decide) (fun h5 => ?_) (fun h5 => ?_)
          · skip
            refine wi_sipush hC 16384 (by decide) d_PS_compare_93 ?_
            exact Jt2 16384 (by exact (Eq.trans eTt2 (if_pos h5)))
          · skip
            refine wi_sipush hC 256 (by decide) d_PS_compare_87 ?_
            refine wi_goto hC 96 d_PS_compare_90 (by decide) ?_
            exact Jt2 256 (by exact (Eq.trans eTt2 (if_neg h5)))
      · skip
        refine wi_aload_n hC 1 d_PS_compare_59 rfl rfl ?_
        refine wi_dup hC rfl d_PS_compare_60 ?_
        refine wg_PS_conditions hC wd_388 d_PS_compare_61 ?_
        refine wi_sipush hC 17664 (by decide) d_PS_compare_64 ?_
        refine wi_ior hC d_PS_compare_67 ?_
        refine wp_PS_conditions hC wd_388 d_PS_compare_68 ?_
        refine wi_nmC (fun s3 e_s3 => ?_)
        refine wi_goto hC 100 d_PS_compare_71 (by decide) ?_
        exact Jt1 s3 (by subst e_s3; exact (Eq.trans eTt1 (if_pos h3)))
    · skip
      have hf : f_PS_compare σ a1 = r1.2 := by subst e_r1; exact (Eq.trans (if_neg h1) (if_pos h2))
      exact wi_vret hC hr hk d_PS_compare_41 rfl (congrArg (fun z => (z, τ, q)) hf).symm hQ
  · skip
    have hf : f_PS_compare σ a1 = σ := by exact (if_pos h1)
    exact wi_vret hC hr hk d_PS_compare_10 rfl (congrArg (fun z => (z, τ, q)) hf).symm hQ
theorem k_PS_compare {p : Program} {l : Launch} {e : Env} {R : Room} {s : State} {m : MethodId} {args : Array Value} {below : List Frame} {meth : Method} {c : Code} {Q : State → Prop} {E : Ev} {nL pc index : Nat} {lv : List (Nat × Value)} {rest : List Value} {cc : ByteArray} {own : String} {σ τ : St} {q : Int64} {a1 : Int32} (hC : Cx p s m args c cc nL own E)   (hl : Cond.methodLink own index y_PS_compare ∈ WL) (hR : 4 + 1 ≤ R.frames ∧ 8 + (4 + 11) + 95 ≤ R.locals) (hs8 : (rest.map fun v => v.category).sum ≤ 8) (d : decode cc pc = .ok (.invokevirtual index, 3)) (k : WS p l e R s m args below meth c Q E nL (pc + 3) lv rest ((f_PS_compare σ a1), τ, q)) : WS p l e R s m args below meth c Q E nL pc lv (.int a1 :: .ref 0 :: rest) (σ, τ, q) := by
  exact wi_callV hC (n := 1) (vs := [.int a1]) (rest := rest) 0 0 (by decide) rfl rfl rfl (c_PS_compare l E σ τ q a1 ) (by decide +kernel) wd_464 wd_395 wd_465 wd_466 ⟨rfl, rfl⟩ rfl rfl hl hR hs8 d k
set_option maxRecDepth 100000 in
set_option maxHeartbeats 400000 in
theorem c_PS_keep (l : Launch) (E : Ev) (σ τ : St) (q : Int64) (a1 : Int32) (a2 : Nat) (ha2 : isReal a2) : MF l y_PS_keep prog_1_method_25_code 4 none { frames := 1, cells := 0, slots := 0, locals := 21 } E [.ref 0, .int a1, .ref a2] (σ, τ, q) none ((f_PS_keep σ a1 a2), τ, q) := by
  refine MF_intro (lv0 := [(0, .ref 0), (1, .int a1), (2, .ref a2)]) (by decide) wd_467 (Nat.le_of_ble_eq_true rfl) rfl ?_
  intro p e s m args below meth c Q hC hr hk hQ
  replace hC : Cx p s m args c prog_1_method_25_code 4 "PartnerStack" E := hC
  refine wi_aload_n hC 0 d_PS_keep_0 rfl rfl ?_
  refine wi_iload_n hC 1 d_PS_keep_1 rfl rfl ?_
  refine k_PS_place hC  wd_417 (by decide) (Nat.le_of_ble_eq_true rfl) d_PS_keep_2 ?_
  refine wi_nmI (fun v1 e_v1 => ?_)
  refine wi_istore_n hC [(3, .int v1), (0, .ref 0), (1, .int a1), (2, .ref a2)] d_PS_keep_5 rfl (by decide) rfl ?_
  refine wi_aload_n hC 1 d_PS_keep_6 rfl rfl ?_
  refine wg_PS_registers hC wd_416 d_PS_keep_7 ?_
  refine wi_iload_n hC 0 d_PS_keep_10 rfl rfl ?_
  refine wa_ld28 hC (by rw [← e_v1]; exact (place_in _ _)) d_PS_keep_11 ?_
  refine wi_aload_n hC 3 d_PS_keep_12 rfl rfl ?_
  refine k_Real_take hC (isReg (by rw [← e_v1]; exact (place_in _ _))) ha2 wd_448 (by decide) (Nat.le_of_ble_eq_true rfl) d_PS_keep_13 ?_
  refine wi_nmC (fun s1 e_s1 => ?_)
  refine wi_aload_n hC 1 d_PS_keep_16 rfl rfl ?_
  refine wg_PS_empty hC wd_390 d_PS_keep_17 ?_
  refine wi_iload_n hC 0 d_PS_keep_20 rfl rfl ?_
  refine wi_iconst hC 0 (by decide) d_PS_keep_21 ?_
  refine wa_st29 hC false rfl (by rw [← e_v1]; exact (place_in _ _)) d_PS_keep_22 ?_
  refine wi_nmC (fun s2 e_s2 => ?_)
  have hf : f_PS_keep σ a1 a2 = s2 := by subst e_s2; subst e_s1; subst e_v1; exact rfl
  exact wi_vret hC hr hk d_PS_keep_23 rfl (congrArg (fun z => (z, τ, q)) hf).symm hQ
theorem k_PS_keep {p : Program} {l : Launch} {e : Env} {R : Room} {s : State} {m : MethodId} {args : Array Value} {below : List Frame} {meth : Method} {c : Code} {Q : State → Prop} {E : Ev} {nL pc index : Nat} {lv : List (Nat × Value)} {rest : List Value} {cc : ByteArray} {own : String} {σ τ : St} {q : Int64} {a1 : Int32} {a2 : Nat} (hC : Cx p s m args c cc nL own E)  (ha2 : isReal a2) (hl : Cond.methodLink own index y_PS_keep ∈ WL) (hR : 1 + 1 ≤ R.frames ∧ 8 + (4 + 11) + 21 ≤ R.locals) (hs8 : (rest.map fun v => v.category).sum ≤ 8) (d : decode cc pc = .ok (.invokevirtual index, 3)) (k : WS p l e R s m args below meth c Q E nL (pc + 3) lv rest ((f_PS_keep σ a1 a2), τ, q)) : WS p l e R s m args below meth c Q E nL pc lv (.ref a2 :: .int a1 :: .ref 0 :: rest) (σ, τ, q) := by
  exact wi_callV hC (n := 2) (vs := [.int a1, .ref a2]) (rest := rest) 0 0 (by decide) rfl rfl rfl (c_PS_keep l E σ τ q a1 a2 ha2) (by decide +kernel) wd_467 wd_395 wd_468 wd_469 ⟨rfl, rfl⟩ rfl rfl hl hR hs8 d k
set_option maxRecDepth 100000 in
set_option maxHeartbeats 400000 in
theorem c_PS_combine (l : Launch) (E : Ev) (σ τ : St) (q : Int64) (a1 : Int32) (a2 : Int32) (a3 : Int32)  : MF l y_PS_combine prog_1_method_30_code 6 none { frames := 5, cells := 0, slots := 0, locals := 131 } E [.ref 0, .int a1, .int a2, .int a3] (σ, τ, q) none ((f_PS_combine σ a1 a2 a3), τ, q) := by
  refine MF_intro (lv0 := [(0, .ref 0), (1, .int a1), (2, .int a2), (3, .int a3)]) (by decide) wd_474 (Nat.le_of_ble_eq_true rfl) rfl ?_
  intro p e s m args below meth c Q hC hr hk hQ
  replace hC : Cx p s m args c prog_1_method_30_code 6 "PartnerStack" E := hC
  refine wi_aload_n hC 0 d_PS_combine_0 rfl rfl ?_
  refine wg_PS_control hC wd_385 d_PS_combine_1 ?_
  refine k_Ctl_ends hC  wd_457 (by decide) (Nat.le_of_ble_eq_true rfl) d_PS_combine_4 ?_
  refine wi_z_eq (b := (f_Ctl_ends σ)) hC 11 d_PS_combine_7 (by decide) (fun h1 => ?_) (fun h1 => ?_)
  · skip
    refine wi_iload_n hC 1 d_PS_combine_11 rfl rfl ?_
    refine wi_iconst hC 2 (by decide) d_PS_combine_12 ?_
    have B1 : f_PS_combine σ a1 a2 a3 = f_PS_combine_b21 σ a3 → WS p l e { frames := 5, cells := 0, slots := 0, locals := 131 } s m args below meth c Q E 6 21 [(0, .ref 0), (1, .int a1), (2, .int a2), (3, .int a3)] [] (σ, τ, q) := by
      intro hB1
      refine wi_aload_n hC 0 d_PS_combine_21 rfl rfl ?_
      refine wi_iload_n hC 3 d_PS_combine_22 rfl rfl ?_
      refine k_PS_compare hC  wd_473 (by decide) (Nat.le_of_ble_eq_true rfl) d_PS_combine_23 ?_
      refine wi_nmC (fun s4 e_s4 => ?_)
      have hf : f_PS_combine σ a1 a2 a3 = s4 := by subst e_s4; exact hB1
      exact wi_vret hC hr hk d_PS_combine_26 rfl (congrArg (fun z => (z, τ, q)) hf).symm hQ
    refine wi_icmp_eq hC 21 d_PS_combine_13 (by decide) (fun h2 => ?_) (fun h2 => ?_)
    · skip
      exact B1   (by exact (Eq.trans (if_neg h1) (if_pos h2)))
    · skip
      refine wi_iload_n hC 1 d_PS_combine_16 rfl rfl ?_
      refine wi_iconst hC 3 (by decide) d_PS_combine_17 ?_
      refine wi_icmp_ne hC 27 d_PS_combine_18 (by decide) (fun h3 => ?_) (fun h3 => ?_)
      · skip
        refine wi_iload_n hC 1 d_PS_combine_27 rfl rfl ?_
        refine wi_iconst hC 5 (by decide) d_PS_combine_28 ?_
        obtain ⟨Tt1, eTt1⟩ : ∃ y : Bool, y = (
                if a1 = 5 then
                  true
                else
                  if a1 = 7 then
                    true
                  else
                    false) := ⟨_, rfl⟩
        have Jt1 : ∀ (t1 : Bool), Tt1 = t1 → WS p l e { frames := 5, cells := 0, slots := 0, locals := 131 } s m args below meth c Q E 6 43 [(0, .ref 0), (1, .int a1), (2, .int a2), (3, .int a3)] [.int (bI t1)] (σ, τ, q) := by
          intro t1  e_t1
          rw [eTt1] at e_t1
          refine wi_istore hC [(4, .int (bI t1)), (0, .ref 0), (1, .int a1), (2, .int a2), (3, .int a3)] d_PS_combine_43 (by decide) rfl ?_
          refine wi_iconst hC 3 (by decide) d_PS_combine_45 ?_
          refine wi_istore hC [(5, .int 3), (4, .int (bI t1)), (0, .ref 0), (1, .int a1), (2, .int a2), (3, .int a3)] d_PS_combine_46 (by decide) rfl ?_
          refine wi_iload_n hC 3 d_PS_combine_48 rfl rfl ?_
          refine wi_bipush hC 6 (by decide) d_PS_combine_49 ?_
          obtain ⟨Tt2, eTt2⟩ : ∃ y : Int32, y = (
                  if 6 ≤ a1 then
                    3
                  else
                    let t3 : Int32 := 
                        if a1 = 0 then
                          0
                        else
                          if a1 = 1 then
                            2
                          else
                            1
                    t3) := ⟨_, rfl⟩
          have Jt2 : ∀ (t2 : Int32), Tt2 = t2 → WS p l e { frames := 5, cells := 0, slots := 0, locals := 131 } s m args below meth c Q E 6 74 [(5, .int t2), (4, .int (bI t1)), (0, .ref 0), (1, .int a1), (2, .int a2), (3, .int a3)] [] (σ, τ, q) := by
            intro t2  e_t2
            rw [eTt2] at e_t2
            refine wi_aload_n hC 2 d_PS_combine_74 rfl rfl ?_
            refine wg_PS_operation hC wd_470 d_PS_combine_75 ?_
            refine wi_iload hC 0 d_PS_combine_78 rfl ?_
            refine wi_iload hC 1 d_PS_combine_80 rfl ?_
            obtain ⟨Tt4, eTt4⟩ : ∃ y : Nat, y = (
                    if t1 = true then
                      13
                    else
                      12) := ⟨_, rfl⟩
            have Jt4 : ∀ (t4 : Nat) (_ : isReal t4), Tt4 = t4 → WS p l e { frames := 5, cells := 0, slots := 0, locals := 131 } s m args below meth c Q E 6 96 [(5, .int t2), (4, .int (bI t1)), (0, .ref 0), (1, .int a1), (2, .int a2), (3, .int a3)] [.ref t4, .int t2, .ref 24] (σ, τ, q) := by
              intro t4 hr_t4_0 e_t4
              rw [eTt4] at e_t4
              refine wi_iload hC 1 d_PS_combine_96 rfl ?_
              obtain ⟨Tt5, eTt5⟩ : ∃ y : Nat, y = (
                      if t1 = true then
                        12
                      else
                        13) := ⟨_, rfl⟩
              have Jt5 : ∀ (t5 : Nat) (_ : isReal t5), Tt5 = t5 → WS p l e { frames := 5, cells := 0, slots := 0, locals := 131 } s m args below meth c Q E 6 112 [(5, .int t2), (4, .int (bI t1)), (0, .ref 0), (1, .int a1), (2, .int a2), (3, .int a3)] [.ref t5, .ref t4, .int t2, .ref 24] (σ, τ, q) := by
                intro t5 hr_t5_0 e_t5
                rw [eTt5] at e_t5
                refine wi_aload_n hC 2 d_PS_combine_112 rfl rfl ?_
                refine wg_PS_answer hC wd_461 d_PS_combine_113 ?_
                refine k_Oper_operate hC hr_t4_0 hr_t5_0 (by unfold isReal; decide) wd_471 (by decide) (Nat.le_of_ble_eq_true rfl) d_PS_combine_116 ?_
                refine wi_nmC (fun s1 e_s1 => ?_)
                refine wi_aload_n hC 2 d_PS_combine_119 rfl rfl ?_
                refine wg_PS_control hC wd_385 d_PS_combine_120 ?_
                refine k_Ctl_ends hC  wd_457 (by decide) (Nat.le_of_ble_eq_true rfl) d_PS_combine_123 ?_
                refine wi_z_eq (b := (f_Ctl_ends s1)) hC 130 d_PS_combine_126 (by decide) (fun h11 => ?_) (fun h11 => ?_)
                · skip
                  refine wi_aload_n hC 2 d_PS_combine_130 rfl rfl ?_
                  refine wi_iload_n hC 4 d_PS_combine_131 rfl rfl ?_
                  refine wi_aload_n hC 2 d_PS_combine_132 rfl rfl ?_
                  refine wg_PS_answer hC wd_461 d_PS_combine_133 ?_
                  refine k_PS_keep hC (by unfold isReal; decide) wd_472 (by decide) (Nat.le_of_ble_eq_true rfl) d_PS_combine_136 ?_
                  refine wi_nmC (fun s2 e_s2 => ?_)
                  refine wi_iload_n hC 5 d_PS_combine_139 rfl rfl ?_
                  obtain ⟨Tt6, eTt6⟩ : ∃ y : St, y = (
                          if a3 ≤ 0 then
                            s2
                          else
                            let s3 : St := f_PS_pop s2
                            s3) := ⟨_, rfl⟩
                  have Jt6 : ∀ (t6 : St), Tt6 = t6 → WS p l e { frames := 5, cells := 0, slots := 0, locals := 131 } s m args below meth c Q E 6 147 [(5, .int t2), (4, .int (bI t1)), (0, .ref 0), (1, .int a1), (2, .int a2), (3, .int a3)] [] (t6, τ, q) := by
                    intro t6  e_t6
                    rw [eTt6] at e_t6
                    have hf : f_PS_combine σ a1 a2 a3 = t6 := by subst e_t6; subst e_s2; subst e_s1; subst e_t5; subst e_t4; subst e_t2; subst e_t1; exact (Eq.trans (if_neg h1) (Eq.trans (if_neg h2) (Eq.trans (if_neg h3) (if_neg h11))))
                    exact wi_vret hC hr hk d_PS_combine_147 rfl (congrArg (fun z => (z, τ, q)) hf).symm hQ
                  refine wi_if_le hC 147 d_PS_combine_140 (by decide) (fun h12 => ?_) (fun h12 => ?_)
                  · skip
                    exact Jt6 s2 (by exact (Eq.trans eTt6 (if_pos h12)))
                  · skip
                    refine wi_aload_n hC 2 d_PS_combine_143 rfl rfl ?_
                    refine k_PS_pop hC  wd_463 (by decide) (Nat.le_of_ble_eq_true rfl) d_PS_combine_144 ?_
                    refine wi_nmC (fun s3 e_s3 => ?_)
                    exact Jt6 s3 (by subst e_s3; exact (Eq.trans eTt6 (if_neg h12)))
                · skip
                  have hf : f_PS_combine σ a1 a2 a3 = s1 := by subst e_s1; subst e_t5; subst e_t4; subst e_t2; subst e_t1; exact (Eq.trans (if_neg h1) (Eq.trans (if_neg h2) (Eq.trans (if_neg h3) (if_pos h11))))
                  exact wi_vret hC hr hk d_PS_combine_129 rfl (congrArg (fun z => (z, τ, q)) hf).symm hQ
              refine wi_z_eq (b := t1) hC 108 d_PS_combine_98 (by decide) (fun h10 => ?_) (fun h10 => ?_)
              · skip
                refine wi_aload_n hC 2 d_PS_combine_108 rfl rfl ?_
                refine wg_PS_right hC wd_460 d_PS_combine_109 ?_
                exact Jt5 13 (by unfold isReal; decide) (by exact (Eq.trans eTt5 (if_neg h10)))
              · skip
                refine wi_aload_n hC 2 d_PS_combine_101 rfl rfl ?_
                refine wg_PS_left hC wd_459 d_PS_combine_102 ?_
                refine wi_goto hC 112 d_PS_combine_105 (by decide) ?_
                exact Jt5 12 (by unfold isReal; decide) (by exact (Eq.trans eTt5 (if_pos h10)))
            refine wi_z_eq (b := t1) hC 92 d_PS_combine_82 (by decide) (fun h9 => ?_) (fun h9 => ?_)
            · skip
              refine wi_aload_n hC 2 d_PS_combine_92 rfl rfl ?_
              refine wg_PS_left hC wd_459 d_PS_combine_93 ?_
              exact Jt4 12 (by unfold isReal; decide) (by exact (Eq.trans eTt4 (if_neg h9)))
            · skip
              refine wi_aload_n hC 2 d_PS_combine_85 rfl rfl ?_
              refine wg_PS_right hC wd_460 d_PS_combine_86 ?_
              refine wi_goto hC 96 d_PS_combine_89 (by decide) ?_
              exact Jt4 13 (by unfold isReal; decide) (by exact (Eq.trans eTt4 (if_pos h9)))
          refine wi_icmp_ge hC 74 d_PS_combine_51 (by decide) (fun h6 => ?_) (fun h6 => ?_)
          · skip
            exact Jt2 3 (by exact (Eq.trans eTt2 (if_pos h6)))
          · skip
            refine wi_iload_n hC 3 d_PS_combine_54 rfl rfl ?_
            obtain ⟨Tt3, eTt3⟩ : ∃ y : Int32, y = (
                    if a1 = 0 then
                      0
                    else
                      if a1 = 1 then
                        2
                      else
                        1) := ⟨_, rfl⟩
            have Jt3 : ∀ (t3 : Int32), Tt3 = t3 → WS p l e { frames := 5, cells := 0, slots := 0, locals := 131 } s m args below meth c Q E 6 72 [(5, .int 3), (4, .int (bI t1)), (0, .ref 0), (1, .int a1), (2, .int a2), (3, .int a3)] [.int t3] (σ, τ, q) := by
              intro t3  e_t3
              rw [eTt3] at e_t3
              refine wi_istore hC [(5, .int t3), (4, .int (bI t1)), (0, .ref 0), (1, .int a1), (2, .int a2), (3, .int a3)] d_PS_combine_72 (by decide) rfl ?_
              exact Jt2 t3 (by subst e_t3; exact (Eq.trans eTt2 (if_neg h6)))
            refine wi_if_ne hC 62 d_PS_combine_55 (by decide) (fun h7 => ?_) (fun h7 => ?_)
            · skip
              refine wi_iload_n hC 3 d_PS_combine_62 rfl rfl ?_
              refine wi_iconst hC 1 (by decide) d_PS_combine_63 ?_
              refine wi_icmp_ne hC 71 d_PS_combine_64 (by decide) (fun h8 => ?_) (fun h8 => ?_)
              · skip
                refine wi_iconst hC 1 (by decide) d_PS_combine_71 ?_
                exact Jt3 1 (by exact (Eq.trans eTt3 (Eq.trans (if_neg h7) (if_neg h8))))
              · skip
                refine wi_iconst hC 2 (by decide) d_PS_combine_67 ?_
                refine wi_goto hC 72 d_PS_combine_68 (by decide) ?_
                exact Jt3 2 (by exact (Eq.trans eTt3 (Eq.trans (if_neg h7) (if_pos h8))))
            · skip
              refine wi_iconst hC 0 (by decide) d_PS_combine_58 ?_
              refine wi_goto hC 72 d_PS_combine_59 (by decide) ?_
              exact Jt3 0 (by exact (Eq.trans eTt3 (if_pos h7)))
        refine wi_icmp_eq hC 38 d_PS_combine_29 (by decide) (fun h4 => ?_) (fun h4 => ?_)
        · skip
          refine wi_iconst hC 1 (by decide) d_PS_combine_38 ?_
          refine wi_goto hC 43 d_PS_combine_39 (by decide) ?_
          exact Jt1 true (by exact (Eq.trans eTt1 (if_pos h4)))
        · skip
          refine wi_iload_n hC 1 d_PS_combine_32 rfl rfl ?_
          refine wi_bipush hC 7 (by decide) d_PS_combine_33 ?_
          refine wi_icmp_ne hC 42 d_PS_combine_35 (by decide) (fun h5 => ?_) (fun h5 => ?_)
          · skip
            refine wi_iconst hC 0 (by decide) d_PS_combine_42 ?_
            exact Jt1 false (by exact (Eq.trans eTt1 (Eq.trans (if_neg h4) (if_neg h5))))
          · skip
            refine wi_iconst hC 1 (by decide) d_PS_combine_38 ?_
            refine wi_goto hC 43 d_PS_combine_39 (by decide) ?_
            exact Jt1 true (by exact (Eq.trans eTt1 (Eq.trans (if_neg h4) (if_pos h5))))
      · skip
        exact B1   (by exact (Eq.trans (if_neg h1) (Eq.trans (if_neg h2) (if_pos h3))))
  · skip
    have hf : f_PS_combine σ a1 a2 a3 = σ := by exact (if_pos h1)
    exact wi_vret hC hr hk d_PS_combine_10 rfl (congrArg (fun z => (z, τ, q)) hf).symm hQ
theorem k_PS_combine {p : Program} {l : Launch} {e : Env} {R : Room} {s : State} {m : MethodId} {args : Array Value} {below : List Frame} {meth : Method} {c : Code} {Q : State → Prop} {E : Ev} {nL pc index : Nat} {lv : List (Nat × Value)} {rest : List Value} {cc : ByteArray} {own : String} {σ τ : St} {q : Int64} {a1 : Int32} {a2 : Int32} {a3 : Int32} (hC : Cx p s m args c cc nL own E)   (hl : Cond.methodLink own index y_PS_combine ∈ WL) (hR : 5 + 1 ≤ R.frames ∧ 8 + (6 + 11) + 131 ≤ R.locals) (hs8 : (rest.map fun v => v.category).sum ≤ 8) (d : decode cc pc = .ok (.invokevirtual index, 3)) (k : WS p l e R s m args below meth c Q E nL (pc + 3) lv rest ((f_PS_combine σ a1 a2 a3), τ, q)) : WS p l e R s m args below meth c Q E nL pc lv (.int a3 :: .int a2 :: .int a1 :: .ref 0 :: rest) (σ, τ, q) := by
  exact wi_callV hC (n := 3) (vs := [.int a1, .int a2, .int a3]) (rest := rest) 0 0 (by decide) rfl rfl rfl (c_PS_combine l E σ τ q a1 a2 a3 ) (by decide +kernel) wd_474 wd_395 wd_475 wd_476 ⟨rfl, rfl⟩ rfl rfl hl hR hs8 d k
set_option maxRecDepth 100000 in
set_option maxHeartbeats 400000 in
theorem c_PS_push (l : Launch) (E : Ev) (σ τ : St) (q : Int64) (a1 : Nat) (ha1 : isReal a1) : MF l y_PS_push prog_1_method_27_code 2 none { frames := 2, cells := 0, slots := 0, locals := 44 } E [.ref 0, .ref a1] (σ, τ, q) none ((f_PS_push σ a1), τ, q) := by
  refine MF_intro (lv0 := [(0, .ref 0), (1, .ref a1)]) (by decide) wd_477 (Nat.le_of_ble_eq_true rfl) rfl ?_
  intro p e s m args below meth c Q hC hr hk hQ
  replace hC : Cx p s m args c prog_1_method_27_code 2 "PartnerStack" E := hC
  refine wi_aload_n hC 0 d_PS_push_0 rfl rfl ?_
  refine wg_PS_empty hC wd_390 d_PS_push_1 ?_
  refine wi_aload_n hC 0 d_PS_push_4 rfl rfl ?_
  refine wi_bipush hC 7 (by decide) d_PS_push_5 ?_
  refine k_PS_place hC  wd_417 (by decide) (Nat.le_of_ble_eq_true rfl) d_PS_push_7 ?_
  refine wa_ld29 hC (place_in _ _) d_PS_push_10 ?_
  obtain ⟨Tt1, eTt1⟩ : ∃ y : St, y = (
          if gZ σ 101 (jat (f_PS_place σ 7)) = true then
            σ
          else
            let s1 : St := f_Ctl_tell σ 1
            let s2 : St := f_Real_setIndefinite s1 a1
            s2) := ⟨_, rfl⟩
  have Jt1 : ∀ (t1 : St), Tt1 = t1 → WS p l e { frames := 2, cells := 0, slots := 0, locals := 44 } s m args below meth c Q E 2 26 [(0, .ref 0), (1, .ref a1)] [] (t1, τ, q) := by
    intro t1  e_t1
    rw [eTt1] at e_t1
    refine wi_aload_n hC 0 d_PS_push_26 rfl rfl ?_
    refine wg_PS_control hC wd_385 d_PS_push_27 ?_
    refine k_Ctl_ends hC  wd_457 (by decide) (Nat.le_of_ble_eq_true rfl) d_PS_push_30 ?_
    refine wi_z_eq (b := (f_Ctl_ends t1)) hC 37 d_PS_push_33 (by decide) (fun h2 => ?_) (fun h2 => ?_)
    · skip
      refine wi_aload_n hC 0 d_PS_push_37 rfl rfl ?_
      refine wi_aload_n hC 0 d_PS_push_38 rfl rfl ?_
      refine wi_bipush hC 7 (by decide) d_PS_push_39 ?_
      refine k_PS_place hC  wd_417 (by decide) (Nat.le_of_ble_eq_true rfl) d_PS_push_41 ?_
      refine wp_PS_top hC (place_in _ _) wd_389 d_PS_push_44 ?_
      refine wi_nmC (fun s3 e_s3 => ?_)
      refine wi_aload_n hC 0 d_PS_push_47 rfl rfl ?_
      refine wi_iconst hC 0 (by decide) d_PS_push_48 ?_
      refine wi_aload_n hC 1 d_PS_push_49 rfl rfl ?_
      refine k_PS_keep hC ha1 wd_472 (by decide) (Nat.le_of_ble_eq_true rfl) d_PS_push_50 ?_
      refine wi_nmC (fun s4 e_s4 => ?_)
      have hf : f_PS_push σ a1 = s4 := by subst e_s4; subst e_s3; subst e_t1; exact (if_neg h2)
      exact wi_vret hC hr hk d_PS_push_53 rfl (congrArg (fun z => (z, τ, q)) hf).symm hQ
    · skip
      have hf : f_PS_push σ a1 = t1 := by subst e_t1; exact (if_pos h2)
      exact wi_vret hC hr hk d_PS_push_36 rfl (congrArg (fun z => (z, τ, q)) hf).symm hQ
  refine wi_z_ne (b := (gZ σ 101 (jat (f_PS_place σ 7)))) hC 26 d_PS_push_11 (by decide) (fun h1 => ?_) (fun h1 => ?_)
  · skip
    exact Jt1 σ (by exact (Eq.trans eTt1 (if_pos h1)))
  · skip
    refine wi_aload_n hC 0 d_PS_push_14 rfl rfl ?_
    refine wg_PS_control hC wd_385 d_PS_push_15 ?_
    refine wi_iconst hC 1 (by decide) d_PS_push_18 ?_
    refine k_Ctl_tell hC  wd_449 (by decide) (Nat.le_of_ble_eq_true rfl) d_PS_push_19 ?_
    refine wi_nmC (fun s1 e_s1 => ?_)
    refine wi_aload_n hC 1 d_PS_push_22 rfl rfl ?_
    refine k_Real_setIndefinite hC ha1 wd_450 (by decide) (Nat.le_of_ble_eq_true rfl) d_PS_push_23 ?_
    refine wi_nmC (fun s2 e_s2 => ?_)
    exact Jt1 s2 (by subst e_s2; subst e_s1; exact (Eq.trans eTt1 (if_neg h1)))
theorem k_PS_push {p : Program} {l : Launch} {e : Env} {R : Room} {s : State} {m : MethodId} {args : Array Value} {below : List Frame} {meth : Method} {c : Code} {Q : State → Prop} {E : Ev} {nL pc index : Nat} {lv : List (Nat × Value)} {rest : List Value} {cc : ByteArray} {own : String} {σ τ : St} {q : Int64} {a1 : Nat} (hC : Cx p s m args c cc nL own E)  (ha1 : isReal a1) (hl : Cond.methodLink own index y_PS_push ∈ WL) (hR : 2 + 1 ≤ R.frames ∧ 8 + (2 + 11) + 44 ≤ R.locals) (hs8 : (rest.map fun v => v.category).sum ≤ 8) (d : decode cc pc = .ok (.invokevirtual index, 3)) (k : WS p l e R s m args below meth c Q E nL (pc + 3) lv rest ((f_PS_push σ a1), τ, q)) : WS p l e R s m args below meth c Q E nL pc lv (.ref a1 :: .ref 0 :: rest) (σ, τ, q) := by
  exact wi_callV hC (n := 1) (vs := [.ref a1]) (rest := rest) 0 0 (by decide) rfl rfl rfl (c_PS_push l E σ τ q a1 ha1) (by decide +kernel) wd_477 wd_395 wd_478 wd_479 ⟨rfl, rfl⟩ rfl rfl hl hR hs8 d k
set_option maxRecDepth 100000 in
set_option maxHeartbeats 400000 in
theorem c_PS_pushRead (l : Launch) (E : Ev) (σ τ : St) (q : Int64) (a1 : Int32)  : MF l y_PS_pushRead prog_1_method_28_code 2 none { frames := 5, cells := 0, slots := 0, locals := 124 } E [.ref 0, .int a1] (σ, τ, q) none ((f_PS_pushRead σ a1), τ, q) := by
  refine MF_intro (lv0 := [(0, .ref 0), (1, .int a1)]) (by decide) wd_482 (Nat.le_of_ble_eq_true rfl) rfl ?_
  intro p e s m args below meth c Q hC hr hk hQ
  replace hC : Cx p s m args c prog_1_method_28_code 2 "PartnerStack" E := hC
  refine wi_aload_n hC 0 d_PS_pushRead_0 rfl rfl ?_
  refine wg_PS_empty hC wd_390 d_PS_pushRead_1 ?_
  refine wi_aload_n hC 0 d_PS_pushRead_4 rfl rfl ?_
  refine wi_bipush hC 7 (by decide) d_PS_pushRead_5 ?_
  refine k_PS_place hC  wd_417 (by decide) (Nat.le_of_ble_eq_true rfl) d_PS_pushRead_7 ?_
  refine wa_ld29 hC (place_in _ _) d_PS_pushRead_10 ?_
  obtain ⟨Tt1, eTt1⟩ : ∃ y : St, y = (
          if gZ σ 101 (jat (f_PS_place σ 7)) = true then
            let s1 : St := f_Rd_read σ a1 14
            s1
          else
            σ) := ⟨_, rfl⟩
  have Jt1 : ∀ (t1 : St), Tt1 = t1 → WS p l e { frames := 5, cells := 0, slots := 0, locals := 124 } s m args below meth c Q E 2 26 [(0, .ref 0), (1, .int a1)] [] (t1, τ, q) := by
    intro t1  e_t1
    rw [eTt1] at e_t1
    refine wi_aload_n hC 0 d_PS_pushRead_26 rfl rfl ?_
    refine wi_aload_n hC 0 d_PS_pushRead_27 rfl rfl ?_
    refine wg_PS_answer hC wd_461 d_PS_pushRead_28 ?_
    refine k_PS_push hC (by unfold isReal; decide) wd_481 (by decide) (Nat.le_of_ble_eq_true rfl) d_PS_pushRead_31 ?_
    refine wi_nmC (fun s2 e_s2 => ?_)
    have hf : f_PS_pushRead σ a1 = s2 := by subst e_s2; subst e_t1; exact rfl
    exact wi_vret hC hr hk d_PS_pushRead_34 rfl (congrArg (fun z => (z, τ, q)) hf).symm hQ
  refine wi_z_eq (b := (gZ σ 101 (jat (f_PS_place σ 7)))) hC 26 d_PS_pushRead_11 (by decide) (fun h1 => ?_) (fun h1 => ?_)
  · skip
    exact Jt1 σ (by exact (Eq.trans eTt1 (if_neg h1)))
  · skip
    refine wi_aload_n hC 0 d_PS_pushRead_14 rfl rfl ?_
    refine wg_PS_reader hC wd_415 d_PS_pushRead_15 ?_
    refine wi_iload_n hC 1 d_PS_pushRead_18 rfl rfl ?_
    refine wi_aload_n hC 0 d_PS_pushRead_19 rfl rfl ?_
    refine wg_PS_answer hC wd_461 d_PS_pushRead_20 ?_
    refine k_Rd_read hC (by unfold isReal; decide) wd_480 (by decide) (Nat.le_of_ble_eq_true rfl) d_PS_pushRead_23 ?_
    refine wi_nmC (fun s1 e_s1 => ?_)
    exact Jt1 s1 (by subst e_s1; exact (Eq.trans eTt1 (if_pos h1)))
theorem k_PS_pushRead {p : Program} {l : Launch} {e : Env} {R : Room} {s : State} {m : MethodId} {args : Array Value} {below : List Frame} {meth : Method} {c : Code} {Q : State → Prop} {E : Ev} {nL pc index : Nat} {lv : List (Nat × Value)} {rest : List Value} {cc : ByteArray} {own : String} {σ τ : St} {q : Int64} {a1 : Int32} (hC : Cx p s m args c cc nL own E)   (hl : Cond.methodLink own index y_PS_pushRead ∈ WL) (hR : 5 + 1 ≤ R.frames ∧ 8 + (2 + 11) + 124 ≤ R.locals) (hs8 : (rest.map fun v => v.category).sum ≤ 8) (d : decode cc pc = .ok (.invokevirtual index, 3)) (k : WS p l e R s m args below meth c Q E nL (pc + 3) lv rest ((f_PS_pushRead σ a1), τ, q)) : WS p l e R s m args below meth c Q E nL pc lv (.int a1 :: .ref 0 :: rest) (σ, τ, q) := by
  exact wi_callV hC (n := 1) (vs := [.int a1]) (rest := rest) 0 0 (by decide) rfl rfl rfl (c_PS_pushRead l E σ τ q a1 ) (by decide +kernel) wd_482 wd_395 wd_483 wd_484 ⟨rfl, rfl⟩ rfl rfl hl hR hs8 d k
set_option maxRecDepth 100000 in
set_option maxHeartbeats 400000 in
theorem c_PS_store (l : Launch) (E : Ev) (σ τ : St) (q : Int64) (a1 : Int32) (a2 : Bool)  : MF l y_PS_store prog_1_method_29_code 3 none { frames := 5, cells := 0, slots := 0, locals := 133 } E [.ref 0, .int a1, .int (bI a2)] (σ, τ, q) none ((f_PS_store σ a1 a2), τ, q) := by
  refine MF_intro (lv0 := [(0, .ref 0), (1, .int a1), (2, .int (bI a2))]) (by decide) wd_488 (Nat.le_of_ble_eq_true rfl) rfl ?_
  intro p e s m args below meth c Q hC hr hk hQ
  replace hC : Cx p s m args c prog_1_method_29_code 3 "PartnerStack" E := hC
  refine wi_aload_n hC 0 d_PS_store_0 rfl rfl ?_
  refine wi_iconst hC 0 (by decide) d_PS_store_1 ?_
  refine wi_aload_n hC 0 d_PS_store_2 rfl rfl ?_
  refine wg_PS_left hC wd_459 d_PS_store_3 ?_
  refine k_PS_need hC (by unfold isReal; decide) wd_485 (by decide) (Nat.le_of_ble_eq_true rfl) d_PS_store_6 ?_
  refine wi_nmC (fun s1 e_s1 => ?_)
  refine wi_aload_n hC 0 d_PS_store_9 rfl rfl ?_
  refine wg_PS_control hC wd_385 d_PS_store_10 ?_
  refine k_Ctl_ends hC  wd_457 (by decide) (Nat.le_of_ble_eq_true rfl) d_PS_store_13 ?_
  refine wi_z_eq (b := (f_Ctl_ends s1)) hC 20 d_PS_store_16 (by decide) (fun h1 => ?_) (fun h1 => ?_)
  · skip
    refine wi_aload_n hC 0 d_PS_store_20 rfl rfl ?_
    refine wg_PS_writer hC wd_435 d_PS_store_21 ?_
    refine wi_iload_n hC 1 d_PS_store_24 rfl rfl ?_
    refine wi_aload_n hC 0 d_PS_store_25 rfl rfl ?_
    refine wg_PS_left hC wd_459 d_PS_store_26 ?_
    refine k_Wr_write hC (by unfold isReal; decide) wd_486 (by decide) (Nat.le_of_ble_eq_true rfl) d_PS_store_29 ?_
    refine wi_nmC (fun s2 e_s2 => ?_)
    refine wi_iload_n hC 2 d_PS_store_32 rfl rfl ?_
    obtain ⟨Tt1, eTt1⟩ : ∃ y : St, y = (
            if a2 = true then
              if f_Ctl_endsWriting s2 = true then
                s2
              else
                let s3 : St := f_PS_pop s2
                s3
            else
              s2) := ⟨_, rfl⟩
    have Jt1 : ∀ (t1 : St), Tt1 = t1 → WS p l e { frames := 5, cells := 0, slots := 0, locals := 133 } s m args below meth c Q E 3 50 [(0, .ref 0), (1, .int a1), (2, .int (bI a2))] [] (t1, τ, q) := by
      intro t1  e_t1
      rw [eTt1] at e_t1
      have hf : f_PS_store σ a1 a2 = t1 := by subst e_t1; subst e_s2; subst e_s1; exact (if_neg h1)
      exact wi_vret hC hr hk d_PS_store_50 rfl (congrArg (fun z => (z, τ, q)) hf).symm hQ
    refine wi_z_eq (b := a2) hC 50 d_PS_store_33 (by decide) (fun h2 => ?_) (fun h2 => ?_)
    · skip
      exact Jt1 s2 (by exact (Eq.trans eTt1 (if_neg h2)))
    · skip
      refine wi_aload_n hC 0 d_PS_store_36 rfl rfl ?_
      refine wg_PS_control hC wd_385 d_PS_store_37 ?_
      refine k_Ctl_endsWriting hC  wd_487 (by decide) (Nat.le_of_ble_eq_true rfl) d_PS_store_40 ?_
      refine wi_z_ne (b := (f_Ctl_endsWriting s2)) hC 50 d_PS_store_43 (by decide) (fun h3 => ?_) (fun h3 => ?_)
      · skip
        exact Jt1 s2 (by exact (Eq.trans eTt1 (Eq.trans (if_pos h2) (if_pos h3))))
      · skip
        refine wi_aload_n hC 0 d_PS_store_46 rfl rfl ?_
        refine k_PS_pop hC  wd_463 (by decide) (Nat.le_of_ble_eq_true rfl) d_PS_store_47 ?_
        refine wi_nmC (fun s3 e_s3 => ?_)
        exact Jt1 s3 (by subst e_s3; exact (Eq.trans eTt1 (Eq.trans (if_pos h2) (if_neg h3))))
  · skip
    have hf : f_PS_store σ a1 a2 = s1 := by subst e_s1; exact (if_pos h1)
    exact wi_vret hC hr hk d_PS_store_19 rfl (congrArg (fun z => (z, τ, q)) hf).symm hQ
theorem k_PS_store {p : Program} {l : Launch} {e : Env} {R : Room} {s : State} {m : MethodId} {args : Array Value} {below : List Frame} {meth : Method} {c : Code} {Q : State → Prop} {E : Ev} {nL pc index : Nat} {lv : List (Nat × Value)} {rest : List Value} {cc : ByteArray} {own : String} {σ τ : St} {q : Int64} {a1 : Int32} (hC : Cx p s m args c cc nL own E) {x_a2 : Int32} (a2 : Bool) (hx_a2 : x_a2 = bI a2)  (hl : Cond.methodLink own index y_PS_store ∈ WL) (hR : 5 + 1 ≤ R.frames ∧ 8 + (3 + 11) + 133 ≤ R.locals) (hs8 : (rest.map fun v => v.category).sum ≤ 8) (d : decode cc pc = .ok (.invokevirtual index, 3)) (k : WS p l e R s m args below meth c Q E nL (pc + 3) lv rest ((f_PS_store σ a1 a2), τ, q)) : WS p l e R s m args below meth c Q E nL pc lv (.int x_a2 :: .int a1 :: .ref 0 :: rest) (σ, τ, q) := by
  subst hx_a2
  exact wi_callV hC (n := 2) (vs := [.int a1, .int (bI a2)]) (rest := rest) 0 0 (by decide) rfl rfl rfl (c_PS_store l E σ τ q a1 a2 ) (by decide +kernel) wd_488 wd_395 wd_489 wd_490 ⟨rfl, rfl⟩ rfl rfl hl hR hs8 d k
set_option maxRecDepth 100000 in
set_option maxHeartbeats 400000 in
theorem c_PS_doWithMemory (l : Launch) (E : Ev) (σ τ : St) (q : Int64) (a1 : Int32) (a2 : Int32) (hp : vp_in a1 8) (hq : vp_in a2 8) : MF l y_PS_doWithMemory prog_1_method_16_code 4 none { frames := 6, cells := 0, slots := 0, locals := 156 } E [.ref 0, .int a1, .int a2] (σ, τ, q) none ((f_PS_doWithMemory σ a1 a2), τ, q) := by
  refine MF_intro (lv0 := [(0, .ref 0), (1, .int a1), (2, .int a2)]) (by decide) wd_496 (Nat.le_of_ble_eq_true rfl) rfl ?_
  intro p e s m args below meth c Q hC hr hk hQ
  replace hC : Cx p s m args c prog_1_method_16_code 4 "PartnerStack" E := hC
  refine wst_get52 hC wd_491 d_PS_doWithMemory_0 ?_
  refine wi_iload_n hC 1 d_PS_doWithMemory_3 rfl rfl ?_
  refine wi_bipush hC 8 (by decide) d_PS_doWithMemory_4 ?_
  refine wi_imul hC d_PS_doWithMemory_6 ?_
  refine wi_iload_n hC 2 d_PS_doWithMemory_7 rfl rfl ?_
  refine wi_iadd hC d_PS_doWithMemory_8 ?_
  refine wst_ld52 hC (ix88 hp hq) d_PS_doWithMemory_9 ?_
  refine wi_nmI (fun v1 e_v1 => ?_)
  refine wi_istore_n hC [(3, .int v1), (0, .ref 0), (1, .int a1), (2, .int a2)] d_PS_doWithMemory_10 rfl (by decide) rfl ?_
  refine wi_iload_n hC 0 d_PS_doWithMemory_11 rfl rfl ?_
  obtain ⟨Tt1, eTt1⟩ : ∃ y : St, y = (
          if 0 ≤ v1 then
            if a1 &&& 1 = 0 then
              let s3 : St := f_PS_need σ 0 12
              let t3 : St := 
                  if f_Ctl_ends s3 = true then
                    s3
                  else
                    let s4 : St := f_Rd_read s3 v1 13
                    s4
              let t4 : Bool := 
                  if a2 = 3 then
                    true
                  else
                    false
              let s5 : St := f_PS_combine t3 a2 0 (bI t4)
              s5
            else
              if (tb0.getD (jat ((a1 * 8) + a2)) 0) ≤ 0 then
                let t2 : Bool := 
                    if a2 = 2 then
                      false
                    else
                      true
                let s1 : St := f_PS_store σ v1 t2
                s1
              else
                let s2 : St := f_PS_pushRead σ v1
                s2
          else
            let s6 : St := f_PS_doWithWords σ a1 a2
            s6) := ⟨_, rfl⟩
  have Jt1 : ∀ (t1 : St), Tt1 = t1 → WS p l e { frames := 6, cells := 0, slots := 0, locals := 156 } s m args below meth c Q E 4 116 [(3, .int v1), (0, .ref 0), (1, .int a1), (2, .int a2)] [] (t1, τ, q) := by
    intro t1  e_t1
    rw [eTt1] at e_t1
    have hf : f_PS_doWithMemory σ a1 a2 = t1 := by subst e_t1; subst e_v1; exact rfl
    exact wi_vret hC hr hk d_PS_doWithMemory_116 rfl (congrArg (fun z => (z, τ, q)) hf).symm hQ
  refine wi_if_ge hC 24 d_PS_doWithMemory_12 (by decide) (fun h1 => ?_) (fun h1 => ?_)
  · skip
    refine wi_iload_n hC 2 d_PS_doWithMemory_24 rfl rfl ?_
    refine wi_iconst hC 1 (by decide) d_PS_doWithMemory_25 ?_
    refine wi_iand hC d_PS_doWithMemory_26 ?_
    refine wi_if_ne hC 80 d_PS_doWithMemory_27 (by decide) (fun h2 => ?_) (fun h2 => ?_)
    · skip
      refine wst_get50 hC wd_404 d_PS_doWithMemory_80 ?_
      refine wi_iload_n hC 2 d_PS_doWithMemory_83 rfl rfl ?_
      refine wi_bipush hC 8 (by decide) d_PS_doWithMemory_84 ?_
      refine wi_imul hC d_PS_doWithMemory_86 ?_
      refine wi_iload_n hC 3 d_PS_doWithMemory_87 rfl rfl ?_
      refine wi_iadd hC d_PS_doWithMemory_88 ?_
      refine wst_ld50 hC (ix88 hp hq) d_PS_doWithMemory_89 ?_
      refine wi_if_le hC 101 d_PS_doWithMemory_90 (by decide) (fun h3 => ?_) (fun h3 => ?_)
      · skip
        refine wi_aload_n hC 1 d_PS_doWithMemory_101 rfl rfl ?_
        refine wi_iload_n hC 0 d_PS_doWithMemory_102 rfl rfl ?_
        refine wi_iload_n hC 3 d_PS_doWithMemory_103 rfl rfl ?_
        refine wi_iconst hC 2 (by decide) d_PS_doWithMemory_104 ?_
        obtain ⟨Tt2, eTt2⟩ : ∃ y : Bool, y = (
                if a2 = 2 then
                  false
                else
                  true) := ⟨_, rfl⟩
        have Jt2 : ∀ (t2 : Bool), Tt2 = t2 → WS p l e { frames := 6, cells := 0, slots := 0, locals := 156 } s m args below meth c Q E 4 113 [(3, .int v1), (0, .ref 0), (1, .int a1), (2, .int a2)] [.int (bI t2), .int v1, .ref 0] (σ, τ, q) := by
          intro t2  e_t2
          rw [eTt2] at e_t2
          refine k_PS_store hC t2 rfl wd_492 (by decide) (Nat.le_of_ble_eq_true rfl) d_PS_doWithMemory_113 ?_
          refine wi_nmC (fun s1 e_s1 => ?_)
          exact Jt1 s1 (by subst e_s1; subst e_t2; exact (Eq.trans eTt1 (Eq.trans (if_pos h1) (Eq.trans (if_neg h2) (if_pos h3)))))
        refine wi_icmp_eq hC 112 d_PS_doWithMemory_105 (by decide) (fun h4 => ?_) (fun h4 => ?_)
        · skip
          refine wi_iconst hC 0 (by decide) d_PS_doWithMemory_112 ?_
          exact Jt2 false (by exact (Eq.trans eTt2 (if_pos h4)))
        · skip
          refine wi_iconst hC 1 (by decide) d_PS_doWithMemory_108 ?_
          refine wi_goto hC 113 d_PS_doWithMemory_109 (by decide) ?_
          exact Jt2 true (by exact (Eq.trans eTt2 (if_neg h4)))
      · skip
        refine wi_aload_n hC 1 d_PS_doWithMemory_93 rfl rfl ?_
        refine wi_iload_n hC 0 d_PS_doWithMemory_94 rfl rfl ?_
        refine k_PS_pushRead hC  wd_493 (by decide) (Nat.le_of_ble_eq_true rfl) d_PS_doWithMemory_95 ?_
        refine wi_nmC (fun s2 e_s2 => ?_)
        refine wi_goto hC 116 d_PS_doWithMemory_98 (by decide) ?_
        exact Jt1 s2 (by subst e_s2; exact (Eq.trans eTt1 (Eq.trans (if_pos h1) (Eq.trans (if_neg h2) (if_neg h3)))))
    · skip
      refine wi_aload_n hC 1 d_PS_doWithMemory_30 rfl rfl ?_
      refine wi_iconst hC 0 (by decide) d_PS_doWithMemory_31 ?_
      refine wi_aload_n hC 1 d_PS_doWithMemory_32 rfl rfl ?_
      refine wg_PS_left hC wd_459 d_PS_doWithMemory_33 ?_
      refine k_PS_need hC (by unfold isReal; decide) wd_485 (by decide) (Nat.le_of_ble_eq_true rfl) d_PS_doWithMemory_36 ?_
      refine wi_nmC (fun s3 e_s3 => ?_)
      refine wi_aload_n hC 1 d_PS_doWithMemory_39 rfl rfl ?_
      refine wg_PS_control hC wd_385 d_PS_doWithMemory_40 ?_
      refine k_Ctl_ends hC  wd_457 (by decide) (Nat.le_of_ble_eq_true rfl) d_PS_doWithMemory_43 ?_
      obtain ⟨Tt3, eTt3⟩ : ∃ y : St, y = (
              if f_Ctl_ends s3 = true then
                s3
              else
                let s4 : St := f_Rd_read s3 v1 13
                s4) := ⟨_, rfl⟩
      have Jt3 : ∀ (t3 : St), Tt3 = t3 → WS p l e { frames := 6, cells := 0, slots := 0, locals := 156 } s m args below meth c Q E 4 61 [(3, .int v1), (0, .ref 0), (1, .int a1), (2, .int a2)] [] (t3, τ, q) := by
        intro t3  e_t3
        rw [eTt3] at e_t3
        refine wi_aload_n hC 1 d_PS_doWithMemory_61 rfl rfl ?_
        refine wi_iload_n hC 3 d_PS_doWithMemory_62 rfl rfl ?_
        refine wi_iconst hC 0 (by decide) d_PS_doWithMemory_63 ?_
        refine wi_iload_n hC 3 d_PS_doWithMemory_64 rfl rfl ?_
        refine wi_iconst hC 3 (by decide) d_PS_doWithMemory_65 ?_
        obtain ⟨Tt4, eTt4⟩ : ∃ y : Bool, y = (
                if a2 = 3 then
                  true
                else
                  false) := ⟨_, rfl⟩
        have Jt4 : ∀ (t4 : Bool), Tt4 = t4 → WS p l e { frames := 6, cells := 0, slots := 0, locals := 156 } s m args below meth c Q E 4 74 [(3, .int v1), (0, .ref 0), (1, .int a1), (2, .int a2)] [.int (bI t4), .int 0, .int a2, .ref 0] (t3, τ, q) := by
          intro t4  e_t4
          rw [eTt4] at e_t4
          refine k_PS_combine hC  wd_494 (by decide) (Nat.le_of_ble_eq_true rfl) d_PS_doWithMemory_74 ?_
          refine wi_nmC (fun s5 e_s5 => ?_)
          refine wi_goto hC 116 d_PS_doWithMemory_77 (by decide) ?_
          exact Jt1 s5 (by subst e_s5; subst e_t4; subst e_t3; subst e_s3; exact (Eq.trans eTt1 (Eq.trans (if_pos h1) (if_pos h2))))
        refine wi_icmp_ne hC 73 d_PS_doWithMemory_66 (by decide) (fun h6 => ?_) (fun h6 => ?_)
        · skip
          refine wi_iconst hC 0 (by decide) d_PS_doWithMemory_73 ?_
          exact Jt4 false (by exact (Eq.trans eTt4 (if_neg h6)))
        · skip
          refine wi_iconst hC 1 (by decide) d_PS_doWithMemory_69 ?_
          refine wi_goto hC 74 d_PS_doWithMemory_70 (by decide) ?_
          exact Jt4 true (by exact (Eq.trans eTt4 (if_pos h6)))
      refine wi_z_ne (b := (f_Ctl_ends s3)) hC 61 d_PS_doWithMemory_46 (by decide) (fun h5 => ?_) (fun h5 => ?_)
      · skip
        exact Jt3 s3 (by exact (Eq.trans eTt3 (if_pos h5)))
      · skip
        refine wi_aload_n hC 1 d_PS_doWithMemory_49 rfl rfl ?_
        refine wg_PS_reader hC wd_415 d_PS_doWithMemory_50 ?_
        refine wi_iload_n hC 0 d_PS_doWithMemory_53 rfl rfl ?_
        refine wi_aload_n hC 1 d_PS_doWithMemory_54 rfl rfl ?_
        refine wg_PS_right hC wd_460 d_PS_doWithMemory_55 ?_
        refine k_Rd_read hC (by unfold isReal; decide) wd_480 (by decide) (Nat.le_of_ble_eq_true rfl) d_PS_doWithMemory_58 ?_
        refine wi_nmC (fun s4 e_s4 => ?_)
        exact Jt3 s4 (by subst e_s4; exact (Eq.trans eTt3 (if_neg h5)))
  · skip
    refine wi_aload_n hC 1 d_PS_doWithMemory_15 rfl rfl ?_
    refine wi_iload_n hC 2 d_PS_doWithMemory_16 rfl rfl ?_
    refine wi_iload_n hC 3 d_PS_doWithMemory_17 rfl rfl ?_
    refine k_PS_doWithWords hC  wd_495 (by decide) (Nat.le_of_ble_eq_true rfl) d_PS_doWithMemory_18 ?_
    refine wi_nmC (fun s6 e_s6 => ?_)
    refine wi_goto hC 116 d_PS_doWithMemory_21 (by decide) ?_
    exact Jt1 s6 (by subst e_s6; exact (Eq.trans eTt1 (if_neg h1)))
theorem k_PS_doWithMemory {p : Program} {l : Launch} {e : Env} {R : Room} {s : State} {m : MethodId} {args : Array Value} {below : List Frame} {meth : Method} {c : Code} {Q : State → Prop} {E : Ev} {nL pc index : Nat} {lv : List (Nat × Value)} {rest : List Value} {cc : ByteArray} {own : String} {σ τ : St} {q : Int64} {a1 : Int32} {a2 : Int32} (hC : Cx p s m args c cc nL own E)  (hp : vp_in a1 8) (hq : vp_in a2 8) (hl : Cond.methodLink own index y_PS_doWithMemory ∈ WL) (hR : 6 + 1 ≤ R.frames ∧ 8 + (4 + 11) + 156 ≤ R.locals) (hs8 : (rest.map fun v => v.category).sum ≤ 8) (d : decode cc pc = .ok (.invokevirtual index, 3)) (k : WS p l e R s m args below meth c Q E nL (pc + 3) lv rest ((f_PS_doWithMemory σ a1 a2), τ, q)) : WS p l e R s m args below meth c Q E nL pc lv (.int a2 :: .int a1 :: .ref 0 :: rest) (σ, τ, q) := by
  exact wi_callV hC (n := 2) (vs := [.int a1, .int a2]) (rest := rest) 0 0 (by decide) rfl rfl rfl (c_PS_doWithMemory l E σ τ q a1 a2 hp hq) (by decide +kernel) wd_496 wd_395 wd_497 wd_498 ⟨rfl, rfl⟩ rfl rfl hl hR hs8 d k
set_option maxRecDepth 100000 in
set_option maxHeartbeats 400000 in
theorem c_PS_exchange (l : Launch) (E : Ev) (σ τ : St) (q : Int64) (a1 : Int32)  : MF l y_PS_exchange prog_1_method_32_code 2 none { frames := 3, cells := 0, slots := 0, locals := 67 } E [.ref 0, .int a1] (σ, τ, q) none ((f_PS_exchange σ a1), τ, q) := by
  refine MF_intro (lv0 := [(0, .ref 0), (1, .int a1)]) (by decide) wd_499 (Nat.le_of_ble_eq_true rfl) rfl ?_
  intro p e s m args below meth c Q hC hr hk hQ
  replace hC : Cx p s m args c prog_1_method_32_code 2 "PartnerStack" E := hC
  refine wi_aload_n hC 0 d_PS_exchange_0 rfl rfl ?_
  refine wi_iconst hC 0 (by decide) d_PS_exchange_1 ?_
  refine wi_aload_n hC 0 d_PS_exchange_2 rfl rfl ?_
  refine wg_PS_left hC wd_459 d_PS_exchange_3 ?_
  refine k_PS_need hC (by unfold isReal; decide) wd_485 (by decide) (Nat.le_of_ble_eq_true rfl) d_PS_exchange_6 ?_
  refine wi_nmC (fun s1 e_s1 => ?_)
  refine wi_aload_n hC 0 d_PS_exchange_9 rfl rfl ?_
  refine wi_iload_n hC 1 d_PS_exchange_10 rfl rfl ?_
  refine wi_aload_n hC 0 d_PS_exchange_11 rfl rfl ?_
  refine wg_PS_right hC wd_460 d_PS_exchange_12 ?_
  refine k_PS_need hC (by unfold isReal; decide) wd_485 (by decide) (Nat.le_of_ble_eq_true rfl) d_PS_exchange_15 ?_
  refine wi_nmC (fun s2 e_s2 => ?_)
  refine wi_aload_n hC 0 d_PS_exchange_18 rfl rfl ?_
  refine wg_PS_control hC wd_385 d_PS_exchange_19 ?_
  refine k_Ctl_ends hC  wd_457 (by decide) (Nat.le_of_ble_eq_true rfl) d_PS_exchange_22 ?_
  refine wi_z_eq (b := (f_Ctl_ends s2)) hC 29 d_PS_exchange_25 (by decide) (fun h1 => ?_) (fun h1 => ?_)
  · skip
    refine wi_aload_n hC 0 d_PS_exchange_29 rfl rfl ?_
    refine wi_iconst hC 0 (by decide) d_PS_exchange_30 ?_
    refine wi_aload_n hC 0 d_PS_exchange_31 rfl rfl ?_
    refine wg_PS_right hC wd_460 d_PS_exchange_32 ?_
    refine k_PS_keep hC (by unfold isReal; decide) wd_472 (by decide) (Nat.le_of_ble_eq_true rfl) d_PS_exchange_35 ?_
    refine wi_nmC (fun s3 e_s3 => ?_)
    refine wi_aload_n hC 0 d_PS_exchange_38 rfl rfl ?_
    refine wi_iload_n hC 1 d_PS_exchange_39 rfl rfl ?_
    refine wi_aload_n hC 0 d_PS_exchange_40 rfl rfl ?_
    refine wg_PS_left hC wd_459 d_PS_exchange_41 ?_
    refine k_PS_keep hC (by unfold isReal; decide) wd_472 (by decide) (Nat.le_of_ble_eq_true rfl) d_PS_exchange_44 ?_
    refine wi_nmC (fun s4 e_s4 => ?_)
    have hf : f_PS_exchange σ a1 = s4 := by subst e_s4; subst e_s3; subst e_s2; subst e_s1; exact (if_neg h1)
    exact wi_vret hC hr hk d_PS_exchange_47 rfl (congrArg (fun z => (z, τ, q)) hf).symm hQ
  · skip
    have hf : f_PS_exchange σ a1 = s2 := by subst e_s2; subst e_s1; exact (if_pos h1)
    exact wi_vret hC hr hk d_PS_exchange_28 rfl (congrArg (fun z => (z, τ, q)) hf).symm hQ
theorem k_PS_exchange {p : Program} {l : Launch} {e : Env} {R : Room} {s : State} {m : MethodId} {args : Array Value} {below : List Frame} {meth : Method} {c : Code} {Q : State → Prop} {E : Ev} {nL pc index : Nat} {lv : List (Nat × Value)} {rest : List Value} {cc : ByteArray} {own : String} {σ τ : St} {q : Int64} {a1 : Int32} (hC : Cx p s m args c cc nL own E)   (hl : Cond.methodLink own index y_PS_exchange ∈ WL) (hR : 3 + 1 ≤ R.frames ∧ 8 + (2 + 11) + 67 ≤ R.locals) (hs8 : (rest.map fun v => v.category).sum ≤ 8) (d : decode cc pc = .ok (.invokevirtual index, 3)) (k : WS p l e R s m args below meth c Q E nL (pc + 3) lv rest ((f_PS_exchange σ a1), τ, q)) : WS p l e R s m args below meth c Q E nL pc lv (.int a1 :: .ref 0 :: rest) (σ, τ, q) := by
  exact wi_callV hC (n := 1) (vs := [.int a1]) (rest := rest) 0 0 (by decide) rfl rfl rfl (c_PS_exchange l E σ τ q a1 ) (by decide +kernel) wd_499 wd_395 wd_500 wd_501 ⟨rfl, rfl⟩ rfl rfl hl hR hs8 d k
set_option maxRecDepth 100000 in
set_option maxHeartbeats 400000 in
theorem c_PS_examine (l : Launch) (E : Ev) (σ τ : St) (q : Int64)   : MF l y_PS_examine prog_1_method_34_code 3 none { frames := 1, cells := 0, slots := 0, locals := 20 } E [.ref 0] (σ, τ, q) none ((f_PS_examine σ), τ, q) := by
  refine MF_intro (lv0 := [(0, .ref 0)]) (by decide) wd_505 (Nat.le_of_ble_eq_true rfl) rfl ?_
  intro p e s m args below meth c Q hC hr hk hQ
  replace hC : Cx p s m args c prog_1_method_34_code 3 "PartnerStack" E := hC
  refine wi_aload_n hC 0 d_PS_examine_0 rfl rfl ?_
  refine wg_PS_registers hC wd_416 d_PS_examine_1 ?_
  refine wi_aload_n hC 0 d_PS_examine_4 rfl rfl ?_
  refine wg_PS_top hC wd_389 d_PS_examine_5 ?_
  refine wi_inv (fun hv1 => ?_)
  refine wa_ld28 hC hv1.1 d_PS_examine_8 ?_
  refine wi_astore_n hC [(1, .ref (16 + jat (gI σ 0 0))), (0, .ref 0)] d_PS_examine_9 rfl (by decide) rfl ?_
  refine wi_bipush hC 9 (by decide) d_PS_examine_10 ?_
  refine wi_istore_n hC [(2, .int 9), (1, .ref (16 + jat (gI σ 0 0))), (0, .ref 0)] d_PS_examine_12 rfl (by decide) rfl ?_
  refine wi_aload_n hC 2 d_PS_examine_13 rfl rfl ?_
  refine wg_PS_empty hC wd_390 d_PS_examine_14 ?_
  refine wi_aload_n hC 2 d_PS_examine_17 rfl rfl ?_
  refine wg_PS_top hC wd_389 d_PS_examine_18 ?_
  refine wi_inv (fun hv2 => ?_)
  refine wa_ld29 hC hv2.1 d_PS_examine_21 ?_
  obtain ⟨Tt1, eTt1⟩ : ∃ y : Int32, y = (
          if gZ σ 101 (jat (gI σ 0 0)) = true then
            9
          else
            let t2 : Int32 := 
                if gZ σ 15 (16 + jat (gI σ 0 0)) = true then
                  2
                else
                  0
            let v1 : Int32 := (tb5.getD (jat (f_Real_kind σ (16 + jat (gI σ 0 0)))) 0) + t2
            v1) := ⟨_, rfl⟩
  have Jt1 : ∀ (t1 : Int32), Tt1 = t1 → WS p l e { frames := 1, cells := 0, slots := 0, locals := 20 } s m args below meth c Q E 3 47 [(2, .int t1), (1, .ref (16 + jat (gI σ 0 0))), (0, .ref 0)] [] (σ, τ, q) := by
    intro t1  e_t1
    rw [eTt1] at e_t1
    refine wi_aload_n hC 2 d_PS_examine_47 rfl rfl ?_
    refine wi_iload_n hC 0 d_PS_examine_48 rfl rfl ?_
    refine wi_bipush hC 7 (by decide) d_PS_examine_49 ?_
    refine wi_iand hC d_PS_examine_51 ?_
    refine wi_bipush hC 8 (by decide) d_PS_examine_52 ?_
    refine wi_ishl hC d_PS_examine_54 ?_
    refine wi_iload_n hC 0 d_PS_examine_55 rfl rfl ?_
    refine wi_bipush hC 8 (by decide) d_PS_examine_56 ?_
    refine wi_iand hC d_PS_examine_58 ?_
    refine wi_bipush hC 11 (by decide) d_PS_examine_59 ?_
    refine wi_ishl hC d_PS_examine_61 ?_
    refine wi_ior hC d_PS_examine_62 ?_
    refine wp_PS_conditions hC wd_388 d_PS_examine_63 ?_
    refine wi_nmC (fun s1 e_s1 => ?_)
    have hf : f_PS_examine σ = s1 := by subst e_s1; subst e_t1; exact rfl
    exact wi_vret hC hr hk d_PS_examine_66 rfl (congrArg (fun z => (z, τ, q)) hf).symm hQ
  refine wi_z_ne (b := (gZ σ 101 (jat (gI σ 0 0)))) hC 47 d_PS_examine_22 (by decide) (fun h1 => ?_) (fun h1 => ?_)
  · skip
    exact Jt1 9 (by exact (Eq.trans eTt1 (if_pos h1)))
  · skip
    refine wst_get55 hC wd_502 d_PS_examine_25 ?_
    refine wi_aload_n hC 1 d_PS_examine_28 rfl rfl ?_
    refine k_Real_kind hC (isReg hv1.1) wd_503 (by decide) (Nat.le_of_ble_eq_true rfl) d_PS_examine_29 ?_
    refine wst_ld55 hC (kind_in _ _) d_PS_examine_32 ?_
    refine wi_aload_n hC 1 d_PS_examine_33 rfl rfl ?_
    refine wg_Real_minus hC (isReg hv1.1) wd_504 d_PS_examine_34 ?_
    obtain ⟨Tt2, eTt2⟩ : ∃ y : Int32, y = (
            if gZ σ 15 (16 + jat (gI σ 0 0)) = true then
              2
            else
              0) := ⟨_, rfl⟩
    have Jt2 : ∀ (t2 : Int32), Tt2 = t2 → WS p l e { frames := 1, cells := 0, slots := 0, locals := 20 } s m args below meth c Q E 3 45 [(2, .int 9), (1, .ref (16 + jat (gI σ 0 0))), (0, .ref 0)] [.int t2, .int (tb5.getD (jat (f_Real_kind σ (16 + jat (gI σ 0 0)))) 0)] (σ, τ, q) := by
      intro t2  e_t2
      rw [eTt2] at e_t2
      refine wi_iadd hC d_PS_examine_45 ?_
      refine wi_nmI (fun v1 e_v1 => ?_)
      refine wi_istore_n hC [(2, .int v1), (1, .ref (16 + jat (gI σ 0 0))), (0, .ref 0)] d_PS_examine_46 rfl (by decide) rfl ?_
      exact Jt1 v1 (by subst e_v1; subst e_t2; exact (Eq.trans eTt1 (if_neg h1)))
    refine wi_z_eq (b := (gZ σ 15 (16 + jat (gI σ 0 0)))) hC 44 d_PS_examine_37 (by decide) (fun h2 => ?_) (fun h2 => ?_)
    · skip
      refine wi_iconst hC 0 (by decide) d_PS_examine_44 ?_
      exact Jt2 0 (by exact (Eq.trans eTt2 (if_neg h2)))
    · skip
      refine wi_iconst hC 2 (by decide) d_PS_examine_40 ?_
      refine wi_goto hC 45 d_PS_examine_41 (by decide) ?_
      exact Jt2 2 (by exact (Eq.trans eTt2 (if_pos h2)))
theorem k_PS_examine {p : Program} {l : Launch} {e : Env} {R : Room} {s : State} {m : MethodId} {args : Array Value} {below : List Frame} {meth : Method} {c : Code} {Q : State → Prop} {E : Ev} {nL pc index : Nat} {lv : List (Nat × Value)} {rest : List Value} {cc : ByteArray} {own : String} {σ τ : St} {q : Int64}  (hC : Cx p s m args c cc nL own E)   (hl : Cond.methodLink own index y_PS_examine ∈ WL) (hR : 1 + 1 ≤ R.frames ∧ 8 + (3 + 11) + 20 ≤ R.locals) (hs8 : (rest.map fun v => v.category).sum ≤ 8) (d : decode cc pc = .ok (.invokevirtual index, 3)) (k : WS p l e R s m args below meth c Q E nL (pc + 3) lv rest ((f_PS_examine σ), τ, q)) : WS p l e R s m args below meth c Q E nL pc lv (.ref 0 :: rest) (σ, τ, q) := by
  exact wi_callV hC (n := 0) (vs := []) (rest := rest) 0 0 (by decide) rfl rfl rfl (c_PS_examine l E σ τ q  ) (by decide +kernel) wd_505 wd_395 wd_506 wd_507 ⟨rfl, rfl⟩ rfl rfl hl hR hs8 d k
set_option maxRecDepth 100000 in
set_option maxHeartbeats 400000 in
theorem c_PS_doWithFirst (l : Launch) (E : Ev) (σ τ : St) (q : Int64) (a1 : Int32)  : MF l y_PS_doWithFirst prog_1_method_20_code 2 none { frames := 5, cells := 0, slots := 0, locals := 118 } E [.ref 0, .int a1] (σ, τ, q) none ((f_PS_doWithFirst σ a1), τ, q) := by
  refine MF_intro (lv0 := [(0, .ref 0), (1, .int a1)]) (by decide) wd_510 (Nat.le_of_ble_eq_true rfl) rfl ?_
  intro p e s m args below meth c Q hC hr hk hQ
  replace hC : Cx p s m args c prog_1_method_20_code 2 "PartnerStack" E := hC
  refine wi_iload_n hC 1 d_PS_doWithFirst_0 rfl rfl ?_
  refine wi_iconst hC 5 (by decide) d_PS_doWithFirst_1 ?_
  refine wi_icmp_ne hC 10 d_PS_doWithFirst_2 (by decide) (fun h1 => ?_) (fun h1 => ?_)
  · skip
    refine wi_aload_n hC 0 d_PS_doWithFirst_10 rfl rfl ?_
    refine wi_iconst hC 0 (by decide) d_PS_doWithFirst_11 ?_
    refine wi_aload_n hC 0 d_PS_doWithFirst_12 rfl rfl ?_
    refine wg_PS_left hC wd_459 d_PS_doWithFirst_13 ?_
    refine k_PS_need hC (by unfold isReal; decide) wd_485 (by decide) (Nat.le_of_ble_eq_true rfl) d_PS_doWithFirst_16 ?_
    refine wi_nmC (fun s1 e_s1 => ?_)
    refine wi_iload_n hC 1 d_PS_doWithFirst_19 rfl rfl ?_
    refine wi_iconst hC 4 (by decide) d_PS_doWithFirst_20 ?_
    obtain ⟨Tt1, eTt1⟩ : ∃ y : St, y = (
            if a1 = 4 then
              let s4 : St := f_Real_setZero s1 13 false
              let s5 : St := f_PS_compare s4 0
              s5
            else
              if f_Ctl_ends s1 = true then
                s1
              else
                let t2 : Bool := 
                    if a1 = 0 then
                      if gZ s1 15 12 = true then
                        false
                      else
                        true
                    else
                      false
                let s2 : St := sZ s1 15 12 t2
                let s3 : St := f_PS_keep s2 0 12
                s3) := ⟨_, rfl⟩
    have Jt1 : ∀ (t1 : St), Tt1 = t1 → WS p l e { frames := 5, cells := 0, slots := 0, locals := 118 } s m args below meth c Q E 2 85 [(0, .ref 0), (1, .int a1)] [] (t1, τ, q) := by
      intro t1  e_t1
      rw [eTt1] at e_t1
      have hf : f_PS_doWithFirst σ a1 = t1 := by subst e_t1; subst e_s1; exact (if_neg h1)
      exact wi_vret hC hr hk d_PS_doWithFirst_85 rfl (congrArg (fun z => (z, τ, q)) hf).symm hQ
    refine wi_icmp_ne hC 40 d_PS_doWithFirst_21 (by decide) (fun h2 => ?_) (fun h2 => ?_)
    · skip
      refine wi_aload_n hC 0 d_PS_doWithFirst_40 rfl rfl ?_
      refine wg_PS_control hC wd_385 d_PS_doWithFirst_41 ?_
      refine k_Ctl_ends hC  wd_457 (by decide) (Nat.le_of_ble_eq_true rfl) d_PS_doWithFirst_44 ?_
      refine wi_z_ne (b := (f_Ctl_ends s1)) hC 85 d_PS_doWithFirst_47 (by decide) (fun h3 => ?_) (fun h3 => ?_)
      · skip
        exact Jt1 s1 (by exact (Eq.trans eTt1 (Eq.trans (if_neg h2) (if_pos h3))))
      · skip
        refine wi_aload_n hC 0 d_PS_doWithFirst_50 rfl rfl ?_
        refine wg_PS_left hC wd_459 d_PS_doWithFirst_51 ?_
        refine wi_iload_n hC 1 d_PS_doWithFirst_54 rfl rfl ?_
        obtain ⟨Tt2, eTt2⟩ : ∃ y : Bool, y = (
                if a1 = 0 then
                  if gZ s1 15 12 = true then
                    false
                  else
                    true
                else
                  false) := ⟨_, rfl⟩
        have Jt2 : ∀ (t2 : Bool), Tt2 = t2 → WS p l e { frames := 5, cells := 0, slots := 0, locals := 118 } s m args below meth c Q E 2 73 [(0, .ref 0), (1, .int a1)] [.int (bI t2), .ref 12] (s1, τ, q) := by
          intro t2  e_t2
          rw [eTt2] at e_t2
          refine wp_Real_minus hC (by unfold isReal; decide) t2 rfl wd_504 d_PS_doWithFirst_73 ?_
          refine wi_nmC (fun s2 e_s2 => ?_)
          refine wi_aload_n hC 0 d_PS_doWithFirst_76 rfl rfl ?_
          refine wi_iconst hC 0 (by decide) d_PS_doWithFirst_77 ?_
          refine wi_aload_n hC 0 d_PS_doWithFirst_78 rfl rfl ?_
          refine wg_PS_left hC wd_459 d_PS_doWithFirst_79 ?_
          refine k_PS_keep hC (by unfold isReal; decide) wd_472 (by decide) (Nat.le_of_ble_eq_true rfl) d_PS_doWithFirst_82 ?_
          refine wi_nmC (fun s3 e_s3 => ?_)
          exact Jt1 s3 (by subst e_s3; subst e_s2; subst e_t2; exact (Eq.trans eTt1 (Eq.trans (if_neg h2) (if_neg h3))))
        refine wi_if_ne hC 72 d_PS_doWithFirst_55 (by decide) (fun h4 => ?_) (fun h4 => ?_)
        · skip
          refine wi_iconst hC 0 (by decide) d_PS_doWithFirst_72 ?_
          exact Jt2 false (by exact (Eq.trans eTt2 (if_neg h4)))
        · skip
          refine wi_aload_n hC 0 d_PS_doWithFirst_58 rfl rfl ?_
          refine wg_PS_left hC wd_459 d_PS_doWithFirst_59 ?_
          refine wg_Real_minus hC (by unfold isReal; decide) wd_504 d_PS_doWithFirst_62 ?_
          refine wi_z_ne (b := (gZ s1 15 12)) hC 72 d_PS_doWithFirst_65 (by decide) (fun h5 => ?_) (fun h5 => ?_)
          · skip
            refine wi_iconst hC 0 (by decide) d_PS_doWithFirst_72 ?_
            exact Jt2 false (by exact (Eq.trans eTt2 (Eq.trans (if_pos h4) (if_pos h5))))
          · skip
            refine wi_iconst hC 1 (by decide) d_PS_doWithFirst_68 ?_
            refine wi_goto hC 73 d_PS_doWithFirst_69 (by decide) ?_
            exact Jt2 true (by exact (Eq.trans eTt2 (Eq.trans (if_pos h4) (if_neg h5))))
    · skip
      refine wi_aload_n hC 0 d_PS_doWithFirst_24 rfl rfl ?_
      refine wg_PS_right hC wd_460 d_PS_doWithFirst_25 ?_
      refine wi_iconst hC 0 (by decide) d_PS_doWithFirst_28 ?_
      refine k_Real_setZero hC false rfl (by unfold isReal; decide) wd_508 (by decide) (Nat.le_of_ble_eq_true rfl) d_PS_doWithFirst_29 ?_
      refine wi_nmC (fun s4 e_s4 => ?_)
      refine wi_aload_n hC 0 d_PS_doWithFirst_32 rfl rfl ?_
      refine wi_iconst hC 0 (by decide) d_PS_doWithFirst_33 ?_
      refine k_PS_compare hC  wd_473 (by decide) (Nat.le_of_ble_eq_true rfl) d_PS_doWithFirst_34 ?_
      refine wi_nmC (fun s5 e_s5 => ?_)
      refine wi_goto hC 85 d_PS_doWithFirst_37 (by decide) ?_
      exact Jt1 s5 (by subst e_s5; subst e_s4; exact (Eq.trans eTt1 (if_pos h2)))
  · skip
    refine wi_aload_n hC 0 d_PS_doWithFirst_5 rfl rfl ?_
    refine k_PS_examine hC  wd_509 (by decide) (Nat.le_of_ble_eq_true rfl) d_PS_doWithFirst_6 ?_
    refine wi_nmC (fun s6 e_s6 => ?_)
    have hf : f_PS_doWithFirst σ a1 = s6 := by subst e_s6; exact (if_pos h1)
    exact wi_vret hC hr hk d_PS_doWithFirst_9 rfl (congrArg (fun z => (z, τ, q)) hf).symm hQ
theorem k_PS_doWithFirst {p : Program} {l : Launch} {e : Env} {R : Room} {s : State} {m : MethodId} {args : Array Value} {below : List Frame} {meth : Method} {c : Code} {Q : State → Prop} {E : Ev} {nL pc index : Nat} {lv : List (Nat × Value)} {rest : List Value} {cc : ByteArray} {own : String} {σ τ : St} {q : Int64} {a1 : Int32} (hC : Cx p s m args c cc nL own E)   (hl : Cond.methodLink own index y_PS_doWithFirst ∈ WL) (hR : 5 + 1 ≤ R.frames ∧ 8 + (2 + 11) + 118 ≤ R.locals) (hs8 : (rest.map fun v => v.category).sum ≤ 8) (d : decode cc pc = .ok (.invokevirtual index, 3)) (k : WS p l e R s m args below meth c Q E nL (pc + 3) lv rest ((f_PS_doWithFirst σ a1), τ, q)) : WS p l e R s m args below meth c Q E nL pc lv (.int a1 :: .ref 0 :: rest) (σ, τ, q) := by
  exact wi_callV hC (n := 1) (vs := [.int a1]) (rest := rest) 0 0 (by decide) rfl rfl rfl (c_PS_doWithFirst l E σ τ q a1 ) (by decide +kernel) wd_510 wd_395 wd_511 wd_512 ⟨rfl, rfl⟩ rfl rfl hl hR hs8 d k
set_option maxRecDepth 100000 in
set_option maxHeartbeats 400000 in
theorem c_PS_extract (l : Launch) (E : Ev) (σ τ : St) (q : Int64)   : MF l y_PS_extract prog_1_method_33_code 2 none { frames := 5, cells := 0, slots := 0, locals := 130 } E [.ref 0] (σ, τ, q) none ((f_PS_extract σ), τ, q) := by
  refine MF_intro (lv0 := [(0, .ref 0)]) (by decide) wd_515 (Nat.le_of_ble_eq_true rfl) rfl ?_
  intro p e s m args below meth c Q hC hr hk hQ
  replace hC : Cx p s m args c prog_1_method_33_code 2 "PartnerStack" E := hC
  refine wi_aload_n hC 0 d_PS_extract_0 rfl rfl ?_
  refine wi_iconst hC 0 (by decide) d_PS_extract_1 ?_
  refine wi_aload_n hC 0 d_PS_extract_2 rfl rfl ?_
  refine wg_PS_left hC wd_459 d_PS_extract_3 ?_
  refine k_PS_need hC (by unfold isReal; decide) wd_485 (by decide) (Nat.le_of_ble_eq_true rfl) d_PS_extract_6 ?_
  refine wi_nmC (fun s1 e_s1 => ?_)
  refine wi_aload_n hC 0 d_PS_extract_9 rfl rfl ?_
  refine wg_PS_empty hC wd_390 d_PS_extract_10 ?_
  refine wi_aload_n hC 0 d_PS_extract_13 rfl rfl ?_
  refine wi_bipush hC 7 (by decide) d_PS_extract_14 ?_
  refine k_PS_place hC  wd_417 (by decide) (Nat.le_of_ble_eq_true rfl) d_PS_extract_16 ?_
  refine wa_ld29 hC (place_in _ _) d_PS_extract_19 ?_
  obtain ⟨Tt1, eTt1⟩ : ∃ y : Bool, y = (
          if gZ s1 101 (jat (f_PS_place s1 7)) = true then
            false
          else
            true) := ⟨_, rfl⟩
  have Jt1 : ∀ (t1 : Bool), Tt1 = t1 → WS p l e { frames := 5, cells := 0, slots := 0, locals := 130 } s m args below meth c Q E 2 28 [(0, .ref 0)] [.int (bI t1)] (s1, τ, q) := by
    intro t1  e_t1
    rw [eTt1] at e_t1
    refine wi_istore_n hC [(1, .int (bI t1)), (0, .ref 0)] d_PS_extract_28 rfl (by decide) rfl ?_
    refine wi_iload_n hC 0 d_PS_extract_29 rfl rfl ?_
    obtain ⟨Tt2, eTt2⟩ : ∃ y : St, y = (
            if t1 = true then
              let s2 : St := f_Ctl_tell s1 1
              s2
            else
              s1) := ⟨_, rfl⟩
    have Jt2 : ∀ (t2 : St), Tt2 = t2 → WS p l e { frames := 5, cells := 0, slots := 0, locals := 130 } s m args below meth c Q E 2 41 [(1, .int (bI t1)), (0, .ref 0)] [] (t2, τ, q) := by
      intro t2  e_t2
      rw [eTt2] at e_t2
      refine wi_aload_n hC 1 d_PS_extract_41 rfl rfl ?_
      refine wg_PS_control hC wd_385 d_PS_extract_42 ?_
      refine k_Ctl_ends hC  wd_457 (by decide) (Nat.le_of_ble_eq_true rfl) d_PS_extract_45 ?_
      refine wi_z_eq (b := (f_Ctl_ends t2)) hC 52 d_PS_extract_48 (by decide) (fun h3 => ?_) (fun h3 => ?_)
      · skip
        refine wi_aload_n hC 1 d_PS_extract_52 rfl rfl ?_
        refine wg_PS_steps hC wd_458 d_PS_extract_53 ?_
        refine wi_aload_n hC 1 d_PS_extract_56 rfl rfl ?_
        refine wg_PS_left hC wd_459 d_PS_extract_57 ?_
        refine wi_aload_n hC 1 d_PS_extract_60 rfl rfl ?_
        refine wg_PS_answer hC wd_461 d_PS_extract_61 ?_
        refine wi_aload_n hC 1 d_PS_extract_64 rfl rfl ?_
        refine wg_PS_second hC wd_513 d_PS_extract_65 ?_
        refine k_Steps_extract hC (by unfold isReal; decide) (by unfold isReal; decide) (by unfold isReal; decide) wd_514 (by decide) (Nat.le_of_ble_eq_true rfl) d_PS_extract_68 ?_
        refine wi_nmC (fun s3 e_s3 => ?_)
        refine wi_aload_n hC 1 d_PS_extract_71 rfl rfl ?_
        refine wg_PS_control hC wd_385 d_PS_extract_72 ?_
        refine k_Ctl_ends hC  wd_457 (by decide) (Nat.le_of_ble_eq_true rfl) d_PS_extract_75 ?_
        refine wi_z_eq (b := (f_Ctl_ends s3)) hC 82 d_PS_extract_78 (by decide) (fun h4 => ?_) (fun h4 => ?_)
        · skip
          refine wi_iload_n hC 0 d_PS_extract_82 rfl rfl ?_
          obtain ⟨Tt3, eTt3⟩ : ∃ y : St, y = (
                  if t1 = true then
                    let s4 : St := f_Real_setIndefinite s3 15
                    s4
                  else
                    s3) := ⟨_, rfl⟩
          have Jt3 : ∀ (t3 : St), Tt3 = t3 → WS p l e { frames := 5, cells := 0, slots := 0, locals := 130 } s m args below meth c Q E 2 93 [(1, .int (bI t1)), (0, .ref 0)] [] (t3, τ, q) := by
            intro t3  e_t3
            rw [eTt3] at e_t3
            refine wi_aload_n hC 1 d_PS_extract_93 rfl rfl ?_
            refine wi_iconst hC 0 (by decide) d_PS_extract_94 ?_
            refine wi_aload_n hC 1 d_PS_extract_95 rfl rfl ?_
            refine wg_PS_answer hC wd_461 d_PS_extract_96 ?_
            refine k_PS_keep hC (by unfold isReal; decide) wd_472 (by decide) (Nat.le_of_ble_eq_true rfl) d_PS_extract_99 ?_
            refine wi_nmC (fun s5 e_s5 => ?_)
            refine wi_aload_n hC 1 d_PS_extract_102 rfl rfl ?_
            refine wi_aload_n hC 1 d_PS_extract_103 rfl rfl ?_
            refine wi_bipush hC 7 (by decide) d_PS_extract_104 ?_
            refine k_PS_place hC  wd_417 (by decide) (Nat.le_of_ble_eq_true rfl) d_PS_extract_106 ?_
            refine wp_PS_top hC (place_in _ _) wd_389 d_PS_extract_109 ?_
            refine wi_nmC (fun s6 e_s6 => ?_)
            refine wi_aload_n hC 1 d_PS_extract_112 rfl rfl ?_
            refine wi_iconst hC 0 (by decide) d_PS_extract_113 ?_
            refine wi_aload_n hC 1 d_PS_extract_114 rfl rfl ?_
            refine wg_PS_second hC wd_513 d_PS_extract_115 ?_
            refine k_PS_keep hC (by unfold isReal; decide) wd_472 (by decide) (Nat.le_of_ble_eq_true rfl) d_PS_extract_118 ?_
            refine wi_nmC (fun s7 e_s7 => ?_)
            have hf : f_PS_extract σ = s7 := by subst e_s7; subst e_s6; subst e_s5; subst e_t3; subst e_s3; subst e_t2; subst e_t1; subst e_s1; exact (Eq.trans (if_neg h3) (if_neg h4))
            exact wi_vret hC hr hk d_PS_extract_121 rfl (congrArg (fun z => (z, τ, q)) hf).symm hQ
          refine wi_z_eq (b := t1) hC 93 d_PS_extract_83 (by decide) (fun h5 => ?_) (fun h5 => ?_)
          · skip
            exact Jt3 s3 (by exact (Eq.trans eTt3 (if_neg h5)))
          · skip
            refine wi_aload_n hC 1 d_PS_extract_86 rfl rfl ?_
            refine wg_PS_second hC wd_513 d_PS_extract_87 ?_
            refine k_Real_setIndefinite hC (by unfold isReal; decide) wd_450 (by decide) (Nat.le_of_ble_eq_true rfl) d_PS_extract_90 ?_
            refine wi_nmC (fun s4 e_s4 => ?_)
            exact Jt3 s4 (by subst e_s4; exact (Eq.trans eTt3 (if_pos h5)))
        · skip
          have hf : f_PS_extract σ = s3 := by subst e_s3; subst e_t2; subst e_t1; subst e_s1; exact (Eq.trans (if_neg h3) (if_pos h4))
          exact wi_vret hC hr hk d_PS_extract_81 rfl (congrArg (fun z => (z, τ, q)) hf).symm hQ
      · skip
        have hf : f_PS_extract σ = t2 := by subst e_t2; subst e_t1; subst e_s1; exact (if_pos h3)
        exact wi_vret hC hr hk d_PS_extract_51 rfl (congrArg (fun z => (z, τ, q)) hf).symm hQ
    refine wi_z_eq (b := t1) hC 41 d_PS_extract_30 (by decide) (fun h2 => ?_) (fun h2 => ?_)
    · skip
      exact Jt2 s1 (by exact (Eq.trans eTt2 (if_neg h2)))
    · skip
      refine wi_aload_n hC 1 d_PS_extract_33 rfl rfl ?_
      refine wg_PS_control hC wd_385 d_PS_extract_34 ?_
      refine wi_iconst hC 1 (by decide) d_PS_extract_37 ?_
      refine k_Ctl_tell hC  wd_449 (by decide) (Nat.le_of_ble_eq_true rfl) d_PS_extract_38 ?_
      refine wi_nmC (fun s2 e_s2 => ?_)
      exact Jt2 s2 (by subst e_s2; exact (Eq.trans eTt2 (if_pos h2)))
  refine wi_z_ne (b := (gZ s1 101 (jat (f_PS_place s1 7)))) hC 27 d_PS_extract_20 (by decide) (fun h1 => ?_) (fun h1 => ?_)
  · skip
    refine wi_iconst hC 0 (by decide) d_PS_extract_27 ?_
    exact Jt1 false (by exact (Eq.trans eTt1 (if_pos h1)))
  · skip
    refine wi_iconst hC 1 (by decide) d_PS_extract_23 ?_
    refine wi_goto hC 28 d_PS_extract_24 (by decide) ?_
    exact Jt1 true (by exact (Eq.trans eTt1 (if_neg h1)))
theorem k_PS_extract {p : Program} {l : Launch} {e : Env} {R : Room} {s : State} {m : MethodId} {args : Array Value} {below : List Frame} {meth : Method} {c : Code} {Q : State → Prop} {E : Ev} {nL pc index : Nat} {lv : List (Nat × Value)} {rest : List Value} {cc : ByteArray} {own : String} {σ τ : St} {q : Int64}  (hC : Cx p s m args c cc nL own E)   (hl : Cond.methodLink own index y_PS_extract ∈ WL) (hR : 5 + 1 ≤ R.frames ∧ 8 + (2 + 11) + 130 ≤ R.locals) (hs8 : (rest.map fun v => v.category).sum ≤ 8) (d : decode cc pc = .ok (.invokevirtual index, 3)) (k : WS p l e R s m args below meth c Q E nL (pc + 3) lv rest ((f_PS_extract σ), τ, q)) : WS p l e R s m args below meth c Q E nL pc lv (.ref 0 :: rest) (σ, τ, q) := by
  exact wi_callV hC (n := 0) (vs := []) (rest := rest) 0 0 (by decide) rfl rfl rfl (c_PS_extract l E σ τ q  ) (by decide +kernel) wd_515 wd_395 wd_516 wd_517 ⟨rfl, rfl⟩ rfl rfl hl hR hs8 d k
set_option maxRecDepth 100000 in
set_option maxHeartbeats 400000 in
theorem c_PS_showQuotient (l : Launch) (E : Ev) (σ τ : St) (q : Int64)   : MF l y_PS_showQuotient prog_1_method_35_code 2 none { frames := 0, cells := 0, slots := 0, locals := 0 } E [.ref 0] (σ, τ, q) none ((f_PS_showQuotient σ), τ, q) := by
  refine MF_intro (lv0 := [(0, .ref 0)]) (by decide) wd_520 (Nat.le_of_ble_eq_true rfl) rfl ?_
  intro p e s m args below meth c Q hC hr hk hQ
  replace hC : Cx p s m args c prog_1_method_35_code 2 "PartnerStack" E := hC
  refine wi_aload_n hC 0 d_PS_showQuotient_0 rfl rfl ?_
  refine wg_PS_steps hC wd_458 d_PS_showQuotient_1 ?_
  refine wg_Steps_quotient hC wd_518 d_PS_showQuotient_4 ?_
  refine wi_nmI (fun v1 e_v1 => ?_)
  refine wi_istore_n hC [(1, .int v1), (0, .ref 0)] d_PS_showQuotient_7 rfl (by decide) rfl ?_
  refine wi_aload_n hC 1 d_PS_showQuotient_8 rfl rfl ?_
  refine wi_aload_n hC 1 d_PS_showQuotient_9 rfl rfl ?_
  refine wg_PS_steps hC wd_458 d_PS_showQuotient_10 ?_
  refine wg_Steps_isPartial hC wd_519 d_PS_showQuotient_13 ?_
  obtain ⟨Tt1, eTt1⟩ : ∃ y : Int32, y = (
          if gZ σ 19 25 = true then
            1024
          else
            0) := ⟨_, rfl⟩
  have Jt1 : ∀ (t1 : Int32), Tt1 = t1 → WS p l e { frames := 0, cells := 0, slots := 0, locals := 0 } s m args below meth c Q E 2 26 [(1, .int v1), (0, .ref 0)] [.int t1, .ref 0] (σ, τ, q) := by
    intro t1  e_t1
    rw [eTt1] at e_t1
    refine wp_PS_conditions hC wd_388 d_PS_showQuotient_26 ?_
    refine wi_nmC (fun s1 e_s1 => ?_)
    refine wi_aload_n hC 1 d_PS_showQuotient_29 rfl rfl ?_
    refine wi_dup hC rfl d_PS_showQuotient_30 ?_
    refine wg_PS_conditions hC wd_388 d_PS_showQuotient_31 ?_
    refine wi_iload_n hC 0 d_PS_showQuotient_34 rfl rfl ?_
    refine wi_iconst hC 4 (by decide) d_PS_showQuotient_35 ?_
    refine wi_iand hC d_PS_showQuotient_36 ?_
    obtain ⟨Tt2, eTt2⟩ : ∃ y : Int32, y = (
            if v1 &&& 4 = 0 then
              0
            else
              256) := ⟨_, rfl⟩
    have Jt2 : ∀ (t2 : Int32), Tt2 = t2 → WS p l e { frames := 0, cells := 0, slots := 0, locals := 0 } s m args below meth c Q E 2 47 [(1, .int v1), (0, .ref 0)] [.int t2, .int (gI s1 2 0), .ref 0] (s1, τ, q) := by
      intro t2  e_t2
      rw [eTt2] at e_t2
      refine wi_ior hC d_PS_showQuotient_47 ?_
      refine wp_PS_conditions hC wd_388 d_PS_showQuotient_48 ?_
      refine wi_nmC (fun s2 e_s2 => ?_)
      refine wi_aload_n hC 1 d_PS_showQuotient_51 rfl rfl ?_
      refine wi_dup hC rfl d_PS_showQuotient_52 ?_
      refine wg_PS_conditions hC wd_388 d_PS_showQuotient_53 ?_
      refine wi_iload_n hC 0 d_PS_showQuotient_56 rfl rfl ?_
      refine wi_iconst hC 2 (by decide) d_PS_showQuotient_57 ?_
      refine wi_iand hC d_PS_showQuotient_58 ?_
      obtain ⟨Tt3, eTt3⟩ : ∃ y : Int32, y = (
              if v1 &&& 2 = 0 then
                0
              else
                16384) := ⟨_, rfl⟩
      have Jt3 : ∀ (t3 : Int32), Tt3 = t3 → WS p l e { frames := 0, cells := 0, slots := 0, locals := 0 } s m args below meth c Q E 2 69 [(1, .int v1), (0, .ref 0)] [.int t3, .int (gI s2 2 0), .ref 0] (s2, τ, q) := by
        intro t3  e_t3
        rw [eTt3] at e_t3
        refine wi_ior hC d_PS_showQuotient_69 ?_
        refine wp_PS_conditions hC wd_388 d_PS_showQuotient_70 ?_
        refine wi_nmC (fun s3 e_s3 => ?_)
        refine wi_aload_n hC 1 d_PS_showQuotient_73 rfl rfl ?_
        refine wi_dup hC rfl d_PS_showQuotient_74 ?_
        refine wg_PS_conditions hC wd_388 d_PS_showQuotient_75 ?_
        refine wi_iload_n hC 0 d_PS_showQuotient_78 rfl rfl ?_
        refine wi_iconst hC 1 (by decide) d_PS_showQuotient_79 ?_
        refine wi_iand hC d_PS_showQuotient_80 ?_
        obtain ⟨Tt4, eTt4⟩ : ∃ y : Int32, y = (
                if v1 &&& 1 = 0 then
                  0
                else
                  512) := ⟨_, rfl⟩
        have Jt4 : ∀ (t4 : Int32), Tt4 = t4 → WS p l e { frames := 0, cells := 0, slots := 0, locals := 0 } s m args below meth c Q E 2 91 [(1, .int v1), (0, .ref 0)] [.int t4, .int (gI s3 2 0), .ref 0] (s3, τ, q) := by
          intro t4  e_t4
          rw [eTt4] at e_t4
          refine wi_ior hC d_PS_showQuotient_91 ?_
          refine wp_PS_conditions hC wd_388 d_PS_showQuotient_92 ?_
          refine wi_nmC (fun s4 e_s4 => ?_)
          have hf : f_PS_showQuotient σ = s4 := by subst e_s4; subst e_t4; subst e_s3; subst e_t3; subst e_s2; subst e_t2; subst e_s1; subst e_t1; subst e_v1; exact rfl
          exact wi_vret hC hr hk d_PS_showQuotient_95 rfl (congrArg (fun z => (z, τ, q)) hf).symm hQ
        refine wi_if_eq hC 90 d_PS_showQuotient_81 (by decide) (fun h4 => ?_) (fun h4 => ?_)
        · skip
          refine wi_iconst hC 0 (by decide) d_PS_showQuotient_90 ?_
          exact Jt4 0 (by exact (Eq.trans eTt4 (if_pos h4)))
        · skip
          refine wi_sipush hC 512 (by decide) d_PS_showQuotient_84 ?_
          refine wi_goto hC 91 d_PS_showQuotient_87 (by decide) ?_
          exact Jt4 512 (by exact (Eq.trans eTt4 (if_neg h4)))
      refine wi_if_eq hC 68 d_PS_showQuotient_59 (by decide) (fun h3 => ?_) (fun h3 => ?_)
      · skip
        refine wi_iconst hC 0 (by decide) d_PS_showQuotient_68 ?_
        exact Jt3 0 (by exact (Eq.trans eTt3 (if_pos h3)))
      · skip
        refine wi_sipush hC 16384 (by decide) d_PS_showQuotient_62 ?_
        refine wi_goto hC 69 d_PS_showQuotient_65 (by decide) ?_
        exact Jt3 16384 (by exact (Eq.trans eTt3 (if_neg h3)))
    refine wi_if_eq hC 46 d_PS_showQuotient_37 (by decide) (fun h2 => ?_) (fun h2 => ?_)
    · skip
      refine wi_iconst hC 0 (by decide) d_PS_showQuotient_46 ?_
      exact Jt2 0 (by exact (Eq.trans eTt2 (if_pos h2)))
    · skip
      refine wi_sipush hC 256 (by decide) d_PS_showQuotient_40 ?_
      refine wi_goto hC 47 d_PS_showQuotient_43 (by decide) ?_
      exact Jt2 256 (by exact (Eq.trans eTt2 (if_neg h2)))
  refine wi_z_eq (b := (gZ σ 19 25)) hC 25 d_PS_showQuotient_16 (by decide) (fun h1 => ?_) (fun h1 => ?_)
  · skip
    refine wi_iconst hC 0 (by decide) d_PS_showQuotient_25 ?_
    exact Jt1 0 (by exact (Eq.trans eTt1 (if_neg h1)))
  · skip
    refine wi_sipush hC 1024 (by decide) d_PS_showQuotient_19 ?_
    refine wi_goto hC 26 d_PS_showQuotient_22 (by decide) ?_
    exact Jt1 1024 (by exact (Eq.trans eTt1 (if_pos h1)))
theorem k_PS_showQuotient {p : Program} {l : Launch} {e : Env} {R : Room} {s : State} {m : MethodId} {args : Array Value} {below : List Frame} {meth : Method} {c : Code} {Q : State → Prop} {E : Ev} {nL pc index : Nat} {lv : List (Nat × Value)} {rest : List Value} {cc : ByteArray} {own : String} {σ τ : St} {q : Int64}  (hC : Cx p s m args c cc nL own E)   (hl : Cond.methodLink own index y_PS_showQuotient ∈ WL) (hR : 0 + 1 ≤ R.frames ∧ 8 + (2 + 11) + 0 ≤ R.locals) (hs8 : (rest.map fun v => v.category).sum ≤ 8) (d : decode cc pc = .ok (.invokevirtual index, 3)) (k : WS p l e R s m args below meth c Q E nL (pc + 3) lv rest ((f_PS_showQuotient σ), τ, q)) : WS p l e R s m args below meth c Q E nL pc lv (.ref 0 :: rest) (σ, τ, q) := by
  exact wi_callV hC (n := 0) (vs := []) (rest := rest) 0 0 (by decide) rfl rfl rfl (c_PS_showQuotient l E σ τ q  ) (by decide +kernel) wd_520 wd_395 wd_521 wd_522 ⟨rfl, rfl⟩ rfl rfl hl hR hs8 d k
set_option maxRecDepth 100000 in
set_option maxHeartbeats 400000 in
theorem c_PS_doStep (l : Launch) (E : Ev) (σ τ : St) (q : Int64) (a1 : Int32)  : MF l y_PS_doStep prog_1_method_21_code 2 none { frames := 5, cells := 0, slots := 0, locals := 132 } E [.ref 0, .int a1] (σ, τ, q) none ((f_PS_doStep σ a1), τ, q) := by
  refine MF_intro (lv0 := [(0, .ref 0), (1, .int a1)]) (by decide) wd_528 (Nat.le_of_ble_eq_true rfl) rfl ?_
  intro p e s m args below meth c Q hC hr hk hQ
  replace hC : Cx p s m args c prog_1_method_21_code 2 "PartnerStack" E := hC
  refine wi_aload_n hC 0 d_PS_doStep_0 rfl rfl ?_
  refine wi_iconst hC 0 (by decide) d_PS_doStep_1 ?_
  refine wi_aload_n hC 0 d_PS_doStep_2 rfl rfl ?_
  refine wg_PS_left hC wd_459 d_PS_doStep_3 ?_
  refine k_PS_need hC (by unfold isReal; decide) wd_485 (by decide) (Nat.le_of_ble_eq_true rfl) d_PS_doStep_6 ?_
  refine wi_nmC (fun s1 e_s1 => ?_)
  refine wi_iload_n hC 1 d_PS_doStep_9 rfl rfl ?_
  obtain ⟨Tt1, eTt1⟩ : ∃ y : St, y = (
          if a1 = 0 then
            f_PS_doStep_b18 s1
          else
            if a1 = 5 then
              f_PS_doStep_b18 s1
            else
              s1) := ⟨_, rfl⟩
  have Jt1 : ∀ (t1 : St), Tt1 = t1 → WS p l e { frames := 5, cells := 0, slots := 0, locals := 132 } s m args below meth c Q E 2 27 [(0, .ref 0), (1, .int a1)] [] (t1, τ, q) := by
    intro t1  e_t1
    rw [eTt1] at e_t1
    refine wi_aload_n hC 0 d_PS_doStep_27 rfl rfl ?_
    refine wg_PS_control hC wd_385 d_PS_doStep_28 ?_
    refine k_Ctl_ends hC  wd_457 (by decide) (Nat.le_of_ble_eq_true rfl) d_PS_doStep_31 ?_
    refine wi_z_eq (b := (f_Ctl_ends t1)) hC 38 d_PS_doStep_34 (by decide) (fun h3 => ?_) (fun h3 => ?_)
    · skip
      refine wi_iload_n hC 1 d_PS_doStep_38 rfl rfl ?_
      obtain ⟨Tt2, eTt2⟩ : ∃ y : St, y = (
              if a1 = 0 then
                let s6 : St := f_Steps_takeRemainder t1 12 13 14
                s6
              else
                if a1 = 2 then
                  let s5 : St := f_Oper_operate t1 4 12 12 14
                  s5
                else
                  if a1 = 4 then
                    let s4 : St := f_Steps_makeWhole t1 12 14
                    s4
                  else
                    let s3 : St := f_Steps_scale t1 12 13 14
                    s3) := ⟨_, rfl⟩
      have Jt2 : ∀ (t2 : St), Tt2 = t2 → WS p l e { frames := 5, cells := 0, slots := 0, locals := 132 } s m args below meth c Q E 2 134 [(0, .ref 0), (1, .int a1)] [] (t2, τ, q) := by
        intro t2  e_t2
        rw [eTt2] at e_t2
        refine wi_aload_n hC 0 d_PS_doStep_134 rfl rfl ?_
        refine wg_PS_control hC wd_385 d_PS_doStep_135 ?_
        refine k_Ctl_ends hC  wd_457 (by decide) (Nat.le_of_ble_eq_true rfl) d_PS_doStep_138 ?_
        refine wi_z_eq (b := (f_Ctl_ends t2)) hC 145 d_PS_doStep_141 (by decide) (fun h7 => ?_) (fun h7 => ?_)
        · skip
          refine wi_aload_n hC 0 d_PS_doStep_145 rfl rfl ?_
          refine wi_iconst hC 0 (by decide) d_PS_doStep_146 ?_
          refine wi_aload_n hC 0 d_PS_doStep_147 rfl rfl ?_
          refine wg_PS_answer hC wd_461 d_PS_doStep_148 ?_
          refine k_PS_keep hC (by unfold isReal; decide) wd_472 (by decide) (Nat.le_of_ble_eq_true rfl) d_PS_doStep_151 ?_
          refine wi_nmC (fun s7 e_s7 => ?_)
          refine wi_iload_n hC 1 d_PS_doStep_154 rfl rfl ?_
          obtain ⟨Tt3, eTt3⟩ : ∃ y : St, y = (
                  if a1 = 0 then
                    if gZ s7 18 25 = true then
                      let s8 : St := f_PS_showQuotient s7
                      s8
                    else
                      s7
                  else
                    s7) := ⟨_, rfl⟩
          have Jt3 : ∀ (t3 : St), Tt3 = t3 → WS p l e { frames := 5, cells := 0, slots := 0, locals := 132 } s m args below meth c Q E 2 172 [(0, .ref 0), (1, .int a1)] [] (t3, τ, q) := by
            intro t3  e_t3
            rw [eTt3] at e_t3
            have hf : f_PS_doStep σ a1 = t3 := by subst e_t3; subst e_s7; subst e_t2; subst e_t1; subst e_s1; exact (Eq.trans (if_neg h3) (if_neg h7))
            exact wi_vret hC hr hk d_PS_doStep_172 rfl (congrArg (fun z => (z, τ, q)) hf).symm hQ
          refine wi_if_ne hC 172 d_PS_doStep_155 (by decide) (fun h8 => ?_) (fun h8 => ?_)
          · skip
            exact Jt3 s7 (by exact (Eq.trans eTt3 (if_neg h8)))
          · skip
            refine wi_aload_n hC 0 d_PS_doStep_158 rfl rfl ?_
            refine wg_PS_steps hC wd_458 d_PS_doStep_159 ?_
            refine wg_Steps_hasQuotient hC wd_526 d_PS_doStep_162 ?_
            refine wi_z_eq (b := (gZ s7 18 25)) hC 172 d_PS_doStep_165 (by decide) (fun h9 => ?_) (fun h9 => ?_)
            · skip
              exact Jt3 s7 (by exact (Eq.trans eTt3 (Eq.trans (if_pos h8) (if_neg h9))))
            · skip
              refine wi_aload_n hC 0 d_PS_doStep_168 rfl rfl ?_
              refine k_PS_showQuotient hC  wd_527 (by decide) (Nat.le_of_ble_eq_true rfl) d_PS_doStep_169 ?_
              refine wi_nmC (fun s8 e_s8 => ?_)
              exact Jt3 s8 (by subst e_s8; exact (Eq.trans eTt3 (Eq.trans (if_pos h8) (if_pos h9))))
        · skip
          have hf : f_PS_doStep σ a1 = t2 := by subst e_t2; subst e_t1; subst e_s1; exact (Eq.trans (if_neg h3) (if_pos h7))
          exact wi_vret hC hr hk d_PS_doStep_144 rfl (congrArg (fun z => (z, τ, q)) hf).symm hQ
      refine wi_if_ne hC 64 d_PS_doStep_39 (by decide) (fun h4 => ?_) (fun h4 => ?_)
      · skip
        refine wi_iload_n hC 1 d_PS_doStep_64 rfl rfl ?_
        refine wi_iconst hC 2 (by decide) d_PS_doStep_65 ?_
        refine wi_icmp_ne hC 92 d_PS_doStep_66 (by decide) (fun h5 => ?_) (fun h5 => ?_)
        · skip
          refine wi_iload_n hC 1 d_PS_doStep_92 rfl rfl ?_
          refine wi_iconst hC 4 (by decide) d_PS_doStep_93 ?_
          refine wi_icmp_ne hC 115 d_PS_doStep_94 (by decide) (fun h6 => ?_) (fun h6 => ?_)
          · skip
            refine wi_aload_n hC 0 d_PS_doStep_115 rfl rfl ?_
            refine wg_PS_steps hC wd_458 d_PS_doStep_116 ?_
            refine wi_aload_n hC 0 d_PS_doStep_119 rfl rfl ?_
            refine wg_PS_left hC wd_459 d_PS_doStep_120 ?_
            refine wi_aload_n hC 0 d_PS_doStep_123 rfl rfl ?_
            refine wg_PS_right hC wd_460 d_PS_doStep_124 ?_
            refine wi_aload_n hC 0 d_PS_doStep_127 rfl rfl ?_
            refine wg_PS_answer hC wd_461 d_PS_doStep_128 ?_
            refine k_Steps_scale hC (by unfold isReal; decide) (by unfold isReal; decide) (by unfold isReal; decide) wd_523 (by decide) (Nat.le_of_ble_eq_true rfl) d_PS_doStep_131 ?_
            refine wi_nmC (fun s3 e_s3 => ?_)
            exact Jt2 s3 (by subst e_s3; exact (Eq.trans eTt2 (Eq.trans (if_neg h4) (Eq.trans (if_neg h5) (if_neg h6)))))
          · skip
            refine wi_aload_n hC 0 d_PS_doStep_97 rfl rfl ?_
            refine wg_PS_steps hC wd_458 d_PS_doStep_98 ?_
            refine wi_aload_n hC 0 d_PS_doStep_101 rfl rfl ?_
            refine wg_PS_left hC wd_459 d_PS_doStep_102 ?_
            refine wi_aload_n hC 0 d_PS_doStep_105 rfl rfl ?_
            refine wg_PS_answer hC wd_461 d_PS_doStep_106 ?_
            refine k_Steps_makeWhole hC (by unfold isReal; decide) (by unfold isReal; decide) wd_524 (by decide) (Nat.le_of_ble_eq_true rfl) d_PS_doStep_109 ?_
            refine wi_nmC (fun s4 e_s4 => ?_)
            refine wi_goto hC 134 d_PS_doStep_112 (by decide) ?_
            exact Jt2 s4 (by subst e_s4; exact (Eq.trans eTt2 (Eq.trans (if_neg h4) (Eq.trans (if_neg h5) (if_pos h6)))))
        · skip
          refine wi_aload_n hC 0 d_PS_doStep_69 rfl rfl ?_
          refine wg_PS_operation hC wd_470 d_PS_doStep_70 ?_
          refine wi_iconst hC 4 (by decide) d_PS_doStep_73 ?_
          refine wi_aload_n hC 0 d_PS_doStep_74 rfl rfl ?_
          refine wg_PS_left hC wd_459 d_PS_doStep_75 ?_
          refine wi_aload_n hC 0 d_PS_doStep_78 rfl rfl ?_
          refine wg_PS_left hC wd_459 d_PS_doStep_79 ?_
          refine wi_aload_n hC 0 d_PS_doStep_82 rfl rfl ?_
          refine wg_PS_answer hC wd_461 d_PS_doStep_83 ?_
          refine k_Oper_operate hC (by unfold isReal; decide) (by unfold isReal; decide) (by unfold isReal; decide) wd_471 (by decide) (Nat.le_of_ble_eq_true rfl) d_PS_doStep_86 ?_
          refine wi_nmC (fun s5 e_s5 => ?_)
          refine wi_goto hC 134 d_PS_doStep_89 (by decide) ?_
          exact Jt2 s5 (by subst e_s5; exact (Eq.trans eTt2 (Eq.trans (if_neg h4) (if_pos h5))))
      · skip
        refine wi_aload_n hC 0 d_PS_doStep_42 rfl rfl ?_
        refine wg_PS_steps hC wd_458 d_PS_doStep_43 ?_
        refine wi_aload_n hC 0 d_PS_doStep_46 rfl rfl ?_
        refine wg_PS_left hC wd_459 d_PS_doStep_47 ?_
        refine wi_aload_n hC 0 d_PS_doStep_50 rfl rfl ?_
        refine wg_PS_right hC wd_460 d_PS_doStep_51 ?_
        refine wi_aload_n hC 0 d_PS_doStep_54 rfl rfl ?_
        refine wg_PS_answer hC wd_461 d_PS_doStep_55 ?_
        refine k_Steps_takeRemainder hC (by unfold isReal; decide) (by unfold isReal; decide) (by unfold isReal; decide) wd_525 (by decide) (Nat.le_of_ble_eq_true rfl) d_PS_doStep_58 ?_
        refine wi_nmC (fun s6 e_s6 => ?_)
        refine wi_goto hC 134 d_PS_doStep_61 (by decide) ?_
        exact Jt2 s6 (by subst e_s6; exact (Eq.trans eTt2 (if_pos h4)))
    · skip
      have hf : f_PS_doStep σ a1 = t1 := by subst e_t1; subst e_s1; exact (if_pos h3)
      exact wi_vret hC hr hk d_PS_doStep_37 rfl (congrArg (fun z => (z, τ, q)) hf).symm hQ
  have B1 : Tt1 = f_PS_doStep_b18 s1 → WS p l e { frames := 5, cells := 0, slots := 0, locals := 132 } s m args below meth c Q E 2 18 [(0, .ref 0), (1, .int a1)] [] (s1, τ, q) := by
    intro hB1
    refine wi_aload_n hC 0 d_PS_doStep_18 rfl rfl ?_
    refine wi_iconst hC 1 (by decide) d_PS_doStep_19 ?_
    refine wi_aload_n hC 0 d_PS_doStep_20 rfl rfl ?_
    refine wg_PS_right hC wd_460 d_PS_doStep_21 ?_
    refine k_PS_need hC (by unfold isReal; decide) wd_485 (by decide) (Nat.le_of_ble_eq_true rfl) d_PS_doStep_24 ?_
    refine wi_nmC (fun s2 e_s2 => ?_)
    exact Jt1 s2 (by subst e_s2; exact hB1)
  refine wi_if_eq hC 18 d_PS_doStep_10 (by decide) (fun h1 => ?_) (fun h1 => ?_)
  · skip
    exact B1   (by exact (Eq.trans eTt1 (if_pos h1)))
  · skip
    refine wi_iload_n hC 1 d_PS_doStep_13 rfl rfl ?_
    refine wi_iconst hC 5 (by decide) d_PS_doStep_14 ?_
    refine wi_icmp_ne hC 27 d_PS_doStep_15 (by decide) (fun h2 => ?_) (fun h2 => ?_)
    · skip
      exact Jt1 s1 (by exact (Eq.trans eTt1 (Eq.trans (if_neg h1) (if_neg h2))))
    · skip
      exact B1   (by exact (Eq.trans eTt1 (Eq.trans (if_neg h1) (if_pos h2))))
theorem k_PS_doStep {p : Program} {l : Launch} {e : Env} {R : Room} {s : State} {m : MethodId} {args : Array Value} {below : List Frame} {meth : Method} {c : Code} {Q : State → Prop} {E : Ev} {nL pc index : Nat} {lv : List (Nat × Value)} {rest : List Value} {cc : ByteArray} {own : String} {σ τ : St} {q : Int64} {a1 : Int32} (hC : Cx p s m args c cc nL own E)   (hl : Cond.methodLink own index y_PS_doStep ∈ WL) (hR : 5 + 1 ≤ R.frames ∧ 8 + (2 + 11) + 132 ≤ R.locals) (hs8 : (rest.map fun v => v.category).sum ≤ 8) (d : decode cc pc = .ok (.invokevirtual index, 3)) (k : WS p l e R s m args below meth c Q E nL (pc + 3) lv rest ((f_PS_doStep σ a1), τ, q)) : WS p l e R s m args below meth c Q E nL pc lv (.int a1 :: .ref 0 :: rest) (σ, τ, q) := by
  exact wi_callV hC (n := 1) (vs := [.int a1]) (rest := rest) 0 0 (by decide) rfl rfl rfl (c_PS_doStep l E σ τ q a1 ) (by decide +kernel) wd_528 wd_395 wd_529 wd_530 ⟨rfl, rfl⟩ rfl rfl hl hR hs8 d k
set_option maxRecDepth 100000 in
set_option maxHeartbeats 400000 in
theorem c_PS_doOwn (l : Launch) (E : Ev) (σ τ : St) (q : Int64) (a1 : Int32) (a2 : Int32) (hp : a1 = 5 → vp_in a2 7) : MF l y_PS_doOwn prog_1_method_19_code 3 none { frames := 6, cells := 0, slots := 0, locals := 153 } E [.ref 0, .int a1, .int a2] (σ, τ, q) none ((f_PS_doOwn σ a1 a2), τ, q) := by
  refine MF_intro (lv0 := [(0, .ref 0), (1, .int a1), (2, .int a2)]) (by decide) wd_538 (Nat.le_of_ble_eq_true rfl) rfl ?_
  intro p e s m args below meth c Q hC hr hk hQ
  replace hC : Cx p s m args c prog_1_method_19_code 3 "PartnerStack" E := hC
  refine wi_iload_n hC 1 d_PS_doOwn_0 rfl rfl ?_
  obtain ⟨Tt1, eTt1⟩ : ∃ y : St, y = (
          if a1 = 0 then
            let s1 : St := f_PS_need σ a2 12
            let s2 : St := f_PS_push s1 12
            s2
          else
            if a1 = 1 then
              let s3 : St := f_PS_exchange σ a2
              s3
            else
              if a1 = 2 then
                σ
              else
                if a1 = 3 then
                  σ
                else
                  if a1 = 4 then
                    let s4 : St := f_PS_doWithFirst σ a2
                    s4
                  else
                    if a1 = 5 then
                      let s5 : St := f_Real_set σ 14 false (tb3.getD (jat a2) 0) (tb4.getD (jat a2) 0)
                      let s6 : St := f_PS_push s5 14
                      s6
                    else
                      if a1 = 6 then
                        if a2 = 4 then
                          let s8 : St := f_PS_extract σ
                          s8
                        else
                          let t2 : Int32 := 
                              if a2 = 6 then
                                7
                              else
                                1
                          let s7 : St := sI σ 0 0 (f_PS_place σ t2)
                          s7
                      else
                        if a1 = 7 then
                          let s9 : St := f_PS_doStep σ a2
                          s9
                        else
                          σ) := ⟨_, rfl⟩
  have Jt1 : ∀ (t1 : St), Tt1 = t1 → WS p l e { frames := 6, cells := 0, slots := 0, locals := 153 } s m args below meth c Q E 3 156 [(0, .ref 0), (1, .int a1), (2, .int a2)] [] (t1, τ, q) := by
    intro t1  e_t1
    rw [eTt1] at e_t1
    have hf : f_PS_doOwn σ a1 a2 = t1 := by subst e_t1; exact rfl
    exact wi_vret hC hr hk d_PS_doOwn_156 rfl (congrArg (fun z => (z, τ, q)) hf).symm hQ
  refine wi_by (a1 = 0) (fun h1 => ?_) (fun h1 => ?_)
  · skip
    refine wi_tsIn hC 0 48 d_PS_doOwn_1 (by rw [h1]; decide) (by decide) rfl (by decide) ?_
    refine wi_aload_n hC 0 d_PS_doOwn_48 rfl rfl ?_
    refine wi_iload_n hC 2 d_PS_doOwn_49 rfl rfl ?_
    refine wi_aload_n hC 0 d_PS_doOwn_50 rfl rfl ?_
    refine wg_PS_left hC wd_459 d_PS_doOwn_51 ?_
    refine k_PS_need hC (by unfold isReal; decide) wd_485 (by decide) (Nat.le_of_ble_eq_true rfl) d_PS_doOwn_54 ?_
    refine wi_nmC (fun s1 e_s1 => ?_)
    refine wi_aload_n hC 0 d_PS_doOwn_57 rfl rfl ?_
    refine wi_aload_n hC 0 d_PS_doOwn_58 rfl rfl ?_
    refine wg_PS_left hC wd_459 d_PS_doOwn_59 ?_
    refine k_PS_push hC (by unfold isReal; decide) wd_481 (by decide) (Nat.le_of_ble_eq_true rfl) d_PS_doOwn_62 ?_
    refine wi_nmC (fun s2 e_s2 => ?_)
    refine wi_goto hC 156 d_PS_doOwn_65 (by decide) ?_
    exact Jt1 s2 (by subst e_s2; subst e_s1; exact (Eq.trans eTt1 (if_pos h1)))
  · skip
    refine wi_by (a1 = 1) (fun h2 => ?_) (fun h2 => ?_)
    · skip
      refine wi_tsIn hC 1 68 d_PS_doOwn_1 (by rw [h2]; decide) (by decide) rfl (by decide) ?_
      refine wi_aload_n hC 0 d_PS_doOwn_68 rfl rfl ?_
      refine wi_iload_n hC 2 d_PS_doOwn_69 rfl rfl ?_
      refine k_PS_exchange hC  wd_531 (by decide) (Nat.le_of_ble_eq_true rfl) d_PS_doOwn_70 ?_
      refine wi_nmC (fun s3 e_s3 => ?_)
      refine wi_goto hC 156 d_PS_doOwn_73 (by decide) ?_
      exact Jt1 s3 (by subst e_s3; exact (Eq.trans eTt1 (Eq.trans (if_neg h1) (if_pos h2))))
    · skip
      refine wi_by (a1 = 2) (fun h3 => ?_) (fun h3 => ?_)
      · skip
        refine wi_tsIn hC 2 156 d_PS_doOwn_1 (by rw [h3]; decide) (by decide) rfl (by decide) ?_
        exact Jt1 σ (by exact (Eq.trans eTt1 (Eq.trans (if_neg h1) (Eq.trans (if_neg h2) (if_pos h3)))))
      · skip
        refine wi_by (a1 = 3) (fun h4 => ?_) (fun h4 => ?_)
        · skip
          refine wi_tsIn hC 3 156 d_PS_doOwn_1 (by rw [h4]; decide) (by decide) rfl (by decide) ?_
          exact Jt1 σ (by exact (Eq.trans eTt1 (Eq.trans (if_neg h1) (Eq.trans (if_neg h2) (Eq.trans (if_neg h3) (if_pos h4))))))
        · skip
          refine wi_by (a1 = 4) (fun h5 => ?_) (fun h5 => ?_)
          · skip
            refine wi_tsIn hC 4 76 d_PS_doOwn_1 (by rw [h5]; decide) (by decide) rfl (by decide) ?_
            refine wi_aload_n hC 0 d_PS_doOwn_76 rfl rfl ?_
            refine wi_iload_n hC 2 d_PS_doOwn_77 rfl rfl ?_
            refine k_PS_doWithFirst hC  wd_532 (by decide) (Nat.le_of_ble_eq_true rfl) d_PS_doOwn_78 ?_
            refine wi_nmC (fun s4 e_s4 => ?_)
            refine wi_goto hC 156 d_PS_doOwn_81 (by decide) ?_
            exact Jt1 s4 (by subst e_s4; exact (Eq.trans eTt1 (Eq.trans (if_neg h1) (Eq.trans (if_neg h2) (Eq.trans (if_neg h3) (Eq.trans (if_neg h4) (if_pos h5)))))))
          · skip
            refine wi_by (a1 = 5) (fun h6 => ?_) (fun h6 => ?_)
            · skip
              refine wi_tsIn hC 5 84 d_PS_doOwn_1 (by rw [h6]; decide) (by decide) rfl (by decide) ?_
              refine wi_aload_n hC 0 d_PS_doOwn_84 rfl rfl ?_
              refine wg_PS_answer hC wd_461 d_PS_doOwn_85 ?_
              refine wi_iconst hC 0 (by decide) d_PS_doOwn_88 ?_
              refine wst_get53 hC wd_533 d_PS_doOwn_89 ?_
              refine wi_iload_n hC 2 d_PS_doOwn_92 rfl rfl ?_
              refine wst_ld53 hC (hp h6) d_PS_doOwn_93 ?_
              refine wst_get54 hC wd_534 d_PS_doOwn_94 ?_
              refine wi_iload_n hC 2 d_PS_doOwn_97 rfl rfl ?_
              refine wst_ld54 hC (hp h6) d_PS_doOwn_98 ?_
              refine k_Real_set hC false rfl (by unfold isReal; decide) wd_535 (by decide) (Nat.le_of_ble_eq_true rfl) d_PS_doOwn_99 ?_
              refine wi_nmC (fun s5 e_s5 => ?_)
              refine wi_aload_n hC 0 d_PS_doOwn_102 rfl rfl ?_
              refine wi_aload_n hC 0 d_PS_doOwn_103 rfl rfl ?_
              refine wg_PS_answer hC wd_461 d_PS_doOwn_104 ?_
              refine k_PS_push hC (by unfold isReal; decide) wd_481 (by decide) (Nat.le_of_ble_eq_true rfl) d_PS_doOwn_107 ?_
              refine wi_nmC (fun s6 e_s6 => ?_)
              refine wi_goto hC 156 d_PS_doOwn_110 (by decide) ?_
              exact Jt1 s6 (by subst e_s6; subst e_s5; exact (Eq.trans eTt1 (Eq.trans (if_neg h1) (Eq.trans (if_neg h2) (Eq.trans (if_neg h3) (Eq.trans (if_neg h4) (Eq.trans (if_neg h5) (if_pos h6))))))))
            · skip
              refine wi_by (a1 = 6) (fun h7 => ?_) (fun h7 => ?_)
              · skip
                refine wi_tsIn hC 6 113 d_PS_doOwn_1 (by rw [h7]; decide) (by decide) rfl (by decide) ?_
                refine wi_iload_n hC 2 d_PS_doOwn_113 rfl rfl ?_
                refine wi_iconst hC 4 (by decide) d_PS_doOwn_114 ?_
                refine wi_icmp_ne hC 125 d_PS_doOwn_115 (by decide) (fun h8 => ?_) (fun h8 => ?_)
                · skip
                  refine wi_aload_n hC 0 d_PS_doOwn_125 rfl rfl ?_
                  refine wi_aload_n hC 0 d_PS_doOwn_126 rfl rfl ?_
                  refine wi_iload_n hC 2 d_PS_doOwn_127 rfl rfl ?_
                  refine wi_bipush hC 6 (by decide) d_PS_doOwn_128 ?_
                  obtain ⟨Tt2, eTt2⟩ : ∃ y : Int32, y = (
                          if a2 = 6 then
                            7
                          else
                            1) := ⟨_, rfl⟩
                  have Jt2 : ∀ (t2 : Int32), Tt2 = t2 → WS p l e { frames := 6, cells := 0, slots := 0, locals := 153 } s m args below meth c Q E 3 139 [(0, .ref 0), (1, .int a1), (2, .int a2)] [.int t2, .ref 0, .ref 0] (σ, τ, q) := by
                    intro t2  e_t2
                    rw [eTt2] at e_t2
                    refine k_PS_place hC  wd_417 (by decide) (Nat.le_of_ble_eq_true rfl) d_PS_doOwn_139 ?_
                    refine wp_PS_top hC (place_in _ _) wd_389 d_PS_doOwn_142 ?_
                    refine wi_nmC (fun s7 e_s7 => ?_)
                    refine wi_goto hC 156 d_PS_doOwn_145 (by decide) ?_
                    exact Jt1 s7 (by subst e_s7; subst e_t2; exact (Eq.trans eTt1 (Eq.trans (if_neg h1) (Eq.trans (if_neg h2) (Eq.trans (if_neg h3) (Eq.trans (if_neg h4) (Eq.trans (if_neg h5) (Eq.trans (if_neg h6) (Eq.trans (if_pos h7) (if_neg h8))))))))))
                  refine wi_icmp_ne hC 138 d_PS_doOwn_130 (by decide) (fun h9 => ?_) (fun h9 => ?_)
                  · skip
                    refine wi_iconst hC 1 (by decide) d_PS_doOwn_138 ?_
                    exact Jt2 1 (by exact (Eq.trans eTt2 (if_neg h9)))
                  · skip
                    refine wi_bipush hC 7 (by decide) d_PS_doOwn_133 ?_
                    refine wi_goto hC 139 d_PS_doOwn_135 (by decide) ?_
                    exact Jt2 7 (by exact (Eq.trans eTt2 (if_pos h9)))
                · skip
                  refine wi_aload_n hC 0 d_PS_doOwn_118 rfl rfl ?_
                  refine k_PS_extract hC  wd_536 (by decide) (Nat.le_of_ble_eq_true rfl) d_PS_doOwn_119 ?_
                  refine wi_nmC (fun s8 e_s8 => ?_)
                  refine wi_goto hC 156 d_PS_doOwn_122 (by decide) ?_
                  exact Jt1 s8 (by subst e_s8; exact (Eq.trans eTt1 (Eq.trans (if_neg h1) (Eq.trans (if_neg h2) (Eq.trans (if_neg h3) (Eq.trans (if_neg h4) (Eq.trans (if_neg h5) (Eq.trans (if_neg h6) (Eq.trans (if_pos h7) (if_pos h8))))))))))
              · skip
                refine wi_by (a1 = 7) (fun h10 => ?_) (fun h10 => ?_)
                · skip
                  refine wi_tsIn hC 7 148 d_PS_doOwn_1 (by rw [h10]; decide) (by decide) rfl (by decide) ?_
                  refine wi_aload_n hC 0 d_PS_doOwn_148 rfl rfl ?_
                  refine wi_iload_n hC 2 d_PS_doOwn_149 rfl rfl ?_
                  refine k_PS_doStep hC  wd_537 (by decide) (Nat.le_of_ble_eq_true rfl) d_PS_doOwn_150 ?_
                  refine wi_nmC (fun s9 e_s9 => ?_)
                  refine wi_goto hC 156 d_PS_doOwn_153 (by decide) ?_
                  exact Jt1 s9 (by subst e_s9; exact (Eq.trans eTt1 (Eq.trans (if_neg h1) (Eq.trans (if_neg h2) (Eq.trans (if_neg h3) (Eq.trans (if_neg h4) (Eq.trans (if_neg h5) (Eq.trans (if_neg h6) (Eq.trans (if_neg h7) (if_pos h10))))))))))
                · skip
                  refine wi_tsOut hC 156 d_PS_doOwn_1 (by have q0 := lv_neT h1 (a := 0) (by decide); have q1 := lv_neT h2 (a := 1) (by decide); have q2 := lv_neT h3 (a := 2) (by decide); have q3 := lv_neT h4 (a := 3) (by decide); have q4 := lv_neT h5 (a := 4) (by decide); have q5 := lv_neT h6 (a := 5) (by decide); have q6 := lv_neT h7 (a := 6) (by decide); have q7 := lv_neT h10 (a := 7) (by decide); omega) (by decide) ?_
                  exact Jt1 σ (by exact (Eq.trans eTt1 (Eq.trans (if_neg h1) (Eq.trans (if_neg h2) (Eq.trans (if_neg h3) (Eq.trans (if_neg h4) (Eq.trans (if_neg h5) (Eq.trans (if_neg h6) (Eq.trans (if_neg h7) (if_neg h10))))))))))
theorem k_PS_doOwn {p : Program} {l : Launch} {e : Env} {R : Room} {s : State} {m : MethodId} {args : Array Value} {below : List Frame} {meth : Method} {c : Code} {Q : State → Prop} {E : Ev} {nL pc index : Nat} {lv : List (Nat × Value)} {rest : List Value} {cc : ByteArray} {own : String} {σ τ : St} {q : Int64} {a1 : Int32} {a2 : Int32} (hC : Cx p s m args c cc nL own E)  (hp : a1 = 5 → vp_in a2 7) (hl : Cond.methodLink own index y_PS_doOwn ∈ WL) (hR : 6 + 1 ≤ R.frames ∧ 8 + (3 + 11) + 153 ≤ R.locals) (hs8 : (rest.map fun v => v.category).sum ≤ 8) (d : decode cc pc = .ok (.invokevirtual index, 3)) (k : WS p l e R s m args below meth c Q E nL (pc + 3) lv rest ((f_PS_doOwn σ a1 a2), τ, q)) : WS p l e R s m args below meth c Q E nL pc lv (.int a2 :: .int a1 :: .ref 0 :: rest) (σ, τ, q) := by
  exact wi_callV hC (n := 2) (vs := [.int a1, .int a2]) (rest := rest) 0 0 (by decide) rfl rfl rfl (c_PS_doOwn l E σ τ q a1 a2 hp) (by decide +kernel) wd_538 wd_395 wd_539 wd_540 ⟨rfl, rfl⟩ rfl rfl hl hR hs8 d k
set_option maxRecDepth 100000 in
set_option maxHeartbeats 400000 in
theorem c_PS_doWithControl (l : Launch) (E : Ev) (σ τ : St) (q : Int64) (a1 : Int32)  : MF l y_PS_doWithControl prog_1_method_22_code 2 none { frames := 1, cells := 0, slots := 0, locals := 21 } E [.ref 0, .int a1] (σ, τ, q) none ((f_PS_doWithControl σ a1), τ, q) := by
  refine MF_intro (lv0 := [(0, .ref 0), (1, .int a1)]) (by decide) wd_541 (Nat.le_of_ble_eq_true rfl) rfl ?_
  intro p e s m args below meth c Q hC hr hk hQ
  replace hC : Cx p s m args c prog_1_method_22_code 2 "PartnerStack" E := hC
  refine wi_iload_n hC 1 d_PS_doWithControl_0 rfl rfl ?_
  obtain ⟨Tt1, eTt1⟩ : ∃ y : St, y = (
          if a1 = 0 then
            let s1 : St := sI σ 6 3 ((gI σ 6 3) &&& (-129))
            s1
          else
            if a1 = 1 then
              let s2 : St := sI σ 6 3 ((gI σ 6 3) ||| 128)
              s2
            else
              if a1 = 2 then
                let s3 : St := sI σ 1 0 0
                s3
              else
                let s4 : St := f_PS_beInitial σ
                s4) := ⟨_, rfl⟩
  have Jt1 : ∀ (t1 : St), Tt1 = t1 → WS p l e { frames := 1, cells := 0, slots := 0, locals := 21 } s m args below meth c Q E 2 76 [(0, .ref 0), (1, .int a1)] [] (t1, τ, q) := by
    intro t1  e_t1
    rw [eTt1] at e_t1
    have hf : f_PS_doWithControl σ a1 = t1 := by subst e_t1; exact rfl
    exact wi_vret hC hr hk d_PS_doWithControl_76 rfl (congrArg (fun z => (z, τ, q)) hf).symm hQ
  refine wi_by (a1 = 0) (fun h1 => ?_) (fun h1 => ?_)
  · skip
    refine wi_tsIn hC 0 28 d_PS_doWithControl_1 (by rw [h1]; decide) (by decide) rfl (by decide) ?_
    refine wi_aload_n hC 0 d_PS_doWithControl_28 rfl rfl ?_
    refine wg_PS_control hC wd_385 d_PS_doWithControl_29 ?_
    refine wi_dup hC rfl d_PS_doWithControl_32 ?_
    refine wg_Ctl_setting hC wd_386 d_PS_doWithControl_33 ?_
    refine wi_sipush hC (-129) (by decide) d_PS_doWithControl_36 ?_
    refine wi_iand hC d_PS_doWithControl_39 ?_
    refine wp_Ctl_setting hC wd_386 d_PS_doWithControl_40 ?_
    refine wi_nmC (fun s1 e_s1 => ?_)
    refine wi_goto hC 76 d_PS_doWithControl_43 (by decide) ?_
    exact Jt1 s1 (by subst e_s1; exact (Eq.trans eTt1 (if_pos h1)))
  · skip
    refine wi_by (a1 = 1) (fun h2 => ?_) (fun h2 => ?_)
    · skip
      refine wi_tsIn hC 1 46 d_PS_doWithControl_1 (by rw [h2]; decide) (by decide) rfl (by decide) ?_
      refine wi_aload_n hC 0 d_PS_doWithControl_46 rfl rfl ?_
      refine wg_PS_control hC wd_385 d_PS_doWithControl_47 ?_
      refine wi_dup hC rfl d_PS_doWithControl_50 ?_
      refine wg_Ctl_setting hC wd_386 d_PS_doWithControl_51 ?_
      refine wi_sipush hC 128 (by decide) d_PS_doWithControl_54 ?_
      refine wi_ior hC d_PS_doWithControl_57 ?_
      refine wp_Ctl_setting hC wd_386 d_PS_doWithControl_58 ?_
      refine wi_nmC (fun s2 e_s2 => ?_)
      refine wi_goto hC 76 d_PS_doWithControl_61 (by decide) ?_
      exact Jt1 s2 (by subst e_s2; exact (Eq.trans eTt1 (Eq.trans (if_neg h1) (if_pos h2))))
    · skip
      refine wi_by (a1 = 2) (fun h3 => ?_) (fun h3 => ?_)
      · skip
        refine wi_tsIn hC 2 64 d_PS_doWithControl_1 (by rw [h3]; decide) (by decide) rfl (by decide) ?_
        refine wi_aload_n hC 0 d_PS_doWithControl_64 rfl rfl ?_
        refine wi_iconst hC 0 (by decide) d_PS_doWithControl_65 ?_
        refine wp_PS_toldBefore hC wd_387 d_PS_doWithControl_66 ?_
        refine wi_nmC (fun s3 e_s3 => ?_)
        refine wi_goto hC 76 d_PS_doWithControl_69 (by decide) ?_
        exact Jt1 s3 (by subst e_s3; exact (Eq.trans eTt1 (Eq.trans (if_neg h1) (Eq.trans (if_neg h2) (if_pos h3)))))
      · skip
        refine wi_tsOut hC 72 d_PS_doWithControl_1 (by have q0 := lv_neT h1 (a := 0) (by decide); have q1 := lv_neT h2 (a := 1) (by decide); have q2 := lv_neT h3 (a := 2) (by decide); omega) (by decide) ?_
        refine wi_aload_n hC 0 d_PS_doWithControl_72 rfl rfl ?_
        refine k_PS_beInitial hC  wd_444 (by decide) (Nat.le_of_ble_eq_true rfl) d_PS_doWithControl_73 ?_
        refine wi_nmC (fun s4 e_s4 => ?_)
        exact Jt1 s4 (by subst e_s4; exact (Eq.trans eTt1 (Eq.trans (if_neg h1) (Eq.trans (if_neg h2) (if_neg h3)))))
theorem k_PS_doWithControl {p : Program} {l : Launch} {e : Env} {R : Room} {s : State} {m : MethodId} {args : Array Value} {below : List Frame} {meth : Method} {c : Code} {Q : State → Prop} {E : Ev} {nL pc index : Nat} {lv : List (Nat × Value)} {rest : List Value} {cc : ByteArray} {own : String} {σ τ : St} {q : Int64} {a1 : Int32} (hC : Cx p s m args c cc nL own E)   (hl : Cond.methodLink own index y_PS_doWithControl ∈ WL) (hR : 1 + 1 ≤ R.frames ∧ 8 + (2 + 11) + 21 ≤ R.locals) (hs8 : (rest.map fun v => v.category).sum ≤ 8) (d : decode cc pc = .ok (.invokevirtual index, 3)) (k : WS p l e R s m args below meth c Q E nL (pc + 3) lv rest ((f_PS_doWithControl σ a1), τ, q)) : WS p l e R s m args below meth c Q E nL pc lv (.int a1 :: .ref 0 :: rest) (σ, τ, q) := by
  exact wi_callV hC (n := 1) (vs := [.int a1]) (rest := rest) 0 0 (by decide) rfl rfl rfl (c_PS_doWithControl l E σ τ q a1 ) (by decide +kernel) wd_541 wd_395 wd_542 wd_543 ⟨rfl, rfl⟩ rfl rfl hl hR hs8 d k
set_option maxRecDepth 100000 in
set_option maxHeartbeats 400000 in
theorem c_PS_move (l : Launch) (E : Ev) (σ τ : St) (q : Int64) (a1 : Int32) (a2 : Int32)  : MF l y_PS_move prog_1_method_23_code 3 none { frames := 3, cells := 0, slots := 0, locals := 67 } E [.ref 0, .int a1, .int a2] (σ, τ, q) none ((f_PS_move σ a1 a2), τ, q) := by
  refine MF_intro (lv0 := [(0, .ref 0), (1, .int a1), (2, .int a2)]) (by decide) wd_544 (Nat.le_of_ble_eq_true rfl) rfl ?_
  intro p e s m args below meth c Q hC hr hk hQ
  replace hC : Cx p s m args c prog_1_method_23_code 3 "PartnerStack" E := hC
  refine wi_iload_n hC 1 d_PS_move_0 rfl rfl ?_
  refine wi_if_ne hC 16 d_PS_move_1 (by decide) (fun h1 => ?_) (fun h1 => ?_)
  · skip
    refine wi_aload_n hC 0 d_PS_move_16 rfl rfl ?_
    refine wi_iconst hC 0 (by decide) d_PS_move_17 ?_
    refine wi_aload_n hC 0 d_PS_move_18 rfl rfl ?_
    refine wg_PS_left hC wd_459 d_PS_move_19 ?_
    refine k_PS_need hC (by unfold isReal; decide) wd_485 (by decide) (Nat.le_of_ble_eq_true rfl) d_PS_move_22 ?_
    refine wi_nmC (fun s1 e_s1 => ?_)
    refine wi_aload_n hC 0 d_PS_move_25 rfl rfl ?_
    refine wg_PS_control hC wd_385 d_PS_move_26 ?_
    refine k_Ctl_ends hC  wd_457 (by decide) (Nat.le_of_ble_eq_true rfl) d_PS_move_29 ?_
    refine wi_z_eq (b := (f_Ctl_ends s1)) hC 36 d_PS_move_32 (by decide) (fun h2 => ?_) (fun h2 => ?_)
    · skip
      refine wi_aload_n hC 0 d_PS_move_36 rfl rfl ?_
      refine wi_iload_n hC 2 d_PS_move_37 rfl rfl ?_
      refine wi_aload_n hC 0 d_PS_move_38 rfl rfl ?_
      refine wg_PS_left hC wd_459 d_PS_move_39 ?_
      refine k_PS_keep hC (by unfold isReal; decide) wd_472 (by decide) (Nat.le_of_ble_eq_true rfl) d_PS_move_42 ?_
      refine wi_nmC (fun s2 e_s2 => ?_)
      refine wi_iload_n hC 1 d_PS_move_45 rfl rfl ?_
      refine wi_iconst hC 3 (by decide) d_PS_move_46 ?_
      obtain ⟨Tt1, eTt1⟩ : ∃ y : St, y = (
              if a1 = 3 then
                let s3 : St := f_PS_pop s2
                s3
              else
                s2) := ⟨_, rfl⟩
      have Jt1 : ∀ (t1 : St), Tt1 = t1 → WS p l e { frames := 3, cells := 0, slots := 0, locals := 67 } s m args below meth c Q E 3 54 [(0, .ref 0), (1, .int a1), (2, .int a2)] [] (t1, τ, q) := by
        intro t1  e_t1
        rw [eTt1] at e_t1
        have hf : f_PS_move σ a1 a2 = t1 := by subst e_t1; subst e_s2; subst e_s1; exact (Eq.trans (if_neg h1) (if_neg h2))
        exact wi_vret hC hr hk d_PS_move_54 rfl (congrArg (fun z => (z, τ, q)) hf).symm hQ
      refine wi_icmp_ne hC 54 d_PS_move_47 (by decide) (fun h3 => ?_) (fun h3 => ?_)
      · skip
        exact Jt1 s2 (by exact (Eq.trans eTt1 (if_neg h3)))
      · skip
        refine wi_aload_n hC 0 d_PS_move_50 rfl rfl ?_
        refine k_PS_pop hC  wd_463 (by decide) (Nat.le_of_ble_eq_true rfl) d_PS_move_51 ?_
        refine wi_nmC (fun s3 e_s3 => ?_)
        exact Jt1 s3 (by subst e_s3; exact (Eq.trans eTt1 (if_pos h3)))
    · skip
      have hf : f_PS_move σ a1 a2 = s1 := by subst e_s1; exact (Eq.trans (if_neg h1) (if_pos h2))
      exact wi_vret hC hr hk d_PS_move_35 rfl (congrArg (fun z => (z, τ, q)) hf).symm hQ
  · skip
    refine wi_aload_n hC 0 d_PS_move_4 rfl rfl ?_
    refine wg_PS_empty hC wd_390 d_PS_move_5 ?_
    refine wi_aload_n hC 0 d_PS_move_8 rfl rfl ?_
    refine wi_iload_n hC 2 d_PS_move_9 rfl rfl ?_
    refine k_PS_place hC  wd_417 (by decide) (Nat.le_of_ble_eq_true rfl) d_PS_move_10 ?_
    refine wi_iconst hC 1 (by decide) d_PS_move_13 ?_
    refine wa_st29 hC true rfl (place_in _ _) d_PS_move_14 ?_
    refine wi_nmC (fun s4 e_s4 => ?_)
    have hf : f_PS_move σ a1 a2 = s4 := by subst e_s4; exact (if_pos h1)
    exact wi_vret hC hr hk d_PS_move_15 rfl (congrArg (fun z => (z, τ, q)) hf).symm hQ
theorem k_PS_move {p : Program} {l : Launch} {e : Env} {R : Room} {s : State} {m : MethodId} {args : Array Value} {below : List Frame} {meth : Method} {c : Code} {Q : State → Prop} {E : Ev} {nL pc index : Nat} {lv : List (Nat × Value)} {rest : List Value} {cc : ByteArray} {own : String} {σ τ : St} {q : Int64} {a1 : Int32} {a2 : Int32} (hC : Cx p s m args c cc nL own E)   (hl : Cond.methodLink own index y_PS_move ∈ WL) (hR : 3 + 1 ≤ R.frames ∧ 8 + (3 + 11) + 67 ≤ R.locals) (hs8 : (rest.map fun v => v.category).sum ≤ 8) (d : decode cc pc = .ok (.invokevirtual index, 3)) (k : WS p l e R s m args below meth c Q E nL (pc + 3) lv rest ((f_PS_move σ a1 a2), τ, q)) : WS p l e R s m args below meth c Q E nL pc lv (.int a2 :: .int a1 :: .ref 0 :: rest) (σ, τ, q) := by
  exact wi_callV hC (n := 2) (vs := [.int a1, .int a2]) (rest := rest) 0 0 (by decide) rfl rfl rfl (c_PS_move l E σ τ q a1 a2 ) (by decide +kernel) wd_544 wd_395 wd_545 wd_546 ⟨rfl, rfl⟩ rfl rfl hl hR hs8 d k
set_option maxRecDepth 100000 in
set_option maxHeartbeats 400000 in
theorem c_PS_doWithRegisters (l : Launch) (E : Ev) (σ τ : St) (q : Int64) (a1 : Int32) (a2 : Int32) (a3 : Int32)  : MF l y_PS_doWithRegisters prog_1_method_18_code 4 none { frames := 6, cells := 0, slots := 0, locals := 156 } E [.ref 0, .int a1, .int a2, .int a3] (σ, τ, q) none ((f_PS_doWithRegisters σ a1 a2 a3), τ, q) := by
  refine MF_intro (lv0 := [(0, .ref 0), (1, .int a1), (2, .int a2), (3, .int a3)]) (by decide) wd_549 (Nat.le_of_ble_eq_true rfl) rfl ?_
  intro p e s m args below meth c Q hC hr hk hQ
  replace hC : Cx p s m args c prog_1_method_18_code 4 "PartnerStack" E := hC
  refine wi_iload_n hC 1 d_PS_doWithRegisters_0 rfl rfl ?_
  obtain ⟨Tt1, eTt1⟩ : ∃ y : St, y = (
          if a1 = 0 then
            let s1 : St := f_PS_need σ 0 12
            let s2 : St := f_PS_need s1 a3 13
            let t2 : Bool := 
                if a2 = 3 then
                  true
                else
                  false
            let s3 : St := f_PS_combine s2 a2 0 (bI t2)
            s3
          else
            if a1 = 1 then
              σ
            else
              if a1 = 2 then
                σ
              else
                if a1 = 3 then
                  let s4 : St := f_PS_doWithControl σ a3
                  s4
                else
                  if a1 = 4 then
                    let s5 : St := f_PS_need σ 0 12
                    let s6 : St := f_PS_need s5 a3 13
                    let s7 : St := f_PS_combine s6 a2 a3 0
                    s7
                  else
                    if a1 = 5 then
                      let s8 : St := f_PS_move σ a2 a3
                      s8
                    else
                      if a1 = 6 then
                        let s9 : St := f_PS_need σ 0 12
                        let s10 : St := f_PS_need s9 a3 13
                        let t3 : Int32 := 
                            if a2 = 3 then
                              2
                            else
                              1
                        let s11 : St := f_PS_combine s10 a2 a3 t3
                        s11
                      else
                        σ) := ⟨_, rfl⟩
  have Jt1 : ∀ (t1 : St), Tt1 = t1 → WS p l e { frames := 6, cells := 0, slots := 0, locals := 156 } s m args below meth c Q E 4 163 [(0, .ref 0), (1, .int a1), (2, .int a2), (3, .int a3)] [] (t1, τ, q) := by
    intro t1  e_t1
    rw [eTt1] at e_t1
    have hf : f_PS_doWithRegisters σ a1 a2 a3 = t1 := by subst e_t1; exact rfl
    exact wi_vret hC hr hk d_PS_doWithRegisters_163 rfl (congrArg (fun z => (z, τ, q)) hf).symm hQ
  refine wi_by (a1 = 0) (fun h1 => ?_) (fun h1 => ?_)
  · skip
    refine wi_tsIn hC 0 44 d_PS_doWithRegisters_1 (by rw [h1]; decide) (by decide) rfl (by decide) ?_
    refine wi_aload_n hC 0 d_PS_doWithRegisters_44 rfl rfl ?_
    refine wi_iconst hC 0 (by decide) d_PS_doWithRegisters_45 ?_
    refine wi_aload_n hC 0 d_PS_doWithRegisters_46 rfl rfl ?_
    refine wg_PS_left hC wd_459 d_PS_doWithRegisters_47 ?_
    refine k_PS_need hC (by unfold isReal; decide) wd_485 (by decide) (Nat.le_of_ble_eq_true rfl) d_PS_doWithRegisters_50 ?_
    refine wi_nmC (fun s1 e_s1 => ?_)
    refine wi_aload_n hC 0 d_PS_doWithRegisters_53 rfl rfl ?_
    refine wi_iload_n hC 3 d_PS_doWithRegisters_54 rfl rfl ?_
    refine wi_aload_n hC 0 d_PS_doWithRegisters_55 rfl rfl ?_
    refine wg_PS_right hC wd_460 d_PS_doWithRegisters_56 ?_
    refine k_PS_need hC (by unfold isReal; decide) wd_485 (by decide) (Nat.le_of_ble_eq_true rfl) d_PS_doWithRegisters_59 ?_
    refine wi_nmC (fun s2 e_s2 => ?_)
    refine wi_aload_n hC 0 d_PS_doWithRegisters_62 rfl rfl ?_
    refine wi_iload_n hC 2 d_PS_doWithRegisters_63 rfl rfl ?_
    refine wi_iconst hC 0 (by decide) d_PS_doWithRegisters_64 ?_
    refine wi_iload_n hC 2 d_PS_doWithRegisters_65 rfl rfl ?_
    refine wi_iconst hC 3 (by decide) d_PS_doWithRegisters_66 ?_
    obtain ⟨Tt2, eTt2⟩ : ∃ y : Bool, y = (
            if a2 = 3 then
              true
            else
              false) := ⟨_, rfl⟩
    have Jt2 : ∀ (t2 : Bool), Tt2 = t2 → WS p l e { frames := 6, cells := 0, slots := 0, locals := 156 } s m args below meth c Q E 4 75 [(0, .ref 0), (1, .int a1), (2, .int a2), (3, .int a3)] [.int (bI t2), .int 0, .int a2, .ref 0] (s2, τ, q) := by
      intro t2  e_t2
      rw [eTt2] at e_t2
      refine k_PS_combine hC  wd_494 (by decide) (Nat.le_of_ble_eq_true rfl) d_PS_doWithRegisters_75 ?_
      refine wi_nmC (fun s3 e_s3 => ?_)
      refine wi_goto hC 163 d_PS_doWithRegisters_78 (by decide) ?_
      exact Jt1 s3 (by subst e_s3; subst e_t2; subst e_s2; subst e_s1; exact (Eq.trans eTt1 (if_pos h1)))
    refine wi_icmp_ne hC 74 d_PS_doWithRegisters_67 (by decide) (fun h2 => ?_) (fun h2 => ?_)
    · skip
      refine wi_iconst hC 0 (by decide) d_PS_doWithRegisters_74 ?_
      exact Jt2 false (by exact (Eq.trans eTt2 (if_neg h2)))
    · skip
      refine wi_iconst hC 1 (by decide) d_PS_doWithRegisters_70 ?_
      refine wi_goto hC 75 d_PS_doWithRegisters_71 (by decide) ?_
      exact Jt2 true (by exact (Eq.trans eTt2 (if_pos h2)))
  · skip
    refine wi_by (a1 = 1) (fun h3 => ?_) (fun h3 => ?_)
    · skip
      refine wi_tsIn hC 1 163 d_PS_doWithRegisters_1 (by rw [h3]; decide) (by decide) rfl (by decide) ?_
      exact Jt1 σ (by exact (Eq.trans eTt1 (Eq.trans (if_neg h1) (if_pos h3))))
    · skip
      refine wi_by (a1 = 2) (fun h4 => ?_) (fun h4 => ?_)
      · skip
        refine wi_tsIn hC 2 163 d_PS_doWithRegisters_1 (by rw [h4]; decide) (by decide) rfl (by decide) ?_
        exact Jt1 σ (by exact (Eq.trans eTt1 (Eq.trans (if_neg h1) (Eq.trans (if_neg h3) (if_pos h4)))))
      · skip
        refine wi_by (a1 = 3) (fun h5 => ?_) (fun h5 => ?_)
        · skip
          refine wi_tsIn hC 3 81 d_PS_doWithRegisters_1 (by rw [h5]; decide) (by decide) rfl (by decide) ?_
          refine wi_aload_n hC 0 d_PS_doWithRegisters_81 rfl rfl ?_
          refine wi_iload_n hC 3 d_PS_doWithRegisters_82 rfl rfl ?_
          refine k_PS_doWithControl hC  wd_547 (by decide) (Nat.le_of_ble_eq_true rfl) d_PS_doWithRegisters_83 ?_
          refine wi_nmC (fun s4 e_s4 => ?_)
          refine wi_goto hC 163 d_PS_doWithRegisters_86 (by decide) ?_
          exact Jt1 s4 (by subst e_s4; exact (Eq.trans eTt1 (Eq.trans (if_neg h1) (Eq.trans (if_neg h3) (Eq.trans (if_neg h4) (if_pos h5))))))
        · skip
          refine wi_by (a1 = 4) (fun h6 => ?_) (fun h6 => ?_)
          · skip
            refine wi_tsIn hC 4 89 d_PS_doWithRegisters_1 (by rw [h6]; decide) (by decide) rfl (by decide) ?_
            refine wi_aload_n hC 0 d_PS_doWithRegisters_89 rfl rfl ?_
            refine wi_iconst hC 0 (by decide) d_PS_doWithRegisters_90 ?_
            refine wi_aload_n hC 0 d_PS_doWithRegisters_91 rfl rfl ?_
            refine wg_PS_left hC wd_459 d_PS_doWithRegisters_92 ?_
            refine k_PS_need hC (by unfold isReal; decide) wd_485 (by decide) (Nat.le_of_ble_eq_true rfl) d_PS_doWithRegisters_95 ?_
            refine wi_nmC (fun s5 e_s5 => ?_)
            refine wi_aload_n hC 0 d_PS_doWithRegisters_98 rfl rfl ?_
            refine wi_iload_n hC 3 d_PS_doWithRegisters_99 rfl rfl ?_
            refine wi_aload_n hC 0 d_PS_doWithRegisters_100 rfl rfl ?_
            refine wg_PS_right hC wd_460 d_PS_doWithRegisters_101 ?_
            refine k_PS_need hC (by unfold isReal; decide) wd_485 (by decide) (Nat.le_of_ble_eq_true rfl) d_PS_doWithRegisters_104 ?_
            refine wi_nmC (fun s6 e_s6 => ?_)
            refine wi_aload_n hC 0 d_PS_doWithRegisters_107 rfl rfl ?_
            refine wi_iload_n hC 2 d_PS_doWithRegisters_108 rfl rfl ?_
            refine wi_iload_n hC 3 d_PS_doWithRegisters_109 rfl rfl ?_
            refine wi_iconst hC 0 (by decide) d_PS_doWithRegisters_110 ?_
            refine k_PS_combine hC  wd_494 (by decide) (Nat.le_of_ble_eq_true rfl) d_PS_doWithRegisters_111 ?_
            refine wi_nmC (fun s7 e_s7 => ?_)
            refine wi_goto hC 163 d_PS_doWithRegisters_114 (by decide) ?_
            exact Jt1 s7 (by subst e_s7; subst e_s6; subst e_s5; exact (Eq.trans eTt1 (Eq.trans (if_neg h1) (Eq.trans (if_neg h3) (Eq.trans (if_neg h4) (Eq.trans (if_neg h5) (if_pos h6)))))))
          · skip
            refine wi_by (a1 = 5) (fun h7 => ?_) (fun h7 => ?_)
            · skip
              refine wi_tsIn hC 5 117 d_PS_doWithRegisters_1 (by rw [h7]; decide) (by decide) rfl (by decide) ?_
              refine wi_aload_n hC 0 d_PS_doWithRegisters_117 rfl rfl ?_
              refine wi_iload_n hC 2 d_PS_doWithRegisters_118 rfl rfl ?_
              refine wi_iload_n hC 3 d_PS_doWithRegisters_119 rfl rfl ?_
              refine k_PS_move hC  wd_548 (by decide) (Nat.le_of_ble_eq_true rfl) d_PS_doWithRegisters_120 ?_
              refine wi_nmC (fun s8 e_s8 => ?_)
              refine wi_goto hC 163 d_PS_doWithRegisters_123 (by decide) ?_
              exact Jt1 s8 (by subst e_s8; exact (Eq.trans eTt1 (Eq.trans (if_neg h1) (Eq.trans (if_neg h3) (Eq.trans (if_neg h4) (Eq.trans (if_neg h5) (Eq.trans (if_neg h6) (if_pos h7))))))))
            · skip
              refine wi_by (a1 = 6) (fun h8 => ?_) (fun h8 => ?_)
              · skip
                refine wi_tsIn hC 6 126 d_PS_doWithRegisters_1 (by rw [h8]; decide) (by decide) rfl (by decide) ?_
                refine wi_aload_n hC 0 d_PS_doWithRegisters_126 rfl rfl ?_
                refine wi_iconst hC 0 (by decide) d_PS_doWithRegisters_127 ?_
                refine wi_aload_n hC 0 d_PS_doWithRegisters_128 rfl rfl ?_
                refine wg_PS_left hC wd_459 d_PS_doWithRegisters_129 ?_
                refine k_PS_need hC (by unfold isReal; decide) wd_485 (by decide) (Nat.le_of_ble_eq_true rfl) d_PS_doWithRegisters_132 ?_
                refine wi_nmC (fun s9 e_s9 => ?_)
                refine wi_aload_n hC 0 d_PS_doWithRegisters_135 rfl rfl ?_
                refine wi_iload_n hC 3 d_PS_doWithRegisters_136 rfl rfl ?_
                refine wi_aload_n hC 0 d_PS_doWithRegisters_137 rfl rfl ?_
                refine wg_PS_right hC wd_460 d_PS_doWithRegisters_138 ?_
                refine k_PS_need hC (by unfold isReal; decide) wd_485 (by decide) (Nat.le_of_ble_eq_true rfl) d_PS_doWithRegisters_141 ?_
                refine wi_nmC (fun s10 e_s10 => ?_)
                refine wi_aload_n hC 0 d_PS_doWithRegisters_144 rfl rfl ?_
                refine wi_iload_n hC 2 d_PS_doWithRegisters_145 rfl rfl ?_
                refine wi_iload_n hC 3 d_PS_doWithRegisters_146 rfl rfl ?_
                refine wi_iload_n hC 2 d_PS_doWithRegisters_147 rfl rfl ?_
                refine wi_iconst hC 3 (by decide) d_PS_doWithRegisters_148 ?_
                obtain ⟨Tt3, eTt3⟩ : ∃ y : Int32, y = (
                        if a2 = 3 then
                          2
                        else
                          1) := ⟨_, rfl⟩
                have Jt3 : ∀ (t3 : Int32), Tt3 = t3 → WS p l e { frames := 6, cells := 0, slots := 0, locals := 156 } s m args below meth c Q E 4 157 [(0, .ref 0), (1, .int a1), (2, .int a2), (3, .int a3)] [.int t3, .int a3, .int a2, .ref 0] (s10, τ, q) := by
                  intro t3  e_t3
                  rw [eTt3] at e_t3
                  refine k_PS_combine hC  wd_494 (by decide) (Nat.le_of_ble_eq_true rfl) d_PS_doWithRegisters_157 ?_
                  refine wi_nmC (fun s11 e_s11 => ?_)
                  refine wi_goto hC 163 d_PS_doWithRegisters_160 (by decide) ?_
                  exact Jt1 s11 (by subst e_s11; subst e_t3; subst e_s10; subst e_s9; exact (Eq.trans eTt1 (Eq.trans (if_neg h1) (Eq.trans (if_neg h3) (Eq.trans (if_neg h4) (Eq.trans (if_neg h5) (Eq.trans (if_neg h6) (Eq.trans (if_neg h7) (if_pos h8)))))))))
                refine wi_icmp_ne hC 156 d_PS_doWithRegisters_149 (by decide) (fun h9 => ?_) (fun h9 => ?_)
                · skip
                  refine wi_iconst hC 1 (by decide) d_PS_doWithRegisters_156 ?_
                  exact Jt3 1 (by exact (Eq.trans eTt3 (if_neg h9)))
                · skip
                  refine wi_iconst hC 2 (by decide) d_PS_doWithRegisters_152 ?_
                  refine wi_goto hC 157 d_PS_doWithRegisters_153 (by decide) ?_
                  exact Jt3 2 (by exact (Eq.trans eTt3 (if_pos h9)))
              · skip
                refine wi_tsOut hC 163 d_PS_doWithRegisters_1 (by have q0 := lv_neT h1 (a := 0) (by decide); have q1 := lv_neT h3 (a := 1) (by decide); have q2 := lv_neT h4 (a := 2) (by decide); have q3 := lv_neT h5 (a := 3) (by decide); have q4 := lv_neT h6 (a := 4) (by decide); have q5 := lv_neT h7 (a := 5) (by decide); have q6 := lv_neT h8 (a := 6) (by decide); omega) (by decide) ?_
                exact Jt1 σ (by exact (Eq.trans eTt1 (Eq.trans (if_neg h1) (Eq.trans (if_neg h3) (Eq.trans (if_neg h4) (Eq.trans (if_neg h5) (Eq.trans (if_neg h6) (Eq.trans (if_neg h7) (if_neg h8)))))))))
theorem k_PS_doWithRegisters {p : Program} {l : Launch} {e : Env} {R : Room} {s : State} {m : MethodId} {args : Array Value} {below : List Frame} {meth : Method} {c : Code} {Q : State → Prop} {E : Ev} {nL pc index : Nat} {lv : List (Nat × Value)} {rest : List Value} {cc : ByteArray} {own : String} {σ τ : St} {q : Int64} {a1 : Int32} {a2 : Int32} {a3 : Int32} (hC : Cx p s m args c cc nL own E)   (hl : Cond.methodLink own index y_PS_doWithRegisters ∈ WL) (hR : 6 + 1 ≤ R.frames ∧ 8 + (4 + 11) + 156 ≤ R.locals) (hs8 : (rest.map fun v => v.category).sum ≤ 8) (d : decode cc pc = .ok (.invokevirtual index, 3)) (k : WS p l e R s m args below meth c Q E nL (pc + 3) lv rest ((f_PS_doWithRegisters σ a1 a2 a3), τ, q)) : WS p l e R s m args below meth c Q E nL pc lv (.int a3 :: .int a2 :: .int a1 :: .ref 0 :: rest) (σ, τ, q) := by
  exact wi_callV hC (n := 3) (vs := [.int a1, .int a2, .int a3]) (rest := rest) 0 0 (by decide) rfl rfl rfl (c_PS_doWithRegisters l E σ τ q a1 a2 a3 ) (by decide +kernel) wd_549 wd_395 wd_550 wd_551 ⟨rfl, rfl⟩ rfl rfl hl hR hs8 d k
set_option maxRecDepth 100000 in
set_option maxHeartbeats 400000 in
theorem c_PS_keepsPointers (l : Launch) (E : Ev) (σ τ : St) (q : Int64) (a1 : Int32) (a2 : Int32)  : MF l y_PS_keepsPointers prog_1_method_11_code 2 (some .boolean) { frames := 0, cells := 0, slots := 0, locals := 0 } E [.int a1, .int a2] (σ, τ, q) (some (.int (bI (f_PS_keepsPointers a1 a2)))) (σ, τ, q) := by
  refine MF_intro (lv0 := [(0, .int a1), (1, .int a2)]) (by decide) wd_552 (Nat.le_of_ble_eq_true rfl) rfl ?_
  intro p e s m args below meth c Q hC hr hk hQ
  replace hC : Cx p s m args c prog_1_method_11_code 2 "PartnerStack" E := hC
  refine wi_iload_n hC 1 d_PS_keepsPointers_0 rfl rfl ?_
  refine wi_sipush hC 192 (by decide) d_PS_keepsPointers_1 ?_
  refine wi_icmp_lt hC 18 d_PS_keepsPointers_4 (by decide) (fun h1 => ?_) (fun h1 => ?_)
  · skip
    refine wi_iload_n hC 0 d_PS_keepsPointers_18 rfl rfl ?_
    refine wi_iconst hC 1 (by decide) d_PS_keepsPointers_19 ?_
    obtain ⟨Tt1, eTt1⟩ : ∃ y : Bool, y = (
            if a1 = 1 then
              f_PS_keepsPointers_b28 a2
            else
              if a1 = 5 then
                f_PS_keepsPointers_b28 a2
              else
                true) := ⟨_, rfl⟩
    have Jt1 : ∀ (t1 : Bool), Tt1 = t1 → WS p l e { frames := 0, cells := 0, slots := 0, locals := 0 } s m args below meth c Q E 2 43 [(0, .int a1), (1, .int a2)] [.int (bI t1)] (σ, τ, q) := by
      intro t1  e_t1
      rw [eTt1] at e_t1
      have hf : f_PS_keepsPointers a1 a2 = t1 := by subst e_t1; exact (if_pos h1)
      exact wi_zret hC hr hk d_PS_keepsPointers_43 rfl (congrArg (fun z => some (Value.int (bI z))) hf) rfl hQ
    have B1 : Tt1 = f_PS_keepsPointers_b28 a2 → WS p l e { frames := 0, cells := 0, slots := 0, locals := 0 } s m args below meth c Q E 2 28 [(0, .int a1), (1, .int a2)] [] (σ, τ, q) := by
      intro hB1
      refine wi_iload_n hC 1 d_PS_keepsPointers_28 rfl rfl ?_
      refine wi_iconst hC 3 (by decide) d_PS_keepsPointers_29 ?_
      refine wi_ishr hC d_PS_keepsPointers_30 ?_
      refine wi_bipush hC 7 (by decide) d_PS_keepsPointers_31 ?_
      refine wi_iand hC d_PS_keepsPointers_33 ?_
      refine wi_iconst hC 4 (by decide) d_PS_keepsPointers_34 ?_
      refine wi_icmp_ge hC 42 d_PS_keepsPointers_35 (by decide) (fun h4 => ?_) (fun h4 => ?_)
      · skip
        refine wi_iconst hC 0 (by decide) d_PS_keepsPointers_42 ?_
        exact Jt1 false (by exact (Eq.trans hB1 (if_pos h4)))
      · skip
        refine wi_iconst hC 1 (by decide) d_PS_keepsPointers_38 ?_
        refine wi_goto hC 43 d_PS_keepsPointers_39 (by decide) ?_
        exact Jt1 true (by exact (Eq.trans hB1 (if_neg h4)))
    refine wi_icmp_eq hC 28 d_PS_keepsPointers_20 (by decide) (fun h2 => ?_) (fun h2 => ?_)
    · skip
      exact B1   (by exact (Eq.trans eTt1 (if_pos h2)))
    · skip
      refine wi_iload_n hC 0 d_PS_keepsPointers_23 rfl rfl ?_
      refine wi_iconst hC 5 (by decide) d_PS_keepsPointers_24 ?_
      refine wi_icmp_ne hC 38 d_PS_keepsPointers_25 (by decide) (fun h3 => ?_) (fun h3 => ?_)
      · skip
        refine wi_iconst hC 1 (by decide) d_PS_keepsPointers_38 ?_
        refine wi_goto hC 43 d_PS_keepsPointers_39 (by decide) ?_
        exact Jt1 true (by exact (Eq.trans eTt1 (Eq.trans (if_neg h2) (if_neg h3))))
      · skip
        exact B1   (by exact (Eq.trans eTt1 (Eq.trans (if_neg h2) (if_pos h3))))
  · skip
    refine wi_iload_n hC 0 d_PS_keepsPointers_7 rfl rfl ?_
    refine wi_iconst hC 3 (by decide) d_PS_keepsPointers_8 ?_
    obtain ⟨Tt2, eTt2⟩ : ∃ y : Bool, y = (
            if a1 = 3 then
              false
            else
              true) := ⟨_, rfl⟩
    have Jt2 : ∀ (t2 : Bool), Tt2 = t2 → WS p l e { frames := 0, cells := 0, slots := 0, locals := 0 } s m args below meth c Q E 2 17 [(0, .int a1), (1, .int a2)] [.int (bI t2)] (σ, τ, q) := by
      intro t2  e_t2
      rw [eTt2] at e_t2
      have hf : f_PS_keepsPointers a1 a2 = t2 := by subst e_t2; exact (if_neg h1)
      exact wi_zret hC hr hk d_PS_keepsPointers_17 rfl (congrArg (fun z => some (Value.int (bI z))) hf) rfl hQ
    refine wi_icmp_eq hC 16 d_PS_keepsPointers_9 (by decide) (fun h5 => ?_) (fun h5 => ?_)
    · skip
      refine wi_iconst hC 0 (by decide) d_PS_keepsPointers_16 ?_
      exact Jt2 false (by exact (Eq.trans eTt2 (if_pos h5)))
    · skip
      refine wi_iconst hC 1 (by decide) d_PS_keepsPointers_12 ?_
      refine wi_goto hC 17 d_PS_keepsPointers_13 (by decide) ?_
      exact Jt2 true (by exact (Eq.trans eTt2 (if_neg h5)))
theorem k_PS_keepsPointers {p : Program} {l : Launch} {e : Env} {R : Room} {s : State} {m : MethodId} {args : Array Value} {below : List Frame} {meth : Method} {c : Code} {Q : State → Prop} {E : Ev} {nL pc index : Nat} {lv : List (Nat × Value)} {rest : List Value} {cc : ByteArray} {own : String} {σ τ : St} {q : Int64} {a1 : Int32} {a2 : Int32} (hC : Cx p s m args c cc nL own E)   (hl : Cond.methodLink own index y_PS_keepsPointers ∈ WL) (hR : 0 + 1 ≤ R.frames ∧ 8 + (2 + 11) + 0 ≤ R.locals) (hs8 : (rest.map fun v => v.category).sum ≤ 8) (d : decode cc pc = .ok (.invokestatic index, 3)) (k : WS p l e R s m args below meth c Q E nL (pc + 3) lv ((.int (bI (f_PS_keepsPointers a1 a2))) :: rest) (σ, τ, q)) : WS p l e R s m args below meth c Q E nL pc lv (.int a2 :: .int a1 :: rest) (σ, τ, q) := by
  exact wi_callS hC (n := 2) (vs := [.int a1, .int a2]) (rest := rest) (c_PS_keepsPointers l E σ τ q a1 a2 ) (by decide +kernel) wd_552 wd_395 wd_553 ⟨rfl, rfl⟩ rfl rfl hl hR hs8 d k
